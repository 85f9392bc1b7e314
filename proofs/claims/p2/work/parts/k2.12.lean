set_option maxRecDepth 20000 in
set_option maxHeartbeats 4000000 in
theorem k_X23_checkMoves (l : Launch) (D : va_G) (K : Ky) (m9 : Nat) (mr : Nat → Nat) (S0 Sf : Sg) (x1 : Option Nat) (rf : Unit) (h : f_checkMoves K S0 x1 = some (Sf, rf)) : CT l D K m9 mr yX23_checkMoves (Cond.code yX23_checkMoves cX23_checkMoves 4 none) (85) (2036) S0 Sf [.ref m9, va_rf x1] none := by
  refine x_start (cc := cX23_checkMoves) (lv := [(0, .ref m9), (1, va_rf x1)]) rfl rfl (by decide) (by simp [lv_args, cat_rf, cat_i, cat_l, cat_a]) (by simp [lg_sl, cat_rf, cat_i, cat_l, cat_a]) (fun p e R s m args below meth c Q A C => ?_)
  have j_74 : ∀ (S : Sg), f_checkMoves_74 K S = some (Sf, rf) → WX p l e R s m args below meth c Q D A K m9 mr 4 S0 S 74 [] [] := by
    intro S h
    unfold f_checkMoves_74 at h
    exact x_vret C rfl rfl eX23_checkMoves_74 h
  have j_12 : ∀ (n_12 : Nat) (S : Sg) (x1 : Option Nat) (x2 : Int32) (x3 : Int32), f_checkMoves_12 K n_12 S x1 x2 x3 = some (Sf, rf) → WX p l e R s m args below meth c Q D A K m9 mr 4 S0 S 12 [(0, .ref m9), (1, va_rf x1), (2, .int x2), (3, .int x3)] [] := by
    intro n_12
    induction n_12 with
    | zero => intro S x1 x2 x3 h; unfold f_checkMoves_12 at h; cases h
    | succ n_12 ih_12 =>
      intro S x1 x2 x3 h
      have j_58 : ∀ (S : Sg) (x1 : Option Nat) (x2 : Int32) (x3 : Int32), f_checkMoves_58 K (f_checkMoves_12 K n_12) S x1 x2 x3 = some (Sf, rf) → WX p l e R s m args below meth c Q D A K m9 mr 4 S0 S 58 [(0, .ref m9), (1, va_rf x1), (2, .int x2), (3, .int x3)] [] := by
        intro S x1 x2 x3 h
        unfold f_checkMoves_58 at h
        refine x_iinc (j := 3) (v := 1) (lv2 := [(0, .ref m9), (1, va_rf x1), (2, .int x2)]) C eX23_checkMoves_58 rfl (by decide) (by decide) rfl (oky rfl (oky (cat_rf x1) (oky rfl ok0))) ?_
        refine x_goto (tgt := 12) C eX23_checkMoves_61 (by decide) ?_
        refine x_sub [1, 2, 3, 0] rfl ?_
        exact ih_12 S x1 x2 (x3 + 1) h
      have j_51 : ∀ (S : Sg) (x1 : Option Nat) (x3 : Int32), f_checkMoves_51 K (f_checkMoves_12 K n_12) S x1 x3 = some (Sf, rf) → WX p l e R s m args below meth c Q D A K m9 mr 4 S0 S 51 [(0, .ref m9), (1, va_rf x1), (3, .int x3)] [] := by
        intro S x1 x3 h
        unfold f_checkMoves_51 at h
        refine x_tload_n C eX23_checkMoves_51 rfl 0 rfl ?_
        refine x_mV (k9 := 32) C (by decide) ww_486 eX23_checkMoves_52 rfl ?_
        refine x_iload_n C eX23_checkMoves_55 rfl 2 rfl ?_
        refine x_rI (r := 32) C (by decide) rfl eX23_checkMoves_56 h (fun v11 h => ?_)
        refine x_istore_n (lv2 := [(0, .ref m9), (1, va_rf x1), (3, .int x3)]) C eX23_checkMoves_57 rfl (by decide) rfl (oky rfl (oky (cat_rf x1) (oky rfl ok0))) ?_
        refine x_sub [1, 2, 0, 3] rfl ?_
        exact j_58 S x1 v11 x3 h
      unfold f_checkMoves_12 at h
      refine x_iload_n C eX23_checkMoves_12 rfl 3 rfl ?_
      refine x_aload_n C eX23_checkMoves_13 rfl 1 rfl ?_
      refine x_gI (o9 := x1) (ci := 16) (k9 := 4) (Cn := RX16) (T := TX16) (N := 22) C rfl wt_X16 (by decide) ww_634 eX23_checkMoves_14 h (fun v4 h => ?_)
      refine x_ic_ge (tgt := 64) C eX23_checkMoves_17 (by decide) h (fun h => ?_) (fun h => ?_)
      · refine x_iload_n C eX23_checkMoves_64 rfl 2 rfl ?_
        refine x_if_lt (tgt := 74) C eX23_checkMoves_65 (by decide) h (fun h => ?_) (fun h => ?_)
        · refine x_sub [] rfl ?_
          exact j_74 S h
        · refine x_tload_n C eX23_checkMoves_68 rfl 0 rfl ?_
          refine x_iconst (v := 5) C eX23_checkMoves_69 (by decide) ?_
          refine x_iload_n C eX23_checkMoves_70 rfl 2 rfl ?_
          refine x_cVv (As := [.int 5, .int x2]) (st := []) (n := 2) (frc := 1) (loc := 20) C h (fun S9 r9 e9 => k_X23_fail l D K m9 mr _ S9 5 x2 r9 e9) ww_2 ww_20 ww_21 ww_22 ww_16 (by decide +kernel) rfl ⟨by omega, by omega⟩ (Nat.le_of_ble_eq_true rfl) eX23_checkMoves_71 (fun S5 v6 h => ?_)
          refine x_sub [] rfl ?_
          exact j_74 S5 h
      · refine x_tload_n C eX23_checkMoves_20 rfl 0 rfl ?_
        refine x_mV (k9 := 52) C (by decide) ww_637 eX23_checkMoves_21 rfl ?_
        refine x_iload_n C eX23_checkMoves_24 rfl 3 rfl ?_
        refine x_rZ (r := 52) C (by decide) rfl eX23_checkMoves_25 h (fun v7 h => ?_)
        refine x_if_eq (tgt := 58) C eX23_checkMoves_26 (by decide) h (fun h => ?_) (fun h => ?_)
        · refine x_sub [0, 1, 2, 3] rfl ?_
          exact j_58 S x1 x2 x3 h
        · refine x_tload_n C eX23_checkMoves_29 rfl 0 rfl ?_
          refine x_iload_n C eX23_checkMoves_30 rfl 3 rfl ?_
          refine x_cVi (As := [.int x3]) (st := []) (n := 1) (frc := 83) (loc := 1990) C h (fun S9 r9 e9 => k_X23_moveWrong l D K m9 mr _ S9 x3 r9 e9) ww_678 ww_686 ww_687 ww_688 ww_16 (by decide +kernel) rfl ⟨by omega, by omega⟩ (Nat.le_of_ble_eq_true rfl) eX23_checkMoves_31 (fun S8 v9 h => ?_)
          refine x_if_eq (tgt := 58) C eX23_checkMoves_34 (by decide) h (fun h => ?_) (fun h => ?_)
          · refine x_sub [0, 1, 2, 3] rfl ?_
            exact j_58 S8 x1 x2 x3 h
          · refine x_iload_n C eX23_checkMoves_37 rfl 2 rfl ?_
            refine x_if_lt (tgt := 51) C eX23_checkMoves_38 (by decide) h (fun h => ?_) (fun h => ?_)
            · refine x_sub [0, 1, 3] rfl ?_
              exact j_51 S8 x1 x3 h
            · refine x_tload_n C eX23_checkMoves_41 rfl 0 rfl ?_
              refine x_mV (k9 := 32) C (by decide) ww_486 eX23_checkMoves_42 rfl ?_
              refine x_iload_n C eX23_checkMoves_45 rfl 3 rfl ?_
              refine x_rI (r := 32) C (by decide) rfl eX23_checkMoves_46 h (fun v10 h => ?_)
              refine x_iload_n C eX23_checkMoves_47 rfl 2 rfl ?_
              refine x_ic_ge (tgt := 58) C eX23_checkMoves_48 (by decide) h (fun h => ?_) (fun h => ?_)
              · refine x_sub [0, 1, 2, 3] rfl ?_
                exact j_58 S8 x1 x2 x3 h
              · refine x_sub [0, 1, 3] rfl ?_
                exact j_51 S8 x1 x3 h
  unfold f_checkMoves at h
  refine x_tload_n C eX23_checkMoves_0 rfl 0 rfl ?_
  refine x_aload_n C eX23_checkMoves_1 rfl 1 rfl ?_
  refine x_cVv (As := [va_rf x1]) (st := []) (n := 1) (frc := 84) (loc := 2012) C h (fun S9 r9 e9 => k_X23_spreadMoves l D K m9 mr _ S9 x1 r9 e9) ww_667 ww_683 ww_684 ww_685 ww_16 (by decide +kernel) rfl ⟨by omega, by omega⟩ (Nat.le_of_ble_eq_true rfl) eX23_checkMoves_2 (fun S1 v2 h => ?_)
  refine x_iconst (v := (-1)) C eX23_checkMoves_5 (by decide) ?_
  refine x_istore_n (lv2 := [(0, .ref m9), (1, va_rf x1)]) C eX23_checkMoves_6 rfl (by decide) rfl (oky rfl (oky (cat_rf x1) ok0)) ?_
  refine x_aload_n C eX23_checkMoves_7 rfl 2 rfl ?_
  refine x_gI (o9 := x1) (ci := 16) (k9 := 5) (Cn := RX16) (T := TX16) (N := 22) C rfl wt_X16 (by decide) ww_632 eX23_checkMoves_8 h (fun v3 h => ?_)
  refine x_istore_n (lv2 := [(2, .int (-1)), (0, .ref m9), (1, va_rf x1)]) C eX23_checkMoves_11 rfl (by decide) rfl (oky rfl (oky rfl (oky (cat_rf x1) ok0))) ?_
  refine x_sub [2, 3, 1, 0] rfl ?_
  exact j_12 bigN S1 x1 (-1) v3 h
set_option maxRecDepth 20000 in
set_option maxHeartbeats 4000000 in
theorem k_X23_ahead (l : Launch) (D : va_G) (K : Ky) (m9 : Nat) (mr : Nat → Nat) (S0 Sf : Sg) (x1 : Int32) (rf : Unit) (h : f_ahead K S0 x1 = some (Sf, rf)) : CT l D K m9 mr yX23_ahead (Cond.code yX23_ahead cX23_ahead 3 none) (2) (45) S0 Sf [.ref m9, .int x1] none := by
  refine x_start (cc := cX23_ahead) (lv := [(0, .ref m9), (1, .int x1)]) rfl rfl (by decide) (by simp [lv_args, cat_rf, cat_i, cat_l, cat_a]) (by simp [lg_sl, cat_rf, cat_i, cat_l, cat_a]) (fun p e R s m args below meth c Q A C => ?_)
  have j_98 : ∀ (S : Sg), f_ahead_98 K S = some (Sf, rf) → WX p l e R s m args below meth c Q D A K m9 mr 3 S0 S 98 [] [] := by
    intro S h
    unfold f_ahead_98 at h
    exact x_vret C rfl rfl eX23_ahead_98 h
  have j_55 : ∀ (n_55 : Nat) (S : Sg) (x1 : Int32) (x2 : Int32), f_ahead_55 K n_55 S x1 x2 = some (Sf, rf) → WX p l e R s m args below meth c Q D A K m9 mr 3 S0 S 55 [(0, .ref m9), (1, .int x1), (2, .int x2)] [] := by
    intro n_55
    induction n_55 with
    | zero => intro S x1 x2 h; unfold f_ahead_55 at h; cases h
    | succ n_55 ih_55 =>
      intro S x1 x2 h
      unfold f_ahead_55 at h
      refine x_tload_n C eX23_ahead_55 rfl 0 rfl ?_
      refine x_mV (k9 := 37) C (by decide) ww_495 eX23_ahead_56 rfl ?_
      refine x_iload_n C eX23_ahead_59 rfl 1 rfl ?_
      refine x_rA (r := 37) C (by decide) rfl eX23_ahead_60 h (fun v7 h => ?_)
      refine x_ifnull (tgt := 98) C eX23_ahead_61 (by decide) h (fun h => ?_) (fun h => ?_)
      · refine x_sub [] rfl ?_
        exact j_98 S h
      · refine x_iload_n C eX23_ahead_64 rfl 2 rfl ?_
        refine x_tload_n C eX23_ahead_65 rfl 0 rfl ?_
        refine x_mV (k9 := 37) C (by decide) ww_495 eX23_ahead_66 rfl ?_
        refine x_iload_n C eX23_ahead_69 rfl 1 rfl ?_
        refine x_rA (r := 37) C (by decide) rfl eX23_ahead_70 h (fun v8 h => ?_)
        refine x_aLn (t9 := 0) C rfl eX23_ahead_71 h (fun v9 h => ?_)
        refine x_ic_ge (tgt := 98) C eX23_ahead_72 (by decide) h (fun h => ?_) (fun h => ?_)
        · refine x_sub [] rfl ?_
          exact j_98 S h
        · refine x_tload_n C eX23_ahead_75 rfl 0 rfl ?_
          refine x_mV (k9 := 60) C (by decide) ww_694 eX23_ahead_76 rfl ?_
          refine x_iconst (v := 0) C eX23_ahead_79 (by decide) ?_
          refine x_tload_n C eX23_ahead_80 rfl 0 rfl ?_
          refine x_mV (k9 := 37) C (by decide) ww_495 eX23_ahead_81 rfl ?_
          refine x_iload_n C eX23_ahead_84 rfl 1 rfl ?_
          refine x_rA (r := 37) C (by decide) rfl eX23_ahead_85 h (fun v10 h => ?_)
          refine x_iload_n C eX23_ahead_86 rfl 2 rfl ?_
          refine x_aI C eX23_ahead_87 h (fun v11 h => ?_)
          refine x_iconst (v := 1) C eX23_ahead_88 (by decide) ?_
          refine x_cSv (As := [.ref (mr 60), .int 0, .int v11, .int 1]) (st := []) (n := 4) (frc := 1) (loc := 20) C h (fun S9 r9 e9 => k_X23_put l D K m9 mr _ S9 60 0 v11 1 r9 (by decide) rfl e9) ww_646 ww_653 ww_654 ww_16 (by decide +kernel) rfl ⟨by omega, by omega⟩ (Nat.le_of_ble_eq_true rfl) eX23_ahead_89 (fun S12 v13 h => ?_)
          refine x_iinc (j := 2) (v := 1) (lv2 := [(0, .ref m9), (1, .int x1)]) C eX23_ahead_92 rfl (by decide) (by decide) rfl (oky rfl (oky rfl ok0)) ?_
          refine x_goto (tgt := 55) C eX23_ahead_95 (by decide) ?_
          refine x_sub [1, 2, 0] rfl ?_
          exact ih_55 S12 x1 (x2 + 1) h
  have j_53 : ∀ (S : Sg) (x1 : Int32), f_ahead_53 K S x1 = some (Sf, rf) → WX p l e R s m args below meth c Q D A K m9 mr 3 S0 S 53 [(0, .ref m9), (1, .int x1)] [] := by
    intro S x1 h
    unfold f_ahead_53 at h
    refine x_iconst (v := 0) C eX23_ahead_53 (by decide) ?_
    refine x_istore_n (lv2 := [(0, .ref m9), (1, .int x1)]) C eX23_ahead_54 rfl (by decide) rfl (oky rfl (oky rfl ok0)) ?_
    refine x_sub [1, 2, 0] rfl ?_
    exact j_55 bigN S x1 0 h
  have j_2 : ∀ (n_2 : Nat) (S : Sg) (x1 : Int32) (x2 : Int32), f_ahead_2 K n_2 S x1 x2 = some (Sf, rf) → WX p l e R s m args below meth c Q D A K m9 mr 3 S0 S 2 [(0, .ref m9), (1, .int x1), (2, .int x2)] [] := by
    intro n_2
    induction n_2 with
    | zero => intro S x1 x2 h; unfold f_ahead_2 at h; cases h
    | succ n_2 ih_2 =>
      intro S x1 x2 h
      unfold f_ahead_2 at h
      refine x_iload_n C eX23_ahead_2 rfl 2 rfl ?_
      refine x_iconst (v := 4) C eX23_ahead_3 (by decide) ?_
      refine x_ic_ge (tgt := 29) C eX23_ahead_4 (by decide) h (fun h => ?_) (fun h => ?_)
      · refine x_tload_n C eX23_ahead_29 rfl 0 rfl ?_
        refine x_mV (k9 := 34) C (by decide) ww_492 eX23_ahead_30 rfl ?_
        refine x_iload_n C eX23_ahead_33 rfl 1 rfl ?_
        refine x_rI (r := 34) C (by decide) rfl eX23_ahead_34 h (fun v1 h => ?_)
        refine x_if_lt (tgt := 53) C eX23_ahead_35 (by decide) h (fun h => ?_) (fun h => ?_)
        · refine x_sub [0, 1] rfl ?_
          exact j_53 S x1 h
        · refine x_tload_n C eX23_ahead_38 rfl 0 rfl ?_
          refine x_mV (k9 := 60) C (by decide) ww_694 eX23_ahead_39 rfl ?_
          refine x_iconst (v := 0) C eX23_ahead_42 (by decide) ?_
          refine x_tload_n C eX23_ahead_43 rfl 0 rfl ?_
          refine x_mV (k9 := 34) C (by decide) ww_492 eX23_ahead_44 rfl ?_
          refine x_iload_n C eX23_ahead_47 rfl 1 rfl ?_
          refine x_rI (r := 34) C (by decide) rfl eX23_ahead_48 h (fun v2 h => ?_)
          refine x_iconst (v := 0) C eX23_ahead_49 (by decide) ?_
          refine x_cSv (As := [.ref (mr 60), .int 0, .int v2, .int 0]) (st := []) (n := 4) (frc := 1) (loc := 20) C h (fun S9 r9 e9 => k_X23_put l D K m9 mr _ S9 60 0 v2 0 r9 (by decide) rfl e9) ww_646 ww_653 ww_654 ww_16 (by decide +kernel) rfl ⟨by omega, by omega⟩ (Nat.le_of_ble_eq_true rfl) eX23_ahead_50 (fun S3 v4 h => ?_)
          refine x_sub [0, 1] rfl ?_
          exact j_53 S3 x1 h
      · refine x_tload_n C eX23_ahead_7 rfl 0 rfl ?_
        refine x_mV (k9 := 60) C (by decide) ww_694 eX23_ahead_8 rfl ?_
        refine x_iload_n C eX23_ahead_11 rfl 2 rfl ?_
        refine x_tload_n C eX23_ahead_12 rfl 0 rfl ?_
        refine x_mV (k9 := 58) C (by decide) ww_690 eX23_ahead_13 rfl ?_
        refine x_iconst (v := 4) C eX23_ahead_16 (by decide) ?_
        refine x_iload_n C eX23_ahead_17 rfl 1 rfl ?_
        refine x_imul C eX23_ahead_18 ?_
        refine x_iload_n C eX23_ahead_19 rfl 2 rfl ?_
        refine x_iadd C eX23_ahead_20 ?_
        refine x_rJ (r := 58) C (by decide) rfl eX23_ahead_21 h (fun v5 h => ?_)
        refine x_wJ (r := 60) C (by decide) rfl eX23_ahead_22 h (fun S6 h => ?_)
        refine x_iinc (j := 2) (v := 1) (lv2 := [(0, .ref m9), (1, .int x1)]) C eX23_ahead_23 rfl (by decide) (by decide) rfl (oky rfl (oky rfl ok0)) ?_
        refine x_goto (tgt := 2) C eX23_ahead_26 (by decide) ?_
        refine x_sub [1, 2, 0] rfl ?_
        exact ih_2 S6 x1 (x2 + 1) h
  unfold f_ahead at h
  refine x_iconst (v := 0) C eX23_ahead_0 (by decide) ?_
  refine x_istore_n (lv2 := [(0, .ref m9), (1, .int x1)]) C eX23_ahead_1 rfl (by decide) rfl (oky rfl (oky rfl ok0)) ?_
  refine x_sub [1, 2, 0] rfl ?_
  exact j_2 bigN S0 x1 0 h
set_option maxRecDepth 20000 in
set_option maxHeartbeats 4000000 in
theorem k_X23_spreadLives (l : Launch) (D : va_G) (K : Ky) (m9 : Nat) (mr : Nat → Nat) (S0 Sf : Sg) (x1 : Option Nat) (rf : Unit) (h : f_spreadLives K S0 x1 = some (Sf, rf)) : CT l D K m9 mr yX23_spreadLives (Cond.code yX23_spreadLives cX23_spreadLives 8 none) (3) (67) S0 Sf [.ref m9, va_rf x1] none := by
  refine x_start (cc := cX23_spreadLives) (lv := [(0, .ref m9), (1, va_rf x1)]) rfl rfl (by decide) (by simp [lv_args, cat_rf, cat_i, cat_l, cat_a]) (by simp [lg_sl, cat_rf, cat_i, cat_l, cat_a]) (fun p e R s m args below meth c Q A C => ?_)
  have j_32 : ∀ (n_32 : Nat) (S : Sg) (x1 : Option Nat) (x2 : Int32), f_spreadLives_32 K n_32 S x1 x2 = some (Sf, rf) → WX p l e R s m args below meth c Q D A K m9 mr 8 S0 S 32 [(0, .ref m9), (1, va_rf x1), (2, .int x2)] [] := by
    intro n_32
    induction n_32 with
    | zero => intro S x1 x2 h; unfold f_spreadLives_32 at h; cases h
    | succ n_32 ih_32 =>
      intro S x1 x2 h
      have j_45 : ∀ (n_45 : Nat) (S : Sg) (x1 : Option Nat) (x2 : Int32) (x3 : Int32), f_spreadLives_45 K (f_spreadLives_32 K n_32) n_45 S x1 x2 x3 = some (Sf, rf) → WX p l e R s m args below meth c Q D A K m9 mr 8 S0 S 45 [(0, .ref m9), (1, va_rf x1), (2, .int x2), (3, .int x3)] [] := by
        intro n_45
        induction n_45 with
        | zero => intro S x1 x2 x3 h; unfold f_spreadLives_45 at h; cases h
        | succ n_45 ih_45 =>
          intro S x1 x2 x3 h
          have j_56 : ∀ (n_56 : Nat) (S : Sg) (x1 : Option Nat) (x2 : Int32) (x3 : Int32) (x4 : Int32), f_spreadLives_56 K (f_spreadLives_32 K n_32) (f_spreadLives_45 K (f_spreadLives_32 K n_32) n_45) n_56 S x1 x2 x3 x4 = some (Sf, rf) → WX p l e R s m args below meth c Q D A K m9 mr 8 S0 S 56 [(0, .ref m9), (1, va_rf x1), (2, .int x2), (3, .int x3), (4, .int x4)] [] := by
            intro n_56
            induction n_56 with
            | zero => intro S x1 x2 x3 x4 h; unfold f_spreadLives_56 at h; cases h
            | succ n_56 ih_56 =>
              intro S x1 x2 x3 x4 h
              have j_80 : ∀ (n_80 : Nat) (S : Sg) (x1 : Option Nat) (x2 : Int32) (x3 : Int32) (x4 : Int32) (x5 : Int32), f_spreadLives_80 K (f_spreadLives_32 K n_32) (f_spreadLives_45 K (f_spreadLives_32 K n_32) n_45) (f_spreadLives_56 K (f_spreadLives_32 K n_32) (f_spreadLives_45 K (f_spreadLives_32 K n_32) n_45) n_56) n_80 S x1 x2 x3 x4 x5 = some (Sf, rf) → WX p l e R s m args below meth c Q D A K m9 mr 8 S0 S 80 [(0, .ref m9), (1, va_rf x1), (2, .int x2), (3, .int x3), (4, .int x4), (5, .int x5)] [] := by
                intro n_80
                induction n_80 with
                | zero => intro S x1 x2 x3 x4 x5 h; unfold f_spreadLives_80 at h; cases h
                | succ n_80 ih_80 =>
                  intro S x1 x2 x3 x4 x5 h
                  have j_126 : ∀ (S : Sg) (x1 : Option Nat) (x2 : Int32) (x3 : Int32) (x4 : Int32) (x5 : Int32) (x6 : Int64), f_spreadLives_126 K (f_spreadLives_32 K n_32) (f_spreadLives_45 K (f_spreadLives_32 K n_32) n_45) (f_spreadLives_56 K (f_spreadLives_32 K n_32) (f_spreadLives_45 K (f_spreadLives_32 K n_32) n_45) n_56) (f_spreadLives_80 K (f_spreadLives_32 K n_32) (f_spreadLives_45 K (f_spreadLives_32 K n_32) n_45) (f_spreadLives_56 K (f_spreadLives_32 K n_32) (f_spreadLives_45 K (f_spreadLives_32 K n_32) n_45) n_56) n_80) S x1 x2 x3 x4 x5 x6 = some (Sf, rf) → WX p l e R s m args below meth c Q D A K m9 mr 8 S0 S 126 [(0, .ref m9), (1, va_rf x1), (2, .int x2), (3, .int x3), (4, .int x4), (5, .int x5), (6, .long x6)] [] := by
                    intro S x1 x2 x3 x4 x5 x6 h
                    unfold f_spreadLives_126 at h
                    refine x_tload_n C eX23_spreadLives_126 rfl 0 rfl ?_
                    refine x_mV (k9 := 58) C (by decide) ww_690 eX23_spreadLives_127 rfl ?_
                    refine x_iconst (v := 4) C eX23_spreadLives_130 (by decide) ?_
                    refine x_iload_n C eX23_spreadLives_131 rfl 3 rfl ?_
                    refine x_imul C eX23_spreadLives_132 ?_
                    refine x_iload C eX23_spreadLives_133 5 rfl ?_
                    refine x_iadd C eX23_spreadLives_135 ?_
                    refine x_lload C eX23_spreadLives_136 6 rfl ?_
                    refine x_wJ (r := 58) C (by decide) rfl eX23_spreadLives_138 h (fun S15 h => ?_)
                    refine x_iinc (j := 5) (v := 1) (lv2 := [(0, .ref m9), (1, va_rf x1), (2, .int x2), (3, .int x3), (4, .int x4), (6, .long x6)]) C eX23_spreadLives_139 rfl (by decide) (by decide) rfl (oky rfl (oky (cat_rf x1) (oky rfl (oky rfl (oky rfl (okn (Nat.ne_of_beq_eq_false rfl) ok0)))))) ?_
                    refine x_goto (tgt := 80) C eX23_spreadLives_142 (by decide) ?_
                    refine x_sub [1, 2, 3, 4, 5, 0] rfl ?_
                    exact ih_80 S15 x1 x2 x3 x4 (x5 + 1) h
                  unfold f_spreadLives_80 at h
                  refine x_iload C eX23_spreadLives_80 5 rfl ?_
                  refine x_iconst (v := 4) C eX23_spreadLives_82 (by decide) ?_
                  refine x_ic_ge (tgt := 145) C eX23_spreadLives_83 (by decide) h (fun h => ?_) (fun h => ?_)
                  · refine x_iinc (j := 4) (v := 1) (lv2 := [(0, .ref m9), (1, va_rf x1), (2, .int x2), (3, .int x3), (5, .int x5)]) C eX23_spreadLives_145 rfl (by decide) (by decide) rfl (oky rfl (oky (cat_rf x1) (oky rfl (oky rfl (oky rfl ok0))))) ?_
                    refine x_goto (tgt := 56) C eX23_spreadLives_148 (by decide) ?_
                    refine x_sub [1, 2, 3, 4, 0] rfl ?_
                    exact ih_56 S x1 x2 x3 (x4 + 1) h
                  · refine x_tload_n C eX23_spreadLives_86 rfl 0 rfl ?_
                    refine x_mV (k9 := 58) C (by decide) ww_690 eX23_spreadLives_87 rfl ?_
                    refine x_iconst (v := 4) C eX23_spreadLives_90 (by decide) ?_
                    refine x_iload_n C eX23_spreadLives_91 rfl 3 rfl ?_
                    refine x_imul C eX23_spreadLives_92 ?_
                    refine x_iload C eX23_spreadLives_93 5 rfl ?_
                    refine x_iadd C eX23_spreadLives_95 ?_
                    refine x_rJ (r := 58) C (by decide) rfl eX23_spreadLives_96 h (fun v12 h => ?_)
                    refine x_tload_n C eX23_spreadLives_97 rfl 0 rfl ?_
                    refine x_mV (k9 := 60) C (by decide) ww_694 eX23_spreadLives_98 rfl ?_
                    refine x_iload C eX23_spreadLives_101 5 rfl ?_
                    refine x_rJ (r := 60) C (by decide) rfl eX23_spreadLives_103 h (fun v13 h => ?_)
                    refine x_lor C eX23_spreadLives_104 ?_
                    refine x_lstore (lv2 := [(0, .ref m9), (1, va_rf x1), (2, .int x2), (3, .int x3), (4, .int x4), (5, .int x5)]) C eX23_spreadLives_105 (by decide) rfl (oky rfl (oky (cat_rf x1) (oky rfl (oky rfl (oky rfl (oky rfl ok0)))))) ?_
                    refine x_lload C eX23_spreadLives_107 0 rfl ?_
                    refine x_tload_n C eX23_spreadLives_109 rfl 1 rfl ?_
                    refine x_mV (k9 := 58) C (by decide) ww_690 eX23_spreadLives_110 rfl ?_
                    refine x_iconst (v := 4) C eX23_spreadLives_113 (by decide) ?_
                    refine x_iload_n C eX23_spreadLives_114 rfl 4 rfl ?_
                    refine x_imul C eX23_spreadLives_115 ?_
                    refine x_iload C eX23_spreadLives_116 6 rfl ?_
                    refine x_iadd C eX23_spreadLives_118 ?_
                    refine x_rJ (r := 58) C (by decide) rfl eX23_spreadLives_119 h (fun v14 h => ?_)
                    refine x_lcmp C eX23_spreadLives_120 ?_
                    refine x_if_eq (tgt := 126) C eX23_spreadLives_121 (by decide) h (fun h => ?_) (fun h => ?_)
                    · refine x_sub [1, 2, 3, 4, 5, 6, 0] rfl ?_
                      exact j_126 S x1 x2 x3 x4 x5 (v12 ||| v13) h
                    · refine x_iconst (v := 1) C eX23_spreadLives_124 (by decide) ?_
                      refine x_istore_n (lv2 := [(6, .long (v12 ||| v13)), (0, .ref m9), (1, va_rf x1), (3, .int x3), (4, .int x4), (5, .int x5)]) C eX23_spreadLives_125 rfl (by decide) rfl (okn (Nat.ne_of_beq_eq_false rfl) (oky rfl (oky (cat_rf x1) (oky rfl (oky rfl (oky rfl ok0)))))) ?_
                      refine x_sub [2, 3, 0, 4, 5, 6, 1] rfl ?_
                      exact j_126 S x1 1 x3 x4 x5 (v12 ||| v13) h
              unfold f_spreadLives_56 at h
              refine x_tload_n C eX23_spreadLives_56 rfl 0 rfl ?_
              refine x_iload_n C eX23_spreadLives_57 rfl 3 rfl ?_
              refine x_iload C eX23_spreadLives_58 4 rfl ?_
              refine x_cVi (As := [.int x3, .int x4]) (st := []) (n := 2) (frc := 1) (loc := 20) C h (fun S9 r9 e9 => k_X23_follows l D K m9 mr _ S9 x3 x4 r9 e9) ww_635 ww_638 ww_639 ww_640 ww_16 (by decide +kernel) rfl ⟨by omega, by omega⟩ (Nat.le_of_ble_eq_true rfl) eX23_spreadLives_60 (fun S6 v7 h => ?_)
              refine x_if_lt (tgt := 151) C eX23_spreadLives_63 (by decide) h (fun h => ?_) (fun h => ?_)
              · refine x_iinc (j := 3) (v := (-1)) (lv2 := [(0, .ref m9), (1, va_rf x1), (2, .int x2), (4, .int x4)]) C eX23_spreadLives_151 rfl (by decide) (by decide) rfl (oky rfl (oky (cat_rf x1) (oky rfl (oky rfl ok0)))) ?_
                refine x_goto (tgt := 45) C eX23_spreadLives_154 (by decide) ?_
                refine x_sub [1, 2, 3, 0] rfl ?_
                exact ih_45 S6 x1 x2 (x3 + (-1)) h
              · refine x_tload_n C eX23_spreadLives_66 rfl 0 rfl ?_
                refine x_tload_n C eX23_spreadLives_67 rfl 0 rfl ?_
                refine x_iload_n C eX23_spreadLives_68 rfl 3 rfl ?_
                refine x_iload C eX23_spreadLives_69 4 rfl ?_
                refine x_cVi (As := [.int x3, .int x4]) (st := [.ref m9]) (n := 2) (frc := 1) (loc := 20) C h (fun S9 r9 e9 => k_X23_follows l D K m9 mr _ S9 x3 x4 r9 e9) ww_635 ww_638 ww_639 ww_640 ww_16 (by decide +kernel) rfl ⟨by omega, by omega⟩ (Nat.le_of_ble_eq_true rfl) eX23_spreadLives_71 (fun S8 v9 h => ?_)
                refine x_cVv (As := [.int v9]) (st := []) (n := 1) (frc := 2) (loc := 45) C h (fun S9 r9 e9 => k_X23_ahead l D K m9 mr _ S9 v9 r9 e9) ww_695 ww_691 ww_692 ww_693 ww_16 (by decide +kernel) rfl ⟨by omega, by omega⟩ (Nat.le_of_ble_eq_true rfl) eX23_spreadLives_74 (fun S10 v11 h => ?_)
                refine x_iconst (v := 0) C eX23_spreadLives_77 (by decide) ?_
                refine x_istore (lv2 := [(0, .ref m9), (1, va_rf x1), (2, .int x2), (3, .int x3), (4, .int x4)]) C eX23_spreadLives_78 (by decide) rfl (oky rfl (oky (cat_rf x1) (oky rfl (oky rfl (oky rfl ok0))))) ?_
                refine x_sub [1, 2, 3, 4, 5, 0] rfl ?_
                exact j_80 bigN S10 x1 x2 x3 x4 0 h
          unfold f_spreadLives_45 at h
          refine x_iload_n C eX23_spreadLives_45 rfl 3 rfl ?_
          refine x_aload_n C eX23_spreadLives_46 rfl 1 rfl ?_
          refine x_gI (o9 := x1) (ci := 16) (k9 := 5) (Cn := RX16) (T := TX16) (N := 22) C rfl wt_X16 (by decide) ww_632 eX23_spreadLives_47 h (fun v5 h => ?_)
          refine x_ic_lt (tgt := 157) C eX23_spreadLives_50 (by decide) h (fun h => ?_) (fun h => ?_)
          · refine x_goto (tgt := 32) C eX23_spreadLives_157 (by decide) ?_
            refine x_sub [0, 1, 2] rfl ?_
            exact ih_32 S x1 x2 h
          · refine x_iconst (v := 0) C eX23_spreadLives_53 (by decide) ?_
            refine x_istore (lv2 := [(0, .ref m9), (1, va_rf x1), (2, .int x2), (3, .int x3)]) C eX23_spreadLives_54 (by decide) rfl (oky rfl (oky (cat_rf x1) (oky rfl (oky rfl ok0)))) ?_
            refine x_sub [1, 2, 3, 4, 0] rfl ?_
            exact j_56 bigN S x1 x2 x3 0 h
      unfold f_spreadLives_32 at h
      refine x_iload_n C eX23_spreadLives_32 rfl 2 rfl ?_
      refine x_if_eq (tgt := 160) C eX23_spreadLives_33 (by decide) h (fun h => ?_) (fun h => ?_)
      · exact x_vret C rfl rfl eX23_spreadLives_160 h
      · refine x_iconst (v := 0) C eX23_spreadLives_36 (by decide) ?_
        refine x_istore_n (lv2 := [(0, .ref m9), (1, va_rf x1)]) C eX23_spreadLives_37 rfl (by decide) rfl (oky rfl (oky (cat_rf x1) ok0)) ?_
        refine x_aload_n C eX23_spreadLives_38 rfl 2 rfl ?_
        refine x_gI (o9 := x1) (ci := 16) (k9 := 4) (Cn := RX16) (T := TX16) (N := 22) C rfl wt_X16 (by decide) ww_634 eX23_spreadLives_39 h (fun v4 h => ?_)
        refine x_iconst (v := 1) C eX23_spreadLives_42 (by decide) ?_
        refine x_isub C eX23_spreadLives_43 ?_
        refine x_istore_n (lv2 := [(2, .int 0), (0, .ref m9), (1, va_rf x1)]) C eX23_spreadLives_44 rfl (by decide) rfl (oky rfl (oky rfl (oky (cat_rf x1) ok0))) ?_
        refine x_sub [2, 3, 1, 0] rfl ?_
        exact j_45 bigN S x1 0 (v4 - 1) h
  have j_7 : ∀ (n_7 : Nat) (S : Sg) (x1 : Option Nat) (x2 : Int32), f_spreadLives_7 K n_7 S x1 x2 = some (Sf, rf) → WX p l e R s m args below meth c Q D A K m9 mr 8 S0 S 7 [(0, .ref m9), (1, va_rf x1), (2, .int x2)] [] := by
    intro n_7
    induction n_7 with
    | zero => intro S x1 x2 h; unfold f_spreadLives_7 at h; cases h
    | succ n_7 ih_7 =>
      intro S x1 x2 h
      unfold f_spreadLives_7 at h
      refine x_iload_n C eX23_spreadLives_7 rfl 2 rfl ?_
      refine x_iconst (v := 4) C eX23_spreadLives_8 (by decide) ?_
      refine x_aload_n C eX23_spreadLives_9 rfl 1 rfl ?_
      refine x_gI (o9 := x1) (ci := 16) (k9 := 4) (Cn := RX16) (T := TX16) (N := 22) C rfl wt_X16 (by decide) ww_634 eX23_spreadLives_10 h (fun v2 h => ?_)
      refine x_imul C eX23_spreadLives_13 ?_
      refine x_ic_ge (tgt := 30) C eX23_spreadLives_14 (by decide) h (fun h => ?_) (fun h => ?_)
      · refine x_iconst (v := 1) C eX23_spreadLives_30 (by decide) ?_
        refine x_istore_n (lv2 := [(0, .ref m9), (1, va_rf x1)]) C eX23_spreadLives_31 rfl (by decide) rfl (oky rfl (oky (cat_rf x1) ok0)) ?_
        refine x_sub [1, 2, 0] rfl ?_
        exact j_32 bigN S x1 1 h
      · refine x_tload_n C eX23_spreadLives_17 rfl 0 rfl ?_
        refine x_mV (k9 := 58) C (by decide) ww_690 eX23_spreadLives_18 rfl ?_
        refine x_iload_n C eX23_spreadLives_21 rfl 2 rfl ?_
        refine x_lconst (v := 0) C eX23_spreadLives_22 (by decide) ?_
        refine x_wJ (r := 58) C (by decide) rfl eX23_spreadLives_23 h (fun S3 h => ?_)
        refine x_iinc (j := 2) (v := 1) (lv2 := [(0, .ref m9), (1, va_rf x1)]) C eX23_spreadLives_24 rfl (by decide) (by decide) rfl (oky rfl (oky (cat_rf x1) ok0)) ?_
        refine x_goto (tgt := 7) C eX23_spreadLives_27 (by decide) ?_
        refine x_sub [1, 2, 0] rfl ?_
        exact ih_7 S3 x1 (x2 + 1) h
  unfold f_spreadLives at h
  refine x_iconst (v := 4) C eX23_spreadLives_0 (by decide) ?_
  refine x_aload_n C eX23_spreadLives_1 rfl 1 rfl ?_
  refine x_gI (o9 := x1) (ci := 16) (k9 := 5) (Cn := RX16) (T := TX16) (N := 22) C rfl wt_X16 (by decide) ww_632 eX23_spreadLives_2 h (fun v1 h => ?_)
  refine x_imul C eX23_spreadLives_5 ?_
  refine x_istore_n (lv2 := [(0, .ref m9), (1, va_rf x1)]) C eX23_spreadLives_6 rfl (by decide) rfl (oky rfl (oky (cat_rf x1) ok0)) ?_
  refine x_sub [1, 2, 0] rfl ?_
  exact j_7 bigN S0 x1 (4 * v1) h
set_option maxRecDepth 20000 in
set_option maxHeartbeats 4000000 in
theorem k_X23_holdBehind (l : Launch) (D : va_G) (K : Ky) (m9 : Nat) (mr : Nat → Nat) (S0 Sf : Sg) (x1 : Int32) (x2 : Int32) (rf : Unit) (h : f_holdBehind K S0 x1 x2 = some (Sf, rf)) : CT l D K m9 mr yX23_holdBehind (Cond.code yX23_holdBehind cX23_holdBehind 5 none) (2) (45) S0 Sf [.ref m9, .int x1, .int x2] none := by
  refine x_start (cc := cX23_holdBehind) (lv := [(0, .ref m9), (1, .int x1), (2, .int x2)]) rfl rfl (by decide) (by simp [lv_args, cat_rf, cat_i, cat_l, cat_a]) (by simp [lg_sl, cat_rf, cat_i, cat_l, cat_a]) (fun p e R s m args below meth c Q A C => ?_)
  have j_120 : ∀ (S : Sg) (x1 : Int32) (x3 : Int32), f_holdBehind_120 K S x1 x3 = some (Sf, rf) → WX p l e R s m args below meth c Q D A K m9 mr 5 S0 S 120 [(0, .ref m9), (1, .int x1), (3, .int x3)] [] := by
    intro S x1 x3 h
    unfold f_holdBehind_120 at h
    refine x_tload_n C eX23_holdBehind_120 rfl 0 rfl ?_
    refine x_mV (k9 := 60) C (by decide) ww_694 eX23_holdBehind_121 rfl ?_
    refine x_iconst (v := 0) C eX23_holdBehind_124 (by decide) ?_
    refine x_tload_n C eX23_holdBehind_125 rfl 0 rfl ?_
    refine x_mV (k9 := 34) C (by decide) ww_492 eX23_holdBehind_126 rfl ?_
    refine x_iload_n C eX23_holdBehind_129 rfl 1 rfl ?_
    refine x_rI (r := 34) C (by decide) rfl eX23_holdBehind_130 h (fun v13 h => ?_)
    refine x_iload_n C eX23_holdBehind_131 rfl 2 rfl ?_
    refine x_cSv (As := [.ref (mr 60), .int 0, .int v13, .int x3]) (st := []) (n := 4) (frc := 1) (loc := 20) C h (fun S9 r9 e9 => k_X23_put l D K m9 mr _ S9 60 0 v13 x3 r9 (by decide) rfl e9) ww_646 ww_653 ww_654 ww_16 (by decide +kernel) rfl ⟨by omega, by omega⟩ (Nat.le_of_ble_eq_true rfl) eX23_holdBehind_132 (fun S14 v15 h => ?_)
    exact x_vret C rfl rfl eX23_holdBehind_135 h
  have j_58 : ∀ (n_58 : Nat) (S : Sg) (x1 : Int32) (x3 : Int32) (x4 : Int32), f_holdBehind_58 K n_58 S x1 x3 x4 = some (Sf, rf) → WX p l e R s m args below meth c Q D A K m9 mr 5 S0 S 58 [(0, .ref m9), (1, .int x1), (3, .int x3), (4, .int x4)] [] := by
    intro n_58
    induction n_58 with
    | zero => intro S x1 x3 x4 h; unfold f_holdBehind_58 at h; cases h
    | succ n_58 ih_58 =>
      intro S x1 x3 x4 h
      have j_114 : ∀ (S : Sg) (x1 : Int32) (x3 : Int32) (x4 : Int32), f_holdBehind_114 K (f_holdBehind_58 K n_58) S x1 x3 x4 = some (Sf, rf) → WX p l e R s m args below meth c Q D A K m9 mr 5 S0 S 114 [(0, .ref m9), (1, .int x1), (3, .int x3), (4, .int x4)] [] := by
        intro S x1 x3 x4 h
        unfold f_holdBehind_114 at h
        refine x_iinc (j := 3) (v := 1) (lv2 := [(0, .ref m9), (1, .int x1), (3, .int x3)]) C eX23_holdBehind_114 rfl (by decide) (by decide) rfl (oky rfl (oky rfl (oky rfl ok0))) ?_
        refine x_goto (tgt := 58) C eX23_holdBehind_117 (by decide) ?_
        refine x_sub [1, 2, 3, 0] rfl ?_
        exact ih_58 S x1 x3 (x4 + 1) h
      unfold f_holdBehind_58 at h
      refine x_tload_n C eX23_holdBehind_58 rfl 0 rfl ?_
      refine x_mV (k9 := 27) C (by decide) ww_485 eX23_holdBehind_59 rfl ?_
      refine x_iload_n C eX23_holdBehind_62 rfl 1 rfl ?_
      refine x_rI (r := 27) C (by decide) rfl eX23_holdBehind_63 h (fun v5 h => ?_)
      refine x_bipush (v := 24) C eX23_holdBehind_64 (by decide) ?_
      refine x_ic_eq (tgt := 120) C eX23_holdBehind_66 (by decide) h (fun h => ?_) (fun h => ?_)
      · refine x_sub [0, 1, 2] rfl ?_
        exact j_120 S x1 x3 h
      · refine x_tload_n C eX23_holdBehind_69 rfl 0 rfl ?_
        refine x_mV (k9 := 36) C (by decide) ww_494 eX23_holdBehind_70 rfl ?_
        refine x_iload_n C eX23_holdBehind_73 rfl 1 rfl ?_
        refine x_rA (r := 36) C (by decide) rfl eX23_holdBehind_74 h (fun v6 h => ?_)
        refine x_ifnull (tgt := 120) C eX23_holdBehind_75 (by decide) h (fun h => ?_) (fun h => ?_)
        · refine x_sub [0, 1, 2] rfl ?_
          exact j_120 S x1 x3 h
        · refine x_iload C eX23_holdBehind_78 3 rfl ?_
          refine x_tload_n C eX23_holdBehind_80 rfl 0 rfl ?_
          refine x_mV (k9 := 36) C (by decide) ww_494 eX23_holdBehind_81 rfl ?_
          refine x_iload_n C eX23_holdBehind_84 rfl 1 rfl ?_
          refine x_rA (r := 36) C (by decide) rfl eX23_holdBehind_85 h (fun v7 h => ?_)
          refine x_aLn (t9 := 0) C rfl eX23_holdBehind_86 h (fun v8 h => ?_)
          refine x_ic_ge (tgt := 120) C eX23_holdBehind_87 (by decide) h (fun h => ?_) (fun h => ?_)
          · refine x_sub [0, 1, 2] rfl ?_
            exact j_120 S x1 x3 h
          · refine x_tload_n C eX23_holdBehind_90 rfl 0 rfl ?_
            refine x_mV (k9 := 59) C (by decide) ww_697 eX23_holdBehind_91 rfl ?_
            refine x_iconst (v := 4) C eX23_holdBehind_94 (by decide) ?_
            refine x_iload_n C eX23_holdBehind_95 rfl 1 rfl ?_
            refine x_imul C eX23_holdBehind_96 ?_
            refine x_tload_n C eX23_holdBehind_97 rfl 0 rfl ?_
            refine x_mV (k9 := 36) C (by decide) ww_494 eX23_holdBehind_98 rfl ?_
            refine x_iload_n C eX23_holdBehind_101 rfl 1 rfl ?_
            refine x_rA (r := 36) C (by decide) rfl eX23_holdBehind_102 h (fun v9 h => ?_)
            refine x_iload C eX23_holdBehind_103 3 rfl ?_
            refine x_aI C eX23_holdBehind_105 h (fun v10 h => ?_)
            refine x_cSi (As := [.ref (mr 59), .int (4 * x1), .int v10]) (st := []) (n := 3) (frc := 1) (loc := 20) C h (fun S9 r9 e9 => k_X23_get l D K m9 mr _ S9 59 (4 * x1) v10 r9 (by decide) rfl e9) ww_645 ww_676 ww_677 ww_16 (by decide +kernel) rfl ⟨by omega, by omega⟩ (Nat.le_of_ble_eq_true rfl) eX23_holdBehind_106 (fun S11 v12 h => ?_)
            refine x_if_eq (tgt := 114) C eX23_holdBehind_109 (by decide) h (fun h => ?_) (fun h => ?_)
            · refine x_sub [0, 1, 2, 3] rfl ?_
              exact j_114 S11 x1 x3 x4 h
            · refine x_iconst (v := 1) C eX23_holdBehind_112 (by decide) ?_
              refine x_istore_n (lv2 := [(0, .ref m9), (1, .int x1), (4, .int x4)]) C eX23_holdBehind_113 rfl (by decide) rfl (oky rfl (oky rfl (oky rfl ok0))) ?_
              refine x_sub [1, 2, 0, 3] rfl ?_
              exact j_114 S11 x1 1 x4 h
  have j_54 : ∀ (S : Sg) (x1 : Int32) (y0 : Int32), f_holdBehind_54 K S x1 y0 = some (Sf, rf) → WX p l e R s m args below meth c Q D A K m9 mr 5 S0 S 54 [(0, .ref m9), (1, .int x1)] [.int y0] := by
    intro S x1 y0 h
    unfold f_holdBehind_54 at h
    refine x_istore_n (lv2 := [(0, .ref m9), (1, .int x1)]) C eX23_holdBehind_54 rfl (by decide) rfl (oky rfl (oky rfl ok0)) ?_
    refine x_iconst (v := 0) C eX23_holdBehind_55 (by decide) ?_
    refine x_istore (lv2 := [(3, .int y0), (0, .ref m9), (1, .int x1)]) C eX23_holdBehind_56 (by decide) rfl (oky rfl (oky rfl (oky rfl ok0))) ?_
    refine x_sub [2, 3, 1, 0] rfl ?_
    exact j_58 bigN S x1 y0 0 h
  have j_2 : ∀ (n_2 : Nat) (S : Sg) (x1 : Int32) (x2 : Int32) (x3 : Int32), f_holdBehind_2 K n_2 S x1 x2 x3 = some (Sf, rf) → WX p l e R s m args below meth c Q D A K m9 mr 5 S0 S 2 [(0, .ref m9), (1, .int x1), (2, .int x2), (3, .int x3)] [] := by
    intro n_2
    induction n_2 with
    | zero => intro S x1 x2 x3 h; unfold f_holdBehind_2 at h; cases h
    | succ n_2 ih_2 =>
      intro S x1 x2 x3 h
      unfold f_holdBehind_2 at h
      refine x_iload_n C eX23_holdBehind_2 rfl 3 rfl ?_
      refine x_iconst (v := 4) C eX23_holdBehind_3 (by decide) ?_
      refine x_ic_ge (tgt := 29) C eX23_holdBehind_4 (by decide) h (fun h => ?_) (fun h => ?_)
      · refine x_tload_n C eX23_holdBehind_29 rfl 0 rfl ?_
        refine x_mV (k9 := 34) C (by decide) ww_492 eX23_holdBehind_30 rfl ?_
        refine x_iload_n C eX23_holdBehind_33 rfl 1 rfl ?_
        refine x_rI (r := 34) C (by decide) rfl eX23_holdBehind_34 h (fun v1 h => ?_)
        refine x_if_ge (tgt := 39) C eX23_holdBehind_35 (by decide) h (fun h => ?_) (fun h => ?_)
        · refine x_tload_n C eX23_holdBehind_39 rfl 0 rfl ?_
          refine x_mV (k9 := 35) C (by decide) ww_493 eX23_holdBehind_40 rfl ?_
          refine x_iload_n C eX23_holdBehind_43 rfl 1 rfl ?_
          refine x_rI (r := 35) C (by decide) rfl eX23_holdBehind_44 h (fun v2 h => ?_)
          refine x_iload_n C eX23_holdBehind_45 rfl 2 rfl ?_
          refine x_ic_ne (tgt := 53) C eX23_holdBehind_46 (by decide) h (fun h => ?_) (fun h => ?_)
          · refine x_iconst (v := 0) C eX23_holdBehind_53 (by decide) ?_
            refine x_sub [0, 1] rfl ?_
            exact j_54 S x1 0 h
          · refine x_iconst (v := 1) C eX23_holdBehind_49 (by decide) ?_
            refine x_goto (tgt := 54) C eX23_holdBehind_50 (by decide) ?_
            refine x_sub [0, 1] rfl ?_
            exact j_54 S x1 1 h
        · exact x_vret C rfl rfl eX23_holdBehind_38 h
      · refine x_tload_n C eX23_holdBehind_7 rfl 0 rfl ?_
        refine x_mV (k9 := 60) C (by decide) ww_694 eX23_holdBehind_8 rfl ?_
        refine x_iload_n C eX23_holdBehind_11 rfl 3 rfl ?_
        refine x_tload_n C eX23_holdBehind_12 rfl 0 rfl ?_
        refine x_mV (k9 := 59) C (by decide) ww_697 eX23_holdBehind_13 rfl ?_
        refine x_iconst (v := 4) C eX23_holdBehind_16 (by decide) ?_
        refine x_iload_n C eX23_holdBehind_17 rfl 1 rfl ?_
        refine x_imul C eX23_holdBehind_18 ?_
        refine x_iload_n C eX23_holdBehind_19 rfl 3 rfl ?_
        refine x_iadd C eX23_holdBehind_20 ?_
        refine x_rJ (r := 59) C (by decide) rfl eX23_holdBehind_21 h (fun v3 h => ?_)
        refine x_wJ (r := 60) C (by decide) rfl eX23_holdBehind_22 h (fun S4 h => ?_)
        refine x_iinc (j := 3) (v := 1) (lv2 := [(0, .ref m9), (1, .int x1), (2, .int x2)]) C eX23_holdBehind_23 rfl (by decide) (by decide) rfl (oky rfl (oky rfl (oky rfl ok0))) ?_
        refine x_goto (tgt := 2) C eX23_holdBehind_26 (by decide) ?_
        refine x_sub [1, 2, 3, 0] rfl ?_
        exact ih_2 S4 x1 x2 (x3 + 1) h
  unfold f_holdBehind at h
  refine x_iconst (v := 0) C eX23_holdBehind_0 (by decide) ?_
  refine x_istore_n (lv2 := [(0, .ref m9), (1, .int x1), (2, .int x2)]) C eX23_holdBehind_1 rfl (by decide) rfl (oky rfl (oky rfl (oky rfl ok0))) ?_
  refine x_sub [1, 2, 3, 0] rfl ?_
  exact j_2 bigN S0 x1 x2 0 h
set_option maxRecDepth 20000 in
set_option maxHeartbeats 4000000 in
theorem k_X23_spreadLoan (l : Launch) (D : va_G) (K : Ky) (m9 : Nat) (mr : Nat → Nat) (S0 Sf : Sg) (x1 : Option Nat) (x2 : Int32) (rf : Unit) (h : f_spreadLoan K S0 x1 x2 = some (Sf, rf)) : CT l D K m9 mr yX23_spreadLoan (Cond.code yX23_spreadLoan cX23_spreadLoan 10 none) (3) (69) S0 Sf [.ref m9, va_rf x1, .int x2] none := by
  refine x_start (cc := cX23_spreadLoan) (lv := [(0, .ref m9), (1, va_rf x1), (2, .int x2)]) rfl rfl (by decide) (by simp [lv_args, cat_rf, cat_i, cat_l, cat_a]) (by simp [lg_sl, cat_rf, cat_i, cat_l, cat_a]) (fun p e R s m args below meth c Q A C => ?_)
  have j_61 : ∀ (n_61 : Nat) (S : Sg) (x1 : Option Nat) (x2 : Int32) (x3 : Int32), f_spreadLoan_61 K n_61 S x1 x2 x3 = some (Sf, rf) → WX p l e R s m args below meth c Q D A K m9 mr 10 S0 S 61 [(0, .ref m9), (1, va_rf x1), (2, .int x2), (3, .int x3)] [] := by
    intro n_61
    induction n_61 with
    | zero => intro S x1 x2 x3 h; unfold f_spreadLoan_61 at h; cases h
    | succ n_61 ih_61 =>
      intro S x1 x2 x3 h
      have j_73 : ∀ (n_73 : Nat) (S : Sg) (x1 : Option Nat) (x2 : Int32) (x3 : Int32) (x4 : Int32), f_spreadLoan_73 K (f_spreadLoan_61 K n_61) n_73 S x1 x2 x3 x4 = some (Sf, rf) → WX p l e R s m args below meth c Q D A K m9 mr 10 S0 S 73 [(0, .ref m9), (1, va_rf x1), (2, .int x2), (3, .int x3), (4, .int x4)] [] := by
        intro n_73
        induction n_73 with
        | zero => intro S x1 x2 x3 x4 h; unfold f_spreadLoan_73 at h; cases h
        | succ n_73 ih_73 =>
          intro S x1 x2 x3 x4 h
          have j_206 : ∀ (S : Sg) (x1 : Option Nat) (x2 : Int32) (x3 : Int32) (x4 : Int32), f_spreadLoan_206 K (f_spreadLoan_61 K n_61) (f_spreadLoan_73 K (f_spreadLoan_61 K n_61) n_73) S x1 x2 x3 x4 = some (Sf, rf) → WX p l e R s m args below meth c Q D A K m9 mr 10 S0 S 206 [(0, .ref m9), (1, va_rf x1), (2, .int x2), (3, .int x3), (4, .int x4)] [] := by
            intro S x1 x2 x3 x4 h
            unfold f_spreadLoan_206 at h
            refine x_iinc (j := 4) (v := 1) (lv2 := [(0, .ref m9), (1, va_rf x1), (2, .int x2), (3, .int x3)]) C eX23_spreadLoan_206 rfl (by decide) (by decide) rfl (oky rfl (oky (cat_rf x1) (oky rfl (oky rfl ok0)))) ?_
            refine x_goto (tgt := 73) C eX23_spreadLoan_209 (by decide) ?_
            refine x_sub [1, 2, 3, 4, 0] rfl ?_
            exact ih_73 S x1 x2 x3 (x4 + 1) h
          have j_102 : ∀ (n_102 : Nat) (S : Sg) (x1 : Option Nat) (x2 : Int32) (x3 : Int32) (x4 : Int32) (x5 : Int32), f_spreadLoan_102 K (f_spreadLoan_61 K n_61) (f_spreadLoan_73 K (f_spreadLoan_61 K n_61) n_73) n_102 S x1 x2 x3 x4 x5 = some (Sf, rf) → WX p l e R s m args below meth c Q D A K m9 mr 10 S0 S 102 [(0, .ref m9), (1, va_rf x1), (2, .int x2), (3, .int x3), (4, .int x4), (5, .int x5)] [] := by
            intro n_102
            induction n_102 with
            | zero => intro S x1 x2 x3 x4 x5 h; unfold f_spreadLoan_102 at h; cases h
            | succ n_102 ih_102 =>
              intro S x1 x2 x3 x4 x5 h
              have j_138 : ∀ (n_138 : Nat) (S : Sg) (x1 : Option Nat) (x2 : Int32) (x3 : Int32) (x4 : Int32) (x5 : Int32) (x6 : Int32) (x7 : Int32), f_spreadLoan_138 K (f_spreadLoan_61 K n_61) (f_spreadLoan_73 K (f_spreadLoan_61 K n_61) n_73) (f_spreadLoan_102 K (f_spreadLoan_61 K n_61) (f_spreadLoan_73 K (f_spreadLoan_61 K n_61) n_73) n_102) n_138 S x1 x2 x3 x4 x5 x6 x7 = some (Sf, rf) → WX p l e R s m args below meth c Q D A K m9 mr 10 S0 S 138 [(0, .ref m9), (1, va_rf x1), (2, .int x2), (3, .int x3), (4, .int x4), (5, .int x5), (6, .int x6), (7, .int x7)] [] := by
                intro n_138
                induction n_138 with
                | zero => intro S x1 x2 x3 x4 x5 x6 x7 h; unfold f_spreadLoan_138 at h; cases h
                | succ n_138 ih_138 =>
                  intro S x1 x2 x3 x4 x5 x6 x7 h
                  have j_182 : ∀ (S : Sg) (x1 : Option Nat) (x2 : Int32) (x3 : Int32) (x4 : Int32) (x5 : Int32) (x6 : Int32) (x7 : Int32) (x8 : Int64), f_spreadLoan_182 K (f_spreadLoan_61 K n_61) (f_spreadLoan_73 K (f_spreadLoan_61 K n_61) n_73) (f_spreadLoan_102 K (f_spreadLoan_61 K n_61) (f_spreadLoan_73 K (f_spreadLoan_61 K n_61) n_73) n_102) (f_spreadLoan_138 K (f_spreadLoan_61 K n_61) (f_spreadLoan_73 K (f_spreadLoan_61 K n_61) n_73) (f_spreadLoan_102 K (f_spreadLoan_61 K n_61) (f_spreadLoan_73 K (f_spreadLoan_61 K n_61) n_73) n_102) n_138) S x1 x2 x3 x4 x5 x6 x7 x8 = some (Sf, rf) → WX p l e R s m args below meth c Q D A K m9 mr 10 S0 S 182 [(0, .ref m9), (1, va_rf x1), (2, .int x2), (3, .int x3), (4, .int x4), (5, .int x5), (6, .int x6), (7, .int x7), (8, .long x8)] [] := by
                    intro S x1 x2 x3 x4 x5 x6 x7 x8 h
                    unfold f_spreadLoan_182 at h
                    refine x_tload_n C eX23_spreadLoan_182 rfl 0 rfl ?_
                    refine x_mV (k9 := 59) C (by decide) ww_697 eX23_spreadLoan_183 rfl ?_
                    refine x_iload C eX23_spreadLoan_186 6 rfl ?_
                    refine x_iload C eX23_spreadLoan_188 7 rfl ?_
                    refine x_iadd C eX23_spreadLoan_190 ?_
                    refine x_lload C eX23_spreadLoan_191 8 rfl ?_
                    refine x_wJ (r := 59) C (by decide) rfl eX23_spreadLoan_193 h (fun S22 h => ?_)
                    refine x_iinc (j := 7) (v := 1) (lv2 := [(0, .ref m9), (1, va_rf x1), (2, .int x2), (3, .int x3), (4, .int x4), (5, .int x5), (6, .int x6), (8, .long x8)]) C eX23_spreadLoan_194 rfl (by decide) (by decide) rfl (oky rfl (oky (cat_rf x1) (oky rfl (oky rfl (oky rfl (oky rfl (oky rfl (okn (Nat.ne_of_beq_eq_false rfl) ok0)))))))) ?_
                    refine x_goto (tgt := 138) C eX23_spreadLoan_197 (by decide) ?_
                    refine x_sub [1, 2, 3, 4, 5, 6, 7, 0] rfl ?_
                    exact ih_138 S22 x1 x2 x3 x4 x5 x6 (x7 + 1) h
                  unfold f_spreadLoan_138 at h
                  refine x_iload C eX23_spreadLoan_138 7 rfl ?_
                  refine x_iconst (v := 4) C eX23_spreadLoan_140 (by decide) ?_
                  refine x_ic_ge (tgt := 200) C eX23_spreadLoan_141 (by decide) h (fun h => ?_) (fun h => ?_)
                  · refine x_iinc (j := 5) (v := 1) (lv2 := [(0, .ref m9), (1, va_rf x1), (2, .int x2), (3, .int x3), (4, .int x4), (6, .int x6), (7, .int x7)]) C eX23_spreadLoan_200 rfl (by decide) (by decide) rfl (oky rfl (oky (cat_rf x1) (oky rfl (oky rfl (oky rfl (oky rfl (oky rfl ok0))))))) ?_
                    refine x_goto (tgt := 102) C eX23_spreadLoan_203 (by decide) ?_
                    refine x_sub [1, 2, 3, 4, 5, 0] rfl ?_
                    exact ih_102 S x1 x2 x3 x4 (x5 + 1) h
                  · refine x_tload_n C eX23_spreadLoan_144 rfl 0 rfl ?_
                    refine x_mV (k9 := 59) C (by decide) ww_697 eX23_spreadLoan_145 rfl ?_
                    refine x_iload C eX23_spreadLoan_148 6 rfl ?_
                    refine x_iload C eX23_spreadLoan_150 7 rfl ?_
                    refine x_iadd C eX23_spreadLoan_152 ?_
                    refine x_rJ (r := 59) C (by decide) rfl eX23_spreadLoan_153 h (fun v19 h => ?_)
                    refine x_tload_n C eX23_spreadLoan_154 rfl 0 rfl ?_
                    refine x_mV (k9 := 60) C (by decide) ww_694 eX23_spreadLoan_155 rfl ?_
                    refine x_iload C eX23_spreadLoan_158 7 rfl ?_
                    refine x_rJ (r := 60) C (by decide) rfl eX23_spreadLoan_160 h (fun v20 h => ?_)
                    refine x_lor C eX23_spreadLoan_161 ?_
                    refine x_lstore (lv2 := [(0, .ref m9), (1, va_rf x1), (2, .int x2), (3, .int x3), (4, .int x4), (5, .int x5), (6, .int x6), (7, .int x7)]) C eX23_spreadLoan_162 (by decide) rfl (oky rfl (oky (cat_rf x1) (oky rfl (oky rfl (oky rfl (oky rfl (oky rfl (oky rfl ok0)))))))) ?_
                    refine x_lload C eX23_spreadLoan_164 0 rfl ?_
                    refine x_tload_n C eX23_spreadLoan_166 rfl 1 rfl ?_
                    refine x_mV (k9 := 59) C (by decide) ww_697 eX23_spreadLoan_167 rfl ?_
                    refine x_iload C eX23_spreadLoan_170 7 rfl ?_
                    refine x_iload C eX23_spreadLoan_172 8 rfl ?_
                    refine x_iadd C eX23_spreadLoan_174 ?_
                    refine x_rJ (r := 59) C (by decide) rfl eX23_spreadLoan_175 h (fun v21 h => ?_)
                    refine x_lcmp C eX23_spreadLoan_176 ?_
                    refine x_if_eq (tgt := 182) C eX23_spreadLoan_177 (by decide) h (fun h => ?_) (fun h => ?_)
                    · refine x_sub [1, 2, 3, 4, 5, 6, 7, 8, 0] rfl ?_
                      exact j_182 S x1 x2 x3 x4 x5 x6 x7 (v19 ||| v20) h
                    · refine x_iconst (v := 1) C eX23_spreadLoan_180 (by decide) ?_
                      refine x_istore_n (lv2 := [(8, .long (v19 ||| v20)), (0, .ref m9), (1, va_rf x1), (2, .int x2), (4, .int x4), (5, .int x5), (6, .int x6), (7, .int x7)]) C eX23_spreadLoan_181 rfl (by decide) rfl (okn (Nat.ne_of_beq_eq_false rfl) (oky rfl (oky (cat_rf x1) (oky rfl (oky rfl (oky rfl (oky rfl (oky rfl ok0)))))))) ?_
                      refine x_sub [2, 3, 4, 0, 5, 6, 7, 8, 1] rfl ?_
                      exact j_182 S x1 x2 1 x4 x5 x6 x7 (v19 ||| v20) h
              unfold f_spreadLoan_102 at h
              refine x_tload_n C eX23_spreadLoan_102 rfl 0 rfl ?_
              refine x_mV (k9 := 52) C (by decide) ww_637 eX23_spreadLoan_103 rfl ?_
              refine x_iload C eX23_spreadLoan_106 4 rfl ?_
              refine x_rZ (r := 52) C (by decide) rfl eX23_spreadLoan_108 h (fun v14 h => ?_)
              refine x_if_eq (tgt := 206) C eX23_spreadLoan_109 (by decide) h (fun h => ?_) (fun h => ?_)
              · refine x_sub [0, 1, 2, 3, 4] rfl ?_
                exact j_206 S x1 x2 x3 x4 h
              · refine x_tload_n C eX23_spreadLoan_112 rfl 0 rfl ?_
                refine x_iload C eX23_spreadLoan_113 4 rfl ?_
                refine x_iload C eX23_spreadLoan_115 5 rfl ?_
                refine x_cVi (As := [.int x4, .int x5]) (st := []) (n := 2) (frc := 1) (loc := 20) C h (fun S9 r9 e9 => k_X23_follows l D K m9 mr _ S9 x4 x5 r9 e9) ww_635 ww_638 ww_639 ww_640 ww_16 (by decide +kernel) rfl ⟨by omega, by omega⟩ (Nat.le_of_ble_eq_true rfl) eX23_spreadLoan_117 (fun S15 v16 h => ?_)
                refine x_if_lt (tgt := 206) C eX23_spreadLoan_120 (by decide) h (fun h => ?_) (fun h => ?_)
                · refine x_sub [0, 1, 2, 3, 4] rfl ?_
                  exact j_206 S15 x1 x2 x3 x4 h
                · refine x_iconst (v := 4) C eX23_spreadLoan_123 (by decide) ?_
                  refine x_tload_n C eX23_spreadLoan_124 rfl 0 rfl ?_
                  refine x_iload C eX23_spreadLoan_125 4 rfl ?_
                  refine x_iload C eX23_spreadLoan_127 5 rfl ?_
                  refine x_cVi (As := [.int x4, .int x5]) (st := [.int 4]) (n := 2) (frc := 1) (loc := 20) C h (fun S9 r9 e9 => k_X23_follows l D K m9 mr _ S9 x4 x5 r9 e9) ww_635 ww_638 ww_639 ww_640 ww_16 (by decide +kernel) rfl ⟨by omega, by omega⟩ (Nat.le_of_ble_eq_true rfl) eX23_spreadLoan_129 (fun S17 v18 h => ?_)
                  refine x_imul C eX23_spreadLoan_132 ?_
                  refine x_istore (lv2 := [(0, .ref m9), (1, va_rf x1), (2, .int x2), (3, .int x3), (4, .int x4), (5, .int x5)]) C eX23_spreadLoan_133 (by decide) rfl (oky rfl (oky (cat_rf x1) (oky rfl (oky rfl (oky rfl (oky rfl ok0)))))) ?_
                  refine x_iconst (v := 0) C eX23_spreadLoan_135 (by decide) ?_
                  refine x_istore (lv2 := [(6, .int (4 * v18)), (0, .ref m9), (1, va_rf x1), (2, .int x2), (3, .int x3), (4, .int x4), (5, .int x5)]) C eX23_spreadLoan_136 (by decide) rfl (oky rfl (oky rfl (oky (cat_rf x1) (oky rfl (oky rfl (oky rfl (oky rfl ok0))))))) ?_
                  refine x_sub [2, 3, 4, 5, 6, 7, 1, 0] rfl ?_
                  exact j_138 bigN S17 x1 x2 x3 x4 x5 (4 * v18) 0 h
          have j_99 : ∀ (S : Sg) (x1 : Option Nat) (x2 : Int32) (x3 : Int32) (x4 : Int32), f_spreadLoan_99 K (f_spreadLoan_61 K n_61) (f_spreadLoan_73 K (f_spreadLoan_61 K n_61) n_73) S x1 x2 x3 x4 = some (Sf, rf) → WX p l e R s m args below meth c Q D A K m9 mr 10 S0 S 99 [(0, .ref m9), (1, va_rf x1), (2, .int x2), (3, .int x3), (4, .int x4)] [] := by
            intro S x1 x2 x3 x4 h
            unfold f_spreadLoan_99 at h
            refine x_iconst (v := 0) C eX23_spreadLoan_99 (by decide) ?_
            refine x_istore (lv2 := [(0, .ref m9), (1, va_rf x1), (2, .int x2), (3, .int x3), (4, .int x4)]) C eX23_spreadLoan_100 (by decide) rfl (oky rfl (oky (cat_rf x1) (oky rfl (oky rfl (oky rfl ok0))))) ?_
            refine x_sub [1, 2, 3, 4, 5, 0] rfl ?_
            exact j_102 bigN S x1 x2 x3 x4 0 h
          unfold f_spreadLoan_73 at h
          refine x_iload C eX23_spreadLoan_73 4 rfl ?_
          refine x_aload_n C eX23_spreadLoan_75 rfl 1 rfl ?_
          refine x_gI (o9 := x1) (ci := 16) (k9 := 4) (Cn := RX16) (T := TX16) (N := 22) C rfl wt_X16 (by decide) ww_634 eX23_spreadLoan_76 h (fun v10 h => ?_)
          refine x_ic_ge (tgt := 212) C eX23_spreadLoan_79 (by decide) h (fun h => ?_) (fun h => ?_)
          · refine x_goto (tgt := 61) C eX23_spreadLoan_212 (by decide) ?_
            refine x_sub [0, 1, 2, 3] rfl ?_
            exact ih_61 S x1 x2 x3 h
          · refine x_tload_n C eX23_spreadLoan_82 rfl 0 rfl ?_
            refine x_mV (k9 := 52) C (by decide) ww_637 eX23_spreadLoan_83 rfl ?_
            refine x_iload C eX23_spreadLoan_86 4 rfl ?_
            refine x_rZ (r := 52) C (by decide) rfl eX23_spreadLoan_88 h (fun v11 h => ?_)
            refine x_if_eq (tgt := 99) C eX23_spreadLoan_89 (by decide) h (fun h => ?_) (fun h => ?_)
            · refine x_sub [0, 1, 2, 3, 4] rfl ?_
              exact j_99 S x1 x2 x3 x4 h
            · refine x_tload_n C eX23_spreadLoan_92 rfl 0 rfl ?_
              refine x_iload C eX23_spreadLoan_93 4 rfl ?_
              refine x_iload_n C eX23_spreadLoan_95 rfl 2 rfl ?_
              refine x_cVv (As := [.int x4, .int x2]) (st := []) (n := 2) (frc := 2) (loc := 45) C h (fun S9 r9 e9 => k_X23_holdBehind l D K m9 mr _ S9 x4 x2 r9 e9) ww_696 ww_699 ww_700 ww_701 ww_16 (by decide +kernel) rfl ⟨by omega, by omega⟩ (Nat.le_of_ble_eq_true rfl) eX23_spreadLoan_96 (fun S12 v13 h => ?_)
              refine x_sub [0, 1, 2, 3, 4] rfl ?_
              exact j_99 S12 x1 x2 x3 x4 h
      unfold f_spreadLoan_61 at h
      refine x_iload_n C eX23_spreadLoan_61 rfl 3 rfl ?_
      refine x_if_eq (tgt := 215) C eX23_spreadLoan_62 (by decide) h (fun h => ?_) (fun h => ?_)
      · exact x_vret C rfl rfl eX23_spreadLoan_215 h
      · refine x_iconst (v := 0) C eX23_spreadLoan_65 (by decide) ?_
        refine x_istore_n (lv2 := [(0, .ref m9), (1, va_rf x1), (2, .int x2)]) C eX23_spreadLoan_66 rfl (by decide) rfl (oky rfl (oky (cat_rf x1) (oky rfl ok0))) ?_
        refine x_aload_n C eX23_spreadLoan_67 rfl 2 rfl ?_
        refine x_gI (o9 := x1) (ci := 16) (k9 := 5) (Cn := RX16) (T := TX16) (N := 22) C rfl wt_X16 (by decide) ww_632 eX23_spreadLoan_68 h (fun v9 h => ?_)
        refine x_istore (lv2 := [(3, .int 0), (0, .ref m9), (1, va_rf x1), (2, .int x2)]) C eX23_spreadLoan_71 (by decide) rfl (oky rfl (oky rfl (oky (cat_rf x1) (oky rfl ok0)))) ?_
        refine x_sub [2, 3, 4, 1, 0] rfl ?_
        exact j_73 bigN S x1 x2 0 v9 h
  have j_59 : ∀ (S : Sg) (x1 : Option Nat) (x2 : Int32), f_spreadLoan_59 K S x1 x2 = some (Sf, rf) → WX p l e R s m args below meth c Q D A K m9 mr 10 S0 S 59 [(0, .ref m9), (1, va_rf x1), (2, .int x2)] [] := by
    intro S x1 x2 h
    unfold f_spreadLoan_59 at h
    refine x_iconst (v := 1) C eX23_spreadLoan_59 (by decide) ?_
    refine x_istore_n (lv2 := [(0, .ref m9), (1, va_rf x1), (2, .int x2)]) C eX23_spreadLoan_60 rfl (by decide) rfl (oky rfl (oky (cat_rf x1) (oky rfl ok0))) ?_
    refine x_sub [1, 2, 3, 0] rfl ?_
    exact j_61 bigN S x1 x2 1 h
  have j_7 : ∀ (n_7 : Nat) (S : Sg) (x1 : Option Nat) (x2 : Int32) (x3 : Int32), f_spreadLoan_7 K n_7 S x1 x2 x3 = some (Sf, rf) → WX p l e R s m args below meth c Q D A K m9 mr 10 S0 S 7 [(0, .ref m9), (1, va_rf x1), (2, .int x2), (3, .int x3)] [] := by
    intro n_7
    induction n_7 with
    | zero => intro S x1 x2 x3 h; unfold f_spreadLoan_7 at h; cases h
    | succ n_7 ih_7 =>
      intro S x1 x2 x3 h
      unfold f_spreadLoan_7 at h
      refine x_iload_n C eX23_spreadLoan_7 rfl 3 rfl ?_
      refine x_iconst (v := 4) C eX23_spreadLoan_8 (by decide) ?_
      refine x_aload_n C eX23_spreadLoan_9 rfl 1 rfl ?_
      refine x_gI (o9 := x1) (ci := 16) (k9 := 4) (Cn := RX16) (T := TX16) (N := 22) C rfl wt_X16 (by decide) ww_634 eX23_spreadLoan_10 h (fun v2 h => ?_)
      refine x_imul C eX23_spreadLoan_13 ?_
      refine x_ic_ge (tgt := 30) C eX23_spreadLoan_14 (by decide) h (fun h => ?_) (fun h => ?_)
      · refine x_tload_n C eX23_spreadLoan_30 rfl 0 rfl ?_
        refine x_mV (k9 := 45) C (by decide) ww_546 eX23_spreadLoan_31 rfl ?_
        refine x_iload_n C eX23_spreadLoan_34 rfl 2 rfl ?_
        refine x_rI (r := 45) C (by decide) rfl eX23_spreadLoan_35 h (fun v3 h => ?_)
        refine x_if_lt (tgt := 59) C eX23_spreadLoan_36 (by decide) h (fun h => ?_) (fun h => ?_)
        · refine x_sub [0, 1, 2] rfl ?_
          exact j_59 S x1 x2 h
        · refine x_tload_n C eX23_spreadLoan_39 rfl 0 rfl ?_
          refine x_mV (k9 := 59) C (by decide) ww_697 eX23_spreadLoan_40 rfl ?_
          refine x_iconst (v := 4) C eX23_spreadLoan_43 (by decide) ?_
          refine x_aload_n C eX23_spreadLoan_44 rfl 1 rfl ?_
          refine x_gI (o9 := x1) (ci := 16) (k9 := 5) (Cn := RX16) (T := TX16) (N := 22) C rfl wt_X16 (by decide) ww_632 eX23_spreadLoan_45 h (fun v4 h => ?_)
          refine x_imul C eX23_spreadLoan_48 ?_
          refine x_tload_n C eX23_spreadLoan_49 rfl 0 rfl ?_
          refine x_mV (k9 := 45) C (by decide) ww_546 eX23_spreadLoan_50 rfl ?_
          refine x_iload_n C eX23_spreadLoan_53 rfl 2 rfl ?_
          refine x_rI (r := 45) C (by decide) rfl eX23_spreadLoan_54 h (fun v5 h => ?_)
          refine x_iconst (v := 1) C eX23_spreadLoan_55 (by decide) ?_
          refine x_cSv (As := [.ref (mr 59), .int (4 * v4), .int v5, .int 1]) (st := []) (n := 4) (frc := 1) (loc := 20) C h (fun S9 r9 e9 => k_X23_put l D K m9 mr _ S9 59 (4 * v4) v5 1 r9 (by decide) rfl e9) ww_646 ww_653 ww_654 ww_16 (by decide +kernel) rfl ⟨by omega, by omega⟩ (Nat.le_of_ble_eq_true rfl) eX23_spreadLoan_56 (fun S6 v7 h => ?_)
          refine x_sub [0, 1, 2] rfl ?_
          exact j_59 S6 x1 x2 h
      · refine x_tload_n C eX23_spreadLoan_17 rfl 0 rfl ?_
        refine x_mV (k9 := 59) C (by decide) ww_697 eX23_spreadLoan_18 rfl ?_
        refine x_iload_n C eX23_spreadLoan_21 rfl 3 rfl ?_
        refine x_lconst (v := 0) C eX23_spreadLoan_22 (by decide) ?_
        refine x_wJ (r := 59) C (by decide) rfl eX23_spreadLoan_23 h (fun S8 h => ?_)
        refine x_iinc (j := 3) (v := 1) (lv2 := [(0, .ref m9), (1, va_rf x1), (2, .int x2)]) C eX23_spreadLoan_24 rfl (by decide) (by decide) rfl (oky rfl (oky (cat_rf x1) (oky rfl ok0))) ?_
        refine x_goto (tgt := 7) C eX23_spreadLoan_27 (by decide) ?_
        refine x_sub [1, 2, 3, 0] rfl ?_
        exact ih_7 S8 x1 x2 (x3 + 1) h
  unfold f_spreadLoan at h
  refine x_iconst (v := 4) C eX23_spreadLoan_0 (by decide) ?_
  refine x_aload_n C eX23_spreadLoan_1 rfl 1 rfl ?_
  refine x_gI (o9 := x1) (ci := 16) (k9 := 5) (Cn := RX16) (T := TX16) (N := 22) C rfl wt_X16 (by decide) ww_632 eX23_spreadLoan_2 h (fun v1 h => ?_)
  refine x_imul C eX23_spreadLoan_5 ?_
  refine x_istore_n (lv2 := [(0, .ref m9), (1, va_rf x1), (2, .int x2)]) C eX23_spreadLoan_6 rfl (by decide) rfl (oky rfl (oky (cat_rf x1) (oky rfl ok0))) ?_
  refine x_sub [1, 2, 3, 0] rfl ?_
  exact j_7 bigN S0 x1 x2 (4 * v1) h
set_option maxRecDepth 20000 in
set_option maxHeartbeats 4000000 in
theorem k_X23_overlap (l : Launch) (D : va_G) (K : Ky) (m9 : Nat) (mr : Nat → Nat) (S0 Sf : Sg) (x0 : Option Nat) (x1 : Option Nat) (rf : Int32) (h : f_overlap K S0 x0 x1 = some (Sf, rf)) : CT l D K m9 mr yX23_overlap (Cond.code yX23_overlap cX23_overlap 3 (some .boolean)) (1) (20) S0 Sf [va_rf x0, va_rf x1] (some (.int rf)) := by
  refine x_start (cc := cX23_overlap) (lv := [(0, va_rf x0), (1, va_rf x1)]) rfl rfl (by decide) (by simp [lv_args, cat_rf, cat_i, cat_l, cat_a]) (by simp [lg_sl, cat_rf, cat_i, cat_l, cat_a]) (fun p e R s m args below meth c Q A C => ?_)
  have j_54 : ∀ (S : Sg), f_overlap_54 K S = some (Sf, rf) → WX p l e R s m args below meth c Q D A K m9 mr 3 S0 S 54 [] [] := by
    intro S h
    unfold f_overlap_54 at h
    refine x_iconst (v := 1) C eX23_overlap_54 (by decide) ?_
    exact x_zret C rfl rfl eX23_overlap_55 h
  have j_15 : ∀ (n_15 : Nat) (S : Sg) (x0 : Option Nat) (x1 : Option Nat) (x2 : Int32), f_overlap_15 K n_15 S x0 x1 x2 = some (Sf, rf) → WX p l e R s m args below meth c Q D A K m9 mr 3 S0 S 15 [(0, va_rf x0), (1, va_rf x1), (2, .int x2)] [] := by
    intro n_15
    induction n_15 with
    | zero => intro S x0 x1 x2 h; unfold f_overlap_15 at h; cases h
    | succ n_15 ih_15 =>
      intro S x0 x1 x2 h
      unfold f_overlap_15 at h
      refine x_iload_n C eX23_overlap_15 rfl 2 rfl ?_
      refine x_aload_n C eX23_overlap_16 rfl 0 rfl ?_
      refine x_gI (o9 := x0) (ci := 18) (k9 := 1) (Cn := RX18) (T := TX18) (N := 4) C rfl wt_X18 (by decide) ww_535 eX23_overlap_17 h (fun v3 h => ?_)
      refine x_ic_ge (tgt := 54) C eX23_overlap_20 (by decide) h (fun h => ?_) (fun h => ?_)
      · refine x_sub [] rfl ?_
        exact j_54 S h
      · refine x_iload_n C eX23_overlap_23 rfl 2 rfl ?_
        refine x_aload_n C eX23_overlap_24 rfl 1 rfl ?_
        refine x_gI (o9 := x1) (ci := 18) (k9 := 1) (Cn := RX18) (T := TX18) (N := 4) C rfl wt_X18 (by decide) ww_535 eX23_overlap_25 h (fun v4 h => ?_)
        refine x_ic_ge (tgt := 54) C eX23_overlap_28 (by decide) h (fun h => ?_) (fun h => ?_)
        · refine x_sub [] rfl ?_
          exact j_54 S h
        · refine x_aload_n C eX23_overlap_31 rfl 0 rfl ?_
          refine x_gR (o9 := x0) (ci := 18) (k9 := 2) (Cn := RX18) (T := TX18) (N := 4) C rfl wt_X18 (by decide) ww_516 eX23_overlap_32 h (fun v5 h => ?_)
          refine x_iload_n C eX23_overlap_35 rfl 2 rfl ?_
          refine x_aI C eX23_overlap_36 h (fun v6 h => ?_)
          refine x_aload_n C eX23_overlap_37 rfl 1 rfl ?_
          refine x_gR (o9 := x1) (ci := 18) (k9 := 2) (Cn := RX18) (T := TX18) (N := 4) C rfl wt_X18 (by decide) ww_516 eX23_overlap_38 h (fun v7 h => ?_)
          refine x_iload_n C eX23_overlap_41 rfl 2 rfl ?_
          refine x_aI C eX23_overlap_42 h (fun v8 h => ?_)
          refine x_ic_eq (tgt := 48) C eX23_overlap_43 (by decide) h (fun h => ?_) (fun h => ?_)
          · refine x_iinc (j := 2) (v := 1) (lv2 := [(0, va_rf x0), (1, va_rf x1)]) C eX23_overlap_48 rfl (by decide) (by decide) rfl (oky (cat_rf x0) (oky (cat_rf x1) ok0)) ?_
            refine x_goto (tgt := 15) C eX23_overlap_51 (by decide) ?_
            refine x_sub [1, 2, 0] rfl ?_
            exact ih_15 S x0 x1 (x2 + 1) h
          · refine x_iconst (v := 0) C eX23_overlap_46 (by decide) ?_
            exact x_zret C rfl rfl eX23_overlap_47 h
  unfold f_overlap at h
  refine x_aload_n C eX23_overlap_0 rfl 0 rfl ?_
  refine x_gR (o9 := x0) (ci := 18) (k9 := 0) (Cn := RX18) (T := TX18) (N := 4) C rfl wt_X18 (by decide) ww_510 eX23_overlap_1 h (fun v1 h => ?_)
  refine x_aload_n C eX23_overlap_4 rfl 1 rfl ?_
  refine x_gR (o9 := x1) (ci := 18) (k9 := 0) (Cn := RX18) (T := TX18) (N := 4) C rfl wt_X18 (by decide) ww_510 eX23_overlap_5 h (fun v2 h => ?_)
  refine x_ac_eq (tgt := 13) C eX23_overlap_8 (by decide) h (fun h => ?_) (fun h => ?_)
  · refine x_iconst (v := 0) C eX23_overlap_13 (by decide) ?_
    refine x_istore_n (lv2 := [(0, va_rf x0), (1, va_rf x1)]) C eX23_overlap_14 rfl (by decide) rfl (oky (cat_rf x0) (oky (cat_rf x1) ok0)) ?_
    refine x_sub [1, 2, 0] rfl ?_
    exact j_15 bigN S0 x0 x1 0 h
  · refine x_iconst (v := 0) C eX23_overlap_11 (by decide) ?_
    exact x_zret C rfl rfl eX23_overlap_12 h
set_option maxRecDepth 20000 in
set_option maxHeartbeats 4000000 in
theorem k_X23_meets (l : Launch) (D : va_G) (K : Ky) (m9 : Nat) (mr : Nat → Nat) (S0 Sf : Sg) (x1 : Int32) (x2 : Int32) (rf : Int32) (h : f_meets K S0 x1 x2 = some (Sf, rf)) : CT l D K m9 mr yX23_meets (Cond.code yX23_meets cX23_meets 6 (some .boolean)) (2) (42) S0 Sf [.ref m9, .int x1, .int x2] (some (.int rf)) := by
  refine x_start (cc := cX23_meets) (lv := [(0, .ref m9), (1, .int x1), (2, .int x2)]) rfl rfl (by decide) (by simp [lv_args, cat_rf, cat_i, cat_l, cat_a]) (by simp [lg_sl, cat_rf, cat_i, cat_l, cat_a]) (fun p e R s m args below meth c Q A C => ?_)
  have j_61 : ∀ (S : Sg), f_meets_61 K S = some (Sf, rf) → WX p l e R s m args below meth c Q D A K m9 mr 6 S0 S 61 [] [] := by
    intro S h
    unfold f_meets_61 at h
    refine x_iconst (v := 0) C eX23_meets_61 (by decide) ?_
    exact x_zret C rfl rfl eX23_meets_62 h
  have j_135 : ∀ (S : Sg) (y0 : Int32), f_meets_135 K S y0 = some (Sf, rf) → WX p l e R s m args below meth c Q D A K m9 mr 6 S0 S 135 [] [.int y0] := by
    intro S y0 h
    unfold f_meets_135 at h
    exact x_zret C rfl rfl eX23_meets_135 h
  have j_123 : ∀ (S : Sg) (y0 : Int32), f_meets_123 K S y0 = some (Sf, rf) → WX p l e R s m args below meth c Q D A K m9 mr 6 S0 S 123 [] [.int y0] := by
    intro S y0 h
    unfold f_meets_123 at h
    refine x_istore (lv2 := []) C eX23_meets_123 (by decide) rfl ok0 ?_
    refine x_iload C eX23_meets_125 0 rfl ?_
    refine x_if_ne (tgt := 134) C eX23_meets_127 (by decide) h (fun h => ?_) (fun h => ?_)
    · refine x_iconst (v := 0) C eX23_meets_134 (by decide) ?_
      refine x_sub [] rfl ?_
      exact j_135 S 0 h
    · refine x_iconst (v := 1) C eX23_meets_130 (by decide) ?_
      refine x_goto (tgt := 135) C eX23_meets_131 (by decide) ?_
      refine x_sub [] rfl ?_
      exact j_135 S 1 h
  have j_122 : ∀ (S : Sg), f_meets_122 K S = some (Sf, rf) → WX p l e R s m args below meth c Q D A K m9 mr 6 S0 S 122 [] [] := by
    intro S h
    unfold f_meets_122 at h
    refine x_iconst (v := 0) C eX23_meets_122 (by decide) ?_
    refine x_sub [] rfl ?_
    exact j_123 S 0 h
  have j_75 : ∀ (S : Sg) (x2 : Int32) (x4 : Option Nat), f_meets_75 K S x2 x4 = some (Sf, rf) → WX p l e R s m args below meth c Q D A K m9 mr 6 S0 S 75 [(0, .ref m9), (2, .int x2), (4, va_rf x4)] [] := by
    intro S x2 x4 h
    unfold f_meets_75 at h
    refine x_aload C eX23_meets_75 2 rfl ?_
    refine x_gI (o9 := x4) (ci := 18) (k9 := 1) (Cn := RX18) (T := TX18) (N := 4) C rfl wt_X18 (by decide) ww_535 eX23_meets_77 h (fun v7 h => ?_)
    refine x_if_ne (tgt := 122) C eX23_meets_80 (by decide) h (fun h => ?_) (fun h => ?_)
    · refine x_sub [] rfl ?_
      exact j_122 S h
    · refine x_aload C eX23_meets_83 2 rfl ?_
      refine x_gR (o9 := x4) (ci := 18) (k9 := 3) (Cn := RX18) (T := TX18) (N := 4) C rfl wt_X18 (by decide) ww_511 eX23_meets_85 h (fun v8 h => ?_)
      refine x_iconst (v := 0) C eX23_meets_88 (by decide) ?_
      refine x_aQ (t9 := 4) C rfl eX23_meets_89 h (fun v9 h => ?_)
      refine x_ifnull (tgt := 122) C eX23_meets_90 (by decide) h (fun h => ?_) (fun h => ?_)
      · refine x_sub [] rfl ?_
        exact j_122 S h
      · refine x_aload C eX23_meets_93 2 rfl ?_
        refine x_gR (o9 := x4) (ci := 18) (k9 := 3) (Cn := RX18) (T := TX18) (N := 4) C rfl wt_X18 (by decide) ww_511 eX23_meets_95 h (fun v10 h => ?_)
        refine x_iconst (v := 0) C eX23_meets_98 (by decide) ?_
        refine x_aQ (t9 := 4) C rfl eX23_meets_99 h (fun v11 h => ?_)
        refine x_cSi (As := [va_rf v11]) (st := []) (n := 1) (frc := 1) (loc := 20) C h (fun S9 r9 e9 => k_X23_refers l D K m9 mr _ S9 v11 r9 e9) ww_258 ww_354 ww_355 ww_16 (by decide +kernel) rfl ⟨by omega, by omega⟩ (Nat.le_of_ble_eq_true rfl) eX23_meets_100 (fun S12 v13 h => ?_)
        refine x_if_eq (tgt := 122) C eX23_meets_103 (by decide) h (fun h => ?_) (fun h => ?_)
        · refine x_sub [] rfl ?_
          exact j_122 S12 h
        · refine x_tload_n C eX23_meets_106 rfl 0 rfl ?_
          refine x_mV (k9 := 43) C (by decide) ww_543 eX23_meets_107 rfl ?_
          refine x_iload_n C eX23_meets_110 rfl 1 rfl ?_
          refine x_rQ (r := 43) (t9 := 6) C (by decide) rfl (by decide) rfl eX23_meets_111 h (fun v14 h => ?_)
          refine x_cSi (As := [va_rf v14]) (st := []) (n := 1) (frc := 1) (loc := 20) C h (fun S9 r9 e9 => k_X23_hasStar l D K m9 mr _ S9 v14 r9 e9) ww_650 ww_665 ww_666 ww_16 (by decide +kernel) rfl ⟨by omega, by omega⟩ (Nat.le_of_ble_eq_true rfl) eX23_meets_112 (fun S15 v16 h => ?_)
          refine x_if_eq (tgt := 122) C eX23_meets_115 (by decide) h (fun h => ?_) (fun h => ?_)
          · refine x_sub [] rfl ?_
            exact j_122 S15 h
          · refine x_iconst (v := 1) C eX23_meets_118 (by decide) ?_
            refine x_goto (tgt := 123) C eX23_meets_119 (by decide) ?_
            refine x_sub [] rfl ?_
            exact j_123 S15 1 h
  have j_63 : ∀ (S : Sg) (x2 : Int32) (x3 : Int32) (x4 : Option Nat), f_meets_63 K S x2 x3 x4 = some (Sf, rf) → WX p l e R s m args below meth c Q D A K m9 mr 6 S0 S 63 [(0, .ref m9), (2, .int x2), (3, .int x3), (4, va_rf x4)] [] := by
    intro S x2 x3 x4 h
    unfold f_meets_63 at h
    refine x_iload_n C eX23_meets_63 rfl 2 rfl ?_
    refine x_bipush (v := 7) C eX23_meets_64 (by decide) ?_
    refine x_ic_eq (tgt := 75) C eX23_meets_66 (by decide) h (fun h => ?_) (fun h => ?_)
    · refine x_sub [0, 1, 3] rfl ?_
      exact j_75 S x2 x4 h
    · refine x_iload_n C eX23_meets_69 rfl 2 rfl ?_
      refine x_bipush (v := 6) C eX23_meets_70 (by decide) ?_
      refine x_ic_ne (tgt := 122) C eX23_meets_72 (by decide) h (fun h => ?_) (fun h => ?_)
      · refine x_sub [] rfl ?_
        exact j_122 S h
      · refine x_sub [0, 1, 3] rfl ?_
        exact j_75 S x2 x4 h
  have j_52 : ∀ (S : Sg) (x2 : Int32) (x3 : Int32) (x4 : Option Nat), f_meets_52 K S x2 x3 x4 = some (Sf, rf) → WX p l e R s m args below meth c Q D A K m9 mr 6 S0 S 52 [(0, .ref m9), (2, .int x2), (3, .int x3), (4, va_rf x4)] [] := by
    intro S x2 x3 x4 h
    unfold f_meets_52 at h
    refine x_tload_n C eX23_meets_52 rfl 0 rfl ?_
    refine x_mV (k9 := 44) C (by decide) ww_545 eX23_meets_53 rfl ?_
    refine x_iload_n C eX23_meets_56 rfl 1 rfl ?_
    refine x_rZ (r := 44) C (by decide) rfl eX23_meets_57 h (fun v17 h => ?_)
    refine x_if_eq (tgt := 63) C eX23_meets_58 (by decide) h (fun h => ?_) (fun h => ?_)
    · refine x_sub [0, 1, 2, 3] rfl ?_
      exact j_63 S x2 x3 x4 h
    · refine x_sub [] rfl ?_
      exact j_61 S h
  unfold f_meets at h
  refine x_tload_n C eX23_meets_0 rfl 0 rfl ?_
  refine x_mV (k9 := 33) C (by decide) ww_491 eX23_meets_1 rfl ?_
  refine x_iload_n C eX23_meets_4 rfl 1 rfl ?_
  refine x_rI (r := 33) C (by decide) rfl eX23_meets_5 h (fun v1 h => ?_)
  refine x_istore_n (lv2 := [(0, .ref m9), (1, .int x1), (2, .int x2)]) C eX23_meets_6 rfl (by decide) rfl (oky rfl (oky rfl (oky rfl ok0))) ?_
  refine x_tload_n C eX23_meets_7 rfl 1 rfl ?_
  refine x_mV (k9 := 38) C (by decide) ww_496 eX23_meets_8 rfl ?_
  refine x_iload_n C eX23_meets_11 rfl 2 rfl ?_
  refine x_rQ (r := 38) (t9 := 6) C (by decide) rfl (by decide) rfl eX23_meets_12 h (fun v2 h => ?_)
  refine x_astore (lv2 := [(3, .int v1), (0, .ref m9), (1, .int x1), (2, .int x2)]) C eX23_meets_13 (by decide) rfl (oky rfl (oky rfl (oky rfl (oky rfl ok0)))) ?_
  refine x_iload_n C eX23_meets_15 rfl 1 rfl ?_
  refine x_if_eq (tgt := 61) C eX23_meets_16 (by decide) h (fun h => ?_) (fun h => ?_)
  · refine x_sub [] rfl ?_
    exact j_61 S0 h
  · refine x_tload_n C eX23_meets_19 rfl 2 rfl ?_
    refine x_mV (k9 := 43) C (by decide) ww_543 eX23_meets_20 rfl ?_
    refine x_iload_n C eX23_meets_23 rfl 4 rfl ?_
    refine x_rQ (r := 43) (t9 := 6) C (by decide) rfl (by decide) rfl eX23_meets_24 h (fun v3 h => ?_)
    refine x_ifnull (tgt := 61) C eX23_meets_25 (by decide) h (fun h => ?_) (fun h => ?_)
    · refine x_sub [] rfl ?_
      exact j_61 S0 h
    · refine x_aload C eX23_meets_28 0 rfl ?_
      refine x_tload_n C eX23_meets_30 rfl 2 rfl ?_
      refine x_mV (k9 := 43) C (by decide) ww_543 eX23_meets_31 rfl ?_
      refine x_iload_n C eX23_meets_34 rfl 4 rfl ?_
      refine x_rQ (r := 43) (t9 := 6) C (by decide) rfl (by decide) rfl eX23_meets_35 h (fun v4 h => ?_)
      refine x_cSi (As := [va_rf v2, va_rf v4]) (st := []) (n := 2) (frc := 1) (loc := 20) C h (fun S9 r9 e9 => k_X23_overlap l D K m9 mr _ S9 v2 v4 r9 e9) ww_702 ww_704 ww_705 ww_16 (by decide +kernel) rfl ⟨by omega, by omega⟩ (Nat.le_of_ble_eq_true rfl) eX23_meets_36 (fun S5 v6 h => ?_)
      refine x_if_eq (tgt := 61) C eX23_meets_39 (by decide) h (fun h => ?_) (fun h => ?_)
      · refine x_sub [] rfl ?_
        exact j_61 S5 h
      · refine x_iload_n C eX23_meets_42 rfl 1 rfl ?_
        refine x_iconst (v := 1) C eX23_meets_43 (by decide) ?_
        refine x_ic_eq (tgt := 52) C eX23_meets_44 (by decide) h (fun h => ?_) (fun h => ?_)
        · refine x_sub [2, 4, 1, 0] rfl ?_
          exact j_52 S5 x2 v1 v2 h
        · refine x_iload_n C eX23_meets_47 rfl 1 rfl ?_
          refine x_iconst (v := 2) C eX23_meets_48 (by decide) ?_
          refine x_ic_ne (tgt := 63) C eX23_meets_49 (by decide) h (fun h => ?_) (fun h => ?_)
          · refine x_sub [2, 4, 1, 0] rfl ?_
            exact j_63 S5 x2 v1 v2 h
          · refine x_sub [2, 4, 1, 0] rfl ?_
            exact j_52 S5 x2 v1 v2 h
set_option maxRecDepth 20000 in
set_option maxHeartbeats 4000000 in
theorem k_X23_aliveBehind (l : Launch) (D : va_G) (K : Ky) (m9 : Nat) (mr : Nat → Nat) (S0 Sf : Sg) (x1 : Int32) (x2 : Int32) (rf : Int32) (h : f_aliveBehind K S0 x1 x2 = some (Sf, rf)) : CT l D K m9 mr yX23_aliveBehind (Cond.code yX23_aliveBehind cX23_aliveBehind 4 (some .boolean)) (3) (69) S0 Sf [.ref m9, .int x1, .int x2] (some (.int rf)) := by
  refine x_start (cc := cX23_aliveBehind) (lv := [(0, .ref m9), (1, .int x1), (2, .int x2)]) rfl rfl (by decide) (by simp [lv_args, cat_rf, cat_i, cat_l, cat_a]) (by simp [lg_sl, cat_rf, cat_i, cat_l, cat_a]) (fun p e R s m args below meth c Q A C => ?_)
  have j_8 : ∀ (n_8 : Nat) (S : Sg) (x1 : Int32) (x3 : Int32), f_aliveBehind_8 K n_8 S x1 x3 = some (Sf, rf) → WX p l e R s m args below meth c Q D A K m9 mr 4 S0 S 8 [(0, .ref m9), (1, .int x1), (3, .int x3)] [] := by
    intro n_8
    induction n_8 with
    | zero => intro S x1 x3 h; unfold f_aliveBehind_8 at h; cases h
    | succ n_8 ih_8 =>
      intro S x1 x3 h
      have j_53 : ∀ (S : Sg) (x1 : Int32) (x3 : Int32), f_aliveBehind_53 K (f_aliveBehind_8 K n_8) S x1 x3 = some (Sf, rf) → WX p l e R s m args below meth c Q D A K m9 mr 4 S0 S 53 [(0, .ref m9), (1, .int x1), (3, .int x3)] [] := by
        intro S x1 x3 h
        unfold f_aliveBehind_53 at h
        refine x_iinc (j := 2) (v := 1) (lv2 := [(0, .ref m9), (1, .int x1)]) C eX23_aliveBehind_53 rfl (by decide) (by decide) rfl (oky rfl (oky rfl ok0)) ?_
        refine x_goto (tgt := 8) C eX23_aliveBehind_56 (by decide) ?_
        refine x_sub [1, 2, 0] rfl ?_
        exact ih_8 S x1 (x3 + 1) h
      unfold f_aliveBehind_8 at h
      refine x_iload_n C eX23_aliveBehind_8 rfl 2 rfl ?_
      refine x_sipush (v := 256) C eX23_aliveBehind_9 (by decide) ?_
      refine x_ic_ge (tgt := 59) C eX23_aliveBehind_12 (by decide) h (fun h => ?_) (fun h => ?_)
      · refine x_iconst (v := 0) C eX23_aliveBehind_59 (by decide) ?_
        exact x_zret C rfl rfl eX23_aliveBehind_60 h
      · refine x_iload_n C eX23_aliveBehind_15 rfl 2 rfl ?_
        refine x_tload_n C eX23_aliveBehind_16 rfl 0 rfl ?_
        refine x_mV (k9 := 34) C (by decide) ww_492 eX23_aliveBehind_17 rfl ?_
        refine x_iload_n C eX23_aliveBehind_20 rfl 1 rfl ?_
        refine x_rI (r := 34) C (by decide) rfl eX23_aliveBehind_21 h (fun v3 h => ?_)
        refine x_ic_eq (tgt := 53) C eX23_aliveBehind_22 (by decide) h (fun h => ?_) (fun h => ?_)
        · refine x_sub [0, 1, 2] rfl ?_
          exact j_53 S x1 x3 h
        · refine x_tload_n C eX23_aliveBehind_25 rfl 0 rfl ?_
          refine x_mV (k9 := 60) C (by decide) ww_694 eX23_aliveBehind_26 rfl ?_
          refine x_iconst (v := 0) C eX23_aliveBehind_29 (by decide) ?_
          refine x_iload_n C eX23_aliveBehind_30 rfl 2 rfl ?_
          refine x_cSi (As := [.ref (mr 60), .int 0, .int x3]) (st := []) (n := 3) (frc := 1) (loc := 20) C h (fun S9 r9 e9 => k_X23_get l D K m9 mr _ S9 60 0 x3 r9 (by decide) rfl e9) ww_645 ww_676 ww_677 ww_16 (by decide +kernel) rfl ⟨by omega, by omega⟩ (Nat.le_of_ble_eq_true rfl) eX23_aliveBehind_31 (fun S4 v5 h => ?_)
          refine x_if_eq (tgt := 53) C eX23_aliveBehind_34 (by decide) h (fun h => ?_) (fun h => ?_)
          · refine x_sub [0, 1, 2] rfl ?_
            exact j_53 S4 x1 x3 h
          · refine x_tload_n C eX23_aliveBehind_37 rfl 0 rfl ?_
            refine x_mV (k9 := 58) C (by decide) ww_690 eX23_aliveBehind_38 rfl ?_
            refine x_iconst (v := 4) C eX23_aliveBehind_41 (by decide) ?_
            refine x_iload_n C eX23_aliveBehind_42 rfl 1 rfl ?_
            refine x_imul C eX23_aliveBehind_43 ?_
            refine x_iload_n C eX23_aliveBehind_44 rfl 2 rfl ?_
            refine x_cSi (As := [.ref (mr 58), .int (4 * x1), .int x3]) (st := []) (n := 3) (frc := 1) (loc := 20) C h (fun S9 r9 e9 => k_X23_get l D K m9 mr _ S9 58 (4 * x1) x3 r9 (by decide) rfl e9) ww_645 ww_676 ww_677 ww_16 (by decide +kernel) rfl ⟨by omega, by omega⟩ (Nat.le_of_ble_eq_true rfl) eX23_aliveBehind_45 (fun S6 v7 h => ?_)
            refine x_if_eq (tgt := 53) C eX23_aliveBehind_48 (by decide) h (fun h => ?_) (fun h => ?_)
            · refine x_sub [0, 1, 2] rfl ?_
              exact j_53 S6 x1 x3 h
            · refine x_iconst (v := 1) C eX23_aliveBehind_51 (by decide) ?_
              exact x_zret C rfl rfl eX23_aliveBehind_52 h
  unfold f_aliveBehind at h
  refine x_tload_n C eX23_aliveBehind_0 rfl 0 rfl ?_
  refine x_iload_n C eX23_aliveBehind_1 rfl 1 rfl ?_
  refine x_iload_n C eX23_aliveBehind_2 rfl 2 rfl ?_
  refine x_cVv (As := [.int x1, .int x2]) (st := []) (n := 2) (frc := 2) (loc := 45) C h (fun S9 r9 e9 => k_X23_holdBehind l D K m9 mr _ S9 x1 x2 r9 e9) ww_696 ww_699 ww_700 ww_701 ww_16 (by decide +kernel) rfl ⟨by omega, by omega⟩ (Nat.le_of_ble_eq_true rfl) eX23_aliveBehind_3 (fun S1 v2 h => ?_)
  refine x_iconst (v := 0) C eX23_aliveBehind_6 (by decide) ?_
  refine x_istore_n (lv2 := [(0, .ref m9), (1, .int x1), (2, .int x2)]) C eX23_aliveBehind_7 rfl (by decide) rfl (oky rfl (oky rfl (oky rfl ok0))) ?_
  refine x_sub [1, 2, 0] rfl ?_
  exact j_8 bigN S1 x1 0 h
set_option maxRecDepth 20000 in
set_option maxHeartbeats 4000000 in
theorem k_X23_goesOut (l : Launch) (D : va_G) (K : Ky) (m9 : Nat) (mr : Nat → Nat) (S0 Sf : Sg) (x1 : Option Nat) (x2 : Int32) (x3 : Int32) (rf : Int32) (h : f_goesOut K S0 x1 x2 x3 = some (Sf, rf)) : CT l D K m9 mr yX23_goesOut (Cond.code yX23_goesOut cX23_goesOut 4 (some .boolean)) (2) (42) S0 Sf [.ref m9, va_rf x1, .int x2, .int x3] (some (.int rf)) := by
  refine x_start (cc := cX23_goesOut) (lv := [(0, .ref m9), (1, va_rf x1), (2, .int x2), (3, .int x3)]) rfl rfl (by decide) (by simp [lv_args, cat_rf, cat_i, cat_l, cat_a]) (by simp [lg_sl, cat_rf, cat_i, cat_l, cat_a]) (fun p e R s m args below meth c Q A C => ?_)
  have j_64 : ∀ (S : Sg) (y0 : Int32), f_goesOut_64 K S y0 = some (Sf, rf) → WX p l e R s m args below meth c Q D A K m9 mr 4 S0 S 64 [] [.int y0] := by
    intro S y0 h
    unfold f_goesOut_64 at h
    exact x_zret C rfl rfl eX23_goesOut_64 h
  have j_63 : ∀ (S : Sg), f_goesOut_63 K S = some (Sf, rf) → WX p l e R s m args below meth c Q D A K m9 mr 4 S0 S 63 [] [] := by
    intro S h
    unfold f_goesOut_63 at h
    refine x_iconst (v := 0) C eX23_goesOut_63 (by decide) ?_
    refine x_sub [] rfl ?_
    exact j_64 S 0 h
  unfold f_goesOut at h
  refine x_tload_n C eX23_goesOut_0 rfl 0 rfl ?_
  refine x_mV (k9 := 27) C (by decide) ww_485 eX23_goesOut_1 rfl ?_
  refine x_iload_n C eX23_goesOut_4 rfl 2 rfl ?_
  refine x_rI (r := 27) C (by decide) rfl eX23_goesOut_5 h (fun v1 h => ?_)
  refine x_bipush (v := 25) C eX23_goesOut_6 (by decide) ?_
  refine x_ic_ne (tgt := 63) C eX23_goesOut_8 (by decide) h (fun h => ?_) (fun h => ?_)
  · refine x_sub [] rfl ?_
    exact j_63 S0 h
  · refine x_tload_n C eX23_goesOut_11 rfl 0 rfl ?_
    refine x_mV (k9 := 45) C (by decide) ww_546 eX23_goesOut_12 rfl ?_
    refine x_iload_n C eX23_goesOut_15 rfl 3 rfl ?_
    refine x_rI (r := 45) C (by decide) rfl eX23_goesOut_16 h (fun v2 h => ?_)
    refine x_if_lt (tgt := 63) C eX23_goesOut_17 (by decide) h (fun h => ?_) (fun h => ?_)
    · refine x_sub [] rfl ?_
      exact j_63 S0 h
    · refine x_aload_n C eX23_goesOut_20 rfl 1 rfl ?_
      refine x_gI (o9 := x1) (ci := 16) (k9 := 7) (Cn := RX16) (T := TX16) (N := 22) C rfl wt_X16 (by decide) ww_286 eX23_goesOut_21 h (fun v3 h => ?_)
      refine x_if_lt (tgt := 63) C eX23_goesOut_24 (by decide) h (fun h => ?_) (fun h => ?_)
      · refine x_sub [] rfl ?_
        exact j_63 S0 h
      · refine x_tload_n C eX23_goesOut_27 rfl 0 rfl ?_
        refine x_mV (k9 := 46) C (by decide) ww_633 eX23_goesOut_28 rfl ?_
        refine x_iload_n C eX23_goesOut_31 rfl 3 rfl ?_
        refine x_rI (r := 46) C (by decide) rfl eX23_goesOut_32 h (fun v4 h => ?_)
        refine x_aload_n C eX23_goesOut_33 rfl 1 rfl ?_
        refine x_gI (o9 := x1) (ci := 16) (k9 := 7) (Cn := RX16) (T := TX16) (N := 22) C rfl wt_X16 (by decide) ww_286 eX23_goesOut_34 h (fun v5 h => ?_)
        refine x_ic_eq (tgt := 63) C eX23_goesOut_37 (by decide) h (fun h => ?_) (fun h => ?_)
        · refine x_sub [] rfl ?_
          exact j_63 S0 h
        · refine x_tload_n C eX23_goesOut_40 rfl 0 rfl ?_
          refine x_mV (k9 := 59) C (by decide) ww_697 eX23_goesOut_41 rfl ?_
          refine x_iconst (v := 4) C eX23_goesOut_44 (by decide) ?_
          refine x_iload_n C eX23_goesOut_45 rfl 2 rfl ?_
          refine x_imul C eX23_goesOut_46 ?_
          refine x_tload_n C eX23_goesOut_47 rfl 0 rfl ?_
          refine x_mV (k9 := 28) C (by decide) ww_487 eX23_goesOut_48 rfl ?_
          refine x_iload_n C eX23_goesOut_51 rfl 2 rfl ?_
          refine x_rI (r := 28) C (by decide) rfl eX23_goesOut_52 h (fun v6 h => ?_)
          refine x_cSi (As := [.ref (mr 59), .int (4 * x2), .int v6]) (st := []) (n := 3) (frc := 1) (loc := 20) C h (fun S9 r9 e9 => k_X23_get l D K m9 mr _ S9 59 (4 * x2) v6 r9 (by decide) rfl e9) ww_645 ww_676 ww_677 ww_16 (by decide +kernel) rfl ⟨by omega, by omega⟩ (Nat.le_of_ble_eq_true rfl) eX23_goesOut_53 (fun S7 v8 h => ?_)
          refine x_if_eq (tgt := 63) C eX23_goesOut_56 (by decide) h (fun h => ?_) (fun h => ?_)
          · refine x_sub [] rfl ?_
            exact j_63 S7 h
          · refine x_iconst (v := 1) C eX23_goesOut_59 (by decide) ?_
            refine x_goto (tgt := 64) C eX23_goesOut_60 (by decide) ?_
            refine x_sub [] rfl ?_
            exact j_64 S7 1 h
set_option maxRecDepth 20000 in
set_option maxHeartbeats 4000000 in
theorem k_X23_checkLoans (l : Launch) (D : va_G) (K : Ky) (m9 : Nat) (mr : Nat → Nat) (S0 Sf : Sg) (x1 : Option Nat) (rf : Unit) (h : f_checkLoans K S0 x1 = some (Sf, rf)) : CT l D K m9 mr yX23_checkLoans (Cond.code yX23_checkLoans cX23_checkLoans 6 none) (4) (98) S0 Sf [.ref m9, va_rf x1] none := by
  refine x_start (cc := cX23_checkLoans) (lv := [(0, .ref m9), (1, va_rf x1)]) rfl rfl (by decide) (by simp [lv_args, cat_rf, cat_i, cat_l, cat_a]) (by simp [lg_sl, cat_rf, cat_i, cat_l, cat_a]) (fun p e R s m args below meth c Q A C => ?_)
  have j_137 : ∀ (S : Sg), f_checkLoans_137 K S = some (Sf, rf) → WX p l e R s m args below meth c Q D A K m9 mr 6 S0 S 137 [] [] := by
    intro S h
    unfold f_checkLoans_137 at h
    exact x_vret C rfl rfl eX23_checkLoans_137 h
  have j_9 : ∀ (n_9 : Nat) (S : Sg) (x1 : Option Nat) (x2 : Int32) (x3 : Int32), f_checkLoans_9 K n_9 S x1 x2 x3 = some (Sf, rf) → WX p l e R s m args below meth c Q D A K m9 mr 6 S0 S 9 [(0, .ref m9), (1, va_rf x1), (2, .int x2), (3, .int x3)] [] := by
    intro n_9
    induction n_9 with
    | zero => intro S x1 x2 x3 h; unfold f_checkLoans_9 at h; cases h
    | succ n_9 ih_9 =>
      intro S x1 x2 x3 h
      have j_29 : ∀ (n_29 : Nat) (S : Sg) (x1 : Option Nat) (x2 : Int32) (x3 : Int32) (x4 : Int32), f_checkLoans_29 K (f_checkLoans_9 K n_9) n_29 S x1 x2 x3 x4 = some (Sf, rf) → WX p l e R s m args below meth c Q D A K m9 mr 6 S0 S 29 [(0, .ref m9), (1, va_rf x1), (2, .int x2), (3, .int x3), (4, .int x4)] [] := by
        intro n_29
        induction n_29 with
        | zero => intro S x1 x2 x3 x4 h; unfold f_checkLoans_29 at h; cases h
        | succ n_29 ih_29 =>
          intro S x1 x2 x3 x4 h
          have j_114 : ∀ (S : Sg) (x1 : Option Nat) (x2 : Int32) (x3 : Int32) (x4 : Int32), f_checkLoans_114 K (f_checkLoans_9 K n_9) (f_checkLoans_29 K (f_checkLoans_9 K n_9) n_29) S x1 x2 x3 x4 = some (Sf, rf) → WX p l e R s m args below meth c Q D A K m9 mr 6 S0 S 114 [(0, .ref m9), (1, va_rf x1), (2, .int x2), (3, .int x3), (4, .int x4)] [] := by
            intro S x1 x2 x3 x4 h
            unfold f_checkLoans_114 at h
            refine x_iinc (j := 4) (v := 1) (lv2 := [(0, .ref m9), (1, va_rf x1), (2, .int x2), (3, .int x3)]) C eX23_checkLoans_114 rfl (by decide) (by decide) rfl (oky rfl (oky (cat_rf x1) (oky rfl (oky rfl ok0)))) ?_
            refine x_goto (tgt := 29) C eX23_checkLoans_117 (by decide) ?_
            refine x_sub [1, 2, 3, 4, 0] rfl ?_
            exact ih_29 S x1 x2 x3 (x4 + 1) h
          have j_106 : ∀ (S : Sg) (x1 : Option Nat) (x3 : Int32) (x4 : Int32), f_checkLoans_106 K (f_checkLoans_9 K n_9) (f_checkLoans_29 K (f_checkLoans_9 K n_9) n_29) S x1 x3 x4 = some (Sf, rf) → WX p l e R s m args below meth c Q D A K m9 mr 6 S0 S 106 [(0, .ref m9), (1, va_rf x1), (3, .int x3), (4, .int x4)] [] := by
            intro S x1 x3 x4 h
            unfold f_checkLoans_106 at h
            refine x_tload_n C eX23_checkLoans_106 rfl 0 rfl ?_
            refine x_mV (k9 := 32) C (by decide) ww_486 eX23_checkLoans_107 rfl ?_
            refine x_iload C eX23_checkLoans_110 3 rfl ?_
            refine x_rI (r := 32) C (by decide) rfl eX23_checkLoans_112 h (fun v15 h => ?_)
            refine x_istore_n (lv2 := [(0, .ref m9), (1, va_rf x1), (3, .int x3), (4, .int x4)]) C eX23_checkLoans_113 rfl (by decide) rfl (oky rfl (oky (cat_rf x1) (oky rfl (oky rfl ok0)))) ?_
            refine x_sub [1, 2, 0, 3, 4] rfl ?_
            exact j_114 S x1 v15 x3 x4 h
          have j_95 : ∀ (S : Sg) (x1 : Option Nat) (x2 : Int32) (x3 : Int32) (x4 : Int32), f_checkLoans_95 K (f_checkLoans_9 K n_9) (f_checkLoans_29 K (f_checkLoans_9 K n_9) n_29) S x1 x2 x3 x4 = some (Sf, rf) → WX p l e R s m args below meth c Q D A K m9 mr 6 S0 S 95 [(0, .ref m9), (1, va_rf x1), (2, .int x2), (3, .int x3), (4, .int x4)] [] := by
            intro S x1 x2 x3 x4 h
            unfold f_checkLoans_95 at h
            refine x_tload_n C eX23_checkLoans_95 rfl 0 rfl ?_
            refine x_aload_n C eX23_checkLoans_96 rfl 1 rfl ?_
            refine x_iload C eX23_checkLoans_97 4 rfl ?_
            refine x_iload_n C eX23_checkLoans_99 rfl 3 rfl ?_
            refine x_cVi (As := [va_rf x1, .int x4, .int x3]) (st := []) (n := 3) (frc := 2) (loc := 42) C h (fun S9 r9 e9 => k_X23_goesOut l D K m9 mr _ S9 x1 x4 x3 r9 e9) ww_707 ww_721 ww_722 ww_723 ww_16 (by decide +kernel) rfl ⟨by omega, by omega⟩ (Nat.le_of_ble_eq_true rfl) eX23_checkLoans_100 (fun S16 v17 h => ?_)
            refine x_if_eq (tgt := 114) C eX23_checkLoans_103 (by decide) h (fun h => ?_) (fun h => ?_)
            · refine x_sub [0, 1, 2, 3, 4] rfl ?_
              exact j_114 S16 x1 x2 x3 x4 h
            · refine x_sub [0, 1, 3, 4] rfl ?_
              exact j_106 S16 x1 x3 x4 h
          have j_68 : ∀ (S : Sg) (x1 : Option Nat) (x2 : Int32) (x3 : Int32) (x4 : Int32) (y0 : Int32), f_checkLoans_68 K (f_checkLoans_9 K n_9) (f_checkLoans_29 K (f_checkLoans_9 K n_9) n_29) S x1 x2 x3 x4 y0 = some (Sf, rf) → WX p l e R s m args below meth c Q D A K m9 mr 6 S0 S 68 [(0, .ref m9), (1, va_rf x1), (2, .int x2), (3, .int x3), (4, .int x4)] [.int y0] := by
            intro S x1 x2 x3 x4 y0 h
            unfold f_checkLoans_68 at h
            refine x_istore (lv2 := [(0, .ref m9), (1, va_rf x1), (2, .int x2), (3, .int x3), (4, .int x4)]) C eX23_checkLoans_68 (by decide) rfl (oky rfl (oky (cat_rf x1) (oky rfl (oky rfl (oky rfl ok0))))) ?_
            refine x_iload C eX23_checkLoans_70 0 rfl ?_
            refine x_if_eq (tgt := 114) C eX23_checkLoans_72 (by decide) h (fun h => ?_) (fun h => ?_)
            · refine x_sub [1, 2, 3, 4, 5] rfl ?_
              exact j_114 S x1 x2 x3 x4 h
            · refine x_tload_n C eX23_checkLoans_75 rfl 1 rfl ?_
              refine x_iload C eX23_checkLoans_76 5 rfl ?_
              refine x_iload_n C eX23_checkLoans_78 rfl 4 rfl ?_
              refine x_cVi (As := [.int x4, .int x3]) (st := []) (n := 2) (frc := 2) (loc := 42) C h (fun S9 r9 e9 => k_X23_meets l D K m9 mr _ S9 x4 x3 r9 e9) ww_703 ww_715 ww_716 ww_717 ww_16 (by decide +kernel) rfl ⟨by omega, by omega⟩ (Nat.le_of_ble_eq_true rfl) eX23_checkLoans_79 (fun S11 v12 h => ?_)
              refine x_if_eq (tgt := 95) C eX23_checkLoans_82 (by decide) h (fun h => ?_) (fun h => ?_)
              · refine x_sub [1, 2, 3, 4, 5] rfl ?_
                exact j_95 S11 x1 x2 x3 x4 h
              · refine x_tload_n C eX23_checkLoans_85 rfl 1 rfl ?_
                refine x_iload C eX23_checkLoans_86 5 rfl ?_
                refine x_iload_n C eX23_checkLoans_88 rfl 4 rfl ?_
                refine x_cVi (As := [.int x4, .int x3]) (st := []) (n := 2) (frc := 3) (loc := 69) C h (fun S9 r9 e9 => k_X23_aliveBehind l D K m9 mr _ S9 x4 x3 r9 e9) ww_706 ww_718 ww_719 ww_720 ww_16 (by decide +kernel) rfl ⟨by omega, by omega⟩ (Nat.le_of_ble_eq_true rfl) eX23_checkLoans_89 (fun S13 v14 h => ?_)
                refine x_if_ne (tgt := 106) C eX23_checkLoans_92 (by decide) h (fun h => ?_) (fun h => ?_)
                · refine x_sub [1, 2, 4, 5] rfl ?_
                  exact j_106 S13 x1 x3 x4 h
                · refine x_sub [1, 2, 3, 4, 5] rfl ?_
                  exact j_95 S13 x1 x2 x3 x4 h
          have j_63 : ∀ (S : Sg) (x1 : Option Nat) (x2 : Int32) (x3 : Int32) (x4 : Int32), f_checkLoans_63 K (f_checkLoans_9 K n_9) (f_checkLoans_29 K (f_checkLoans_9 K n_9) n_29) S x1 x2 x3 x4 = some (Sf, rf) → WX p l e R s m args below meth c Q D A K m9 mr 6 S0 S 63 [(0, .ref m9), (1, va_rf x1), (2, .int x2), (3, .int x3), (4, .int x4)] [] := by
            intro S x1 x2 x3 x4 h
            unfold f_checkLoans_63 at h
            refine x_iconst (v := 1) C eX23_checkLoans_63 (by decide) ?_
            refine x_goto (tgt := 68) C eX23_checkLoans_64 (by decide) ?_
            refine x_sub [0, 1, 2, 3, 4] rfl ?_
            exact j_68 S x1 x2 x3 x4 1 h
          have j_67 : ∀ (S : Sg) (x1 : Option Nat) (x2 : Int32) (x3 : Int32) (x4 : Int32), f_checkLoans_67 K (f_checkLoans_9 K n_9) (f_checkLoans_29 K (f_checkLoans_9 K n_9) n_29) S x1 x2 x3 x4 = some (Sf, rf) → WX p l e R s m args below meth c Q D A K m9 mr 6 S0 S 67 [(0, .ref m9), (1, va_rf x1), (2, .int x2), (3, .int x3), (4, .int x4)] [] := by
            intro S x1 x2 x3 x4 h
            unfold f_checkLoans_67 at h
            refine x_iconst (v := 0) C eX23_checkLoans_67 (by decide) ?_
            refine x_sub [0, 1, 2, 3, 4] rfl ?_
            exact j_68 S x1 x2 x3 x4 0 h
          unfold f_checkLoans_29 at h
          refine x_iload C eX23_checkLoans_29 4 rfl ?_
          refine x_aload_n C eX23_checkLoans_31 rfl 1 rfl ?_
          refine x_gI (o9 := x1) (ci := 16) (k9 := 4) (Cn := RX16) (T := TX16) (N := 22) C rfl wt_X16 (by decide) ww_634 eX23_checkLoans_32 h (fun v8 h => ?_)
          refine x_ic_ge (tgt := 120) C eX23_checkLoans_35 (by decide) h (fun h => ?_) (fun h => ?_)
          · refine x_iinc (j := 3) (v := 1) (lv2 := [(0, .ref m9), (1, va_rf x1), (2, .int x2), (4, .int x4)]) C eX23_checkLoans_120 rfl (by decide) (by decide) rfl (oky rfl (oky (cat_rf x1) (oky rfl (oky rfl ok0)))) ?_
            refine x_goto (tgt := 9) C eX23_checkLoans_123 (by decide) ?_
            refine x_sub [1, 2, 3, 0] rfl ?_
            exact ih_9 S x1 x2 (x3 + 1) h
          · refine x_tload_n C eX23_checkLoans_38 rfl 0 rfl ?_
            refine x_mV (k9 := 52) C (by decide) ww_637 eX23_checkLoans_39 rfl ?_
            refine x_iload C eX23_checkLoans_42 4 rfl ?_
            refine x_rZ (r := 52) C (by decide) rfl eX23_checkLoans_44 h (fun v9 h => ?_)
            refine x_if_eq (tgt := 67) C eX23_checkLoans_45 (by decide) h (fun h => ?_) (fun h => ?_)
            · refine x_sub [0, 1, 2, 3, 4] rfl ?_
              exact j_67 S x1 x2 x3 x4 h
            · refine x_iload_n C eX23_checkLoans_48 rfl 2 rfl ?_
              refine x_if_lt (tgt := 63) C eX23_checkLoans_49 (by decide) h (fun h => ?_) (fun h => ?_)
              · refine x_sub [0, 1, 2, 3, 4] rfl ?_
                exact j_63 S x1 x2 x3 x4 h
              · refine x_tload_n C eX23_checkLoans_52 rfl 0 rfl ?_
                refine x_mV (k9 := 32) C (by decide) ww_486 eX23_checkLoans_53 rfl ?_
                refine x_iload C eX23_checkLoans_56 4 rfl ?_
                refine x_rI (r := 32) C (by decide) rfl eX23_checkLoans_58 h (fun v10 h => ?_)
                refine x_iload_n C eX23_checkLoans_59 rfl 2 rfl ?_
                refine x_ic_ge (tgt := 67) C eX23_checkLoans_60 (by decide) h (fun h => ?_) (fun h => ?_)
                · refine x_sub [0, 1, 2, 3, 4] rfl ?_
                  exact j_67 S x1 x2 x3 x4 h
                · refine x_sub [0, 1, 2, 3, 4] rfl ?_
                  exact j_63 S x1 x2 x3 x4 h
      unfold f_checkLoans_9 at h
      refine x_iload_n C eX23_checkLoans_9 rfl 3 rfl ?_
      refine x_tload_n C eX23_checkLoans_10 rfl 0 rfl ?_
      refine x_mV (k9 := 47) C (by decide) ww_544 eX23_checkLoans_11 rfl ?_
      refine x_ic_ge (tgt := 126) C eX23_checkLoans_14 (by decide) h (fun h => ?_) (fun h => ?_)
      · refine x_iload_n C eX23_checkLoans_126 rfl 2 rfl ?_
        refine x_if_lt (tgt := 137) C eX23_checkLoans_127 (by decide) h (fun h => ?_) (fun h => ?_)
        · refine x_sub [] rfl ?_
          exact j_137 S h
        · refine x_tload_n C eX23_checkLoans_130 rfl 0 rfl ?_
          refine x_bipush (v := 6) C eX23_checkLoans_131 (by decide) ?_
          refine x_iload_n C eX23_checkLoans_133 rfl 2 rfl ?_
          refine x_cVv (As := [.int 6, .int x2]) (st := []) (n := 2) (frc := 1) (loc := 20) C h (fun S9 r9 e9 => k_X23_fail l D K m9 mr _ S9 6 x2 r9 e9) ww_2 ww_20 ww_21 ww_22 ww_16 (by decide +kernel) rfl ⟨by omega, by omega⟩ (Nat.le_of_ble_eq_true rfl) eX23_checkLoans_134 (fun S3 v4 h => ?_)
          refine x_sub [] rfl ?_
          exact j_137 S3 h
      · refine x_tload_n C eX23_checkLoans_17 rfl 0 rfl ?_
        refine x_aload_n C eX23_checkLoans_18 rfl 1 rfl ?_
        refine x_iload_n C eX23_checkLoans_19 rfl 3 rfl ?_
        refine x_cVv (As := [va_rf x1, .int x3]) (st := []) (n := 2) (frc := 3) (loc := 69) C h (fun S9 r9 e9 => k_X23_spreadLoan l D K m9 mr _ S9 x1 x3 r9 e9) ww_698 ww_712 ww_713 ww_714 ww_16 (by decide +kernel) rfl ⟨by omega, by omega⟩ (Nat.le_of_ble_eq_true rfl) eX23_checkLoans_20 (fun S5 v6 h => ?_)
        refine x_aload_n C eX23_checkLoans_23 rfl 1 rfl ?_
        refine x_gI (o9 := x1) (ci := 16) (k9 := 5) (Cn := RX16) (T := TX16) (N := 22) C rfl wt_X16 (by decide) ww_632 eX23_checkLoans_24 h (fun v7 h => ?_)
        refine x_istore (lv2 := [(0, .ref m9), (1, va_rf x1), (2, .int x2), (3, .int x3)]) C eX23_checkLoans_27 (by decide) rfl (oky rfl (oky (cat_rf x1) (oky rfl (oky rfl ok0)))) ?_
        refine x_sub [1, 2, 3, 4, 0] rfl ?_
        exact j_29 bigN S5 x1 x2 x3 v7 h
  unfold f_checkLoans at h
  refine x_tload_n C eX23_checkLoans_0 rfl 0 rfl ?_
  refine x_aload_n C eX23_checkLoans_1 rfl 1 rfl ?_
  refine x_cVv (As := [va_rf x1]) (st := []) (n := 1) (frc := 3) (loc := 67) C h (fun S9 r9 e9 => k_X23_spreadLives l D K m9 mr _ S9 x1 r9 e9) ww_689 ww_709 ww_710 ww_711 ww_16 (by decide +kernel) rfl ⟨by omega, by omega⟩ (Nat.le_of_ble_eq_true rfl) eX23_checkLoans_2 (fun S1 v2 h => ?_)
  refine x_iconst (v := (-1)) C eX23_checkLoans_5 (by decide) ?_
  refine x_istore_n (lv2 := [(0, .ref m9), (1, va_rf x1)]) C eX23_checkLoans_6 rfl (by decide) rfl (oky rfl (oky (cat_rf x1) ok0)) ?_
  refine x_iconst (v := 0) C eX23_checkLoans_7 (by decide) ?_
  refine x_istore_n (lv2 := [(2, .int (-1)), (0, .ref m9), (1, va_rf x1)]) C eX23_checkLoans_8 rfl (by decide) rfl (oky rfl (oky rfl (oky (cat_rf x1) ok0))) ?_
  refine x_sub [2, 3, 1, 0] rfl ?_
  exact j_9 bigN S1 x1 (-1) 0 h
set_option maxRecDepth 20000 in
set_option maxHeartbeats 4000000 in
theorem k_X23_layAll (l : Launch) (D : va_G) (K : Ky) (m9 : Nat) (mr : Nat → Nat) (S0 Sf : Sg) (rf : Unit) (h : f_layAll K S0 = some (Sf, rf)) : CT l D K m9 mr yX23_layAll (Cond.code yX23_layAll cX23_layAll 2 none) (964) (21939) S0 Sf [.ref m9] none := by
  refine x_start (cc := cX23_layAll) (lv := [(0, .ref m9)]) rfl rfl (by decide) (by simp [lv_args, cat_rf, cat_i, cat_l, cat_a]) (by simp [lg_sl, cat_rf, cat_i, cat_l, cat_a]) (fun p e R s m args below meth c Q A C => ?_)
  have j_84 : ∀ (S : Sg), f_layAll_84 K S = some (Sf, rf) → WX p l e R s m args below meth c Q D A K m9 mr 2 S0 S 84 [] [] := by
    intro S h
    unfold f_layAll_84 at h
    exact x_vret C rfl rfl eX23_layAll_84 h
  have j_7 : ∀ (n_7 : Nat) (S : Sg) (x1 : Int32), f_layAll_7 K n_7 S x1 = some (Sf, rf) → WX p l e R s m args below meth c Q D A K m9 mr 2 S0 S 7 [(0, .ref m9), (1, .int x1)] [] := by
    intro n_7
    induction n_7 with
    | zero => intro S x1 h; unfold f_layAll_7 at h; cases h
    | succ n_7 ih_7 =>
      intro S x1 h
      have j_78 : ∀ (S : Sg) (x1 : Int32), f_layAll_78 K (f_layAll_7 K n_7) S x1 = some (Sf, rf) → WX p l e R s m args below meth c Q D A K m9 mr 2 S0 S 78 [(0, .ref m9), (1, .int x1)] [] := by
        intro S x1 h
        unfold f_layAll_78 at h
        refine x_iinc (j := 1) (v := 1) (lv2 := [(0, .ref m9)]) C eX23_layAll_78 rfl (by decide) (by decide) rfl (oky rfl ok0) ?_
        refine x_goto (tgt := 7) C eX23_layAll_81 (by decide) ?_
        refine x_sub [1, 0] rfl ?_
        exact ih_7 S (x1 + 1) h
      unfold f_layAll_7 at h
      refine x_iload_n C eX23_layAll_7 rfl 1 rfl ?_
      refine x_tload_n C eX23_layAll_8 rfl 0 rfl ?_
      refine x_mV (k9 := 12) C (by decide) ww_102 eX23_layAll_9 rfl ?_
      refine x_ic_ge (tgt := 84) C eX23_layAll_12 (by decide) h (fun h => ?_) (fun h => ?_)
      · refine x_sub [] rfl ?_
        exact j_84 S h
      · refine x_tload_n C eX23_layAll_15 rfl 0 rfl ?_
        refine x_cVi (As := []) (st := []) (n := 0) (frc := 1) (loc := 20) C h (fun S9 r9 e9 => k_X23_ok l D K m9 mr _ S9 r9 e9) ww_0 ww_13 ww_14 ww_15 ww_16 (by decide +kernel) rfl ⟨by omega, by omega⟩ (Nat.le_of_ble_eq_true rfl) eX23_layAll_16 (fun S2 v3 h => ?_)
        refine x_if_eq (tgt := 84) C eX23_layAll_19 (by decide) h (fun h => ?_) (fun h => ?_)
        · refine x_sub [] rfl ?_
          exact j_84 S2 h
        · refine x_tload_n C eX23_layAll_22 rfl 0 rfl ?_
          refine x_mV (k9 := 11) C (by decide) ww_114 eX23_layAll_23 rfl ?_
          refine x_iload_n C eX23_layAll_26 rfl 1 rfl ?_
          refine x_rQ (r := 11) (t9 := 3) C (by decide) rfl (by decide) rfl eX23_layAll_27 h (fun v4 h => ?_)
          refine x_gI (o9 := v4) (ci := 16) (k9 := 2) (Cn := RX16) (T := TX16) (N := 22) C rfl wt_X16 (by decide) ww_72 eX23_layAll_28 h (fun v5 h => ?_)
          refine x_bipush (v := 12) C eX23_layAll_31 (by decide) ?_
          refine x_ic_ne (tgt := 78) C eX23_layAll_33 (by decide) h (fun h => ?_) (fun h => ?_)
          · refine x_sub [0, 1] rfl ?_
            exact j_78 S2 x1 h
          · refine x_tload_n C eX23_layAll_36 rfl 0 rfl ?_
            refine x_iload_n C eX23_layAll_37 rfl 1 rfl ?_
            refine x_cVv (As := [.int x1]) (st := []) (n := 1) (frc := 963) (loc := 21915) C h (fun S9 r9 e9 => k_X23_layFunction l D K m9 mr _ S9 x1 r9 e9) ww_631 ww_725 ww_726 ww_727 ww_16 (by decide +kernel) rfl ⟨by omega, by omega⟩ (Nat.le_of_ble_eq_true rfl) eX23_layAll_38 (fun S6 v7 h => ?_)
            refine x_tload_n C eX23_layAll_41 rfl 0 rfl ?_
            refine x_tload_n C eX23_layAll_42 rfl 0 rfl ?_
            refine x_mV (k9 := 11) C (by decide) ww_114 eX23_layAll_43 rfl ?_
            refine x_iload_n C eX23_layAll_46 rfl 1 rfl ?_
            refine x_rQ (r := 11) (t9 := 3) C (by decide) rfl (by decide) rfl eX23_layAll_47 h (fun v8 h => ?_)
            refine x_cVv (As := [va_rf v8]) (st := []) (n := 1) (frc := 2) (loc := 42) C h (fun S9 r9 e9 => k_X23_reach l D K m9 mr _ S9 v8 r9 e9) ww_636 ww_728 ww_729 ww_730 ww_16 (by decide +kernel) rfl ⟨by omega, by omega⟩ (Nat.le_of_ble_eq_true rfl) eX23_layAll_48 (fun S9 v10 h => ?_)
            refine x_tload_n C eX23_layAll_51 rfl 0 rfl ?_
            refine x_tload_n C eX23_layAll_52 rfl 0 rfl ?_
            refine x_mV (k9 := 11) C (by decide) ww_114 eX23_layAll_53 rfl ?_
            refine x_iload_n C eX23_layAll_56 rfl 1 rfl ?_
            refine x_rQ (r := 11) (t9 := 3) C (by decide) rfl (by decide) rfl eX23_layAll_57 h (fun v11 h => ?_)
            refine x_cVv (As := [va_rf v11]) (st := []) (n := 1) (frc := 85) (loc := 2036) C h (fun S9 r9 e9 => k_X23_checkMoves l D K m9 mr _ S9 v11 r9 e9) ww_682 ww_731 ww_732 ww_733 ww_16 (by decide +kernel) rfl ⟨by omega, by omega⟩ (Nat.le_of_ble_eq_true rfl) eX23_layAll_58 (fun S12 v13 h => ?_)
            refine x_tload_n C eX23_layAll_61 rfl 0 rfl ?_
            refine x_cVi (As := []) (st := []) (n := 0) (frc := 1) (loc := 20) C h (fun S9 r9 e9 => k_X23_ok l D K m9 mr _ S9 r9 e9) ww_0 ww_13 ww_14 ww_15 ww_16 (by decide +kernel) rfl ⟨by omega, by omega⟩ (Nat.le_of_ble_eq_true rfl) eX23_layAll_62 (fun S14 v15 h => ?_)
            refine x_if_eq (tgt := 78) C eX23_layAll_65 (by decide) h (fun h => ?_) (fun h => ?_)
            · refine x_sub [0, 1] rfl ?_
              exact j_78 S14 x1 h
            · refine x_tload_n C eX23_layAll_68 rfl 0 rfl ?_
              refine x_tload_n C eX23_layAll_69 rfl 0 rfl ?_
              refine x_mV (k9 := 11) C (by decide) ww_114 eX23_layAll_70 rfl ?_
              refine x_iload_n C eX23_layAll_73 rfl 1 rfl ?_
              refine x_rQ (r := 11) (t9 := 3) C (by decide) rfl (by decide) rfl eX23_layAll_74 h (fun v16 h => ?_)
              refine x_cVv (As := [va_rf v16]) (st := []) (n := 1) (frc := 4) (loc := 98) C h (fun S9 r9 e9 => k_X23_checkLoans l D K m9 mr _ S9 v16 r9 e9) ww_708 ww_734 ww_735 ww_736 ww_16 (by decide +kernel) rfl ⟨by omega, by omega⟩ (Nat.le_of_ble_eq_true rfl) eX23_layAll_75 (fun S17 v18 h => ?_)
              refine x_sub [0, 1] rfl ?_
              exact j_78 S17 x1 h
  unfold f_layAll at h
  refine x_tload_n C eX23_layAll_0 rfl 0 rfl ?_
  refine x_iconst (v := 0) C eX23_layAll_1 (by decide) ?_
  refine x_pM (k9 := 26) C (by decide) rfl (by decide) ww_484 rfl (by decide +kernel) eX23_layAll_2 h (fun S1 h => ?_)
  refine x_iconst (v := 0) C eX23_layAll_5 (by decide) ?_
  refine x_istore_n (lv2 := [(0, .ref m9)]) C eX23_layAll_6 rfl (by decide) rfl (oky rfl ok0) ?_
  refine x_sub [1, 0] rfl ?_
  exact j_7 bigN S1 0 h
set_option maxRecDepth 20000 in
set_option maxHeartbeats 4000000 in
theorem k_X23_node (l : Launch) (D : va_G) (K : Ky) (m9 : Nat) (mr : Nat → Nat) (S0 Sf : Sg) (rf : Int32) (h : f_node K S0 = some (Sf, rf)) : CT l D K m9 mr yX23_node (Cond.code yX23_node cX23_node 2 (some .int)) (1) (20) S0 Sf [.ref m9] (some (.int rf)) := by
  refine x_start (cc := cX23_node) (lv := [(0, .ref m9)]) rfl rfl (by decide) (by simp [lv_args, cat_rf, cat_i, cat_l, cat_a]) (by simp [lg_sl, cat_rf, cat_i, cat_l, cat_a]) (fun p e R s m args below meth c Q A C => ?_)
  have j_37 : ∀ (S : Sg) (x1 : Int32), f_node_37 K S x1 = some (Sf, rf) → WX p l e R s m args below meth c Q D A K m9 mr 2 S0 S 37 [(0, .ref m9), (1, .int x1)] [] := by
    intro S x1 h
    unfold f_node_37 at h
    refine x_tload_n C eX23_node_37 rfl 0 rfl ?_
    refine x_mV (k9 := 61) C (by decide) ww_741 eX23_node_38 rfl ?_
    refine x_iload_n C eX23_node_41 rfl 1 rfl ?_
    refine x_lconst (v := 0) C eX23_node_42 (by decide) ?_
    refine x_wJ (r := 61) C (by decide) rfl eX23_node_43 h (fun S4 h => ?_)
    refine x_tload_n C eX23_node_44 rfl 0 rfl ?_
    refine x_mV (k9 := 62) C (by decide) ww_742 eX23_node_45 rfl ?_
    refine x_iload_n C eX23_node_48 rfl 1 rfl ?_
    refine x_iconst (v := 0) C eX23_node_49 (by decide) ?_
    refine x_wZ (r := 62) C (by decide) rfl eX23_node_50 h (fun S5 h => ?_)
    refine x_tload_n C eX23_node_51 rfl 0 rfl ?_
    refine x_mV (k9 := 63) C (by decide) ww_739 eX23_node_52 rfl ?_
    refine x_iload_n C eX23_node_55 rfl 1 rfl ?_
    refine x_iconst (v := 0) C eX23_node_56 (by decide) ?_
    refine x_wI (r := 63) C (by decide) rfl eX23_node_57 h (fun S6 h => ?_)
    refine x_iload_n C eX23_node_58 rfl 1 rfl ?_
    exact x_iret C rfl rfl eX23_node_59 h
  unfold f_node at h
  refine x_tload_n C eX23_node_0 rfl 0 rfl ?_
  refine x_mV (k9 := 65) C (by decide) ww_738 eX23_node_1 rfl ?_
  refine x_istore_n (lv2 := [(0, .ref m9)]) C eX23_node_4 rfl (by decide) rfl (oky rfl ok0) ?_
  refine x_iload_n C eX23_node_5 rfl 0 rfl ?_
  refine x_if_eq (tgt := 22) C eX23_node_6 (by decide) h (fun h => ?_) (fun h => ?_)
  · refine x_tload_n C eX23_node_22 rfl 1 rfl ?_
    refine x_dup C eX23_node_23 rfl ?_
    refine x_mV (k9 := 64) C (by decide) ww_740 eX23_node_24 rfl ?_
    refine x_iconst (v := 1) C eX23_node_27 (by decide) ?_
    refine x_iadd C eX23_node_28 ?_
    refine x_pM (k9 := 64) C (by decide) rfl (by decide) ww_740 rfl (by decide +kernel) eX23_node_29 h (fun S1 h => ?_)
    refine x_tload_n C eX23_node_32 rfl 1 rfl ?_
    refine x_mV (k9 := 64) C (by decide) ww_740 eX23_node_33 rfl ?_
    refine x_istore_n (lv2 := [(0, .ref m9)]) C eX23_node_36 rfl (by decide) rfl (oky rfl ok0) ?_
    refine x_sub [1, 0] rfl ?_
    exact j_37 S1 (Zi S1 64) h
  · refine x_tload_n C eX23_node_9 rfl 1 rfl ?_
    refine x_tload_n C eX23_node_10 rfl 1 rfl ?_
    refine x_mV (k9 := 63) C (by decide) ww_739 eX23_node_11 rfl ?_
    refine x_iload_n C eX23_node_14 rfl 0 rfl ?_
    refine x_rI (r := 63) C (by decide) rfl eX23_node_15 h (fun v2 h => ?_)
    refine x_pM (k9 := 65) C (by decide) rfl (by decide) ww_738 rfl (by decide +kernel) eX23_node_16 h (fun S3 h => ?_)
    refine x_goto (tgt := 37) C eX23_node_19 (by decide) ?_
    refine x_sub [1, 0] rfl ?_
    exact j_37 S3 (Zi S0 65) h
