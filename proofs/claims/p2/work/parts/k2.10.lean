set_option maxRecDepth 20000 in
set_option maxHeartbeats 4000000 in
theorem k_X23_uses (l : Launch) (D : va_G) (K : Ky) (m9 : Nat) (mr : Nat → Nat) (S0 Sf : Sg) (x1 : Int32) (x2 : Option Nat) (rf : Unit) (h : f_uses K S0 x1 x2 = some (Sf, rf)) : CT l D K m9 mr yX23_uses (Cond.code yX23_uses cX23_uses 3 none) (2) (41) S0 Sf [.ref m9, .int x1, va_rf x2] none := by
  refine x_start (cc := cX23_uses) (lv := [(0, .ref m9), (1, .int x1), (2, va_rf x2)]) rfl rfl (by decide) (by simp [lv_args, cat_rf, cat_i, cat_l, cat_a]) (by simp [lg_sl, cat_rf, cat_i, cat_l, cat_a]) (fun p e R s m args below meth c Q A C => ?_)
  unfold f_uses at h
  refine x_tload_n C eX23_uses_0 rfl 0 rfl ?_
  refine x_dup C eX23_uses_1 rfl ?_
  refine x_mV (k9 := 48) C (by decide) ww_525 eX23_uses_2 rfl ?_
  refine x_iconst (v := 1) C eX23_uses_5 (by decide) ?_
  refine x_isub C eX23_uses_6 ?_
  refine x_pM (k9 := 48) C (by decide) rfl (by decide) ww_525 rfl (by decide +kernel) eX23_uses_7 h (fun S1 h => ?_)
  refine x_aload_n C eX23_uses_10 rfl 2 rfl ?_
  refine x_cSi (As := [va_rf x2]) (st := []) (n := 1) (frc := 1) (loc := 20) C h (fun S9 r9 e9 => k_X23_refers l D K m9 mr _ S9 x2 r9 e9) ww_258 ww_354 ww_355 ww_16 (by decide +kernel) rfl ⟨by omega, by omega⟩ (Nat.le_of_ble_eq_true rfl) eX23_uses_11 (fun S2 v3 h => ?_)
  refine x_if_ne (tgt := 18) C eX23_uses_14 (by decide) h (fun h => ?_) (fun h => ?_)
  · refine x_tload_n C eX23_uses_18 rfl 0 rfl ?_
    refine x_mV (k9 := 37) C (by decide) ww_495 eX23_uses_19 rfl ?_
    refine x_iload_n C eX23_uses_22 rfl 1 rfl ?_
    refine x_tload_n C eX23_uses_23 rfl 0 rfl ?_
    refine x_tload_n C eX23_uses_24 rfl 0 rfl ?_
    refine x_mV (k9 := 48) C (by decide) ww_525 eX23_uses_25 rfl ?_
    refine x_cSi (As := [.int (Zi S2 48)]) (st := [.ref m9, .int x1, .ref (mr 37)]) (n := 1) (frc := 1) (loc := 20) C h (fun S9 r9 e9 => k_X23_temporary l D K m9 mr _ S9 (Zi S2 48) r9 e9) ww_512 ww_526 ww_527 ww_16 (by decide +kernel) rfl ⟨by omega, by omega⟩ (Nat.le_of_ble_eq_true rfl) eX23_uses_28 (fun S4 v5 h => ?_)
    refine x_cVr (As := [.int v5]) (st := [.int x1, .ref (mr 37)]) (n := 1) (frc := 1) (loc := 20) C h (fun S9 r9 e9 => k_X23_just l D K m9 mr _ S9 v5 r9 e9) ww_501 ww_521 ww_522 ww_523 ww_16 (by decide +kernel) rfl ⟨by omega, by omega⟩ (Nat.le_of_ble_eq_true rfl) eX23_uses_31 (fun S6 v7 h => ?_)
    refine x_wA (r := 37) C (by decide) rfl eX23_uses_34 h (fun S8 h => ?_)
    refine x_tload_n C eX23_uses_35 rfl 0 rfl ?_
    refine x_mV (k9 := 36) C (by decide) ww_494 eX23_uses_36 rfl ?_
    refine x_iload_n C eX23_uses_39 rfl 1 rfl ?_
    refine x_tload_n C eX23_uses_40 rfl 0 rfl ?_
    refine x_tload_n C eX23_uses_41 rfl 0 rfl ?_
    refine x_mV (k9 := 48) C (by decide) ww_525 eX23_uses_42 rfl ?_
    refine x_cSi (As := [.int (Zi S8 48)]) (st := [.ref m9, .int x1, .ref (mr 36)]) (n := 1) (frc := 1) (loc := 20) C h (fun S9 r9 e9 => k_X23_temporary l D K m9 mr _ S9 (Zi S8 48) r9 e9) ww_512 ww_526 ww_527 ww_16 (by decide +kernel) rfl ⟨by omega, by omega⟩ (Nat.le_of_ble_eq_true rfl) eX23_uses_45 (fun S9 v10 h => ?_)
    refine x_cVr (As := [.int v10]) (st := [.int x1, .ref (mr 36)]) (n := 1) (frc := 1) (loc := 20) C h (fun S9 r9 e9 => k_X23_just l D K m9 mr _ S9 v10 r9 e9) ww_501 ww_521 ww_522 ww_523 ww_16 (by decide +kernel) rfl ⟨by omega, by omega⟩ (Nat.le_of_ble_eq_true rfl) eX23_uses_48 (fun S11 v12 h => ?_)
    refine x_wA (r := 36) C (by decide) rfl eX23_uses_51 h (fun S13 h => ?_)
    exact x_vret C rfl rfl eX23_uses_52 h
  · exact x_vret C rfl rfl eX23_uses_17 h
set_option maxRecDepth 20000 in
set_option maxHeartbeats 4000000 in
theorem k_X23_layAssign (l : Launch) (D : va_G) (K : Ky) (m9 : Nat) (mr : Nat → Nat) (S0 Sf : Sg) (x1 : Option Nat) (rf : Unit) (h : f_layAssign K S0 x1 = some (Sf, rf)) : CT l D K m9 mr yX23_layAssign (Cond.code yX23_layAssign cX23_layAssign 4 none) (826) (18584) S0 Sf [.ref m9, va_rf x1] none := by
  refine x_start (cc := cX23_layAssign) (lv := [(0, .ref m9), (1, va_rf x1)]) rfl rfl (by decide) (by simp [lv_args, cat_rf, cat_i, cat_l, cat_a]) (by simp [lg_sl, cat_rf, cat_i, cat_l, cat_a]) (fun p e R s m args below meth c Q A C => ?_)
  have j_120 : ∀ (S : Sg), f_layAssign_120 K S = some (Sf, rf) → WX p l e R s m args below meth c Q D A K m9 mr 4 S0 S 120 [] [] := by
    intro S h
    unfold f_layAssign_120 at h
    exact x_vret C rfl rfl eX23_layAssign_120 h
  unfold f_layAssign at h
  refine x_tload_n C eX23_layAssign_0 rfl 0 rfl ?_
  refine x_aload_n C eX23_layAssign_1 rfl 1 rfl ?_
  refine x_gR (o9 := x1) (ci := 19) (k9 := 6) (Cn := RX19) (T := TX19) (N := 14) C rfl wt_X19 (by decide) ww_144 eX23_layAssign_2 h (fun v1 h => ?_)
  refine x_cVv (As := [va_rf v1]) (st := []) (n := 1) (frc := 5 + 2 * 410) (loc := 113 + 45 * 410) C h (fun S9 r9 e9 => k_X23_give l D K m9 mr 410 _ S9 v1 r9 e9) ww_551 ww_555 ww_556 ww_557 ww_16 (by decide +kernel) rfl ⟨by omega, by omega⟩ (Nat.le_of_ble_eq_true rfl) eX23_layAssign_5 (fun S2 v3 h => ?_)
  refine x_tload_n C eX23_layAssign_8 rfl 0 rfl ?_
  refine x_aload_n C eX23_layAssign_9 rfl 1 rfl ?_
  refine x_gR (o9 := x1) (ci := 19) (k9 := 7) (Cn := RX19) (T := TX19) (N := 14) C rfl wt_X19 (by decide) ww_162 eX23_layAssign_10 h (fun v4 h => ?_)
  refine x_cVr (As := [va_rf v4]) (st := []) (n := 1) (frc := 3) (loc := 63) C h (fun S9 r9 e9 => k_X23_pathOf l D K m9 mr _ S9 v4 r9 e9) ww_513 ww_529 ww_530 ww_531 ww_16 (by decide +kernel) rfl ⟨by omega, by omega⟩ (Nat.le_of_ble_eq_true rfl) eX23_layAssign_13 (fun S5 v6 h => ?_)
  refine x_astore_n (lv2 := [(0, .ref m9), (1, va_rf x1)]) C eX23_layAssign_16 rfl (by decide) rfl (oky rfl (oky (cat_rf x1) ok0)) ?_
  refine x_tload_n C eX23_layAssign_17 rfl 1 rfl ?_
  refine x_bipush (v := 14) C eX23_layAssign_18 (by decide) ?_
  refine x_aload_n C eX23_layAssign_20 rfl 2 rfl ?_
  refine x_gR (o9 := x1) (ci := 19) (k9 := 7) (Cn := RX19) (T := TX19) (N := 14) C rfl wt_X19 (by decide) ww_162 eX23_layAssign_21 h (fun v7 h => ?_)
  refine x_gI (o9 := v7) (ci := 15) (k9 := 1) (Cn := RX15) (T := TX15) (N := 14) C rfl wt_X15 (by decide) ww_211 eX23_layAssign_24 h (fun v8 h => ?_)
  refine x_cVi (As := [.int 14, .int v8]) (st := []) (n := 2) (frc := 1) (loc := 20) C h (fun S9 r9 e9 => k_X23_point l D K m9 mr _ S9 14 v8 r9 e9) ww_483 ww_532 ww_533 ww_534 ww_16 (by decide +kernel) rfl ⟨by omega, by omega⟩ (Nat.le_of_ble_eq_true rfl) eX23_layAssign_27 (fun S9 v10 h => ?_)
  refine x_istore_n (lv2 := [(2, va_rf v6), (0, .ref m9), (1, va_rf x1)]) C eX23_layAssign_30 rfl (by decide) rfl (oky (cat_rf v6) (oky rfl (oky (cat_rf x1) ok0))) ?_
  refine x_tload_n C eX23_layAssign_31 rfl 2 rfl ?_
  refine x_mV (k9 := 33) C (by decide) ww_491 eX23_layAssign_32 rfl ?_
  refine x_iload_n C eX23_layAssign_35 rfl 0 rfl ?_
  refine x_bipush (v := 6) C eX23_layAssign_36 (by decide) ?_
  refine x_wI (r := 33) C (by decide) rfl eX23_layAssign_38 h (fun S11 h => ?_)
  refine x_tload_n C eX23_layAssign_39 rfl 2 rfl ?_
  refine x_mV (k9 := 38) C (by decide) ww_496 eX23_layAssign_40 rfl ?_
  refine x_iload_n C eX23_layAssign_43 rfl 0 rfl ?_
  refine x_aload_n C eX23_layAssign_44 rfl 1 rfl ?_
  refine x_wQ (r := 38) (t9 := 6) (ci := 18) C (by decide) rfl (by decide) rfl rfl eX23_layAssign_45 h (fun S12 h => ?_)
  refine x_tload_n C eX23_layAssign_46 rfl 2 rfl ?_
  refine x_mV (k9 := 39) C (by decide) ww_497 eX23_layAssign_47 rfl ?_
  refine x_iload_n C eX23_layAssign_50 rfl 0 rfl ?_
  refine x_aload_n C eX23_layAssign_51 rfl 1 rfl ?_
  refine x_cOr (As := []) (st := [.int v10, .ref (mr 39)]) (ci := 18) (T := TX18) (n := 0) (frc := 1) (loc := 20) C rfl h (fun b9 S9 r9 e9 => k_X18_type l D K m9 mr _ S9 b9 r9 e9) ww_964 ww_518 ww_519 ww_520 ww_507 (by decide +kernel) rfl ⟨by omega, by omega⟩ (Nat.le_of_ble_eq_true rfl) eX23_layAssign_52 (fun S13 v14 h => ?_)
  refine x_wQ (r := 39) (t9 := 4) (ci := 20) C (by decide) rfl (by decide) rfl rfl eX23_layAssign_55 h (fun S16 h => ?_)
  refine x_tload_n C eX23_layAssign_56 rfl 2 rfl ?_
  refine x_iload_n C eX23_layAssign_57 rfl 0 rfl ?_
  refine x_aload_n C eX23_layAssign_58 rfl 3 rfl ?_
  refine x_gR (o9 := x1) (ci := 19) (k9 := 6) (Cn := RX19) (T := TX19) (N := 14) C rfl wt_X19 (by decide) ww_144 eX23_layAssign_59 h (fun v17 h => ?_)
  refine x_gR (o9 := v17) (ci := 15) (k9 := 12) (Cn := RX15) (T := TX15) (N := 14) C rfl wt_X15 (by decide) ww_338 eX23_layAssign_62 h (fun v18 h => ?_)
  refine x_cVv (As := [.int v10, va_rf v18]) (st := []) (n := 2) (frc := 2) (loc := 41) C h (fun S9 r9 e9 => k_X23_uses l D K m9 mr _ S9 v10 v18 r9 e9) ww_614 ww_616 ww_617 ww_618 ww_16 (by decide +kernel) rfl ⟨by omega, by omega⟩ (Nat.le_of_ble_eq_true rfl) eX23_layAssign_65 (fun S19 v20 h => ?_)
  refine x_aload_n C eX23_layAssign_68 rfl 1 rfl ?_
  refine x_gI (o9 := v6) (ci := 18) (k9 := 1) (Cn := RX18) (T := TX18) (N := 4) C rfl wt_X18 (by decide) ww_535 eX23_layAssign_69 h (fun v21 h => ?_)
  refine x_if_ne (tgt := 91) C eX23_layAssign_72 (by decide) h (fun h => ?_) (fun h => ?_)
  · refine x_aload_n C eX23_layAssign_91 rfl 1 rfl ?_
    refine x_gR (o9 := v6) (ci := 18) (k9 := 3) (Cn := RX18) (T := TX18) (N := 4) C rfl wt_X18 (by decide) ww_511 eX23_layAssign_92 h (fun v22 h => ?_)
    refine x_iconst (v := 0) C eX23_layAssign_95 (by decide) ?_
    refine x_aQ (t9 := 4) C rfl eX23_layAssign_96 h (fun v23 h => ?_)
    refine x_cSi (As := [va_rf v23]) (st := []) (n := 1) (frc := 1) (loc := 20) C h (fun S9 r9 e9 => k_X23_refers l D K m9 mr _ S9 v23 r9 e9) ww_258 ww_354 ww_355 ww_16 (by decide +kernel) rfl ⟨by omega, by omega⟩ (Nat.le_of_ble_eq_true rfl) eX23_layAssign_97 (fun S24 v25 h => ?_)
    refine x_if_eq (tgt := 120) C eX23_layAssign_100 (by decide) h (fun h => ?_) (fun h => ?_)
    · refine x_sub [] rfl ?_
      exact j_120 S24 h
    · refine x_tload_n C eX23_layAssign_103 rfl 2 rfl ?_
      refine x_mV (k9 := 37) C (by decide) ww_495 eX23_layAssign_104 rfl ?_
      refine x_iload_n C eX23_layAssign_107 rfl 0 rfl ?_
      refine x_tload_n C eX23_layAssign_108 rfl 2 rfl ?_
      refine x_aload_n C eX23_layAssign_109 rfl 1 rfl ?_
      refine x_gR (o9 := v6) (ci := 18) (k9 := 0) (Cn := RX18) (T := TX18) (N := 4) C rfl wt_X18 (by decide) ww_510 eX23_layAssign_110 h (fun v26 h => ?_)
      refine x_gI (o9 := v26) (ci := 21) (k9 := 0) (Cn := RX21) (T := TX21) (N := 5) C rfl wt_X21 (by decide) ww_327 eX23_layAssign_113 h (fun v27 h => ?_)
      refine x_cVr (As := [.int v27]) (st := [.int v10, .ref (mr 37)]) (n := 1) (frc := 1) (loc := 20) C h (fun S9 r9 e9 => k_X23_just l D K m9 mr _ S9 v27 r9 e9) ww_501 ww_521 ww_522 ww_523 ww_16 (by decide +kernel) rfl ⟨by omega, by omega⟩ (Nat.le_of_ble_eq_true rfl) eX23_layAssign_116 (fun S28 v29 h => ?_)
      refine x_wA (r := 37) C (by decide) rfl eX23_layAssign_119 h (fun S30 h => ?_)
      refine x_sub [] rfl ?_
      exact j_120 S30 h
  · refine x_tload_n C eX23_layAssign_75 rfl 2 rfl ?_
    refine x_mV (k9 := 34) C (by decide) ww_492 eX23_layAssign_76 rfl ?_
    refine x_iload_n C eX23_layAssign_79 rfl 0 rfl ?_
    refine x_aload_n C eX23_layAssign_80 rfl 1 rfl ?_
    refine x_gR (o9 := v6) (ci := 18) (k9 := 0) (Cn := RX18) (T := TX18) (N := 4) C rfl wt_X18 (by decide) ww_510 eX23_layAssign_81 h (fun v31 h => ?_)
    refine x_gI (o9 := v31) (ci := 21) (k9 := 0) (Cn := RX21) (T := TX21) (N := 5) C rfl wt_X21 (by decide) ww_327 eX23_layAssign_84 h (fun v32 h => ?_)
    refine x_wI (r := 34) C (by decide) rfl eX23_layAssign_87 h (fun S33 h => ?_)
    refine x_goto (tgt := 120) C eX23_layAssign_88 (by decide) ?_
    refine x_sub [] rfl ?_
    exact j_120 S33 h
set_option maxRecDepth 20000 in
set_option maxHeartbeats 4000000 in
theorem k_X23_layLet (l : Launch) (D : va_G) (K : Ky) (m9 : Nat) (mr : Nat → Nat) (S0 Sf : Sg) (x1 : Option Nat) (rf : Unit) (h : f_layLet K S0 x1 = some (Sf, rf)) : CT l D K m9 mr yX23_layLet (Cond.code yX23_layLet cX23_layLet 3 none) (826) (18584) S0 Sf [.ref m9, va_rf x1] none := by
  refine x_start (cc := cX23_layLet) (lv := [(0, .ref m9), (1, va_rf x1)]) rfl rfl (by decide) (by simp [lv_args, cat_rf, cat_i, cat_l, cat_a]) (by simp [lg_sl, cat_rf, cat_i, cat_l, cat_a]) (fun p e R s m args below meth c Q A C => ?_)
  have j_80 : ∀ (S : Sg) (x1 : Option Nat), f_layLet_80 K S x1 = some (Sf, rf) → WX p l e R s m args below meth c Q D A K m9 mr 3 S0 S 80 [(0, .ref m9), (1, va_rf x1)] [] := by
    intro S x1 h
    unfold f_layLet_80 at h
    refine x_tload_n C eX23_layLet_80 rfl 0 rfl ?_
    refine x_aload_n C eX23_layLet_81 rfl 1 rfl ?_
    refine x_gR (o9 := x1) (ci := 19) (k9 := 8) (Cn := RX19) (T := TX19) (N := 14) C rfl wt_X19 (by decide) ww_444 eX23_layLet_82 h (fun v19 h => ?_)
    refine x_cVv (As := [va_rf v19]) (st := []) (n := 1) (frc := 1) (loc := 20) C h (fun S9 r9 e9 => k_X23_comesAlive l D K m9 mr _ S9 v19 r9 e9) ww_581 ww_619 ww_620 ww_621 ww_16 (by decide +kernel) rfl ⟨by omega, by omega⟩ (Nat.le_of_ble_eq_true rfl) eX23_layLet_85 (fun S20 v21 h => ?_)
    exact x_vret C rfl rfl eX23_layLet_88 h
  have j_30 : ∀ (S : Sg) (x1 : Option Nat) (y0 : Int32), f_layLet_30 K S x1 y0 = some (Sf, rf) → WX p l e R s m args below meth c Q D A K m9 mr 3 S0 S 30 [(0, .ref m9), (1, va_rf x1)] [.int y0, .ref m9] := by
    intro S x1 y0 h
    unfold f_layLet_30 at h
    refine x_aload_n C eX23_layLet_30 rfl 1 rfl ?_
    refine x_gI (o9 := x1) (ci := 19) (k9 := 2) (Cn := RX19) (T := TX19) (N := 14) C rfl wt_X19 (by decide) ww_157 eX23_layLet_31 h (fun v6 h => ?_)
    refine x_cVi (As := [.int y0, .int v6]) (st := []) (n := 2) (frc := 1) (loc := 20) C h (fun S9 r9 e9 => k_X23_point l D K m9 mr _ S9 y0 v6 r9 e9) ww_483 ww_532 ww_533 ww_534 ww_16 (by decide +kernel) rfl ⟨by omega, by omega⟩ (Nat.le_of_ble_eq_true rfl) eX23_layLet_34 (fun S7 v8 h => ?_)
    refine x_istore_n (lv2 := [(0, .ref m9), (1, va_rf x1)]) C eX23_layLet_37 rfl (by decide) rfl (oky rfl (oky (cat_rf x1) ok0)) ?_
    refine x_tload_n C eX23_layLet_38 rfl 1 rfl ?_
    refine x_mV (k9 := 40) C (by decide) ww_498 eX23_layLet_39 rfl ?_
    refine x_iload_n C eX23_layLet_42 rfl 0 rfl ?_
    refine x_aload_n C eX23_layLet_43 rfl 2 rfl ?_
    refine x_gR (o9 := x1) (ci := 19) (k9 := 8) (Cn := RX19) (T := TX19) (N := 14) C rfl wt_X19 (by decide) ww_444 eX23_layLet_44 h (fun v9 h => ?_)
    refine x_wQ (r := 40) (t9 := 5) (ci := 21) C (by decide) rfl (by decide) rfl rfl eX23_layLet_47 h (fun S10 h => ?_)
    refine x_tload_n C eX23_layLet_48 rfl 1 rfl ?_
    refine x_mV (k9 := 34) C (by decide) ww_492 eX23_layLet_49 rfl ?_
    refine x_iload_n C eX23_layLet_52 rfl 0 rfl ?_
    refine x_aload_n C eX23_layLet_53 rfl 2 rfl ?_
    refine x_gR (o9 := x1) (ci := 19) (k9 := 8) (Cn := RX19) (T := TX19) (N := 14) C rfl wt_X19 (by decide) ww_444 eX23_layLet_54 h (fun v11 h => ?_)
    refine x_gI (o9 := v11) (ci := 21) (k9 := 0) (Cn := RX21) (T := TX21) (N := 5) C rfl wt_X21 (by decide) ww_327 eX23_layLet_57 h (fun v12 h => ?_)
    refine x_wI (r := 34) C (by decide) rfl eX23_layLet_60 h (fun S13 h => ?_)
    refine x_aload_n C eX23_layLet_61 rfl 2 rfl ?_
    refine x_gR (o9 := x1) (ci := 19) (k9 := 6) (Cn := RX19) (T := TX19) (N := 14) C rfl wt_X19 (by decide) ww_144 eX23_layLet_62 h (fun v14 h => ?_)
    refine x_ifnull (tgt := 80) C eX23_layLet_65 (by decide) h (fun h => ?_) (fun h => ?_)
    · refine x_sub [1, 2] rfl ?_
      exact j_80 S13 x1 h
    · refine x_tload_n C eX23_layLet_68 rfl 1 rfl ?_
      refine x_iload_n C eX23_layLet_69 rfl 0 rfl ?_
      refine x_aload_n C eX23_layLet_70 rfl 2 rfl ?_
      refine x_gR (o9 := x1) (ci := 19) (k9 := 6) (Cn := RX19) (T := TX19) (N := 14) C rfl wt_X19 (by decide) ww_144 eX23_layLet_71 h (fun v15 h => ?_)
      refine x_gR (o9 := v15) (ci := 15) (k9 := 12) (Cn := RX15) (T := TX15) (N := 14) C rfl wt_X15 (by decide) ww_338 eX23_layLet_74 h (fun v16 h => ?_)
      refine x_cVv (As := [.int v8, va_rf v16]) (st := []) (n := 2) (frc := 2) (loc := 41) C h (fun S9 r9 e9 => k_X23_uses l D K m9 mr _ S9 v8 v16 r9 e9) ww_614 ww_616 ww_617 ww_618 ww_16 (by decide +kernel) rfl ⟨by omega, by omega⟩ (Nat.le_of_ble_eq_true rfl) eX23_layLet_77 (fun S17 v18 h => ?_)
      refine x_sub [1, 2] rfl ?_
      exact j_80 S17 x1 h
  have j_15 : ∀ (S : Sg) (x1 : Option Nat), f_layLet_15 K S x1 = some (Sf, rf) → WX p l e R s m args below meth c Q D A K m9 mr 3 S0 S 15 [(0, .ref m9), (1, va_rf x1)] [] := by
    intro S x1 h
    unfold f_layLet_15 at h
    refine x_tload_n C eX23_layLet_15 rfl 0 rfl ?_
    refine x_aload_n C eX23_layLet_16 rfl 1 rfl ?_
    refine x_gR (o9 := x1) (ci := 19) (k9 := 6) (Cn := RX19) (T := TX19) (N := 14) C rfl wt_X19 (by decide) ww_144 eX23_layLet_17 h (fun v5 h => ?_)
    refine x_ifnull (tgt := 28) C eX23_layLet_20 (by decide) h (fun h => ?_) (fun h => ?_)
    · refine x_bipush (v := 13) C eX23_layLet_28 (by decide) ?_
      refine x_sub [0, 1] rfl ?_
      exact j_30 S x1 13 h
    · refine x_bipush (v := 12) C eX23_layLet_23 (by decide) ?_
      refine x_goto (tgt := 30) C eX23_layLet_25 (by decide) ?_
      refine x_sub [0, 1] rfl ?_
      exact j_30 S x1 12 h
  unfold f_layLet at h
  refine x_aload_n C eX23_layLet_0 rfl 1 rfl ?_
  refine x_gR (o9 := x1) (ci := 19) (k9 := 6) (Cn := RX19) (T := TX19) (N := 14) C rfl wt_X19 (by decide) ww_144 eX23_layLet_1 h (fun v1 h => ?_)
  refine x_ifnull (tgt := 15) C eX23_layLet_4 (by decide) h (fun h => ?_) (fun h => ?_)
  · refine x_sub [0, 1] rfl ?_
    exact j_15 S0 x1 h
  · refine x_tload_n C eX23_layLet_7 rfl 0 rfl ?_
    refine x_aload_n C eX23_layLet_8 rfl 1 rfl ?_
    refine x_gR (o9 := x1) (ci := 19) (k9 := 6) (Cn := RX19) (T := TX19) (N := 14) C rfl wt_X19 (by decide) ww_144 eX23_layLet_9 h (fun v2 h => ?_)
    refine x_cVv (As := [va_rf v2]) (st := []) (n := 1) (frc := 5 + 2 * 410) (loc := 113 + 45 * 410) C h (fun S9 r9 e9 => k_X23_give l D K m9 mr 410 _ S9 v2 r9 e9) ww_551 ww_555 ww_556 ww_557 ww_16 (by decide +kernel) rfl ⟨by omega, by omega⟩ (Nat.le_of_ble_eq_true rfl) eX23_layLet_12 (fun S3 v4 h => ?_)
    refine x_sub [0, 1] rfl ?_
    exact j_15 S3 x1 h
set_option maxRecDepth 20000 in
set_option maxHeartbeats 4000000 in
theorem k_X23_layPart (l : Launch) (D : va_G) (K : Ky) (m9 : Nat) (mr : Nat → Nat) (S0 Sf : Sg) (x1 : Option Nat) (x2 : Option Nat) (x3 : Int32) (x4 : Option Nat) (rf : Unit) (h : f_layPart K S0 x1 x2 x3 x4 = some (Sf, rf)) : CT l D K m9 mr yX23_layPart (Cond.code yX23_layPart cX23_layPart 7 none) (3) (63) S0 Sf [.ref m9, va_rf x1, va_rf x2, .int x3, va_rf x4] none := by
  refine x_start (cc := cX23_layPart) (lv := [(0, .ref m9), (1, va_rf x1), (2, va_rf x2), (3, .int x3), (4, va_rf x4)]) rfl rfl (by decide) (by simp [lv_args, cat_rf, cat_i, cat_l, cat_a]) (by simp [lg_sl, cat_rf, cat_i, cat_l, cat_a]) (fun p e R s m args below meth c Q A C => ?_)
  have j_202 : ∀ (S : Sg) (x2 : Option Nat) (x3 : Int32) (x6 : Int32) (y0 : Int32) (y1 : Option Nat) (y3 : Int32), f_layPart_202 K S x2 x3 x6 y0 y1 y3 = some (Sf, rf) → WX p l e R s m args below meth c Q D A K m9 mr 7 S0 S 202 [(0, .ref m9), (2, va_rf x2), (3, .int x3), (6, .int x6)] [.int y0, va_rf y1, .ref m9, .int y3, .ref (mr 35)] := by
    intro S x2 x3 x6 y0 y1 y3 h
    unfold f_layPart_202 at h
    refine x_cVi (As := [va_rf y1, .int y0]) (st := [.int y3, .ref (mr 35)]) (n := 2) (frc := 1) (loc := 20) C h (fun S9 r9 e9 => k_X23_newLoan l D K m9 mr _ S9 y1 y0 r9 e9) ww_542 ww_548 ww_549 ww_550 ww_16 (by decide +kernel) rfl ⟨by omega, by omega⟩ (Nat.le_of_ble_eq_true rfl) eX23_layPart_202 (fun S39 v40 h => ?_)
    refine x_wI (r := 35) C (by decide) rfl eX23_layPart_205 h (fun S41 h => ?_)
    refine x_tload_n C eX23_layPart_206 rfl 0 rfl ?_
    refine x_mV (k9 := 34) C (by decide) ww_492 eX23_layPart_207 rfl ?_
    refine x_iload C eX23_layPart_210 3 rfl ?_
    refine x_aload_n C eX23_layPart_212 rfl 1 rfl ?_
    refine x_gR (o9 := x2) (ci := 13) (k9 := 4) (Cn := RX13) (T := TX13) (N := 6) C rfl wt_X13 (by decide) ww_454 eX23_layPart_213 h (fun v42 h => ?_)
    refine x_iload_n C eX23_layPart_216 rfl 2 rfl ?_
    refine x_aQ (t9 := 5) C rfl eX23_layPart_217 h (fun v43 h => ?_)
    refine x_gI (o9 := v43) (ci := 21) (k9 := 0) (Cn := RX21) (T := TX21) (N := 5) C rfl wt_X21 (by decide) ww_327 eX23_layPart_218 h (fun v44 h => ?_)
    refine x_wI (r := 34) C (by decide) rfl eX23_layPart_221 h (fun S45 h => ?_)
    exact x_vret C rfl rfl eX23_layPart_222 h
  have j_64 : ∀ (n_64 : Nat) (S : Sg) (x1 : Option Nat) (x2 : Option Nat) (x3 : Int32) (x4 : Option Nat) (x5 : Option Nat) (x6 : Int32), f_layPart_64 K n_64 S x1 x2 x3 x4 x5 x6 = some (Sf, rf) → WX p l e R s m args below meth c Q D A K m9 mr 7 S0 S 64 [(0, .ref m9), (1, va_rf x1), (2, va_rf x2), (3, .int x3), (4, va_rf x4), (5, va_rf x5), (6, .int x6)] [] := by
    intro n_64
    induction n_64 with
    | zero => intro S x1 x2 x3 x4 x5 x6 h; unfold f_layPart_64 at h; cases h
    | succ n_64 ih_64 =>
      intro S x1 x2 x3 x4 x5 x6 h
      unfold f_layPart_64 at h
      refine x_iload C eX23_layPart_64 6 rfl ?_
      refine x_aload C eX23_layPart_66 4 rfl ?_
      refine x_gI (o9 := x4) (ci := 18) (k9 := 1) (Cn := RX18) (T := TX18) (N := 4) C rfl wt_X18 (by decide) ww_535 eX23_layPart_68 h (fun v13 h => ?_)
      refine x_ic_gt (tgt := 96) C eX23_layPart_71 (by decide) h (fun h => ?_) (fun h => ?_)
      · refine x_aload C eX23_layPart_96 5 rfl ?_
        refine x_gR (o9 := x5) (ci := 18) (k9 := 2) (Cn := RX18) (T := TX18) (N := 4) C rfl wt_X18 (by decide) ww_516 eX23_layPart_98 h (fun v14 h => ?_)
        refine x_aload C eX23_layPart_101 4 rfl ?_
        refine x_gI (o9 := x4) (ci := 18) (k9 := 1) (Cn := RX18) (T := TX18) (N := 4) C rfl wt_X18 (by decide) ww_535 eX23_layPart_103 h (fun v15 h => ?_)
        refine x_sipush (v := 1000) C eX23_layPart_106 (by decide) ?_
        refine x_bipush (v := 16) C eX23_layPart_109 (by decide) ?_
        refine x_aload_n C eX23_layPart_111 rfl 2 rfl ?_
        refine x_gI (o9 := x2) (ci := 13) (k9 := 1) (Cn := RX13) (T := TX13) (N := 6) C rfl wt_X13 (by decide) ww_449 eX23_layPart_112 h (fun v16 h => ?_)
        refine x_imul C eX23_layPart_115 ?_
        refine x_iadd C eX23_layPart_116 ?_
        refine x_iload_n C eX23_layPart_117 rfl 3 rfl ?_
        refine x_iadd C eX23_layPart_118 ?_
        refine x_bI C eX23_layPart_119 h (fun S17 h => ?_)
        refine x_aload C eX23_layPart_120 5 rfl ?_
        refine x_gR (o9 := x5) (ci := 18) (k9 := 3) (Cn := RX18) (T := TX18) (N := 4) C rfl wt_X18 (by decide) ww_511 eX23_layPart_122 h (fun v18 h => ?_)
        refine x_aload C eX23_layPart_125 4 rfl ?_
        refine x_gI (o9 := x4) (ci := 18) (k9 := 1) (Cn := RX18) (T := TX18) (N := 4) C rfl wt_X18 (by decide) ww_535 eX23_layPart_127 h (fun v19 h => ?_)
        refine x_iconst (v := 1) C eX23_layPart_130 (by decide) ?_
        refine x_iadd C eX23_layPart_131 ?_
        refine x_aload_n C eX23_layPart_132 rfl 2 rfl ?_
        refine x_gR (o9 := x2) (ci := 13) (k9 := 4) (Cn := RX13) (T := TX13) (N := 6) C rfl wt_X13 (by decide) ww_454 eX23_layPart_133 h (fun v20 h => ?_)
        refine x_iload_n C eX23_layPart_136 rfl 3 rfl ?_
        refine x_aQ (t9 := 5) C rfl eX23_layPart_137 h (fun v21 h => ?_)
        refine x_gR (o9 := v21) (ci := 21) (k9 := 2) (Cn := RX21) (T := TX21) (N := 5) C rfl wt_X21 (by decide) ww_329 eX23_layPart_138 h (fun v22 h => ?_)
        refine x_gR (o9 := v22) (ci := 20) (k9 := 3) (Cn := RX20) (T := TX20) (N := 4) C rfl wt_X20 (by decide) ww_249 eX23_layPart_141 h (fun v23 h => ?_)
        refine x_bQ (t9 := 4) (ci := 20) C rfl rfl eX23_layPart_144 h (fun S24 h => ?_)
        refine x_tload_n C eX23_layPart_145 rfl 0 rfl ?_
        refine x_bipush (v := 23) C eX23_layPart_146 (by decide) ?_
        refine x_aload_n C eX23_layPart_148 rfl 1 rfl ?_
        refine x_gR (o9 := x1) (ci := 19) (k9 := 6) (Cn := RX19) (T := TX19) (N := 14) C rfl wt_X19 (by decide) ww_144 eX23_layPart_149 h (fun v25 h => ?_)
        refine x_gI (o9 := v25) (ci := 15) (k9 := 1) (Cn := RX15) (T := TX15) (N := 14) C rfl wt_X15 (by decide) ww_211 eX23_layPart_152 h (fun v26 h => ?_)
        refine x_cVi (As := [.int 23, .int v26]) (st := []) (n := 2) (frc := 1) (loc := 20) C h (fun S9 r9 e9 => k_X23_point l D K m9 mr _ S9 23 v26 r9 e9) ww_483 ww_532 ww_533 ww_534 ww_16 (by decide +kernel) rfl ⟨by omega, by omega⟩ (Nat.le_of_ble_eq_true rfl) eX23_layPart_155 (fun S27 v28 h => ?_)
        refine x_istore (lv2 := [(0, .ref m9), (1, va_rf x1), (2, va_rf x2), (3, .int x3), (4, va_rf x4), (5, va_rf x5)]) C eX23_layPart_158 (by decide) rfl (oky rfl (oky (cat_rf x1) (oky (cat_rf x2) (oky rfl (oky (cat_rf x4) (oky (cat_rf x5) ok0)))))) ?_
        refine x_tload_n C eX23_layPart_160 rfl 1 rfl ?_
        refine x_iload C eX23_layPart_161 0 rfl ?_
        refine x_aload C eX23_layPart_163 6 rfl ?_
        refine x_cVv (As := [.int v28, va_rf x5]) (st := []) (n := 2) (frc := 2) (loc := 41) C h (fun S9 r9 e9 => k_X23_through l D K m9 mr _ S9 v28 x5 r9 e9) ww_517 ww_536 ww_537 ww_538 ww_16 (by decide +kernel) rfl ⟨by omega, by omega⟩ (Nat.le_of_ble_eq_true rfl) eX23_layPart_165 (fun S29 v30 h => ?_)
        refine x_tload_n C eX23_layPart_168 rfl 1 rfl ?_
        refine x_mV (k9 := 40) C (by decide) ww_498 eX23_layPart_169 rfl ?_
        refine x_iload C eX23_layPart_172 0 rfl ?_
        refine x_aload_n C eX23_layPart_174 rfl 3 rfl ?_
        refine x_gR (o9 := x2) (ci := 13) (k9 := 4) (Cn := RX13) (T := TX13) (N := 6) C rfl wt_X13 (by decide) ww_454 eX23_layPart_175 h (fun v31 h => ?_)
        refine x_iload_n C eX23_layPart_178 rfl 4 rfl ?_
        refine x_aQ (t9 := 5) C rfl eX23_layPart_179 h (fun v32 h => ?_)
        refine x_wQ (r := 40) (t9 := 5) (ci := 21) C (by decide) rfl (by decide) rfl rfl eX23_layPart_180 h (fun S33 h => ?_)
        refine x_tload_n C eX23_layPart_181 rfl 1 rfl ?_
        refine x_mV (k9 := 35) C (by decide) ww_493 eX23_layPart_182 rfl ?_
        refine x_iload C eX23_layPart_185 0 rfl ?_
        refine x_tload_n C eX23_layPart_187 rfl 1 rfl ?_
        refine x_aload C eX23_layPart_188 6 rfl ?_
        refine x_aload_n C eX23_layPart_190 rfl 2 rfl ?_
        refine x_gI (o9 := x1) (ci := 19) (k9 := 3) (Cn := RX19) (T := TX19) (N := 14) C rfl wt_X19 (by decide) ww_153 eX23_layPart_191 h (fun v34 h => ?_)
        refine x_if_ne (tgt := 201) C eX23_layPart_194 (by decide) h (fun h => ?_) (fun h => ?_)
        · refine x_iconst (v := 0) C eX23_layPart_201 (by decide) ?_
          refine x_sub [1, 3, 4, 0] rfl ?_
          exact j_202 S33 x2 x3 v28 0 x5 v28 h
        · refine x_iconst (v := 1) C eX23_layPart_197 (by decide) ?_
          refine x_goto (tgt := 202) C eX23_layPart_198 (by decide) ?_
          refine x_sub [1, 3, 4, 0] rfl ?_
          exact j_202 S33 x2 x3 v28 1 x5 v28 h
      · refine x_aload C eX23_layPart_74 5 rfl ?_
        refine x_gR (o9 := x5) (ci := 18) (k9 := 3) (Cn := RX18) (T := TX18) (N := 4) C rfl wt_X18 (by decide) ww_511 eX23_layPart_76 h (fun v35 h => ?_)
        refine x_iload C eX23_layPart_79 6 rfl ?_
        refine x_aload C eX23_layPart_81 4 rfl ?_
        refine x_gR (o9 := x4) (ci := 18) (k9 := 3) (Cn := RX18) (T := TX18) (N := 4) C rfl wt_X18 (by decide) ww_511 eX23_layPart_83 h (fun v36 h => ?_)
        refine x_iload C eX23_layPart_86 6 rfl ?_
        refine x_aQ (t9 := 4) C rfl eX23_layPart_88 h (fun v37 h => ?_)
        refine x_bQ (t9 := 4) (ci := 20) C rfl rfl eX23_layPart_89 h (fun S38 h => ?_)
        refine x_iinc (j := 6) (v := 1) (lv2 := [(0, .ref m9), (1, va_rf x1), (2, va_rf x2), (3, .int x3), (4, va_rf x4), (5, va_rf x5)]) C eX23_layPart_90 rfl (by decide) (by decide) rfl (oky rfl (oky (cat_rf x1) (oky (cat_rf x2) (oky rfl (oky (cat_rf x4) (oky (cat_rf x5) ok0)))))) ?_
        refine x_goto (tgt := 64) C eX23_layPart_93 (by decide) ?_
        refine x_sub [1, 2, 3, 4, 5, 6, 0] rfl ?_
        exact ih_64 S38 x1 x2 x3 x4 x5 (x6 + 1) h
  have j_29 : ∀ (n_29 : Nat) (S : Sg) (x1 : Option Nat) (x2 : Option Nat) (x3 : Int32) (x4 : Option Nat) (x5 : Option Nat) (x6 : Int32), f_layPart_29 K n_29 S x1 x2 x3 x4 x5 x6 = some (Sf, rf) → WX p l e R s m args below meth c Q D A K m9 mr 7 S0 S 29 [(0, .ref m9), (1, va_rf x1), (2, va_rf x2), (3, .int x3), (4, va_rf x4), (5, va_rf x5), (6, .int x6)] [] := by
    intro n_29
    induction n_29 with
    | zero => intro S x1 x2 x3 x4 x5 x6 h; unfold f_layPart_29 at h; cases h
    | succ n_29 ih_29 =>
      intro S x1 x2 x3 x4 x5 x6 h
      unfold f_layPart_29 at h
      refine x_iload C eX23_layPart_29 6 rfl ?_
      refine x_aload C eX23_layPart_31 4 rfl ?_
      refine x_gI (o9 := x4) (ci := 18) (k9 := 1) (Cn := RX18) (T := TX18) (N := 4) C rfl wt_X18 (by decide) ww_535 eX23_layPart_33 h (fun v8 h => ?_)
      refine x_ic_ge (tgt := 61) C eX23_layPart_36 (by decide) h (fun h => ?_) (fun h => ?_)
      · refine x_iconst (v := 0) C eX23_layPart_61 (by decide) ?_
        refine x_istore (lv2 := [(0, .ref m9), (1, va_rf x1), (2, va_rf x2), (3, .int x3), (4, va_rf x4), (5, va_rf x5)]) C eX23_layPart_62 (by decide) rfl (oky rfl (oky (cat_rf x1) (oky (cat_rf x2) (oky rfl (oky (cat_rf x4) (oky (cat_rf x5) ok0)))))) ?_
        refine x_sub [1, 2, 3, 4, 5, 6, 0] rfl ?_
        exact j_64 bigN S x1 x2 x3 x4 x5 0 h
      · refine x_aload C eX23_layPart_39 5 rfl ?_
        refine x_gR (o9 := x5) (ci := 18) (k9 := 2) (Cn := RX18) (T := TX18) (N := 4) C rfl wt_X18 (by decide) ww_516 eX23_layPart_41 h (fun v9 h => ?_)
        refine x_iload C eX23_layPart_44 6 rfl ?_
        refine x_aload C eX23_layPart_46 4 rfl ?_
        refine x_gR (o9 := x4) (ci := 18) (k9 := 2) (Cn := RX18) (T := TX18) (N := 4) C rfl wt_X18 (by decide) ww_516 eX23_layPart_48 h (fun v10 h => ?_)
        refine x_iload C eX23_layPart_51 6 rfl ?_
        refine x_aI C eX23_layPart_53 h (fun v11 h => ?_)
        refine x_bI C eX23_layPart_54 h (fun S12 h => ?_)
        refine x_iinc (j := 6) (v := 1) (lv2 := [(0, .ref m9), (1, va_rf x1), (2, va_rf x2), (3, .int x3), (4, va_rf x4), (5, va_rf x5)]) C eX23_layPart_55 rfl (by decide) (by decide) rfl (oky rfl (oky (cat_rf x1) (oky (cat_rf x2) (oky rfl (oky (cat_rf x4) (oky (cat_rf x5) ok0)))))) ?_
        refine x_goto (tgt := 29) C eX23_layPart_58 (by decide) ?_
        refine x_sub [1, 2, 3, 4, 5, 6, 0] rfl ?_
        exact ih_29 S12 x1 x2 x3 x4 x5 (x6 + 1) h
  unfold f_layPart at h
  refine x_nO (ci := 18) (Cn := RX18) (T := TX18) (ty0 := tyX18) C rfl wt_X18 tyX18_ok ww_505 ww_506 ww_507 dv_X18 eX23_layPart_0 h (fun S1 a2 h => ?_)
  refine x_dup C eX23_layPart_3 (cat_rf (some a2)) ?_
  refine x_aload C eX23_layPart_4 4 rfl ?_
  refine x_gI (o9 := x4) (ci := 18) (k9 := 1) (Cn := RX18) (T := TX18) (N := 4) C rfl wt_X18 (by decide) ww_535 eX23_layPart_6 h (fun v3 h => ?_)
  refine x_iconst (v := 1) C eX23_layPart_9 (by decide) ?_
  refine x_iadd C eX23_layPart_10 ?_
  refine x_callI (b := a2) (As := [.int (v3 + 1)]) (st := [va_rf (some a2)]) (n := 1) (frc := 1) (loc := 20) C h (fun S9 e9 => k_X18_init l D K m9 mr S1 S9 a2 (v3 + 1) () e9) ww_956 ww_508 ww_507 ww_509 rfl (by decide +kernel) rfl ⟨by omega, by omega⟩ (Nat.le_of_ble_eq_true rfl) eX23_layPart_11 (fun S4 h => ?_)
  refine x_astore (lv2 := [(0, .ref m9), (1, va_rf x1), (2, va_rf x2), (3, .int x3), (4, va_rf x4)]) C eX23_layPart_14 (by decide) rfl (oky rfl (oky (cat_rf x1) (oky (cat_rf x2) (oky rfl (oky (cat_rf x4) ok0))))) ?_
  refine x_aload C eX23_layPart_16 0 rfl ?_
  refine x_aload C eX23_layPart_18 5 rfl ?_
  refine x_gR (o9 := x4) (ci := 18) (k9 := 0) (Cn := RX18) (T := TX18) (N := 4) C rfl wt_X18 (by decide) ww_510 eX23_layPart_20 h (fun v6 h => ?_)
  refine x_pR (o9 := (some a2)) (Cv := "OwnedPlacesModel$Variable") (ci := 18) (k9 := 0) (Cn := RX18) (T := TX18) (N := 4) C rfl wt_X18 tyX18_ok nmX18 (by decide) ww_510 rfl (by decide +kernel) eX23_layPart_23 h (fun S7 h => ?_)
  refine x_iconst (v := 0) C eX23_layPart_26 (by decide) ?_
  refine x_istore (lv2 := [(5, va_rf (some a2)), (0, .ref m9), (1, va_rf x1), (2, va_rf x2), (3, .int x3), (4, va_rf x4)]) C eX23_layPart_27 (by decide) rfl (oky (cat_rf (some a2)) (oky rfl (oky (cat_rf x1) (oky (cat_rf x2) (oky rfl (oky (cat_rf x4) ok0)))))) ?_
  refine x_sub [2, 3, 4, 5, 6, 1, 0] rfl ?_
  exact j_29 bigN S7 x1 x2 x3 x4 (some a2) 0 h
set_option maxRecDepth 20000 in
set_option maxHeartbeats 4000000 in
theorem k_X23_layReturn (l : Launch) (D : va_G) (K : Ky) (m9 : Nat) (mr : Nat → Nat) (S0 Sf : Sg) (x1 : Option Nat) (rf : Unit) (h : f_layReturn K S0 x1 = some (Sf, rf)) : CT l D K m9 mr yX23_layReturn (Cond.code yX23_layReturn cX23_layReturn 4 none) (826) (18584) S0 Sf [.ref m9, va_rf x1] none := by
  refine x_start (cc := cX23_layReturn) (lv := [(0, .ref m9), (1, va_rf x1)]) rfl rfl (by decide) (by simp [lv_args, cat_rf, cat_i, cat_l, cat_a]) (by simp [lg_sl, cat_rf, cat_i, cat_l, cat_a]) (fun p e R s m args below meth c Q A C => ?_)
  have j_87 : ∀ (S : Sg) (x1 : Option Nat) (x2 : Int32), f_layReturn_87 K S x1 x2 = some (Sf, rf) → WX p l e R s m args below meth c Q D A K m9 mr 4 S0 S 87 [(0, .ref m9), (1, va_rf x1), (2, .int x2)] [] := by
    intro S x1 x2 h
    unfold f_layReturn_87 at h
    refine x_tload_n C eX23_layReturn_87 rfl 0 rfl ?_
    refine x_bipush (v := 26) C eX23_layReturn_88 (by decide) ?_
    refine x_aload_n C eX23_layReturn_90 rfl 1 rfl ?_
    refine x_gI (o9 := x1) (ci := 19) (k9 := 1) (Cn := RX19) (T := TX19) (N := 14) C rfl wt_X19 (by decide) ww_133 eX23_layReturn_91 h (fun v25 h => ?_)
    refine x_cVi (As := [.int 26, .int v25]) (st := []) (n := 2) (frc := 1) (loc := 20) C h (fun S9 r9 e9 => k_X23_point l D K m9 mr _ S9 26 v25 r9 e9) ww_483 ww_532 ww_533 ww_534 ww_16 (by decide +kernel) rfl ⟨by omega, by omega⟩ (Nat.le_of_ble_eq_true rfl) eX23_layReturn_94 (fun S26 v27 h => ?_)
    refine x_pop C eX23_layReturn_97 rfl ?_
    refine x_tload_n C eX23_layReturn_98 rfl 0 rfl ?_
    refine x_iload_n C eX23_layReturn_99 rfl 2 rfl ?_
    refine x_pM (k9 := 48) C (by decide) rfl (by decide) ww_525 rfl (by decide +kernel) eX23_layReturn_100 h (fun S28 h => ?_)
    exact x_vret C rfl rfl eX23_layReturn_103 h
  have j_20 : ∀ (S : Sg) (x1 : Option Nat) (x2 : Int32), f_layReturn_20 K S x1 x2 = some (Sf, rf) → WX p l e R s m args below meth c Q D A K m9 mr 4 S0 S 20 [(0, .ref m9), (1, va_rf x1), (2, .int x2)] [] := by
    intro S x1 x2 h
    unfold f_layReturn_20 at h
    refine x_tload_n C eX23_layReturn_20 rfl 0 rfl ?_
    refine x_iconst (v := 0) C eX23_layReturn_21 (by decide) ?_
    refine x_aload_n C eX23_layReturn_22 rfl 1 rfl ?_
    refine x_gI (o9 := x1) (ci := 19) (k9 := 1) (Cn := RX19) (T := TX19) (N := 14) C rfl wt_X19 (by decide) ww_133 eX23_layReturn_23 h (fun v5 h => ?_)
    refine x_cVv (As := [.int 0, .int v5]) (st := []) (n := 2) (frc := 3) (loc := 61) C h (fun S9 r9 e9 => k_X23_goOut l D K m9 mr _ S9 0 v5 r9 e9) ww_584 ww_589 ww_590 ww_591 ww_16 (by decide +kernel) rfl ⟨by omega, by omega⟩ (Nat.le_of_ble_eq_true rfl) eX23_layReturn_26 (fun S6 v7 h => ?_)
    refine x_aload_n C eX23_layReturn_29 rfl 1 rfl ?_
    refine x_gR (o9 := x1) (ci := 19) (k9 := 6) (Cn := RX19) (T := TX19) (N := 14) C rfl wt_X19 (by decide) ww_144 eX23_layReturn_30 h (fun v8 h => ?_)
    refine x_ifnull (tgt := 87) C eX23_layReturn_33 (by decide) h (fun h => ?_) (fun h => ?_)
    · refine x_sub [0, 1, 2] rfl ?_
      exact j_87 S6 x1 x2 h
    · refine x_aload_n C eX23_layReturn_36 rfl 1 rfl ?_
      refine x_gR (o9 := x1) (ci := 19) (k9 := 6) (Cn := RX19) (T := TX19) (N := 14) C rfl wt_X19 (by decide) ww_144 eX23_layReturn_37 h (fun v9 h => ?_)
      refine x_gR (o9 := v9) (ci := 15) (k9 := 12) (Cn := RX15) (T := TX15) (N := 14) C rfl wt_X15 (by decide) ww_338 eX23_layReturn_40 h (fun v10 h => ?_)
      refine x_cSi (As := [va_rf v10]) (st := []) (n := 1) (frc := 1) (loc := 20) C h (fun S9 r9 e9 => k_X23_refers l D K m9 mr _ S9 v10 r9 e9) ww_258 ww_354 ww_355 ww_16 (by decide +kernel) rfl ⟨by omega, by omega⟩ (Nat.le_of_ble_eq_true rfl) eX23_layReturn_43 (fun S11 v12 h => ?_)
      refine x_if_eq (tgt := 87) C eX23_layReturn_46 (by decide) h (fun h => ?_) (fun h => ?_)
      · refine x_sub [0, 1, 2] rfl ?_
        exact j_87 S11 x1 x2 h
      · refine x_tload_n C eX23_layReturn_49 rfl 0 rfl ?_
        refine x_bipush (v := 25) C eX23_layReturn_50 (by decide) ?_
        refine x_aload_n C eX23_layReturn_52 rfl 1 rfl ?_
        refine x_gR (o9 := x1) (ci := 19) (k9 := 6) (Cn := RX19) (T := TX19) (N := 14) C rfl wt_X19 (by decide) ww_144 eX23_layReturn_53 h (fun v13 h => ?_)
        refine x_gI (o9 := v13) (ci := 15) (k9 := 1) (Cn := RX15) (T := TX15) (N := 14) C rfl wt_X15 (by decide) ww_211 eX23_layReturn_56 h (fun v14 h => ?_)
        refine x_cVi (As := [.int 25, .int v14]) (st := []) (n := 2) (frc := 1) (loc := 20) C h (fun S9 r9 e9 => k_X23_point l D K m9 mr _ S9 25 v14 r9 e9) ww_483 ww_532 ww_533 ww_534 ww_16 (by decide +kernel) rfl ⟨by omega, by omega⟩ (Nat.le_of_ble_eq_true rfl) eX23_layReturn_59 (fun S15 v16 h => ?_)
        refine x_istore_n (lv2 := [(0, .ref m9), (1, va_rf x1), (2, .int x2)]) C eX23_layReturn_62 rfl (by decide) rfl (oky rfl (oky (cat_rf x1) (oky rfl ok0))) ?_
        refine x_tload_n C eX23_layReturn_63 rfl 1 rfl ?_
        refine x_mV (k9 := 37) C (by decide) ww_495 eX23_layReturn_64 rfl ?_
        refine x_iload_n C eX23_layReturn_67 rfl 0 rfl ?_
        refine x_tload_n C eX23_layReturn_68 rfl 1 rfl ?_
        refine x_iload_n C eX23_layReturn_69 rfl 3 rfl ?_
        refine x_cSi (As := [.int x2]) (st := [.ref m9, .int v16, .ref (mr 37)]) (n := 1) (frc := 1) (loc := 20) C h (fun S9 r9 e9 => k_X23_temporary l D K m9 mr _ S9 x2 r9 e9) ww_512 ww_526 ww_527 ww_16 (by decide +kernel) rfl ⟨by omega, by omega⟩ (Nat.le_of_ble_eq_true rfl) eX23_layReturn_70 (fun S17 v18 h => ?_)
        refine x_cVr (As := [.int v18]) (st := [.int v16, .ref (mr 37)]) (n := 1) (frc := 1) (loc := 20) C h (fun S9 r9 e9 => k_X23_just l D K m9 mr _ S9 v18 r9 e9) ww_501 ww_521 ww_522 ww_523 ww_16 (by decide +kernel) rfl ⟨by omega, by omega⟩ (Nat.le_of_ble_eq_true rfl) eX23_layReturn_73 (fun S19 v20 h => ?_)
        refine x_wA (r := 37) C (by decide) rfl eX23_layReturn_76 h (fun S21 h => ?_)
        refine x_tload_n C eX23_layReturn_77 rfl 1 rfl ?_
        refine x_mV (k9 := 28) C (by decide) ww_487 eX23_layReturn_78 rfl ?_
        refine x_iload_n C eX23_layReturn_81 rfl 0 rfl ?_
        refine x_iload_n C eX23_layReturn_82 rfl 3 rfl ?_
        refine x_cSi (As := [.int x2]) (st := [.int v16, .ref (mr 28)]) (n := 1) (frc := 1) (loc := 20) C h (fun S9 r9 e9 => k_X23_temporary l D K m9 mr _ S9 x2 r9 e9) ww_512 ww_526 ww_527 ww_16 (by decide +kernel) rfl ⟨by omega, by omega⟩ (Nat.le_of_ble_eq_true rfl) eX23_layReturn_83 (fun S22 v23 h => ?_)
        refine x_wI (r := 28) C (by decide) rfl eX23_layReturn_86 h (fun S24 h => ?_)
        refine x_sub [1, 2, 3] rfl ?_
        exact j_87 S24 x1 x2 h
  unfold f_layReturn at h
  refine x_tload_n C eX23_layReturn_0 rfl 0 rfl ?_
  refine x_mV (k9 := 48) C (by decide) ww_525 eX23_layReturn_1 rfl ?_
  refine x_istore_n (lv2 := [(0, .ref m9), (1, va_rf x1)]) C eX23_layReturn_4 rfl (by decide) rfl (oky rfl (oky (cat_rf x1) ok0)) ?_
  refine x_aload_n C eX23_layReturn_5 rfl 2 rfl ?_
  refine x_gR (o9 := x1) (ci := 19) (k9 := 6) (Cn := RX19) (T := TX19) (N := 14) C rfl wt_X19 (by decide) ww_144 eX23_layReturn_6 h (fun v1 h => ?_)
  refine x_ifnull (tgt := 20) C eX23_layReturn_9 (by decide) h (fun h => ?_) (fun h => ?_)
  · refine x_sub [1, 2, 0] rfl ?_
    exact j_20 S0 x1 (Zi S0 48) h
  · refine x_tload_n C eX23_layReturn_12 rfl 1 rfl ?_
    refine x_aload_n C eX23_layReturn_13 rfl 2 rfl ?_
    refine x_gR (o9 := x1) (ci := 19) (k9 := 6) (Cn := RX19) (T := TX19) (N := 14) C rfl wt_X19 (by decide) ww_144 eX23_layReturn_14 h (fun v2 h => ?_)
    refine x_cVv (As := [va_rf v2]) (st := []) (n := 1) (frc := 5 + 2 * 410) (loc := 113 + 45 * 410) C h (fun S9 r9 e9 => k_X23_give l D K m9 mr 410 _ S9 v2 r9 e9) ww_551 ww_555 ww_556 ww_557 ww_16 (by decide +kernel) rfl ⟨by omega, by omega⟩ (Nat.le_of_ble_eq_true rfl) eX23_layReturn_17 (fun S3 v4 h => ?_)
    refine x_sub [1, 2, 0] rfl ?_
    exact j_20 S3 x1 (Zi S0 48) h
set_option maxRecDepth 20000 in
set_option maxHeartbeats 4000000 in
theorem k_X23_layWhile (l : Launch) (D : va_G) (K : Ky) (m9 : Nat) (mr : Nat → Nat) (V : Sg → Option Nat → Option (Sg × Unit)) (d : Nat) (hV : ∀ (S0 Sf : Sg) (x1 : Option Nat) (rf : Unit), V S0 x1 = some (Sf, rf) → CT l D K m9 mr yX23_layBlock (Cond.code yX23_layBlock cX23_layBlock 4 none) (827 + 3 * d) (18607 + 73 * d) S0 Sf [.ref m9, va_rf x1] none) (S0 Sf : Sg) (x1 : Option Nat) (rf : Unit) (h : f_layWhile K V S0 x1 = some (Sf, rf)) : CT l D K m9 mr yX23_layWhile (Cond.code yX23_layWhile cX23_layWhile 4 none) (828 + 3 * d) (18630 + 73 * d) S0 Sf [.ref m9, va_rf x1] none := by
  refine x_start (cc := cX23_layWhile) (lv := [(0, .ref m9), (1, va_rf x1)]) rfl rfl (by decide) (by simp [lv_args, cat_rf, cat_i, cat_l, cat_a]) (by simp [lg_sl, cat_rf, cat_i, cat_l, cat_a]) (fun p e R s m args below meth c Q A C => ?_)
  unfold f_layWhile at h
  refine x_tload_n C eX23_layWhile_0 rfl 0 rfl ?_
  refine x_iconst (v := 0) C eX23_layWhile_1 (by decide) ?_
  refine x_aload_n C eX23_layWhile_2 rfl 1 rfl ?_
  refine x_gI (o9 := x1) (ci := 19) (k9 := 1) (Cn := RX19) (T := TX19) (N := 14) C rfl wt_X19 (by decide) ww_133 eX23_layWhile_3 h (fun v1 h => ?_)
  refine x_cVi (As := [.int 0, .int v1]) (st := []) (n := 2) (frc := 1) (loc := 20) C h (fun S9 r9 e9 => k_X23_point l D K m9 mr _ S9 0 v1 r9 e9) ww_483 ww_532 ww_533 ww_534 ww_16 (by decide +kernel) rfl ⟨by omega, by omega⟩ (Nat.le_of_ble_eq_true rfl) eX23_layWhile_6 (fun S2 v3 h => ?_)
  refine x_istore_n (lv2 := [(0, .ref m9), (1, va_rf x1)]) C eX23_layWhile_9 rfl (by decide) rfl (oky rfl (oky (cat_rf x1) ok0)) ?_
  refine x_tload_n C eX23_layWhile_10 rfl 1 rfl ?_
  refine x_aload_n C eX23_layWhile_11 rfl 2 rfl ?_
  refine x_gR (o9 := x1) (ci := 19) (k9 := 6) (Cn := RX19) (T := TX19) (N := 14) C rfl wt_X19 (by decide) ww_144 eX23_layWhile_12 h (fun v4 h => ?_)
  refine x_cVv (As := [va_rf v4]) (st := []) (n := 1) (frc := 5 + 2 * 410) (loc := 113 + 45 * 410) C h (fun S9 r9 e9 => k_X23_give l D K m9 mr 410 _ S9 v4 r9 e9) ww_551 ww_555 ww_556 ww_557 ww_16 (by decide +kernel) rfl ⟨by omega, by omega⟩ (Nat.le_of_ble_eq_true rfl) eX23_layWhile_15 (fun S5 v6 h => ?_)
  refine x_tload_n C eX23_layWhile_18 rfl 1 rfl ?_
  refine x_dup C eX23_layWhile_19 rfl ?_
  refine x_mV (k9 := 48) C (by decide) ww_525 eX23_layWhile_20 rfl ?_
  refine x_iconst (v := 1) C eX23_layWhile_23 (by decide) ?_
  refine x_isub C eX23_layWhile_24 ?_
  refine x_pM (k9 := 48) C (by decide) rfl (by decide) ww_525 rfl (by decide +kernel) eX23_layWhile_25 h (fun S7 h => ?_)
  refine x_tload_n C eX23_layWhile_28 rfl 1 rfl ?_
  refine x_bipush (v := 17) C eX23_layWhile_29 (by decide) ?_
  refine x_aload_n C eX23_layWhile_31 rfl 2 rfl ?_
  refine x_gI (o9 := x1) (ci := 19) (k9 := 1) (Cn := RX19) (T := TX19) (N := 14) C rfl wt_X19 (by decide) ww_133 eX23_layWhile_32 h (fun v8 h => ?_)
  refine x_cVi (As := [.int 17, .int v8]) (st := []) (n := 2) (frc := 1) (loc := 20) C h (fun S9 r9 e9 => k_X23_point l D K m9 mr _ S9 17 v8 r9 e9) ww_483 ww_532 ww_533 ww_534 ww_16 (by decide +kernel) rfl ⟨by omega, by omega⟩ (Nat.le_of_ble_eq_true rfl) eX23_layWhile_35 (fun S9 v10 h => ?_)
  refine x_istore_n (lv2 := [(2, .int v3), (0, .ref m9), (1, va_rf x1)]) C eX23_layWhile_38 rfl (by decide) rfl (oky rfl (oky rfl (oky (cat_rf x1) ok0))) ?_
  refine x_tload_n C eX23_layWhile_39 rfl 2 rfl ?_
  refine x_aload_n C eX23_layWhile_40 rfl 3 rfl ?_
  refine x_gR (o9 := x1) (ci := 19) (k9 := 9) (Cn := RX19) (T := TX19) (N := 14) C rfl wt_X19 (by decide) ww_145 eX23_layWhile_41 h (fun v11 h => ?_)
  refine x_cVv (As := [va_rf v11]) (st := []) (n := 1) (frc := 827 + 3 * d) (loc := 18607 + 73 * d) C h (fun S9 r9 e9 => hV _ S9 v11 r9 e9) ww_585 ww_611 ww_612 ww_613 ww_16 (by decide +kernel) rfl ⟨by omega, by omega⟩ (Nat.le_of_ble_eq_true rfl) eX23_layWhile_44 (fun S12 v13 h => ?_)
  refine x_tload_n C eX23_layWhile_47 rfl 2 rfl ?_
  refine x_mV (k9 := 30) C (by decide) ww_489 eX23_layWhile_48 rfl ?_
  refine x_tload_n C eX23_layWhile_51 rfl 2 rfl ?_
  refine x_bipush (v := 16) C eX23_layWhile_52 (by decide) ?_
  refine x_aload_n C eX23_layWhile_54 rfl 3 rfl ?_
  refine x_gI (o9 := x1) (ci := 19) (k9 := 1) (Cn := RX19) (T := TX19) (N := 14) C rfl wt_X19 (by decide) ww_133 eX23_layWhile_55 h (fun v14 h => ?_)
  refine x_cVi (As := [.int 16, .int v14]) (st := [.ref (mr 30)]) (n := 2) (frc := 1) (loc := 20) C h (fun S9 r9 e9 => k_X23_point l D K m9 mr _ S9 16 v14 r9 e9) ww_483 ww_532 ww_533 ww_534 ww_16 (by decide +kernel) rfl ⟨by omega, by omega⟩ (Nat.le_of_ble_eq_true rfl) eX23_layWhile_58 (fun S15 v16 h => ?_)
  refine x_iload_n C eX23_layWhile_61 rfl 1 rfl ?_
  refine x_wI (r := 30) C (by decide) rfl eX23_layWhile_62 h (fun S17 h => ?_)
  refine x_tload_n C eX23_layWhile_63 rfl 2 rfl ?_
  refine x_mV (k9 := 30) C (by decide) ww_489 eX23_layWhile_64 rfl ?_
  refine x_iload_n C eX23_layWhile_67 rfl 0 rfl ?_
  refine x_tload_n C eX23_layWhile_68 rfl 2 rfl ?_
  refine x_mV (k9 := 26) C (by decide) ww_484 eX23_layWhile_69 rfl ?_
  refine x_wI (r := 30) C (by decide) rfl eX23_layWhile_72 h (fun S18 h => ?_)
  exact x_vret C rfl rfl eX23_layWhile_73 h
set_option maxRecDepth 20000 in
set_option maxHeartbeats 4000000 in
theorem k_X23_layMatch (l : Launch) (D : va_G) (K : Ky) (m9 : Nat) (mr : Nat → Nat) (V : Sg → Option Nat → Option (Sg × Unit)) (d : Nat) (hV : ∀ (S0 Sf : Sg) (x1 : Option Nat) (rf : Unit), V S0 x1 = some (Sf, rf) → CT l D K m9 mr yX23_layBlock (Cond.code yX23_layBlock cX23_layBlock 4 none) (827 + 3 * d) (18607 + 73 * d) S0 Sf [.ref m9, va_rf x1] none) (S0 Sf : Sg) (x1 : Option Nat) (rf : Unit) (h : f_layMatch K V S0 x1 = some (Sf, rf)) : CT l D K m9 mr yX23_layMatch (Cond.code yX23_layMatch cX23_layMatch 9 none) (828 + 3 * d) (18630 + 73 * d) S0 Sf [.ref m9, va_rf x1] none := by
  refine x_start (cc := cX23_layMatch) (lv := [(0, .ref m9), (1, va_rf x1)]) rfl rfl (by decide) (by simp [lv_args, cat_rf, cat_i, cat_l, cat_a]) (by simp [lg_sl, cat_rf, cat_i, cat_l, cat_a]) (fun p e R s m args below meth c Q A C => ?_)
  have j_308 : ∀ (n_308 : Nat) (S : Sg) (x1 : Option Nat) (x4 : Option Nat) (x5 : Int32), f_layMatch_308 K V n_308 S x1 x4 x5 = some (Sf, rf) → WX p l e R s m args below meth c Q D A K m9 mr 9 S0 S 308 [(0, .ref m9), (1, va_rf x1), (4, va_rf x4), (5, .int x5)] [] := by
    intro n_308
    induction n_308 with
    | zero => intro S x1 x4 x5 h; unfold f_layMatch_308 at h; cases h
    | succ n_308 ih_308 =>
      intro S x1 x4 x5 h
      unfold f_layMatch_308 at h
      refine x_iload C eX23_layMatch_308 3 rfl ?_
      refine x_aload_n C eX23_layMatch_310 rfl 1 rfl ?_
      refine x_gI (o9 := x1) (ci := 19) (k9 := 13) (Cn := RX19) (T := TX19) (N := 14) C rfl wt_X19 (by decide) ww_167 eX23_layMatch_311 h (fun v62 h => ?_)
      refine x_ic_ge (tgt := 337) C eX23_layMatch_314 (by decide) h (fun h => ?_) (fun h => ?_)
      · exact x_vret C rfl rfl eX23_layMatch_337 h
      · refine x_tload_n C eX23_layMatch_317 rfl 0 rfl ?_
        refine x_mV (k9 := 30) C (by decide) ww_489 eX23_layMatch_318 rfl ?_
        refine x_aload C eX23_layMatch_321 2 rfl ?_
        refine x_iload C eX23_layMatch_323 3 rfl ?_
        refine x_aI C eX23_layMatch_325 h (fun v63 h => ?_)
        refine x_tload_n C eX23_layMatch_326 rfl 0 rfl ?_
        refine x_mV (k9 := 26) C (by decide) ww_484 eX23_layMatch_327 rfl ?_
        refine x_wI (r := 30) C (by decide) rfl eX23_layMatch_330 h (fun S64 h => ?_)
        refine x_iinc (j := 3) (v := 1) (lv2 := [(0, .ref m9), (1, va_rf x1), (4, va_rf x4)]) C eX23_layMatch_331 rfl (by decide) (by decide) rfl (oky rfl (oky (cat_rf x1) (oky (cat_rf x4) ok0))) ?_
        refine x_goto (tgt := 308) C eX23_layMatch_334 (by decide) ?_
        refine x_sub [1, 2, 3, 0] rfl ?_
        exact ih_308 S64 x1 x4 (x5 + 1) h
  have j_142 : ∀ (n_142 : Nat) (S : Sg) (x1 : Option Nat) (x2 : Option Nat) (x3 : Int32) (x4 : Option Nat) (x5 : Int32), f_layMatch_142 K V n_142 S x1 x2 x3 x4 x5 = some (Sf, rf) → WX p l e R s m args below meth c Q D A K m9 mr 9 S0 S 142 [(0, .ref m9), (1, va_rf x1), (2, va_rf x2), (3, .int x3), (4, va_rf x4), (5, .int x5)] [] := by
    intro n_142
    induction n_142 with
    | zero => intro S x1 x2 x3 x4 x5 h; unfold f_layMatch_142 at h; cases h
    | succ n_142 ih_142 =>
      intro S x1 x2 x3 x4 x5 h
      have j_210 : ∀ (n_210 : Nat) (S : Sg) (x1 : Option Nat) (x2 : Option Nat) (x3 : Int32) (x4 : Option Nat) (x5 : Int32) (x6 : Option Nat) (x7 : Int32) (x8 : Int32), f_layMatch_210 K V (f_layMatch_142 K V n_142) n_210 S x1 x2 x3 x4 x5 x6 x7 x8 = some (Sf, rf) → WX p l e R s m args below meth c Q D A K m9 mr 9 S0 S 210 [(0, .ref m9), (1, va_rf x1), (2, va_rf x2), (3, .int x3), (4, va_rf x4), (5, .int x5), (6, va_rf x6), (7, .int x7), (8, .int x8)] [] := by
        intro n_210
        induction n_210 with
        | zero => intro S x1 x2 x3 x4 x5 x6 x7 x8 h; unfold f_layMatch_210 at h; cases h
        | succ n_210 ih_210 =>
          intro S x1 x2 x3 x4 x5 x6 x7 x8 h
          have j_237 : ∀ (S : Sg) (x1 : Option Nat) (x2 : Option Nat) (x3 : Int32) (x4 : Option Nat) (x5 : Int32) (x6 : Option Nat) (x7 : Int32) (x8 : Int32), f_layMatch_237 K V (f_layMatch_142 K V n_142) (f_layMatch_210 K V (f_layMatch_142 K V n_142) n_210) S x1 x2 x3 x4 x5 x6 x7 x8 = some (Sf, rf) → WX p l e R s m args below meth c Q D A K m9 mr 9 S0 S 237 [(0, .ref m9), (1, va_rf x1), (2, va_rf x2), (3, .int x3), (4, va_rf x4), (5, .int x5), (6, va_rf x6), (7, .int x7), (8, .int x8)] [] := by
            intro S x1 x2 x3 x4 x5 x6 x7 x8 h
            unfold f_layMatch_237 at h
            refine x_tload_n C eX23_layMatch_237 rfl 0 rfl ?_
            refine x_aload C eX23_layMatch_238 6 rfl ?_
            refine x_gR (o9 := x6) (ci := 13) (k9 := 4) (Cn := RX13) (T := TX13) (N := 6) C rfl wt_X13 (by decide) ww_454 eX23_layMatch_240 h (fun v58 h => ?_)
            refine x_iload C eX23_layMatch_243 8 rfl ?_
            refine x_aQ (t9 := 5) C rfl eX23_layMatch_245 h (fun v59 h => ?_)
            refine x_cVv (As := [va_rf v59]) (st := []) (n := 1) (frc := 1) (loc := 20) C h (fun S9 r9 e9 => k_X23_comesAlive l D K m9 mr _ S9 v59 r9 e9) ww_581 ww_619 ww_620 ww_621 ww_16 (by decide +kernel) rfl ⟨by omega, by omega⟩ (Nat.le_of_ble_eq_true rfl) eX23_layMatch_246 (fun S60 v61 h => ?_)
            refine x_iinc (j := 8) (v := 1) (lv2 := [(0, .ref m9), (1, va_rf x1), (2, va_rf x2), (3, .int x3), (4, va_rf x4), (5, .int x5), (6, va_rf x6), (7, .int x7)]) C eX23_layMatch_249 rfl (by decide) (by decide) rfl (oky rfl (oky (cat_rf x1) (oky (cat_rf x2) (oky rfl (oky (cat_rf x4) (oky rfl (oky (cat_rf x6) (oky rfl ok0)))))))) ?_
            refine x_goto (tgt := 210) C eX23_layMatch_252 (by decide) ?_
            refine x_sub [1, 2, 3, 4, 5, 6, 7, 8, 0] rfl ?_
            exact ih_210 S60 x1 x2 x3 x4 x5 x6 x7 (x8 + 1) h
          unfold f_layMatch_210 at h
          refine x_iload C eX23_layMatch_210 8 rfl ?_
          refine x_aload C eX23_layMatch_212 6 rfl ?_
          refine x_gI (o9 := x6) (ci := 13) (k9 := 3) (Cn := RX13) (T := TX13) (N := 6) C rfl wt_X13 (by decide) ww_187 eX23_layMatch_214 h (fun v42 h => ?_)
          refine x_ic_ge (tgt := 255) C eX23_layMatch_217 (by decide) h (fun h => ?_) (fun h => ?_)
          · refine x_tload_n C eX23_layMatch_255 rfl 0 rfl ?_
            refine x_aload C eX23_layMatch_256 6 rfl ?_
            refine x_gR (o9 := x6) (ci := 13) (k9 := 5) (Cn := RX13) (T := TX13) (N := 6) C rfl wt_X13 (by decide) ww_189 eX23_layMatch_258 h (fun v43 h => ?_)
            refine x_cVv (As := [va_rf v43]) (st := []) (n := 1) (frc := 827 + 3 * d) (loc := 18607 + 73 * d) C h (fun S9 r9 e9 => hV _ S9 v43 r9 e9) ww_585 ww_611 ww_612 ww_613 ww_16 (by decide +kernel) rfl ⟨by omega, by omega⟩ (Nat.le_of_ble_eq_true rfl) eX23_layMatch_261 (fun S44 v45 h => ?_)
            refine x_tload_n C eX23_layMatch_264 rfl 0 rfl ?_
            refine x_iload C eX23_layMatch_265 7 rfl ?_
            refine x_aload C eX23_layMatch_267 6 rfl ?_
            refine x_gR (o9 := x6) (ci := 13) (k9 := 5) (Cn := RX13) (T := TX13) (N := 6) C rfl wt_X13 (by decide) ww_189 eX23_layMatch_269 h (fun v46 h => ?_)
            refine x_gI (o9 := v46) (ci := 14) (k9 := 1) (Cn := RX14) (T := TX14) (N := 4) C rfl wt_X14 (by decide) ww_127 eX23_layMatch_272 h (fun v47 h => ?_)
            refine x_cVv (As := [.int x7, .int v47]) (st := []) (n := 2) (frc := 3) (loc := 61) C h (fun S9 r9 e9 => k_X23_goOut l D K m9 mr _ S9 x7 v47 r9 e9) ww_584 ww_589 ww_590 ww_591 ww_16 (by decide +kernel) rfl ⟨by omega, by omega⟩ (Nat.le_of_ble_eq_true rfl) eX23_layMatch_275 (fun S48 v49 h => ?_)
            refine x_tload_n C eX23_layMatch_278 rfl 0 rfl ?_
            refine x_iload C eX23_layMatch_279 7 rfl ?_
            refine x_pM (k9 := 50) C (by decide) rfl (by decide) ww_583 rfl (by decide +kernel) eX23_layMatch_281 h (fun S50 h => ?_)
            refine x_aload C eX23_layMatch_284 4 rfl ?_
            refine x_iload C eX23_layMatch_286 5 rfl ?_
            refine x_tload_n C eX23_layMatch_288 rfl 0 rfl ?_
            refine x_bipush (v := 16) C eX23_layMatch_289 (by decide) ?_
            refine x_aload_n C eX23_layMatch_291 rfl 1 rfl ?_
            refine x_gI (o9 := x1) (ci := 19) (k9 := 1) (Cn := RX19) (T := TX19) (N := 14) C rfl wt_X19 (by decide) ww_133 eX23_layMatch_292 h (fun v51 h => ?_)
            refine x_cVi (As := [.int 16, .int v51]) (st := [.int x5, va_rf x4]) (n := 2) (frc := 1) (loc := 20) C h (fun S9 r9 e9 => k_X23_point l D K m9 mr _ S9 16 v51 r9 e9) ww_483 ww_532 ww_533 ww_534 ww_16 (by decide +kernel) rfl ⟨by omega, by omega⟩ (Nat.le_of_ble_eq_true rfl) eX23_layMatch_295 (fun S52 v53 h => ?_)
            refine x_bI C eX23_layMatch_298 h (fun S54 h => ?_)
            refine x_iinc (j := 5) (v := 1) (lv2 := [(0, .ref m9), (1, va_rf x1), (2, va_rf x2), (3, .int x3), (4, va_rf x4), (6, va_rf x6), (7, .int x7), (8, .int x8)]) C eX23_layMatch_299 rfl (by decide) (by decide) rfl (oky rfl (oky (cat_rf x1) (oky (cat_rf x2) (oky rfl (oky (cat_rf x4) (oky (cat_rf x6) (oky rfl (oky rfl ok0)))))))) ?_
            refine x_goto (tgt := 142) C eX23_layMatch_302 (by decide) ?_
            refine x_sub [1, 2, 3, 4, 5, 0] rfl ?_
            exact ih_142 S54 x1 x2 x3 x4 (x5 + 1) h
          · refine x_aload_n C eX23_layMatch_220 rfl 1 rfl ?_
            refine x_gI (o9 := x1) (ci := 19) (k9 := 4) (Cn := RX19) (T := TX19) (N := 14) C rfl wt_X19 (by decide) ww_176 eX23_layMatch_221 h (fun v55 h => ?_)
            refine x_if_eq (tgt := 237) C eX23_layMatch_224 (by decide) h (fun h => ?_) (fun h => ?_)
            · refine x_sub [0, 1, 2, 3, 4, 5, 6, 7, 8] rfl ?_
              exact j_237 S x1 x2 x3 x4 x5 x6 x7 x8 h
            · refine x_tload_n C eX23_layMatch_227 rfl 0 rfl ?_
              refine x_aload_n C eX23_layMatch_228 rfl 1 rfl ?_
              refine x_aload C eX23_layMatch_229 6 rfl ?_
              refine x_iload C eX23_layMatch_231 8 rfl ?_
              refine x_aload_n C eX23_layMatch_233 rfl 2 rfl ?_
              refine x_cVv (As := [va_rf x1, va_rf x6, .int x8, va_rf x2]) (st := []) (n := 4) (frc := 3) (loc := 63) C h (fun S9 r9 e9 => k_X23_layPart l D K m9 mr _ S9 x1 x6 x8 x2 r9 e9) ww_630 ww_627 ww_628 ww_629 ww_16 (by decide +kernel) rfl ⟨by omega, by omega⟩ (Nat.le_of_ble_eq_true rfl) eX23_layMatch_234 (fun S56 v57 h => ?_)
              refine x_sub [0, 1, 2, 3, 4, 5, 6, 7, 8] rfl ?_
              exact j_237 S56 x1 x2 x3 x4 x5 x6 x7 x8 h
      have j_207 : ∀ (S : Sg) (x1 : Option Nat) (x2 : Option Nat) (x3 : Int32) (x4 : Option Nat) (x5 : Int32) (x6 : Option Nat) (x7 : Int32), f_layMatch_207 K V (f_layMatch_142 K V n_142) S x1 x2 x3 x4 x5 x6 x7 = some (Sf, rf) → WX p l e R s m args below meth c Q D A K m9 mr 9 S0 S 207 [(0, .ref m9), (1, va_rf x1), (2, va_rf x2), (3, .int x3), (4, va_rf x4), (5, .int x5), (6, va_rf x6), (7, .int x7)] [] := by
        intro S x1 x2 x3 x4 x5 x6 x7 h
        unfold f_layMatch_207 at h
        refine x_iconst (v := 0) C eX23_layMatch_207 (by decide) ?_
        refine x_istore (lv2 := [(0, .ref m9), (1, va_rf x1), (2, va_rf x2), (3, .int x3), (4, va_rf x4), (5, .int x5), (6, va_rf x6), (7, .int x7)]) C eX23_layMatch_208 (by decide) rfl (oky rfl (oky (cat_rf x1) (oky (cat_rf x2) (oky rfl (oky (cat_rf x4) (oky rfl (oky (cat_rf x6) (oky rfl ok0)))))))) ?_
        refine x_sub [1, 2, 3, 4, 5, 6, 7, 8, 0] rfl ?_
        exact j_210 bigN S x1 x2 x3 x4 x5 x6 x7 0 h
      unfold f_layMatch_142 at h
      refine x_iload C eX23_layMatch_142 5 rfl ?_
      refine x_aload_n C eX23_layMatch_144 rfl 1 rfl ?_
      refine x_gI (o9 := x1) (ci := 19) (k9 := 13) (Cn := RX19) (T := TX19) (N := 14) C rfl wt_X19 (by decide) ww_167 eX23_layMatch_145 h (fun v31 h => ?_)
      refine x_ic_ge (tgt := 305) C eX23_layMatch_148 (by decide) h (fun h => ?_) (fun h => ?_)
      · refine x_iconst (v := 0) C eX23_layMatch_305 (by decide) ?_
        refine x_istore (lv2 := [(0, .ref m9), (1, va_rf x1), (2, va_rf x2), (3, .int x3), (4, va_rf x4)]) C eX23_layMatch_306 (by decide) rfl (oky rfl (oky (cat_rf x1) (oky (cat_rf x2) (oky rfl (oky (cat_rf x4) ok0))))) ?_
        refine x_sub [1, 2, 5, 0] rfl ?_
        exact j_308 bigN S x1 x4 0 h
      · refine x_aload_n C eX23_layMatch_151 rfl 1 rfl ?_
        refine x_gR (o9 := x1) (ci := 19) (k9 := 12) (Cn := RX19) (T := TX19) (N := 14) C rfl wt_X19 (by decide) ww_178 eX23_layMatch_152 h (fun v32 h => ?_)
        refine x_iload C eX23_layMatch_155 5 rfl ?_
        refine x_aQ (t9 := 7) C rfl eX23_layMatch_157 h (fun v33 h => ?_)
        refine x_astore (lv2 := [(0, .ref m9), (1, va_rf x1), (2, va_rf x2), (3, .int x3), (4, va_rf x4), (5, .int x5)]) C eX23_layMatch_158 (by decide) rfl (oky rfl (oky (cat_rf x1) (oky (cat_rf x2) (oky rfl (oky (cat_rf x4) (oky rfl ok0)))))) ?_
        refine x_tload_n C eX23_layMatch_160 rfl 1 rfl ?_
        refine x_mV (k9 := 50) C (by decide) ww_583 eX23_layMatch_161 rfl ?_
        refine x_istore (lv2 := [(6, va_rf v33), (0, .ref m9), (1, va_rf x1), (2, va_rf x2), (3, .int x3), (4, va_rf x4), (5, .int x5)]) C eX23_layMatch_164 (by decide) rfl (oky (cat_rf v33) (oky rfl (oky (cat_rf x1) (oky (cat_rf x2) (oky rfl (oky (cat_rf x4) (oky rfl ok0))))))) ?_
        refine x_tload_n C eX23_layMatch_166 rfl 2 rfl ?_
        refine x_mV (k9 := 42) C (by decide) ww_500 eX23_layMatch_167 rfl ?_
        refine x_iload_n C eX23_layMatch_170 rfl 5 rfl ?_
        refine x_rA (r := 42) C (by decide) rfl eX23_layMatch_171 h (fun v34 h => ?_)
        refine x_aload C eX23_layMatch_172 1 rfl ?_
        refine x_gI (o9 := v33) (ci := 13) (k9 := 1) (Cn := RX13) (T := TX13) (N := 6) C rfl wt_X13 (by decide) ww_449 eX23_layMatch_174 h (fun v35 h => ?_)
        refine x_tload_n C eX23_layMatch_177 rfl 2 rfl ?_
        refine x_mV (k9 := 26) C (by decide) ww_484 eX23_layMatch_178 rfl ?_
        refine x_bI C eX23_layMatch_181 h (fun S36 h => ?_)
        refine x_aload_n C eX23_layMatch_182 rfl 3 rfl ?_
        refine x_gI (o9 := x1) (ci := 19) (k9 := 4) (Cn := RX19) (T := TX19) (N := 14) C rfl wt_X19 (by decide) ww_176 eX23_layMatch_183 h (fun v37 h => ?_)
        refine x_if_ne (tgt := 207) C eX23_layMatch_186 (by decide) h (fun h => ?_) (fun h => ?_)
        · refine x_sub [2, 3, 4, 5, 6, 7, 1, 0] rfl ?_
          exact j_207 S36 x1 x2 x3 x4 x5 v33 (Zi S 50) h
        · refine x_tload_n C eX23_layMatch_189 rfl 2 rfl ?_
          refine x_mV (k9 := 41) C (by decide) ww_499 eX23_layMatch_190 rfl ?_
          refine x_tload_n C eX23_layMatch_193 rfl 2 rfl ?_
          refine x_bipush (v := 22) C eX23_layMatch_194 (by decide) ?_
          refine x_aload C eX23_layMatch_196 1 rfl ?_
          refine x_gI (o9 := v33) (ci := 13) (k9 := 0) (Cn := RX13) (T := TX13) (N := 6) C rfl wt_X13 (by decide) ww_186 eX23_layMatch_198 h (fun v38 h => ?_)
          refine x_cVi (As := [.int 22, .int v38]) (st := [.ref (mr 41)]) (n := 2) (frc := 1) (loc := 20) C h (fun S9 r9 e9 => k_X23_point l D K m9 mr _ S9 22 v38 r9 e9) ww_483 ww_532 ww_533 ww_534 ww_16 (by decide +kernel) rfl ⟨by omega, by omega⟩ (Nat.le_of_ble_eq_true rfl) eX23_layMatch_201 (fun S39 v40 h => ?_)
          refine x_aload C eX23_layMatch_204 1 rfl ?_
          refine x_wQ (r := 41) (t9 := 7) (ci := 13) C (by decide) rfl (by decide) rfl rfl eX23_layMatch_206 h (fun S41 h => ?_)
          refine x_sub [2, 3, 4, 5, 6, 7, 1, 0] rfl ?_
          exact j_207 S41 x1 x2 x3 x4 x5 v33 (Zi S 50) h
  have j_105 : ∀ (S : Sg) (x1 : Option Nat) (x2 : Option Nat) (x3 : Int32), f_layMatch_105 K V S x1 x2 x3 = some (Sf, rf) → WX p l e R s m args below meth c Q D A K m9 mr 9 S0 S 105 [(0, .ref m9), (1, va_rf x1), (2, va_rf x2), (3, .int x3)] [] := by
    intro S x1 x2 x3 h
    unfold f_layMatch_105 at h
    refine x_tload_n C eX23_layMatch_105 rfl 0 rfl ?_
    refine x_mV (k9 := 42) C (by decide) ww_500 eX23_layMatch_106 rfl ?_
    refine x_iload_n C eX23_layMatch_109 rfl 3 rfl ?_
    refine x_tload_n C eX23_layMatch_110 rfl 0 rfl ?_
    refine x_mV (k9 := 11) C (by decide) ww_114 eX23_layMatch_111 rfl ?_
    refine x_aload_n C eX23_layMatch_114 rfl 1 rfl ?_
    refine x_gR (o9 := x1) (ci := 19) (k9 := 6) (Cn := RX19) (T := TX19) (N := 14) C rfl wt_X19 (by decide) ww_144 eX23_layMatch_115 h (fun v20 h => ?_)
    refine x_gR (o9 := v20) (ci := 15) (k9 := 12) (Cn := RX15) (T := TX15) (N := 14) C rfl wt_X15 (by decide) ww_338 eX23_layMatch_118 h (fun v21 h => ?_)
    refine x_gI (o9 := v21) (ci := 20) (k9 := 1) (Cn := RX20) (T := TX20) (N := 4) C rfl wt_X20 (by decide) ww_248 eX23_layMatch_121 h (fun v22 h => ?_)
    refine x_rQ (r := 11) (t9 := 3) C (by decide) rfl (by decide) rfl eX23_layMatch_124 h (fun v23 h => ?_)
    refine x_gI (o9 := v23) (ci := 16) (k9 := 3) (Cn := RX16) (T := TX16) (N := 22) C rfl wt_X16 (by decide) ww_51 eX23_layMatch_125 h (fun v24 h => ?_)
    refine x_nA C ww_88 eX23_layMatch_128 h (fun S25 a26 h => ?_)
    refine x_wA (r := 42) C (by decide) rfl eX23_layMatch_130 h (fun S27 h => ?_)
    refine x_aload_n C eX23_layMatch_131 rfl 1 rfl ?_
    refine x_gI (o9 := x1) (ci := 19) (k9 := 13) (Cn := RX19) (T := TX19) (N := 14) C rfl wt_X19 (by decide) ww_167 eX23_layMatch_132 h (fun v28 h => ?_)
    refine x_nA C ww_88 eX23_layMatch_135 h (fun S29 a30 h => ?_)
    refine x_astore (lv2 := [(0, .ref m9), (1, va_rf x1), (2, va_rf x2), (3, .int x3)]) C eX23_layMatch_137 (by decide) rfl (oky rfl (oky (cat_rf x1) (oky (cat_rf x2) (oky rfl ok0)))) ?_
    refine x_iconst (v := 0) C eX23_layMatch_139 (by decide) ?_
    refine x_istore (lv2 := [(4, va_rf (some a30)), (0, .ref m9), (1, va_rf x1), (2, va_rf x2), (3, .int x3)]) C eX23_layMatch_140 (by decide) rfl (oky (cat_rf (some a30)) (oky rfl (oky (cat_rf x1) (oky (cat_rf x2) (oky rfl ok0))))) ?_
    refine x_sub [2, 3, 4, 5, 1, 0] rfl ?_
    exact j_142 bigN S29 x1 x2 x3 (some a30) 0 h
  have j_91 : ∀ (S : Sg) (x1 : Option Nat) (x2 : Option Nat) (x3 : Int32) (y0 : Int32) (y1 : Int32), f_layMatch_91 K V S x1 x2 x3 y0 y1 = some (Sf, rf) → WX p l e R s m args below meth c Q D A K m9 mr 9 S0 S 91 [(0, .ref m9), (1, va_rf x1), (2, va_rf x2), (3, .int x3)] [.int y0, .int y1, .ref (mr 33)] := by
    intro S x1 x2 x3 y0 y1 h
    unfold f_layMatch_91 at h
    refine x_wI (r := 33) C (by decide) rfl eX23_layMatch_91 h (fun S19 h => ?_)
    refine x_goto (tgt := 105) C eX23_layMatch_92 (by decide) ?_
    refine x_sub [0, 1, 2, 3] rfl ?_
    exact j_105 S19 x1 x2 x3 h
  have j_50 : ∀ (S : Sg) (x1 : Option Nat) (x2 : Option Nat) (y0 : Int32), f_layMatch_50 K V S x1 x2 y0 = some (Sf, rf) → WX p l e R s m args below meth c Q D A K m9 mr 9 S0 S 50 [(0, .ref m9), (1, va_rf x1), (2, va_rf x2)] [.int y0, .ref m9] := by
    intro S x1 x2 y0 h
    unfold f_layMatch_50 at h
    refine x_aload_n C eX23_layMatch_50 rfl 1 rfl ?_
    refine x_gR (o9 := x1) (ci := 19) (k9 := 6) (Cn := RX19) (T := TX19) (N := 14) C rfl wt_X19 (by decide) ww_144 eX23_layMatch_51 h (fun v10 h => ?_)
    refine x_gI (o9 := v10) (ci := 15) (k9 := 1) (Cn := RX15) (T := TX15) (N := 14) C rfl wt_X15 (by decide) ww_211 eX23_layMatch_54 h (fun v11 h => ?_)
    refine x_cVi (As := [.int y0, .int v11]) (st := []) (n := 2) (frc := 1) (loc := 20) C h (fun S9 r9 e9 => k_X23_point l D K m9 mr _ S9 y0 v11 r9 e9) ww_483 ww_532 ww_533 ww_534 ww_16 (by decide +kernel) rfl ⟨by omega, by omega⟩ (Nat.le_of_ble_eq_true rfl) eX23_layMatch_57 (fun S12 v13 h => ?_)
    refine x_istore_n (lv2 := [(0, .ref m9), (1, va_rf x1), (2, va_rf x2)]) C eX23_layMatch_60 rfl (by decide) rfl (oky rfl (oky (cat_rf x1) (oky (cat_rf x2) ok0))) ?_
    refine x_aload_n C eX23_layMatch_61 rfl 2 rfl ?_
    refine x_gI (o9 := x1) (ci := 19) (k9 := 4) (Cn := RX19) (T := TX19) (N := 14) C rfl wt_X19 (by decide) ww_176 eX23_layMatch_62 h (fun v14 h => ?_)
    refine x_if_eq (tgt := 95) C eX23_layMatch_65 (by decide) h (fun h => ?_) (fun h => ?_)
    · refine x_tload_n C eX23_layMatch_95 rfl 1 rfl ?_
      refine x_dup C eX23_layMatch_96 rfl ?_
      refine x_mV (k9 := 48) C (by decide) ww_525 eX23_layMatch_97 rfl ?_
      refine x_iconst (v := 1) C eX23_layMatch_100 (by decide) ?_
      refine x_isub C eX23_layMatch_101 ?_
      refine x_pM (k9 := 48) C (by decide) rfl (by decide) ww_525 rfl (by decide +kernel) eX23_layMatch_102 h (fun S15 h => ?_)
      refine x_sub [1, 2, 3, 0] rfl ?_
      exact j_105 S15 x1 x2 v13 h
    · refine x_tload_n C eX23_layMatch_68 rfl 1 rfl ?_
      refine x_iload_n C eX23_layMatch_69 rfl 0 rfl ?_
      refine x_aload_n C eX23_layMatch_70 rfl 3 rfl ?_
      refine x_cVv (As := [.int v13, va_rf x2]) (st := []) (n := 2) (frc := 2) (loc := 41) C h (fun S9 r9 e9 => k_X23_through l D K m9 mr _ S9 v13 x2 r9 e9) ww_517 ww_536 ww_537 ww_538 ww_16 (by decide +kernel) rfl ⟨by omega, by omega⟩ (Nat.le_of_ble_eq_true rfl) eX23_layMatch_71 (fun S16 v17 h => ?_)
      refine x_tload_n C eX23_layMatch_74 rfl 1 rfl ?_
      refine x_mV (k9 := 33) C (by decide) ww_491 eX23_layMatch_75 rfl ?_
      refine x_iload_n C eX23_layMatch_78 rfl 0 rfl ?_
      refine x_aload_n C eX23_layMatch_79 rfl 2 rfl ?_
      refine x_gI (o9 := x1) (ci := 19) (k9 := 3) (Cn := RX19) (T := TX19) (N := 14) C rfl wt_X19 (by decide) ww_153 eX23_layMatch_80 h (fun v18 h => ?_)
      refine x_if_eq (tgt := 90) C eX23_layMatch_83 (by decide) h (fun h => ?_) (fun h => ?_)
      · refine x_iconst (v := 2) C eX23_layMatch_90 (by decide) ?_
        refine x_sub [1, 2, 3, 0] rfl ?_
        exact j_91 S16 x1 x2 v13 2 v13 h
      · refine x_iconst (v := 3) C eX23_layMatch_86 (by decide) ?_
        refine x_goto (tgt := 91) C eX23_layMatch_87 (by decide) ?_
        refine x_sub [1, 2, 3, 0] rfl ?_
        exact j_91 S16 x1 x2 v13 3 v13 h
  have j_35 : ∀ (S : Sg) (x1 : Option Nat) (x2 : Option Nat), f_layMatch_35 K V S x1 x2 = some (Sf, rf) → WX p l e R s m args below meth c Q D A K m9 mr 9 S0 S 35 [(0, .ref m9), (1, va_rf x1), (2, va_rf x2)] [] := by
    intro S x1 x2 h
    unfold f_layMatch_35 at h
    refine x_tload_n C eX23_layMatch_35 rfl 0 rfl ?_
    refine x_aload_n C eX23_layMatch_36 rfl 1 rfl ?_
    refine x_gI (o9 := x1) (ci := 19) (k9 := 4) (Cn := RX19) (T := TX19) (N := 14) C rfl wt_X19 (by decide) ww_176 eX23_layMatch_37 h (fun v9 h => ?_)
    refine x_if_eq (tgt := 48) C eX23_layMatch_40 (by decide) h (fun h => ?_) (fun h => ?_)
    · refine x_bipush (v := 20) C eX23_layMatch_48 (by decide) ?_
      refine x_sub [0, 1, 2] rfl ?_
      exact j_50 S x1 x2 20 h
    · refine x_bipush (v := 21) C eX23_layMatch_43 (by decide) ?_
      refine x_goto (tgt := 50) C eX23_layMatch_45 (by decide) ?_
      refine x_sub [0, 1, 2] rfl ?_
      exact j_50 S x1 x2 21 h
  have j_19 : ∀ (S : Sg) (x1 : Option Nat) (y0 : Option Nat), f_layMatch_19 K V S x1 y0 = some (Sf, rf) → WX p l e R s m args below meth c Q D A K m9 mr 9 S0 S 19 [(0, .ref m9), (1, va_rf x1)] [va_rf y0] := by
    intro S x1 y0 h
    unfold f_layMatch_19 at h
    refine x_astore_n (lv2 := [(0, .ref m9), (1, va_rf x1)]) C eX23_layMatch_19 rfl (by decide) rfl (oky rfl (oky (cat_rf x1) ok0)) ?_
    refine x_aload_n C eX23_layMatch_20 rfl 2 rfl ?_
    refine x_gI (o9 := x1) (ci := 19) (k9 := 4) (Cn := RX19) (T := TX19) (N := 14) C rfl wt_X19 (by decide) ww_176 eX23_layMatch_21 h (fun v5 h => ?_)
    refine x_if_ne (tgt := 35) C eX23_layMatch_24 (by decide) h (fun h => ?_) (fun h => ?_)
    · refine x_sub [1, 2, 0] rfl ?_
      exact j_35 S x1 y0 h
    · refine x_tload_n C eX23_layMatch_27 rfl 1 rfl ?_
      refine x_aload_n C eX23_layMatch_28 rfl 2 rfl ?_
      refine x_gR (o9 := x1) (ci := 19) (k9 := 6) (Cn := RX19) (T := TX19) (N := 14) C rfl wt_X19 (by decide) ww_144 eX23_layMatch_29 h (fun v6 h => ?_)
      refine x_cVv (As := [va_rf v6]) (st := []) (n := 1) (frc := 5 + 2 * 410) (loc := 113 + 45 * 410) C h (fun S9 r9 e9 => k_X23_give l D K m9 mr 410 _ S9 v6 r9 e9) ww_551 ww_555 ww_556 ww_557 ww_16 (by decide +kernel) rfl ⟨by omega, by omega⟩ (Nat.le_of_ble_eq_true rfl) eX23_layMatch_32 (fun S7 v8 h => ?_)
      refine x_sub [1, 2, 0] rfl ?_
      exact j_35 S7 x1 y0 h
  unfold f_layMatch at h
  refine x_aload_n C eX23_layMatch_0 rfl 1 rfl ?_
  refine x_gI (o9 := x1) (ci := 19) (k9 := 4) (Cn := RX19) (T := TX19) (N := 14) C rfl wt_X19 (by decide) ww_176 eX23_layMatch_1 h (fun v1 h => ?_)
  refine x_if_eq (tgt := 18) C eX23_layMatch_4 (by decide) h (fun h => ?_) (fun h => ?_)
  · refine x_null C eX23_layMatch_18 ?_
    refine x_sub [0, 1] rfl ?_
    exact j_19 S0 x1 none h
  · refine x_tload_n C eX23_layMatch_7 rfl 0 rfl ?_
    refine x_aload_n C eX23_layMatch_8 rfl 1 rfl ?_
    refine x_gR (o9 := x1) (ci := 19) (k9 := 6) (Cn := RX19) (T := TX19) (N := 14) C rfl wt_X19 (by decide) ww_144 eX23_layMatch_9 h (fun v2 h => ?_)
    refine x_cVr (As := [va_rf v2]) (st := []) (n := 1) (frc := 3) (loc := 63) C h (fun S9 r9 e9 => k_X23_pathOf l D K m9 mr _ S9 v2 r9 e9) ww_513 ww_529 ww_530 ww_531 ww_16 (by decide +kernel) rfl ⟨by omega, by omega⟩ (Nat.le_of_ble_eq_true rfl) eX23_layMatch_12 (fun S3 v4 h => ?_)
    refine x_goto (tgt := 19) C eX23_layMatch_15 (by decide) ?_
    refine x_sub [0, 1] rfl ?_
    exact j_19 S3 x1 v4 h
set_option maxRecDepth 20000 in
set_option maxHeartbeats 4000000 in
theorem k_X23_layIf (l : Launch) (D : va_G) (K : Ky) (m9 : Nat) (mr : Nat → Nat) (V : Sg → Option Nat → Option (Sg × Unit)) (d : Nat) (hV : ∀ (S0 Sf : Sg) (x1 : Option Nat) (rf : Unit), V S0 x1 = some (Sf, rf) → CT l D K m9 mr yX23_layBlock (Cond.code yX23_layBlock cX23_layBlock 4 none) (827 + 3 * d) (18607 + 73 * d) S0 Sf [.ref m9, va_rf x1] none) (S0 Sf : Sg) (x1 : Option Nat) (rf : Unit) (h : f_layIf K V S0 x1 = some (Sf, rf)) : CT l D K m9 mr yX23_layIf (Cond.code yX23_layIf cX23_layIf 5 none) (828 + 3 * d) (18630 + 73 * d) S0 Sf [.ref m9, va_rf x1] none := by
  refine x_start (cc := cX23_layIf) (lv := [(0, .ref m9), (1, va_rf x1)]) rfl rfl (by decide) (by simp [lv_args, cat_rf, cat_i, cat_l, cat_a]) (by simp [lg_sl, cat_rf, cat_i, cat_l, cat_a]) (fun p e R s m args below meth c Q A C => ?_)
  have j_108 : ∀ (n_108 : Nat) (S : Sg) (x1 : Option Nat) (x2 : Option Nat) (x3 : Int32), f_layIf_108 K V n_108 S x1 x2 x3 = some (Sf, rf) → WX p l e R s m args below meth c Q D A K m9 mr 5 S0 S 108 [(0, .ref m9), (1, va_rf x1), (2, va_rf x2), (3, .int x3)] [] := by
    intro n_108
    induction n_108 with
    | zero => intro S x1 x2 x3 h; unfold f_layIf_108 at h; cases h
    | succ n_108 ih_108 =>
      intro S x1 x2 x3 h
      unfold f_layIf_108 at h
      refine x_iload_n C eX23_layIf_108 rfl 3 rfl ?_
      refine x_aload_n C eX23_layIf_109 rfl 1 rfl ?_
      refine x_gI (o9 := x1) (ci := 19) (k9 := 13) (Cn := RX19) (T := TX19) (N := 14) C rfl wt_X19 (by decide) ww_167 eX23_layIf_110 h (fun v24 h => ?_)
      refine x_ic_ge (tgt := 134) C eX23_layIf_113 (by decide) h (fun h => ?_) (fun h => ?_)
      · exact x_vret C rfl rfl eX23_layIf_134 h
      · refine x_tload_n C eX23_layIf_116 rfl 0 rfl ?_
        refine x_mV (k9 := 30) C (by decide) ww_489 eX23_layIf_117 rfl ?_
        refine x_aload_n C eX23_layIf_120 rfl 2 rfl ?_
        refine x_iload_n C eX23_layIf_121 rfl 3 rfl ?_
        refine x_aI C eX23_layIf_122 h (fun v25 h => ?_)
        refine x_tload_n C eX23_layIf_123 rfl 0 rfl ?_
        refine x_mV (k9 := 26) C (by decide) ww_484 eX23_layIf_124 rfl ?_
        refine x_wI (r := 30) C (by decide) rfl eX23_layIf_127 h (fun S26 h => ?_)
        refine x_iinc (j := 3) (v := 1) (lv2 := [(0, .ref m9), (1, va_rf x1), (2, va_rf x2)]) C eX23_layIf_128 rfl (by decide) (by decide) rfl (oky rfl (oky (cat_rf x1) (oky (cat_rf x2) ok0))) ?_
        refine x_goto (tgt := 108) C eX23_layIf_131 (by decide) ?_
        refine x_sub [1, 2, 3, 0] rfl ?_
        exact ih_108 S26 x1 x2 (x3 + 1) h
  have j_9 : ∀ (n_9 : Nat) (S : Sg) (x1 : Option Nat) (x2 : Option Nat) (x3 : Int32), f_layIf_9 K V n_9 S x1 x2 x3 = some (Sf, rf) → WX p l e R s m args below meth c Q D A K m9 mr 5 S0 S 9 [(0, .ref m9), (1, va_rf x1), (2, va_rf x2), (3, .int x3)] [] := by
    intro n_9
    induction n_9 with
    | zero => intro S x1 x2 x3 h; unfold f_layIf_9 at h; cases h
    | succ n_9 ih_9 =>
      intro S x1 x2 x3 h
      have j_100 : ∀ (S : Sg) (x1 : Option Nat) (x2 : Option Nat) (x3 : Int32), f_layIf_100 K V (f_layIf_9 K V n_9) S x1 x2 x3 = some (Sf, rf) → WX p l e R s m args below meth c Q D A K m9 mr 5 S0 S 100 [(0, .ref m9), (1, va_rf x1), (2, va_rf x2), (3, .int x3)] [] := by
        intro S x1 x2 x3 h
        unfold f_layIf_100 at h
        refine x_iinc (j := 3) (v := 1) (lv2 := [(0, .ref m9), (1, va_rf x1), (2, va_rf x2)]) C eX23_layIf_100 rfl (by decide) (by decide) rfl (oky rfl (oky (cat_rf x1) (oky (cat_rf x2) ok0))) ?_
        refine x_goto (tgt := 9) C eX23_layIf_103 (by decide) ?_
        refine x_sub [1, 2, 3, 0] rfl ?_
        exact ih_9 S x1 x2 (x3 + 1) h
      have j_61 : ∀ (S : Sg) (x1 : Option Nat) (x2 : Option Nat) (x3 : Int32) (x4 : Int32), f_layIf_61 K V (f_layIf_9 K V n_9) S x1 x2 x3 x4 = some (Sf, rf) → WX p l e R s m args below meth c Q D A K m9 mr 5 S0 S 61 [(0, .ref m9), (1, va_rf x1), (2, va_rf x2), (3, .int x3), (4, .int x4)] [] := by
        intro S x1 x2 x3 x4 h
        unfold f_layIf_61 at h
        refine x_tload_n C eX23_layIf_61 rfl 0 rfl ?_
        refine x_aload_n C eX23_layIf_62 rfl 1 rfl ?_
        refine x_gR (o9 := x1) (ci := 19) (k9 := 11) (Cn := RX19) (T := TX19) (N := 14) C rfl wt_X19 (by decide) ww_166 eX23_layIf_63 h (fun v15 h => ?_)
        refine x_iload_n C eX23_layIf_66 rfl 3 rfl ?_
        refine x_aQ (t9 := 10) C rfl eX23_layIf_67 h (fun v16 h => ?_)
        refine x_cVv (As := [va_rf v16]) (st := []) (n := 1) (frc := 827 + 3 * d) (loc := 18607 + 73 * d) C h (fun S9 r9 e9 => hV _ S9 v16 r9 e9) ww_585 ww_611 ww_612 ww_613 ww_16 (by decide +kernel) rfl ⟨by omega, by omega⟩ (Nat.le_of_ble_eq_true rfl) eX23_layIf_68 (fun S17 v18 h => ?_)
        refine x_aload_n C eX23_layIf_71 rfl 2 rfl ?_
        refine x_iload_n C eX23_layIf_72 rfl 3 rfl ?_
        refine x_tload_n C eX23_layIf_73 rfl 0 rfl ?_
        refine x_bipush (v := 16) C eX23_layIf_74 (by decide) ?_
        refine x_aload_n C eX23_layIf_76 rfl 1 rfl ?_
        refine x_gI (o9 := x1) (ci := 19) (k9 := 1) (Cn := RX19) (T := TX19) (N := 14) C rfl wt_X19 (by decide) ww_133 eX23_layIf_77 h (fun v19 h => ?_)
        refine x_cVi (As := [.int 16, .int v19]) (st := [.int x3, va_rf x2]) (n := 2) (frc := 1) (loc := 20) C h (fun S9 r9 e9 => k_X23_point l D K m9 mr _ S9 16 v19 r9 e9) ww_483 ww_532 ww_533 ww_534 ww_16 (by decide +kernel) rfl ⟨by omega, by omega⟩ (Nat.le_of_ble_eq_true rfl) eX23_layIf_80 (fun S20 v21 h => ?_)
        refine x_bI C eX23_layIf_83 h (fun S22 h => ?_)
        refine x_iload C eX23_layIf_84 4 rfl ?_
        refine x_if_lt (tgt := 100) C eX23_layIf_86 (by decide) h (fun h => ?_) (fun h => ?_)
        · refine x_sub [0, 1, 2, 3] rfl ?_
          exact j_100 S22 x1 x2 x3 h
        · refine x_tload_n C eX23_layIf_89 rfl 0 rfl ?_
          refine x_mV (k9 := 30) C (by decide) ww_489 eX23_layIf_90 rfl ?_
          refine x_iload C eX23_layIf_93 4 rfl ?_
          refine x_tload_n C eX23_layIf_95 rfl 0 rfl ?_
          refine x_mV (k9 := 26) C (by decide) ww_484 eX23_layIf_96 rfl ?_
          refine x_wI (r := 30) C (by decide) rfl eX23_layIf_99 h (fun S23 h => ?_)
          refine x_sub [0, 1, 2, 3] rfl ?_
          exact j_100 S23 x1 x2 x3 h
      unfold f_layIf_9 at h
      refine x_iload_n C eX23_layIf_9 rfl 3 rfl ?_
      refine x_aload_n C eX23_layIf_10 rfl 1 rfl ?_
      refine x_gI (o9 := x1) (ci := 19) (k9 := 13) (Cn := RX19) (T := TX19) (N := 14) C rfl wt_X19 (by decide) ww_167 eX23_layIf_11 h (fun v4 h => ?_)
      refine x_ic_ge (tgt := 106) C eX23_layIf_14 (by decide) h (fun h => ?_) (fun h => ?_)
      · refine x_iconst (v := 0) C eX23_layIf_106 (by decide) ?_
        refine x_istore_n (lv2 := [(0, .ref m9), (1, va_rf x1), (2, va_rf x2)]) C eX23_layIf_107 rfl (by decide) rfl (oky rfl (oky (cat_rf x1) (oky (cat_rf x2) ok0))) ?_
        refine x_sub [1, 2, 3, 0] rfl ?_
        exact j_108 bigN S x1 x2 0 h
      · refine x_iconst (v := (-1)) C eX23_layIf_17 (by decide) ?_
        refine x_istore (lv2 := [(0, .ref m9), (1, va_rf x1), (2, va_rf x2), (3, .int x3)]) C eX23_layIf_18 (by decide) rfl (oky rfl (oky (cat_rf x1) (oky (cat_rf x2) (oky rfl ok0)))) ?_
        refine x_aload_n C eX23_layIf_20 rfl 2 rfl ?_
        refine x_gR (o9 := x1) (ci := 19) (k9 := 10) (Cn := RX19) (T := TX19) (N := 14) C rfl wt_X19 (by decide) ww_165 eX23_layIf_21 h (fun v5 h => ?_)
        refine x_iload_n C eX23_layIf_24 rfl 4 rfl ?_
        refine x_aQ (t9 := 9) C rfl eX23_layIf_25 h (fun v6 h => ?_)
        refine x_ifnull (tgt := 61) C eX23_layIf_26 (by decide) h (fun h => ?_) (fun h => ?_)
        · refine x_sub [1, 2, 3, 4, 0] rfl ?_
          exact j_61 S x1 x2 x3 (-1) h
        · refine x_tload_n C eX23_layIf_29 rfl 1 rfl ?_
          refine x_aload_n C eX23_layIf_30 rfl 2 rfl ?_
          refine x_gR (o9 := x1) (ci := 19) (k9 := 10) (Cn := RX19) (T := TX19) (N := 14) C rfl wt_X19 (by decide) ww_165 eX23_layIf_31 h (fun v7 h => ?_)
          refine x_iload_n C eX23_layIf_34 rfl 4 rfl ?_
          refine x_aQ (t9 := 9) C rfl eX23_layIf_35 h (fun v8 h => ?_)
          refine x_cVv (As := [va_rf v8]) (st := []) (n := 1) (frc := 5 + 2 * 410) (loc := 113 + 45 * 410) C h (fun S9 r9 e9 => k_X23_give l D K m9 mr 410 _ S9 v8 r9 e9) ww_551 ww_555 ww_556 ww_557 ww_16 (by decide +kernel) rfl ⟨by omega, by omega⟩ (Nat.le_of_ble_eq_true rfl) eX23_layIf_36 (fun S9 v10 h => ?_)
          refine x_tload_n C eX23_layIf_39 rfl 1 rfl ?_
          refine x_dup C eX23_layIf_40 rfl ?_
          refine x_mV (k9 := 48) C (by decide) ww_525 eX23_layIf_41 rfl ?_
          refine x_iconst (v := 1) C eX23_layIf_44 (by decide) ?_
          refine x_isub C eX23_layIf_45 ?_
          refine x_pM (k9 := 48) C (by decide) rfl (by decide) ww_525 rfl (by decide +kernel) eX23_layIf_46 h (fun S11 h => ?_)
          refine x_tload_n C eX23_layIf_49 rfl 1 rfl ?_
          refine x_bipush (v := 17) C eX23_layIf_50 (by decide) ?_
          refine x_aload_n C eX23_layIf_52 rfl 2 rfl ?_
          refine x_gI (o9 := x1) (ci := 19) (k9 := 1) (Cn := RX19) (T := TX19) (N := 14) C rfl wt_X19 (by decide) ww_133 eX23_layIf_53 h (fun v12 h => ?_)
          refine x_cVi (As := [.int 17, .int v12]) (st := []) (n := 2) (frc := 1) (loc := 20) C h (fun S9 r9 e9 => k_X23_point l D K m9 mr _ S9 17 v12 r9 e9) ww_483 ww_532 ww_533 ww_534 ww_16 (by decide +kernel) rfl ⟨by omega, by omega⟩ (Nat.le_of_ble_eq_true rfl) eX23_layIf_56 (fun S13 v14 h => ?_)
          refine x_istore (lv2 := [(0, .ref m9), (1, va_rf x1), (2, va_rf x2), (3, .int x3)]) C eX23_layIf_59 (by decide) rfl (oky rfl (oky (cat_rf x1) (oky (cat_rf x2) (oky rfl ok0)))) ?_
          refine x_sub [1, 2, 3, 4, 0] rfl ?_
          exact j_61 S13 x1 x2 x3 v14 h
  unfold f_layIf at h
  refine x_aload_n C eX23_layIf_0 rfl 1 rfl ?_
  refine x_gI (o9 := x1) (ci := 19) (k9 := 13) (Cn := RX19) (T := TX19) (N := 14) C rfl wt_X19 (by decide) ww_167 eX23_layIf_1 h (fun v1 h => ?_)
  refine x_nA C ww_88 eX23_layIf_4 h (fun S2 a3 h => ?_)
  refine x_astore_n (lv2 := [(0, .ref m9), (1, va_rf x1)]) C eX23_layIf_6 rfl (by decide) rfl (oky rfl (oky (cat_rf x1) ok0)) ?_
  refine x_iconst (v := 0) C eX23_layIf_7 (by decide) ?_
  refine x_istore_n (lv2 := [(2, va_rf (some a3)), (0, .ref m9), (1, va_rf x1)]) C eX23_layIf_8 rfl (by decide) rfl (oky (cat_rf (some a3)) (oky rfl (oky (cat_rf x1) ok0))) ?_
  refine x_sub [2, 3, 1, 0] rfl ?_
  exact j_9 bigN S2 x1 (some a3) 0 h
set_option maxRecDepth 20000 in
set_option maxHeartbeats 4000000 in
theorem k_X23_lay (l : Launch) (D : va_G) (K : Ky) (m9 : Nat) (mr : Nat → Nat) (V : Sg → Option Nat → Option (Sg × Unit)) (d : Nat) (hV : ∀ (S0 Sf : Sg) (x1 : Option Nat) (rf : Unit), V S0 x1 = some (Sf, rf) → CT l D K m9 mr yX23_layBlock (Cond.code yX23_layBlock cX23_layBlock 4 none) (827 + 3 * d) (18607 + 73 * d) S0 Sf [.ref m9, va_rf x1] none) (S0 Sf : Sg) (x1 : Option Nat) (rf : Unit) (h : f_lay K V S0 x1 = some (Sf, rf)) : CT l D K m9 mr yX23_lay (Cond.code yX23_lay cX23_lay 3 none) (829 + 3 * d) (18658 + 73 * d) S0 Sf [.ref m9, va_rf x1] none := by
  refine x_start (cc := cX23_lay) (lv := [(0, .ref m9), (1, va_rf x1)]) rfl rfl (by decide) (by simp [lv_args, cat_rf, cat_i, cat_l, cat_a]) (by simp [lg_sl, cat_rf, cat_i, cat_l, cat_a]) (fun p e R s m args below meth c Q A C => ?_)
  have j_210 : ∀ (S : Sg), f_lay_210 K V S = some (Sf, rf) → WX p l e R s m args below meth c Q D A K m9 mr 3 S0 S 210 [] [] := by
    intro S h
    unfold f_lay_210 at h
    exact x_vret C rfl rfl eX23_lay_210 h
  have j_111 : ∀ (S : Sg) (x2 : Int32), f_lay_111 K V S x2 = some (Sf, rf) → WX p l e R s m args below meth c Q D A K m9 mr 3 S0 S 111 [(0, .ref m9), (2, .int x2)] [] := by
    intro S x2 h
    unfold f_lay_111 at h
    refine x_tload_n C eX23_lay_111 rfl 0 rfl ?_
    refine x_iload_n C eX23_lay_112 rfl 1 rfl ?_
    refine x_pM (k9 := 48) C (by decide) rfl (by decide) ww_525 rfl (by decide +kernel) eX23_lay_113 h (fun S39 h => ?_)
    refine x_goto (tgt := 210) C eX23_lay_116 (by decide) ?_
    refine x_sub [] rfl ?_
    exact j_210 S39 h
  unfold f_lay at h
  refine x_tload_n C eX23_lay_0 rfl 0 rfl ?_
  refine x_iconst (v := 0) C eX23_lay_1 (by decide) ?_
  refine x_aload_n C eX23_lay_2 rfl 1 rfl ?_
  refine x_gI (o9 := x1) (ci := 19) (k9 := 1) (Cn := RX19) (T := TX19) (N := 14) C rfl wt_X19 (by decide) ww_133 eX23_lay_3 h (fun v1 h => ?_)
  refine x_cVi (As := [.int 0, .int v1]) (st := []) (n := 2) (frc := 1) (loc := 20) C h (fun S9 r9 e9 => k_X23_point l D K m9 mr _ S9 0 v1 r9 e9) ww_483 ww_532 ww_533 ww_534 ww_16 (by decide +kernel) rfl ⟨by omega, by omega⟩ (Nat.le_of_ble_eq_true rfl) eX23_lay_6 (fun S2 v3 h => ?_)
  refine x_pop C eX23_lay_9 rfl ?_
  refine x_aload_n C eX23_lay_10 rfl 1 rfl ?_
  refine x_gI (o9 := x1) (ci := 19) (k9 := 0) (Cn := RX19) (T := TX19) (N := 14) C rfl wt_X19 (by decide) ww_140 eX23_lay_11 h (fun v4 h => ?_)
  refine x_tabIn (v := 0) (tgt := 60) C eX23_lay_14 (by decide) (by decide) rfl (by decide) h (fun h => ?_) (fun hq0 h => ?_)
  · refine x_tload_n C eX23_lay_60 rfl 0 rfl ?_
    refine x_aload_n C eX23_lay_61 rfl 1 rfl ?_
    refine x_cVv (As := [va_rf x1]) (st := []) (n := 1) (frc := 826) (loc := 18584) C h (fun S9 r9 e9 => k_X23_layLet l D K m9 mr _ S9 x1 r9 e9) ww_615 ww_593 ww_594 ww_595 ww_16 (by decide +kernel) rfl ⟨by omega, by omega⟩ (Nat.le_of_ble_eq_true rfl) eX23_lay_62 (fun S5 v6 h => ?_)
    refine x_goto (tgt := 210) C eX23_lay_65 (by decide) ?_
    refine x_sub [] rfl ?_
    exact j_210 S5 h
  · refine x_tabIn (v := 1) (tgt := 68) C eX23_lay_14 (by decide) (by decide) rfl (by decide) h (fun h => ?_) (fun hq1 h => ?_)
    · refine x_tload_n C eX23_lay_68 rfl 0 rfl ?_
      refine x_mV (k9 := 48) C (by decide) ww_525 eX23_lay_69 rfl ?_
      refine x_istore_n (lv2 := [(0, .ref m9), (1, va_rf x1)]) C eX23_lay_72 rfl (by decide) rfl (oky rfl (oky (cat_rf x1) ok0)) ?_
      refine x_tload_n C eX23_lay_73 rfl 1 rfl ?_
      refine x_aload_n C eX23_lay_74 rfl 2 rfl ?_
      refine x_gR (o9 := x1) (ci := 19) (k9 := 6) (Cn := RX19) (T := TX19) (N := 14) C rfl wt_X19 (by decide) ww_144 eX23_lay_75 h (fun v7 h => ?_)
      refine x_cVv (As := [va_rf v7]) (st := []) (n := 1) (frc := 5 + 2 * 410) (loc := 113 + 45 * 410) C h (fun S9 r9 e9 => k_X23_give l D K m9 mr 410 _ S9 v7 r9 e9) ww_551 ww_555 ww_556 ww_557 ww_16 (by decide +kernel) rfl ⟨by omega, by omega⟩ (Nat.le_of_ble_eq_true rfl) eX23_lay_78 (fun S8 v9 h => ?_)
      refine x_tload_n C eX23_lay_81 rfl 1 rfl ?_
      refine x_mV (k9 := 48) C (by decide) ww_525 eX23_lay_82 rfl ?_
      refine x_iload_n C eX23_lay_85 rfl 0 rfl ?_
      refine x_ic_le (tgt := 111) C eX23_lay_86 (by decide) h (fun h => ?_) (fun h => ?_)
      · refine x_sub [1, 0] rfl ?_
        exact j_111 S8 (Zi S2 48) h
      · refine x_tload_n C eX23_lay_89 rfl 1 rfl ?_
        refine x_mV (k9 := 39) C (by decide) ww_497 eX23_lay_90 rfl ?_
        refine x_tload_n C eX23_lay_93 rfl 1 rfl ?_
        refine x_bipush (v := 11) C eX23_lay_94 (by decide) ?_
        refine x_aload_n C eX23_lay_96 rfl 2 rfl ?_
        refine x_gI (o9 := x1) (ci := 19) (k9 := 1) (Cn := RX19) (T := TX19) (N := 14) C rfl wt_X19 (by decide) ww_133 eX23_lay_97 h (fun v10 h => ?_)
        refine x_cVi (As := [.int 11, .int v10]) (st := [.ref (mr 39)]) (n := 2) (frc := 1) (loc := 20) C h (fun S9 r9 e9 => k_X23_point l D K m9 mr _ S9 11 v10 r9 e9) ww_483 ww_532 ww_533 ww_534 ww_16 (by decide +kernel) rfl ⟨by omega, by omega⟩ (Nat.le_of_ble_eq_true rfl) eX23_lay_100 (fun S11 v12 h => ?_)
        refine x_aload_n C eX23_lay_103 rfl 2 rfl ?_
        refine x_gR (o9 := x1) (ci := 19) (k9 := 6) (Cn := RX19) (T := TX19) (N := 14) C rfl wt_X19 (by decide) ww_144 eX23_lay_104 h (fun v13 h => ?_)
        refine x_gR (o9 := v13) (ci := 15) (k9 := 12) (Cn := RX15) (T := TX15) (N := 14) C rfl wt_X15 (by decide) ww_338 eX23_lay_107 h (fun v14 h => ?_)
        refine x_wQ (r := 39) (t9 := 4) (ci := 20) C (by decide) rfl (by decide) rfl rfl eX23_lay_110 h (fun S15 h => ?_)
        refine x_sub [1, 0] rfl ?_
        exact j_111 S15 (Zi S2 48) h
    · refine x_tabIn (v := 2) (tgt := 119) C eX23_lay_14 (by decide) (by decide) rfl (by decide) h (fun h => ?_) (fun hq2 h => ?_)
      · refine x_tload_n C eX23_lay_119 rfl 0 rfl ?_
        refine x_aload_n C eX23_lay_120 rfl 1 rfl ?_
        refine x_cVv (As := [va_rf x1]) (st := []) (n := 1) (frc := 826) (loc := 18584) C h (fun S9 r9 e9 => k_X23_layAssign l D K m9 mr _ S9 x1 r9 e9) ww_622 ww_596 ww_597 ww_598 ww_16 (by decide +kernel) rfl ⟨by omega, by omega⟩ (Nat.le_of_ble_eq_true rfl) eX23_lay_121 (fun S16 v17 h => ?_)
        refine x_goto (tgt := 210) C eX23_lay_124 (by decide) ?_
        refine x_sub [] rfl ?_
        exact j_210 S16 h
      · refine x_tabIn (v := 3) (tgt := 127) C eX23_lay_14 (by decide) (by decide) rfl (by decide) h (fun h => ?_) (fun hq3 h => ?_)
        · refine x_tload_n C eX23_lay_127 rfl 0 rfl ?_
          refine x_aload_n C eX23_lay_128 rfl 1 rfl ?_
          refine x_cVv (As := [va_rf x1]) (st := []) (n := 1) (frc := 828 + 3 * d) (loc := 18630 + 73 * d) C h (fun S9 r9 e9 => k_X23_layIf l D K m9 mr V d hV _ S9 x1 r9 e9) ww_623 ww_599 ww_600 ww_601 ww_16 (by decide +kernel) rfl ⟨by omega, by omega⟩ (Nat.le_of_ble_eq_true rfl) eX23_lay_129 (fun S18 v19 h => ?_)
          refine x_goto (tgt := 210) C eX23_lay_132 (by decide) ?_
          refine x_sub [] rfl ?_
          exact j_210 S18 h
        · refine x_tabIn (v := 4) (tgt := 135) C eX23_lay_14 (by decide) (by decide) rfl (by decide) h (fun h => ?_) (fun hq4 h => ?_)
          · refine x_tload_n C eX23_lay_135 rfl 0 rfl ?_
            refine x_aload_n C eX23_lay_136 rfl 1 rfl ?_
            refine x_cVv (As := [va_rf x1]) (st := []) (n := 1) (frc := 828 + 3 * d) (loc := 18630 + 73 * d) C h (fun S9 r9 e9 => k_X23_layWhile l D K m9 mr V d hV _ S9 x1 r9 e9) ww_624 ww_602 ww_603 ww_604 ww_16 (by decide +kernel) rfl ⟨by omega, by omega⟩ (Nat.le_of_ble_eq_true rfl) eX23_lay_137 (fun S20 v21 h => ?_)
            refine x_goto (tgt := 210) C eX23_lay_140 (by decide) ?_
            refine x_sub [] rfl ?_
            exact j_210 S20 h
          · refine x_tabIn (v := 5) (tgt := 143) C eX23_lay_14 (by decide) (by decide) rfl (by decide) h (fun h => ?_) (fun hq5 h => ?_)
            · refine x_tload_n C eX23_lay_143 rfl 0 rfl ?_
              refine x_aload_n C eX23_lay_144 rfl 1 rfl ?_
              refine x_cVv (As := [va_rf x1]) (st := []) (n := 1) (frc := 828 + 3 * d) (loc := 18630 + 73 * d) C h (fun S9 r9 e9 => k_X23_layMatch l D K m9 mr V d hV _ S9 x1 r9 e9) ww_626 ww_605 ww_606 ww_607 ww_16 (by decide +kernel) rfl ⟨by omega, by omega⟩ (Nat.le_of_ble_eq_true rfl) eX23_lay_145 (fun S22 v23 h => ?_)
              refine x_goto (tgt := 210) C eX23_lay_148 (by decide) ?_
              refine x_sub [] rfl ?_
              exact j_210 S22 h
            · refine x_tabIn (v := 6) (tgt := 151) C eX23_lay_14 (by decide) (by decide) rfl (by decide) h (fun h => ?_) (fun hq6 h => ?_)
              · refine x_tload_n C eX23_lay_151 rfl 0 rfl ?_
                refine x_aload_n C eX23_lay_152 rfl 1 rfl ?_
                refine x_cVv (As := [va_rf x1]) (st := []) (n := 1) (frc := 826) (loc := 18584) C h (fun S9 r9 e9 => k_X23_layReturn l D K m9 mr _ S9 x1 r9 e9) ww_625 ww_608 ww_609 ww_610 ww_16 (by decide +kernel) rfl ⟨by omega, by omega⟩ (Nat.le_of_ble_eq_true rfl) eX23_lay_153 (fun S24 v25 h => ?_)
                refine x_goto (tgt := 210) C eX23_lay_156 (by decide) ?_
                refine x_sub [] rfl ?_
                exact j_210 S24 h
              · refine x_tabIn (v := 7) (tgt := 159) C eX23_lay_14 (by decide) (by decide) rfl (by decide) h (fun h => ?_) (fun hq7 h => ?_)
                · refine x_tload_n C eX23_lay_159 rfl 0 rfl ?_
                  refine x_aload_n C eX23_lay_160 rfl 1 rfl ?_
                  refine x_gR (o9 := x1) (ci := 19) (k9 := 6) (Cn := RX19) (T := TX19) (N := 14) C rfl wt_X19 (by decide) ww_144 eX23_lay_161 h (fun v26 h => ?_)
                  refine x_cVv (As := [va_rf v26]) (st := []) (n := 1) (frc := 5 + 2 * 410) (loc := 113 + 45 * 410) C h (fun S9 r9 e9 => k_X23_give l D K m9 mr 410 _ S9 v26 r9 e9) ww_551 ww_555 ww_556 ww_557 ww_16 (by decide +kernel) rfl ⟨by omega, by omega⟩ (Nat.le_of_ble_eq_true rfl) eX23_lay_164 (fun S27 v28 h => ?_)
                  refine x_tload_n C eX23_lay_167 rfl 0 rfl ?_
                  refine x_dup C eX23_lay_168 rfl ?_
                  refine x_mV (k9 := 48) C (by decide) ww_525 eX23_lay_169 rfl ?_
                  refine x_iconst (v := 1) C eX23_lay_172 (by decide) ?_
                  refine x_isub C eX23_lay_173 ?_
                  refine x_pM (k9 := 48) C (by decide) rfl (by decide) ww_525 rfl (by decide +kernel) eX23_lay_174 h (fun S29 h => ?_)
                  refine x_tload_n C eX23_lay_177 rfl 0 rfl ?_
                  refine x_mV (k9 := 39) C (by decide) ww_497 eX23_lay_178 rfl ?_
                  refine x_tload_n C eX23_lay_181 rfl 0 rfl ?_
                  refine x_bipush (v := 15) C eX23_lay_182 (by decide) ?_
                  refine x_aload_n C eX23_lay_184 rfl 1 rfl ?_
                  refine x_gI (o9 := x1) (ci := 19) (k9 := 1) (Cn := RX19) (T := TX19) (N := 14) C rfl wt_X19 (by decide) ww_133 eX23_lay_185 h (fun v30 h => ?_)
                  refine x_cVi (As := [.int 15, .int v30]) (st := [.ref (mr 39)]) (n := 2) (frc := 1) (loc := 20) C h (fun S9 r9 e9 => k_X23_point l D K m9 mr _ S9 15 v30 r9 e9) ww_483 ww_532 ww_533 ww_534 ww_16 (by decide +kernel) rfl ⟨by omega, by omega⟩ (Nat.le_of_ble_eq_true rfl) eX23_lay_188 (fun S31 v32 h => ?_)
                  refine x_aload_n C eX23_lay_191 rfl 1 rfl ?_
                  refine x_gR (o9 := x1) (ci := 19) (k9 := 6) (Cn := RX19) (T := TX19) (N := 14) C rfl wt_X19 (by decide) ww_144 eX23_lay_192 h (fun v33 h => ?_)
                  refine x_gR (o9 := v33) (ci := 15) (k9 := 12) (Cn := RX15) (T := TX15) (N := 14) C rfl wt_X15 (by decide) ww_338 eX23_lay_195 h (fun v34 h => ?_)
                  refine x_wQ (r := 39) (t9 := 4) (ci := 20) C (by decide) rfl (by decide) rfl rfl eX23_lay_198 h (fun S35 h => ?_)
                  refine x_goto (tgt := 210) C eX23_lay_199 (by decide) ?_
                  refine x_sub [] rfl ?_
                  exact j_210 S35 h
                · have hq0i : (v4 : Int32).toInt ≠ 0 := fun q9 => hq0 (Int32.toInt_inj.mp q9)
                  have hq1i : (v4 : Int32).toInt ≠ 1 := fun q9 => hq1 (Int32.toInt_inj.mp q9)
                  have hq2i : (v4 : Int32).toInt ≠ 2 := fun q9 => hq2 (Int32.toInt_inj.mp q9)
                  have hq3i : (v4 : Int32).toInt ≠ 3 := fun q9 => hq3 (Int32.toInt_inj.mp q9)
                  have hq4i : (v4 : Int32).toInt ≠ 4 := fun q9 => hq4 (Int32.toInt_inj.mp q9)
                  have hq5i : (v4 : Int32).toInt ≠ 5 := fun q9 => hq5 (Int32.toInt_inj.mp q9)
                  have hq6i : (v4 : Int32).toInt ≠ 6 := fun q9 => hq6 (Int32.toInt_inj.mp q9)
                  have hq7i : (v4 : Int32).toInt ≠ 7 := fun q9 => hq7 (Int32.toInt_inj.mp q9)
                  refine x_tabOut (tgt := 202) C eX23_lay_14 (by omega) (by decide) ?_
                  refine x_tload_n C eX23_lay_202 rfl 0 rfl ?_
                  refine x_aload_n C eX23_lay_203 rfl 1 rfl ?_
                  refine x_gR (o9 := x1) (ci := 19) (k9 := 9) (Cn := RX19) (T := TX19) (N := 14) C rfl wt_X19 (by decide) ww_145 eX23_lay_204 h (fun v36 h => ?_)
                  refine x_cVv (As := [va_rf v36]) (st := []) (n := 1) (frc := 827 + 3 * d) (loc := 18607 + 73 * d) C h (fun S9 r9 e9 => hV _ S9 v36 r9 e9) ww_585 ww_611 ww_612 ww_613 ww_16 (by decide +kernel) rfl ⟨by omega, by omega⟩ (Nat.le_of_ble_eq_true rfl) eX23_lay_207 (fun S37 v38 h => ?_)
                  refine x_sub [] rfl ?_
                  exact j_210 S37 h
set_option maxRecDepth 20000 in
set_option maxHeartbeats 4000000 in
theorem k_X23_layBlock (l : Launch) (D : va_G) (K : Ky) (m9 : Nat) (mr : Nat → Nat) : ∀ (d : Nat) (S0 Sf : Sg) (x1 : Option Nat) (rf : Unit), f_layBlock K d S0 x1 = some (Sf, rf) → CT l D K m9 mr yX23_layBlock (Cond.code yX23_layBlock cX23_layBlock 4 none) (827 + 3 * d) (18607 + 73 * d) S0 Sf [.ref m9, va_rf x1] none := by
  intro d
  induction d with
  | zero => intro S0 Sf x1 rf h; unfold f_layBlock at h; cases h
  | succ d ih =>
    intro S0 Sf x1 rf h
    refine x_start (cc := cX23_layBlock) (lv := [(0, .ref m9), (1, va_rf x1)]) rfl rfl (by decide) (by simp [lv_args, cat_rf, cat_i, cat_l, cat_a]) (by simp [lg_sl, cat_rf, cat_i, cat_l, cat_a]) (fun p e R s m args below meth c Q A C => ?_)
    have j_7 : ∀ (n_7 : Nat) (S : Sg) (x1 : Option Nat) (x2 : Int32) (x3 : Int32), f_layBlock_7 K (f_layBlock K d) n_7 S x1 x2 x3 = some (Sf, rf) → WX p l e R s m args below meth c Q D A K m9 mr 4 S0 S 7 [(0, .ref m9), (1, va_rf x1), (2, .int x2), (3, .int x3)] [] := by
      intro n_7
      induction n_7 with
      | zero => intro S x1 x2 x3 h; unfold f_layBlock_7 at h; cases h
      | succ n_7 ih_7 =>
        intro S x1 x2 x3 h
        unfold f_layBlock_7 at h
        refine x_iload_n C eX23_layBlock_7 rfl 3 rfl ?_
        refine x_aload_n C eX23_layBlock_8 rfl 1 rfl ?_
        refine x_gI (o9 := x1) (ci := 14) (k9 := 3) (Cn := RX14) (T := TX14) (N := 4) C rfl wt_X14 (by decide) ww_124 eX23_layBlock_9 h (fun v1 h => ?_)
        refine x_ic_ge (tgt := 31) C eX23_layBlock_12 (by decide) h (fun h => ?_) (fun h => ?_)
        · refine x_tload_n C eX23_layBlock_31 rfl 0 rfl ?_
          refine x_iload_n C eX23_layBlock_32 rfl 2 rfl ?_
          refine x_aload_n C eX23_layBlock_33 rfl 1 rfl ?_
          refine x_gI (o9 := x1) (ci := 14) (k9 := 1) (Cn := RX14) (T := TX14) (N := 4) C rfl wt_X14 (by decide) ww_127 eX23_layBlock_34 h (fun v2 h => ?_)
          refine x_cVv (As := [.int x2, .int v2]) (st := []) (n := 2) (frc := 3) (loc := 61) C h (fun S9 r9 e9 => k_X23_goOut l D K m9 mr _ S9 x2 v2 r9 e9) ww_584 ww_589 ww_590 ww_591 ww_16 (by decide +kernel) rfl ⟨by omega, by omega⟩ (Nat.le_of_ble_eq_true rfl) eX23_layBlock_37 (fun S3 v4 h => ?_)
          refine x_tload_n C eX23_layBlock_40 rfl 0 rfl ?_
          refine x_iload_n C eX23_layBlock_41 rfl 2 rfl ?_
          refine x_pM (k9 := 50) C (by decide) rfl (by decide) ww_583 rfl (by decide +kernel) eX23_layBlock_42 h (fun S5 h => ?_)
          exact x_vret C rfl rfl eX23_layBlock_45 h
        · refine x_tload_n C eX23_layBlock_15 rfl 0 rfl ?_
          refine x_aload_n C eX23_layBlock_16 rfl 1 rfl ?_
          refine x_gR (o9 := x1) (ci := 14) (k9 := 2) (Cn := RX14) (T := TX14) (N := 4) C rfl wt_X14 (by decide) ww_125 eX23_layBlock_17 h (fun v6 h => ?_)
          refine x_iload_n C eX23_layBlock_20 rfl 3 rfl ?_
          refine x_aQ (t9 := 11) C rfl eX23_layBlock_21 h (fun v7 h => ?_)
          refine x_cVv (As := [va_rf v7]) (st := []) (n := 1) (frc := 829 + 3 * d) (loc := 18658 + 73 * d) C h (fun S9 r9 e9 => k_X23_lay l D K m9 mr (f_layBlock K d) d ih _ S9 v7 r9 e9) ww_592 ww_586 ww_587 ww_588 ww_16 (by decide +kernel) rfl ⟨by omega, by omega⟩ (Nat.le_of_ble_eq_true rfl) eX23_layBlock_22 (fun S8 v9 h => ?_)
          refine x_iinc (j := 3) (v := 1) (lv2 := [(0, .ref m9), (1, va_rf x1), (2, .int x2)]) C eX23_layBlock_25 rfl (by decide) (by decide) rfl (oky rfl (oky (cat_rf x1) (oky rfl ok0))) ?_
          refine x_goto (tgt := 7) C eX23_layBlock_28 (by decide) ?_
          refine x_sub [1, 2, 3, 0] rfl ?_
          exact ih_7 S8 x1 x2 (x3 + 1) h
    unfold f_layBlock at h
    refine x_tload_n C eX23_layBlock_0 rfl 0 rfl ?_
    refine x_mV (k9 := 50) C (by decide) ww_583 eX23_layBlock_1 rfl ?_
    refine x_istore_n (lv2 := [(0, .ref m9), (1, va_rf x1)]) C eX23_layBlock_4 rfl (by decide) rfl (oky rfl (oky (cat_rf x1) ok0)) ?_
    refine x_iconst (v := 0) C eX23_layBlock_5 (by decide) ?_
    refine x_istore_n (lv2 := [(2, .int (Zi S0 50)), (0, .ref m9), (1, va_rf x1)]) C eX23_layBlock_6 rfl (by decide) rfl (oky rfl (oky rfl (oky (cat_rf x1) ok0))) ?_
    refine x_sub [2, 3, 1, 0] rfl ?_
    exact j_7 bigN S0 x1 (Zi S0 50) 0 h
set_option maxRecDepth 20000 in
set_option maxHeartbeats 4000000 in
theorem k_X23_layFunction (l : Launch) (D : va_G) (K : Ky) (m9 : Nat) (mr : Nat → Nat) (S0 Sf : Sg) (x1 : Int32) (rf : Unit) (h : f_layFunction K S0 x1 = some (Sf, rf)) : CT l D K m9 mr yX23_layFunction (Cond.code yX23_layFunction cX23_layFunction 5 none) (963) (21915) S0 Sf [.ref m9, .int x1] none := by
  refine x_start (cc := cX23_layFunction) (lv := [(0, .ref m9), (1, .int x1)]) rfl rfl (by decide) (by simp [lv_args, cat_rf, cat_i, cat_l, cat_a]) (by simp [lg_sl, cat_rf, cat_i, cat_l, cat_a]) (fun p e R s m args below meth c Q A C => ?_)
  have j_32 : ∀ (n_32 : Nat) (S : Sg) (x2 : Option Nat) (x3 : Int32), f_layFunction_32 K n_32 S x2 x3 = some (Sf, rf) → WX p l e R s m args below meth c Q D A K m9 mr 5 S0 S 32 [(0, .ref m9), (2, va_rf x2), (3, .int x3)] [] := by
    intro n_32
    induction n_32 with
    | zero => intro S x2 x3 h; unfold f_layFunction_32 at h; cases h
    | succ n_32 ih_32 =>
      intro S x2 x3 h
      have j_99 : ∀ (S : Sg) (x2 : Option Nat) (x3 : Int32), f_layFunction_99 K (f_layFunction_32 K n_32) S x2 x3 = some (Sf, rf) → WX p l e R s m args below meth c Q D A K m9 mr 5 S0 S 99 [(0, .ref m9), (2, va_rf x2), (3, .int x3)] [] := by
        intro S x2 x3 h
        unfold f_layFunction_99 at h
        refine x_iinc (j := 2) (v := 1) (lv2 := [(0, .ref m9), (2, va_rf x2)]) C eX23_layFunction_99 rfl (by decide) (by decide) rfl (oky rfl (oky (cat_rf x2) ok0)) ?_
        refine x_goto (tgt := 32) C eX23_layFunction_102 (by decide) ?_
        refine x_sub [1, 2, 0] rfl ?_
        exact ih_32 S x2 (x3 + 1) h
      unfold f_layFunction_32 at h
      refine x_iload_n C eX23_layFunction_32 rfl 2 rfl ?_
      refine x_aload_n C eX23_layFunction_33 rfl 1 rfl ?_
      refine x_gI (o9 := x2) (ci := 16) (k9 := 3) (Cn := RX16) (T := TX16) (N := 22) C rfl wt_X16 (by decide) ww_51 eX23_layFunction_34 h (fun v6 h => ?_)
      refine x_ic_ge (tgt := 105) C eX23_layFunction_37 (by decide) h (fun h => ?_) (fun h => ?_)
      · refine x_tload_n C eX23_layFunction_105 rfl 0 rfl ?_
        refine x_aload_n C eX23_layFunction_106 rfl 1 rfl ?_
        refine x_gR (o9 := x2) (ci := 16) (k9 := 16) (Cn := RX16) (T := TX16) (N := 22) C rfl wt_X16 (by decide) ww_99 eX23_layFunction_107 h (fun v7 h => ?_)
        refine x_cVv (As := [va_rf v7]) (st := []) (n := 1) (frc := 827 + 3 * 45) (loc := 18607 + 73 * 45) C h (fun S9 r9 e9 => k_X23_layBlock l D K m9 mr 45 _ S9 v7 r9 e9) ww_585 ww_611 ww_612 ww_613 ww_16 (by decide +kernel) rfl ⟨by omega, by omega⟩ (Nat.le_of_ble_eq_true rfl) eX23_layFunction_110 (fun S8 v9 h => ?_)
        refine x_tload_n C eX23_layFunction_113 rfl 0 rfl ?_
        refine x_iconst (v := 0) C eX23_layFunction_114 (by decide) ?_
        refine x_aload_n C eX23_layFunction_115 rfl 1 rfl ?_
        refine x_gR (o9 := x2) (ci := 16) (k9 := 16) (Cn := RX16) (T := TX16) (N := 22) C rfl wt_X16 (by decide) ww_99 eX23_layFunction_116 h (fun v10 h => ?_)
        refine x_gI (o9 := v10) (ci := 14) (k9 := 1) (Cn := RX14) (T := TX14) (N := 4) C rfl wt_X14 (by decide) ww_127 eX23_layFunction_119 h (fun v11 h => ?_)
        refine x_cVv (As := [.int 0, .int v11]) (st := []) (n := 2) (frc := 3) (loc := 61) C h (fun S9 r9 e9 => k_X23_goOut l D K m9 mr _ S9 0 v11 r9 e9) ww_584 ww_589 ww_590 ww_591 ww_16 (by decide +kernel) rfl ⟨by omega, by omega⟩ (Nat.le_of_ble_eq_true rfl) eX23_layFunction_122 (fun S12 v13 h => ?_)
        refine x_tload_n C eX23_layFunction_125 rfl 0 rfl ?_
        refine x_bipush (v := 26) C eX23_layFunction_126 (by decide) ?_
        refine x_aload_n C eX23_layFunction_128 rfl 1 rfl ?_
        refine x_gR (o9 := x2) (ci := 16) (k9 := 16) (Cn := RX16) (T := TX16) (N := 22) C rfl wt_X16 (by decide) ww_99 eX23_layFunction_129 h (fun v14 h => ?_)
        refine x_gI (o9 := v14) (ci := 14) (k9 := 1) (Cn := RX14) (T := TX14) (N := 4) C rfl wt_X14 (by decide) ww_127 eX23_layFunction_132 h (fun v15 h => ?_)
        refine x_cVi (As := [.int 26, .int v15]) (st := []) (n := 2) (frc := 1) (loc := 20) C h (fun S9 r9 e9 => k_X23_point l D K m9 mr _ S9 26 v15 r9 e9) ww_483 ww_532 ww_533 ww_534 ww_16 (by decide +kernel) rfl ⟨by omega, by omega⟩ (Nat.le_of_ble_eq_true rfl) eX23_layFunction_135 (fun S16 v17 h => ?_)
        refine x_pop C eX23_layFunction_138 rfl ?_
        refine x_aload_n C eX23_layFunction_139 rfl 1 rfl ?_
        refine x_tload_n C eX23_layFunction_140 rfl 0 rfl ?_
        refine x_mV (k9 := 26) C (by decide) ww_484 eX23_layFunction_141 rfl ?_
        refine x_pI (o9 := x2) (ci := 16) (k9 := 4) (Cn := RX16) (T := TX16) (N := 22) C rfl wt_X16 tyX16_ok nmX16 (by decide) ww_634 rfl (by decide +kernel) eX23_layFunction_144 h (fun S18 h => ?_)
        exact x_vret C rfl rfl eX23_layFunction_147 h
      · refine x_tload_n C eX23_layFunction_40 rfl 0 rfl ?_
        refine x_aload_n C eX23_layFunction_41 rfl 1 rfl ?_
        refine x_gR (o9 := x2) (ci := 16) (k9 := 17) (Cn := RX16) (T := TX16) (N := 22) C rfl wt_X16 (by decide) ww_87 eX23_layFunction_42 h (fun v19 h => ?_)
        refine x_iload_n C eX23_layFunction_45 rfl 2 rfl ?_
        refine x_aQ (t9 := 5) C rfl eX23_layFunction_46 h (fun v20 h => ?_)
        refine x_cVv (As := [va_rf v20]) (st := []) (n := 1) (frc := 1) (loc := 20) C h (fun S9 r9 e9 => k_X23_comesAlive l D K m9 mr _ S9 v20 r9 e9) ww_581 ww_619 ww_620 ww_621 ww_16 (by decide +kernel) rfl ⟨by omega, by omega⟩ (Nat.le_of_ble_eq_true rfl) eX23_layFunction_47 (fun S21 v22 h => ?_)
        refine x_aload_n C eX23_layFunction_50 rfl 1 rfl ?_
        refine x_gR (o9 := x2) (ci := 16) (k9 := 10) (Cn := RX16) (T := TX16) (N := 22) C rfl wt_X16 (by decide) ww_73 eX23_layFunction_51 h (fun v23 h => ?_)
        refine x_iload_n C eX23_layFunction_54 rfl 2 rfl ?_
        refine x_aQ (t9 := 4) C rfl eX23_layFunction_55 h (fun v24 h => ?_)
        refine x_cSi (As := [va_rf v24]) (st := []) (n := 1) (frc := 1) (loc := 20) C h (fun S9 r9 e9 => k_X23_refers l D K m9 mr _ S9 v24 r9 e9) ww_258 ww_354 ww_355 ww_16 (by decide +kernel) rfl ⟨by omega, by omega⟩ (Nat.le_of_ble_eq_true rfl) eX23_layFunction_56 (fun S25 v26 h => ?_)
        refine x_if_eq (tgt := 99) C eX23_layFunction_59 (by decide) h (fun h => ?_) (fun h => ?_)
        · refine x_sub [0, 1, 2] rfl ?_
          exact j_99 S25 x2 x3 h
        · refine x_tload_n C eX23_layFunction_62 rfl 0 rfl ?_
          refine x_null C eX23_layFunction_63 ?_
          refine x_iconst (v := 1) C eX23_layFunction_64 (by decide) ?_
          refine x_cVi (As := [va_rf none, .int 1]) (st := []) (n := 2) (frc := 1) (loc := 20) C h (fun S9 r9 e9 => k_X23_newLoan l D K m9 mr _ S9 none 1 r9 e9) ww_542 ww_548 ww_549 ww_550 ww_16 (by decide +kernel) rfl ⟨by omega, by omega⟩ (Nat.le_of_ble_eq_true rfl) eX23_layFunction_65 (fun S27 v28 h => ?_)
          refine x_istore (lv2 := [(0, .ref m9), (2, va_rf x2), (3, .int x3)]) C eX23_layFunction_68 (by decide) rfl (oky rfl (oky (cat_rf x2) (oky rfl ok0))) ?_
          refine x_tload_n C eX23_layFunction_70 rfl 1 rfl ?_
          refine x_mV (k9 := 45) C (by decide) ww_546 eX23_layFunction_71 rfl ?_
          refine x_iload C eX23_layFunction_74 0 rfl ?_
          refine x_aload_n C eX23_layFunction_76 rfl 2 rfl ?_
          refine x_gR (o9 := x2) (ci := 16) (k9 := 17) (Cn := RX16) (T := TX16) (N := 22) C rfl wt_X16 (by decide) ww_87 eX23_layFunction_77 h (fun v29 h => ?_)
          refine x_iload_n C eX23_layFunction_80 rfl 3 rfl ?_
          refine x_aQ (t9 := 5) C rfl eX23_layFunction_81 h (fun v30 h => ?_)
          refine x_gI (o9 := v30) (ci := 21) (k9 := 0) (Cn := RX21) (T := TX21) (N := 5) C rfl wt_X21 (by decide) ww_327 eX23_layFunction_82 h (fun v31 h => ?_)
          refine x_wI (r := 45) C (by decide) rfl eX23_layFunction_85 h (fun S32 h => ?_)
          refine x_tload_n C eX23_layFunction_86 rfl 1 rfl ?_
          refine x_mV (k9 := 46) C (by decide) ww_633 eX23_layFunction_87 rfl ?_
          refine x_iload C eX23_layFunction_90 0 rfl ?_
          refine x_aload_n C eX23_layFunction_92 rfl 2 rfl ?_
          refine x_gR (o9 := x2) (ci := 16) (k9 := 13) (Cn := RX16) (T := TX16) (N := 22) C rfl wt_X16 (by decide) ww_89 eX23_layFunction_93 h (fun v33 h => ?_)
          refine x_iload_n C eX23_layFunction_96 rfl 3 rfl ?_
          refine x_aI C eX23_layFunction_97 h (fun v34 h => ?_)
          refine x_wI (r := 46) C (by decide) rfl eX23_layFunction_98 h (fun S35 h => ?_)
          refine x_sub [1, 2, 3] rfl ?_
          exact j_99 S35 x2 x3 h
  unfold f_layFunction at h
  refine x_tload_n C eX23_layFunction_0 rfl 0 rfl ?_
  refine x_mV (k9 := 11) C (by decide) ww_114 eX23_layFunction_1 rfl ?_
  refine x_iload_n C eX23_layFunction_4 rfl 1 rfl ?_
  refine x_rQ (r := 11) (t9 := 3) C (by decide) rfl (by decide) rfl eX23_layFunction_5 h (fun v1 h => ?_)
  refine x_astore_n (lv2 := [(0, .ref m9), (1, .int x1)]) C eX23_layFunction_6 rfl (by decide) rfl (oky rfl (oky rfl ok0)) ?_
  refine x_aload_n C eX23_layFunction_7 rfl 0 rfl ?_
  refine x_tload_n C eX23_layFunction_8 rfl 1 rfl ?_
  refine x_mV (k9 := 26) C (by decide) ww_484 eX23_layFunction_9 rfl ?_
  refine x_pI (o9 := v1) (ci := 16) (k9 := 5) (Cn := RX16) (T := TX16) (N := 22) C rfl wt_X16 tyX16_ok nmX16 (by decide) ww_632 rfl (by decide +kernel) eX23_layFunction_12 h (fun S2 h => ?_)
  refine x_tload_n C eX23_layFunction_15 rfl 1 rfl ?_
  refine x_iconst (v := 0) C eX23_layFunction_16 (by decide) ?_
  refine x_pM (k9 := 47) C (by decide) rfl (by decide) ww_544 rfl (by decide +kernel) eX23_layFunction_17 h (fun S3 h => ?_)
  refine x_tload_n C eX23_layFunction_20 rfl 1 rfl ?_
  refine x_iconst (v := 0) C eX23_layFunction_21 (by decide) ?_
  refine x_pM (k9 := 48) C (by decide) rfl (by decide) ww_525 rfl (by decide +kernel) eX23_layFunction_22 h (fun S4 h => ?_)
  refine x_tload_n C eX23_layFunction_25 rfl 1 rfl ?_
  refine x_iconst (v := 0) C eX23_layFunction_26 (by decide) ?_
  refine x_pM (k9 := 50) C (by decide) rfl (by decide) ww_583 rfl (by decide +kernel) eX23_layFunction_27 h (fun S5 h => ?_)
  refine x_iconst (v := 0) C eX23_layFunction_30 (by decide) ?_
  refine x_istore_n (lv2 := [(2, va_rf v1), (0, .ref m9), (1, .int x1)]) C eX23_layFunction_31 rfl (by decide) rfl (oky (cat_rf v1) (oky rfl (oky rfl ok0))) ?_
  refine x_sub [2, 1, 0] rfl ?_
  exact j_32 bigN S5 v1 0 h
set_option maxRecDepth 20000 in
set_option maxHeartbeats 4000000 in
theorem k_X23_follows (l : Launch) (D : va_G) (K : Ky) (m9 : Nat) (mr : Nat → Nat) (S0 Sf : Sg) (x1 : Int32) (x2 : Int32) (rf : Int32) (h : f_follows K S0 x1 x2 = some (Sf, rf)) : CT l D K m9 mr yX23_follows (Cond.code yX23_follows cX23_follows 3 (some .int)) (1) (20) S0 Sf [.ref m9, .int x1, .int x2] (some (.int rf)) := by
  refine x_start (cc := cX23_follows) (lv := [(0, .ref m9), (1, .int x1), (2, .int x2)]) rfl rfl (by decide) (by simp [lv_args, cat_rf, cat_i, cat_l, cat_a]) (by simp [lg_sl, cat_rf, cat_i, cat_l, cat_a]) (fun p e R s m args below meth c Q A C => ?_)
  have j_38 : ∀ (S : Sg) (y0 : Int32), f_follows_38 K S y0 = some (Sf, rf) → WX p l e R s m args below meth c Q D A K m9 mr 3 S0 S 38 [] [.int y0] := by
    intro S y0 h
    unfold f_follows_38 at h
    exact x_iret C rfl rfl eX23_follows_38 h
  have j_84 : ∀ (S : Sg) (y0 : Int32), f_follows_84 K S y0 = some (Sf, rf) → WX p l e R s m args below meth c Q D A K m9 mr 3 S0 S 84 [] [.int y0] := by
    intro S y0 h
    unfold f_follows_84 at h
    exact x_iret C rfl rfl eX23_follows_84 h
  have j_61 : ∀ (S : Sg) (x1 : Int32) (x2 : Int32), f_follows_61 K S x1 x2 = some (Sf, rf) → WX p l e R s m args below meth c Q D A K m9 mr 3 S0 S 61 [(0, .ref m9), (1, .int x1), (2, .int x2)] [] := by
    intro S x1 x2 h
    unfold f_follows_61 at h
    refine x_iload_n C eX23_follows_61 rfl 2 rfl ?_
    refine x_tload_n C eX23_follows_62 rfl 0 rfl ?_
    refine x_mV (k9 := 42) C (by decide) ww_500 eX23_follows_63 rfl ?_
    refine x_iload_n C eX23_follows_66 rfl 1 rfl ?_
    refine x_rA (r := 42) C (by decide) rfl eX23_follows_67 h (fun v7 h => ?_)
    refine x_aLn (t9 := 0) C rfl eX23_follows_68 h (fun v8 h => ?_)
    refine x_ic_ge (tgt := 83) C eX23_follows_69 (by decide) h (fun h => ?_) (fun h => ?_)
    · refine x_iconst (v := (-1)) C eX23_follows_83 (by decide) ?_
      refine x_sub [] rfl ?_
      exact j_84 S (-1) h
    · refine x_tload_n C eX23_follows_72 rfl 0 rfl ?_
      refine x_mV (k9 := 42) C (by decide) ww_500 eX23_follows_73 rfl ?_
      refine x_iload_n C eX23_follows_76 rfl 1 rfl ?_
      refine x_rA (r := 42) C (by decide) rfl eX23_follows_77 h (fun v9 h => ?_)
      refine x_iload_n C eX23_follows_78 rfl 2 rfl ?_
      refine x_aI C eX23_follows_79 h (fun v10 h => ?_)
      refine x_goto (tgt := 84) C eX23_follows_80 (by decide) ?_
      refine x_sub [] rfl ?_
      exact j_84 S v10 h
  have j_108 : ∀ (S : Sg) (y0 : Int32), f_follows_108 K S y0 = some (Sf, rf) → WX p l e R s m args below meth c Q D A K m9 mr 3 S0 S 108 [] [.int y0] := by
    intro S y0 h
    unfold f_follows_108 at h
    exact x_iret C rfl rfl eX23_follows_108 h
  unfold f_follows at h
  refine x_tload_n C eX23_follows_0 rfl 0 rfl ?_
  refine x_mV (k9 := 27) C (by decide) ww_485 eX23_follows_1 rfl ?_
  refine x_iload_n C eX23_follows_4 rfl 1 rfl ?_
  refine x_rI (r := 27) C (by decide) rfl eX23_follows_5 h (fun v1 h => ?_)
  refine x_bipush (v := 26) C eX23_follows_6 (by decide) ?_
  refine x_ic_ne (tgt := 13) C eX23_follows_8 (by decide) h (fun h => ?_) (fun h => ?_)
  · refine x_tload_n C eX23_follows_13 rfl 0 rfl ?_
    refine x_mV (k9 := 27) C (by decide) ww_485 eX23_follows_14 rfl ?_
    refine x_iload_n C eX23_follows_17 rfl 1 rfl ?_
    refine x_rI (r := 27) C (by decide) rfl eX23_follows_18 h (fun v2 h => ?_)
    refine x_bipush (v := 16) C eX23_follows_19 (by decide) ?_
    refine x_ic_ne (tgt := 39) C eX23_follows_21 (by decide) h (fun h => ?_) (fun h => ?_)
    · refine x_tload_n C eX23_follows_39 rfl 0 rfl ?_
      refine x_mV (k9 := 27) C (by decide) ww_485 eX23_follows_40 rfl ?_
      refine x_iload_n C eX23_follows_43 rfl 1 rfl ?_
      refine x_rI (r := 27) C (by decide) rfl eX23_follows_44 h (fun v3 h => ?_)
      refine x_bipush (v := 20) C eX23_follows_45 (by decide) ?_
      refine x_ic_eq (tgt := 61) C eX23_follows_47 (by decide) h (fun h => ?_) (fun h => ?_)
      · refine x_sub [0, 1, 2] rfl ?_
        exact j_61 S0 x1 x2 h
      · refine x_tload_n C eX23_follows_50 rfl 0 rfl ?_
        refine x_mV (k9 := 27) C (by decide) ww_485 eX23_follows_51 rfl ?_
        refine x_iload_n C eX23_follows_54 rfl 1 rfl ?_
        refine x_rI (r := 27) C (by decide) rfl eX23_follows_55 h (fun v4 h => ?_)
        refine x_bipush (v := 21) C eX23_follows_56 (by decide) ?_
        refine x_ic_ne (tgt := 85) C eX23_follows_58 (by decide) h (fun h => ?_) (fun h => ?_)
        · refine x_iload_n C eX23_follows_85 rfl 2 rfl ?_
          refine x_if_ne (tgt := 93) C eX23_follows_86 (by decide) h (fun h => ?_) (fun h => ?_)
          · refine x_iload_n C eX23_follows_93 rfl 2 rfl ?_
            refine x_iconst (v := 1) C eX23_follows_94 (by decide) ?_
            refine x_ic_ne (tgt := 107) C eX23_follows_95 (by decide) h (fun h => ?_) (fun h => ?_)
            · refine x_iconst (v := (-1)) C eX23_follows_107 (by decide) ?_
              refine x_sub [] rfl ?_
              exact j_108 S0 (-1) h
            · refine x_tload_n C eX23_follows_98 rfl 0 rfl ?_
              refine x_mV (k9 := 30) C (by decide) ww_489 eX23_follows_99 rfl ?_
              refine x_iload_n C eX23_follows_102 rfl 1 rfl ?_
              refine x_rI (r := 30) C (by decide) rfl eX23_follows_103 h (fun v5 h => ?_)
              refine x_goto (tgt := 108) C eX23_follows_104 (by decide) ?_
              refine x_sub [] rfl ?_
              exact j_108 S0 v5 h
          · refine x_iload_n C eX23_follows_89 rfl 1 rfl ?_
            refine x_iconst (v := 1) C eX23_follows_90 (by decide) ?_
            refine x_iadd C eX23_follows_91 ?_
            exact x_iret C rfl rfl eX23_follows_92 h
        · refine x_sub [0, 1, 2] rfl ?_
          exact j_61 S0 x1 x2 h
    · refine x_iload_n C eX23_follows_24 rfl 2 rfl ?_
      refine x_if_ne (tgt := 37) C eX23_follows_25 (by decide) h (fun h => ?_) (fun h => ?_)
      · refine x_iconst (v := (-1)) C eX23_follows_37 (by decide) ?_
        refine x_sub [] rfl ?_
        exact j_38 S0 (-1) h
      · refine x_tload_n C eX23_follows_28 rfl 0 rfl ?_
        refine x_mV (k9 := 30) C (by decide) ww_489 eX23_follows_29 rfl ?_
        refine x_iload_n C eX23_follows_32 rfl 1 rfl ?_
        refine x_rI (r := 30) C (by decide) rfl eX23_follows_33 h (fun v6 h => ?_)
        refine x_goto (tgt := 38) C eX23_follows_34 (by decide) ?_
        refine x_sub [] rfl ?_
        exact j_38 S0 v6 h
  · refine x_iconst (v := (-1)) C eX23_follows_11 (by decide) ?_
    exact x_iret C rfl rfl eX23_follows_12 h
