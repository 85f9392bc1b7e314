set_option maxRecDepth 20000 in
set_option maxHeartbeats 4000000 in
theorem k_X23_reach (l : Launch) (D : va_G) (K : Ky) (m9 : Nat) (mr : Nat → Nat) (S0 Sf : Sg) (x1 : Option Nat) (rf : Unit) (h : f_reach K S0 x1 = some (Sf, rf)) : CT l D K m9 mr yX23_reach (Cond.code yX23_reach cX23_reach 5 none) (2) (42) S0 Sf [.ref m9, va_rf x1] none := by
  refine x_start (cc := cX23_reach) (lv := [(0, .ref m9), (1, va_rf x1)]) rfl rfl (by decide) (by simp [lv_args, cat_rf, cat_i, cat_l, cat_a]) (by simp [lg_sl, cat_rf, cat_i, cat_l, cat_a]) (fun p e R s m args below meth c Q A C => ?_)
  have j_40 : ∀ (n_40 : Nat) (S : Sg) (x1 : Option Nat) (x2 : Int32), f_reach_40 K n_40 S x1 x2 = some (Sf, rf) → WX p l e R s m args below meth c Q D A K m9 mr 5 S0 S 40 [(0, .ref m9), (1, va_rf x1), (2, .int x2)] [] := by
    intro n_40
    induction n_40 with
    | zero => intro S x1 x2 h; unfold f_reach_40 at h; cases h
    | succ n_40 ih_40 =>
      intro S x1 x2 h
      have j_51 : ∀ (n_51 : Nat) (S : Sg) (x1 : Option Nat) (x2 : Int32) (x3 : Int32), f_reach_51 K (f_reach_40 K n_40) n_51 S x1 x2 x3 = some (Sf, rf) → WX p l e R s m args below meth c Q D A K m9 mr 5 S0 S 51 [(0, .ref m9), (1, va_rf x1), (2, .int x2), (3, .int x3)] [] := by
        intro n_51
        induction n_51 with
        | zero => intro S x1 x2 x3 h; unfold f_reach_51 at h; cases h
        | succ n_51 ih_51 =>
          intro S x1 x2 x3 h
          have j_117 : ∀ (S : Sg) (x1 : Option Nat) (x2 : Int32) (x3 : Int32), f_reach_117 K (f_reach_40 K n_40) (f_reach_51 K (f_reach_40 K n_40) n_51) S x1 x2 x3 = some (Sf, rf) → WX p l e R s m args below meth c Q D A K m9 mr 5 S0 S 117 [(0, .ref m9), (1, va_rf x1), (2, .int x2), (3, .int x3)] [] := by
            intro S x1 x2 x3 h
            unfold f_reach_117 at h
            refine x_iinc (j := 3) (v := 1) (lv2 := [(0, .ref m9), (1, va_rf x1), (2, .int x2)]) C eX23_reach_117 rfl (by decide) (by decide) rfl (oky rfl (oky (cat_rf x1) (oky rfl ok0))) ?_
            refine x_goto (tgt := 51) C eX23_reach_120 (by decide) ?_
            refine x_sub [1, 2, 3, 0] rfl ?_
            exact ih_51 S x1 x2 (x3 + 1) h
          have j_62 : ∀ (n_62 : Nat) (S : Sg) (x1 : Option Nat) (x2 : Int32) (x3 : Int32) (x4 : Int32), f_reach_62 K (f_reach_40 K n_40) (f_reach_51 K (f_reach_40 K n_40) n_51) n_62 S x1 x2 x3 x4 = some (Sf, rf) → WX p l e R s m args below meth c Q D A K m9 mr 5 S0 S 62 [(0, .ref m9), (1, va_rf x1), (2, .int x2), (3, .int x3), (4, .int x4)] [] := by
            intro n_62
            induction n_62 with
            | zero => intro S x1 x2 x3 x4 h; unfold f_reach_62 at h; cases h
            | succ n_62 ih_62 =>
              intro S x1 x2 x3 x4 h
              have j_111 : ∀ (S : Sg) (x1 : Option Nat) (x2 : Int32) (x3 : Int32) (x4 : Int32), f_reach_111 K (f_reach_40 K n_40) (f_reach_51 K (f_reach_40 K n_40) n_51) (f_reach_62 K (f_reach_40 K n_40) (f_reach_51 K (f_reach_40 K n_40) n_51) n_62) S x1 x2 x3 x4 = some (Sf, rf) → WX p l e R s m args below meth c Q D A K m9 mr 5 S0 S 111 [(0, .ref m9), (1, va_rf x1), (2, .int x2), (3, .int x3), (4, .int x4)] [] := by
                intro S x1 x2 x3 x4 h
                unfold f_reach_111 at h
                refine x_iinc (j := 4) (v := 1) (lv2 := [(0, .ref m9), (1, va_rf x1), (2, .int x2), (3, .int x3)]) C eX23_reach_111 rfl (by decide) (by decide) rfl (oky rfl (oky (cat_rf x1) (oky rfl (oky rfl ok0)))) ?_
                refine x_goto (tgt := 62) C eX23_reach_114 (by decide) ?_
                refine x_sub [1, 2, 3, 4, 0] rfl ?_
                exact ih_62 S x1 x2 x3 (x4 + 1) h
              unfold f_reach_62 at h
              refine x_tload_n C eX23_reach_62 rfl 0 rfl ?_
              refine x_mV (k9 := 52) C (by decide) ww_637 eX23_reach_63 rfl ?_
              refine x_iload_n C eX23_reach_66 rfl 3 rfl ?_
              refine x_rZ (r := 52) C (by decide) rfl eX23_reach_67 h (fun v7 h => ?_)
              refine x_if_eq (tgt := 117) C eX23_reach_68 (by decide) h (fun h => ?_) (fun h => ?_)
              · refine x_sub [0, 1, 2, 3] rfl ?_
                exact j_117 S x1 x2 x3 h
              · refine x_tload_n C eX23_reach_71 rfl 0 rfl ?_
                refine x_iload_n C eX23_reach_72 rfl 3 rfl ?_
                refine x_iload C eX23_reach_73 4 rfl ?_
                refine x_cVi (As := [.int x3, .int x4]) (st := []) (n := 2) (frc := 1) (loc := 20) C h (fun S9 r9 e9 => k_X23_follows l D K m9 mr _ S9 x3 x4 r9 e9) ww_635 ww_638 ww_639 ww_640 ww_16 (by decide +kernel) rfl ⟨by omega, by omega⟩ (Nat.le_of_ble_eq_true rfl) eX23_reach_75 (fun S8 v9 h => ?_)
                refine x_if_lt (tgt := 117) C eX23_reach_78 (by decide) h (fun h => ?_) (fun h => ?_)
                · refine x_sub [0, 1, 2, 3] rfl ?_
                  exact j_117 S8 x1 x2 x3 h
                · refine x_tload_n C eX23_reach_81 rfl 0 rfl ?_
                  refine x_mV (k9 := 52) C (by decide) ww_637 eX23_reach_82 rfl ?_
                  refine x_tload_n C eX23_reach_85 rfl 0 rfl ?_
                  refine x_iload_n C eX23_reach_86 rfl 3 rfl ?_
                  refine x_iload C eX23_reach_87 4 rfl ?_
                  refine x_cVi (As := [.int x3, .int x4]) (st := [.ref (mr 52)]) (n := 2) (frc := 1) (loc := 20) C h (fun S9 r9 e9 => k_X23_follows l D K m9 mr _ S9 x3 x4 r9 e9) ww_635 ww_638 ww_639 ww_640 ww_16 (by decide +kernel) rfl ⟨by omega, by omega⟩ (Nat.le_of_ble_eq_true rfl) eX23_reach_89 (fun S10 v11 h => ?_)
                  refine x_rZ (r := 52) C (by decide) rfl eX23_reach_92 h (fun v12 h => ?_)
                  refine x_if_ne (tgt := 111) C eX23_reach_93 (by decide) h (fun h => ?_) (fun h => ?_)
                  · refine x_sub [0, 1, 2, 3, 4] rfl ?_
                    exact j_111 S10 x1 x2 x3 x4 h
                  · refine x_tload_n C eX23_reach_96 rfl 0 rfl ?_
                    refine x_mV (k9 := 52) C (by decide) ww_637 eX23_reach_97 rfl ?_
                    refine x_tload_n C eX23_reach_100 rfl 0 rfl ?_
                    refine x_iload_n C eX23_reach_101 rfl 3 rfl ?_
                    refine x_iload C eX23_reach_102 4 rfl ?_
                    refine x_cVi (As := [.int x3, .int x4]) (st := [.ref (mr 52)]) (n := 2) (frc := 1) (loc := 20) C h (fun S9 r9 e9 => k_X23_follows l D K m9 mr _ S9 x3 x4 r9 e9) ww_635 ww_638 ww_639 ww_640 ww_16 (by decide +kernel) rfl ⟨by omega, by omega⟩ (Nat.le_of_ble_eq_true rfl) eX23_reach_104 (fun S13 v14 h => ?_)
                    refine x_iconst (v := 1) C eX23_reach_107 (by decide) ?_
                    refine x_wZ (r := 52) C (by decide) rfl eX23_reach_108 h (fun S15 h => ?_)
                    refine x_iconst (v := 1) C eX23_reach_109 (by decide) ?_
                    refine x_istore_n (lv2 := [(0, .ref m9), (1, va_rf x1), (3, .int x3), (4, .int x4)]) C eX23_reach_110 rfl (by decide) rfl (oky rfl (oky (cat_rf x1) (oky rfl (oky rfl ok0)))) ?_
                    refine x_sub [1, 2, 0, 3, 4] rfl ?_
                    exact j_111 S15 x1 1 x3 x4 h
          unfold f_reach_51 at h
          refine x_iload_n C eX23_reach_51 rfl 3 rfl ?_
          refine x_aload_n C eX23_reach_52 rfl 1 rfl ?_
          refine x_gI (o9 := x1) (ci := 16) (k9 := 4) (Cn := RX16) (T := TX16) (N := 22) C rfl wt_X16 (by decide) ww_634 eX23_reach_53 h (fun v6 h => ?_)
          refine x_ic_ge (tgt := 123) C eX23_reach_56 (by decide) h (fun h => ?_) (fun h => ?_)
          · refine x_goto (tgt := 40) C eX23_reach_123 (by decide) ?_
            refine x_sub [0, 1, 2] rfl ?_
            exact ih_40 S x1 x2 h
          · refine x_iconst (v := 0) C eX23_reach_59 (by decide) ?_
            refine x_istore (lv2 := [(0, .ref m9), (1, va_rf x1), (2, .int x2), (3, .int x3)]) C eX23_reach_60 (by decide) rfl (oky rfl (oky (cat_rf x1) (oky rfl (oky rfl ok0)))) ?_
            refine x_sub [1, 2, 3, 4, 0] rfl ?_
            exact j_62 bigN S x1 x2 x3 0 h
      unfold f_reach_40 at h
      refine x_iload_n C eX23_reach_40 rfl 2 rfl ?_
      refine x_if_eq (tgt := 126) C eX23_reach_41 (by decide) h (fun h => ?_) (fun h => ?_)
      · exact x_vret C rfl rfl eX23_reach_126 h
      · refine x_iconst (v := 0) C eX23_reach_44 (by decide) ?_
        refine x_istore_n (lv2 := [(0, .ref m9), (1, va_rf x1)]) C eX23_reach_45 rfl (by decide) rfl (oky rfl (oky (cat_rf x1) ok0)) ?_
        refine x_aload_n C eX23_reach_46 rfl 2 rfl ?_
        refine x_gI (o9 := x1) (ci := 16) (k9 := 5) (Cn := RX16) (T := TX16) (N := 22) C rfl wt_X16 (by decide) ww_632 eX23_reach_47 h (fun v5 h => ?_)
        refine x_istore_n (lv2 := [(2, .int 0), (0, .ref m9), (1, va_rf x1)]) C eX23_reach_50 rfl (by decide) rfl (oky rfl (oky rfl (oky (cat_rf x1) ok0))) ?_
        refine x_sub [2, 3, 1, 0] rfl ?_
        exact j_51 bigN S x1 0 v5 h
  have j_5 : ∀ (n_5 : Nat) (S : Sg) (x1 : Option Nat) (x2 : Int32), f_reach_5 K n_5 S x1 x2 = some (Sf, rf) → WX p l e R s m args below meth c Q D A K m9 mr 5 S0 S 5 [(0, .ref m9), (1, va_rf x1), (2, .int x2)] [] := by
    intro n_5
    induction n_5 with
    | zero => intro S x1 x2 h; unfold f_reach_5 at h; cases h
    | succ n_5 ih_5 =>
      intro S x1 x2 h
      have j_31 : ∀ (S : Sg) (x1 : Option Nat) (x2 : Int32) (y0 : Int32) (y1 : Int32), f_reach_31 K (f_reach_5 K n_5) S x1 x2 y0 y1 = some (Sf, rf) → WX p l e R s m args below meth c Q D A K m9 mr 5 S0 S 31 [(0, .ref m9), (1, va_rf x1), (2, .int x2)] [.int y0, .int y1, .ref (mr 52)] := by
        intro S x1 x2 y0 y1 h
        unfold f_reach_31 at h
        refine x_wZ (r := 52) C (by decide) rfl eX23_reach_31 h (fun S4 h => ?_)
        refine x_iinc (j := 2) (v := 1) (lv2 := [(0, .ref m9), (1, va_rf x1)]) C eX23_reach_32 rfl (by decide) (by decide) rfl (oky rfl (oky (cat_rf x1) ok0)) ?_
        refine x_goto (tgt := 5) C eX23_reach_35 (by decide) ?_
        refine x_sub [1, 2, 0] rfl ?_
        exact ih_5 S4 x1 (x2 + 1) h
      unfold f_reach_5 at h
      refine x_iload_n C eX23_reach_5 rfl 2 rfl ?_
      refine x_aload_n C eX23_reach_6 rfl 1 rfl ?_
      refine x_gI (o9 := x1) (ci := 16) (k9 := 4) (Cn := RX16) (T := TX16) (N := 22) C rfl wt_X16 (by decide) ww_634 eX23_reach_7 h (fun v2 h => ?_)
      refine x_ic_ge (tgt := 38) C eX23_reach_10 (by decide) h (fun h => ?_) (fun h => ?_)
      · refine x_iconst (v := 1) C eX23_reach_38 (by decide) ?_
        refine x_istore_n (lv2 := [(0, .ref m9), (1, va_rf x1)]) C eX23_reach_39 rfl (by decide) rfl (oky rfl (oky (cat_rf x1) ok0)) ?_
        refine x_sub [1, 2, 0] rfl ?_
        exact j_40 bigN S x1 1 h
      · refine x_tload_n C eX23_reach_13 rfl 0 rfl ?_
        refine x_mV (k9 := 52) C (by decide) ww_637 eX23_reach_14 rfl ?_
        refine x_iload_n C eX23_reach_17 rfl 2 rfl ?_
        refine x_iload_n C eX23_reach_18 rfl 2 rfl ?_
        refine x_aload_n C eX23_reach_19 rfl 1 rfl ?_
        refine x_gI (o9 := x1) (ci := 16) (k9 := 5) (Cn := RX16) (T := TX16) (N := 22) C rfl wt_X16 (by decide) ww_632 eX23_reach_20 h (fun v3 h => ?_)
        refine x_ic_ne (tgt := 30) C eX23_reach_23 (by decide) h (fun h => ?_) (fun h => ?_)
        · refine x_iconst (v := 0) C eX23_reach_30 (by decide) ?_
          refine x_sub [0, 1, 2] rfl ?_
          exact j_31 S x1 x2 0 x2 h
        · refine x_iconst (v := 1) C eX23_reach_26 (by decide) ?_
          refine x_goto (tgt := 31) C eX23_reach_27 (by decide) ?_
          refine x_sub [0, 1, 2] rfl ?_
          exact j_31 S x1 x2 1 x2 h
  unfold f_reach at h
  refine x_aload_n C eX23_reach_0 rfl 1 rfl ?_
  refine x_gI (o9 := x1) (ci := 16) (k9 := 5) (Cn := RX16) (T := TX16) (N := 22) C rfl wt_X16 (by decide) ww_632 eX23_reach_1 h (fun v1 h => ?_)
  refine x_istore_n (lv2 := [(0, .ref m9), (1, va_rf x1)]) C eX23_reach_4 rfl (by decide) rfl (oky rfl (oky (cat_rf x1) ok0)) ?_
  refine x_sub [1, 2, 0] rfl ?_
  exact j_5 bigN S0 x1 v1 h
set_option maxRecDepth 20000 in
set_option maxHeartbeats 4000000 in
theorem k_X23_partsOf (l : Launch) (D : va_G) (K : Ky) (m9 : Nat) (mr : Nat → Nat) : ∀ (d : Nat) (S0 Sf : Sg) (x1 : Option Nat) (rf : Int32), f_partsOf K d S0 x1 = some (Sf, rf) → CT l D K m9 mr yX23_partsOf (Cond.code yX23_partsOf cX23_partsOf 5 (some .int)) (1 + 1 * d) (20 + 24 * d) S0 Sf [.ref m9, va_rf x1] (some (.int rf)) := by
  intro d
  induction d with
  | zero => intro S0 Sf x1 rf h; unfold f_partsOf at h; cases h
  | succ d ih =>
    intro S0 Sf x1 rf h
    refine x_start (cc := cX23_partsOf) (lv := [(0, .ref m9), (1, va_rf x1)]) rfl rfl (by decide) (by simp [lv_args, cat_rf, cat_i, cat_l, cat_a]) (by simp [lg_sl, cat_rf, cat_i, cat_l, cat_a]) (fun p e R s m args below meth c Q A C => ?_)
    have j_12 : ∀ (S : Sg), f_partsOf_12 K (f_partsOf K d) S = some (Sf, rf) → WX p l e R s m args below meth c Q D A K m9 mr 5 S0 S 12 [] [] := by
      intro S h
      unfold f_partsOf_12 at h
      refine x_iconst (v := 1) C eX23_partsOf_12 (by decide) ?_
      exact x_iret C rfl rfl eX23_partsOf_13 h
    have j_29 : ∀ (n_29 : Nat) (S : Sg) (x2 : Int32) (x3 : Option Nat) (x4 : Int32), f_partsOf_29 K (f_partsOf K d) n_29 S x2 x3 x4 = some (Sf, rf) → WX p l e R s m args below meth c Q D A K m9 mr 5 S0 S 29 [(0, .ref m9), (2, .int x2), (3, va_rf x3), (4, .int x4)] [] := by
      intro n_29
      induction n_29 with
      | zero => intro S x2 x3 x4 h; unfold f_partsOf_29 at h; cases h
      | succ n_29 ih_29 =>
        intro S x2 x3 x4 h
        unfold f_partsOf_29 at h
        refine x_iload C eX23_partsOf_29 3 rfl ?_
        refine x_aload_n C eX23_partsOf_31 rfl 2 rfl ?_
        refine x_gI (o9 := x3) (ci := 16) (k9 := 3) (Cn := RX16) (T := TX16) (N := 22) C rfl wt_X16 (by decide) ww_51 eX23_partsOf_32 h (fun v4 h => ?_)
        refine x_ic_ge (tgt := 58) C eX23_partsOf_35 (by decide) h (fun h => ?_) (fun h => ?_)
        · refine x_iload_n C eX23_partsOf_58 rfl 1 rfl ?_
          exact x_iret C rfl rfl eX23_partsOf_59 h
        · refine x_iload_n C eX23_partsOf_38 rfl 1 rfl ?_
          refine x_tload_n C eX23_partsOf_39 rfl 0 rfl ?_
          refine x_aload_n C eX23_partsOf_40 rfl 2 rfl ?_
          refine x_gR (o9 := x3) (ci := 16) (k9 := 10) (Cn := RX16) (T := TX16) (N := 22) C rfl wt_X16 (by decide) ww_73 eX23_partsOf_41 h (fun v5 h => ?_)
          refine x_iload C eX23_partsOf_44 3 rfl ?_
          refine x_aQ (t9 := 4) C rfl eX23_partsOf_46 h (fun v6 h => ?_)
          refine x_cVi (As := [va_rf v6]) (st := [.int x2]) (n := 1) (frc := 1 + 1 * d) (loc := 20 + 24 * d) C h (fun S9 r9 e9 => ih _ S9 v6 r9 e9) ww_641 ww_642 ww_643 ww_644 ww_16 (by decide +kernel) rfl ⟨by omega, by omega⟩ (Nat.le_of_ble_eq_true rfl) eX23_partsOf_47 (fun S7 v8 h => ?_)
          refine x_iadd C eX23_partsOf_50 ?_
          refine x_istore_n (lv2 := [(0, .ref m9), (3, va_rf x3), (4, .int x4)]) C eX23_partsOf_51 rfl (by decide) rfl (oky rfl (oky (cat_rf x3) (oky rfl ok0))) ?_
          refine x_iinc (j := 3) (v := 1) (lv2 := [(2, .int (x2 + v8)), (0, .ref m9), (3, va_rf x3)]) C eX23_partsOf_52 rfl (by decide) (by decide) rfl (oky rfl (oky rfl (oky (cat_rf x3) ok0))) ?_
          refine x_goto (tgt := 29) C eX23_partsOf_55 (by decide) ?_
          refine x_sub [2, 1, 3, 0] rfl ?_
          exact ih_29 S7 (x2 + v8) x3 (x4 + 1) h
    unfold f_partsOf at h
    refine x_aload_n C eX23_partsOf_0 rfl 1 rfl ?_
    refine x_ifnull (tgt := 12) C eX23_partsOf_1 (by decide) h (fun h => ?_) (fun h => ?_)
    · refine x_sub [] rfl ?_
      exact j_12 S0 h
    · refine x_aload_n C eX23_partsOf_4 rfl 1 rfl ?_
      refine x_gI (o9 := x1) (ci := 20) (k9 := 0) (Cn := RX20) (T := TX20) (N := 4) C rfl wt_X20 (by decide) ww_247 eX23_partsOf_5 h (fun v1 h => ?_)
      refine x_iconst (v := 3) C eX23_partsOf_8 (by decide) ?_
      refine x_ic_eq (tgt := 14) C eX23_partsOf_9 (by decide) h (fun h => ?_) (fun h => ?_)
      · refine x_iconst (v := 0) C eX23_partsOf_14 (by decide) ?_
        refine x_istore_n (lv2 := [(0, .ref m9), (1, va_rf x1)]) C eX23_partsOf_15 rfl (by decide) rfl (oky rfl (oky (cat_rf x1) ok0)) ?_
        refine x_tload_n C eX23_partsOf_16 rfl 1 rfl ?_
        refine x_mV (k9 := 11) C (by decide) ww_114 eX23_partsOf_17 rfl ?_
        refine x_aload_n C eX23_partsOf_20 rfl 2 rfl ?_
        refine x_gI (o9 := x1) (ci := 20) (k9 := 1) (Cn := RX20) (T := TX20) (N := 4) C rfl wt_X20 (by decide) ww_248 eX23_partsOf_21 h (fun v2 h => ?_)
        refine x_rQ (r := 11) (t9 := 3) C (by decide) rfl (by decide) rfl eX23_partsOf_24 h (fun v3 h => ?_)
        refine x_astore_n (lv2 := [(2, .int 0), (0, .ref m9), (1, va_rf x1)]) C eX23_partsOf_25 rfl (by decide) rfl (oky rfl (oky rfl (oky (cat_rf x1) ok0))) ?_
        refine x_iconst (v := 0) C eX23_partsOf_26 (by decide) ?_
        refine x_istore (lv2 := [(3, va_rf v3), (2, .int 0), (0, .ref m9), (1, va_rf x1)]) C eX23_partsOf_27 (by decide) rfl (oky (cat_rf v3) (oky rfl (oky rfl (oky (cat_rf x1) ok0)))) ?_
        refine x_sub [3, 2, 1, 0] rfl ?_
        exact j_29 bigN S0 0 v3 0 h
      · refine x_sub [] rfl ?_
        exact j_12 S0 h
set_option maxRecDepth 20000 in
set_option maxHeartbeats 4000000 in
theorem k_X23_get (l : Launch) (D : va_G) (K : Ky) (m9 : Nat) (mr : Nat → Nat) (S0 Sf : Sg) (x0 : Nat) (x1 : Int32) (x2 : Int32) (rf : Int32) (hrx0 : x0 ∈ rwL) (htx0 : rtag x0 = 1) (h : f_get K S0 x0 x1 x2 = some (Sf, rf)) : CT l D K m9 mr yX23_get (Cond.code yX23_get cX23_get 3 (some .boolean)) (1) (20) S0 Sf [.ref (mr x0), .int x1, .int x2] (some (.int rf)) := by
  refine x_start (cc := cX23_get) (lv := [(0, .ref (mr x0)), (1, .int x1), (2, .int x2)]) rfl rfl (by decide) (by simp [lv_args, cat_rf, cat_i, cat_l, cat_a]) (by simp [lg_sl, cat_rf, cat_i, cat_l, cat_a]) (fun p e R s m args below meth c Q A C => ?_)
  have j_25 : ∀ (S : Sg) (y0 : Int32), f_get_25 K x0 S y0 = some (Sf, rf) → WX p l e R s m args below meth c Q D A K m9 mr 3 S0 S 25 [] [.int y0] := by
    intro S y0 h
    unfold f_get_25 at h
    exact x_zret C rfl rfl eX23_get_25 h
  unfold f_get at h
  refine x_tload_n C eX23_get_0 rfl 0 rfl ?_
  refine x_iload_n C eX23_get_1 rfl 1 rfl ?_
  refine x_iload_n C eX23_get_2 rfl 2 rfl ?_
  refine x_bipush (v := 6) C eX23_get_3 (by decide) ?_
  refine x_ishr C eX23_get_5 ?_
  refine x_iadd C eX23_get_6 ?_
  refine x_rJ (r := x0) C hrx0 htx0 eX23_get_7 h (fun v1 h => ?_)
  refine x_iload_n C eX23_get_8 rfl 2 rfl ?_
  refine x_bipush (v := 63) C eX23_get_9 (by decide) ?_
  refine x_iand C eX23_get_11 ?_
  refine x_lushr C eX23_get_12 ?_
  refine x_lconst (v := 1) C eX23_get_13 (by decide) ?_
  refine x_land C eX23_get_14 ?_
  refine x_lconst (v := 1) C eX23_get_15 (by decide) ?_
  refine x_lcmp C eX23_get_16 ?_
  refine x_if_ne (tgt := 24) C eX23_get_17 (by decide) h (fun h => ?_) (fun h => ?_)
  · refine x_iconst (v := 0) C eX23_get_24 (by decide) ?_
    refine x_sub [] rfl ?_
    exact j_25 S0 0 h
  · refine x_iconst (v := 1) C eX23_get_20 (by decide) ?_
    refine x_goto (tgt := 25) C eX23_get_21 (by decide) ?_
    refine x_sub [] rfl ?_
    exact j_25 S0 1 h
set_option maxRecDepth 20000 in
set_option maxHeartbeats 4000000 in
theorem k_X23_put (l : Launch) (D : va_G) (K : Ky) (m9 : Nat) (mr : Nat → Nat) (S0 Sf : Sg) (x0 : Nat) (x1 : Int32) (x2 : Int32) (x3 : Int32) (rf : Unit) (hrx0 : x0 ∈ rwL) (htx0 : rtag x0 = 1) (h : f_put K S0 x0 x1 x2 x3 = some (Sf, rf)) : CT l D K m9 mr yX23_put (Cond.code yX23_put cX23_put 6 none) (1) (20) S0 Sf [.ref (mr x0), .int x1, .int x2, .int x3] none := by
  refine x_start (cc := cX23_put) (lv := [(0, .ref (mr x0)), (1, .int x1), (2, .int x2), (3, .int x3)]) rfl rfl (by decide) (by simp [lv_args, cat_rf, cat_i, cat_l, cat_a]) (by simp [lg_sl, cat_rf, cat_i, cat_l, cat_a]) (fun p e R s m args below meth c Q A C => ?_)
  have j_48 : ∀ (S : Sg) (y0 : Int64) (y1 : Int32), f_put_48 K x0 S y0 y1 = some (Sf, rf) → WX p l e R s m args below meth c Q D A K m9 mr 6 S0 S 48 [] [.long y0, .int y1, .ref (mr x0)] := by
    intro S y0 y1 h
    unfold f_put_48 at h
    refine x_wJ (r := x0) C hrx0 htx0 eX23_put_48 h (fun S3 h => ?_)
    exact x_vret C rfl rfl eX23_put_49 h
  unfold f_put at h
  refine x_lconst (v := 1) C eX23_put_0 (by decide) ?_
  refine x_iload_n C eX23_put_1 rfl 2 rfl ?_
  refine x_bipush (v := 63) C eX23_put_2 (by decide) ?_
  refine x_iand C eX23_put_4 ?_
  refine x_lshl C eX23_put_5 ?_
  refine x_lstore (lv2 := [(0, .ref (mr x0)), (1, .int x1), (2, .int x2), (3, .int x3)]) C eX23_put_6 (by decide) rfl (oky rfl (oky rfl (oky rfl (oky rfl ok0)))) ?_
  refine x_tload_n C eX23_put_8 rfl 1 rfl ?_
  refine x_iload_n C eX23_put_9 rfl 2 rfl ?_
  refine x_iload_n C eX23_put_10 rfl 3 rfl ?_
  refine x_bipush (v := 6) C eX23_put_11 (by decide) ?_
  refine x_ishr C eX23_put_13 ?_
  refine x_iadd C eX23_put_14 ?_
  refine x_iload_n C eX23_put_15 rfl 4 rfl ?_
  refine x_if_eq (tgt := 33) C eX23_put_16 (by decide) h (fun h => ?_) (fun h => ?_)
  · refine x_tload_n C eX23_put_33 rfl 1 rfl ?_
    refine x_iload_n C eX23_put_34 rfl 2 rfl ?_
    refine x_iload_n C eX23_put_35 rfl 3 rfl ?_
    refine x_bipush (v := 6) C eX23_put_36 (by decide) ?_
    refine x_ishr C eX23_put_38 ?_
    refine x_iadd C eX23_put_39 ?_
    refine x_rJ (r := x0) C hrx0 htx0 eX23_put_40 h (fun v1 h => ?_)
    refine x_lload C eX23_put_41 0 rfl ?_
    refine x_ldc2 C eX23_put_43 ww_647 ?_
    refine x_lxor C eX23_put_46 ?_
    refine x_land C eX23_put_47 ?_
    refine x_sub [] rfl ?_
    exact j_48 S0 (v1 &&& ((1 <<< (Int32.toInt64 (x2 &&& 63) &&& 63)) ^^^ (-1))) (x1 + (x2 >>> (6 &&& 31))) h
  · refine x_tload_n C eX23_put_19 rfl 1 rfl ?_
    refine x_iload_n C eX23_put_20 rfl 2 rfl ?_
    refine x_iload_n C eX23_put_21 rfl 3 rfl ?_
    refine x_bipush (v := 6) C eX23_put_22 (by decide) ?_
    refine x_ishr C eX23_put_24 ?_
    refine x_iadd C eX23_put_25 ?_
    refine x_rJ (r := x0) C hrx0 htx0 eX23_put_26 h (fun v2 h => ?_)
    refine x_lload C eX23_put_27 0 rfl ?_
    refine x_lor C eX23_put_29 ?_
    refine x_goto (tgt := 48) C eX23_put_30 (by decide) ?_
    refine x_sub [] rfl ?_
    exact j_48 S0 (v2 ||| (1 <<< (Int32.toInt64 (x2 &&& 63) &&& 63))) (x1 + (x2 >>> (6 &&& 31))) h
set_option maxRecDepth 20000 in
set_option maxHeartbeats 4000000 in
theorem k_X23_partFrom (l : Launch) (D : va_G) (K : Ky) (m9 : Nat) (mr : Nat → Nat) (S0 Sf : Sg) (x1 : Option Nat) (rf : Int32) (h : f_partFrom K S0 x1 = some (Sf, rf)) : CT l D K m9 mr yX23_partFrom (Cond.code yX23_partFrom cX23_partFrom 7 (some .int)) (82) (1964) S0 Sf [.ref m9, va_rf x1] (some (.int rf)) := by
  refine x_start (cc := cX23_partFrom) (lv := [(0, .ref m9), (1, va_rf x1)]) rfl rfl (by decide) (by simp [lv_args, cat_rf, cat_i, cat_l, cat_a]) (by simp [lg_sl, cat_rf, cat_i, cat_l, cat_a]) (fun p e R s m args below meth c Q A C => ?_)
  have j_116 : ∀ (S : Sg) (x2 : Int32) (x3 : Option Nat), f_partFrom_116 K S x2 x3 = some (Sf, rf) → WX p l e R s m args below meth c Q D A K m9 mr 7 S0 S 116 [(0, .ref m9), (2, .int x2), (3, va_rf x3)] [] := by
    intro S x2 x3 h
    unfold f_partFrom_116 at h
    refine x_tload_n C eX23_partFrom_116 rfl 0 rfl ?_
    refine x_tload_n C eX23_partFrom_117 rfl 0 rfl ?_
    refine x_aload_n C eX23_partFrom_118 rfl 2 rfl ?_
    refine x_cVi (As := [va_rf x3]) (st := [.ref m9]) (n := 1) (frc := 1 + 1 * 80) (loc := 20 + 24 * 80) C h (fun S9 r9 e9 => k_X23_partsOf l D K m9 mr 80 _ S9 x3 r9 e9) ww_641 ww_642 ww_643 ww_644 ww_16 (by decide +kernel) rfl ⟨by omega, by omega⟩ (Nat.le_of_ble_eq_true rfl) eX23_partFrom_119 (fun S20 v21 h => ?_)
    refine x_pM (k9 := 57) C (by decide) rfl (by decide) ww_649 rfl (by decide +kernel) eX23_partFrom_122 h (fun S22 h => ?_)
    refine x_iload_n C eX23_partFrom_125 rfl 1 rfl ?_
    exact x_iret C rfl rfl eX23_partFrom_126 h
  have j_21 : ∀ (n_21 : Nat) (S : Sg) (x1 : Option Nat) (x2 : Int32) (x3 : Option Nat) (x4 : Int32), f_partFrom_21 K n_21 S x1 x2 x3 x4 = some (Sf, rf) → WX p l e R s m args below meth c Q D A K m9 mr 7 S0 S 21 [(0, .ref m9), (1, va_rf x1), (2, .int x2), (3, va_rf x3), (4, .int x4)] [] := by
    intro n_21
    induction n_21 with
    | zero => intro S x1 x2 x3 x4 h; unfold f_partFrom_21 at h; cases h
    | succ n_21 ih_21 =>
      intro S x1 x2 x3 x4 h
      have j_67 : ∀ (n_67 : Nat) (S : Sg) (x1 : Option Nat) (x2 : Int32) (x4 : Int32) (x5 : Option Nat) (x6 : Int32), f_partFrom_67 K (f_partFrom_21 K n_21) n_67 S x1 x2 x4 x5 x6 = some (Sf, rf) → WX p l e R s m args below meth c Q D A K m9 mr 7 S0 S 67 [(0, .ref m9), (1, va_rf x1), (2, .int x2), (4, .int x4), (5, va_rf x5), (6, .int x6)] [] := by
        intro n_67
        induction n_67 with
        | zero => intro S x1 x2 x4 x5 x6 h; unfold f_partFrom_67 at h; cases h
        | succ n_67 ih_67 =>
          intro S x1 x2 x4 x5 x6 h
          unfold f_partFrom_67 at h
          refine x_iload C eX23_partFrom_67 5 rfl ?_
          refine x_aload_n C eX23_partFrom_69 rfl 1 rfl ?_
          refine x_gR (o9 := x1) (ci := 18) (k9 := 2) (Cn := RX18) (T := TX18) (N := 4) C rfl wt_X18 (by decide) ww_516 eX23_partFrom_70 h (fun v12 h => ?_)
          refine x_iload C eX23_partFrom_73 3 rfl ?_
          refine x_aI C eX23_partFrom_75 h (fun v13 h => ?_)
          refine x_ic_ge (tgt := 100) C eX23_partFrom_76 (by decide) h (fun h => ?_) (fun h => ?_)
          · refine x_aload_n C eX23_partFrom_100 rfl 1 rfl ?_
            refine x_gR (o9 := x1) (ci := 18) (k9 := 3) (Cn := RX18) (T := TX18) (N := 4) C rfl wt_X18 (by decide) ww_511 eX23_partFrom_101 h (fun v14 h => ?_)
            refine x_iload C eX23_partFrom_104 3 rfl ?_
            refine x_iconst (v := 1) C eX23_partFrom_106 (by decide) ?_
            refine x_iadd C eX23_partFrom_107 ?_
            refine x_aQ (t9 := 4) C rfl eX23_partFrom_108 h (fun v15 h => ?_)
            refine x_astore_n (lv2 := [(0, .ref m9), (1, va_rf x1), (2, .int x2), (4, .int x4), (5, va_rf x5), (6, .int x6)]) C eX23_partFrom_109 rfl (by decide) rfl (oky rfl (oky (cat_rf x1) (oky rfl (oky rfl (oky (cat_rf x5) (oky rfl ok0)))))) ?_
            refine x_iinc (j := 4) (v := 1) (lv2 := [(3, va_rf v15), (0, .ref m9), (1, va_rf x1), (2, .int x2), (5, va_rf x5), (6, .int x6)]) C eX23_partFrom_110 rfl (by decide) (by decide) rfl (oky (cat_rf v15) (oky rfl (oky (cat_rf x1) (oky rfl (oky (cat_rf x5) (oky rfl ok0)))))) ?_
            refine x_goto (tgt := 21) C eX23_partFrom_113 (by decide) ?_
            refine x_sub [2, 3, 4, 1, 0] rfl ?_
            exact ih_21 S x1 x2 v15 (x4 + 1) h
          · refine x_iload_n C eX23_partFrom_79 rfl 2 rfl ?_
            refine x_tload_n C eX23_partFrom_80 rfl 0 rfl ?_
            refine x_aload C eX23_partFrom_81 4 rfl ?_
            refine x_gR (o9 := x5) (ci := 16) (k9 := 10) (Cn := RX16) (T := TX16) (N := 22) C rfl wt_X16 (by decide) ww_73 eX23_partFrom_83 h (fun v16 h => ?_)
            refine x_iload C eX23_partFrom_86 5 rfl ?_
            refine x_aQ (t9 := 4) C rfl eX23_partFrom_88 h (fun v17 h => ?_)
            refine x_cVi (As := [va_rf v17]) (st := [.int x2]) (n := 1) (frc := 1 + 1 * 80) (loc := 20 + 24 * 80) C h (fun S9 r9 e9 => k_X23_partsOf l D K m9 mr 80 _ S9 v17 r9 e9) ww_641 ww_642 ww_643 ww_644 ww_16 (by decide +kernel) rfl ⟨by omega, by omega⟩ (Nat.le_of_ble_eq_true rfl) eX23_partFrom_89 (fun S18 v19 h => ?_)
            refine x_iadd C eX23_partFrom_92 ?_
            refine x_istore_n (lv2 := [(0, .ref m9), (1, va_rf x1), (4, .int x4), (5, va_rf x5), (6, .int x6)]) C eX23_partFrom_93 rfl (by decide) rfl (oky rfl (oky (cat_rf x1) (oky rfl (oky (cat_rf x5) (oky rfl ok0))))) ?_
            refine x_iinc (j := 5) (v := 1) (lv2 := [(2, .int (x2 + v19)), (0, .ref m9), (1, va_rf x1), (4, .int x4), (5, va_rf x5)]) C eX23_partFrom_94 rfl (by decide) (by decide) rfl (oky rfl (oky rfl (oky (cat_rf x1) (oky rfl (oky (cat_rf x5) ok0))))) ?_
            refine x_goto (tgt := 67) C eX23_partFrom_97 (by decide) ?_
            refine x_sub [2, 3, 1, 4, 5, 0] rfl ?_
            exact ih_67 S18 x1 (x2 + v19) x4 x5 (x6 + 1) h
      unfold f_partFrom_21 at h
      refine x_iload C eX23_partFrom_21 4 rfl ?_
      refine x_aload_n C eX23_partFrom_23 rfl 1 rfl ?_
      refine x_gI (o9 := x1) (ci := 18) (k9 := 1) (Cn := RX18) (T := TX18) (N := 4) C rfl wt_X18 (by decide) ww_535 eX23_partFrom_24 h (fun v5 h => ?_)
      refine x_ic_ge (tgt := 116) C eX23_partFrom_27 (by decide) h (fun h => ?_) (fun h => ?_)
      · refine x_sub [0, 2, 3] rfl ?_
        exact j_116 S x2 x3 h
      · refine x_aload_n C eX23_partFrom_30 rfl 1 rfl ?_
        refine x_gR (o9 := x1) (ci := 18) (k9 := 2) (Cn := RX18) (T := TX18) (N := 4) C rfl wt_X18 (by decide) ww_516 eX23_partFrom_31 h (fun v6 h => ?_)
        refine x_iload C eX23_partFrom_34 4 rfl ?_
        refine x_aI C eX23_partFrom_36 h (fun v7 h => ?_)
        refine x_if_lt (tgt := 116) C eX23_partFrom_37 (by decide) h (fun h => ?_) (fun h => ?_)
        · refine x_sub [0, 2, 3] rfl ?_
          exact j_116 S x2 x3 h
        · refine x_aload_n C eX23_partFrom_40 rfl 1 rfl ?_
          refine x_gR (o9 := x1) (ci := 18) (k9 := 2) (Cn := RX18) (T := TX18) (N := 4) C rfl wt_X18 (by decide) ww_516 eX23_partFrom_41 h (fun v8 h => ?_)
          refine x_iload C eX23_partFrom_44 4 rfl ?_
          refine x_aI C eX23_partFrom_46 h (fun v9 h => ?_)
          refine x_sipush (v := 1000) C eX23_partFrom_47 (by decide) ?_
          refine x_ic_ge (tgt := 116) C eX23_partFrom_50 (by decide) h (fun h => ?_) (fun h => ?_)
          · refine x_sub [0, 2, 3] rfl ?_
            exact j_116 S x2 x3 h
          · refine x_tload_n C eX23_partFrom_53 rfl 0 rfl ?_
            refine x_mV (k9 := 11) C (by decide) ww_114 eX23_partFrom_54 rfl ?_
            refine x_aload_n C eX23_partFrom_57 rfl 3 rfl ?_
            refine x_gI (o9 := x3) (ci := 20) (k9 := 1) (Cn := RX20) (T := TX20) (N := 4) C rfl wt_X20 (by decide) ww_248 eX23_partFrom_58 h (fun v10 h => ?_)
            refine x_rQ (r := 11) (t9 := 3) C (by decide) rfl (by decide) rfl eX23_partFrom_61 h (fun v11 h => ?_)
            refine x_astore (lv2 := [(0, .ref m9), (1, va_rf x1), (2, .int x2), (3, va_rf x3), (4, .int x4)]) C eX23_partFrom_62 (by decide) rfl (oky rfl (oky (cat_rf x1) (oky rfl (oky (cat_rf x3) (oky rfl ok0))))) ?_
            refine x_iconst (v := 0) C eX23_partFrom_64 (by decide) ?_
            refine x_istore (lv2 := [(5, va_rf v11), (0, .ref m9), (1, va_rf x1), (2, .int x2), (3, va_rf x3), (4, .int x4)]) C eX23_partFrom_65 (by decide) rfl (oky (cat_rf v11) (oky rfl (oky (cat_rf x1) (oky rfl (oky (cat_rf x3) (oky rfl ok0)))))) ?_
            refine x_sub [2, 3, 4, 6, 1, 0] rfl ?_
            exact j_67 bigN S x1 x2 x4 v11 0 h
  unfold f_partFrom at h
  refine x_bipush (v := 16) C eX23_partFrom_0 (by decide) ?_
  refine x_aload_n C eX23_partFrom_2 rfl 1 rfl ?_
  refine x_gR (o9 := x1) (ci := 18) (k9 := 0) (Cn := RX18) (T := TX18) (N := 4) C rfl wt_X18 (by decide) ww_510 eX23_partFrom_3 h (fun v1 h => ?_)
  refine x_gI (o9 := v1) (ci := 21) (k9 := 0) (Cn := RX21) (T := TX21) (N := 5) C rfl wt_X21 (by decide) ww_327 eX23_partFrom_6 h (fun v2 h => ?_)
  refine x_imul C eX23_partFrom_9 ?_
  refine x_istore_n (lv2 := [(0, .ref m9), (1, va_rf x1)]) C eX23_partFrom_10 rfl (by decide) rfl (oky rfl (oky (cat_rf x1) ok0)) ?_
  refine x_aload_n C eX23_partFrom_11 rfl 2 rfl ?_
  refine x_gR (o9 := x1) (ci := 18) (k9 := 3) (Cn := RX18) (T := TX18) (N := 4) C rfl wt_X18 (by decide) ww_511 eX23_partFrom_12 h (fun v3 h => ?_)
  refine x_iconst (v := 0) C eX23_partFrom_15 (by decide) ?_
  refine x_aQ (t9 := 4) C rfl eX23_partFrom_16 h (fun v4 h => ?_)
  refine x_astore_n (lv2 := [(2, .int (16 * v2)), (0, .ref m9), (1, va_rf x1)]) C eX23_partFrom_17 rfl (by decide) rfl (oky rfl (oky rfl (oky (cat_rf x1) ok0))) ?_
  refine x_iconst (v := 0) C eX23_partFrom_18 (by decide) ?_
  refine x_istore (lv2 := [(3, va_rf v4), (2, .int (16 * v2)), (0, .ref m9), (1, va_rf x1)]) C eX23_partFrom_19 (by decide) rfl (oky (cat_rf v4) (oky rfl (oky rfl (oky (cat_rf x1) ok0)))) ?_
  refine x_sub [3, 4, 2, 1, 0] rfl ?_
  exact j_21 bigN S0 x1 (16 * v2) v4 0 h
set_option maxRecDepth 20000 in
set_option maxHeartbeats 4000000 in
theorem k_X23_hasStar (l : Launch) (D : va_G) (K : Ky) (m9 : Nat) (mr : Nat → Nat) (S0 Sf : Sg) (x0 : Option Nat) (rf : Int32) (h : f_hasStar K S0 x0 = some (Sf, rf)) : CT l D K m9 mr yX23_hasStar (Cond.code yX23_hasStar cX23_hasStar 2 (some .boolean)) (1) (20) S0 Sf [va_rf x0] (some (.int rf)) := by
  refine x_start (cc := cX23_hasStar) (lv := [(0, va_rf x0)]) rfl rfl (by decide) (by simp [lv_args, cat_rf, cat_i, cat_l, cat_a]) (by simp [lg_sl, cat_rf, cat_i, cat_l, cat_a]) (fun p e R s m args below meth c Q A C => ?_)
  have j_2 : ∀ (n_2 : Nat) (S : Sg) (x0 : Option Nat) (x1 : Int32), f_hasStar_2 K n_2 S x0 x1 = some (Sf, rf) → WX p l e R s m args below meth c Q D A K m9 mr 2 S0 S 2 [(0, va_rf x0), (1, .int x1)] [] := by
    intro n_2
    induction n_2 with
    | zero => intro S x0 x1 h; unfold f_hasStar_2 at h; cases h
    | succ n_2 ih_2 =>
      intro S x0 x1 h
      unfold f_hasStar_2 at h
      refine x_iload_n C eX23_hasStar_2 rfl 1 rfl ?_
      refine x_aload_n C eX23_hasStar_3 rfl 0 rfl ?_
      refine x_gI (o9 := x0) (ci := 18) (k9 := 1) (Cn := RX18) (T := TX18) (N := 4) C rfl wt_X18 (by decide) ww_535 eX23_hasStar_4 h (fun v1 h => ?_)
      refine x_ic_ge (tgt := 28) C eX23_hasStar_7 (by decide) h (fun h => ?_) (fun h => ?_)
      · refine x_iconst (v := 0) C eX23_hasStar_28 (by decide) ?_
        exact x_zret C rfl rfl eX23_hasStar_29 h
      · refine x_aload_n C eX23_hasStar_10 rfl 0 rfl ?_
        refine x_gR (o9 := x0) (ci := 18) (k9 := 2) (Cn := RX18) (T := TX18) (N := 4) C rfl wt_X18 (by decide) ww_516 eX23_hasStar_11 h (fun v2 h => ?_)
        refine x_iload_n C eX23_hasStar_14 rfl 1 rfl ?_
        refine x_aI C eX23_hasStar_15 h (fun v3 h => ?_)
        refine x_iconst (v := (-1)) C eX23_hasStar_16 (by decide) ?_
        refine x_ic_ne (tgt := 22) C eX23_hasStar_17 (by decide) h (fun h => ?_) (fun h => ?_)
        · refine x_iinc (j := 1) (v := 1) (lv2 := [(0, va_rf x0)]) C eX23_hasStar_22 rfl (by decide) (by decide) rfl (oky (cat_rf x0) ok0) ?_
          refine x_goto (tgt := 2) C eX23_hasStar_25 (by decide) ?_
          refine x_sub [1, 0] rfl ?_
          exact ih_2 S x0 (x1 + 1) h
        · refine x_iconst (v := 1) C eX23_hasStar_20 (by decide) ?_
          exact x_zret C rfl rfl eX23_hasStar_21 h
  unfold f_hasStar at h
  refine x_iconst (v := 0) C eX23_hasStar_0 (by decide) ?_
  refine x_istore_n (lv2 := [(0, va_rf x0)]) C eX23_hasStar_1 rfl (by decide) rfl (oky (cat_rf x0) ok0) ?_
  refine x_sub [1, 0] rfl ?_
  exact j_2 bigN S0 x0 0 h
set_option maxRecDepth 20000 in
set_option maxHeartbeats 4000000 in
theorem k_X23_mark (l : Launch) (D : va_G) (K : Ky) (m9 : Nat) (mr : Nat → Nat) (S0 Sf : Sg) (x1 : Int32) (x2 : Int32) (x3 : Int32) (x4 : Int32) (rf : Unit) (h : f_mark K S0 x1 x2 x3 x4 = some (Sf, rf)) : CT l D K m9 mr yX23_mark (Cond.code yX23_mark cX23_mark 6 none) (2) (45) S0 Sf [.ref m9, .int x1, .int x2, .int x3, .int x4] none := by
  refine x_start (cc := cX23_mark) (lv := [(0, .ref m9), (1, .int x1), (2, .int x2), (3, .int x3), (4, .int x4)]) rfl rfl (by decide) (by simp [lv_args, cat_rf, cat_i, cat_l, cat_a]) (by simp [lg_sl, cat_rf, cat_i, cat_l, cat_a]) (fun p e R s m args below meth c Q A C => ?_)
  have j_3 : ∀ (n_3 : Nat) (S : Sg) (x1 : Int32) (x2 : Int32) (x3 : Int32) (x4 : Int32) (x5 : Int32), f_mark_3 K n_3 S x1 x2 x3 x4 x5 = some (Sf, rf) → WX p l e R s m args below meth c Q D A K m9 mr 6 S0 S 3 [(0, .ref m9), (1, .int x1), (2, .int x2), (3, .int x3), (4, .int x4), (5, .int x5)] [] := by
    intro n_3
    induction n_3 with
    | zero => intro S x1 x2 x3 x4 x5 h; unfold f_mark_3 at h; cases h
    | succ n_3 ih_3 =>
      intro S x1 x2 x3 x4 x5 h
      unfold f_mark_3 at h
      refine x_iload C eX23_mark_3 5 rfl ?_
      refine x_iload_n C eX23_mark_5 rfl 1 rfl ?_
      refine x_iload_n C eX23_mark_6 rfl 2 rfl ?_
      refine x_iadd C eX23_mark_7 ?_
      refine x_ic_ge (tgt := 40) C eX23_mark_8 (by decide) h (fun h => ?_) (fun h => ?_)
      · exact x_vret C rfl rfl eX23_mark_40 h
      · refine x_tload_n C eX23_mark_11 rfl 0 rfl ?_
        refine x_mV (k9 := 56) C (by decide) ww_652 eX23_mark_12 rfl ?_
        refine x_iconst (v := 0) C eX23_mark_15 (by decide) ?_
        refine x_iload C eX23_mark_16 5 rfl ?_
        refine x_iload_n C eX23_mark_18 rfl 3 rfl ?_
        refine x_cSv (As := [.ref (mr 56), .int 0, .int x5, .int x3]) (st := []) (n := 4) (frc := 1) (loc := 20) C h (fun S9 r9 e9 => k_X23_put l D K m9 mr _ S9 56 0 x5 x3 r9 (by decide) rfl e9) ww_646 ww_653 ww_654 ww_16 (by decide +kernel) rfl ⟨by omega, by omega⟩ (Nat.le_of_ble_eq_true rfl) eX23_mark_19 (fun S1 v2 h => ?_)
        refine x_tload_n C eX23_mark_22 rfl 0 rfl ?_
        refine x_mV (k9 := 55) C (by decide) ww_655 eX23_mark_23 rfl ?_
        refine x_iconst (v := 0) C eX23_mark_26 (by decide) ?_
        refine x_iload C eX23_mark_27 5 rfl ?_
        refine x_iload C eX23_mark_29 4 rfl ?_
        refine x_cSv (As := [.ref (mr 55), .int 0, .int x5, .int x4]) (st := []) (n := 4) (frc := 1) (loc := 20) C h (fun S9 r9 e9 => k_X23_put l D K m9 mr _ S9 55 0 x5 x4 r9 (by decide) rfl e9) ww_646 ww_653 ww_654 ww_16 (by decide +kernel) rfl ⟨by omega, by omega⟩ (Nat.le_of_ble_eq_true rfl) eX23_mark_31 (fun S3 v4 h => ?_)
        refine x_iinc (j := 5) (v := 1) (lv2 := [(0, .ref m9), (1, .int x1), (2, .int x2), (3, .int x3), (4, .int x4)]) C eX23_mark_34 rfl (by decide) (by decide) rfl (oky rfl (oky rfl (oky rfl (oky rfl (oky rfl ok0))))) ?_
        refine x_goto (tgt := 3) C eX23_mark_37 (by decide) ?_
        refine x_sub [1, 2, 3, 4, 5, 0] rfl ?_
        exact ih_3 S3 x1 x2 x3 x4 (x5 + 1) h
  unfold f_mark at h
  refine x_iload_n C eX23_mark_0 rfl 1 rfl ?_
  refine x_istore (lv2 := [(0, .ref m9), (1, .int x1), (2, .int x2), (3, .int x3), (4, .int x4)]) C eX23_mark_1 (by decide) rfl (oky rfl (oky rfl (oky rfl (oky rfl (oky rfl ok0))))) ?_
  refine x_sub [1, 2, 3, 4, 5, 0] rfl ?_
  exact j_3 bigN S0 x1 x2 x3 x4 x1 h
set_option maxRecDepth 20000 in
set_option maxHeartbeats 4000000 in
theorem k_X23_moveBehind (l : Launch) (D : va_G) (K : Ky) (m9 : Nat) (mr : Nat → Nat) (S0 Sf : Sg) (x1 : Int32) (rf : Unit) (h : f_moveBehind K S0 x1 = some (Sf, rf)) : CT l D K m9 mr yX23_moveBehind (Cond.code yX23_moveBehind cX23_moveBehind 3 none) (83) (1990) S0 Sf [.ref m9, .int x1] none := by
  refine x_start (cc := cX23_moveBehind) (lv := [(0, .ref m9), (1, .int x1)]) rfl rfl (by decide) (by simp [lv_args, cat_rf, cat_i, cat_l, cat_a]) (by simp [lg_sl, cat_rf, cat_i, cat_l, cat_a]) (fun p e R s m args below meth c Q A C => ?_)
  have j_360 : ∀ (S : Sg), f_moveBehind_360 K S = some (Sf, rf) → WX p l e R s m args below meth c Q D A K m9 mr 3 S0 S 360 [] [] := by
    intro S h
    unfold f_moveBehind_360 at h
    exact x_vret C rfl rfl eX23_moveBehind_360 h
  have j_180 : ∀ (S : Sg) (x1 : Int32), f_moveBehind_180 K S x1 = some (Sf, rf) → WX p l e R s m args below meth c Q D A K m9 mr 3 S0 S 180 [(0, .ref m9), (1, .int x1)] [] := by
    intro S x1 h
    unfold f_moveBehind_180 at h
    refine x_tload_n C eX23_moveBehind_180 rfl 0 rfl ?_
    refine x_tload_n C eX23_moveBehind_181 rfl 0 rfl ?_
    refine x_mV (k9 := 38) C (by decide) ww_496 eX23_moveBehind_182 rfl ?_
    refine x_iload_n C eX23_moveBehind_185 rfl 1 rfl ?_
    refine x_rQ (r := 38) (t9 := 6) C (by decide) rfl (by decide) rfl eX23_moveBehind_186 h (fun v36 h => ?_)
    refine x_cVi (As := [va_rf v36]) (st := []) (n := 1) (frc := 82) (loc := 1964) C h (fun S9 r9 e9 => k_X23_partFrom l D K m9 mr _ S9 v36 r9 e9) ww_648 ww_659 ww_660 ww_661 ww_16 (by decide +kernel) rfl ⟨by omega, by omega⟩ (Nat.le_of_ble_eq_true rfl) eX23_moveBehind_187 (fun S37 v38 h => ?_)
    refine x_istore_n (lv2 := [(0, .ref m9), (1, .int x1)]) C eX23_moveBehind_190 rfl (by decide) rfl (oky rfl (oky rfl ok0)) ?_
    refine x_tload_n C eX23_moveBehind_191 rfl 1 rfl ?_
    refine x_iload_n C eX23_moveBehind_192 rfl 0 rfl ?_
    refine x_tload_n C eX23_moveBehind_193 rfl 1 rfl ?_
    refine x_mV (k9 := 57) C (by decide) ww_649 eX23_moveBehind_194 rfl ?_
    refine x_iconst (v := 0) C eX23_moveBehind_197 (by decide) ?_
    refine x_iconst (v := 1) C eX23_moveBehind_198 (by decide) ?_
    refine x_cVv (As := [.int v38, .int (Zi S37 57), .int 0, .int 1]) (st := []) (n := 4) (frc := 2) (loc := 45) C h (fun S9 r9 e9 => k_X23_mark l D K m9 mr _ S9 v38 (Zi S37 57) 0 1 r9 e9) ww_651 ww_662 ww_663 ww_664 ww_16 (by decide +kernel) rfl ⟨by omega, by omega⟩ (Nat.le_of_ble_eq_true rfl) eX23_moveBehind_199 (fun S39 v40 h => ?_)
    refine x_goto (tgt := 360) C eX23_moveBehind_202 (by decide) ?_
    refine x_sub [] rfl ?_
    exact j_360 S39 h
  have j_205 : ∀ (S : Sg) (x1 : Int32), f_moveBehind_205 K S x1 = some (Sf, rf) → WX p l e R s m args below meth c Q D A K m9 mr 3 S0 S 205 [(0, .ref m9), (1, .int x1)] [] := by
    intro S x1 h
    unfold f_moveBehind_205 at h
    refine x_tload_n C eX23_moveBehind_205 rfl 0 rfl ?_
    refine x_bipush (v := 16) C eX23_moveBehind_206 (by decide) ?_
    refine x_tload_n C eX23_moveBehind_208 rfl 0 rfl ?_
    refine x_mV (k9 := 40) C (by decide) ww_498 eX23_moveBehind_209 rfl ?_
    refine x_iload_n C eX23_moveBehind_212 rfl 1 rfl ?_
    refine x_rQ (r := 40) (t9 := 5) C (by decide) rfl (by decide) rfl eX23_moveBehind_213 h (fun v32 h => ?_)
    refine x_gI (o9 := v32) (ci := 21) (k9 := 0) (Cn := RX21) (T := TX21) (N := 5) C rfl wt_X21 (by decide) ww_327 eX23_moveBehind_214 h (fun v33 h => ?_)
    refine x_imul C eX23_moveBehind_217 ?_
    refine x_bipush (v := 16) C eX23_moveBehind_218 (by decide) ?_
    refine x_iconst (v := 1) C eX23_moveBehind_220 (by decide) ?_
    refine x_iconst (v := 0) C eX23_moveBehind_221 (by decide) ?_
    refine x_cVv (As := [.int (16 * v33), .int 16, .int 1, .int 0]) (st := []) (n := 4) (frc := 2) (loc := 45) C h (fun S9 r9 e9 => k_X23_mark l D K m9 mr _ S9 (16 * v33) 16 1 0 r9 e9) ww_651 ww_662 ww_663 ww_664 ww_16 (by decide +kernel) rfl ⟨by omega, by omega⟩ (Nat.le_of_ble_eq_true rfl) eX23_moveBehind_222 (fun S34 v35 h => ?_)
    refine x_goto (tgt := 360) C eX23_moveBehind_225 (by decide) ?_
    refine x_sub [] rfl ?_
    exact j_360 S34 h
  have j_276 : ∀ (n_276 : Nat) (S : Sg) (x1 : Int32) (x2 : Int32), f_moveBehind_276 K n_276 S x1 x2 = some (Sf, rf) → WX p l e R s m args below meth c Q D A K m9 mr 3 S0 S 276 [(0, .ref m9), (1, .int x1), (2, .int x2)] [] := by
    intro n_276
    induction n_276 with
    | zero => intro S x1 x2 h; unfold f_moveBehind_276 at h; cases h
    | succ n_276 ih_276 =>
      intro S x1 x2 h
      unfold f_moveBehind_276 at h
      refine x_iload_n C eX23_moveBehind_276 rfl 2 rfl ?_
      refine x_tload_n C eX23_moveBehind_277 rfl 0 rfl ?_
      refine x_mV (k9 := 41) C (by decide) ww_499 eX23_moveBehind_278 rfl ?_
      refine x_iload_n C eX23_moveBehind_281 rfl 1 rfl ?_
      refine x_rQ (r := 41) (t9 := 7) C (by decide) rfl (by decide) rfl eX23_moveBehind_282 h (fun v24 h => ?_)
      refine x_gI (o9 := v24) (ci := 13) (k9 := 3) (Cn := RX13) (T := TX13) (N := 6) C rfl wt_X13 (by decide) ww_187 eX23_moveBehind_283 h (fun v25 h => ?_)
      refine x_ic_ge (tgt := 320) C eX23_moveBehind_286 (by decide) h (fun h => ?_) (fun h => ?_)
      · refine x_goto (tgt := 360) C eX23_moveBehind_320 (by decide) ?_
        refine x_sub [] rfl ?_
        exact j_360 S h
      · refine x_tload_n C eX23_moveBehind_289 rfl 0 rfl ?_
        refine x_bipush (v := 16) C eX23_moveBehind_290 (by decide) ?_
        refine x_tload_n C eX23_moveBehind_292 rfl 0 rfl ?_
        refine x_mV (k9 := 41) C (by decide) ww_499 eX23_moveBehind_293 rfl ?_
        refine x_iload_n C eX23_moveBehind_296 rfl 1 rfl ?_
        refine x_rQ (r := 41) (t9 := 7) C (by decide) rfl (by decide) rfl eX23_moveBehind_297 h (fun v26 h => ?_)
        refine x_gR (o9 := v26) (ci := 13) (k9 := 4) (Cn := RX13) (T := TX13) (N := 6) C rfl wt_X13 (by decide) ww_454 eX23_moveBehind_298 h (fun v27 h => ?_)
        refine x_iload_n C eX23_moveBehind_301 rfl 2 rfl ?_
        refine x_aQ (t9 := 5) C rfl eX23_moveBehind_302 h (fun v28 h => ?_)
        refine x_gI (o9 := v28) (ci := 21) (k9 := 0) (Cn := RX21) (T := TX21) (N := 5) C rfl wt_X21 (by decide) ww_327 eX23_moveBehind_303 h (fun v29 h => ?_)
        refine x_imul C eX23_moveBehind_306 ?_
        refine x_bipush (v := 16) C eX23_moveBehind_307 (by decide) ?_
        refine x_iconst (v := 1) C eX23_moveBehind_309 (by decide) ?_
        refine x_iconst (v := 0) C eX23_moveBehind_310 (by decide) ?_
        refine x_cVv (As := [.int (16 * v29), .int 16, .int 1, .int 0]) (st := []) (n := 4) (frc := 2) (loc := 45) C h (fun S9 r9 e9 => k_X23_mark l D K m9 mr _ S9 (16 * v29) 16 1 0 r9 e9) ww_651 ww_662 ww_663 ww_664 ww_16 (by decide +kernel) rfl ⟨by omega, by omega⟩ (Nat.le_of_ble_eq_true rfl) eX23_moveBehind_311 (fun S30 v31 h => ?_)
        refine x_iinc (j := 2) (v := 1) (lv2 := [(0, .ref m9), (1, .int x1)]) C eX23_moveBehind_314 rfl (by decide) (by decide) rfl (oky rfl (oky rfl ok0)) ?_
        refine x_goto (tgt := 276) C eX23_moveBehind_317 (by decide) ?_
        refine x_sub [1, 2, 0] rfl ?_
        exact ih_276 S30 x1 (x2 + 1) h
  have j_2 : ∀ (n_2 : Nat) (S : Sg) (x1 : Int32) (x2 : Int32), f_moveBehind_2 K n_2 S x1 x2 = some (Sf, rf) → WX p l e R s m args below meth c Q D A K m9 mr 3 S0 S 2 [(0, .ref m9), (1, .int x1), (2, .int x2)] [] := by
    intro n_2
    induction n_2 with
    | zero => intro S x1 x2 h; unfold f_moveBehind_2 at h; cases h
    | succ n_2 ih_2 =>
      intro S x1 x2 h
      unfold f_moveBehind_2 at h
      refine x_iload_n C eX23_moveBehind_2 rfl 2 rfl ?_
      refine x_bipush (v := 10) C eX23_moveBehind_3 (by decide) ?_
      refine x_ic_ge (tgt := 48) C eX23_moveBehind_5 (by decide) h (fun h => ?_) (fun h => ?_)
      · refine x_tload_n C eX23_moveBehind_48 rfl 0 rfl ?_
        refine x_mV (k9 := 27) C (by decide) ww_485 eX23_moveBehind_49 rfl ?_
        refine x_iload_n C eX23_moveBehind_52 rfl 1 rfl ?_
        refine x_rI (r := 27) C (by decide) rfl eX23_moveBehind_53 h (fun v1 h => ?_)
        refine x_tabIn (v := 2) (tgt := 160) C eX23_moveBehind_54 (by decide) (by decide) rfl (by decide) h (fun h => ?_) (fun hq0 h => ?_)
        · refine x_tload_n C eX23_moveBehind_160 rfl 0 rfl ?_
          refine x_mV (k9 := 33) C (by decide) ww_491 eX23_moveBehind_161 rfl ?_
          refine x_iload_n C eX23_moveBehind_164 rfl 1 rfl ?_
          refine x_rI (r := 33) C (by decide) rfl eX23_moveBehind_165 h (fun v2 h => ?_)
          refine x_iconst (v := 4) C eX23_moveBehind_166 (by decide) ?_
          refine x_ic_eq (tgt := 180) C eX23_moveBehind_167 (by decide) h (fun h => ?_) (fun h => ?_)
          · refine x_sub [0, 1] rfl ?_
            exact j_180 S x1 h
          · refine x_tload_n C eX23_moveBehind_170 rfl 0 rfl ?_
            refine x_mV (k9 := 33) C (by decide) ww_491 eX23_moveBehind_171 rfl ?_
            refine x_iload_n C eX23_moveBehind_174 rfl 1 rfl ?_
            refine x_rI (r := 33) C (by decide) rfl eX23_moveBehind_175 h (fun v3 h => ?_)
            refine x_iconst (v := 5) C eX23_moveBehind_176 (by decide) ?_
            refine x_ic_ne (tgt := 360) C eX23_moveBehind_177 (by decide) h (fun h => ?_) (fun h => ?_)
            · refine x_sub [] rfl ?_
              exact j_360 S h
            · refine x_sub [0, 1] rfl ?_
              exact j_180 S x1 h
        · refine x_tabIn (v := 3) (tgt := 360) C eX23_moveBehind_54 (by decide) (by decide) rfl (by decide) h (fun h => ?_) (fun hq1 h => ?_)
          · refine x_sub [] rfl ?_
            exact j_360 S h
          · refine x_tabIn (v := 4) (tgt := 360) C eX23_moveBehind_54 (by decide) (by decide) rfl (by decide) h (fun h => ?_) (fun hq2 h => ?_)
            · refine x_sub [] rfl ?_
              exact j_360 S h
            · refine x_tabIn (v := 5) (tgt := 360) C eX23_moveBehind_54 (by decide) (by decide) rfl (by decide) h (fun h => ?_) (fun hq3 h => ?_)
              · refine x_sub [] rfl ?_
                exact j_360 S h
              · refine x_tabIn (v := 6) (tgt := 360) C eX23_moveBehind_54 (by decide) (by decide) rfl (by decide) h (fun h => ?_) (fun hq4 h => ?_)
                · refine x_sub [] rfl ?_
                  exact j_360 S h
                · refine x_tabIn (v := 7) (tgt := 360) C eX23_moveBehind_54 (by decide) (by decide) rfl (by decide) h (fun h => ?_) (fun hq5 h => ?_)
                  · refine x_sub [] rfl ?_
                    exact j_360 S h
                  · refine x_tabIn (v := 8) (tgt := 360) C eX23_moveBehind_54 (by decide) (by decide) rfl (by decide) h (fun h => ?_) (fun hq6 h => ?_)
                    · refine x_sub [] rfl ?_
                      exact j_360 S h
                    · refine x_tabIn (v := 9) (tgt := 360) C eX23_moveBehind_54 (by decide) (by decide) rfl (by decide) h (fun h => ?_) (fun hq7 h => ?_)
                      · refine x_sub [] rfl ?_
                        exact j_360 S h
                      · refine x_tabIn (v := 10) (tgt := 360) C eX23_moveBehind_54 (by decide) (by decide) rfl (by decide) h (fun h => ?_) (fun hq8 h => ?_)
                        · refine x_sub [] rfl ?_
                          exact j_360 S h
                        · refine x_tabIn (v := 11) (tgt := 360) C eX23_moveBehind_54 (by decide) (by decide) rfl (by decide) h (fun h => ?_) (fun hq9 h => ?_)
                          · refine x_sub [] rfl ?_
                            exact j_360 S h
                          · refine x_tabIn (v := 12) (tgt := 205) C eX23_moveBehind_54 (by decide) (by decide) rfl (by decide) h (fun h => ?_) (fun hq10 h => ?_)
                            · refine x_sub [0, 1] rfl ?_
                              exact j_205 S x1 h
                            · refine x_tabIn (v := 13) (tgt := 228) C eX23_moveBehind_54 (by decide) (by decide) rfl (by decide) h (fun h => ?_) (fun hq11 h => ?_)
                              · refine x_tload_n C eX23_moveBehind_228 rfl 0 rfl ?_
                                refine x_bipush (v := 16) C eX23_moveBehind_229 (by decide) ?_
                                refine x_tload_n C eX23_moveBehind_231 rfl 0 rfl ?_
                                refine x_mV (k9 := 40) C (by decide) ww_498 eX23_moveBehind_232 rfl ?_
                                refine x_iload_n C eX23_moveBehind_235 rfl 1 rfl ?_
                                refine x_rQ (r := 40) (t9 := 5) C (by decide) rfl (by decide) rfl eX23_moveBehind_236 h (fun v4 h => ?_)
                                refine x_gI (o9 := v4) (ci := 21) (k9 := 0) (Cn := RX21) (T := TX21) (N := 5) C rfl wt_X21 (by decide) ww_327 eX23_moveBehind_237 h (fun v5 h => ?_)
                                refine x_imul C eX23_moveBehind_240 ?_
                                refine x_bipush (v := 16) C eX23_moveBehind_241 (by decide) ?_
                                refine x_iconst (v := 0) C eX23_moveBehind_243 (by decide) ?_
                                refine x_iconst (v := 1) C eX23_moveBehind_244 (by decide) ?_
                                refine x_cVv (As := [.int (16 * v5), .int 16, .int 0, .int 1]) (st := []) (n := 4) (frc := 2) (loc := 45) C h (fun S9 r9 e9 => k_X23_mark l D K m9 mr _ S9 (16 * v5) 16 0 1 r9 e9) ww_651 ww_662 ww_663 ww_664 ww_16 (by decide +kernel) rfl ⟨by omega, by omega⟩ (Nat.le_of_ble_eq_true rfl) eX23_moveBehind_245 (fun S6 v7 h => ?_)
                                refine x_goto (tgt := 360) C eX23_moveBehind_248 (by decide) ?_
                                refine x_sub [] rfl ?_
                                exact j_360 S6 h
                              · refine x_tabIn (v := 14) (tgt := 323) C eX23_moveBehind_54 (by decide) (by decide) rfl (by decide) h (fun h => ?_) (fun hq12 h => ?_)
                                · refine x_tload_n C eX23_moveBehind_323 rfl 0 rfl ?_
                                  refine x_mV (k9 := 38) C (by decide) ww_496 eX23_moveBehind_324 rfl ?_
                                  refine x_iload_n C eX23_moveBehind_327 rfl 1 rfl ?_
                                  refine x_rQ (r := 38) (t9 := 6) C (by decide) rfl (by decide) rfl eX23_moveBehind_328 h (fun v8 h => ?_)
                                  refine x_cSi (As := [va_rf v8]) (st := []) (n := 1) (frc := 1) (loc := 20) C h (fun S9 r9 e9 => k_X23_hasStar l D K m9 mr _ S9 v8 r9 e9) ww_650 ww_665 ww_666 ww_16 (by decide +kernel) rfl ⟨by omega, by omega⟩ (Nat.le_of_ble_eq_true rfl) eX23_moveBehind_329 (fun S9 v10 h => ?_)
                                  refine x_if_ne (tgt := 360) C eX23_moveBehind_332 (by decide) h (fun h => ?_) (fun h => ?_)
                                  · refine x_sub [] rfl ?_
                                    exact j_360 S9 h
                                  · refine x_tload_n C eX23_moveBehind_335 rfl 0 rfl ?_
                                    refine x_tload_n C eX23_moveBehind_336 rfl 0 rfl ?_
                                    refine x_mV (k9 := 38) C (by decide) ww_496 eX23_moveBehind_337 rfl ?_
                                    refine x_iload_n C eX23_moveBehind_340 rfl 1 rfl ?_
                                    refine x_rQ (r := 38) (t9 := 6) C (by decide) rfl (by decide) rfl eX23_moveBehind_341 h (fun v11 h => ?_)
                                    refine x_cVi (As := [va_rf v11]) (st := []) (n := 1) (frc := 82) (loc := 1964) C h (fun S9 r9 e9 => k_X23_partFrom l D K m9 mr _ S9 v11 r9 e9) ww_648 ww_659 ww_660 ww_661 ww_16 (by decide +kernel) rfl ⟨by omega, by omega⟩ (Nat.le_of_ble_eq_true rfl) eX23_moveBehind_342 (fun S12 v13 h => ?_)
                                    refine x_istore_n (lv2 := [(0, .ref m9), (1, .int x1)]) C eX23_moveBehind_345 rfl (by decide) rfl (oky rfl (oky rfl ok0)) ?_
                                    refine x_tload_n C eX23_moveBehind_346 rfl 1 rfl ?_
                                    refine x_iload_n C eX23_moveBehind_347 rfl 0 rfl ?_
                                    refine x_tload_n C eX23_moveBehind_348 rfl 1 rfl ?_
                                    refine x_mV (k9 := 57) C (by decide) ww_649 eX23_moveBehind_349 rfl ?_
                                    refine x_iconst (v := 1) C eX23_moveBehind_352 (by decide) ?_
                                    refine x_iconst (v := 0) C eX23_moveBehind_353 (by decide) ?_
                                    refine x_cVv (As := [.int v13, .int (Zi S12 57), .int 1, .int 0]) (st := []) (n := 4) (frc := 2) (loc := 45) C h (fun S9 r9 e9 => k_X23_mark l D K m9 mr _ S9 v13 (Zi S12 57) 1 0 r9 e9) ww_651 ww_662 ww_663 ww_664 ww_16 (by decide +kernel) rfl ⟨by omega, by omega⟩ (Nat.le_of_ble_eq_true rfl) eX23_moveBehind_354 (fun S14 v15 h => ?_)
                                    refine x_goto (tgt := 360) C eX23_moveBehind_357 (by decide) ?_
                                    refine x_sub [] rfl ?_
                                    exact j_360 S14 h
                                · refine x_tabIn (v := 15) (tgt := 360) C eX23_moveBehind_54 (by decide) (by decide) rfl (by decide) h (fun h => ?_) (fun hq13 h => ?_)
                                  · refine x_sub [] rfl ?_
                                    exact j_360 S h
                                  · refine x_tabIn (v := 16) (tgt := 360) C eX23_moveBehind_54 (by decide) (by decide) rfl (by decide) h (fun h => ?_) (fun hq14 h => ?_)
                                    · refine x_sub [] rfl ?_
                                      exact j_360 S h
                                    · refine x_tabIn (v := 17) (tgt := 360) C eX23_moveBehind_54 (by decide) (by decide) rfl (by decide) h (fun h => ?_) (fun hq15 h => ?_)
                                      · refine x_sub [] rfl ?_
                                        exact j_360 S h
                                      · refine x_tabIn (v := 18) (tgt := 360) C eX23_moveBehind_54 (by decide) (by decide) rfl (by decide) h (fun h => ?_) (fun hq16 h => ?_)
                                        · refine x_sub [] rfl ?_
                                          exact j_360 S h
                                        · refine x_tabIn (v := 19) (tgt := 360) C eX23_moveBehind_54 (by decide) (by decide) rfl (by decide) h (fun h => ?_) (fun hq17 h => ?_)
                                          · refine x_sub [] rfl ?_
                                            exact j_360 S h
                                          · refine x_tabIn (v := 20) (tgt := 360) C eX23_moveBehind_54 (by decide) (by decide) rfl (by decide) h (fun h => ?_) (fun hq18 h => ?_)
                                            · refine x_sub [] rfl ?_
                                              exact j_360 S h
                                            · refine x_tabIn (v := 21) (tgt := 360) C eX23_moveBehind_54 (by decide) (by decide) rfl (by decide) h (fun h => ?_) (fun hq19 h => ?_)
                                              · refine x_sub [] rfl ?_
                                                exact j_360 S h
                                              · refine x_tabIn (v := 22) (tgt := 274) C eX23_moveBehind_54 (by decide) (by decide) rfl (by decide) h (fun h => ?_) (fun hq20 h => ?_)
                                                · refine x_iconst (v := 0) C eX23_moveBehind_274 (by decide) ?_
                                                  refine x_istore_n (lv2 := [(0, .ref m9), (1, .int x1)]) C eX23_moveBehind_275 rfl (by decide) rfl (oky rfl (oky rfl ok0)) ?_
                                                  refine x_sub [1, 2, 0] rfl ?_
                                                  exact j_276 bigN S x1 0 h
                                                · refine x_tabIn (v := 23) (tgt := 205) C eX23_moveBehind_54 (by decide) (by decide) rfl (by decide) h (fun h => ?_) (fun hq21 h => ?_)
                                                  · refine x_sub [0, 1] rfl ?_
                                                    exact j_205 S x1 h
                                                  · refine x_tabIn (v := 24) (tgt := 251) C eX23_moveBehind_54 (by decide) (by decide) rfl (by decide) h (fun h => ?_) (fun hq22 h => ?_)
                                                    · refine x_tload_n C eX23_moveBehind_251 rfl 0 rfl ?_
                                                      refine x_bipush (v := 16) C eX23_moveBehind_252 (by decide) ?_
                                                      refine x_tload_n C eX23_moveBehind_254 rfl 0 rfl ?_
                                                      refine x_mV (k9 := 40) C (by decide) ww_498 eX23_moveBehind_255 rfl ?_
                                                      refine x_iload_n C eX23_moveBehind_258 rfl 1 rfl ?_
                                                      refine x_rQ (r := 40) (t9 := 5) C (by decide) rfl (by decide) rfl eX23_moveBehind_259 h (fun v16 h => ?_)
                                                      refine x_gI (o9 := v16) (ci := 21) (k9 := 0) (Cn := RX21) (T := TX21) (N := 5) C rfl wt_X21 (by decide) ww_327 eX23_moveBehind_260 h (fun v17 h => ?_)
                                                      refine x_imul C eX23_moveBehind_263 ?_
                                                      refine x_bipush (v := 16) C eX23_moveBehind_264 (by decide) ?_
                                                      refine x_iconst (v := 0) C eX23_moveBehind_266 (by decide) ?_
                                                      refine x_iconst (v := 0) C eX23_moveBehind_267 (by decide) ?_
                                                      refine x_cVv (As := [.int (16 * v17), .int 16, .int 0, .int 0]) (st := []) (n := 4) (frc := 2) (loc := 45) C h (fun S9 r9 e9 => k_X23_mark l D K m9 mr _ S9 (16 * v17) 16 0 0 r9 e9) ww_651 ww_662 ww_663 ww_664 ww_16 (by decide +kernel) rfl ⟨by omega, by omega⟩ (Nat.le_of_ble_eq_true rfl) eX23_moveBehind_268 (fun S18 v19 h => ?_)
                                                      refine x_goto (tgt := 360) C eX23_moveBehind_271 (by decide) ?_
                                                      refine x_sub [] rfl ?_
                                                      exact j_360 S18 h
                                                    · have hq0i : (v1 : Int32).toInt ≠ 2 := fun q9 => hq0 (Int32.toInt_inj.mp q9)
                                                      have hq1i : (v1 : Int32).toInt ≠ 3 := fun q9 => hq1 (Int32.toInt_inj.mp q9)
                                                      have hq2i : (v1 : Int32).toInt ≠ 4 := fun q9 => hq2 (Int32.toInt_inj.mp q9)
                                                      have hq3i : (v1 : Int32).toInt ≠ 5 := fun q9 => hq3 (Int32.toInt_inj.mp q9)
                                                      have hq4i : (v1 : Int32).toInt ≠ 6 := fun q9 => hq4 (Int32.toInt_inj.mp q9)
                                                      have hq5i : (v1 : Int32).toInt ≠ 7 := fun q9 => hq5 (Int32.toInt_inj.mp q9)
                                                      have hq6i : (v1 : Int32).toInt ≠ 8 := fun q9 => hq6 (Int32.toInt_inj.mp q9)
                                                      have hq7i : (v1 : Int32).toInt ≠ 9 := fun q9 => hq7 (Int32.toInt_inj.mp q9)
                                                      have hq8i : (v1 : Int32).toInt ≠ 10 := fun q9 => hq8 (Int32.toInt_inj.mp q9)
                                                      have hq9i : (v1 : Int32).toInt ≠ 11 := fun q9 => hq9 (Int32.toInt_inj.mp q9)
                                                      have hq10i : (v1 : Int32).toInt ≠ 12 := fun q9 => hq10 (Int32.toInt_inj.mp q9)
                                                      have hq11i : (v1 : Int32).toInt ≠ 13 := fun q9 => hq11 (Int32.toInt_inj.mp q9)
                                                      have hq12i : (v1 : Int32).toInt ≠ 14 := fun q9 => hq12 (Int32.toInt_inj.mp q9)
                                                      have hq13i : (v1 : Int32).toInt ≠ 15 := fun q9 => hq13 (Int32.toInt_inj.mp q9)
                                                      have hq14i : (v1 : Int32).toInt ≠ 16 := fun q9 => hq14 (Int32.toInt_inj.mp q9)
                                                      have hq15i : (v1 : Int32).toInt ≠ 17 := fun q9 => hq15 (Int32.toInt_inj.mp q9)
                                                      have hq16i : (v1 : Int32).toInt ≠ 18 := fun q9 => hq16 (Int32.toInt_inj.mp q9)
                                                      have hq17i : (v1 : Int32).toInt ≠ 19 := fun q9 => hq17 (Int32.toInt_inj.mp q9)
                                                      have hq18i : (v1 : Int32).toInt ≠ 20 := fun q9 => hq18 (Int32.toInt_inj.mp q9)
                                                      have hq19i : (v1 : Int32).toInt ≠ 21 := fun q9 => hq19 (Int32.toInt_inj.mp q9)
                                                      have hq20i : (v1 : Int32).toInt ≠ 22 := fun q9 => hq20 (Int32.toInt_inj.mp q9)
                                                      have hq21i : (v1 : Int32).toInt ≠ 23 := fun q9 => hq21 (Int32.toInt_inj.mp q9)
                                                      have hq22i : (v1 : Int32).toInt ≠ 24 := fun q9 => hq22 (Int32.toInt_inj.mp q9)
                                                      refine x_tabOut (tgt := 360) C eX23_moveBehind_54 (by omega) (by decide) ?_
                                                      refine x_sub [] rfl ?_
                                                      exact j_360 S h
      · refine x_tload_n C eX23_moveBehind_8 rfl 0 rfl ?_
        refine x_mV (k9 := 55) C (by decide) ww_655 eX23_moveBehind_9 rfl ?_
        refine x_iload_n C eX23_moveBehind_12 rfl 2 rfl ?_
        refine x_tload_n C eX23_moveBehind_13 rfl 0 rfl ?_
        refine x_mV (k9 := 53) C (by decide) ww_657 eX23_moveBehind_14 rfl ?_
        refine x_bipush (v := 10) C eX23_moveBehind_17 (by decide) ?_
        refine x_iload_n C eX23_moveBehind_19 rfl 1 rfl ?_
        refine x_imul C eX23_moveBehind_20 ?_
        refine x_iload_n C eX23_moveBehind_21 rfl 2 rfl ?_
        refine x_iadd C eX23_moveBehind_22 ?_
        refine x_rJ (r := 53) C (by decide) rfl eX23_moveBehind_23 h (fun v20 h => ?_)
        refine x_wJ (r := 55) C (by decide) rfl eX23_moveBehind_24 h (fun S21 h => ?_)
        refine x_tload_n C eX23_moveBehind_25 rfl 0 rfl ?_
        refine x_mV (k9 := 56) C (by decide) ww_652 eX23_moveBehind_26 rfl ?_
        refine x_iload_n C eX23_moveBehind_29 rfl 2 rfl ?_
        refine x_tload_n C eX23_moveBehind_30 rfl 0 rfl ?_
        refine x_mV (k9 := 54) C (by decide) ww_658 eX23_moveBehind_31 rfl ?_
        refine x_bipush (v := 10) C eX23_moveBehind_34 (by decide) ?_
        refine x_iload_n C eX23_moveBehind_36 rfl 1 rfl ?_
        refine x_imul C eX23_moveBehind_37 ?_
        refine x_iload_n C eX23_moveBehind_38 rfl 2 rfl ?_
        refine x_iadd C eX23_moveBehind_39 ?_
        refine x_rJ (r := 54) C (by decide) rfl eX23_moveBehind_40 h (fun v22 h => ?_)
        refine x_wJ (r := 56) C (by decide) rfl eX23_moveBehind_41 h (fun S23 h => ?_)
        refine x_iinc (j := 2) (v := 1) (lv2 := [(0, .ref m9), (1, .int x1)]) C eX23_moveBehind_42 rfl (by decide) (by decide) rfl (oky rfl (oky rfl ok0)) ?_
        refine x_goto (tgt := 2) C eX23_moveBehind_45 (by decide) ?_
        refine x_sub [1, 2, 0] rfl ?_
        exact ih_2 S23 x1 (x2 + 1) h
  unfold f_moveBehind at h
  refine x_iconst (v := 0) C eX23_moveBehind_0 (by decide) ?_
  refine x_istore_n (lv2 := [(0, .ref m9), (1, .int x1)]) C eX23_moveBehind_1 rfl (by decide) rfl (oky rfl (oky rfl ok0)) ?_
  refine x_sub [1, 2, 0] rfl ?_
  exact j_2 bigN S0 x1 0 h
set_option maxRecDepth 20000 in
set_option maxHeartbeats 4000000 in
theorem k_X23_merges (l : Launch) (D : va_G) (K : Ky) (m9 : Nat) (mr : Nat → Nat) (S0 Sf : Sg) (x1 : Int32) (rf : Int32) (h : f_merges K S0 x1 = some (Sf, rf)) : CT l D K m9 mr yX23_merges (Cond.code yX23_merges cX23_merges 8 (some .boolean)) (1) (20) S0 Sf [.ref m9, .int x1] (some (.int rf)) := by
  refine x_start (cc := cX23_merges) (lv := [(0, .ref m9), (1, .int x1)]) rfl rfl (by decide) (by simp [lv_args, cat_rf, cat_i, cat_l, cat_a]) (by simp [lg_sl, cat_rf, cat_i, cat_l, cat_a]) (fun p e R s m args below meth c Q A C => ?_)
  have j_4 : ∀ (n_4 : Nat) (S : Sg) (x1 : Int32) (x2 : Int32) (x3 : Int32), f_merges_4 K n_4 S x1 x2 x3 = some (Sf, rf) → WX p l e R s m args below meth c Q D A K m9 mr 8 S0 S 4 [(0, .ref m9), (1, .int x1), (2, .int x2), (3, .int x3)] [] := by
    intro n_4
    induction n_4 with
    | zero => intro S x1 x2 x3 h; unfold f_merges_4 at h; cases h
    | succ n_4 ih_4 =>
      intro S x1 x2 x3 h
      have j_74 : ∀ (S : Sg) (x1 : Int32) (x2 : Int32) (x3 : Int32) (x4 : Int64) (x6 : Int64), f_merges_74 K (f_merges_4 K n_4) S x1 x2 x3 x4 x6 = some (Sf, rf) → WX p l e R s m args below meth c Q D A K m9 mr 8 S0 S 74 [(0, .ref m9), (1, .int x1), (2, .int x2), (3, .int x3), (4, .long x4), (6, .long x6)] [] := by
        intro S x1 x2 x3 x4 x6 h
        unfold f_merges_74 at h
        refine x_tload_n C eX23_merges_74 rfl 0 rfl ?_
        refine x_mV (k9 := 53) C (by decide) ww_657 eX23_merges_75 rfl ?_
        refine x_iload_n C eX23_merges_78 rfl 1 rfl ?_
        refine x_iload_n C eX23_merges_79 rfl 3 rfl ?_
        refine x_iadd C eX23_merges_80 ?_
        refine x_lload C eX23_merges_81 4 rfl ?_
        refine x_wJ (r := 53) C (by decide) rfl eX23_merges_83 h (fun S7 h => ?_)
        refine x_tload_n C eX23_merges_84 rfl 0 rfl ?_
        refine x_mV (k9 := 54) C (by decide) ww_658 eX23_merges_85 rfl ?_
        refine x_iload_n C eX23_merges_88 rfl 1 rfl ?_
        refine x_iload_n C eX23_merges_89 rfl 3 rfl ?_
        refine x_iadd C eX23_merges_90 ?_
        refine x_lload C eX23_merges_91 5 rfl ?_
        refine x_wJ (r := 54) C (by decide) rfl eX23_merges_93 h (fun S8 h => ?_)
        refine x_iinc (j := 3) (v := 1) (lv2 := [(0, .ref m9), (1, .int x1), (2, .int x2), (4, .long x4), (6, .long x6)]) C eX23_merges_94 rfl (by decide) (by decide) rfl (oky rfl (oky rfl (oky rfl (okn (Nat.ne_of_beq_eq_false rfl) (okn (Nat.ne_of_beq_eq_false rfl) ok0))))) ?_
        refine x_goto (tgt := 4) C eX23_merges_97 (by decide) ?_
        refine x_sub [1, 2, 3, 0] rfl ?_
        exact ih_4 S8 x1 x2 (x3 + 1) h
      have j_72 : ∀ (S : Sg) (x1 : Int32) (x3 : Int32) (x4 : Int64) (x6 : Int64), f_merges_72 K (f_merges_4 K n_4) S x1 x3 x4 x6 = some (Sf, rf) → WX p l e R s m args below meth c Q D A K m9 mr 8 S0 S 72 [(0, .ref m9), (1, .int x1), (3, .int x3), (4, .long x4), (6, .long x6)] [] := by
        intro S x1 x3 x4 x6 h
        unfold f_merges_72 at h
        refine x_iconst (v := 1) C eX23_merges_72 (by decide) ?_
        refine x_istore_n (lv2 := [(0, .ref m9), (1, .int x1), (3, .int x3), (4, .long x4), (6, .long x6)]) C eX23_merges_73 rfl (by decide) rfl (oky rfl (oky rfl (oky rfl (okn (Nat.ne_of_beq_eq_false rfl) (okn (Nat.ne_of_beq_eq_false rfl) ok0))))) ?_
        refine x_sub [1, 2, 0, 3, 4, 5] rfl ?_
        exact j_74 S x1 1 x3 x4 x6 h
      unfold f_merges_4 at h
      refine x_iload_n C eX23_merges_4 rfl 3 rfl ?_
      refine x_bipush (v := 10) C eX23_merges_5 (by decide) ?_
      refine x_ic_ge (tgt := 100) C eX23_merges_7 (by decide) h (fun h => ?_) (fun h => ?_)
      · refine x_iload_n C eX23_merges_100 rfl 2 rfl ?_
        exact x_zret C rfl rfl eX23_merges_101 h
      · refine x_tload_n C eX23_merges_10 rfl 0 rfl ?_
        refine x_mV (k9 := 53) C (by decide) ww_657 eX23_merges_11 rfl ?_
        refine x_iload_n C eX23_merges_14 rfl 1 rfl ?_
        refine x_iload_n C eX23_merges_15 rfl 3 rfl ?_
        refine x_iadd C eX23_merges_16 ?_
        refine x_rJ (r := 53) C (by decide) rfl eX23_merges_17 h (fun v1 h => ?_)
        refine x_tload_n C eX23_merges_18 rfl 0 rfl ?_
        refine x_mV (k9 := 55) C (by decide) ww_655 eX23_merges_19 rfl ?_
        refine x_iload_n C eX23_merges_22 rfl 3 rfl ?_
        refine x_rJ (r := 55) C (by decide) rfl eX23_merges_23 h (fun v2 h => ?_)
        refine x_lor C eX23_merges_24 ?_
        refine x_lstore (lv2 := [(0, .ref m9), (1, .int x1), (2, .int x2), (3, .int x3)]) C eX23_merges_25 (by decide) rfl (oky rfl (oky rfl (oky rfl (oky rfl ok0)))) ?_
        refine x_tload_n C eX23_merges_27 rfl 1 rfl ?_
        refine x_mV (k9 := 54) C (by decide) ww_658 eX23_merges_28 rfl ?_
        refine x_iload_n C eX23_merges_31 rfl 2 rfl ?_
        refine x_iload_n C eX23_merges_32 rfl 4 rfl ?_
        refine x_iadd C eX23_merges_33 ?_
        refine x_rJ (r := 54) C (by decide) rfl eX23_merges_34 h (fun v3 h => ?_)
        refine x_tload_n C eX23_merges_35 rfl 1 rfl ?_
        refine x_mV (k9 := 56) C (by decide) ww_652 eX23_merges_36 rfl ?_
        refine x_iload_n C eX23_merges_39 rfl 4 rfl ?_
        refine x_rJ (r := 56) C (by decide) rfl eX23_merges_40 h (fun v4 h => ?_)
        refine x_lor C eX23_merges_41 ?_
        refine x_lstore (lv2 := [(4, .long (v1 ||| v2)), (0, .ref m9), (1, .int x1), (2, .int x2), (3, .int x3)]) C eX23_merges_42 (by decide) rfl (okn (Nat.ne_of_beq_eq_false rfl) (oky rfl (oky rfl (oky rfl (oky rfl ok0))))) ?_
        refine x_lload C eX23_merges_44 1 rfl ?_
        refine x_tload_n C eX23_merges_46 rfl 2 rfl ?_
        refine x_mV (k9 := 53) C (by decide) ww_657 eX23_merges_47 rfl ?_
        refine x_iload_n C eX23_merges_50 rfl 3 rfl ?_
        refine x_iload_n C eX23_merges_51 rfl 5 rfl ?_
        refine x_iadd C eX23_merges_52 ?_
        refine x_rJ (r := 53) C (by decide) rfl eX23_merges_53 h (fun v5 h => ?_)
        refine x_lcmp C eX23_merges_54 ?_
        refine x_if_ne (tgt := 72) C eX23_merges_55 (by decide) h (fun h => ?_) (fun h => ?_)
        · refine x_sub [2, 3, 5, 1, 0] rfl ?_
          exact j_72 S x1 x3 (v1 ||| v2) (v3 ||| v4) h
        · refine x_lload C eX23_merges_58 0 rfl ?_
          refine x_tload_n C eX23_merges_60 rfl 2 rfl ?_
          refine x_mV (k9 := 54) C (by decide) ww_658 eX23_merges_61 rfl ?_
          refine x_iload_n C eX23_merges_64 rfl 3 rfl ?_
          refine x_iload_n C eX23_merges_65 rfl 5 rfl ?_
          refine x_iadd C eX23_merges_66 ?_
          refine x_rJ (r := 54) C (by decide) rfl eX23_merges_67 h (fun v6 h => ?_)
          refine x_lcmp C eX23_merges_68 ?_
          refine x_if_eq (tgt := 74) C eX23_merges_69 (by decide) h (fun h => ?_) (fun h => ?_)
          · refine x_sub [2, 3, 4, 5, 1, 0] rfl ?_
            exact j_74 S x1 x2 x3 (v1 ||| v2) (v3 ||| v4) h
          · refine x_sub [2, 3, 5, 1, 0] rfl ?_
            exact j_72 S x1 x3 (v1 ||| v2) (v3 ||| v4) h
  unfold f_merges at h
  refine x_iconst (v := 0) C eX23_merges_0 (by decide) ?_
  refine x_istore_n (lv2 := [(0, .ref m9), (1, .int x1)]) C eX23_merges_1 rfl (by decide) rfl (oky rfl (oky rfl ok0)) ?_
  refine x_iconst (v := 0) C eX23_merges_2 (by decide) ?_
  refine x_istore_n (lv2 := [(2, .int 0), (0, .ref m9), (1, .int x1)]) C eX23_merges_3 rfl (by decide) rfl (oky rfl (oky rfl (oky rfl ok0))) ?_
  refine x_sub [2, 3, 1, 0] rfl ?_
  exact j_4 bigN S0 x1 0 0 h
set_option maxRecDepth 20000 in
set_option maxHeartbeats 4000000 in
theorem k_X23_spreadMoves (l : Launch) (D : va_G) (K : Ky) (m9 : Nat) (mr : Nat → Nat) (S0 Sf : Sg) (x1 : Option Nat) (rf : Unit) (h : f_spreadMoves K S0 x1 = some (Sf, rf)) : CT l D K m9 mr yX23_spreadMoves (Cond.code yX23_spreadMoves cX23_spreadMoves 5 none) (84) (2012) S0 Sf [.ref m9, va_rf x1] none := by
  refine x_start (cc := cX23_spreadMoves) (lv := [(0, .ref m9), (1, va_rf x1)]) rfl rfl (by decide) (by simp [lv_args, cat_rf, cat_i, cat_l, cat_a]) (by simp [lg_sl, cat_rf, cat_i, cat_l, cat_a]) (fun p e R s m args below meth c Q A C => ?_)
  have j_100 : ∀ (n_100 : Nat) (S : Sg) (x1 : Option Nat) (x2 : Int32), f_spreadMoves_100 K n_100 S x1 x2 = some (Sf, rf) → WX p l e R s m args below meth c Q D A K m9 mr 5 S0 S 100 [(0, .ref m9), (1, va_rf x1), (2, .int x2)] [] := by
    intro n_100
    induction n_100 with
    | zero => intro S x1 x2 h; unfold f_spreadMoves_100 at h; cases h
    | succ n_100 ih_100 =>
      intro S x1 x2 h
      have j_111 : ∀ (n_111 : Nat) (S : Sg) (x1 : Option Nat) (x2 : Int32) (x3 : Int32), f_spreadMoves_111 K (f_spreadMoves_100 K n_100) n_111 S x1 x2 x3 = some (Sf, rf) → WX p l e R s m args below meth c Q D A K m9 mr 5 S0 S 111 [(0, .ref m9), (1, va_rf x1), (2, .int x2), (3, .int x3)] [] := by
        intro n_111
        induction n_111 with
        | zero => intro S x1 x2 x3 h; unfold f_spreadMoves_111 at h; cases h
        | succ n_111 ih_111 =>
          intro S x1 x2 x3 h
          have j_180 : ∀ (S : Sg) (x1 : Option Nat) (x2 : Int32) (x3 : Int32), f_spreadMoves_180 K (f_spreadMoves_100 K n_100) (f_spreadMoves_111 K (f_spreadMoves_100 K n_100) n_111) S x1 x2 x3 = some (Sf, rf) → WX p l e R s m args below meth c Q D A K m9 mr 5 S0 S 180 [(0, .ref m9), (1, va_rf x1), (2, .int x2), (3, .int x3)] [] := by
            intro S x1 x2 x3 h
            unfold f_spreadMoves_180 at h
            refine x_iinc (j := 3) (v := 1) (lv2 := [(0, .ref m9), (1, va_rf x1), (2, .int x2)]) C eX23_spreadMoves_180 rfl (by decide) (by decide) rfl (oky rfl (oky (cat_rf x1) (oky rfl ok0))) ?_
            refine x_goto (tgt := 111) C eX23_spreadMoves_183 (by decide) ?_
            refine x_sub [1, 2, 3, 0] rfl ?_
            exact ih_111 S x1 x2 (x3 + 1) h
          have j_136 : ∀ (n_136 : Nat) (S : Sg) (x1 : Option Nat) (x2 : Int32) (x3 : Int32) (x4 : Int32), f_spreadMoves_136 K (f_spreadMoves_100 K n_100) (f_spreadMoves_111 K (f_spreadMoves_100 K n_100) n_111) n_136 S x1 x2 x3 x4 = some (Sf, rf) → WX p l e R s m args below meth c Q D A K m9 mr 5 S0 S 136 [(0, .ref m9), (1, va_rf x1), (2, .int x2), (3, .int x3), (4, .int x4)] [] := by
            intro n_136
            induction n_136 with
            | zero => intro S x1 x2 x3 x4 h; unfold f_spreadMoves_136 at h; cases h
            | succ n_136 ih_136 =>
              intro S x1 x2 x3 x4 h
              have j_174 : ∀ (S : Sg) (x1 : Option Nat) (x2 : Int32) (x3 : Int32) (x4 : Int32), f_spreadMoves_174 K (f_spreadMoves_100 K n_100) (f_spreadMoves_111 K (f_spreadMoves_100 K n_100) n_111) (f_spreadMoves_136 K (f_spreadMoves_100 K n_100) (f_spreadMoves_111 K (f_spreadMoves_100 K n_100) n_111) n_136) S x1 x2 x3 x4 = some (Sf, rf) → WX p l e R s m args below meth c Q D A K m9 mr 5 S0 S 174 [(0, .ref m9), (1, va_rf x1), (2, .int x2), (3, .int x3), (4, .int x4)] [] := by
                intro S x1 x2 x3 x4 h
                unfold f_spreadMoves_174 at h
                refine x_iinc (j := 4) (v := 1) (lv2 := [(0, .ref m9), (1, va_rf x1), (2, .int x2), (3, .int x3)]) C eX23_spreadMoves_174 rfl (by decide) (by decide) rfl (oky rfl (oky (cat_rf x1) (oky rfl (oky rfl ok0)))) ?_
                refine x_goto (tgt := 136) C eX23_spreadMoves_177 (by decide) ?_
                refine x_sub [1, 2, 3, 4, 0] rfl ?_
                exact ih_136 S x1 x2 x3 (x4 + 1) h
              unfold f_spreadMoves_136 at h
              refine x_tload_n C eX23_spreadMoves_136 rfl 0 rfl ?_
              refine x_mV (k9 := 52) C (by decide) ww_637 eX23_spreadMoves_137 rfl ?_
              refine x_iload_n C eX23_spreadMoves_140 rfl 3 rfl ?_
              refine x_rZ (r := 52) C (by decide) rfl eX23_spreadMoves_141 h (fun v17 h => ?_)
              refine x_if_eq (tgt := 180) C eX23_spreadMoves_142 (by decide) h (fun h => ?_) (fun h => ?_)
              · refine x_sub [0, 1, 2, 3] rfl ?_
                exact j_180 S x1 x2 x3 h
              · refine x_tload_n C eX23_spreadMoves_145 rfl 0 rfl ?_
                refine x_iload_n C eX23_spreadMoves_146 rfl 3 rfl ?_
                refine x_iload C eX23_spreadMoves_147 4 rfl ?_
                refine x_cVi (As := [.int x3, .int x4]) (st := []) (n := 2) (frc := 1) (loc := 20) C h (fun S9 r9 e9 => k_X23_follows l D K m9 mr _ S9 x3 x4 r9 e9) ww_635 ww_638 ww_639 ww_640 ww_16 (by decide +kernel) rfl ⟨by omega, by omega⟩ (Nat.le_of_ble_eq_true rfl) eX23_spreadMoves_149 (fun S18 v19 h => ?_)
                refine x_if_lt (tgt := 180) C eX23_spreadMoves_152 (by decide) h (fun h => ?_) (fun h => ?_)
                · refine x_sub [0, 1, 2, 3] rfl ?_
                  exact j_180 S18 x1 x2 x3 h
                · refine x_tload_n C eX23_spreadMoves_155 rfl 0 rfl ?_
                  refine x_bipush (v := 10) C eX23_spreadMoves_156 (by decide) ?_
                  refine x_tload_n C eX23_spreadMoves_158 rfl 0 rfl ?_
                  refine x_iload_n C eX23_spreadMoves_159 rfl 3 rfl ?_
                  refine x_iload C eX23_spreadMoves_160 4 rfl ?_
                  refine x_cVi (As := [.int x3, .int x4]) (st := [.int 10, .ref m9]) (n := 2) (frc := 1) (loc := 20) C h (fun S9 r9 e9 => k_X23_follows l D K m9 mr _ S9 x3 x4 r9 e9) ww_635 ww_638 ww_639 ww_640 ww_16 (by decide +kernel) rfl ⟨by omega, by omega⟩ (Nat.le_of_ble_eq_true rfl) eX23_spreadMoves_162 (fun S20 v21 h => ?_)
                  refine x_imul C eX23_spreadMoves_165 ?_
                  refine x_cVi (As := [.int (10 * v21)]) (st := []) (n := 1) (frc := 1) (loc := 20) C h (fun S9 r9 e9 => k_X23_merges l D K m9 mr _ S9 (10 * v21) r9 e9) ww_674 ww_671 ww_672 ww_673 ww_16 (by decide +kernel) rfl ⟨by omega, by omega⟩ (Nat.le_of_ble_eq_true rfl) eX23_spreadMoves_166 (fun S22 v23 h => ?_)
                  refine x_if_eq (tgt := 174) C eX23_spreadMoves_169 (by decide) h (fun h => ?_) (fun h => ?_)
                  · refine x_sub [0, 1, 2, 3, 4] rfl ?_
                    exact j_174 S22 x1 x2 x3 x4 h
                  · refine x_iconst (v := 1) C eX23_spreadMoves_172 (by decide) ?_
                    refine x_istore_n (lv2 := [(0, .ref m9), (1, va_rf x1), (3, .int x3), (4, .int x4)]) C eX23_spreadMoves_173 rfl (by decide) rfl (oky rfl (oky (cat_rf x1) (oky rfl (oky rfl ok0)))) ?_
                    refine x_sub [1, 2, 0, 3, 4] rfl ?_
                    exact j_174 S22 x1 1 x3 x4 h
          have j_133 : ∀ (S : Sg) (x1 : Option Nat) (x2 : Int32) (x3 : Int32), f_spreadMoves_133 K (f_spreadMoves_100 K n_100) (f_spreadMoves_111 K (f_spreadMoves_100 K n_100) n_111) S x1 x2 x3 = some (Sf, rf) → WX p l e R s m args below meth c Q D A K m9 mr 5 S0 S 133 [(0, .ref m9), (1, va_rf x1), (2, .int x2), (3, .int x3)] [] := by
            intro S x1 x2 x3 h
            unfold f_spreadMoves_133 at h
            refine x_iconst (v := 0) C eX23_spreadMoves_133 (by decide) ?_
            refine x_istore (lv2 := [(0, .ref m9), (1, va_rf x1), (2, .int x2), (3, .int x3)]) C eX23_spreadMoves_134 (by decide) rfl (oky rfl (oky (cat_rf x1) (oky rfl (oky rfl ok0)))) ?_
            refine x_sub [1, 2, 3, 4, 0] rfl ?_
            exact j_136 bigN S x1 x2 x3 0 h
          unfold f_spreadMoves_111 at h
          refine x_iload_n C eX23_spreadMoves_111 rfl 3 rfl ?_
          refine x_aload_n C eX23_spreadMoves_112 rfl 1 rfl ?_
          refine x_gI (o9 := x1) (ci := 16) (k9 := 4) (Cn := RX16) (T := TX16) (N := 22) C rfl wt_X16 (by decide) ww_634 eX23_spreadMoves_113 h (fun v13 h => ?_)
          refine x_ic_ge (tgt := 186) C eX23_spreadMoves_116 (by decide) h (fun h => ?_) (fun h => ?_)
          · refine x_goto (tgt := 100) C eX23_spreadMoves_186 (by decide) ?_
            refine x_sub [0, 1, 2] rfl ?_
            exact ih_100 S x1 x2 h
          · refine x_tload_n C eX23_spreadMoves_119 rfl 0 rfl ?_
            refine x_mV (k9 := 52) C (by decide) ww_637 eX23_spreadMoves_120 rfl ?_
            refine x_iload_n C eX23_spreadMoves_123 rfl 3 rfl ?_
            refine x_rZ (r := 52) C (by decide) rfl eX23_spreadMoves_124 h (fun v14 h => ?_)
            refine x_if_eq (tgt := 133) C eX23_spreadMoves_125 (by decide) h (fun h => ?_) (fun h => ?_)
            · refine x_sub [0, 1, 2, 3] rfl ?_
              exact j_133 S x1 x2 x3 h
            · refine x_tload_n C eX23_spreadMoves_128 rfl 0 rfl ?_
              refine x_iload_n C eX23_spreadMoves_129 rfl 3 rfl ?_
              refine x_cVv (As := [.int x3]) (st := []) (n := 1) (frc := 83) (loc := 1990) C h (fun S9 r9 e9 => k_X23_moveBehind l D K m9 mr _ S9 x3 r9 e9) ww_656 ww_668 ww_669 ww_670 ww_16 (by decide +kernel) rfl ⟨by omega, by omega⟩ (Nat.le_of_ble_eq_true rfl) eX23_spreadMoves_130 (fun S15 v16 h => ?_)
              refine x_sub [0, 1, 2, 3] rfl ?_
              exact j_133 S15 x1 x2 x3 h
      unfold f_spreadMoves_100 at h
      refine x_iload_n C eX23_spreadMoves_100 rfl 2 rfl ?_
      refine x_if_eq (tgt := 189) C eX23_spreadMoves_101 (by decide) h (fun h => ?_) (fun h => ?_)
      · exact x_vret C rfl rfl eX23_spreadMoves_189 h
      · refine x_iconst (v := 0) C eX23_spreadMoves_104 (by decide) ?_
        refine x_istore_n (lv2 := [(0, .ref m9), (1, va_rf x1)]) C eX23_spreadMoves_105 rfl (by decide) rfl (oky rfl (oky (cat_rf x1) ok0)) ?_
        refine x_aload_n C eX23_spreadMoves_106 rfl 2 rfl ?_
        refine x_gI (o9 := x1) (ci := 16) (k9 := 5) (Cn := RX16) (T := TX16) (N := 22) C rfl wt_X16 (by decide) ww_632 eX23_spreadMoves_107 h (fun v12 h => ?_)
        refine x_istore_n (lv2 := [(2, .int 0), (0, .ref m9), (1, va_rf x1)]) C eX23_spreadMoves_110 rfl (by decide) rfl (oky rfl (oky rfl (oky (cat_rf x1) ok0))) ?_
        refine x_sub [2, 3, 1, 0] rfl ?_
        exact j_111 bigN S x1 0 v12 h
  have j_41 : ∀ (n_41 : Nat) (S : Sg) (x1 : Option Nat) (x2 : Int32), f_spreadMoves_41 K n_41 S x1 x2 = some (Sf, rf) → WX p l e R s m args below meth c Q D A K m9 mr 5 S0 S 41 [(0, .ref m9), (1, va_rf x1), (2, .int x2)] [] := by
    intro n_41
    induction n_41 with
    | zero => intro S x1 x2 h; unfold f_spreadMoves_41 at h; cases h
    | succ n_41 ih_41 =>
      intro S x1 x2 h
      have j_51 : ∀ (n_51 : Nat) (S : Sg) (x1 : Option Nat) (x2 : Int32) (x3 : Int32), f_spreadMoves_51 K (f_spreadMoves_41 K n_41) n_51 S x1 x2 x3 = some (Sf, rf) → WX p l e R s m args below meth c Q D A K m9 mr 5 S0 S 51 [(0, .ref m9), (1, va_rf x1), (2, .int x2), (3, .int x3)] [] := by
        intro n_51
        induction n_51 with
        | zero => intro S x1 x2 x3 h; unfold f_spreadMoves_51 at h; cases h
        | succ n_51 ih_51 =>
          intro S x1 x2 x3 h
          unfold f_spreadMoves_51 at h
          refine x_iload_n C eX23_spreadMoves_51 rfl 3 rfl ?_
          refine x_bipush (v := 16) C eX23_spreadMoves_52 (by decide) ?_
          refine x_ic_ge (tgt := 92) C eX23_spreadMoves_54 (by decide) h (fun h => ?_) (fun h => ?_)
          · refine x_iinc (j := 2) (v := 1) (lv2 := [(0, .ref m9), (1, va_rf x1), (3, .int x3)]) C eX23_spreadMoves_92 rfl (by decide) (by decide) rfl (oky rfl (oky (cat_rf x1) (oky rfl ok0))) ?_
            refine x_goto (tgt := 41) C eX23_spreadMoves_95 (by decide) ?_
            refine x_sub [1, 2, 0] rfl ?_
            exact ih_41 S x1 (x2 + 1) h
          · refine x_tload_n C eX23_spreadMoves_57 rfl 0 rfl ?_
            refine x_mV (k9 := 54) C (by decide) ww_658 eX23_spreadMoves_58 rfl ?_
            refine x_bipush (v := 10) C eX23_spreadMoves_61 (by decide) ?_
            refine x_aload_n C eX23_spreadMoves_63 rfl 1 rfl ?_
            refine x_gI (o9 := x1) (ci := 16) (k9 := 5) (Cn := RX16) (T := TX16) (N := 22) C rfl wt_X16 (by decide) ww_632 eX23_spreadMoves_64 h (fun v6 h => ?_)
            refine x_imul C eX23_spreadMoves_67 ?_
            refine x_bipush (v := 16) C eX23_spreadMoves_68 (by decide) ?_
            refine x_aload_n C eX23_spreadMoves_70 rfl 1 rfl ?_
            refine x_gR (o9 := x1) (ci := 16) (k9 := 17) (Cn := RX16) (T := TX16) (N := 22) C rfl wt_X16 (by decide) ww_87 eX23_spreadMoves_71 h (fun v7 h => ?_)
            refine x_iload_n C eX23_spreadMoves_74 rfl 2 rfl ?_
            refine x_aQ (t9 := 5) C rfl eX23_spreadMoves_75 h (fun v8 h => ?_)
            refine x_gI (o9 := v8) (ci := 21) (k9 := 0) (Cn := RX21) (T := TX21) (N := 5) C rfl wt_X21 (by decide) ww_327 eX23_spreadMoves_76 h (fun v9 h => ?_)
            refine x_imul C eX23_spreadMoves_79 ?_
            refine x_iload_n C eX23_spreadMoves_80 rfl 3 rfl ?_
            refine x_iadd C eX23_spreadMoves_81 ?_
            refine x_iconst (v := 1) C eX23_spreadMoves_82 (by decide) ?_
            refine x_cSv (As := [.ref (mr 54), .int (10 * v6), .int ((16 * v9) + x3), .int 1]) (st := []) (n := 4) (frc := 1) (loc := 20) C h (fun S9 r9 e9 => k_X23_put l D K m9 mr _ S9 54 (10 * v6) ((16 * v9) + x3) 1 r9 (by decide) rfl e9) ww_646 ww_653 ww_654 ww_16 (by decide +kernel) rfl ⟨by omega, by omega⟩ (Nat.le_of_ble_eq_true rfl) eX23_spreadMoves_83 (fun S10 v11 h => ?_)
            refine x_iinc (j := 3) (v := 1) (lv2 := [(0, .ref m9), (1, va_rf x1), (2, .int x2)]) C eX23_spreadMoves_86 rfl (by decide) (by decide) rfl (oky rfl (oky (cat_rf x1) (oky rfl ok0))) ?_
            refine x_goto (tgt := 51) C eX23_spreadMoves_89 (by decide) ?_
            refine x_sub [1, 2, 3, 0] rfl ?_
            exact ih_51 S10 x1 x2 (x3 + 1) h
      unfold f_spreadMoves_41 at h
      refine x_iload_n C eX23_spreadMoves_41 rfl 2 rfl ?_
      refine x_aload_n C eX23_spreadMoves_42 rfl 1 rfl ?_
      refine x_gI (o9 := x1) (ci := 16) (k9 := 3) (Cn := RX16) (T := TX16) (N := 22) C rfl wt_X16 (by decide) ww_51 eX23_spreadMoves_43 h (fun v5 h => ?_)
      refine x_ic_ge (tgt := 98) C eX23_spreadMoves_46 (by decide) h (fun h => ?_) (fun h => ?_)
      · refine x_iconst (v := 1) C eX23_spreadMoves_98 (by decide) ?_
        refine x_istore_n (lv2 := [(0, .ref m9), (1, va_rf x1)]) C eX23_spreadMoves_99 rfl (by decide) rfl (oky rfl (oky (cat_rf x1) ok0)) ?_
        refine x_sub [1, 2, 0] rfl ?_
        exact j_100 bigN S x1 1 h
      · refine x_iconst (v := 0) C eX23_spreadMoves_49 (by decide) ?_
        refine x_istore_n (lv2 := [(0, .ref m9), (1, va_rf x1), (2, .int x2)]) C eX23_spreadMoves_50 rfl (by decide) rfl (oky rfl (oky (cat_rf x1) (oky rfl ok0))) ?_
        refine x_sub [1, 2, 3, 0] rfl ?_
        exact j_51 bigN S x1 x2 0 h
  have j_8 : ∀ (n_8 : Nat) (S : Sg) (x1 : Option Nat) (x2 : Int32), f_spreadMoves_8 K n_8 S x1 x2 = some (Sf, rf) → WX p l e R s m args below meth c Q D A K m9 mr 5 S0 S 8 [(0, .ref m9), (1, va_rf x1), (2, .int x2)] [] := by
    intro n_8
    induction n_8 with
    | zero => intro S x1 x2 h; unfold f_spreadMoves_8 at h; cases h
    | succ n_8 ih_8 =>
      intro S x1 x2 h
      unfold f_spreadMoves_8 at h
      refine x_iload_n C eX23_spreadMoves_8 rfl 2 rfl ?_
      refine x_bipush (v := 10) C eX23_spreadMoves_9 (by decide) ?_
      refine x_aload_n C eX23_spreadMoves_11 rfl 1 rfl ?_
      refine x_gI (o9 := x1) (ci := 16) (k9 := 4) (Cn := RX16) (T := TX16) (N := 22) C rfl wt_X16 (by decide) ww_634 eX23_spreadMoves_12 h (fun v2 h => ?_)
      refine x_imul C eX23_spreadMoves_15 ?_
      refine x_ic_ge (tgt := 39) C eX23_spreadMoves_16 (by decide) h (fun h => ?_) (fun h => ?_)
      · refine x_iconst (v := 0) C eX23_spreadMoves_39 (by decide) ?_
        refine x_istore_n (lv2 := [(0, .ref m9), (1, va_rf x1)]) C eX23_spreadMoves_40 rfl (by decide) rfl (oky rfl (oky (cat_rf x1) ok0)) ?_
        refine x_sub [1, 2, 0] rfl ?_
        exact j_41 bigN S x1 0 h
      · refine x_tload_n C eX23_spreadMoves_19 rfl 0 rfl ?_
        refine x_mV (k9 := 53) C (by decide) ww_657 eX23_spreadMoves_20 rfl ?_
        refine x_iload_n C eX23_spreadMoves_23 rfl 2 rfl ?_
        refine x_lconst (v := 0) C eX23_spreadMoves_24 (by decide) ?_
        refine x_wJ (r := 53) C (by decide) rfl eX23_spreadMoves_25 h (fun S3 h => ?_)
        refine x_tload_n C eX23_spreadMoves_26 rfl 0 rfl ?_
        refine x_mV (k9 := 54) C (by decide) ww_658 eX23_spreadMoves_27 rfl ?_
        refine x_iload_n C eX23_spreadMoves_30 rfl 2 rfl ?_
        refine x_lconst (v := 0) C eX23_spreadMoves_31 (by decide) ?_
        refine x_wJ (r := 54) C (by decide) rfl eX23_spreadMoves_32 h (fun S4 h => ?_)
        refine x_iinc (j := 2) (v := 1) (lv2 := [(0, .ref m9), (1, va_rf x1)]) C eX23_spreadMoves_33 rfl (by decide) (by decide) rfl (oky rfl (oky (cat_rf x1) ok0)) ?_
        refine x_goto (tgt := 8) C eX23_spreadMoves_36 (by decide) ?_
        refine x_sub [1, 2, 0] rfl ?_
        exact ih_8 S4 x1 (x2 + 1) h
  unfold f_spreadMoves at h
  refine x_bipush (v := 10) C eX23_spreadMoves_0 (by decide) ?_
  refine x_aload_n C eX23_spreadMoves_2 rfl 1 rfl ?_
  refine x_gI (o9 := x1) (ci := 16) (k9 := 5) (Cn := RX16) (T := TX16) (N := 22) C rfl wt_X16 (by decide) ww_632 eX23_spreadMoves_3 h (fun v1 h => ?_)
  refine x_imul C eX23_spreadMoves_6 ?_
  refine x_istore_n (lv2 := [(0, .ref m9), (1, va_rf x1)]) C eX23_spreadMoves_7 rfl (by decide) rfl (oky rfl (oky (cat_rf x1) ok0)) ?_
  refine x_sub [1, 2, 0] rfl ?_
  exact j_8 bigN S0 x1 (10 * v1) h
set_option maxRecDepth 20000 in
set_option maxHeartbeats 4000000 in
theorem k_X23_some (l : Launch) (D : va_G) (K : Ky) (m9 : Nat) (mr : Nat → Nat) (S0 Sf : Sg) (x1 : Nat) (x2 : Int32) (x3 : Int32) (x4 : Int32) (rf : Int32) (hrx1 : x1 ∈ rwL) (htx1 : rtag x1 = 1) (h : f_some K S0 x1 x2 x3 x4 = some (Sf, rf)) : CT l D K m9 mr yX23_some (Cond.code yX23_some cX23_some 6 (some .boolean)) (2) (42) S0 Sf [.ref m9, .ref (mr x1), .int x2, .int x3, .int x4] (some (.int rf)) := by
  refine x_start (cc := cX23_some) (lv := [(0, .ref m9), (1, .ref (mr x1)), (2, .int x2), (3, .int x3), (4, .int x4)]) rfl rfl (by decide) (by simp [lv_args, cat_rf, cat_i, cat_l, cat_a]) (by simp [lg_sl, cat_rf, cat_i, cat_l, cat_a]) (fun p e R s m args below meth c Q A C => ?_)
  have j_3 : ∀ (n_3 : Nat) (S : Sg) (x2 : Int32) (x3 : Int32) (x4 : Int32) (x5 : Int32), f_some_3 K x1 n_3 S x2 x3 x4 x5 = some (Sf, rf) → WX p l e R s m args below meth c Q D A K m9 mr 6 S0 S 3 [(1, .ref (mr x1)), (2, .int x2), (3, .int x3), (4, .int x4), (5, .int x5)] [] := by
    intro n_3
    induction n_3 with
    | zero => intro S x2 x3 x4 x5 h; unfold f_some_3 at h; cases h
    | succ n_3 ih_3 =>
      intro S x2 x3 x4 x5 h
      unfold f_some_3 at h
      refine x_iload C eX23_some_3 4 rfl ?_
      refine x_iload_n C eX23_some_5 rfl 2 rfl ?_
      refine x_iload C eX23_some_6 3 rfl ?_
      refine x_iadd C eX23_some_8 ?_
      refine x_ic_ge (tgt := 33) C eX23_some_9 (by decide) h (fun h => ?_) (fun h => ?_)
      · refine x_iconst (v := 0) C eX23_some_33 (by decide) ?_
        exact x_zret C rfl rfl eX23_some_34 h
      · refine x_tload_n C eX23_some_12 rfl 0 rfl ?_
        refine x_bipush (v := 10) C eX23_some_13 (by decide) ?_
        refine x_iload_n C eX23_some_15 rfl 1 rfl ?_
        refine x_imul C eX23_some_16 ?_
        refine x_iload C eX23_some_17 4 rfl ?_
        refine x_cSi (As := [.ref (mr x1), .int (10 * x2), .int x5]) (st := []) (n := 3) (frc := 1) (loc := 20) C h (fun S9 r9 e9 => k_X23_get l D K m9 mr _ S9 x1 (10 * x2) x5 r9 hrx1 htx1 e9) ww_645 ww_676 ww_677 ww_16 (by decide +kernel) rfl ⟨by omega, by omega⟩ (Nat.le_of_ble_eq_true rfl) eX23_some_19 (fun S1 v2 h => ?_)
        refine x_if_eq (tgt := 27) C eX23_some_22 (by decide) h (fun h => ?_) (fun h => ?_)
        · refine x_iinc (j := 4) (v := 1) (lv2 := [(1, .ref (mr x1)), (2, .int x2), (3, .int x3), (4, .int x4)]) C eX23_some_27 rfl (by decide) (by decide) rfl (oky rfl (oky rfl (oky rfl (oky rfl ok0)))) ?_
          refine x_goto (tgt := 3) C eX23_some_30 (by decide) ?_
          refine x_sub [1, 2, 3, 4, 0] rfl ?_
          exact ih_3 S1 x2 x3 x4 (x5 + 1) h
        · refine x_iconst (v := 1) C eX23_some_25 (by decide) ?_
          exact x_zret C rfl rfl eX23_some_26 h
  unfold f_some at h
  refine x_iload_n C eX23_some_0 rfl 3 rfl ?_
  refine x_istore (lv2 := [(0, .ref m9), (1, .ref (mr x1)), (2, .int x2), (3, .int x3), (4, .int x4)]) C eX23_some_1 (by decide) rfl (oky rfl (oky rfl (oky rfl (oky rfl (oky rfl ok0))))) ?_
  refine x_sub [2, 3, 4, 5, 0] rfl ?_
  exact j_3 bigN S0 x2 x3 x4 x3 h
set_option maxRecDepth 20000 in
set_option maxHeartbeats 4000000 in
theorem k_X23_moveWrong (l : Launch) (D : va_G) (K : Ky) (m9 : Nat) (mr : Nat → Nat) (S0 Sf : Sg) (x1 : Int32) (rf : Int32) (h : f_moveWrong K S0 x1 = some (Sf, rf)) : CT l D K m9 mr yX23_moveWrong (Cond.code yX23_moveWrong cX23_moveWrong 4 (some .boolean)) (83) (1990) S0 Sf [.ref m9, .int x1] (some (.int rf)) := by
  refine x_start (cc := cX23_moveWrong) (lv := [(0, .ref m9), (1, .int x1)]) rfl rfl (by decide) (by simp [lv_args, cat_rf, cat_i, cat_l, cat_a]) (by simp [lg_sl, cat_rf, cat_i, cat_l, cat_a]) (fun p e R s m args below meth c Q A C => ?_)
  have j_17 : ∀ (S : Sg), f_moveWrong_17 K S = some (Sf, rf) → WX p l e R s m args below meth c Q D A K m9 mr 4 S0 S 17 [] [] := by
    intro S h
    unfold f_moveWrong_17 at h
    refine x_iconst (v := 0) C eX23_moveWrong_17 (by decide) ?_
    exact x_zret C rfl rfl eX23_moveWrong_18 h
  have j_48 : ∀ (S : Sg) (x1 : Int32) (x3 : Int32), f_moveWrong_48 K S x1 x3 = some (Sf, rf) → WX p l e R s m args below meth c Q D A K m9 mr 4 S0 S 48 [(0, .ref m9), (1, .int x1), (3, .int x3)] [] := by
    intro S x1 x3 h
    unfold f_moveWrong_48 at h
    refine x_tload_n C eX23_moveWrong_48 rfl 0 rfl ?_
    refine x_tload_n C eX23_moveWrong_49 rfl 0 rfl ?_
    refine x_mV (k9 := 53) C (by decide) ww_657 eX23_moveWrong_50 rfl ?_
    refine x_iload_n C eX23_moveWrong_53 rfl 1 rfl ?_
    refine x_iload_n C eX23_moveWrong_54 rfl 2 rfl ?_
    refine x_tload_n C eX23_moveWrong_55 rfl 0 rfl ?_
    refine x_mV (k9 := 57) C (by decide) ww_649 eX23_moveWrong_56 rfl ?_
    refine x_cVi (As := [.ref (mr 53), .int x1, .int x3, .int (Zi S 57)]) (st := []) (n := 4) (frc := 2) (loc := 42) C h (fun S9 r9 e9 => k_X23_some l D K m9 mr _ S9 53 x1 x3 (Zi S 57) r9 (by decide) rfl e9) ww_675 ww_679 ww_680 ww_681 ww_16 (by decide +kernel) rfl ⟨by omega, by omega⟩ (Nat.le_of_ble_eq_true rfl) eX23_moveWrong_59 (fun S15 v16 h => ?_)
    exact x_zret C rfl rfl eX23_moveWrong_62 h
  have j_112 : ∀ (S : Sg) (y0 : Int32), f_moveWrong_112 K S y0 = some (Sf, rf) → WX p l e R s m args below meth c Q D A K m9 mr 4 S0 S 112 [] [.int y0] := by
    intro S y0 h
    unfold f_moveWrong_112 at h
    exact x_zret C rfl rfl eX23_moveWrong_112 h
  have j_111 : ∀ (S : Sg), f_moveWrong_111 K S = some (Sf, rf) → WX p l e R s m args below meth c Q D A K m9 mr 4 S0 S 111 [] [] := by
    intro S h
    unfold f_moveWrong_111 at h
    refine x_iconst (v := 0) C eX23_moveWrong_111 (by decide) ?_
    refine x_sub [] rfl ?_
    exact j_112 S 0 h
  unfold f_moveWrong at h
  refine x_tload_n C eX23_moveWrong_0 rfl 0 rfl ?_
  refine x_mV (k9 := 33) C (by decide) ww_491 eX23_moveWrong_1 rfl ?_
  refine x_iload_n C eX23_moveWrong_4 rfl 1 rfl ?_
  refine x_rI (r := 33) C (by decide) rfl eX23_moveWrong_5 h (fun v1 h => ?_)
  refine x_istore_n (lv2 := [(0, .ref m9), (1, .int x1)]) C eX23_moveWrong_6 rfl (by decide) rfl (oky rfl (oky rfl ok0)) ?_
  refine x_iload_n C eX23_moveWrong_7 rfl 0 rfl ?_
  refine x_if_eq (tgt := 17) C eX23_moveWrong_8 (by decide) h (fun h => ?_) (fun h => ?_)
  · refine x_sub [] rfl ?_
    exact j_17 S0 h
  · refine x_iload_n C eX23_moveWrong_11 rfl 0 rfl ?_
    refine x_bipush (v := 7) C eX23_moveWrong_12 (by decide) ?_
    refine x_ic_ne (tgt := 19) C eX23_moveWrong_14 (by decide) h (fun h => ?_) (fun h => ?_)
    · refine x_tload_n C eX23_moveWrong_19 rfl 1 rfl ?_
      refine x_tload_n C eX23_moveWrong_20 rfl 1 rfl ?_
      refine x_mV (k9 := 38) C (by decide) ww_496 eX23_moveWrong_21 rfl ?_
      refine x_iload_n C eX23_moveWrong_24 rfl 2 rfl ?_
      refine x_rQ (r := 38) (t9 := 6) C (by decide) rfl (by decide) rfl eX23_moveWrong_25 h (fun v2 h => ?_)
      refine x_cVi (As := [va_rf v2]) (st := []) (n := 1) (frc := 82) (loc := 1964) C h (fun S9 r9 e9 => k_X23_partFrom l D K m9 mr _ S9 v2 r9 e9) ww_648 ww_659 ww_660 ww_661 ww_16 (by decide +kernel) rfl ⟨by omega, by omega⟩ (Nat.le_of_ble_eq_true rfl) eX23_moveWrong_26 (fun S3 v4 h => ?_)
      refine x_istore_n (lv2 := [(2, .int v1), (0, .ref m9), (1, .int x1)]) C eX23_moveWrong_29 rfl (by decide) rfl (oky rfl (oky rfl (oky rfl ok0))) ?_
      refine x_iload_n C eX23_moveWrong_30 rfl 1 rfl ?_
      refine x_bipush (v := 6) C eX23_moveWrong_31 (by decide) ?_
      refine x_ic_ne (tgt := 48) C eX23_moveWrong_33 (by decide) h (fun h => ?_) (fun h => ?_)
      · refine x_sub [2, 3, 0] rfl ?_
        exact j_48 S3 x1 v4 h
      · refine x_tload_n C eX23_moveWrong_36 rfl 2 rfl ?_
        refine x_mV (k9 := 38) C (by decide) ww_496 eX23_moveWrong_37 rfl ?_
        refine x_iload_n C eX23_moveWrong_40 rfl 3 rfl ?_
        refine x_rQ (r := 38) (t9 := 6) C (by decide) rfl (by decide) rfl eX23_moveWrong_41 h (fun v5 h => ?_)
        refine x_cSi (As := [va_rf v5]) (st := []) (n := 1) (frc := 1) (loc := 20) C h (fun S9 r9 e9 => k_X23_hasStar l D K m9 mr _ S9 v5 r9 e9) ww_650 ww_665 ww_666 ww_16 (by decide +kernel) rfl ⟨by omega, by omega⟩ (Nat.le_of_ble_eq_true rfl) eX23_moveWrong_42 (fun S6 v7 h => ?_)
        refine x_if_eq (tgt := 63) C eX23_moveWrong_45 (by decide) h (fun h => ?_) (fun h => ?_)
        · refine x_tload_n C eX23_moveWrong_63 rfl 2 rfl ?_
          refine x_mV (k9 := 38) C (by decide) ww_496 eX23_moveWrong_64 rfl ?_
          refine x_iload_n C eX23_moveWrong_67 rfl 3 rfl ?_
          refine x_rQ (r := 38) (t9 := 6) C (by decide) rfl (by decide) rfl eX23_moveWrong_68 h (fun v8 h => ?_)
          refine x_gI (o9 := v8) (ci := 18) (k9 := 1) (Cn := RX18) (T := TX18) (N := 4) C rfl wt_X18 (by decide) ww_535 eX23_moveWrong_69 h (fun v9 h => ?_)
          refine x_if_ne (tgt := 111) C eX23_moveWrong_72 (by decide) h (fun h => ?_) (fun h => ?_)
          · refine x_sub [] rfl ?_
            exact j_111 S6 h
          · refine x_tload_n C eX23_moveWrong_75 rfl 2 rfl ?_
            refine x_mV (k9 := 38) C (by decide) ww_496 eX23_moveWrong_76 rfl ?_
            refine x_iload_n C eX23_moveWrong_79 rfl 3 rfl ?_
            refine x_rQ (r := 38) (t9 := 6) C (by decide) rfl (by decide) rfl eX23_moveWrong_80 h (fun v10 h => ?_)
            refine x_gR (o9 := v10) (ci := 18) (k9 := 0) (Cn := RX18) (T := TX18) (N := 4) C rfl wt_X18 (by decide) ww_510 eX23_moveWrong_81 h (fun v11 h => ?_)
            refine x_gI (o9 := v11) (ci := 21) (k9 := 3) (Cn := RX21) (T := TX21) (N := 5) C rfl wt_X21 (by decide) ww_330 eX23_moveWrong_84 h (fun v12 h => ?_)
            refine x_if_ne (tgt := 111) C eX23_moveWrong_87 (by decide) h (fun h => ?_) (fun h => ?_)
            · refine x_sub [] rfl ?_
              exact j_111 S6 h
            · refine x_tload_n C eX23_moveWrong_90 rfl 2 rfl ?_
              refine x_tload_n C eX23_moveWrong_91 rfl 2 rfl ?_
              refine x_mV (k9 := 54) C (by decide) ww_658 eX23_moveWrong_92 rfl ?_
              refine x_iload_n C eX23_moveWrong_95 rfl 3 rfl ?_
              refine x_iload_n C eX23_moveWrong_96 rfl 0 rfl ?_
              refine x_tload_n C eX23_moveWrong_97 rfl 2 rfl ?_
              refine x_mV (k9 := 57) C (by decide) ww_649 eX23_moveWrong_98 rfl ?_
              refine x_cVi (As := [.ref (mr 54), .int x1, .int v4, .int (Zi S6 57)]) (st := []) (n := 4) (frc := 2) (loc := 42) C h (fun S9 r9 e9 => k_X23_some l D K m9 mr _ S9 54 x1 v4 (Zi S6 57) r9 (by decide) rfl e9) ww_675 ww_679 ww_680 ww_681 ww_16 (by decide +kernel) rfl ⟨by omega, by omega⟩ (Nat.le_of_ble_eq_true rfl) eX23_moveWrong_101 (fun S13 v14 h => ?_)
              refine x_if_eq (tgt := 111) C eX23_moveWrong_104 (by decide) h (fun h => ?_) (fun h => ?_)
              · refine x_sub [] rfl ?_
                exact j_111 S13 h
              · refine x_iconst (v := 1) C eX23_moveWrong_107 (by decide) ?_
                refine x_goto (tgt := 112) C eX23_moveWrong_108 (by decide) ?_
                refine x_sub [] rfl ?_
                exact j_112 S13 1 h
        · refine x_sub [2, 3, 0] rfl ?_
          exact j_48 S6 x1 v4 h
    · refine x_sub [] rfl ?_
      exact j_17 S0 h
