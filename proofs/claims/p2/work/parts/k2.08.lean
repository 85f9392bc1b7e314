set_option maxRecDepth 20000 in
set_option maxHeartbeats 4000000 in
theorem k_X23_ends_ (l : Launch) (D : va_G) (K : Ky) (m9 : Nat) (mr : Nat → Nat) (V : Sg → Option Nat → Option (Sg × Int32)) (d : Nat) (hV : ∀ (S0 Sf : Sg) (x1 : Option Nat) (rf : Int32), V S0 x1 = some (Sf, rf) → CT l D K m9 mr yX23_ends (Cond.code yX23_ends cX23_ends 3 (some .boolean)) (1 + 2 * d) (20 + 44 * d) S0 Sf [.ref m9, va_rf x1] (some (.int rf))) (S0 Sf : Sg) (x1 : Option Nat) (rf : Int32) (h : f_ends_ K V S0 x1 = some (Sf, rf)) : CT l D K m9 mr yX23_ends_ (Cond.code yX23_ends_ cX23_ends_ 3 (some .boolean)) (2 + 2 * d) (42 + 44 * d) S0 Sf [.ref m9, va_rf x1] (some (.int rf)) := by
  refine x_start (cc := cX23_ends_) (lv := [(0, .ref m9), (1, va_rf x1)]) rfl rfl (by decide) (by simp [lv_args, cat_rf, cat_i, cat_l, cat_a]) (by simp [lg_sl, cat_rf, cat_i, cat_l, cat_a]) (fun p e R s m args below meth c Q A C => ?_)
  have j_39 : ∀ (n_39 : Nat) (S : Sg) (x1 : Option Nat) (x2 : Int32), f_ends__39 K V n_39 S x1 x2 = some (Sf, rf) → WX p l e R s m args below meth c Q D A K m9 mr 3 S0 S 39 [(0, .ref m9), (1, va_rf x1), (2, .int x2)] [] := by
    intro n_39
    induction n_39 with
    | zero => intro S x1 x2 h; unfold f_ends__39 at h; cases h
    | succ n_39 ih_39 =>
      intro S x1 x2 h
      unfold f_ends__39 at h
      refine x_iload_n C eX23_ends__39 rfl 2 rfl ?_
      refine x_aload_n C eX23_ends__40 rfl 1 rfl ?_
      refine x_gI (o9 := x1) (ci := 19) (k9 := 13) (Cn := RX19) (T := TX19) (N := 14) C rfl wt_X19 (by decide) ww_167 eX23_ends__41 h (fun v11 h => ?_)
      refine x_ic_ge (tgt := 71) C eX23_ends__44 (by decide) h (fun h => ?_) (fun h => ?_)
      · refine x_iconst (v := 1) C eX23_ends__71 (by decide) ?_
        exact x_zret C rfl rfl eX23_ends__72 h
      · refine x_tload_n C eX23_ends__47 rfl 0 rfl ?_
        refine x_aload_n C eX23_ends__48 rfl 1 rfl ?_
        refine x_gR (o9 := x1) (ci := 19) (k9 := 12) (Cn := RX19) (T := TX19) (N := 14) C rfl wt_X19 (by decide) ww_178 eX23_ends__49 h (fun v12 h => ?_)
        refine x_iload_n C eX23_ends__52 rfl 2 rfl ?_
        refine x_aQ (t9 := 7) C rfl eX23_ends__53 h (fun v13 h => ?_)
        refine x_gR (o9 := v13) (ci := 13) (k9 := 5) (Cn := RX13) (T := TX13) (N := 6) C rfl wt_X13 (by decide) ww_189 eX23_ends__54 h (fun v14 h => ?_)
        refine x_cVi (As := [va_rf v14]) (st := []) (n := 1) (frc := 1 + 2 * d) (loc := 20 + 44 * d) C h (fun S9 r9 e9 => hV _ S9 v14 r9 e9) ww_455 ww_460 ww_461 ww_462 ww_16 (by decide +kernel) rfl ⟨by omega, by omega⟩ (Nat.le_of_ble_eq_true rfl) eX23_ends__57 (fun S15 v16 h => ?_)
        refine x_if_ne (tgt := 65) C eX23_ends__60 (by decide) h (fun h => ?_) (fun h => ?_)
        · refine x_iinc (j := 2) (v := 1) (lv2 := [(0, .ref m9), (1, va_rf x1)]) C eX23_ends__65 rfl (by decide) (by decide) rfl (oky rfl (oky (cat_rf x1) ok0)) ?_
          refine x_goto (tgt := 39) C eX23_ends__68 (by decide) ?_
          refine x_sub [1, 2, 0] rfl ?_
          exact ih_39 S15 x1 (x2 + 1) h
        · refine x_iconst (v := 0) C eX23_ends__63 (by decide) ?_
          exact x_zret C rfl rfl eX23_ends__64 h
  have j_95 : ∀ (S : Sg), f_ends__95 K V S = some (Sf, rf) → WX p l e R s m args below meth c Q D A K m9 mr 3 S0 S 95 [] [] := by
    intro S h
    unfold f_ends__95 at h
    refine x_iconst (v := 0) C eX23_ends__95 (by decide) ?_
    exact x_zret C rfl rfl eX23_ends__96 h
  have j_99 : ∀ (n_99 : Nat) (S : Sg) (x1 : Option Nat) (x2 : Int32), f_ends__99 K V n_99 S x1 x2 = some (Sf, rf) → WX p l e R s m args below meth c Q D A K m9 mr 3 S0 S 99 [(0, .ref m9), (1, va_rf x1), (2, .int x2)] [] := by
    intro n_99
    induction n_99 with
    | zero => intro S x1 x2 h; unfold f_ends__99 at h; cases h
    | succ n_99 ih_99 =>
      intro S x1 x2 h
      unfold f_ends__99 at h
      refine x_iload_n C eX23_ends__99 rfl 2 rfl ?_
      refine x_aload_n C eX23_ends__100 rfl 1 rfl ?_
      refine x_gI (o9 := x1) (ci := 19) (k9 := 13) (Cn := RX19) (T := TX19) (N := 14) C rfl wt_X19 (by decide) ww_167 eX23_ends__101 h (fun v17 h => ?_)
      refine x_ic_ge (tgt := 128) C eX23_ends__104 (by decide) h (fun h => ?_) (fun h => ?_)
      · refine x_iconst (v := 1) C eX23_ends__128 (by decide) ?_
        exact x_zret C rfl rfl eX23_ends__129 h
      · refine x_tload_n C eX23_ends__107 rfl 0 rfl ?_
        refine x_aload_n C eX23_ends__108 rfl 1 rfl ?_
        refine x_gR (o9 := x1) (ci := 19) (k9 := 11) (Cn := RX19) (T := TX19) (N := 14) C rfl wt_X19 (by decide) ww_166 eX23_ends__109 h (fun v18 h => ?_)
        refine x_iload_n C eX23_ends__112 rfl 2 rfl ?_
        refine x_aQ (t9 := 10) C rfl eX23_ends__113 h (fun v19 h => ?_)
        refine x_cVi (As := [va_rf v19]) (st := []) (n := 1) (frc := 1 + 2 * d) (loc := 20 + 44 * d) C h (fun S9 r9 e9 => hV _ S9 v19 r9 e9) ww_455 ww_460 ww_461 ww_462 ww_16 (by decide +kernel) rfl ⟨by omega, by omega⟩ (Nat.le_of_ble_eq_true rfl) eX23_ends__114 (fun S20 v21 h => ?_)
        refine x_if_ne (tgt := 122) C eX23_ends__117 (by decide) h (fun h => ?_) (fun h => ?_)
        · refine x_iinc (j := 2) (v := 1) (lv2 := [(0, .ref m9), (1, va_rf x1)]) C eX23_ends__122 rfl (by decide) (by decide) rfl (oky rfl (oky (cat_rf x1) ok0)) ?_
          refine x_goto (tgt := 99) C eX23_ends__125 (by decide) ?_
          refine x_sub [1, 2, 0] rfl ?_
          exact ih_99 S20 x1 (x2 + 1) h
        · refine x_iconst (v := 0) C eX23_ends__120 (by decide) ?_
          exact x_zret C rfl rfl eX23_ends__121 h
  unfold f_ends_ at h
  refine x_aload_n C eX23_ends__0 rfl 1 rfl ?_
  refine x_gI (o9 := x1) (ci := 19) (k9 := 0) (Cn := RX19) (T := TX19) (N := 14) C rfl wt_X19 (by decide) ww_140 eX23_ends__1 h (fun v1 h => ?_)
  refine x_bipush (v := 6) C eX23_ends__4 (by decide) ?_
  refine x_ic_ne (tgt := 11) C eX23_ends__6 (by decide) h (fun h => ?_) (fun h => ?_)
  · refine x_aload_n C eX23_ends__11 rfl 1 rfl ?_
    refine x_gI (o9 := x1) (ci := 19) (k9 := 0) (Cn := RX19) (T := TX19) (N := 14) C rfl wt_X19 (by decide) ww_140 eX23_ends__12 h (fun v2 h => ?_)
    refine x_bipush (v := 8) C eX23_ends__15 (by decide) ?_
    refine x_ic_ne (tgt := 29) C eX23_ends__17 (by decide) h (fun h => ?_) (fun h => ?_)
    · refine x_aload_n C eX23_ends__29 rfl 1 rfl ?_
      refine x_gI (o9 := x1) (ci := 19) (k9 := 0) (Cn := RX19) (T := TX19) (N := 14) C rfl wt_X19 (by decide) ww_140 eX23_ends__30 h (fun v3 h => ?_)
      refine x_iconst (v := 5) C eX23_ends__33 (by decide) ?_
      refine x_ic_ne (tgt := 73) C eX23_ends__34 (by decide) h (fun h => ?_) (fun h => ?_)
      · refine x_aload_n C eX23_ends__73 rfl 1 rfl ?_
        refine x_gI (o9 := x1) (ci := 19) (k9 := 0) (Cn := RX19) (T := TX19) (N := 14) C rfl wt_X19 (by decide) ww_140 eX23_ends__74 h (fun v4 h => ?_)
        refine x_iconst (v := 3) C eX23_ends__77 (by decide) ?_
        refine x_ic_ne (tgt := 95) C eX23_ends__78 (by decide) h (fun h => ?_) (fun h => ?_)
        · refine x_sub [] rfl ?_
          exact j_95 S0 h
        · refine x_aload_n C eX23_ends__81 rfl 1 rfl ?_
          refine x_gR (o9 := x1) (ci := 19) (k9 := 10) (Cn := RX19) (T := TX19) (N := 14) C rfl wt_X19 (by decide) ww_165 eX23_ends__82 h (fun v5 h => ?_)
          refine x_aload_n C eX23_ends__85 rfl 1 rfl ?_
          refine x_gI (o9 := x1) (ci := 19) (k9 := 13) (Cn := RX19) (T := TX19) (N := 14) C rfl wt_X19 (by decide) ww_167 eX23_ends__86 h (fun v6 h => ?_)
          refine x_iconst (v := 1) C eX23_ends__89 (by decide) ?_
          refine x_isub C eX23_ends__90 ?_
          refine x_aQ (t9 := 9) C rfl eX23_ends__91 h (fun v7 h => ?_)
          refine x_ifnull (tgt := 97) C eX23_ends__92 (by decide) h (fun h => ?_) (fun h => ?_)
          · refine x_iconst (v := 0) C eX23_ends__97 (by decide) ?_
            refine x_istore_n (lv2 := [(0, .ref m9), (1, va_rf x1)]) C eX23_ends__98 rfl (by decide) rfl (oky rfl (oky (cat_rf x1) ok0)) ?_
            refine x_sub [1, 2, 0] rfl ?_
            exact j_99 bigN S0 x1 0 h
          · refine x_sub [] rfl ?_
            exact j_95 S0 h
      · refine x_iconst (v := 0) C eX23_ends__37 (by decide) ?_
        refine x_istore_n (lv2 := [(0, .ref m9), (1, va_rf x1)]) C eX23_ends__38 rfl (by decide) rfl (oky rfl (oky (cat_rf x1) ok0)) ?_
        refine x_sub [1, 2, 0] rfl ?_
        exact j_39 bigN S0 x1 0 h
    · refine x_tload_n C eX23_ends__20 rfl 0 rfl ?_
      refine x_aload_n C eX23_ends__21 rfl 1 rfl ?_
      refine x_gR (o9 := x1) (ci := 19) (k9 := 9) (Cn := RX19) (T := TX19) (N := 14) C rfl wt_X19 (by decide) ww_145 eX23_ends__22 h (fun v8 h => ?_)
      refine x_cVi (As := [va_rf v8]) (st := []) (n := 1) (frc := 1 + 2 * d) (loc := 20 + 44 * d) C h (fun S9 r9 e9 => hV _ S9 v8 r9 e9) ww_455 ww_460 ww_461 ww_462 ww_16 (by decide +kernel) rfl ⟨by omega, by omega⟩ (Nat.le_of_ble_eq_true rfl) eX23_ends__25 (fun S9 v10 h => ?_)
      exact x_zret C rfl rfl eX23_ends__28 h
  · refine x_iconst (v := 1) C eX23_ends__9 (by decide) ?_
    exact x_zret C rfl rfl eX23_ends__10 h
set_option maxRecDepth 20000 in
set_option maxHeartbeats 4000000 in
theorem k_X23_ends (l : Launch) (D : va_G) (K : Ky) (m9 : Nat) (mr : Nat → Nat) : ∀ (d : Nat) (S0 Sf : Sg) (x1 : Option Nat) (rf : Int32), f_ends K d S0 x1 = some (Sf, rf) → CT l D K m9 mr yX23_ends (Cond.code yX23_ends cX23_ends 3 (some .boolean)) (1 + 2 * d) (20 + 44 * d) S0 Sf [.ref m9, va_rf x1] (some (.int rf)) := by
  intro d
  induction d with
  | zero => intro S0 Sf x1 rf h; unfold f_ends at h; cases h
  | succ d ih =>
    intro S0 Sf x1 rf h
    refine x_start (cc := cX23_ends) (lv := [(0, .ref m9), (1, va_rf x1)]) rfl rfl (by decide) (by simp [lv_args, cat_rf, cat_i, cat_l, cat_a]) (by simp [lg_sl, cat_rf, cat_i, cat_l, cat_a]) (fun p e R s m args below meth c Q A C => ?_)
    have j_2 : ∀ (n_2 : Nat) (S : Sg) (x1 : Option Nat) (x2 : Int32), f_ends_2 K (f_ends K d) n_2 S x1 x2 = some (Sf, rf) → WX p l e R s m args below meth c Q D A K m9 mr 3 S0 S 2 [(0, .ref m9), (1, va_rf x1), (2, .int x2)] [] := by
      intro n_2
      induction n_2 with
      | zero => intro S x1 x2 h; unfold f_ends_2 at h; cases h
      | succ n_2 ih_2 =>
        intro S x1 x2 h
        unfold f_ends_2 at h
        refine x_iload_n C eX23_ends_2 rfl 2 rfl ?_
        refine x_aload_n C eX23_ends_3 rfl 1 rfl ?_
        refine x_gI (o9 := x1) (ci := 14) (k9 := 3) (Cn := RX14) (T := TX14) (N := 4) C rfl wt_X14 (by decide) ww_124 eX23_ends_4 h (fun v1 h => ?_)
        refine x_ic_ge (tgt := 31) C eX23_ends_7 (by decide) h (fun h => ?_) (fun h => ?_)
        · refine x_iconst (v := 0) C eX23_ends_31 (by decide) ?_
          exact x_zret C rfl rfl eX23_ends_32 h
        · refine x_tload_n C eX23_ends_10 rfl 0 rfl ?_
          refine x_aload_n C eX23_ends_11 rfl 1 rfl ?_
          refine x_gR (o9 := x1) (ci := 14) (k9 := 2) (Cn := RX14) (T := TX14) (N := 4) C rfl wt_X14 (by decide) ww_125 eX23_ends_12 h (fun v2 h => ?_)
          refine x_iload_n C eX23_ends_15 rfl 2 rfl ?_
          refine x_aQ (t9 := 11) C rfl eX23_ends_16 h (fun v3 h => ?_)
          refine x_cVi (As := [va_rf v3]) (st := []) (n := 1) (frc := 2 + 2 * d) (loc := 42 + 44 * d) C h (fun S9 r9 e9 => k_X23_ends_ l D K m9 mr (f_ends K d) d ih _ S9 v3 r9 e9) ww_459 ww_456 ww_457 ww_458 ww_16 (by decide +kernel) rfl ⟨by omega, by omega⟩ (Nat.le_of_ble_eq_true rfl) eX23_ends_17 (fun S4 v5 h => ?_)
          refine x_if_eq (tgt := 25) C eX23_ends_20 (by decide) h (fun h => ?_) (fun h => ?_)
          · refine x_iinc (j := 2) (v := 1) (lv2 := [(0, .ref m9), (1, va_rf x1)]) C eX23_ends_25 rfl (by decide) (by decide) rfl (oky rfl (oky (cat_rf x1) ok0)) ?_
            refine x_goto (tgt := 2) C eX23_ends_28 (by decide) ?_
            refine x_sub [1, 2, 0] rfl ?_
            exact ih_2 S4 x1 (x2 + 1) h
          · refine x_iconst (v := 1) C eX23_ends_23 (by decide) ?_
            exact x_zret C rfl rfl eX23_ends_24 h
    unfold f_ends at h
    refine x_iconst (v := 0) C eX23_ends_0 (by decide) ?_
    refine x_istore_n (lv2 := [(0, .ref m9), (1, va_rf x1)]) C eX23_ends_1 rfl (by decide) rfl (oky rfl (oky (cat_rf x1) ok0)) ?_
    refine x_sub [1, 2, 0] rfl ?_
    exact j_2 bigN S0 x1 0 h
set_option maxRecDepth 20000 in
set_option maxHeartbeats 4000000 in
theorem k_X23_typeFunction (l : Launch) (D : va_G) (K : Ky) (m9 : Nat) (mr : Nat → Nat) (S0 Sf : Sg) (x1 : Int32) (rf : Unit) (h : f_typeFunction K S0 x1 = some (Sf, rf)) : CT l D K m9 mr yX23_typeFunction (Cond.code yX23_typeFunction cX23_typeFunction 4 none) (1830) (43950) S0 Sf [.ref m9, .int x1] none := by
  refine x_start (cc := cX23_typeFunction) (lv := [(0, .ref m9), (1, .int x1)]) rfl rfl (by decide) (by simp [lv_args, cat_rf, cat_i, cat_l, cat_a]) (by simp [lg_sl, cat_rf, cat_i, cat_l, cat_a]) (fun p e R s m args below meth c Q A C => ?_)
  have j_111 : ∀ (S : Sg), f_typeFunction_111 K S = some (Sf, rf) → WX p l e R s m args below meth c Q D A K m9 mr 4 S0 S 111 [] [] := by
    intro S h
    unfold f_typeFunction_111 at h
    exact x_vret C rfl rfl eX23_typeFunction_111 h
  have j_24 : ∀ (n_24 : Nat) (S : Sg) (x2 : Option Nat) (x3 : Int32), f_typeFunction_24 K n_24 S x2 x3 = some (Sf, rf) → WX p l e R s m args below meth c Q D A K m9 mr 4 S0 S 24 [(0, .ref m9), (2, va_rf x2), (3, .int x3)] [] := by
    intro n_24
    induction n_24 with
    | zero => intro S x2 x3 h; unfold f_typeFunction_24 at h; cases h
    | succ n_24 ih_24 =>
      intro S x2 x3 h
      unfold f_typeFunction_24 at h
      refine x_iload_n C eX23_typeFunction_24 rfl 2 rfl ?_
      refine x_aload_n C eX23_typeFunction_25 rfl 1 rfl ?_
      refine x_gI (o9 := x2) (ci := 16) (k9 := 3) (Cn := RX16) (T := TX16) (N := 22) C rfl wt_X16 (by decide) ww_51 eX23_typeFunction_26 h (fun v5 h => ?_)
      refine x_ic_ge (tgt := 61) C eX23_typeFunction_29 (by decide) h (fun h => ?_) (fun h => ?_)
      · refine x_tload_n C eX23_typeFunction_61 rfl 0 rfl ?_
        refine x_aload_n C eX23_typeFunction_62 rfl 1 rfl ?_
        refine x_gR (o9 := x2) (ci := 16) (k9 := 16) (Cn := RX16) (T := TX16) (N := 22) C rfl wt_X16 (by decide) ww_99 eX23_typeFunction_63 h (fun v6 h => ?_)
        refine x_cVv (As := [va_rf v6]) (st := []) (n := 1) (frc := 1649 + 4 * 45) (loc := 39562 + 97 * 45) C h (fun S9 r9 e9 => k_X23_typeBlock l D K m9 mr 45 _ S9 v6 r9 e9) ww_413 ww_428 ww_429 ww_430 ww_16 (by decide +kernel) rfl ⟨by omega, by omega⟩ (Nat.le_of_ble_eq_true rfl) eX23_typeFunction_66 (fun S7 v8 h => ?_)
        refine x_tload_n C eX23_typeFunction_69 rfl 0 rfl ?_
        refine x_cVi (As := []) (st := []) (n := 0) (frc := 1) (loc := 20) C h (fun S9 r9 e9 => k_X23_ok l D K m9 mr _ S9 r9 e9) ww_0 ww_13 ww_14 ww_15 ww_16 (by decide +kernel) rfl ⟨by omega, by omega⟩ (Nat.le_of_ble_eq_true rfl) eX23_typeFunction_70 (fun S9 v10 h => ?_)
        refine x_if_eq (tgt := 111) C eX23_typeFunction_73 (by decide) h (fun h => ?_) (fun h => ?_)
        · refine x_sub [] rfl ?_
          exact j_111 S9 h
        · refine x_aload_n C eX23_typeFunction_76 rfl 1 rfl ?_
          refine x_gR (o9 := x2) (ci := 16) (k9 := 15) (Cn := RX16) (T := TX16) (N := 22) C rfl wt_X16 (by decide) ww_285 eX23_typeFunction_77 h (fun v11 h => ?_)
          refine x_gI (o9 := v11) (ci := 20) (k9 := 0) (Cn := RX20) (T := TX20) (N := 4) C rfl wt_X20 (by decide) ww_247 eX23_typeFunction_80 h (fun v12 h => ?_)
          refine x_bipush (v := 8) C eX23_typeFunction_83 (by decide) ?_
          refine x_ic_eq (tgt := 111) C eX23_typeFunction_85 (by decide) h (fun h => ?_) (fun h => ?_)
          · refine x_sub [] rfl ?_
            exact j_111 S9 h
          · refine x_tload_n C eX23_typeFunction_88 rfl 0 rfl ?_
            refine x_aload_n C eX23_typeFunction_89 rfl 1 rfl ?_
            refine x_gR (o9 := x2) (ci := 16) (k9 := 16) (Cn := RX16) (T := TX16) (N := 22) C rfl wt_X16 (by decide) ww_99 eX23_typeFunction_90 h (fun v13 h => ?_)
            refine x_cVi (As := [va_rf v13]) (st := []) (n := 1) (frc := 1 + 2 * 45) (loc := 20 + 44 * 45) C h (fun S9 r9 e9 => k_X23_ends l D K m9 mr 45 _ S9 v13 r9 e9) ww_455 ww_460 ww_461 ww_462 ww_16 (by decide +kernel) rfl ⟨by omega, by omega⟩ (Nat.le_of_ble_eq_true rfl) eX23_typeFunction_93 (fun S14 v15 h => ?_)
            refine x_if_ne (tgt := 111) C eX23_typeFunction_96 (by decide) h (fun h => ?_) (fun h => ?_)
            · refine x_sub [] rfl ?_
              exact j_111 S14 h
            · refine x_tload_n C eX23_typeFunction_99 rfl 0 rfl ?_
              refine x_iconst (v := 4) C eX23_typeFunction_100 (by decide) ?_
              refine x_aload_n C eX23_typeFunction_101 rfl 1 rfl ?_
              refine x_gR (o9 := x2) (ci := 16) (k9 := 16) (Cn := RX16) (T := TX16) (N := 22) C rfl wt_X16 (by decide) ww_99 eX23_typeFunction_102 h (fun v16 h => ?_)
              refine x_gI (o9 := v16) (ci := 14) (k9 := 1) (Cn := RX14) (T := TX14) (N := 4) C rfl wt_X14 (by decide) ww_127 eX23_typeFunction_105 h (fun v17 h => ?_)
              refine x_cVv (As := [.int 4, .int v17]) (st := []) (n := 2) (frc := 1) (loc := 20) C h (fun S9 r9 e9 => k_X23_fail l D K m9 mr _ S9 4 v17 r9 e9) ww_2 ww_20 ww_21 ww_22 ww_16 (by decide +kernel) rfl ⟨by omega, by omega⟩ (Nat.le_of_ble_eq_true rfl) eX23_typeFunction_108 (fun S18 v19 h => ?_)
              refine x_sub [] rfl ?_
              exact j_111 S18 h
      · refine x_aload_n C eX23_typeFunction_32 rfl 1 rfl ?_
        refine x_gR (o9 := x2) (ci := 16) (k9 := 17) (Cn := RX16) (T := TX16) (N := 22) C rfl wt_X16 (by decide) ww_87 eX23_typeFunction_33 h (fun v20 h => ?_)
        refine x_iload_n C eX23_typeFunction_36 rfl 2 rfl ?_
        refine x_tload_n C eX23_typeFunction_37 rfl 0 rfl ?_
        refine x_aload_n C eX23_typeFunction_38 rfl 1 rfl ?_
        refine x_gR (o9 := x2) (ci := 16) (k9 := 8) (Cn := RX16) (T := TX16) (N := 22) C rfl wt_X16 (by decide) ww_55 eX23_typeFunction_39 h (fun v21 h => ?_)
        refine x_iload_n C eX23_typeFunction_42 rfl 2 rfl ?_
        refine x_aI C eX23_typeFunction_43 h (fun v22 h => ?_)
        refine x_aload_n C eX23_typeFunction_44 rfl 1 rfl ?_
        refine x_gR (o9 := x2) (ci := 16) (k9 := 10) (Cn := RX16) (T := TX16) (N := 22) C rfl wt_X16 (by decide) ww_73 eX23_typeFunction_45 h (fun v23 h => ?_)
        refine x_iload_n C eX23_typeFunction_48 rfl 2 rfl ?_
        refine x_aQ (t9 := 4) C rfl eX23_typeFunction_49 h (fun v24 h => ?_)
        refine x_iconst (v := 0) C eX23_typeFunction_50 (by decide) ?_
        refine x_cVr (As := [.int v22, va_rf v24, .int 0]) (st := [.int x3, va_rf v20]) (n := 3) (frc := 2) (loc := 40) C h (fun S9 r9 e9 => k_X23_declare l D K m9 mr _ S9 v22 v24 0 r9 e9) ww_322 ww_441 ww_442 ww_443 ww_16 (by decide +kernel) rfl ⟨by omega, by omega⟩ (Nat.le_of_ble_eq_true rfl) eX23_typeFunction_51 (fun S25 v26 h => ?_)
        refine x_bQ (t9 := 5) (ci := 21) C rfl rfl eX23_typeFunction_54 h (fun S27 h => ?_)
        refine x_iinc (j := 2) (v := 1) (lv2 := [(0, .ref m9), (2, va_rf x2)]) C eX23_typeFunction_55 rfl (by decide) (by decide) rfl (oky rfl (oky (cat_rf x2) ok0)) ?_
        refine x_goto (tgt := 24) C eX23_typeFunction_58 (by decide) ?_
        refine x_sub [1, 2, 0] rfl ?_
        exact ih_24 S27 x2 (x3 + 1) h
  unfold f_typeFunction at h
  refine x_tload_n C eX23_typeFunction_0 rfl 0 rfl ?_
  refine x_mV (k9 := 11) C (by decide) ww_114 eX23_typeFunction_1 rfl ?_
  refine x_iload_n C eX23_typeFunction_4 rfl 1 rfl ?_
  refine x_rQ (r := 11) (t9 := 3) C (by decide) rfl (by decide) rfl eX23_typeFunction_5 h (fun v1 h => ?_)
  refine x_astore_n (lv2 := [(0, .ref m9), (1, .int x1)]) C eX23_typeFunction_6 rfl (by decide) rfl (oky rfl (oky rfl ok0)) ?_
  refine x_tload_n C eX23_typeFunction_7 rfl 1 rfl ?_
  refine x_aload_n C eX23_typeFunction_8 rfl 0 rfl ?_
  refine x_pMf C ww_447 eX23_typeFunction_9 h (fun S2 h => ?_)
  refine x_tload_n C eX23_typeFunction_12 rfl 1 rfl ?_
  refine x_iconst (v := 0) C eX23_typeFunction_13 (by decide) ?_
  refine x_pM (k9 := 23) C (by decide) rfl (by decide) ww_332 rfl (by decide +kernel) eX23_typeFunction_14 h (fun S3 h => ?_)
  refine x_tload_n C eX23_typeFunction_17 rfl 1 rfl ?_
  refine x_iconst (v := 0) C eX23_typeFunction_18 (by decide) ?_
  refine x_pM (k9 := 24) C (by decide) rfl (by decide) ww_326 rfl (by decide +kernel) eX23_typeFunction_19 h (fun S4 h => ?_)
  refine x_iconst (v := 0) C eX23_typeFunction_22 (by decide) ?_
  refine x_istore_n (lv2 := [(2, va_rf v1), (0, .ref m9), (1, .int x1)]) C eX23_typeFunction_23 rfl (by decide) rfl (oky (cat_rf v1) (oky rfl (oky rfl ok0))) ?_
  refine x_sub [2, 1, 0] rfl ?_
  exact j_24 bigN S4 v1 0 h
set_option maxRecDepth 20000 in
set_option maxHeartbeats 4000000 in
theorem k_X23_typeAll (l : Launch) (D : va_G) (K : Ky) (m9 : Nat) (mr : Nat → Nat) (S0 Sf : Sg) (rf : Unit) (h : f_typeAll K S0 = some (Sf, rf)) : CT l D K m9 mr yX23_typeAll (Cond.code yX23_typeAll cX23_typeAll 2 none) (1831) (43973) S0 Sf [.ref m9] none := by
  refine x_start (cc := cX23_typeAll) (lv := [(0, .ref m9)]) rfl rfl (by decide) (by simp [lv_args, cat_rf, cat_i, cat_l, cat_a]) (by simp [lg_sl, cat_rf, cat_i, cat_l, cat_a]) (fun p e R s m args below meth c Q A C => ?_)
  have j_117 : ∀ (S : Sg), f_typeAll_117 K S = some (Sf, rf) → WX p l e R s m args below meth c Q D A K m9 mr 2 S0 S 117 [] [] := by
    intro S h
    unfold f_typeAll_117 at h
    exact x_vret C rfl rfl eX23_typeAll_117 h
  have j_77 : ∀ (n_77 : Nat) (S : Sg) (x1 : Int32), f_typeAll_77 K n_77 S x1 = some (Sf, rf) → WX p l e R s m args below meth c Q D A K m9 mr 2 S0 S 77 [(0, .ref m9), (1, .int x1)] [] := by
    intro n_77
    induction n_77 with
    | zero => intro S x1 h; unfold f_typeAll_77 at h; cases h
    | succ n_77 ih_77 =>
      intro S x1 h
      have j_111 : ∀ (S : Sg) (x1 : Int32), f_typeAll_111 K (f_typeAll_77 K n_77) S x1 = some (Sf, rf) → WX p l e R s m args below meth c Q D A K m9 mr 2 S0 S 111 [(0, .ref m9), (1, .int x1)] [] := by
        intro S x1 h
        unfold f_typeAll_111 at h
        refine x_iinc (j := 1) (v := 1) (lv2 := [(0, .ref m9)]) C eX23_typeAll_111 rfl (by decide) (by decide) rfl (oky rfl ok0) ?_
        refine x_goto (tgt := 77) C eX23_typeAll_114 (by decide) ?_
        refine x_sub [1, 0] rfl ?_
        exact ih_77 S (x1 + 1) h
      unfold f_typeAll_77 at h
      refine x_iload_n C eX23_typeAll_77 rfl 1 rfl ?_
      refine x_tload_n C eX23_typeAll_78 rfl 0 rfl ?_
      refine x_mV (k9 := 12) C (by decide) ww_102 eX23_typeAll_79 rfl ?_
      refine x_ic_ge (tgt := 117) C eX23_typeAll_82 (by decide) h (fun h => ?_) (fun h => ?_)
      · refine x_sub [] rfl ?_
        exact j_117 S h
      · refine x_tload_n C eX23_typeAll_85 rfl 0 rfl ?_
        refine x_cVi (As := []) (st := []) (n := 0) (frc := 1) (loc := 20) C h (fun S9 r9 e9 => k_X23_ok l D K m9 mr _ S9 r9 e9) ww_0 ww_13 ww_14 ww_15 ww_16 (by decide +kernel) rfl ⟨by omega, by omega⟩ (Nat.le_of_ble_eq_true rfl) eX23_typeAll_86 (fun S21 v22 h => ?_)
        refine x_if_eq (tgt := 117) C eX23_typeAll_89 (by decide) h (fun h => ?_) (fun h => ?_)
        · refine x_sub [] rfl ?_
          exact j_117 S21 h
        · refine x_tload_n C eX23_typeAll_92 rfl 0 rfl ?_
          refine x_mV (k9 := 11) C (by decide) ww_114 eX23_typeAll_93 rfl ?_
          refine x_iload_n C eX23_typeAll_96 rfl 1 rfl ?_
          refine x_rQ (r := 11) (t9 := 3) C (by decide) rfl (by decide) rfl eX23_typeAll_97 h (fun v23 h => ?_)
          refine x_gI (o9 := v23) (ci := 16) (k9 := 2) (Cn := RX16) (T := TX16) (N := 22) C rfl wt_X16 (by decide) ww_72 eX23_typeAll_98 h (fun v24 h => ?_)
          refine x_bipush (v := 12) C eX23_typeAll_101 (by decide) ?_
          refine x_ic_ne (tgt := 111) C eX23_typeAll_103 (by decide) h (fun h => ?_) (fun h => ?_)
          · refine x_sub [0, 1] rfl ?_
            exact j_111 S21 x1 h
          · refine x_tload_n C eX23_typeAll_106 rfl 0 rfl ?_
            refine x_iload_n C eX23_typeAll_107 rfl 1 rfl ?_
            refine x_cVv (As := [.int x1]) (st := []) (n := 1) (frc := 1830) (loc := 43950) C h (fun S9 r9 e9 => k_X23_typeFunction l D K m9 mr _ S9 x1 r9 e9) ww_463 ww_480 ww_481 ww_482 ww_16 (by decide +kernel) rfl ⟨by omega, by omega⟩ (Nat.le_of_ble_eq_true rfl) eX23_typeAll_108 (fun S25 v26 h => ?_)
            refine x_sub [0, 1] rfl ?_
            exact j_111 S25 x1 h
  have j_75 : ∀ (S : Sg), f_typeAll_75 K S = some (Sf, rf) → WX p l e R s m args below meth c Q D A K m9 mr 2 S0 S 75 [(0, .ref m9)] [] := by
    intro S h
    unfold f_typeAll_75 at h
    refine x_iconst (v := 0) C eX23_typeAll_75 (by decide) ?_
    refine x_istore_n (lv2 := [(0, .ref m9)]) C eX23_typeAll_76 rfl (by decide) rfl (oky rfl ok0) ?_
    refine x_sub [1, 0] rfl ?_
    exact j_77 bigN S 0 h
  have j_64 : ∀ (S : Sg), f_typeAll_64 K S = some (Sf, rf) → WX p l e R s m args below meth c Q D A K m9 mr 2 S0 S 64 [(0, .ref m9)] [] := by
    intro S h
    unfold f_typeAll_64 at h
    refine x_tload_n C eX23_typeAll_64 rfl 0 rfl ?_
    refine x_cVi (As := []) (st := []) (n := 0) (frc := 1) (loc := 20) C h (fun S9 r9 e9 => k_X23_ok l D K m9 mr _ S9 r9 e9) ww_0 ww_13 ww_14 ww_15 ww_16 (by decide +kernel) rfl ⟨by omega, by omega⟩ (Nat.le_of_ble_eq_true rfl) eX23_typeAll_65 (fun S17 v18 h => ?_)
    refine x_if_eq (tgt := 75) C eX23_typeAll_68 (by decide) h (fun h => ?_) (fun h => ?_)
    · refine x_sub [0] rfl ?_
      exact j_75 S17 h
    · refine x_tload_n C eX23_typeAll_71 rfl 0 rfl ?_
      refine x_cVv (As := []) (st := []) (n := 0) (frc := 2) (loc := 42) C h (fun S9 r9 e9 => k_X23_findMain l D K m9 mr _ S9 r9 e9) ww_316 ww_477 ww_478 ww_479 ww_16 (by decide +kernel) rfl ⟨by omega, by omega⟩ (Nat.le_of_ble_eq_true rfl) eX23_typeAll_72 (fun S19 v20 h => ?_)
      refine x_sub [0] rfl ?_
      exact j_75 S19 h
  have j_53 : ∀ (S : Sg), f_typeAll_53 K S = some (Sf, rf) → WX p l e R s m args below meth c Q D A K m9 mr 2 S0 S 53 [(0, .ref m9)] [] := by
    intro S h
    unfold f_typeAll_53 at h
    refine x_tload_n C eX23_typeAll_53 rfl 0 rfl ?_
    refine x_cVi (As := []) (st := []) (n := 0) (frc := 1) (loc := 20) C h (fun S9 r9 e9 => k_X23_ok l D K m9 mr _ S9 r9 e9) ww_0 ww_13 ww_14 ww_15 ww_16 (by decide +kernel) rfl ⟨by omega, by omega⟩ (Nat.le_of_ble_eq_true rfl) eX23_typeAll_54 (fun S13 v14 h => ?_)
    refine x_if_eq (tgt := 64) C eX23_typeAll_57 (by decide) h (fun h => ?_) (fun h => ?_)
    · refine x_sub [0] rfl ?_
      exact j_64 S13 h
    · refine x_tload_n C eX23_typeAll_60 rfl 0 rfl ?_
      refine x_cVv (As := []) (st := []) (n := 0) (frc := 82) (loc := 1802) C h (fun S9 r9 e9 => k_X23_leaves l D K m9 mr _ S9 r9 e9) ww_315 ww_474 ww_475 ww_476 ww_16 (by decide +kernel) rfl ⟨by omega, by omega⟩ (Nat.le_of_ble_eq_true rfl) eX23_typeAll_61 (fun S15 v16 h => ?_)
      refine x_sub [0] rfl ?_
      exact j_64 S15 h
  have j_42 : ∀ (S : Sg), f_typeAll_42 K S = some (Sf, rf) → WX p l e R s m args below meth c Q D A K m9 mr 2 S0 S 42 [(0, .ref m9)] [] := by
    intro S h
    unfold f_typeAll_42 at h
    refine x_tload_n C eX23_typeAll_42 rfl 0 rfl ?_
    refine x_cVi (As := []) (st := []) (n := 0) (frc := 1) (loc := 20) C h (fun S9 r9 e9 => k_X23_ok l D K m9 mr _ S9 r9 e9) ww_0 ww_13 ww_14 ww_15 ww_16 (by decide +kernel) rfl ⟨by omega, by omega⟩ (Nat.le_of_ble_eq_true rfl) eX23_typeAll_43 (fun S9 v10 h => ?_)
    refine x_if_eq (tgt := 53) C eX23_typeAll_46 (by decide) h (fun h => ?_) (fun h => ?_)
    · refine x_sub [0] rfl ?_
      exact j_53 S9 h
    · refine x_tload_n C eX23_typeAll_49 rfl 0 rfl ?_
      refine x_cVv (As := []) (st := []) (n := 0) (frc := 162) (loc := 3725) C h (fun S9 r9 e9 => k_X23_sizes l D K m9 mr _ S9 r9 e9) ww_306 ww_471 ww_472 ww_473 ww_16 (by decide +kernel) rfl ⟨by omega, by omega⟩ (Nat.le_of_ble_eq_true rfl) eX23_typeAll_50 (fun S11 v12 h => ?_)
      refine x_sub [0] rfl ?_
      exact j_53 S11 h
  have j_11 : ∀ (n_11 : Nat) (S : Sg) (x1 : Int32), f_typeAll_11 K n_11 S x1 = some (Sf, rf) → WX p l e R s m args below meth c Q D A K m9 mr 2 S0 S 11 [(0, .ref m9), (1, .int x1)] [] := by
    intro n_11
    induction n_11 with
    | zero => intro S x1 h; unfold f_typeAll_11 at h; cases h
    | succ n_11 ih_11 =>
      intro S x1 h
      unfold f_typeAll_11 at h
      refine x_iload_n C eX23_typeAll_11 rfl 1 rfl ?_
      refine x_tload_n C eX23_typeAll_12 rfl 0 rfl ?_
      refine x_mV (k9 := 12) C (by decide) ww_102 eX23_typeAll_13 rfl ?_
      refine x_ic_ge (tgt := 42) C eX23_typeAll_16 (by decide) h (fun h => ?_) (fun h => ?_)
      · refine x_sub [0] rfl ?_
        exact j_42 S h
      · refine x_tload_n C eX23_typeAll_19 rfl 0 rfl ?_
        refine x_cVi (As := []) (st := []) (n := 0) (frc := 1) (loc := 20) C h (fun S9 r9 e9 => k_X23_ok l D K m9 mr _ S9 r9 e9) ww_0 ww_13 ww_14 ww_15 ww_16 (by decide +kernel) rfl ⟨by omega, by omega⟩ (Nat.le_of_ble_eq_true rfl) eX23_typeAll_20 (fun S4 v5 h => ?_)
        refine x_if_eq (tgt := 42) C eX23_typeAll_23 (by decide) h (fun h => ?_) (fun h => ?_)
        · refine x_sub [0] rfl ?_
          exact j_42 S4 h
        · refine x_tload_n C eX23_typeAll_26 rfl 0 rfl ?_
          refine x_tload_n C eX23_typeAll_27 rfl 0 rfl ?_
          refine x_mV (k9 := 11) C (by decide) ww_114 eX23_typeAll_28 rfl ?_
          refine x_iload_n C eX23_typeAll_31 rfl 1 rfl ?_
          refine x_rQ (r := 11) (t9 := 3) C (by decide) rfl (by decide) rfl eX23_typeAll_32 h (fun v6 h => ?_)
          refine x_cVv (As := [va_rf v6]) (st := []) (n := 1) (frc := 25) (loc := 589) C h (fun S9 r9 e9 => k_X23_itemTypes l D K m9 mr _ S9 v6 r9 e9) ww_278 ww_468 ww_469 ww_470 ww_16 (by decide +kernel) rfl ⟨by omega, by omega⟩ (Nat.le_of_ble_eq_true rfl) eX23_typeAll_33 (fun S7 v8 h => ?_)
          refine x_iinc (j := 1) (v := 1) (lv2 := [(0, .ref m9)]) C eX23_typeAll_36 rfl (by decide) (by decide) rfl (oky rfl ok0) ?_
          refine x_goto (tgt := 11) C eX23_typeAll_39 (by decide) ?_
          refine x_sub [1, 0] rfl ?_
          exact ih_11 S7 (x1 + 1) h
  unfold f_typeAll at h
  refine x_tload_n C eX23_typeAll_0 rfl 0 rfl ?_
  refine x_iconst (v := 0) C eX23_typeAll_1 (by decide) ?_
  refine x_pM (k9 := 19) C (by decide) rfl (by decide) ww_245 rfl (by decide +kernel) eX23_typeAll_2 h (fun S1 h => ?_)
  refine x_tload_n C eX23_typeAll_5 rfl 0 rfl ?_
  refine x_cVv (As := []) (st := []) (n := 0) (frc := 2) (loc := 44) C h (fun S9 r9 e9 => k_X23_itemNames l D K m9 mr _ S9 r9 e9) ww_277 ww_465 ww_466 ww_467 ww_16 (by decide +kernel) rfl ⟨by omega, by omega⟩ (Nat.le_of_ble_eq_true rfl) eX23_typeAll_6 (fun S2 v3 h => ?_)
  refine x_iconst (v := 0) C eX23_typeAll_9 (by decide) ?_
  refine x_istore_n (lv2 := [(0, .ref m9)]) C eX23_typeAll_10 rfl (by decide) rfl (oky rfl ok0) ?_
  refine x_sub [1, 0] rfl ?_
  exact j_11 bigN S2 0 h
set_option maxRecDepth 20000 in
set_option maxHeartbeats 4000000 in
theorem k_X23_point (l : Launch) (D : va_G) (K : Ky) (m9 : Nat) (mr : Nat → Nat) (S0 Sf : Sg) (x1 : Int32) (x2 : Int32) (rf : Int32) (h : f_point K S0 x1 x2 = some (Sf, rf)) : CT l D K m9 mr yX23_point (Cond.code yX23_point cX23_point 4 (some .int)) (1) (20) S0 Sf [.ref m9, .int x1, .int x2] (some (.int rf)) := by
  refine x_start (cc := cX23_point) (lv := [(0, .ref m9), (1, .int x1), (2, .int x2)]) rfl rfl (by decide) (by simp [lv_args, cat_rf, cat_i, cat_l, cat_a]) (by simp [lg_sl, cat_rf, cat_i, cat_l, cat_a]) (fun p e R s m args below meth c Q A C => ?_)
  unfold f_point at h
  refine x_tload_n C eX23_point_0 rfl 0 rfl ?_
  refine x_mV (k9 := 26) C (by decide) ww_484 eX23_point_1 rfl ?_
  refine x_istore_n (lv2 := [(0, .ref m9), (1, .int x1), (2, .int x2)]) C eX23_point_4 rfl (by decide) rfl (oky rfl (oky rfl (oky rfl ok0))) ?_
  refine x_tload_n C eX23_point_5 rfl 1 rfl ?_
  refine x_dup C eX23_point_6 rfl ?_
  refine x_mV (k9 := 26) C (by decide) ww_484 eX23_point_7 rfl ?_
  refine x_iconst (v := 1) C eX23_point_10 (by decide) ?_
  refine x_iadd C eX23_point_11 ?_
  refine x_pM (k9 := 26) C (by decide) rfl (by decide) ww_484 rfl (by decide +kernel) eX23_point_12 h (fun S1 h => ?_)
  refine x_tload_n C eX23_point_15 rfl 1 rfl ?_
  refine x_mV (k9 := 27) C (by decide) ww_485 eX23_point_16 rfl ?_
  refine x_iload_n C eX23_point_19 rfl 0 rfl ?_
  refine x_iload_n C eX23_point_20 rfl 2 rfl ?_
  refine x_wI (r := 27) C (by decide) rfl eX23_point_21 h (fun S2 h => ?_)
  refine x_tload_n C eX23_point_22 rfl 1 rfl ?_
  refine x_mV (k9 := 32) C (by decide) ww_486 eX23_point_23 rfl ?_
  refine x_iload_n C eX23_point_26 rfl 0 rfl ?_
  refine x_iload_n C eX23_point_27 rfl 3 rfl ?_
  refine x_wI (r := 32) C (by decide) rfl eX23_point_28 h (fun S3 h => ?_)
  refine x_tload_n C eX23_point_29 rfl 1 rfl ?_
  refine x_mV (k9 := 28) C (by decide) ww_487 eX23_point_30 rfl ?_
  refine x_iload_n C eX23_point_33 rfl 0 rfl ?_
  refine x_iconst (v := 0) C eX23_point_34 (by decide) ?_
  refine x_wI (r := 28) C (by decide) rfl eX23_point_35 h (fun S4 h => ?_)
  refine x_tload_n C eX23_point_36 rfl 1 rfl ?_
  refine x_mV (k9 := 29) C (by decide) ww_488 eX23_point_37 rfl ?_
  refine x_iload_n C eX23_point_40 rfl 0 rfl ?_
  refine x_iconst (v := 0) C eX23_point_41 (by decide) ?_
  refine x_wI (r := 29) C (by decide) rfl eX23_point_42 h (fun S5 h => ?_)
  refine x_tload_n C eX23_point_43 rfl 1 rfl ?_
  refine x_mV (k9 := 30) C (by decide) ww_489 eX23_point_44 rfl ?_
  refine x_iload_n C eX23_point_47 rfl 0 rfl ?_
  refine x_iconst (v := (-1)) C eX23_point_48 (by decide) ?_
  refine x_wI (r := 30) C (by decide) rfl eX23_point_49 h (fun S6 h => ?_)
  refine x_tload_n C eX23_point_50 rfl 1 rfl ?_
  refine x_mV (k9 := 31) C (by decide) ww_490 eX23_point_51 rfl ?_
  refine x_iload_n C eX23_point_54 rfl 0 rfl ?_
  refine x_lconst (v := 0) C eX23_point_55 (by decide) ?_
  refine x_wJ (r := 31) C (by decide) rfl eX23_point_56 h (fun S7 h => ?_)
  refine x_tload_n C eX23_point_57 rfl 1 rfl ?_
  refine x_mV (k9 := 33) C (by decide) ww_491 eX23_point_58 rfl ?_
  refine x_iload_n C eX23_point_61 rfl 0 rfl ?_
  refine x_iconst (v := 0) C eX23_point_62 (by decide) ?_
  refine x_wI (r := 33) C (by decide) rfl eX23_point_63 h (fun S8 h => ?_)
  refine x_tload_n C eX23_point_64 rfl 1 rfl ?_
  refine x_mV (k9 := 34) C (by decide) ww_492 eX23_point_65 rfl ?_
  refine x_iload_n C eX23_point_68 rfl 0 rfl ?_
  refine x_iconst (v := (-1)) C eX23_point_69 (by decide) ?_
  refine x_wI (r := 34) C (by decide) rfl eX23_point_70 h (fun S9 h => ?_)
  refine x_tload_n C eX23_point_71 rfl 1 rfl ?_
  refine x_mV (k9 := 35) C (by decide) ww_493 eX23_point_72 rfl ?_
  refine x_iload_n C eX23_point_75 rfl 0 rfl ?_
  refine x_iconst (v := (-1)) C eX23_point_76 (by decide) ?_
  refine x_wI (r := 35) C (by decide) rfl eX23_point_77 h (fun S10 h => ?_)
  refine x_tload_n C eX23_point_78 rfl 1 rfl ?_
  refine x_mV (k9 := 36) C (by decide) ww_494 eX23_point_79 rfl ?_
  refine x_iload_n C eX23_point_82 rfl 0 rfl ?_
  refine x_null C eX23_point_83 ?_
  refine x_wA (r := 36) C (by decide) rfl eX23_point_84 h (fun S11 h => ?_)
  refine x_tload_n C eX23_point_85 rfl 1 rfl ?_
  refine x_mV (k9 := 37) C (by decide) ww_495 eX23_point_86 rfl ?_
  refine x_iload_n C eX23_point_89 rfl 0 rfl ?_
  refine x_null C eX23_point_90 ?_
  refine x_wA (r := 37) C (by decide) rfl eX23_point_91 h (fun S12 h => ?_)
  refine x_tload_n C eX23_point_92 rfl 1 rfl ?_
  refine x_mV (k9 := 38) C (by decide) ww_496 eX23_point_93 rfl ?_
  refine x_iload_n C eX23_point_96 rfl 0 rfl ?_
  refine x_null C eX23_point_97 ?_
  refine x_wQ (r := 38) (t9 := 6) (ci := 18) C (by decide) rfl (by decide) rfl rfl eX23_point_98 h (fun S13 h => ?_)
  refine x_tload_n C eX23_point_99 rfl 1 rfl ?_
  refine x_mV (k9 := 39) C (by decide) ww_497 eX23_point_100 rfl ?_
  refine x_iload_n C eX23_point_103 rfl 0 rfl ?_
  refine x_null C eX23_point_104 ?_
  refine x_wQ (r := 39) (t9 := 4) (ci := 20) C (by decide) rfl (by decide) rfl rfl eX23_point_105 h (fun S14 h => ?_)
  refine x_tload_n C eX23_point_106 rfl 1 rfl ?_
  refine x_mV (k9 := 40) C (by decide) ww_498 eX23_point_107 rfl ?_
  refine x_iload_n C eX23_point_110 rfl 0 rfl ?_
  refine x_null C eX23_point_111 ?_
  refine x_wQ (r := 40) (t9 := 5) (ci := 21) C (by decide) rfl (by decide) rfl rfl eX23_point_112 h (fun S15 h => ?_)
  refine x_tload_n C eX23_point_113 rfl 1 rfl ?_
  refine x_mV (k9 := 41) C (by decide) ww_499 eX23_point_114 rfl ?_
  refine x_iload_n C eX23_point_117 rfl 0 rfl ?_
  refine x_null C eX23_point_118 ?_
  refine x_wQ (r := 41) (t9 := 7) (ci := 13) C (by decide) rfl (by decide) rfl rfl eX23_point_119 h (fun S16 h => ?_)
  refine x_tload_n C eX23_point_120 rfl 1 rfl ?_
  refine x_mV (k9 := 42) C (by decide) ww_500 eX23_point_121 rfl ?_
  refine x_iload_n C eX23_point_124 rfl 0 rfl ?_
  refine x_null C eX23_point_125 ?_
  refine x_wA (r := 42) C (by decide) rfl eX23_point_126 h (fun S17 h => ?_)
  refine x_iload_n C eX23_point_127 rfl 0 rfl ?_
  exact x_iret C rfl rfl eX23_point_128 h
set_option maxRecDepth 20000 in
set_option maxHeartbeats 4000000 in
theorem k_X23_just (l : Launch) (D : va_G) (K : Ky) (m9 : Nat) (mr : Nat → Nat) (S0 Sf : Sg) (x1 : Int32) (rf : Option Nat) (h : f_just K S0 x1 = some (Sf, rf)) : CT l D K m9 mr yX23_just (Cond.code yX23_just cX23_just 2 (some (.array .int))) (1) (20) S0 Sf [.ref m9, .int x1] (some (va_rf rf)) := by
  refine x_start (cc := cX23_just) (lv := [(0, .ref m9), (1, .int x1)]) rfl rfl (by decide) (by simp [lv_args, cat_rf, cat_i, cat_l, cat_a]) (by simp [lg_sl, cat_rf, cat_i, cat_l, cat_a]) (fun p e R s m args below meth c Q A C => ?_)
  have j_27 : ∀ (S : Sg) (x1 : Int32), f_just_27 K S x1 = some (Sf, rf) → WX p l e R s m args below meth c Q D A K m9 mr 2 S0 S 27 [(0, .ref m9), (1, .int x1)] [] := by
    intro S x1 h
    unfold f_just_27 at h
    refine x_tload_n C eX23_just_27 rfl 0 rfl ?_
    refine x_mV (k9 := 51) C (by decide) ww_502 eX23_just_28 rfl ?_
    refine x_iload_n C eX23_just_31 rfl 1 rfl ?_
    refine x_rA (r := 51) C (by decide) rfl eX23_just_32 h (fun v7 h => ?_)
    exact x_aret C rfl (Or.inr ⟨_, rfl⟩) rfl eX23_just_33 h
  unfold f_just at h
  refine x_tload_n C eX23_just_0 rfl 0 rfl ?_
  refine x_mV (k9 := 51) C (by decide) ww_502 eX23_just_1 rfl ?_
  refine x_iload_n C eX23_just_4 rfl 1 rfl ?_
  refine x_rA (r := 51) C (by decide) rfl eX23_just_5 h (fun v1 h => ?_)
  refine x_ifnonnull (tgt := 27) C eX23_just_6 (by decide) h (fun h => ?_) (fun h => ?_)
  · refine x_sub [0, 1] rfl ?_
    exact j_27 S0 x1 h
  · refine x_tload_n C eX23_just_9 rfl 0 rfl ?_
    refine x_mV (k9 := 51) C (by decide) ww_502 eX23_just_10 rfl ?_
    refine x_iload_n C eX23_just_13 rfl 1 rfl ?_
    refine x_iconst (v := 1) C eX23_just_14 (by decide) ?_
    refine x_nA C ww_88 eX23_just_15 h (fun S2 a3 h => ?_)
    refine x_wA (r := 51) C (by decide) rfl eX23_just_17 h (fun S4 h => ?_)
    refine x_tload_n C eX23_just_18 rfl 0 rfl ?_
    refine x_mV (k9 := 51) C (by decide) ww_502 eX23_just_19 rfl ?_
    refine x_iload_n C eX23_just_22 rfl 1 rfl ?_
    refine x_rA (r := 51) C (by decide) rfl eX23_just_23 h (fun v5 h => ?_)
    refine x_iconst (v := 0) C eX23_just_24 (by decide) ?_
    refine x_iload_n C eX23_just_25 rfl 1 rfl ?_
    refine x_bI C eX23_just_26 h (fun S6 h => ?_)
    refine x_sub [0, 1] rfl ?_
    exact j_27 S6 x1 h
set_option maxRecDepth 20000 in
set_option maxHeartbeats 4000000 in
theorem k_X18_init (l : Launch) (D : va_G) (K : Ky) (m9 : Nat) (mr : Nat → Nat) (S0 Sf : Sg) (x0 : Nat) (x1 : Int32) (rf : Unit) (h : f_X18_init K S0 x0 x1 = some (Sf, rf)) : CT l D K m9 mr yX18_init (Cond.code yX18_init cX18_init 2 none) (1) (20) S0 Sf [.ref x0, .int x1] none := by
  refine x_start (cc := cX18_init) (lv := [(0, .ref x0), (1, .int x1)]) rfl rfl (by decide) (by simp [lv_args, cat_rf, cat_i, cat_l, cat_a]) (by simp [lg_sl, cat_rf, cat_i, cat_l, cat_a]) (fun p e R s m args below meth c Q A C => ?_)
  unfold f_X18_init at h
  refine x_tload_n C eX18_init_0 rfl 0 rfl ?_
  refine x_objInit C ww_957 ww_958 ww_959 eX18_init_1 (by omega) (by omega) (Nat.le_of_ble_eq_true rfl) ?_
  refine x_tload_n C eX18_init_4 rfl 0 rfl ?_
  refine x_iload_n C eX18_init_5 rfl 1 rfl ?_
  refine x_pF (v := .int x1) (ty := .int) (ci := 18) (k9 := 1) (Cn := RX18) (T := TX18) (N := 4) C rfl wt_X18 tyX18_ok nmX18 (by decide) ww_960 rfl rfl rfl (by decide +kernel) rfl rfl eX18_init_6 h (fun S1 h => ?_)
  refine x_tload_n C eX18_init_9 rfl 0 rfl ?_
  refine x_iload_n C eX18_init_10 rfl 1 rfl ?_
  refine x_nA C ww_88 eX18_init_11 h (fun S2 a3 h => ?_)
  refine x_pF (v := va_rf (some a3)) (ty := (.array .int)) (ci := 18) (k9 := 2) (Cn := RX18) (T := TX18) (N := 4) C rfl wt_X18 tyX18_ok nmX18 (by decide) ww_961 rfl rfl rfl (by decide +kernel) rfl rfl eX18_init_13 h (fun S4 h => ?_)
  refine x_tload_n C eX18_init_16 rfl 0 rfl ?_
  refine x_iload_n C eX18_init_17 rfl 1 rfl ?_
  refine x_iconst (v := 1) C eX18_init_18 (by decide) ?_
  refine x_iadd C eX18_init_19 ?_
  refine x_nQ (t9 := 4) C rfl C.2.2.2.1.2.2.2.2.2.2.1 ww_962 eX18_init_20 h (fun S5 a6 h => ?_)
  refine x_pF (v := va_rf (some a6)) (ty := (.array (.object "OwnedPlacesModel$Type"))) (ci := 18) (k9 := 3) (Cn := RX18) (T := TX18) (N := 4) C rfl wt_X18 tyX18_ok nmX18 (by decide) ww_963 rfl rfl rfl (by decide +kernel) rfl rfl eX18_init_23 h (fun S7 h => ?_)
  exact x_vret C rfl rfl eX18_init_26 h
set_option maxRecDepth 20000 in
set_option maxHeartbeats 4000000 in
theorem k_X23_wholeOf (l : Launch) (D : va_G) (K : Ky) (m9 : Nat) (mr : Nat → Nat) (S0 Sf : Sg) (x0 : Option Nat) (rf : Option Nat) (h : f_wholeOf K S0 x0 = some (Sf, rf)) : CT l D K m9 mr yX23_wholeOf (Cond.code yX23_wholeOf cX23_wholeOf 1 (some (.object "OwnedPlacesModel$Path"))) (2) (41) S0 Sf [va_rf x0] (some (va_rf rf)) := by
  refine x_start (cc := cX23_wholeOf) (lv := [(0, va_rf x0)]) rfl rfl (by decide) (by simp [lv_args, cat_rf, cat_i, cat_l, cat_a]) (by simp [lg_sl, cat_rf, cat_i, cat_l, cat_a]) (fun p e R s m args below meth c Q A C => ?_)
  have j_40 : ∀ (S : Sg) (x0 : Option Nat), f_wholeOf_40 K S x0 = some (Sf, rf) → WX p l e R s m args below meth c Q D A K m9 mr 1 S0 S 40 [(0, va_rf x0)] [] := by
    intro S x0 h
    unfold f_wholeOf_40 at h
    refine x_aload_n C eX23_wholeOf_40 rfl 0 rfl ?_
    refine x_gR (o9 := x0) (ci := 21) (k9 := 4) (Cn := RX21) (T := TX21) (N := 5) C rfl wt_X21 (by decide) ww_504 eX23_wholeOf_41 h (fun v13 h => ?_)
    exact x_aret C rfl (Or.inl ⟨_, rfl⟩) rfl eX23_wholeOf_44 h
  unfold f_wholeOf at h
  refine x_aload_n C eX23_wholeOf_0 rfl 0 rfl ?_
  refine x_gR (o9 := x0) (ci := 21) (k9 := 4) (Cn := RX21) (T := TX21) (N := 5) C rfl wt_X21 (by decide) ww_504 eX23_wholeOf_1 h (fun v1 h => ?_)
  refine x_ifnonnull (tgt := 40) C eX23_wholeOf_4 (by decide) h (fun h => ?_) (fun h => ?_)
  · refine x_sub [0] rfl ?_
    exact j_40 S0 x0 h
  · refine x_aload_n C eX23_wholeOf_7 rfl 0 rfl ?_
    refine x_nO (ci := 18) (Cn := RX18) (T := TX18) (ty0 := tyX18) C rfl wt_X18 tyX18_ok ww_505 ww_506 ww_507 dv_X18 eX23_wholeOf_8 h (fun S2 a3 h => ?_)
    refine x_dup C eX23_wholeOf_11 (cat_rf (some a3)) ?_
    refine x_iconst (v := 0) C eX23_wholeOf_12 (by decide) ?_
    refine x_callI (b := a3) (As := [.int 0]) (st := [va_rf (some a3), va_rf x0]) (n := 1) (frc := 1) (loc := 20) C h (fun S9 e9 => k_X18_init l D K m9 mr S2 S9 a3 0 () e9) ww_956 ww_508 ww_507 ww_509 rfl (by decide +kernel) rfl ⟨by omega, by omega⟩ (Nat.le_of_ble_eq_true rfl) eX23_wholeOf_13 (fun S4 h => ?_)
    refine x_pR (o9 := x0) (Cv := "OwnedPlacesModel$Path") (ci := 21) (k9 := 4) (Cn := RX21) (T := TX21) (N := 5) C rfl wt_X21 tyX21_ok nmX21 (by decide) ww_504 rfl (by decide +kernel) eX23_wholeOf_16 h (fun S6 h => ?_)
    refine x_aload_n C eX23_wholeOf_19 rfl 0 rfl ?_
    refine x_gR (o9 := x0) (ci := 21) (k9 := 4) (Cn := RX21) (T := TX21) (N := 5) C rfl wt_X21 (by decide) ww_504 eX23_wholeOf_20 h (fun v7 h => ?_)
    refine x_aload_n C eX23_wholeOf_23 rfl 0 rfl ?_
    refine x_pR (o9 := v7) (Cv := "OwnedPlacesModel$Variable") (ci := 18) (k9 := 0) (Cn := RX18) (T := TX18) (N := 4) C rfl wt_X18 tyX18_ok nmX18 (by decide) ww_510 rfl (by decide +kernel) eX23_wholeOf_24 h (fun S8 h => ?_)
    refine x_aload_n C eX23_wholeOf_27 rfl 0 rfl ?_
    refine x_gR (o9 := x0) (ci := 21) (k9 := 4) (Cn := RX21) (T := TX21) (N := 5) C rfl wt_X21 (by decide) ww_504 eX23_wholeOf_28 h (fun v9 h => ?_)
    refine x_gR (o9 := v9) (ci := 18) (k9 := 3) (Cn := RX18) (T := TX18) (N := 4) C rfl wt_X18 (by decide) ww_511 eX23_wholeOf_31 h (fun v10 h => ?_)
    refine x_iconst (v := 0) C eX23_wholeOf_34 (by decide) ?_
    refine x_aload_n C eX23_wholeOf_35 rfl 0 rfl ?_
    refine x_gR (o9 := x0) (ci := 21) (k9 := 2) (Cn := RX21) (T := TX21) (N := 5) C rfl wt_X21 (by decide) ww_329 eX23_wholeOf_36 h (fun v11 h => ?_)
    refine x_bQ (t9 := 4) (ci := 20) C rfl rfl eX23_wholeOf_39 h (fun S12 h => ?_)
    refine x_sub [0] rfl ?_
    exact j_40 S12 x0 h
set_option maxRecDepth 20000 in
set_option maxHeartbeats 4000000 in
theorem k_X23_temporary (l : Launch) (D : va_G) (K : Ky) (m9 : Nat) (mr : Nat → Nat) (S0 Sf : Sg) (x0 : Int32) (rf : Int32) (h : f_temporary K S0 x0 = some (Sf, rf)) : CT l D K m9 mr yX23_temporary (Cond.code yX23_temporary cX23_temporary 1 (some .int)) (1) (20) S0 Sf [.int x0] (some (.int rf)) := by
  refine x_start (cc := cX23_temporary) (lv := [(0, .int x0)]) rfl rfl (by decide) (by simp [lv_args, cat_rf, cat_i, cat_l, cat_a]) (by simp [lg_sl, cat_rf, cat_i, cat_l, cat_a]) (fun p e R s m args below meth c Q A C => ?_)
  unfold f_temporary at h
  refine x_bipush (v := 40) C eX23_temporary_0 (by decide) ?_
  refine x_iload_n C eX23_temporary_2 rfl 0 rfl ?_
  refine x_iadd C eX23_temporary_3 ?_
  exact x_iret C rfl rfl eX23_temporary_4 h
set_option maxRecDepth 20000 in
set_option maxHeartbeats 4000000 in
theorem k_X23_pathOf (l : Launch) (D : va_G) (K : Ky) (m9 : Nat) (mr : Nat → Nat) (S0 Sf : Sg) (x1 : Option Nat) (rf : Option Nat) (h : f_pathOf K S0 x1 = some (Sf, rf)) : CT l D K m9 mr yX23_pathOf (Cond.code yX23_pathOf cX23_pathOf 6 (some (.object "OwnedPlacesModel$Path"))) (3) (63) S0 Sf [.ref m9, va_rf x1] (some (va_rf rf)) := by
  refine x_start (cc := cX23_pathOf) (lv := [(0, .ref m9), (1, va_rf x1)]) rfl rfl (by decide) (by simp [lv_args, cat_rf, cat_i, cat_l, cat_a]) (by simp [lg_sl, cat_rf, cat_i, cat_l, cat_a]) (fun p e R s m args below meth c Q A C => ?_)
  have j_35 : ∀ (n_35 : Nat) (S : Sg) (x2 : Option Nat) (x4 : Option Nat) (x5 : Int32), f_pathOf_35 K n_35 S x2 x4 x5 = some (Sf, rf) → WX p l e R s m args below meth c Q D A K m9 mr 6 S0 S 35 [(2, va_rf x2), (4, va_rf x4), (5, .int x5)] [] := by
    intro n_35
    induction n_35 with
    | zero => intro S x2 x4 x5 h; unfold f_pathOf_35 at h; cases h
    | succ n_35 ih_35 =>
      intro S x2 x4 x5 h
      have j_78 : ∀ (S : Sg) (x2 : Option Nat) (x4 : Option Nat) (x5 : Int32) (y0 : Int32) (y1 : Int32) (y2 : Option Nat), f_pathOf_78 K (f_pathOf_35 K n_35) S x2 x4 x5 y0 y1 y2 = some (Sf, rf) → WX p l e R s m args below meth c Q D A K m9 mr 6 S0 S 78 [(2, va_rf x2), (4, va_rf x4), (5, .int x5)] [.int y0, .int y1, va_rf y2] := by
        intro S x2 x4 x5 y0 y1 y2 h
        unfold f_pathOf_78 at h
        refine x_bI C eX23_pathOf_78 h (fun S24 h => ?_)
        refine x_aload_n C eX23_pathOf_79 rfl 0 rfl ?_
        refine x_gR (o9 := x2) (ci := 15) (k9 := 8) (Cn := RX15) (T := TX15) (N := 14) C rfl wt_X15 (by decide) ww_192 eX23_pathOf_80 h (fun v25 h => ?_)
        refine x_cSr (As := [va_rf v25]) (st := []) (n := 1) (frc := 1) (loc := 20) C h (fun S9 r9 e9 => k_X23_bare l D K m9 mr _ S9 v25 r9 e9) ww_333 ww_335 ww_336 ww_16 (by decide +kernel) rfl ⟨by omega, by omega⟩ (Nat.le_of_ble_eq_true rfl) eX23_pathOf_83 (fun S26 v27 h => ?_)
        refine x_astore_n (lv2 := [(4, va_rf x4), (5, .int x5)]) C eX23_pathOf_86 rfl (by decide) rfl (oky (cat_rf x4) (oky rfl ok0)) ?_
        refine x_iinc (j := 2) (v := (-1)) (lv2 := [(2, va_rf v27), (4, va_rf x4)]) C eX23_pathOf_87 rfl (by decide) (by decide) rfl (oky (cat_rf v27) (oky (cat_rf x4) ok0)) ?_
        refine x_goto (tgt := 35) C eX23_pathOf_90 (by decide) ?_
        refine x_sub [1, 2, 0] rfl ?_
        exact ih_35 S26 v27 x4 (x5 + (-1)) h
      unfold f_pathOf_35 at h
      refine x_iload C eX23_pathOf_35 2 rfl ?_
      refine x_if_le (tgt := 93) C eX23_pathOf_37 (by decide) h (fun h => ?_) (fun h => ?_)
      · refine x_aload C eX23_pathOf_93 1 rfl ?_
        refine x_gR (o9 := x4) (ci := 18) (k9 := 3) (Cn := RX18) (T := TX18) (N := 4) C rfl wt_X18 (by decide) ww_511 eX23_pathOf_95 h (fun v12 h => ?_)
        refine x_iconst (v := 0) C eX23_pathOf_98 (by decide) ?_
        refine x_aload_n C eX23_pathOf_99 rfl 0 rfl ?_
        refine x_gR (o9 := x2) (ci := 15) (k9 := 13) (Cn := RX15) (T := TX15) (N := 14) C rfl wt_X15 (by decide) ww_347 eX23_pathOf_100 h (fun v13 h => ?_)
        refine x_gR (o9 := v13) (ci := 21) (k9 := 2) (Cn := RX21) (T := TX21) (N := 5) C rfl wt_X21 (by decide) ww_329 eX23_pathOf_103 h (fun v14 h => ?_)
        refine x_bQ (t9 := 4) (ci := 20) C rfl rfl eX23_pathOf_106 h (fun S15 h => ?_)
        refine x_aload C eX23_pathOf_107 1 rfl ?_
        refine x_aload_n C eX23_pathOf_109 rfl 0 rfl ?_
        refine x_gR (o9 := x2) (ci := 15) (k9 := 13) (Cn := RX15) (T := TX15) (N := 14) C rfl wt_X15 (by decide) ww_347 eX23_pathOf_110 h (fun v16 h => ?_)
        refine x_pR (o9 := x4) (Cv := "OwnedPlacesModel$Variable") (ci := 18) (k9 := 0) (Cn := RX18) (T := TX18) (N := 4) C rfl wt_X18 tyX18_ok nmX18 (by decide) ww_510 rfl (by decide +kernel) eX23_pathOf_113 h (fun S17 h => ?_)
        refine x_aload C eX23_pathOf_116 1 rfl ?_
        exact x_aret C rfl (Or.inl ⟨_, rfl⟩) rfl eX23_pathOf_118 h
      · refine x_aload C eX23_pathOf_40 1 rfl ?_
        refine x_gR (o9 := x4) (ci := 18) (k9 := 3) (Cn := RX18) (T := TX18) (N := 4) C rfl wt_X18 (by decide) ww_511 eX23_pathOf_42 h (fun v18 h => ?_)
        refine x_iload C eX23_pathOf_45 2 rfl ?_
        refine x_aload_n C eX23_pathOf_47 rfl 0 rfl ?_
        refine x_gR (o9 := x2) (ci := 15) (k9 := 12) (Cn := RX15) (T := TX15) (N := 14) C rfl wt_X15 (by decide) ww_338 eX23_pathOf_48 h (fun v19 h => ?_)
        refine x_bQ (t9 := 4) (ci := 20) C rfl rfl eX23_pathOf_51 h (fun S20 h => ?_)
        refine x_aload C eX23_pathOf_52 1 rfl ?_
        refine x_gR (o9 := x4) (ci := 18) (k9 := 2) (Cn := RX18) (T := TX18) (N := 4) C rfl wt_X18 (by decide) ww_516 eX23_pathOf_54 h (fun v21 h => ?_)
        refine x_iload C eX23_pathOf_57 2 rfl ?_
        refine x_iconst (v := 1) C eX23_pathOf_59 (by decide) ?_
        refine x_isub C eX23_pathOf_60 ?_
        refine x_aload_n C eX23_pathOf_61 rfl 0 rfl ?_
        refine x_gI (o9 := x2) (ci := 15) (k9 := 0) (Cn := RX15) (T := TX15) (N := 14) C rfl wt_X15 (by decide) ww_191 eX23_pathOf_62 h (fun v22 h => ?_)
        refine x_bipush (v := 11) C eX23_pathOf_65 (by decide) ?_
        refine x_ic_ne (tgt := 74) C eX23_pathOf_67 (by decide) h (fun h => ?_) (fun h => ?_)
        · refine x_aload_n C eX23_pathOf_74 rfl 0 rfl ?_
          refine x_gI (o9 := x2) (ci := 15) (k9 := 4) (Cn := RX15) (T := TX15) (N := 14) C rfl wt_X15 (by decide) ww_359 eX23_pathOf_75 h (fun v23 h => ?_)
          refine x_sub [0, 1, 2] rfl ?_
          exact j_78 S20 x2 x4 x5 v23 (x5 - 1) v21 h
        · refine x_iconst (v := (-1)) C eX23_pathOf_70 (by decide) ?_
          refine x_goto (tgt := 78) C eX23_pathOf_71 (by decide) ?_
          refine x_sub [0, 1, 2] rfl ?_
          exact j_78 S20 x2 x4 x5 (-1) (x5 - 1) v21 h
  unfold f_pathOf at h
  refine x_aload_n C eX23_pathOf_0 rfl 1 rfl ?_
  refine x_cSr (As := [va_rf x1]) (st := []) (n := 1) (frc := 1) (loc := 20) C h (fun S9 r9 e9 => k_X23_bare l D K m9 mr _ S9 x1 r9 e9) ww_333 ww_335 ww_336 ww_16 (by decide +kernel) rfl ⟨by omega, by omega⟩ (Nat.le_of_ble_eq_true rfl) eX23_pathOf_1 (fun S1 v2 h => ?_)
  refine x_astore_n (lv2 := [(0, .ref m9), (1, va_rf x1)]) C eX23_pathOf_4 rfl (by decide) rfl (oky rfl (oky (cat_rf x1) ok0)) ?_
  refine x_aload_n C eX23_pathOf_5 rfl 2 rfl ?_
  refine x_cSi (As := [va_rf x1]) (st := []) (n := 1) (frc := 2) (loc := 41) C h (fun S9 r9 e9 => k_X23_depth l D K m9 mr _ S9 x1 r9 e9) ww_334 ww_356 ww_357 ww_16 (by decide +kernel) rfl ⟨by omega, by omega⟩ (Nat.le_of_ble_eq_true rfl) eX23_pathOf_6 (fun S3 v4 h => ?_)
  refine x_istore_n (lv2 := [(2, va_rf v2), (0, .ref m9), (1, va_rf x1)]) C eX23_pathOf_9 rfl (by decide) rfl (oky (cat_rf v2) (oky rfl (oky (cat_rf x1) ok0))) ?_
  refine x_iload_n C eX23_pathOf_10 rfl 0 rfl ?_
  refine x_if_ne (tgt := 22) C eX23_pathOf_11 (by decide) h (fun h => ?_) (fun h => ?_)
  · refine x_nO (ci := 18) (Cn := RX18) (T := TX18) (ty0 := tyX18) C rfl wt_X18 tyX18_ok ww_505 ww_506 ww_507 dv_X18 eX23_pathOf_22 h (fun S5 a6 h => ?_)
    refine x_dup C eX23_pathOf_25 (cat_rf (some a6)) ?_
    refine x_iload_n C eX23_pathOf_26 rfl 0 rfl ?_
    refine x_callI (b := a6) (As := [.int v4]) (st := [va_rf (some a6)]) (n := 1) (frc := 1) (loc := 20) C h (fun S9 e9 => k_X18_init l D K m9 mr S5 S9 a6 v4 () e9) ww_956 ww_508 ww_507 ww_509 rfl (by decide +kernel) rfl ⟨by omega, by omega⟩ (Nat.le_of_ble_eq_true rfl) eX23_pathOf_27 (fun S7 h => ?_)
    refine x_astore (lv2 := [(3, .int v4), (2, va_rf v2), (0, .ref m9), (1, va_rf x1)]) C eX23_pathOf_30 (by decide) rfl (oky rfl (oky (cat_rf v2) (oky rfl (oky (cat_rf x1) ok0)))) ?_
    refine x_iload_n C eX23_pathOf_32 rfl 1 rfl ?_
    refine x_istore (lv2 := [(4, va_rf (some a6)), (3, .int v4), (2, va_rf v2), (0, .ref m9), (1, va_rf x1)]) C eX23_pathOf_33 (by decide) rfl (oky (cat_rf (some a6)) (oky rfl (oky (cat_rf v2) (oky rfl (oky (cat_rf x1) ok0))))) ?_
    refine x_sub [3, 1, 0] rfl ?_
    exact j_35 bigN S7 v2 (some a6) v4 h
  · refine x_aload_n C eX23_pathOf_14 rfl 1 rfl ?_
    refine x_gR (o9 := v2) (ci := 15) (k9 := 13) (Cn := RX15) (T := TX15) (N := 14) C rfl wt_X15 (by decide) ww_347 eX23_pathOf_15 h (fun v9 h => ?_)
    refine x_cSr (As := [va_rf v9]) (st := []) (n := 1) (frc := 2) (loc := 41) C h (fun S9 r9 e9 => k_X23_wholeOf l D K m9 mr _ S9 v9 r9 e9) ww_503 ww_514 ww_515 ww_16 (by decide +kernel) rfl ⟨by omega, by omega⟩ (Nat.le_of_ble_eq_true rfl) eX23_pathOf_18 (fun S10 v11 h => ?_)
    exact x_aret C rfl (Or.inl ⟨_, rfl⟩) rfl eX23_pathOf_21 h
set_option maxRecDepth 20000 in
set_option maxHeartbeats 4000000 in
theorem k_X18_type (l : Launch) (D : va_G) (K : Ky) (m9 : Nat) (mr : Nat → Nat) (S0 Sf : Sg) (x0 : Nat) (rf : Option Nat) (h : f_X18_type K S0 x0 = some (Sf, rf)) : CT l D K m9 mr yX18_type (Cond.code yX18_type cX18_type 1 (some (.object "OwnedPlacesModel$Type"))) (1) (20) S0 Sf [.ref x0] (some (va_rf rf)) := by
  refine x_start (cc := cX18_type) (lv := [(0, .ref x0)]) rfl rfl (by decide) (by simp [lv_args, cat_rf, cat_i, cat_l, cat_a]) (by simp [lg_sl, cat_rf, cat_i, cat_l, cat_a]) (fun p e R s m args below meth c Q A C => ?_)
  unfold f_X18_type at h
  refine x_tload_n C eX18_type_0 rfl 0 rfl ?_
  refine x_gR (o9 := (some x0)) (ci := 18) (k9 := 3) (Cn := RX18) (T := TX18) (N := 4) C rfl wt_X18 (by decide) ww_963 eX18_type_1 h (fun v1 h => ?_)
  refine x_tload_n C eX18_type_4 rfl 0 rfl ?_
  refine x_gI (o9 := (some x0)) (ci := 18) (k9 := 1) (Cn := RX18) (T := TX18) (N := 4) C rfl wt_X18 (by decide) ww_960 eX18_type_5 h (fun v2 h => ?_)
  refine x_aQ (t9 := 4) C rfl eX18_type_8 h (fun v3 h => ?_)
  exact x_aret C rfl (Or.inl ⟨_, rfl⟩) rfl eX18_type_9 h
set_option maxRecDepth 20000 in
set_option maxHeartbeats 4000000 in
theorem k_X23_through (l : Launch) (D : va_G) (K : Ky) (m9 : Nat) (mr : Nat → Nat) (S0 Sf : Sg) (x1 : Int32) (x2 : Option Nat) (rf : Unit) (h : f_through K S0 x1 x2 = some (Sf, rf)) : CT l D K m9 mr yX23_through (Cond.code yX23_through cX23_through 3 none) (2) (41) S0 Sf [.ref m9, .int x1, va_rf x2] none := by
  refine x_start (cc := cX23_through) (lv := [(0, .ref m9), (1, .int x1), (2, va_rf x2)]) rfl rfl (by decide) (by simp [lv_args, cat_rf, cat_i, cat_l, cat_a]) (by simp [lg_sl, cat_rf, cat_i, cat_l, cat_a]) (fun p e R s m args below meth c Q A C => ?_)
  unfold f_through at h
  refine x_tload_n C eX23_through_0 rfl 0 rfl ?_
  refine x_mV (k9 := 38) C (by decide) ww_496 eX23_through_1 rfl ?_
  refine x_iload_n C eX23_through_4 rfl 1 rfl ?_
  refine x_aload_n C eX23_through_5 rfl 2 rfl ?_
  refine x_wQ (r := 38) (t9 := 6) (ci := 18) C (by decide) rfl (by decide) rfl rfl eX23_through_6 h (fun S1 h => ?_)
  refine x_tload_n C eX23_through_7 rfl 0 rfl ?_
  refine x_mV (k9 := 39) C (by decide) ww_497 eX23_through_8 rfl ?_
  refine x_iload_n C eX23_through_11 rfl 1 rfl ?_
  refine x_aload_n C eX23_through_12 rfl 2 rfl ?_
  refine x_cOr (As := []) (st := [.int x1, .ref (mr 39)]) (ci := 18) (T := TX18) (n := 0) (frc := 1) (loc := 20) C rfl h (fun b9 S9 r9 e9 => k_X18_type l D K m9 mr _ S9 b9 r9 e9) ww_964 ww_518 ww_519 ww_520 ww_507 (by decide +kernel) rfl ⟨by omega, by omega⟩ (Nat.le_of_ble_eq_true rfl) eX23_through_13 (fun S2 v3 h => ?_)
  refine x_wQ (r := 39) (t9 := 4) (ci := 20) C (by decide) rfl (by decide) rfl rfl eX23_through_16 h (fun S5 h => ?_)
  refine x_aload_n C eX23_through_17 rfl 2 rfl ?_
  refine x_gR (o9 := x2) (ci := 18) (k9 := 3) (Cn := RX18) (T := TX18) (N := 4) C rfl wt_X18 (by decide) ww_511 eX23_through_18 h (fun v6 h => ?_)
  refine x_iconst (v := 0) C eX23_through_21 (by decide) ?_
  refine x_aQ (t9 := 4) C rfl eX23_through_22 h (fun v7 h => ?_)
  refine x_cSi (As := [va_rf v7]) (st := []) (n := 1) (frc := 1) (loc := 20) C h (fun S9 r9 e9 => k_X23_refers l D K m9 mr _ S9 v7 r9 e9) ww_258 ww_354 ww_355 ww_16 (by decide +kernel) rfl ⟨by omega, by omega⟩ (Nat.le_of_ble_eq_true rfl) eX23_through_23 (fun S8 v9 h => ?_)
  refine x_if_ne (tgt := 30) C eX23_through_26 (by decide) h (fun h => ?_) (fun h => ?_)
  · refine x_tload_n C eX23_through_30 rfl 0 rfl ?_
    refine x_mV (k9 := 37) C (by decide) ww_495 eX23_through_31 rfl ?_
    refine x_iload_n C eX23_through_34 rfl 1 rfl ?_
    refine x_tload_n C eX23_through_35 rfl 0 rfl ?_
    refine x_aload_n C eX23_through_36 rfl 2 rfl ?_
    refine x_gR (o9 := x2) (ci := 18) (k9 := 0) (Cn := RX18) (T := TX18) (N := 4) C rfl wt_X18 (by decide) ww_510 eX23_through_37 h (fun v10 h => ?_)
    refine x_gI (o9 := v10) (ci := 21) (k9 := 0) (Cn := RX21) (T := TX21) (N := 5) C rfl wt_X21 (by decide) ww_327 eX23_through_40 h (fun v11 h => ?_)
    refine x_cVr (As := [.int v11]) (st := [.int x1, .ref (mr 37)]) (n := 1) (frc := 1) (loc := 20) C h (fun S9 r9 e9 => k_X23_just l D K m9 mr _ S9 v11 r9 e9) ww_501 ww_521 ww_522 ww_523 ww_16 (by decide +kernel) rfl ⟨by omega, by omega⟩ (Nat.le_of_ble_eq_true rfl) eX23_through_43 (fun S12 v13 h => ?_)
    refine x_wA (r := 37) C (by decide) rfl eX23_through_46 h (fun S14 h => ?_)
    refine x_tload_n C eX23_through_47 rfl 0 rfl ?_
    refine x_mV (k9 := 36) C (by decide) ww_494 eX23_through_48 rfl ?_
    refine x_iload_n C eX23_through_51 rfl 1 rfl ?_
    refine x_tload_n C eX23_through_52 rfl 0 rfl ?_
    refine x_aload_n C eX23_through_53 rfl 2 rfl ?_
    refine x_gR (o9 := x2) (ci := 18) (k9 := 0) (Cn := RX18) (T := TX18) (N := 4) C rfl wt_X18 (by decide) ww_510 eX23_through_54 h (fun v15 h => ?_)
    refine x_gI (o9 := v15) (ci := 21) (k9 := 0) (Cn := RX21) (T := TX21) (N := 5) C rfl wt_X21 (by decide) ww_327 eX23_through_57 h (fun v16 h => ?_)
    refine x_cVr (As := [.int v16]) (st := [.int x1, .ref (mr 36)]) (n := 1) (frc := 1) (loc := 20) C h (fun S9 r9 e9 => k_X23_just l D K m9 mr _ S9 v16 r9 e9) ww_501 ww_521 ww_522 ww_523 ww_16 (by decide +kernel) rfl ⟨by omega, by omega⟩ (Nat.le_of_ble_eq_true rfl) eX23_through_60 (fun S17 v18 h => ?_)
    refine x_wA (r := 36) C (by decide) rfl eX23_through_63 h (fun S19 h => ?_)
    exact x_vret C rfl rfl eX23_through_64 h
  · exact x_vret C rfl rfl eX23_through_29 h
