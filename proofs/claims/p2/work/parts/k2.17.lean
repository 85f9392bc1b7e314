set_option maxRecDepth 20000 in
set_option maxHeartbeats 4000000 in
theorem k_X23_count (l : Launch) (D : va_G) (K : Ky) (m9 : Nat) (mr : Nat → Nat) (S0 Sf : Sg) (x1 : Int32) (rf : Int32) (h : f_count K S0 x1 = some (Sf, rf)) : CT l D K m9 mr yX23_count (Cond.code yX23_count cX23_count 2 (some .int)) (1) (20) S0 Sf [.ref m9, .int x1] (some (.int rf)) := by
  refine x_start (cc := cX23_count) (lv := [(0, .ref m9), (1, .int x1)]) rfl rfl (by decide) (by simp [lv_args, cat_rf, cat_i, cat_l, cat_a]) (by simp [lg_sl, cat_rf, cat_i, cat_l, cat_a]) (fun p e R s m args below meth c Q A C => ?_)
  unfold f_count at h
  refine x_iload_n C eX23_count_0 rfl 1 rfl ?_
  refine x_tabIn (v := 0) (tgt := 40) C eX23_count_1 (by decide) (by decide) rfl (by decide) h (fun h => ?_) (fun hq0 h => ?_)
  · refine x_tload_n C eX23_count_40 rfl 0 rfl ?_
    refine x_mV (k9 := 71) C (by decide) ww_955 eX23_count_41 rfl ?_
    exact x_iret C rfl rfl eX23_count_44 h
  · refine x_tabIn (v := 1) (tgt := 45) C eX23_count_1 (by decide) (by decide) rfl (by decide) h (fun h => ?_) (fun hq1 h => ?_)
    · refine x_tload_n C eX23_count_45 rfl 0 rfl ?_
      refine x_mV (k9 := 68) C (by decide) ww_785 eX23_count_46 rfl ?_
      exact x_iret C rfl rfl eX23_count_49 h
    · refine x_tabIn (v := 2) (tgt := 50) C eX23_count_1 (by decide) (by decide) rfl (by decide) h (fun h => ?_) (fun hq2 h => ?_)
      · refine x_tload_n C eX23_count_50 rfl 0 rfl ?_
        refine x_mV (k9 := 69) C (by decide) ww_790 eX23_count_51 rfl ?_
        exact x_iret C rfl rfl eX23_count_54 h
      · refine x_tabIn (v := 3) (tgt := 55) C eX23_count_1 (by decide) (by decide) rfl (by decide) h (fun h => ?_) (fun hq3 h => ?_)
        · refine x_tload_n C eX23_count_55 rfl 0 rfl ?_
          refine x_mV (k9 := 1) C (by decide) ww_945 eX23_count_56 rfl ?_
          exact x_iret C rfl rfl eX23_count_59 h
        · refine x_tabIn (v := 4) (tgt := 60) C eX23_count_1 (by decide) (by decide) rfl (by decide) h (fun h => ?_) (fun hq4 h => ?_)
          · refine x_tload_n C eX23_count_60 rfl 0 rfl ?_
            refine x_mV (k9 := 84) C (by decide) ww_840 eX23_count_61 rfl ?_
            exact x_iret C rfl rfl eX23_count_64 h
          · refine x_tabIn (v := 5) (tgt := 65) C eX23_count_1 (by decide) (by decide) rfl (by decide) h (fun h => ?_) (fun hq5 h => ?_)
            · refine x_tload_n C eX23_count_65 rfl 0 rfl ?_
              refine x_mV (k9 := 86) C (by decide) ww_892 eX23_count_66 rfl ?_
              exact x_iret C rfl rfl eX23_count_69 h
            · have hq0i : (x1 : Int32).toInt ≠ 0 := fun q9 => hq0 (Int32.toInt_inj.mp q9)
              have hq1i : (x1 : Int32).toInt ≠ 1 := fun q9 => hq1 (Int32.toInt_inj.mp q9)
              have hq2i : (x1 : Int32).toInt ≠ 2 := fun q9 => hq2 (Int32.toInt_inj.mp q9)
              have hq3i : (x1 : Int32).toInt ≠ 3 := fun q9 => hq3 (Int32.toInt_inj.mp q9)
              have hq4i : (x1 : Int32).toInt ≠ 4 := fun q9 => hq4 (Int32.toInt_inj.mp q9)
              have hq5i : (x1 : Int32).toInt ≠ 5 := fun q9 => hq5 (Int32.toInt_inj.mp q9)
              refine x_tabOut (tgt := 70) C eX23_count_1 (by omega) (by decide) ?_
              refine x_iconst (v := (-1)) C eX23_count_70 (by decide) ?_
              exact x_iret C rfl rfl eX23_count_71 h
