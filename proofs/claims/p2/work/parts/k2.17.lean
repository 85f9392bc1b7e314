-- k2.17.lean.txt
section
set_option maxRecDepth 20000 in
set_option maxHeartbeats 4000000 in
theorem k_X23_count (l : Launch) (D : va_G) (K : Ky) (m9 : Nat) (mr : Nat → Nat) (S0 Sf : Sg) (x1 : Int32) (rf : Int32) (h : f_count K S0 x1 = some (Sf, rf)) : CT l D K m9 mr yX23_count (Cond.code yX23_count cX23_count 2 (some .int)) (1) (20) S0 Sf [.ref m9, .int x1] (some (.int rf)) := by
  refine x_start (cc := cX23_count) (lv := [(0, .ref m9), (1, .int x1)]) rfl rfl (by decide) (by simp [lv_args, cat_rf, cat_i, cat_l, cat_a]) (by simp [lg_sl, cat_rf, cat_i, cat_l, cat_a]) (fun p e R s m args below meth c Q A C => ?_)
  unfold f_count at h
  refine x_iload_n C eX23_count_0 rfl 1 rfl ?_
  refine x_tabIn (v := 0) (tgt := 40) C eX23_count_1 (by decide) (by decide) rfl (by decide) h (fun h => ?_) (fun hq0 h => ?_)
  · refine x_tload_n C eX23_count_40 rfl 0 rfl ?_
    refine x_mV (k9 := 71) C (by decide) ww_955 eX23_count_41 rfl ?_
    exact x_iret C rfl rfl eX23_count_44 h
  · refine x_tabIn (v := 1) (tgt := 45) C eX23_count_1 (by decide) (by decide) rfl (by decide) h (fun h => ?_) (fun hq1 h => ?_)
    · refine x_tload_n C eX23_count_45 rfl 0 rfl ?_
      refine x_mV (k9 := 68) C (by decide) ww_785 eX23_count_46 rfl ?_
      exact x_iret C rfl rfl eX23_count_49 h
    · refine x_tabIn (v := 2) (tgt := 50) C eX23_count_1 (by decide) (by decide) rfl (by decide) h (fun h => ?_) (fun hq2 h => ?_)
      · refine x_tload_n C eX23_count_50 rfl 0 rfl ?_
        refine x_mV (k9 := 69) C (by decide) ww_790 eX23_count_51 rfl ?_
        exact x_iret C rfl rfl eX23_count_54 h
      · refine x_tabIn (v := 3) (tgt := 55) C eX23_count_1 (by decide) (by decide) rfl (by decide) h (fun h => ?_) (fun hq3 h => ?_)
        · refine x_tload_n C eX23_count_55 rfl 0 rfl ?_
          refine x_mV (k9 := 1) C (by decide) ww_945 eX23_count_56 rfl ?_
          exact x_iret C rfl rfl eX23_count_59 h
        · refine x_tabIn (v := 4) (tgt := 60) C eX23_count_1 (by decide) (by decide) rfl (by decide) h (fun h => ?_) (fun hq4 h => ?_)
          · refine x_tload_n C eX23_count_60 rfl 0 rfl ?_
            refine x_mV (k9 := 84) C (by decide) ww_840 eX23_count_61 rfl ?_
            exact x_iret C rfl rfl eX23_count_64 h
          · refine x_tabIn (v := 5) (tgt := 65) C eX23_count_1 (by decide) (by decide) rfl (by decide) h (fun h => ?_) (fun hq5 h => ?_)
            · refine x_tload_n C eX23_count_65 rfl 0 rfl ?_
              refine x_mV (k9 := 86) C (by decide) ww_892 eX23_count_66 rfl ?_
              exact x_iret C rfl rfl eX23_count_69 h
            · have hq0i : (x1 : Int32).toInt ≠ 0 := fun q9 => hq0 (Int32.toInt_inj.mp q9)
              have hq1i : (x1 : Int32).toInt ≠ 1 := fun q9 => hq1 (Int32.toInt_inj.mp q9)
              have hq2i : (x1 : Int32).toInt ≠ 2 := fun q9 => hq2 (Int32.toInt_inj.mp q9)
              have hq3i : (x1 : Int32).toInt ≠ 3 := fun q9 => hq3 (Int32.toInt_inj.mp q9)
              have hq4i : (x1 : Int32).toInt ≠ 4 := fun q9 => hq4 (Int32.toInt_inj.mp q9)
              have hq5i : (x1 : Int32).toInt ≠ 5 := fun q9 => hq5 (Int32.toInt_inj.mp q9)
              refine x_tabOut (tgt := 70) C eX23_count_1 (by omega) (by decide) ?_
              refine x_iconst (v := (-1)) C eX23_count_70 (by decide) ?_
              exact x_iret C rfl rfl eX23_count_71 h
end
-- k2.99.lean.txt
section
theorem eX23_run_0 : decode cX23_run 0 = .ok (.iload_n 1, 1) := by decide +kernel
theorem eX23_run_1 : decode cX23_run 1 = .ok (.ifCond .lt 22, 3) := by decide +kernel
theorem eX23_run_4 : decode cX23_run 4 = .ok (.iload_n 1, 1) := by decide +kernel
theorem eX23_run_5 : decode cX23_run 5 = .ok (.aload_n 0, 1) := by decide +kernel
theorem eX23_run_6 : decode cX23_run 6 = .ok (.getfield 1167, 3) := by decide +kernel
theorem eX23_run_9 : decode cX23_run 9 = .ok (.if_icmp .gt 14, 3) := by decide +kernel
theorem eX23_run_12 : decode cX23_run 12 = .ok (.iload_n 2, 1) := by decide +kernel
theorem eX23_run_13 : decode cX23_run 13 = .ok (.ifCond .lt 10, 3) := by decide +kernel
theorem eX23_run_16 : decode cX23_run 16 = .ok (.iload_n 2, 1) := by decide +kernel
theorem eX23_run_17 : decode cX23_run 17 = .ok (.sipush 20000, 3) := by decide +kernel
theorem eX23_run_20 : decode cX23_run 20 = .ok (.if_icmp .le 5, 3) := by decide +kernel
theorem eX23_run_23 : decode cX23_run 23 = .ok (.iconst (-1), 1) := by decide +kernel
theorem eX23_run_24 : decode cX23_run 24 = .ok (.ireturn, 1) := by decide +kernel
theorem eX23_run_25 : decode cX23_run 25 = .ok (.aload_n 0, 1) := by decide +kernel
theorem eX23_run_26 : decode cX23_run 26 = .ok (.iload_n 1, 1) := by decide +kernel
theorem eX23_run_27 : decode cX23_run 27 = .ok (.putfield 1, 3) := by decide +kernel
theorem eX23_run_30 : decode cX23_run 30 = .ok (.aload_n 0, 1) := by decide +kernel
theorem eX23_run_31 : decode cX23_run 31 = .ok (.iconst 0, 1) := by decide +kernel
theorem eX23_run_32 : decode cX23_run 32 = .ok (.putfield 1167, 3) := by decide +kernel
theorem eX23_run_35 : decode cX23_run 35 = .ok (.aload_n 0, 1) := by decide +kernel
theorem eX23_run_36 : decode cX23_run 36 = .ok (.iconst 0, 1) := by decide +kernel
theorem eX23_run_37 : decode cX23_run 37 = .ok (.putfield 80, 3) := by decide +kernel
theorem eX23_run_40 : decode cX23_run 40 = .ok (.aload_n 0, 1) := by decide +kernel
theorem eX23_run_41 : decode cX23_run 41 = .ok (.iconst (-1), 1) := by decide +kernel
theorem eX23_run_42 : decode cX23_run 42 = .ok (.putfield 83, 3) := by decide +kernel
theorem eX23_run_45 : decode cX23_run 45 = .ok (.aload_n 0, 1) := by decide +kernel
theorem eX23_run_46 : decode cX23_run 46 = .ok (.iload_n 2, 1) := by decide +kernel
theorem eX23_run_47 : decode cX23_run 47 = .ok (.putfield 1093, 3) := by decide +kernel
theorem eX23_run_50 : decode cX23_run 50 = .ok (.aload_n 0, 1) := by decide +kernel
theorem eX23_run_51 : decode cX23_run 51 = .ok (.iconst 0, 1) := by decide +kernel
theorem eX23_run_52 : decode cX23_run 52 = .ok (.putfield 1002, 3) := by decide +kernel
theorem eX23_run_55 : decode cX23_run 55 = .ok (.aload_n 0, 1) := by decide +kernel
theorem eX23_run_56 : decode cX23_run 56 = .ok (.iconst 0, 1) := by decide +kernel
theorem eX23_run_57 : decode cX23_run 57 = .ok (.putfield 1008, 3) := by decide +kernel
theorem eX23_run_60 : decode cX23_run 60 = .ok (.aload_n 0, 1) := by decide +kernel
theorem eX23_run_61 : decode cX23_run 61 = .ok (.invokevirtual 1173, 3) := by decide +kernel
theorem eX23_run_64 : decode cX23_run 64 = .ok (.aload_n 0, 1) := by decide +kernel
theorem eX23_run_65 : decode cX23_run 65 = .ok (.invokevirtual 1176, 3) := by decide +kernel
theorem eX23_run_68 : decode cX23_run 68 = .ok (.aload_n 0, 1) := by decide +kernel
theorem eX23_run_69 : decode cX23_run 69 = .ok (.invokevirtual 89, 3) := by decide +kernel
theorem eX23_run_72 : decode cX23_run 72 = .ok (.ifCond .eq 7, 3) := by decide +kernel
theorem eX23_run_75 : decode cX23_run 75 = .ok (.aload_n 0, 1) := by decide +kernel
theorem eX23_run_76 : decode cX23_run 76 = .ok (.invokevirtual 1179, 3) := by decide +kernel
theorem eX23_run_79 : decode cX23_run 79 = .ok (.aload_n 0, 1) := by decide +kernel
theorem eX23_run_80 : decode cX23_run 80 = .ok (.invokevirtual 89, 3) := by decide +kernel
theorem eX23_run_83 : decode cX23_run 83 = .ok (.ifCond .eq 7, 3) := by decide +kernel
theorem eX23_run_86 : decode cX23_run 86 = .ok (.aload_n 0, 1) := by decide +kernel
theorem eX23_run_87 : decode cX23_run 87 = .ok (.invokevirtual 1182, 3) := by decide +kernel
theorem eX23_run_90 : decode cX23_run 90 = .ok (.aload_n 0, 1) := by decide +kernel
theorem eX23_run_91 : decode cX23_run 91 = .ok (.aload_n 0, 1) := by decide +kernel
theorem eX23_run_92 : decode cX23_run 92 = .ok (.invokevirtual 89, 3) := by decide +kernel
theorem eX23_run_95 : decode cX23_run 95 = .ok (.ifCond .eq 7, 3) := by decide +kernel
theorem eX23_run_98 : decode cX23_run 98 = .ok (.iconst (-1), 1) := by decide +kernel
theorem eX23_run_99 : decode cX23_run 99 = .ok (.goto 7, 3) := by decide +kernel
theorem eX23_run_102 : decode cX23_run 102 = .ok (.aload_n 0, 1) := by decide +kernel
theorem eX23_run_103 : decode cX23_run 103 = .ok (.getfield 83, 3) := by decide +kernel
theorem eX23_run_106 : decode cX23_run 106 = .ok (.putfield 966, 3) := by decide +kernel
theorem eX23_run_109 : decode cX23_run 109 = .ok (.aload_n 0, 1) := by decide +kernel
theorem eX23_run_110 : decode cX23_run 110 = .ok (.invokevirtual 89, 3) := by decide +kernel
theorem eX23_run_113 : decode cX23_run 113 = .ok (.ifCond .eq 7, 3) := by decide +kernel
theorem eX23_run_116 : decode cX23_run 116 = .ok (.aload_n 0, 1) := by decide +kernel
theorem eX23_run_117 : decode cX23_run 117 = .ok (.invokevirtual 1185, 3) := by decide +kernel
theorem eX23_run_120 : decode cX23_run 120 = .ok (.aload_n 0, 1) := by decide +kernel
theorem eX23_run_121 : decode cX23_run 121 = .ok (.aload_n 0, 1) := by decide +kernel
theorem eX23_run_122 : decode cX23_run 122 = .ok (.getfield 1093, 3) := by decide +kernel
theorem eX23_run_125 : decode cX23_run 125 = .ok (.putfield 1188, 3) := by decide +kernel
theorem eX23_run_128 : decode cX23_run 128 = .ok (.aload_n 0, 1) := by decide +kernel
theorem eX23_run_129 : decode cX23_run 129 = .ok (.getfield 80, 3) := by decide +kernel
theorem eX23_run_132 : decode cX23_run 132 = .ok (.ireturn, 1) := by decide +kernel
set_option maxRecDepth 20000 in
set_option maxHeartbeats 4000000 in
theorem k_run64 {l : Launch} {D : va_G} {K : Ky} {m9 : Nat} {mr : Nat → Nat} {p : Program} {e : Env} {R : Room} {s : State} {m : MethodId} {args : Array Value} {below : List Frame} {meth : Method} {c : Code} {Q : State → Prop} {A : Nat → Prop} {mn : String} {Ts : List Cond} {fr lo : Nat} {Sb S0 Sf : Sg} {rf : Int32} (hfr : 1840 ≤ fr) (hlo : 44100 ≤ lo) (C : CX p l e R s m args below meth c Q D A K m9 mr RX23 mn cX23_run 3 Ts (some .int) fr lo Sb Sf (some (.int rf))) (h : f_run64 K S0 = some (Sf, rf)) : WX p l e R s m args below meth c Q D A K m9 mr 3 Sb S0 64 [(0, .ref m9)] [] := by
  have j_120 : ∀ (S : Sg), f_run_120 K S = some (Sf, rf) → WX p l e R s m args below meth c Q D A K m9 mr 3 Sb S 120 [(0, .ref m9)] [] := by
    intro S h
    unfold f_run_120 at h
    refine x_tload_n C eX23_run_120 rfl 0 rfl ?_
    refine x_tload_n C eX23_run_121 rfl 0 rfl ?_
    refine x_mV (k9 := 70) C (by decide) ww_872 eX23_run_122 rfl ?_
    refine x_pM (k9 := 71) C (by decide) rfl (by decide) ww_955 rfl (by decide +kernel) eX23_run_125 h (fun S18 h => ?_)
    refine x_tload_n C eX23_run_128 rfl 0 rfl ?_
    refine x_mV (k9 := 3) C (by decide) ww_1 eX23_run_129 rfl ?_
    exact x_iret C rfl rfl eX23_run_132 h
  have j_106 : ∀ (S : Sg) (y0 : Int32), f_run_106 K S y0 = some (Sf, rf) → WX p l e R s m args below meth c Q D A K m9 mr 3 Sb S 106 [(0, .ref m9)] [.int y0, .ref m9] := by
    intro S y0 h
    unfold f_run_106 at h
    refine x_pM (k9 := 88) C (by decide) rfl (by decide) ww_952 rfl (by decide +kernel) eX23_run_106 h (fun S13 h => ?_)
    refine x_tload_n C eX23_run_109 rfl 0 rfl ?_
    refine x_cVi (As := []) (st := []) (n := 0) (frc := 1) (loc := 20) C h (fun S9 r9 e9 => k_X23_ok l D K m9 mr _ S9 r9 e9) ww_0 ww_13 ww_14 ww_15 ww_16 (by decide +kernel) rfl ⟨by omega, by omega⟩ (Nat.le_of_ble_eq_true rfl) eX23_run_110 (fun S14 v15 h => ?_)
    refine x_if_eq (tgt := 120) C eX23_run_113 (by decide) h (fun h => ?_) (fun h => ?_)
    · refine x_sub [0] rfl ?_
      exact j_120 S14 h
    · refine x_tload_n C eX23_run_116 rfl 0 rfl ?_
      refine x_cVv (As := []) (st := []) (n := 0) (frc := 165) (loc := 3791) C h (fun S9 r9 e9 => k_X23_runMain l D K m9 mr _ S9 r9 e9) ww_940 ww_1004 ww_1005 ww_1006 ww_16 (by decide +kernel) rfl ⟨by omega, by omega⟩ (Nat.le_of_ble_eq_true rfl) eX23_run_117 (fun S16 v17 h => ?_)
      refine x_sub [0] rfl ?_
      exact j_120 S16 h
  have j_90 : ∀ (S : Sg), f_run_90 K S = some (Sf, rf) → WX p l e R s m args below meth c Q D A K m9 mr 3 Sb S 90 [(0, .ref m9)] [] := by
    intro S h
    unfold f_run_90 at h
    refine x_tload_n C eX23_run_90 rfl 0 rfl ?_
    refine x_tload_n C eX23_run_91 rfl 0 rfl ?_
    refine x_cVi (As := []) (st := [.ref m9]) (n := 0) (frc := 1) (loc := 20) C h (fun S9 r9 e9 => k_X23_ok l D K m9 mr _ S9 r9 e9) ww_0 ww_13 ww_14 ww_15 ww_16 (by decide +kernel) rfl ⟨by omega, by omega⟩ (Nat.le_of_ble_eq_true rfl) eX23_run_92 (fun S11 v12 h => ?_)
    refine x_if_eq (tgt := 102) C eX23_run_95 (by decide) h (fun h => ?_) (fun h => ?_)
    · refine x_tload_n C eX23_run_102 rfl 0 rfl ?_
      refine x_mV (k9 := 4) C (by decide) ww_4 eX23_run_103 rfl ?_
      refine x_sub [0] rfl ?_
      exact j_106 S11 (Zi S11 4) h
    · refine x_iconst (v := (-1)) C eX23_run_98 (by decide) ?_
      refine x_goto (tgt := 106) C eX23_run_99 (by decide) ?_
      refine x_sub [0] rfl ?_
      exact j_106 S11 (-1) h
  have j_79 : ∀ (S : Sg), f_run_79 K S = some (Sf, rf) → WX p l e R s m args below meth c Q D A K m9 mr 3 Sb S 79 [(0, .ref m9)] [] := by
    intro S h
    unfold f_run_79 at h
    refine x_tload_n C eX23_run_79 rfl 0 rfl ?_
    refine x_cVi (As := []) (st := []) (n := 0) (frc := 1) (loc := 20) C h (fun S9 r9 e9 => k_X23_ok l D K m9 mr _ S9 r9 e9) ww_0 ww_13 ww_14 ww_15 ww_16 (by decide +kernel) rfl ⟨by omega, by omega⟩ (Nat.le_of_ble_eq_true rfl) eX23_run_80 (fun S7 v8 h => ?_)
    refine x_if_eq (tgt := 90) C eX23_run_83 (by decide) h (fun h => ?_) (fun h => ?_)
    · refine x_sub [0] rfl ?_
      exact j_90 S7 h
    · refine x_tload_n C eX23_run_86 rfl 0 rfl ?_
      refine x_cVv (As := []) (st := []) (n := 0) (frc := 964) (loc := 21939) C h (fun S9 r9 e9 => k_X23_layAll l D K m9 mr _ S9 r9 e9) ww_724 ww_1001 ww_1002 ww_1003 ww_16 (by decide +kernel) rfl ⟨by omega, by omega⟩ (Nat.le_of_ble_eq_true rfl) eX23_run_87 (fun S9 v10 h => ?_)
      refine x_sub [0] rfl ?_
      exact j_90 S9 h
  unfold f_run64 at h
  refine x_tload_n C eX23_run_64 rfl 0 rfl ?_
  refine x_cVv (As := []) (st := []) (n := 0) (frc := 929) (loc := 20495) C h (fun S9 r9 e9 => k_X23_program l D K m9 mr _ S9 r9 e9) ww_101 ww_995 ww_996 ww_997 ww_16 (by decide +kernel) rfl ⟨by omega, by omega⟩ (Nat.le_of_ble_eq_true rfl) eX23_run_65 (fun S1 v2 h => ?_)
  refine x_tload_n C eX23_run_68 rfl 0 rfl ?_
  refine x_cVi (As := []) (st := []) (n := 0) (frc := 1) (loc := 20) C h (fun S9 r9 e9 => k_X23_ok l D K m9 mr _ S9 r9 e9) ww_0 ww_13 ww_14 ww_15 ww_16 (by decide +kernel) rfl ⟨by omega, by omega⟩ (Nat.le_of_ble_eq_true rfl) eX23_run_69 (fun S3 v4 h => ?_)
  refine x_if_eq (tgt := 79) C eX23_run_72 (by decide) h (fun h => ?_) (fun h => ?_)
  · refine x_sub [0] rfl ?_
    exact j_79 S3 h
  · refine x_tload_n C eX23_run_75 rfl 0 rfl ?_
    refine x_cVv (As := []) (st := []) (n := 0) (frc := 1831) (loc := 43973) C h (fun S9 r9 e9 => k_X23_typeAll l D K m9 mr _ S9 r9 e9) ww_464 ww_998 ww_999 ww_1000 ww_16 (by decide +kernel) rfl ⟨by omega, by omega⟩ (Nat.le_of_ble_eq_true rfl) eX23_run_76 (fun S5 v6 h => ?_)
    refine x_sub [0] rfl ?_
    exact j_79 S5 h
end
-- k2.9a.lean.txt
section
set_option maxRecDepth 20000 in
set_option maxHeartbeats 4000000 in
theorem k_runP {l : Launch} {D : va_G} {K : Ky} {m9 : Nat} {mr : Nat → Nat} {p : Program} {e : Env} {R : Room} {s : State} {m : MethodId} {args : Array Value} {below : List Frame} {meth : Method} {c : Code} {Q : State → Prop} {A : Nat → Prop} {mn : String} {Ts : List Cond} {fr lo : Nat} {Sb S0 Sf : Sg} {rf x1 x2 : Int32} {V : Sg → Option (Sg × Int32)} (C : CX p l e R s m args below meth c Q D A K m9 mr RX23 mn cX23_run 3 Ts (some .int) fr lo Sb Sf (some (.int rf))) (hV : ∀ S : Sg, V S = some (Sf, rf) → WX p l e R s m args below meth c Q D A K m9 mr 3 Sb S 61 [(0, .ref m9)] [.ref m9]) (h : f_runP K V S0 x1 x2 = some (Sf, rf)) : WX p l e R s m args below meth c Q D A K m9 mr 3 Sb S0 0 [(0, .ref m9), (1, .int x1), (2, .int x2)] [] := by
  have j_23 : ∀ (S : Sg), f_runP_23 K V S = some (Sf, rf) → WX p l e R s m args below meth c Q D A K m9 mr 3 Sb S 23 [] [] := by
    intro S h
    unfold f_runP_23 at h
    refine x_iconst (v := (-1)) C eX23_run_23 (by decide) ?_
    exact x_iret C rfl rfl eX23_run_24 h
  unfold f_runP at h
  refine x_iload_n C eX23_run_0 rfl 1 rfl ?_
  refine x_if_lt (tgt := 23) C eX23_run_1 (by decide) h (fun h => ?_) (fun h => ?_)
  · refine x_sub [] rfl ?_
    exact j_23 S0 h
  · refine x_iload_n C eX23_run_4 rfl 1 rfl ?_
    refine x_tload_n C eX23_run_5 rfl 0 rfl ?_
    refine x_mV (k9 := 1) C (by decide) ww_945 eX23_run_6 rfl ?_
    refine x_ic_gt (tgt := 23) C eX23_run_9 (by decide) h (fun h => ?_) (fun h => ?_)
    · refine x_sub [] rfl ?_
      exact j_23 S0 h
    · refine x_iload_n C eX23_run_12 rfl 2 rfl ?_
      refine x_if_lt (tgt := 23) C eX23_run_13 (by decide) h (fun h => ?_) (fun h => ?_)
      · refine x_sub [] rfl ?_
        exact j_23 S0 h
      · refine x_iload_n C eX23_run_16 rfl 2 rfl ?_
        refine x_sipush (v := 20000) C eX23_run_17 (by decide) ?_
        refine x_ic_le (tgt := 25) C eX23_run_20 (by decide) h (fun h => ?_) (fun h => ?_)
        · refine x_tload_n C eX23_run_25 rfl 0 rfl ?_
          refine x_iload_n C eX23_run_26 rfl 1 rfl ?_
          refine x_pM (k9 := 2) C (by decide) rfl (by decide) ww_991 rfl (by decide +kernel) eX23_run_27 h (fun S1 h => ?_)
          refine x_tload_n C eX23_run_30 rfl 0 rfl ?_
          refine x_iconst (v := 0) C eX23_run_31 (by decide) ?_
          refine x_pM (k9 := 1) C (by decide) rfl (by decide) ww_945 rfl (by decide +kernel) eX23_run_32 h (fun S2 h => ?_)
          refine x_tload_n C eX23_run_35 rfl 0 rfl ?_
          refine x_iconst (v := 0) C eX23_run_36 (by decide) ?_
          refine x_pM (k9 := 3) C (by decide) rfl (by decide) ww_1 rfl (by decide +kernel) eX23_run_37 h (fun S3 h => ?_)
          refine x_tload_n C eX23_run_40 rfl 0 rfl ?_
          refine x_iconst (v := (-1)) C eX23_run_41 (by decide) ?_
          refine x_pM (k9 := 4) C (by decide) rfl (by decide) ww_4 rfl (by decide +kernel) eX23_run_42 h (fun S4 h => ?_)
          refine x_tload_n C eX23_run_45 rfl 0 rfl ?_
          refine x_iload_n C eX23_run_46 rfl 2 rfl ?_
          refine x_pM (k9 := 70) C (by decide) rfl (by decide) ww_872 rfl (by decide +kernel) eX23_run_47 h (fun S5 h => ?_)
          refine x_tload_n C eX23_run_50 rfl 0 rfl ?_
          refine x_iconst (v := 0) C eX23_run_51 (by decide) ?_
          refine x_pM (k9 := 68) C (by decide) rfl (by decide) ww_785 rfl (by decide +kernel) eX23_run_52 h (fun S6 h => ?_)
          refine x_tload_n C eX23_run_55 rfl 0 rfl ?_
          refine x_iconst (v := 0) C eX23_run_56 (by decide) ?_
          refine x_pM (k9 := 69) C (by decide) rfl (by decide) ww_790 rfl (by decide +kernel) eX23_run_57 h (fun S7 h => ?_)
          refine x_tload_n C eX23_run_60 rfl 0 rfl ?_
          refine x_sub [0] rfl ?_
          exact hV _ h
        · refine x_sub [] rfl ?_
          exact j_23 S0 h
end
-- k2.9z1.lean.txt
section
section XR0
/-- the world in part changed -/
theorem PI.part {D : va_G} {A : Nat → Prop} {K : Ky} {m9 : Nat} {mr : Nat → Nat} {H0 H H1 : Heap} {S0 S S2 : Sg} {locs locs1 : List Loc} {six six2 : va_W} (hP : PI D A K m9 mr H0 S0 S H locs) (hP1 : va_P D vwCl six2 H1) (hk : ∀ q : Nat, q < H.size → ¬ va_A six H.size q → H1[q]? = H[q]?) (hS1 : va_S A H0 H1 locs1) (hz : H1.size = H.size) (hL : ZL S2 = ZL S) (hF : ∀ a ∈ LL m9 mr S, (a, FF K.1 m9 mr S2 a) ∈ six2 ∨ (FF K.1 m9 mr S2 a = FF K.1 m9 mr S a ∧ ∀ q ∈ six, q.1 ≠ a)) (e1 : Zz S2 = Zz S) (e2 : Zn S2 = Zn S) : PI D A K m9 mr H0 S0 S2 H1 locs1 := by
  have hL2 : LL m9 mr S2 = LL m9 mr S := by unfold LL; rw [hL]
  refine ⟨fun k q hq => ?_, sT_D (by rw [hL2]; exact sT_nd hP.2.1) (fun a ha => sT_A hP.2.1 (by rw [← hL2]; exact ha)), hS1, by rw [hz, e1]; exact hP.2.2.2.1, by rw [e2]; exact hP.2.2.2.2.1, by rw [hL]; exact hP.2.2.2.2.2.1, by rw [hL, e1]; exact hP.2.2.2.2.2.2.1, by rw [e1, e2]; exact hP.2.2.2.2.2.2.2.1, hP.2.2.2.2.2.2.2.2⟩
  obtain ⟨a, ha, rfl⟩ := List.mem_map.mp (List.mem_of_getElem? hq)
  rw [hL2] at ha
  rcases hF a ha with h | ⟨h, h2⟩
  · obtain ⟨j, hj⟩ := List.mem_iff_getElem?.mp h
    exact hP1 j _ hj
  · rw [h]
    obtain ⟨j, hj⟩ := List.mem_iff_getElem?.mp (sT_mem (F := FF K.1 m9 mr S) ha)
    have h9 := hP.1 j _ hj
    refine h9.kept (hk a h9.lt (fun w => ?_))
    rcases w with ⟨i, x, hi⟩ | w
    · exact h2 _ (List.mem_of_getElem? hi) rfl
    · have := h9.lt
      have this : a < H.size := this
      omega
theorem FF_r {kc : Nat → ClassId} {m9 : Nat} {mr : Nat → Nat} {S : Sg} (hi : ∀ r ∈ rwL, ∀ r2 ∈ rwL, mr r = mr r2 → r = r2) {r : Nat} (hr : r ∈ rwL) (hn : mr r ≠ m9) : FF kc m9 mr S (mr r) = rwc kc S r := by
  unfold FF
  rw [if_neg hn, fd_some hi hr]
theorem FF_l {kc : Nat → ClassId} {m9 : Nat} {mr : Nat → Nat} {S : Sg} {a : Nat} (hn : a ≠ m9) (h : ∀ r ∈ rwL, mr r ≠ a) : FF kc m9 mr S a = ZF S a := by
  unfold FF
  rw [if_neg hn, fd_none h]
/-- the tokens were read -/
def scS (S : Sg) (gk ga ge : Nat → Int32) (gn : Nat → Int64) (T : Nat) : Sg := Ui (Ul (Ur (Ur (Ur S 5 gk) 6 ga) 7 ge) 8 gn) 9 (nI T)
theorem scS_i {S : Sg} {gk ga ge : Nat → Int32} {gn : Nat → Int64} {T j : Nat} (h : j ≠ 9) : Zi (scS S gk ga ge gn T) j = Zi S j := if_neg h
def sxA (K : Ky) (m9 : Nat) (mr : Nat → Nat) (S : Sg) : va_W := [(m9, .inr (23, mO mr S)), (mr 0, rwc K.1 S 0), (mr 5, rwc K.1 S 5), (mr 6, rwc K.1 S 6), (mr 7, rwc K.1 S 7), (mr 8, rwc K.1 S 8)]
def wScan (own : String) : List Cond := wsV own 1173 RX23 yX23_scan wp_c_rscan
variable {p : Program} {l : Launch} {e : Env} {R : Room} {s : State} {m : MethodId} {args : Array Value} {below : List Frame} {meth : Method} {c : Code} {Q : State → Prop} {D : va_G} {A : Nat → Prop} {K : Ky} {m9 : Nat} {mr : Nat → Nat} {own mn : String} {cc : ByteArray} {nL : Nat} {Ts : List Cond} {ret : Option FieldType} {fr lo : Nat} {S0 Sf : Sg} {rv : Option Value}
variable {S : Sg} {pc : Nat} {lv : List (Nat × Value)} {st : List Value}
set_option maxRecDepth 20000 in
theorem mO_mA {S : Sg} : mO mr S = mA mr (Zi S) (va_rf (Zf S)) (Zi S 1) (Zi S 2) (Zi S 3) (Zi S 4) (Zi S 9) (Zi S 10) (Zi S 12) (Zi S 13) (Zi S 14) (Zi S 15) (Zi S 16) (Zi S 17) := rfl
/-- scan -/
theorem x_scan (C : CX p l e R s m args below meth c Q D A K m9 mr own mn cc nL Ts ret fr lo S0 Sf rv) {zs t0 t1 t2 t3 : Nat} (hzs : zs ≤ 3000) (h2 : Zi S 2 = nI zs) (hst : stA t0 t1 t2 t3 A s s.heap) (hg : GoodIn Ts (wScan own)) (hrm : 3 + 1 ≤ fr ∧ 8 + (4 + 11) + 71 ≤ lo) (hct : (st.map fun v => v.category).sum ≤ 8) (hd : decode cc pc = .ok (.invokevirtual 1173, 3)) (k : ∀ (T : Nat) (gk ga ge : Nat → Int32) (gn : Nat → Int64), tkF gk ga ge T zs → WX p l e R s m args below meth c Q D A K m9 mr nL S0 (scS S gk ga ge gn T) (pc + 3) lv st) : WX p l e R s m args below meth c Q D A K m9 mr nL S0 S pc lv (.ref m9 :: st) := fun H locs ls hP hl => by
  obtain ⟨r1, r2, r3, r4⟩ := C.rm
  have h7 := hP.2.2.2.2.1; have h6 := hP.2.2.1.1; have hz := C.z; have h5 := hP.2.2.2.1; have h8 := hP.2.2.2.2.2.2.2.1
  have hmem : ∀ q ∈ sxA K m9 mr S, q ∈ sT (LL m9 mr S) (FF K.1 m9 mr S) := fun q hq => by
    have hr : ∀ r ∈ rwL, (mr r, rwc K.1 S r) ∈ sT (LL m9 mr S) (FF K.1 m9 mr S) := fun r hr => by
      have := sT_mem (F := FF K.1 m9 mr S) (LLr (m9 := m9) (mr := mr) (S := S) hr)
      rwa [hP.FFr hr] at this
    unfold sxA at hq
    simp only [List.mem_cons, List.not_mem_nil, or_false] at hq
    rcases hq with rfl | rfl | rfl | rfl | rfl | rfl
    · have := sT_mem (F := FF K.1 m9 mr S) (LLm (m9 := m9) (mr := mr) (S := S))
      rwa [FF_m] at this
    · exact hr 0 (by decide)
    · exact hr 5 (by decide)
    · exact hr 6 (by decide)
    · exact hr 7 (by decide)
    · exact hr 8 (by decide)
  have hPc : va_P D vwCl (sxA K m9 mr S) H := hP.1.turn hmem
  have hi := hP.2.2.2.2.2.2.2.2
  have hne : ∀ r ∈ rwL, ∀ r2 ∈ rwL, r ≠ r2 → mr r ≠ mr r2 := fun r a r2 b q w => q (hi r a r2 b w)
  have hn9 : ∀ r ∈ rwL, mr r ≠ m9 := fun r hr => hP.n9 hr
  have hnd : ((sxA K m9 mr S).map (fun q => q.1)).Nodup := by
    show [m9, mr 0, mr 5, mr 6, mr 7, mr 8].Nodup
    have q : ∀ r ∈ rwL, m9 ≠ mr r := fun r hr w => hn9 r hr w.symm
    simp only [List.nodup_cons, List.mem_cons, List.not_mem_nil, or_false, not_or, List.nodup_nil, and_true, not_false_eq_true]
    exact ⟨⟨q 0 (by decide), q 5 (by decide), q 6 (by decide), q 7 (by decide), q 8 (by decide)⟩, ⟨hne 0 (by decide) 5 (by decide) (by decide), hne 0 (by decide) 6 (by decide) (by decide), hne 0 (by decide) 7 (by decide) (by decide), hne 0 (by decide) 8 (by decide) (by decide)⟩, ⟨hne 5 (by decide) 6 (by decide) (by decide), hne 5 (by decide) 7 (by decide) (by decide), hne 5 (by decide) 8 (by decide) (by decide)⟩, ⟨hne 6 (by decide) 7 (by decide) (by decide), hne 6 (by decide) 8 (by decide) (by decide)⟩, hne 7 (by decide) 8 (by decide) (by decide)⟩
  have hDc : va_D (fun _ => True) (sxA K m9 mr S) := by
    refine ⟨fun i j p q hp hq e => ?_, fun _ _ _ => trivial⟩
    have e1 : ((sxA K m9 mr S).map (fun q => q.1))[i]? = some p.1 := by rw [List.getElem?_map, hp]; rfl
    have e2 : ((sxA K m9 mr S).map (fun q => q.1))[j]? = some p.1 := by rw [List.getElem?_map, hq, e]; rfl
    have hlt := (List.getElem?_eq_some_iff.mp e1).1
    exact (List.getElem?_inj hlt hnd).mp (e1.trans e2.symm)
  have hKc : va_K D vwCl [(K.1 0, .int), (K.1 1, .long)] s := C.kk.sub (tys' := [(K.1 0, .int), (K.1 1, .long)]) [0, 1] rfl
  have hFc : ∀ q : Nat, va_A (sxA K m9 mr S) H.size q → A q := fun q hq => by
    rcases hq with ⟨i, x, hx⟩ | hq
    · have := hmem _ (List.mem_of_getElem? hx)
      obtain ⟨j, hj⟩ := List.mem_iff_getElem?.mp this
      exact hP.2.1.2 j _ hj
    · exact C.A9 q (Nat.le_trans h6 hq)
  have hPc' : va_P (D.1, D.2) vwCl [(m9, .inr (23, mA mr (Zi S) (va_rf (Zf S)) (Zi S 1) (nI zs) (Zi S 3) (Zi S 4) (Zi S 9) (Zi S 10) (Zi S 12) (Zi S 13) (Zi S 14) (Zi S 15) (Zi S 16) (Zi S 17))), (mr 0, .inl (K.1 0, 3000, .inl (Zr S 0))), (mr 5, .inl (K.1 0, 3002, .inl (Zr S 5))), (mr 6, .inl (K.1 0, 3002, .inl (Zr S 6))), (mr 7, .inl (K.1 0, 3002, .inl (Zr S 7))), (mr 8, .inl (K.1 1, 3002, .inr (.inl (Zl S 8))))] H := by
    have := hPc
    unfold sxA at this
    rw [mO_mA, h2] at this
    exact this
  have eS : ([(m9, .inr (23, mA mr (Zi S) (va_rf (Zf S)) (Zi S 1) (nI zs) (Zi S 3) (Zi S 4) (Zi S 9) (Zi S 10) (Zi S 12) (Zi S 13) (Zi S 14) (Zi S 15) (Zi S 16) (Zi S 17))), (mr 0, .inl (K.1 0, 3000, .inl (Zr S 0))), (mr 5, .inl (K.1 0, 3002, .inl (Zr S 5))), (mr 6, .inl (K.1 0, 3002, .inl (Zr S 6))), (mr 7, .inl (K.1 0, 3002, .inl (Zr S 7))), (mr 8, .inl (K.1 1, 3002, .inr (.inl (Zl S 8))))] : va_W) = sxA K m9 mr S := by
    unfold sxA
    rw [mO_mA, h2]; rfl
  have hM := c_rscan l D.1 D.2 m9 mr (Zi S) (va_rf (Zf S)) (Zi S 1) (Zi S 3) (Zi S 4) (Zi S 10) (Zi S 12) (Zi S 13) (Zi S 14) (Zi S 15) (Zi S 16) (Zi S 17) zs (K.1 0) (K.1 1) (Zr S 0) (Zr S 5) (Zr S 6) (Zr S 7) (Zl S 8) (Zi S 9) t0 t1 t2 t3 H.size hzs
  rw [eS] at hM
  have hst1 : ∀ U : State, U.heap = H → s.WarmedH U.vm → stA t0 t1 t2 t3 (va_A (sxA K m9 mr S) H.size) U U.heap := fun U hU hW => by rw [hU]; exact ((hst.kept hP.2.2.1.2.1).moved hW.alike).narrow hFc
  refine va_callv (va_runV (As := []) (rest := st) C.1 hM (cwV 0 C.1.2.2.2.2 hg rfl rfl rfl (by decide +kernel) ⟨by rw [r3]; exact hrm.1, by rw [r4]; exact hrm.2⟩) ⟨fun a U g mk q => by obtain ⟨q0, q1, qP, qK, qD, qx0⟩ := q; exact ⟨q0, q1, qP, va_K.moved (u := U) (U := U.calling g mk a) (Vm.Alike.refl U.vm) qK, qD, stA.moved (u := U) (U := U.calling g mk a) (Vm.Alike.refl U.vm) qx0⟩, va_recv hKc hPc (ci := 23) (q0 := 0) rfl rfl, fun U hU hW => ⟨rfl, by rw [hU], by rw [hU]; exact hPc, va_K.moved hW.alike hKc, hDc, hst1 U hU hW⟩⟩ rfl rfl hl.1 rfl (lv_room hct) hd ⟨by rw [r1]; omega, by rw [r2]; omega⟩) hP.2.2.1 (fun q _ h => hFc q h) hFc (fun u tS H1 locs1 ht hvm hw hB hz1 hk1 hS => ?_)
  obtain ⟨T, gk, ga, ge, gn, hT, hP1, _⟩ := hB
  rw [ht] at hP1
  refine W.grow (fun hg0 hg1 => ?_)
  have hzz : H1.size = H.size := by omega
  have hN : PI D A K m9 mr s.heap S0 (scS S gk ga ge gn T) H1 locs1 := by
    refine hP.part (six := sxA K m9 mr S) (six2 := sxA K m9 mr (scS S gk ga ge gn T)) ?_ hk1 hS hzz rfl (fun a ha => ?_) rfl rfl
    · have : sxA K m9 mr (scS S gk ga ge gn T) = [(m9, .inr (23, mA mr (Zi S) (va_rf (Zf S)) (Zi S 1) (nI zs) (Zi S 3) (Zi S 4) (nI T) (Zi S 10) (Zi S 12) (Zi S 13) (Zi S 14) (Zi S 15) (Zi S 16) (Zi S 17))), (mr 0, .inl (K.1 0, 3000, .inl (Zr S 0))), (mr 5, .inl (K.1 0, 3002, .inl gk)), (mr 6, .inl (K.1 0, 3002, .inl ga)), (mr 7, .inl (K.1 0, 3002, .inl ge)), (mr 8, .inl (K.1 1, 3002, .inr (.inl gn)))] := by
        rw [← h2]; rfl
      rw [this]; exact hP1
    · have hin : ∀ q ∈ sxA K m9 mr (scS S gk ga ge gn T), q ∈ sxA K m9 mr (scS S gk ga ge gn T) := fun q h => h
      rcases List.mem_cons.mp ha with rfl | ha
      · left; rw [FF_m]; exact List.mem_cons_self
      rcases List.mem_append.mp ha with ha | ha
      · obtain ⟨r, hr, rfl⟩ := List.mem_map.mp ha
        rw [FF_r hi hr (hn9 r hr), FF_r hi hr (hn9 r hr)]
        by_cases c0 : r = 0 ∨ r = 5 ∨ r = 6 ∨ r = 7 ∨ r = 8
        · left
          unfold sxA
          rcases c0 with rfl | rfl | rfl | rfl | rfl <;> simp
        · right
          have f1 : r ≠ 5 := fun w => c0 (by omega)
          have f2 : r ≠ 6 := fun w => c0 (by omega)
          have f3 : r ≠ 7 := fun w => c0 (by omega)
          have f4 : r ≠ 8 := fun w => c0 (by omega)
          have f0 : r ≠ 0 := fun w => c0 (by omega)
          refine ⟨?_, fun q hq => ?_⟩
          · have e1 : Zr (scS S gk ga ge gn T) r = Zr S r := (va_up_ne _ _ f3).trans ((va_up_ne _ _ f2).trans (va_up_ne _ _ f1))
            have e2 : Zl (scS S gk ga ge gn T) r = Zl S r := va_up_ne _ _ f4
            have e3 : Zq (scS S gk ga ge gn T) r = Zq S r := rfl
            unfold rwc
            rw [e1, e2, e3]
          · unfold sxA at hq
            simp only [List.mem_cons, List.not_mem_nil, or_false] at hq
            rcases hq with rfl | rfl | rfl | rfl | rfl | rfl
            · exact fun w => hn9 r hr w.symm
            · exact hne 0 (by decide) r hr (Ne.symm f0)
            · exact hne 5 (by decide) r hr (Ne.symm f1)
            · exact hne 6 (by decide) r hr (Ne.symm f2)
            · exact hne 7 (by decide) r hr (Ne.symm f3)
            · exact hne 8 (by decide) r hr (Ne.symm f4)
      · right
        have a9 : a ≠ m9 := hP.m9L ha
        have ar : ∀ r ∈ rwL, mr r ≠ a := fun r hr => hP.nrL ha hr
        refine ⟨by rw [FF_l a9 ar, FF_l a9 ar]; rfl, fun q hq => ?_⟩
        unfold sxA at hq
        simp only [List.mem_cons, List.not_mem_nil, or_false] at hq
        rcases hq with rfl | rfl | rfl | rfl | rfl | rfl
        · exact fun w => a9 w.symm
        · exact ar 0 (by decide)
        · exact ar 5 (by decide)
        · exact ar 6 (by decide)
        · exact ar 7 (by decide)
        · exact ar 8 (by decide)
  refine W.tight (k := Zz (scS S gk ga ge gn T) - Zz S0) (n := Zn (scS S gk ga ge gn T) - Zn S0) ?_ ?_ (k T gk ga ge gn hT H1 locs1 ls hN hl)
  · show H1.size ≤ s.heap.size + (Zz S - Zz S0); omega
  · show slN H1 ≤ slN s.heap + (Zn S - Zn S0); omega
end XR0
end
-- k3.a.lean.txt
section
/-- a step of the reference comes to its end, with P -/
def Rt {α : Type} (x : Option (Sg × α)) (P : Sg → α → Prop) : Prop := ∃ (S : Sg) (r : α), x = some (S, r) ∧ P S r
theorem Rt.bd {α β : Type} {x : Option β} {v : β} {g : β → Option (Sg × α)} {P : Sg → α → Prop} (h : x = some v) (k : Rt (g v) P) : Rt (x.bind g) P := by rw [h]; exact k
theorem Rt.bn {α β : Type} {x : Option (Sg × β)} {g : Sg → β → Option (Sg × α)} {Q : Sg → β → Prop} {P : Sg → α → Prop} (h : Rt x Q) (k : ∀ (S : Sg) (r : β), Q S r → Rt (g S r) P) : Rt (bnd x g) P := by
  obtain ⟨S, r, e, q⟩ := h
  rw [e]; exact k S r q
theorem Rt.be {α β : Type} {x : Option (Sg × β)} {S : Sg} {r : β} {g : Sg → β → Option (Sg × α)} {P : Sg → α → Prop} (h : x = some (S, r)) (k : Rt (g S r) P) : Rt (bnd x g) P := by rw [h]; exact k
theorem Rt.it {α : Type} {c : Prop} [Decidable c] {a b : Option (Sg × α)} {P : Sg → α → Prop} (ka : c → Rt a P) (kb : ¬ c → Rt b P) : Rt (if c then a else b) P := by
  by_cases q : c
  · rw [if_pos q]; exact ka q
  · rw [if_neg q]; exact kb q
theorem Rt.ip {α : Type} {c : Prop} [Decidable c] {a b : Option (Sg × α)} {P : Sg → α → Prop} (q : c) (ka : Rt a P) : Rt (if c then a else b) P := by rw [if_pos q]; exact ka
theorem Rt.iq {α : Type} {c : Prop} [Decidable c] {a b : Option (Sg × α)} {P : Sg → α → Prop} (q : ¬ c) (kb : Rt b P) : Rt (if c then a else b) P := by rw [if_neg q]; exact kb
theorem Rt.rt {α : Type} {S : Sg} {r : α} {P : Sg → α → Prop} (h : P S r) : Rt (some (S, r)) P := ⟨S, r, rfl, h⟩
theorem Rt.zr {S : Sg} {v : Int32} {P : Sg → Int32 → Prop} (hv : v = 0 ∨ v = 1) (h : P S v) : Rt ((zB v).bind fun _ => some (S, v)) P := by
  unfold zB; rw [if_pos hv]; exact ⟨S, v, rfl, h⟩
theorem Rt.mo {α : Type} {x : Option (Sg × α)} {P Q : Sg → α → Prop} (h : Rt x P) (k : ∀ (S : Sg) (r : α), P S r → Q S r) : Rt x Q := by
  obtain ⟨S, r, e, q⟩ := h
  exact ⟨S, r, e, k S r q⟩
theorem bigN_gt {n : Nat} (h : n ≤ 100000000000) : ∃ m : Nat, bigN = m + 1 ∧ n ≤ m := ⟨999999999999, rfl, by omega⟩
end
-- k3.b.lean.txt
section
theorem rI_n {S : Sg} {r j : Nat} (h : j < rlen r) (hr : rlen r < 2 ^ 31) : rI S r (nI j) = some (Zr S r j) := by
  unfold rI; rw [if_neg (vp_in_nI h hr), nI_clamp (by omega)]
theorem rJ_n {S : Sg} {r j : Nat} (h : j < rlen r) (hr : rlen r < 2 ^ 31) : rJ S r (nI j) = some (Zl S r j) := by
  unfold rJ; rw [if_neg (vp_in_nI h hr), nI_clamp (by omega)]
theorem rQ_n {S : Sg} {r j : Nat} (h : j < rlen r) (hr : rlen r < 2 ^ 31) : rQ S r (nI j) = some (Zq S r j) := by
  unfold rQ; rw [if_neg (vp_in_nI h hr), nI_clamp (by omega)]
theorem wRI_n {S : Sg} {r j : Nat} {v : Int32} (h : j < rlen r) (hr : rlen r < 2 ^ 31) : wRI S r (nI j) v = some (Ur S r (upd (Zr S r) j v)) := by
  unfold wRI; rw [if_neg (vp_in_nI h hr), nI_clamp (by omega)]
theorem wJ_n {S : Sg} {r j : Nat} {v : Int64} (h : j < rlen r) (hr : rlen r < 2 ^ 31) : wJ S r (nI j) v = some (Ul S r (vp_updL (Zl S r) j v)) := by
  unfold wJ; rw [if_neg (vp_in_nI h hr), nI_clamp (by omega)]
theorem wZ_n {S : Sg} {r j : Nat} {v : Int32} (h : j < rlen r) (hr : rlen r < 2 ^ 31) (hv : v = 0 ∨ v = 1) : wZ S r (nI j) v = some (Ur S r (upd (Zr S r) j v)) := by
  unfold wZ; rw [if_neg (vp_in_nI h hr), if_pos hv, nI_clamp (by omega)]
theorem wQ_n {S : Sg} {ci r j : Nat} {v : Option Nat} (h : j < rlen r) (hr : rlen r < 2 ^ 31) (hv : okO S ci v = true) : wQ S ci r (nI j) v = some (Uq S r (va_up (Zq S r) j v)) := by
  unfold wQ; rw [if_neg (vp_in_nI h hr), if_pos hv, nI_clamp (by omega)]
theorem wA_n {K : Ky} {S : Sg} {r j : Nat} {v : Option Nat} (h : j < rlen r) (hr : rlen r < 2 ^ 31) (hv : okA K S v = true) : wA K S r (nI j) v = some (Uq S r (va_up (Zq S r) j v)) := by
  unfold wA; rw [if_neg (vp_in_nI h hr), if_pos hv, nI_clamp (by omega)]
theorem aI_n {K : Ky} {S : Sg} {a n j : Nat} {f : Nat → Int32} (ha : a ∈ ZL S) (hF : ZF S a = .inl (K.1 0, n, .inl f)) (h : j < n) (hn : n < 2 ^ 31) : aI K S (some a) (nI j) = some (f j) := by
  rw [aI_mk ha hF (vp_in_nI h hn), nI_clamp (by omega)]
theorem aQ_n {K : Ky} {t : Nat} {S : Sg} {a n j : Nat} {f : Nat → Option Nat} (ha : a ∈ ZL S) (hF : ZF S a = .inl (K.1 t, n, .inr (.inr (.inr (.inr f))))) (h : j < n) (hn : n < 2 ^ 31) : aQ K t S (some a) (nI j) = some (f j) := by
  rw [aQ_mk ha hF (vp_in_nI h hn), nI_clamp (by omega)]
theorem bI_n {K : Ky} {S : Sg} {a n j : Nat} {f : Nat → Int32} {v : Int32} (ha : a ∈ ZL S) (hF : ZF S a = .inl (K.1 0, n, .inl f)) (h : j < n) (hn : n < 2 ^ 31) : bI K S (some a) (nI j) v = some (UF S a (.inl (K.1 0, n, .inl (upd f j v)))) := by
  rw [bI_mk ha hF (vp_in_nI h hn), nI_clamp (by omega)]
theorem bQ_n {K : Ky} {t ci : Nat} {S : Sg} {a n j : Nat} {f : Nat → Option Nat} {v : Option Nat} (ha : a ∈ ZL S) (hF : ZF S a = .inl (K.1 t, n, .inr (.inr (.inr (.inr f))))) (h : j < n) (hn : n < 2 ^ 31) (hv : okO S ci v = true) : bQ K t ci S (some a) (nI j) v = some (UF S a (.inl (K.1 t, n, .inr (.inr (.inr (.inr (va_up f j v))))))) := by
  rw [bQ_mk ha hF (vp_in_nI h hn) hv, nI_clamp (by omega)]
theorem Zi_n {S : Sg} {k j : Nat} {v : Int32} (h : j ≠ k) : Zi (Ui S k v) j = Zi S j := if_neg h
theorem Zi_s {S : Sg} {k : Nat} {v : Int32} : Zi (Ui S k v) k = v := if_pos rfl
/-- what the typing's small members leave as it was -/
def FrT (S S2 : Sg) : Prop := (∀ k : Nat, k ≠ 3 → k ≠ 4 → k ≠ 19 → Zi S2 k = Zi S k) ∧ Zr S2 = Zr S ∧ Zl S2 = Zl S ∧ (∀ r : Nat, r ≠ 18 → Zq S2 r = Zq S r) ∧ Zf S2 = Zf S
theorem FrT.rf {S : Sg} : FrT S S := ⟨fun _ _ _ _ => rfl, rfl, rfl, fun _ _ => rfl, rfl⟩
theorem FrT.tr {S S1 S2 : Sg} (h : FrT S S1) (g : FrT S1 S2) : FrT S S2 := ⟨fun k a b c => (g.1 k a b c).trans (h.1 k a b c), g.2.1.trans h.2.1, g.2.2.1.trans h.2.2.1, fun r a => (g.2.2.2.1 r a).trans (h.2.2.2.1 r a), g.2.2.2.2.trans h.2.2.2.2⟩
/-- the state of the typing: what was read (G), the items, the table of types; so many cells since -/
def TQ (K : Ky) (S : Sg) (G : Nat → va_E) (T zs im : Nat) (xI ps ms : Nat → Nat) (ik : Nat → Int32) (qz tm : Nat) (Y : Nat → Int32 × Int32 × Option Nat) (ad : Nat → Nat) (z0 n0 vt : Nat) : Prop :=
  tgd (ZL S) (ZF S) G (Zr S 5) (Zr S 6) (Zr S 7) T zs (K.1 9) (K.1 0) (K.1 11) (K.1 10) (K.1 7) (K.1 5) (K.1 12) (K.1 4) (K.1 13) (Zq S 11) im xI ps ms ik qz (Zq S 18) tm Y ad ∧ Zi S 9 = nI T ∧ Zi S 12 = nI im ∧ Zi S 19 = nI tm ∧ Zz S = z0 + tm + vt ∧ Zn S = n0 + 4 * tm + 5 * vt ∧ (∀ a ∈ ZL S, a < Zz S)
theorem ok_1 {K : Ky} {S : Sg} (h : Zi S 3 = 0) : f_ok K S = some (S, 1) := by unfold f_ok f_ok_12 zB; rw [if_pos h, if_pos (Or.inr rfl)]; rfl
theorem ok_0 {K : Ky} {S : Sg} (h : ¬ Zi S 3 = 0) : f_ok K S = some (S, 0) := by unfold f_ok f_ok_12 zB; rw [if_neg h, if_pos (Or.inl rfl)]; rfl
/-- a fault is told, if there was none -/
def flS (S : Sg) (wh x : Int32) : Sg := if Zi S 3 = 0 then Ui (Ui S 3 wh) 4 x else S
theorem fail_ {K : Ky} {S : Sg} {wh : Int32} {tj : Nat} (h : tj < 3002) : f_fail K S wh (nI tj) = some (flS S wh (Zr S 6 tj), ()) := by
  unfold f_fail flS
  by_cases q : Zi S 3 = 0
  · rw [if_pos q, if_pos q]
    show (rI (Ui S 3 wh) 6 (nI tj)).bind _ = _
    rw [rI_n (show tj < rlen 6 from h) (by decide)]; rfl
  · rw [if_neg q, if_neg q]
theorem flS_fr {S : Sg} {wh x : Int32} : FrT S (flS S wh x) := by
  unfold flS
  by_cases q : Zi S 3 = 0
  · rw [if_pos q]; exact ⟨fun k a b c => (Zi_n b).trans (Zi_n a), rfl, rfl, fun _ _ => rfl, rfl⟩
  · rw [if_neg q]; exact FrT.rf
theorem flS_n0 {S : Sg} {wh x : Int32} (h : wh ≠ 0) : ¬ Zi (flS S wh x) 3 = 0 := by
  unfold flS
  by_cases q : Zi S 3 = 0
  · rw [if_pos q]; rw [Zi_n (by decide), Zi_s]; exact h
  · rw [if_neg q]; exact q
theorem flS_st {S : Sg} {wh x : Int32} : ZL (flS S wh x) = ZL S ∧ ZF (flS S wh x) = ZF S ∧ Zz (flS S wh x) = Zz S ∧ Zn (flS S wh x) = Zn S ∧ Zq (flS S wh x) = Zq S ∧ Zi (flS S wh x) 19 = Zi S 19 := by
  unfold flS
  by_cases q : Zi S 3 = 0
  · rw [if_pos q]; exact ⟨rfl, rfl, rfl, rfl, rfl, (Zi_n (by decide)).trans (Zi_n (by decide))⟩
  · rw [if_neg q]; exact ⟨rfl, rfl, rfl, rfl, rfl, rfl⟩
section TQL
variable {K : Ky} {S : Sg} {G : Nat → va_E} {T zs im : Nat} {xI ps ms : Nat → Nat} {ik : Nat → Int32} {qz tm : Nat} {Y : Nat → Int32 × Int32 × Option Nat} {ad : Nat → Nat} {z0 n0 vt : Nat}
/-- nothing of what TQ speaks of has changed -/
theorem TQ.same {S2 : Sg} (h : TQ K S G T zs im xI ps ms ik qz tm Y ad z0 n0 vt) (hf : FrT S S2) (h1 : ZL S2 = ZL S) (h2 : ZF S2 = ZF S) (h3 : Zz S2 = Zz S) (h4 : Zn S2 = Zn S) (h5 : Zq S2 18 = Zq S 18) (h6 : Zi S2 19 = Zi S 19) : TQ K S2 G T zs im xI ps ms ik qz tm Y ad z0 n0 vt := by
  refine ⟨?_, (hf.1 9 (by decide) (by decide) (by decide)).trans h.2.1, (hf.1 12 (by decide) (by decide) (by decide)).trans h.2.2.1, h6.trans h.2.2.2.1, h3.trans h.2.2.2.2.1, h4.trans h.2.2.2.2.2.1, by rw [h1, h3]; exact h.2.2.2.2.2.2⟩
  rw [h1, h2, hf.2.1, h5, hf.2.2.2.1 11 (by decide)]; exact h.1
theorem TQ.fl (h : TQ K S G T zs im xI ps ms ik qz tm Y ad z0 n0 vt) {wh x : Int32} : TQ K (flS S wh x) G T zs im xI ps ms ik qz tm Y ad z0 n0 vt := by
  obtain ⟨g1, g2, g3, g4, g5, g6⟩ := flS_st (S := S) (wh := wh) (x := x)
  exact h.same flS_fr g1 g2 g3 g4 (by rw [g5]) g6
theorem TQ.tb (h : TQ K S G T zs im xI ps ms ik qz tm Y ad z0 n0 vt) : T ≤ 3001 := tgd_T h.1
/-- sameName -/
theorem same_36 (h : TQ K S G T zs im xI ps ms ik qz tm Y ad z0 n0 vt) {ta tb a1 a2 ln : Nat} (hta : ta < T) (htb : tb < T) (e1 : Zr S 6 ta = nI a1) (e2 : Zr S 6 tb = nI a2) (h1 : a1 + ln ≤ 3000) (h2 : a2 + ln ≤ 3000) : ∀ (n j : Nat), ln < j + n → j ≤ ln → Rt (f_sameName_36 K n S (nI ta) (nI tb) (nI ln) (nI j)) (fun S2 r => S2 = S ∧ (r = 0 ∨ r = 1))
  | 0, j, a, b => absurd a (by omega)
  | n + 1, j, a, b => by
    have hT := h.tb
    unfold f_sameName_36
    refine Rt.it (fun hc => Rt.zr (Or.inr rfl) ⟨rfl, Or.inr rfl⟩) (fun hc => ?_)
    have hj : j < ln := by
      rcases Nat.lt_or_ge j ln with z | z
      · exact z
      · exact absurd (nI_le z (by omega)) hc
    refine Rt.bd (rI_n (show ta < rlen 6 by show ta < 3002; omega) (by decide)) ?_
    rw [e1, nI_add]
    refine Rt.bd (rI_n (show a1 + j < rlen 0 by show a1 + j < 3000; omega) (by decide)) ?_
    refine Rt.bd (rI_n (show tb < rlen 6 by show tb < 3002; omega) (by decide)) ?_
    rw [e2, nI_add]
    refine Rt.bd (rI_n (show a2 + j < rlen 0 by show a2 + j < 3000; omega) (by decide)) ?_
    refine Rt.it (fun _ => ?_) (fun _ => Rt.zr (Or.inl rfl) ⟨rfl, Or.inl rfl⟩)
    rw [nI_1]
    exact same_36 h hta htb e1 e2 h1 h2 n (j + 1) (by omega) (by omega)
theorem sam_ (h : TQ K S G T zs im xI ps ms ik qz tm Y ad z0 n0 vt) {ta tb : Nat} (hta : ta < T) (htb : tb < T) : Rt (f_sameName K S (nI ta) (nI tb)) (fun S2 r => S2 = S ∧ (r = 0 ∨ r = 1)) := by
  have hT := h.tb
  obtain ⟨a1, b1, ea1, eb1, hab1, hbz1⟩ := tk_pl h.1.1.1 hta
  obtain ⟨a2, b2, ea2, eb2, hab2, hbz2⟩ := tk_pl h.1.1.1 htb
  have hz := h.1.1.2.1
  unfold f_sameName
  refine Rt.bd (rI_n (show ta < rlen 7 by show ta < 3002; omega) (by decide)) ?_
  refine Rt.bd (rI_n (show ta < rlen 6 by show ta < 3002; omega) (by decide)) ?_
  refine Rt.bd (rI_n (show tb < rlen 7 by show tb < 3002; omega) (by decide)) ?_
  refine Rt.bd (rI_n (show tb < rlen 6 by show tb < 3002; omega) (by decide)) ?_
  rw [ea1, eb1, ea2, eb2, nI_sb hab1, nI_sb hab2]
  refine Rt.it (fun hc => ?_) (fun _ => Rt.zr (Or.inl rfl) ⟨rfl, Or.inl rfl⟩)
  have hln : b2 - a2 = b1 - a1 := (nI_eq (by omega) (by omega)).mp hc
  exact same_36 h hta htb ea1 ea2 (by omega) (by omega) bigN 0 (by show _ < 0 + 1000000000000; omega) (by omega)
/-- isMain -/
theorem isMain_ (h : TQ K S G T zs im xI ps ms ik qz tm Y ad z0 n0 vt) {ta : Nat} (hta : ta < T) : Rt (f_isMain K S (nI ta)) (fun S2 r => S2 = S ∧ (r = 0 ∨ r = 1)) := by
  have hT := h.tb
  obtain ⟨a1, b1, ea1, eb1, hab1, hbz1⟩ := tk_pl h.1.1.1 hta
  have hz := h.1.1.2.1
  have h0 : Rt (f_isMain_73 K S) (fun S2 r => S2 = S ∧ (r = 0 ∨ r = 1)) := Rt.zr (Or.inl rfl) ⟨rfl, Or.inl rfl⟩
  unfold f_isMain
  refine Rt.bd (rI_n (show ta < rlen 6 by show ta < 3002; omega) (by decide)) ?_
  refine Rt.bd (rI_n (show ta < rlen 7 by show ta < 3002; omega) (by decide)) ?_
  rw [ea1, eb1, nI_sb hab1]
  refine Rt.it (fun hc => ?_) (fun _ => h0)
  have hln : b1 - a1 = 4 := (nI_eq (b := 4) (by omega) (by decide)).mp hc
  refine Rt.bd (rI_n (show a1 < rlen 0 by show a1 < 3000; omega) (by decide)) ?_
  refine Rt.it (fun _ => ?_) (fun _ => h0)
  refine Rt.bd (x := rI S 0 (nI a1 + 1)) (by rw [show nI a1 + 1 = nI (a1 + 1) from nI_add a1 1]; exact rI_n (show a1 + 1 < rlen 0 by show a1 + 1 < 3000; omega) (by decide)) ?_
  refine Rt.it (fun _ => ?_) (fun _ => h0)
  refine Rt.bd (x := rI S 0 (nI a1 + 2)) (by rw [show nI a1 + 2 = nI (a1 + 2) from nI_add a1 2]; exact rI_n (show a1 + 2 < rlen 0 by show a1 + 2 < 3000; omega) (by decide)) ?_
  refine Rt.it (fun _ => ?_) (fun _ => h0)
  refine Rt.bd (x := rI S 0 (nI a1 + 3)) (by rw [show nI a1 + 3 = nI (a1 + 3) from nI_add a1 3]; exact rI_n (show a1 + 3 < rlen 0 by show a1 + 3 < 3000; omega) (by decide)) ?_
  exact Rt.it (fun _ => Rt.zr (Or.inr rfl) ⟨rfl, Or.inr rfl⟩) (fun _ => h0)
end TQL
end
-- k3.c.lean.txt
section
theorem ZF_s {S : Sg} {a : Nat} {c : va_E} : ZF (UF S a c) a = c := updE_s
theorem ZF_n {S : Sg} {a b : Nat} {c : va_E} (h : b ≠ a) : ZF (UF S a c) b = ZF S b := updE_n h
theorem zb0 {S : Sg} : ((zB 0).bind fun _ => some (S, (0 : Int32))) = some (S, 0) := by unfold zB; rw [if_pos (Or.inl rfl)]; rfl
theorem zb1 {S : Sg} : ((zB 1).bind fun _ => some (S, (1 : Int32))) = some (S, 1) := by unfold zB; rw [if_pos (Or.inr rfl)]; rfl
theorem Zq_s {S : Sg} {r : Nat} {f : Nat → Option Nat} : Zq (Uq S r f) r = f := va_up_self _ _ _
theorem Zq_n {S : Sg} {r j : Nat} {f : Nat → Option Nat} (h : j ≠ r) : Zq (Uq S r f) j = Zq S j := va_up_ne _ _ h
theorem Zq_iu {S : Sg} {r k : Nat} {f : Nat → Option Nat} {v : Int32} : Zq (Ui (Uq S r f) k v) r = f := va_up_self _ _ _
theorem Zr_s {S : Sg} {r : Nat} {f : Nat → Int32} : Zr (Ur S r f) r = f := va_up_self _ _ _
theorem Zr_n {S : Sg} {r j : Nat} {f : Nat → Int32} (h : j ≠ r) : Zr (Ur S r f) j = Zr S j := va_up_ne _ _ h
theorem nO_ok {K : Ky} {S : Sg} {ci N : Nat} {fs : List Value} (h : Zz S + 1 ≤ K.2.1 ∧ Zn S + N ≤ K.2.2) : nO K S ci N fs = some (Un S (.inr (ci, fs)) N, Zz S) := if_pos h
theorem nA_ok {K : Ky} {S : Sg} {n : Nat} (h0 : n ≤ 100000) (h : Zz S + 1 ≤ K.2.1 ∧ Zn S + n ≤ K.2.2) : nA K S (nI n) = some (Un S (.inl (K.1 0, n, .inl (fun _ => 0))) n, Zz S) := by
  unfold nA; rw [if_neg (nI_pos (by omega)), nI_clamp (by omega), if_pos ⟨h0, h⟩]
theorem nQ_ok {K : Ky} {t : Nat} {S : Sg} {n : Nat} (h0 : n ≤ 100000) (h : Zz S + 1 ≤ K.2.1 ∧ Zn S + n ≤ K.2.2) : nQ K t S (nI n) = some (Un S (.inl (K.1 t, n, .inr (.inr (.inr (.inr (fun _ => none)))))) n, Zz S) := by
  unfold nQ; rw [if_neg (nI_pos (by omega)), nI_clamp (by omega), if_pos ⟨h0, h⟩]
section TQM
variable {K : Ky} {S : Sg} {G : Nat → va_E} {T zs im : Nat} {xI ps ms : Nat → Nat} {ik : Nat → Int32} {qz tm : Nat} {Y : Nat → Int32 × Int32 × Option Nat} {ad : Nat → Nat} {z0 n0 vt : Nat}
/-- a type of the table, as it lies there -/
theorem TQ.ty (h : TQ K S G T zs im xI ps ms ik qz tm Y ad z0 n0 vt) {t : Nat} (ht : t < tm) : Zq S 18 t = some (ad t) ∧ ad t ∈ ZL S ∧ ZF S (ad t) = .inr (20, [.int (Y t).1, .int (Y t).2.1, .int (nI t), va_rf (Y t).2.2]) := by
  obtain ⟨h1, h2, h3, _⟩ := (tyW_rl h.1.2.1 h.1.2.2.2.1).1 t ht
  exact ⟨h1, h2, h3⟩
/-- what type() gives: the type there is, or a new one -/
def TyP (K : Ky) (S : Sg) (G : Nat → va_E) (T zs im : Nat) (xI ps ms : Nat → Nat) (ik : Nat → Int32) (qz tm : Nat) (Y : Nat → Int32 × Int32 × Option Nat) (ad : Nat → Nat) (z0 n0 vt : Nat) (dp : Nat) (S2 : Sg) (G2 : Nat → va_E) (tm2 : Nat) (Y2 : Nat → Int32 × Int32 × Option Nat) (ad2 : Nat → Nat) : Prop :=
  TQ K S2 G2 T zs im xI ps ms ik qz tm2 Y2 ad2 z0 n0 vt ∧ tX (ZL S) G tm Y ad (ZL S2) G2 tm2 Y2 ad2 ∧ exS (ZL S) (ZF S) (ZL S2) (ZF S2) ∧ FrT S S2 ∧ Zi S2 3 = Zi S 3 ∧ ptN Y2 tm2 ≤ ptN Y tm + dp
theorem type_3 (hK : z0 + 40000 ≤ K.2.1 ∧ n0 + 400000 ≤ K.2.2) (hv : vt ≤ 10000) (h : TQ K S G T zs im xI ps ms ik qz tm Y ad z0 n0 vt) {kd ix : Int32} {o : Option Nat} (hy : yOK im ik (kd, ix, o)) (ho : o = none ∨ ∃ u : Nat, u < tm ∧ o = some (ad u)) (htm : tm < 2000) : ∀ (n j : Nat), tm < j + n → j ≤ tm → (∀ t : Nat, t < j → ¬ Y t = (kd, ix, o)) → Rt (f_type_3 K n S kd ix o (nI j)) (fun S2 r => ∃ (G2 : Nat → va_E) (tm2 : Nat) (Y2 : Nat → Int32 × Int32 × Option Nat) (ad2 : Nat → Nat) (t2 : Nat), TyP K S G T zs im xI ps ms ik qz tm Y ad z0 n0 vt 1 S2 G2 tm2 Y2 ad2 ∧ t2 < tm2 ∧ r = some (ad2 t2) ∧ Y2 t2 = (kd, ix, o) ∧ tm2 ≤ tm + 1 ∧ (ix = 0 → o = none → kd = 0 ∨ kd = 1 ∨ kd = 2 ∨ kd = 8 → ptN Y2 tm2 ≤ ptN Y tm))
  | 0, j, a, b, _ => absurd a (by omega)
  | n + 1, j, a, b, hn => by
    unfold f_type_3
    rw [h.2.2.2.1]
    refine Rt.it (fun hc => ?_) (fun hc => ?_)
    · -- a new one
      have hj : tm = j := by have := (nI_leI (a := tm) (b := j) (by omega) (by omega)).mp hc; omega
      subst hj
      have hz := h.2.2.2.2.1; have hzn := h.2.2.2.2.2.1; have hlt := h.2.2.2.2.2.2
      refine Rt.be (nO_ok ⟨by omega, by omega⟩) ?_
      generalize hS1 : Un S (.inr (20, [.int 0, .int 0, .int 0, .null])) 4 = S1
      have hq : Zz S ∈ ZL S1 := by rw [← hS1]; exact List.mem_cons_self
      have hF1 : ZF S1 (Zz S) = .inr (20, [.int 0, .int 0, .int 0, .null]) := by rw [← hS1]; exact updE_s
      refine Rt.bd (pV_mk hq hF1 (by decide)) ?_
      refine Rt.bd (pV_mk hq ZF_s (Nat.le_of_ble_eq_true rfl)) ?_
      refine Rt.bd (pV_mk hq ZF_s (Nat.le_of_ble_eq_true rfl)) ?_
      refine Rt.bd (pV_mk hq ZF_s (Nat.le_of_ble_eq_true rfl)) ?_
      have e19 : ∀ c1 c2 c3 c4 : va_E, Zi (UF (UF (UF (UF S1 (Zz S) c1) (Zz S) c2) (Zz S) c3) (Zz S) c4) 19 = nI tm := fun _ _ _ _ => by rw [← hS1]; exact h.2.2.2.1
      have e19b : ∀ c1 c2 c3 : va_E, Zi (UF (UF (UF S1 (Zz S) c1) (Zz S) c2) (Zz S) c3) 19 = nI tm := fun _ _ _ => by rw [← hS1]; exact h.2.2.2.1
      rw [e19, e19b]
      refine Rt.bd (wQ_n (show tm < rlen 18 from htm) (by decide) (okO_mk (vs := _) hq ZF_s)) ?_
      refine Rt.bd (v := _) rfl (Rt.rt ?_)
      generalize hS9 : Ui _ 19 _ = S9
      have hFn : ∀ b : Nat, b ≠ Zz S → ZF S9 b = ZF S b := fun b hb => by rw [← hS9, ← hS1]; exact (updE_n hb).trans ((updE_n hb).trans ((updE_n hb).trans ((updE_n hb).trans (updE_n hb))))
      have hFz : ZF S9 (Zz S) = .inr (20, [.int kd, .int ix, .int (nI tm), va_rf o]) := by rw [← hS9]; exact updE_s
      have hL9 : ZL S9 = Zz S :: ZL S := by rw [← hS9, ← hS1]; rfl
      have hx : exS (ZL S) (ZF S) (ZL S9) (ZF S9) := fun b hb => ⟨by rw [hL9]; exact List.mem_cons_of_mem _ hb, hFn b (by have := hlt b hb; omega)⟩
      have hfr : FrT S S9 := by
        rw [← hS9, ← hS1]
        exact ⟨fun k a b c => Zi_n c, rfl, rfl, fun r hr => va_up_ne _ _ hr, rfl⟩
      have hq9 : Zq S9 18 = va_up (Zq S 18) tm (some (Zz S)) := by rw [← hS9, ← hS1]; exact Zq_iu
      have hi9 : Zi S9 19 = nI (tm + 1) := by rw [← hS9]; exact Zi_s.trans (by show Zi S1 19 + 1 = _; rw [← hS1]; show Zi S 19 + 1 = _; rw [h.2.2.2.1, nI_1])
      have hw := tyW_new hx (tyW_rl h.1.2.1 h.1.2.2.2.1) (q := Zz S) (by rw [hL9]; exact List.mem_cons_self) hFz ho hn
      have hg := tgd_ty h.1 hx (tm2 := tm + 1) (t2 := tm) (Or.inr ⟨rfl, rfl⟩) (fun t ht => ⟨if_neg (by omega), if_neg (by omega)⟩) hw ⟨by omega, if_pos rfl⟩ hy
      refine ⟨grG (ZL S) G (ZF S9), tm + 1, _, _, tm, ⟨⟨?_, (hfr.1 9 (by decide) (by decide) (by decide)).trans h.2.1, (hfr.1 12 (by decide) (by decide) (by decide)).trans h.2.2.1, hi9, by rw [← hS9, ← hS1]; show Zz S + 1 = _; omega, by rw [← hS9, ← hS1]; show Zn S + 4 = _; omega, ?_⟩, hg.2, hx, hfr, by rw [← hS9, ← hS1]; exact Zi_n (by decide), (ptN_new hn).1⟩, by omega, congrArg some (if_pos rfl).symm, if_pos rfl, Nat.le_refl _, fun a b c => (ptN_new hn).2 a b c⟩
      · rw [hfr.2.1, hq9, hfr.2.2.2.1 11 (by decide)]; exact hg.1
      · intro b hb
        have hz9 : Zz S9 = Zz S + 1 := by rw [← hS9, ← hS1]; rfl
        rw [hL9] at hb
        rcases List.mem_cons.mp hb with e | e
        · omega
        · have := hlt b e; omega
    · have hj : j < tm := by
        rcases Nat.lt_or_ge j tm with z | z
        · exact z
        · exact absurd (nI_le z (by omega)) hc
      obtain ⟨h1, h2, h3⟩ := h.ty hj
      have hld : rQ S 18 (nI j) = some (some (ad j)) := by rw [rQ_n (show j < rlen 18 by show j < 2000; omega) (by decide), h1]
      have hnx : ¬ Y j = (kd, ix, o) → Rt (f_type_62 K (f_type_3 K n) S kd ix o (nI j)) _ := fun hne => by
        unfold f_type_62; rw [nI_1]
        exact type_3 hK hv h hy ho htm n (j + 1) (by omega) (by omega) (fun t ht => by
          by_cases e : t = j
          · subst e; exact hne
          · exact hn t (by omega))
      refine Rt.bd hld (Rt.bd (oI_mk h2 h3 rfl) ?_)
      refine Rt.it (fun e1 => ?_) (fun e1 => hnx (fun q => e1 (by rw [q])))
      refine Rt.bd hld (Rt.bd (oI_mk h2 h3 rfl) ?_)
      refine Rt.it (fun e2 => ?_) (fun e2 => hnx (fun q => e2 (by rw [q])))
      refine Rt.bd hld (Rt.bd (oR_mk h2 h3 rfl) ?_)
      refine Rt.it (fun e3 => ?_) (fun e3 => hnx (fun q => e3 (by rw [q])))
      refine Rt.bd hld (Rt.rt ?_)
      exact ⟨G, tm, Y, ad, j, ⟨h, tX.rf, exS.rf, FrT.rf, rfl, by omega⟩, hj, rfl, Prod.ext e1 (Prod.ext e2 e3), by omega, fun _ _ _ => Nat.le_refl _⟩
theorem type_ (hK : z0 + 40000 ≤ K.2.1 ∧ n0 + 400000 ≤ K.2.2) (hv : vt ≤ 10000) (h : TQ K S G T zs im xI ps ms ik qz tm Y ad z0 n0 vt) {kd ix : Int32} {o : Option Nat} (hy : yOK im ik (kd, ix, o)) (ho : o = none ∨ ∃ u : Nat, u < tm ∧ o = some (ad u)) (htm : tm < 2000) : Rt (f_type K S kd ix o) (fun S2 r => ∃ (G2 : Nat → va_E) (tm2 : Nat) (Y2 : Nat → Int32 × Int32 × Option Nat) (ad2 : Nat → Nat) (t2 : Nat), TyP K S G T zs im xI ps ms ik qz tm Y ad z0 n0 vt 1 S2 G2 tm2 Y2 ad2 ∧ t2 < tm2 ∧ r = some (ad2 t2) ∧ Y2 t2 = (kd, ix, o) ∧ tm2 ≤ tm + 1 ∧ (ix = 0 → o = none → kd = 0 ∨ kd = 1 ∨ kd = 2 ∨ kd = 8 → ptN Y2 tm2 ≤ ptN Y tm)) :=
  type_3 hK hv h hy ho htm bigN 0 (by show tm < 0 + 1000000000000; omega) (by omega) (fun t ht => absurd ht (by omega))
/-- plainType -/
theorem plain_ (hK : z0 + 40000 ≤ K.2.1 ∧ n0 + 400000 ≤ K.2.2) (hv : vt ≤ 10000) (h : TQ K S G T zs im xI ps ms ik qz tm Y ad z0 n0 vt) {kd : Int32} (hk : kd = 0 ∨ kd = 1 ∨ kd = 2 ∨ kd = 8) (hp : ptN Y tm ≤ 1999) : Rt (f_plainType K S kd) (fun S2 r => ∃ (G2 : Nat → va_E) (tm2 : Nat) (Y2 : Nat → Int32 × Int32 × Option Nat) (ad2 : Nat → Nat) (t2 : Nat), TyP K S G T zs im xI ps ms ik qz tm Y ad z0 n0 vt 0 S2 G2 tm2 Y2 ad2 ∧ t2 < tm2 ∧ r = some (ad2 t2) ∧ Y2 t2 = (kd, 0, none) ∧ tm2 ≤ tm + 1) := by
  unfold f_plainType
  have := ptN_ge (Y := Y) (tm := tm)
  refine Rt.bn (type_ hK hv h (kd := kd) (ix := 0) (o := none) (Or.inl ⟨hk, rfl, rfl⟩) (Or.inl rfl) (by omega)) (fun S2 r q => Rt.rt ?_)
  obtain ⟨G2, tm2, Y2, ad2, t2, q1, q2, q3, q4, q5, q6⟩ := q
  exact ⟨G2, tm2, Y2, ad2, t2, ⟨q1.1, q1.2.1, q1.2.2.1, q1.2.2.2.1, q1.2.2.2.2.1, q6 rfl rfl hk⟩, q2, q3, q4, q5⟩
/-- refers, copied -/
theorem refers_ (h : TQ K S G T zs im xI ps ms ik qz tm Y ad z0 n0 vt) {t : Nat} (ht : t < tm) : f_refers K S (some (ad t)) = some (S, if (Y t).1 = 6 ∨ (Y t).1 = 7 then 1 else 0) := by
  obtain ⟨h1, h2, h3⟩ := h.ty ht
  unfold f_refers f_refers_18 f_refers_23
  rw [zb0, zb1]
  rw [oI_mk h2 h3 (v := (Y t).1) rfl]
  show (if (Y t).1 = 6 then _ else if (Y t).1 = 7 then _ else _) = _
  by_cases e : (Y t).1 = 6
  · rw [if_pos e, if_pos (Or.inl e)]
  · by_cases e2 : (Y t).1 = 7
    · rw [if_neg e, if_pos e2, if_pos (Or.inr e2)]
    · rw [if_neg e, if_neg e2, if_neg (fun q => q.elim e e2)]
theorem copied_ (h : TQ K S G T zs im xI ps ms ik qz tm Y ad z0 n0 vt) {t : Nat} (ht : t < tm) : f_copied K S (some (ad t)) = some (S, if (Y t).1 = 0 ∨ (Y t).1 = 1 ∨ (Y t).1 = 6 then 1 else 0) := by
  obtain ⟨h1, h2, h3⟩ := h.ty ht
  unfold f_copied f_copied_24 f_copied_29
  rw [zb0, zb1]
  rw [oI_mk h2 h3 (v := (Y t).1) rfl]
  show (if (Y t).1 = 0 then _ else if (Y t).1 = 1 then _ else if (Y t).1 = 6 then _ else _) = _
  by_cases e : (Y t).1 = 0
  · rw [if_pos e, if_pos (Or.inl e)]
  · by_cases e2 : (Y t).1 = 1
    · rw [if_neg e, if_pos e2, if_pos (Or.inr (Or.inl e2))]
    · by_cases e3 : (Y t).1 = 6
      · rw [if_neg e, if_neg e2, if_pos e3, if_pos (Or.inr (Or.inr e3))]
      · rw [if_neg e, if_neg e2, if_neg e3, if_neg (fun q => q.elim e (fun q => q.elim e2 e3))]
/-- itemNamed -/
theorem itN_2 (h : TQ K S G T zs im xI ps ms ik qz tm Y ad z0 n0 vt) {tj : Nat} (htj : tj < T) : ∀ (n j : Nat), im < j + n → j ≤ im → Rt (f_itemNamed_2 K n S (nI tj) (nI j)) (fun S2 r => S2 = S ∧ (r = -1 ∨ ∃ i : Nat, i < im ∧ r = nI i))
  | 0, j, a, b => absurd a (by omega)
  | n + 1, j, a, b => by
    have him : im ≤ 70 := h.1.2.2.1.1
    unfold f_itemNamed_2
    rw [h.2.2.1]
    refine Rt.it (fun _ => Rt.rt ⟨rfl, Or.inl rfl⟩) (fun hc => ?_)
    have hj : j < im := by
      rcases Nat.lt_or_ge j im with z | z
      · exact z
      · exact absurd (nI_le z (by omega)) hc
    obtain ⟨hx1, hx2, hx3, hx4, gs, hg1, hg2, hg3⟩ := it_nm h.1 hj
    refine Rt.bd (v := some (xI j)) (by rw [rQ_n (show j < rlen 11 by show j < 70; omega) (by decide), hx3]) ?_
    refine Rt.bd (oI_mk hx1 hg1 hg2) ?_
    refine Rt.bn (sam_ h hx2 htj) (fun S2 r q => ?_)
    obtain ⟨e, q⟩ := q
    rw [e]
    refine Rt.it (fun _ => ?_) (fun _ => Rt.rt ⟨rfl, Or.inr ⟨j, hj, rfl⟩⟩)
    rw [nI_1]
    exact itN_2 h htj n (j + 1) (by omega) (by omega)
theorem itN_ (h : TQ K S G T zs im xI ps ms ik qz tm Y ad z0 n0 vt) {tj : Nat} (htj : tj < T) : Rt (f_itemNamed K S (nI tj)) (fun S2 r => S2 = S ∧ (r = -1 ∨ ∃ i : Nat, i < im ∧ r = nI i)) :=
  itN_2 h htj bigN 0 (by have : im ≤ 70 := h.1.2.2.1.1; show im < 0 + 1000000000000; omega) (by omega)
end TQM
end
-- k3.d.lean.txt
section
/-- a type of values: plain, an item's, or a box of one -/
def vTn (Y : Nat → Int32 × Int32 × Option Nat) (ad : Nat → Nat) (tm : Nat) : Nat → Nat → Prop
  | 0, _ => False
  | n + 1, t => t < tm ∧ (((Y t).1 = 0 ∨ (Y t).1 = 1 ∨ (Y t).1 = 2 ∨ (Y t).1 = 3 ∨ (Y t).1 = 4) ∨ ((Y t).1 = 5 ∧ ∃ u : Nat, (Y t).2.2 = some (ad u) ∧ vTn Y ad tm n u))
def vT (Y : Nat → Int32 × Int32 × Option Nat) (ad : Nat → Nat) (tm t : Nat) : Prop := ∃ n : Nat, vTn Y ad tm n t
/-- .. or a reference to one -/
def rfT (Y : Nat → Int32 × Int32 × Option Nat) (ad : Nat → Nat) (tm t : Nat) : Prop := vT Y ad tm t ∨ (t < tm ∧ ((Y t).1 = 6 ∨ (Y t).1 = 7) ∧ ∃ u : Nat, (Y t).2.2 = some (ad u) ∧ vT Y ad tm u)
theorem vTn_lt {Y : Nat → Int32 × Int32 × Option Nat} {ad : Nat → Nat} {tm : Nat} : ∀ {n t : Nat}, vTn Y ad tm n t → t < tm
  | 0, _, h => h.elim
  | _ + 1, _, h => h.1
theorem vTn_tX {L L2 : List Nat} {G G2 : Nat → va_E} {Y Y2 : Nat → Int32 × Int32 × Option Nat} {ad ad2 : Nat → Nat} {tm tm2 : Nat} (hx : tX L G tm Y ad L2 G2 tm2 Y2 ad2) : ∀ {n t : Nat}, vTn Y ad tm n t → vTn Y2 ad2 tm2 n t
  | 0, _, h => h.elim
  | n + 1, t, h => by
    obtain ⟨h1, h2⟩ := h
    obtain ⟨e1, e2⟩ := hx.2.2 t h1
    refine ⟨Nat.lt_of_lt_of_le h1 hx.2.1, ?_⟩
    rw [e1]
    rcases h2 with h2 | ⟨h2, u, h3, h4⟩
    · exact Or.inl h2
    · exact Or.inr ⟨h2, u, by rw [h3, (hx.2.2 u (vTn_lt h4)).2], vTn_tX hx h4⟩
theorem vT_tX {L L2 : List Nat} {G G2 : Nat → va_E} {Y Y2 : Nat → Int32 × Int32 × Option Nat} {ad ad2 : Nat → Nat} {tm tm2 t : Nat} (hx : tX L G tm Y ad L2 G2 tm2 Y2 ad2) (h : vT Y ad tm t) : vT Y2 ad2 tm2 t := h.elim (fun n h => ⟨n, vTn_tX hx h⟩)
theorem vT_lt {Y : Nat → Int32 × Int32 × Option Nat} {ad : Nat → Nat} {tm t : Nat} (h : vT Y ad tm t) : t < tm := h.elim (fun _ h => vTn_lt h)
theorem rT_tX {L L2 : List Nat} {G G2 : Nat → va_E} {Y Y2 : Nat → Int32 × Int32 × Option Nat} {ad ad2 : Nat → Nat} {tm tm2 t : Nat} (hx : tX L G tm Y ad L2 G2 tm2 Y2 ad2) (h : rfT Y ad tm t) : rfT Y2 ad2 tm2 t := by
  rcases h with h | ⟨h1, h2, u, h3, h4⟩
  · exact Or.inl (vT_tX hx h)
  · refine Or.inr ⟨Nat.lt_of_lt_of_le h1 hx.2.1, by rw [(hx.2.2 t h1).1]; exact h2, u, ?_, vT_tX hx h4⟩
    rw [(hx.2.2 t h1).1, h3, (hx.2.2 u (vT_lt h4)).2]
theorem rT_lt {Y : Nat → Int32 × Int32 × Option Nat} {ad : Nat → Nat} {tm t : Nat} (h : rfT Y ad tm t) : t < tm := h.elim vT_lt (fun h => h.1)
/-- a member of the typing has gone from S to S2: the table has grown, cells have come, a fault may have come -/
def TyM (K : Ky) (S : Sg) (G : Nat → va_E) (T zs im : Nat) (xI ps ms : Nat → Nat) (ik : Nat → Int32) (qz tm : Nat) (Y : Nat → Int32 × Int32 × Option Nat) (ad : Nat → Nat) (z0 n0 vt : Nat) (dp : Nat) (S2 : Sg) (G2 : Nat → va_E) (tm2 : Nat) (Y2 : Nat → Int32 × Int32 × Option Nat) (ad2 : Nat → Nat) : Prop :=
  TQ K S2 G2 T zs im xI ps ms ik qz tm2 Y2 ad2 z0 n0 vt ∧ tX (ZL S) G tm Y ad (ZL S2) G2 tm2 Y2 ad2 ∧ exS (ZL S) (ZF S) (ZL S2) (ZF S2) ∧ FrT S S2 ∧ (Zi S2 3 = 0 → Zi S 3 = 0) ∧ ptN Y2 tm2 ≤ ptN Y tm + dp
section TQN
variable {K : Ky} {S : Sg} {G : Nat → va_E} {T zs im : Nat} {xI ps ms : Nat → Nat} {ik : Nat → Int32} {qz tm : Nat} {Y : Nat → Int32 × Int32 × Option Nat} {ad : Nat → Nat} {z0 n0 vt dp dq : Nat}
variable {S1 S2 : Sg} {G1 G2 : Nat → va_E} {tm1 tm2 : Nat} {Y1 Y2 : Nat → Int32 × Int32 × Option Nat} {ad1 ad2 : Nat → Nat}
theorem TyP.m (h : TyP K S G T zs im xI ps ms ik qz tm Y ad z0 n0 vt dp S2 G2 tm2 Y2 ad2) : TyM K S G T zs im xI ps ms ik qz tm Y ad z0 n0 vt dp S2 G2 tm2 Y2 ad2 := ⟨h.1, h.2.1, h.2.2.1, h.2.2.2.1, fun q => h.2.2.2.2.1.symm.trans q, h.2.2.2.2.2⟩
theorem TyM.rf (h : TQ K S G T zs im xI ps ms ik qz tm Y ad z0 n0 vt) : TyM K S G T zs im xI ps ms ik qz tm Y ad z0 n0 vt 0 S G tm Y ad := ⟨h, tX.rf, exS.rf, FrT.rf, id, Nat.le_refl _⟩
theorem TyM.tr (h : TyM K S G T zs im xI ps ms ik qz tm Y ad z0 n0 vt dp S1 G1 tm1 Y1 ad1) (g : TyM K S1 G1 T zs im xI ps ms ik qz tm1 Y1 ad1 z0 n0 vt dq S2 G2 tm2 Y2 ad2) : TyM K S G T zs im xI ps ms ik qz tm Y ad z0 n0 vt (dp + dq) S2 G2 tm2 Y2 ad2 :=
  ⟨g.1, h.2.1.tr g.2.1, h.2.2.1.tr g.2.2.1, h.2.2.2.1.tr g.2.2.2.1, fun q => h.2.2.2.2.1 (g.2.2.2.2.1 q), by have := h.2.2.2.2.2; have := g.2.2.2.2.2; omega⟩
theorem TyM.up (h : TyM K S G T zs im xI ps ms ik qz tm Y ad z0 n0 vt dp S2 G2 tm2 Y2 ad2) (hd : dp ≤ dq) : TyM K S G T zs im xI ps ms ik qz tm Y ad z0 n0 vt dq S2 G2 tm2 Y2 ad2 := ⟨h.1, h.2.1, h.2.2.1, h.2.2.2.1, h.2.2.2.2.1, Nat.le_trans h.2.2.2.2.2 (Nat.add_le_add_left hd _)⟩
theorem TyM.fl (h : TQ K S G T zs im xI ps ms ik qz tm Y ad z0 n0 vt) {wh x : Int32} : TyM K S G T zs im xI ps ms ik qz tm Y ad z0 n0 vt 0 (flS S wh x) G tm Y ad := by
  obtain ⟨g1, g2, g3, g4, g5, g6⟩ := flS_st (S := S) (wh := wh) (x := x)
  refine ⟨h.fl, ?_, ?_, flS_fr, fun q => ?_, Nat.le_refl _⟩
  · rw [g1]; exact tX.rf
  · rw [g1, g2]; exact exS.rf
  · by_cases e : Zi S 3 = 0
    · exact e
    · unfold flS at q; rw [if_neg e] at q; exact q
/-- what resolve gives -/
def ReP (K : Ky) (S : Sg) (G : Nat → va_E) (T zs im : Nat) (xI ps ms : Nat → Nat) (ik : Nat → Int32) (qz tm : Nat) (Y : Nat → Int32 × Int32 × Option Nat) (ad : Nat → Nat) (z0 n0 vt : Nat) (mb : Int32) (dp : Nat) (S2 : Sg) (r : Option Nat) : Prop :=
  ∃ (G2 : Nat → va_E) (tm2 : Nat) (Y2 : Nat → Int32 × Int32 × Option Nat) (ad2 : Nat → Nat) (t2 : Nat), TyM K S G T zs im xI ps ms ik qz tm Y ad z0 n0 vt dp S2 G2 tm2 Y2 ad2 ∧ t2 < tm2 ∧ r = some (ad2 t2) ∧ (Zi S2 3 = 0 → rfT Y2 ad2 tm2 t2 ∧ (mb = 0 → vT Y2 ad2 tm2 t2))
theorem res_ (hK : z0 + 40000 ≤ K.2.1 ∧ n0 + 400000 ≤ K.2.2) (hv : vt ≤ 10000) : ∀ (d n : Nat), n ≤ d → ∀ {S : Sg} {G : Nat → va_E} {tm : Nat} {Y : Nat → Int32 × Int32 × Option Nat} {ad : Nat → Nat} {wr pp qq : Nat} {mb : Int32}, TQ K S G T zs im xI ps ms ik qz tm Y ad z0 n0 vt → isT (ZL S) G (Zr S 5) n wr pp qq → qq ≤ T → ptN Y tm + (qq - pp) ≤ 1999 → Rt (f_resolve K d S (some wr) mb) (ReP K S G T zs im xI ps ms ik qz tm Y ad z0 n0 vt mb (qq - pp))
  | 0, n, hn, S, G, tm, Y, ad, wr, pp, qq, mb, h, hw, _, _ => by rw [show n = 0 by omega] at hw; exact hw.elim
  | d + 1, 0, _, S, G, tm, Y, ad, wr, pp, qq, mb, h, hw, _, _ => hw.elim
  | d + 1, n + 1, hn, S, G, tm, Y, ad, wr, pp, qq, mb, h, hw, hqq, hp => by
    have hwl := isT_lt hw
    have hT := h.tb
    unfold f_resolve
    refine Rt.bn (plain_ hK hv h (Or.inl rfl) (by omega)) (fun S1 r1 q => ?_)
    obtain ⟨G1, tm1, Y1, ad1, t1, q1, q2, q3, q4, q5⟩ := q
    have hm := q1.m
    have h1 := q1.1
    have hw1 := isT_ex q1.2.1.1 hw
    have e5 : Zr S1 5 = Zr S 5 := by rw [q1.2.2.2.1.2.1]
    rw [← e5] at hw1
    obtain ⟨hwm, vs9, hF9, hv0, hv1⟩ := isT_c hw1
    have hF8 := rl_st h1.1.2.1 hwm hF9 mtF_22
    -- nothing better than the plain type
    have hbad : ∀ S9 : Sg, TyM K S1 G1 T zs im xI ps ms ik qz tm1 Y1 ad1 z0 n0 vt 0 S9 G1 tm1 Y1 ad1 → (Zi S9 3 = 0 → False) → Rt (some (S9, r1)) (ReP K S G T zs im xI ps ms ik qz tm Y ad z0 n0 vt mb (qq - pp)) := fun S9 hm9 hz => Rt.rt ⟨G1, tm1, Y1, ad1, t1, (hm.tr hm9).up (by omega), q2, q3, fun q => (hz q).elim⟩
    by_cases hok : Zi S1 3 = 0
    · refine Rt.be (ok_1 hok) (Rt.iq (by decide) ?_)
      have hkd : oI S1 22 (some wr) 0 = some (Zr S1 5 pp) := oI_mk hwm hF8 hv0
      have htk : oI S1 22 (some wr) 1 = some (nI pp) := oI_mk hwm hF8 hv1
      have hpl : ∀ kd : Int32, kd = 0 ∨ kd = 1 ∨ kd = 2 → Rt (f_resolve_70 K (f_resolve K d) S1 kd) (ReP K S G T zs im xI ps ms ik qz tm Y ad z0 n0 vt mb (qq - pp)) := fun kd hk => by
        unfold f_resolve_70
        refine Rt.bn (plain_ hK hv h1 (hk.elim Or.inl (fun z => z.elim (fun z => Or.inr (Or.inl z)) (fun z => Or.inr (Or.inr (Or.inl z))))) (by have := q1.2.2.2.2.2; omega)) (fun S2 r2 q => Rt.rt ?_)
        obtain ⟨G2, tm2, Y2, ad2, t2, p1, p2, p3, p4, p5⟩ := q
        have hvt : vT Y2 ad2 tm2 t2 := ⟨1, p2, Or.inl (by rw [p4]; rcases hk with hk | hk | hk <;> simp [hk])⟩
        exact ⟨G2, tm2, Y2, ad2, t2, (hm.tr p1.m).up (by omega), p2, p3, fun _ => ⟨Or.inl hvt, fun _ => hvt⟩⟩
      have h42 : Rt (f_resolve_42 K (f_resolve K d) S1 (some wr)) (ReP K S G T zs im xI ps ms ik qz tm Y ad z0 n0 vt mb (qq - pp)) := by
        unfold f_resolve_42
        exact Rt.bd hkd (Rt.it (fun _ => hpl 0 (Or.inl rfl)) (fun _ => Rt.bd hkd (Rt.it (fun _ => hpl 1 (Or.inr (Or.inl rfl))) (fun _ => hpl 2 (Or.inr (Or.inr rfl))))))
      -- a box, a reference: the type below, then the new one
      have hof : ∀ (kd : Int32) (o9 p9 : Nat), (kd = 5 ∨ ((kd = 6 ∨ kd = 7) ∧ mb ≠ 0)) → isT (ZL S1) G1 (Zr S1 5) n o9 p9 qq → pp < p9 → Rt (bnd (f_resolve K d S1 (some o9) 0) fun S27 v28 => bnd (f_type K S27 kd 0 v28) fun S29 v30 => some (S29, v30)) (ReP K S G T zs im xI ps ms ik qz tm Y ad z0 n0 vt mb (qq - pp)) := fun kd o9 p9 hk hO hp9 => by
        have hlt9 := isT_lt hO
        have hpt1 := q1.2.2.2.2.2
        refine Rt.bn (res_ hK hv d n (by omega) h1 hO hqq (by omega)) (fun S2 r2 q => ?_)
        obtain ⟨G2, tm2, Y2, ad2, t2, p1, p2, p3, p4⟩ := q
        subst p3
        have hpt2 := p1.2.2.2.2.2
        have hge := ptN_ge (Y := Y2) (tm := tm2)
        refine Rt.bn (type_ hK hv p1.1 (kd := kd) (ix := 0) (o := some (ad2 t2)) (Or.inr (Or.inr (Or.inr ⟨by rcases hk with hk | ⟨hk | hk, _⟩ <;> simp [hk], rfl, _, rfl⟩))) (Or.inr ⟨t2, p2, rfl⟩) (by omega)) (fun S3 r3 q => Rt.rt ?_)
        obtain ⟨G3, tm3, Y3, ad3, t3, u1, u2, u3, u4, u5, _⟩ := q
        refine ⟨G3, tm3, Y3, ad3, t3, ((hm.tr p1).tr u1.m).up (by omega), u2, u3, fun q => ?_⟩
        obtain ⟨_, m, hvn⟩ := (p4 (u1.2.2.2.2.1.symm.trans q)).1.imp id id |> fun _ => (⟨trivial, (p4 (u1.2.2.2.2.1.symm.trans q)).2 rfl⟩ : True ∧ vT Y2 ad2 tm2 t2)
        have hv3 : vTn Y3 ad3 tm3 m t2 := vTn_tX u1.2.1 hvn
        have e3 : (Y3 t3).2.2 = some (ad3 t2) := by rw [u4, (u1.2.1.2.2 t2 p2).2]
        rcases hk with hk | ⟨hk, hmb⟩
        · have hvt : vT Y3 ad3 tm3 t3 := ⟨m + 1, u2, Or.inr ⟨by rw [u4]; exact hk, t2, e3, hv3⟩⟩
          exact ⟨Or.inl hvt, fun _ => hvt⟩
        · exact ⟨Or.inr ⟨u2, by rw [u4]; exact hk, t2, e3, m, hv3⟩, fun z => absurd z hmb⟩
      refine Rt.bd hkd (Rt.it (fun _ => h42) (fun k26 => Rt.bd hkd (Rt.it (fun _ => h42) (fun k27 => Rt.bd hkd (Rt.it (fun _ => h42) (fun k25 => Rt.bd hkd (Rt.it (fun k23 => ?_) (fun k23 => Rt.bd hkd (Rt.it (fun k55 => ?_) (fun k55 => ?_))))))))))
      · obtain ⟨o9, vs8, hO1, hO4, hO5⟩ := isT_23 hw1 k23
        exact Rt.bd (oR_mk (v := some o9) hwm (rl_st h1.1.2.1 hwm hO1 mtF_22) hO4) (hof 5 o9 (pp + 1) (Or.inl rfl) hO5 (by omega))
      · refine Rt.it (fun hmb => ?_) (fun hmb => ?_)
        · refine Rt.bd htk (Rt.be (fail_ (by omega)) (hbad _ (TyM.fl h1) (flS_n0 (by decide))))
        · obtain ⟨o9, p9, mu9, lf9, vs8, hO1, hO2, hO3, hO4, hO6, hmu9, hlf9, hO5⟩ := isT_55 hw1 k55
          have hO7 := rl_st h1.1.2.1 hwm hO1 mtF_22
          refine Rt.bd (oI_mk hwm hO7 hO2) (Rt.it (fun _ => ?_) (fun _ => ?_))
          · unfold f_resolve_139; exact Rt.bd (oR_mk (v := some o9) hwm hO7 hO4) (hof 7 o9 p9 (Or.inr ⟨Or.inr rfl, hmb⟩) hO5 hO6)
          · unfold f_resolve_139; exact Rt.bd (oR_mk (v := some o9) hwm hO7 hO4) (hof 6 o9 p9 (Or.inr ⟨Or.inl rfl, hmb⟩) hO5 hO6)
      · refine Rt.bd htk (Rt.bn (itN_ h1 (by omega)) (fun S2 r2 q => ?_))
        obtain ⟨e2, q⟩ := q
        rw [e2]
        have hno : Rt (f_resolve_183 K (f_resolve K d) S1 (some wr) r1) (ReP K S G T zs im xI ps ms ik qz tm Y ad z0 n0 vt mb (qq - pp)) := by
          unfold f_resolve_183
          exact Rt.bd htk (Rt.be (fail_ (by omega)) (hbad _ (TyM.fl h1) (flS_n0 (by decide))))
        refine Rt.it (fun _ => hno) (fun hneg => ?_)
        obtain ⟨i, hi, ei⟩ := q.resolve_left (fun q => hneg (by rw [q]; decide))
        subst ei
        obtain ⟨hx1, hx2, hx3, hx4, gs, hg1, hg2, hg3⟩ := it_nm h1.1 hi
        have him : im ≤ 70 := h1.1.2.2.1.1
        have hld : rQ S1 11 (nI i) = some (some (xI i)) := by rw [rQ_n (show i < rlen 11 by show i < 70; omega) (by decide), hx3]
        have hpt1 := q1.2.2.2.2.2
        have hge := ptN_ge (Y := Y1) (tm := tm1)
        have hnew : ∀ kd : Int32, yOK im ik (kd, nI i, none) → (kd = 3 ∨ kd = 4) → Rt (f_resolve_215 K (f_resolve K d) S1 (nI i) kd) (ReP K S G T zs im xI ps ms ik qz tm Y ad z0 n0 vt mb (qq - pp)) := fun kd hy hk => by
          unfold f_resolve_215
          refine Rt.bn (type_ hK hv h1 hy (Or.inl rfl) (by omega)) (fun S3 r3 q => Rt.rt ?_)
          obtain ⟨G3, tm3, Y3, ad3, t3, u1, u2, u3, u4, u5, _⟩ := q
          have hvt : vT Y3 ad3 tm3 t3 := ⟨1, u2, Or.inl (by rw [u4]; rcases hk with hk | hk <;> simp [hk])⟩
          exact ⟨G3, tm3, Y3, ad3, t3, (hm.tr u1.m).up (by omega), u2, u3, fun _ => ⟨Or.inl hvt, fun _ => hvt⟩⟩
        refine Rt.bd hld (Rt.bd (oI_mk hx1 hg1 hg3) (Rt.it (fun _ => hno) (fun k12 => Rt.bd hld (Rt.bd (oI_mk hx1 hg1 hg3) (Rt.it (fun k10 => ?_) (fun k10 => ?_))))))
        · exact hnew 3 (Or.inr (Or.inl ⟨rfl, ⟨i, hi, rfl, k10⟩, rfl⟩)) (Or.inl rfl)
        · exact hnew 4 (Or.inr (Or.inr (Or.inl ⟨rfl, ⟨i, hi, rfl, (hx4.resolve_left k10).resolve_right k12⟩, rfl⟩))) (Or.inr rfl)
    · refine Rt.be (ok_0 hok) (Rt.ip rfl ?_)
      exact hbad S1 (TyM.rf h1) hok
end TQN
end
-- k4.a.lean.txt
section
/-- addresses from z to below w -/
def iv (z w : Nat) : List Nat := List.range' z (w - z)
theorem iv_m {z w a : Nat} : a ∈ iv z w ↔ z ≤ a ∧ a < w := by
  unfold iv
  rw [List.mem_range'_1]
  omega
/-- the reader's state: the token's place, nest, variables, borrows -/
def RZ (S : Sg) (T pp ns vv bb : Nat) : Prop := (Zi S 10 = nI pp ∧ pp < T ∧ T ≤ 3001 ∧ Zr S 5 (T - 1) = 0) ∧ Zi S 15 = nI ns ∧ Zi S 16 = nI vv ∧ Zi S 17 = nI bb ∧ ∀ a ∈ ZL S, a < Zz S
/-- from S to S2: of the old cells only those of X are written, new ones come; of the ints those of the reader alone change -/
def GR (X : Nat → Prop) (S S2 : Sg) : Prop := (∀ j : Nat, j ≠ 3 → j ≠ 4 → j ≠ 10 → j ≠ 15 → j ≠ 16 → j ≠ 17 → Zi S2 j = Zi S j) ∧ (Zr S2 = Zr S ∧ Zl S2 = Zl S ∧ Zq S2 = Zq S ∧ Zf S2 = Zf S) ∧ (∀ a : Nat, a < Zz S → ¬ X a → ZF S2 a = ZF S a) ∧ (∀ a : Nat, a ∈ ZL S2 ↔ a ∈ ZL S ∨ (Zz S ≤ a ∧ a < Zz S2)) ∧ (Zz S ≤ Zz S2 ∧ Zn S ≤ Zn S2) ∧ (Zi S2 3 = 0 → Zi S 3 = 0)
/-- no cell -/
def nX : Nat → Prop := fun _ => False
section GRL
variable {X Y : Nat → Prop} {S S1 S2 : Sg}
theorem GR.rf : GR X S S := ⟨fun _ _ _ _ _ _ _ => rfl, ⟨rfl, rfl, rfl, rfl⟩, fun _ _ _ => rfl, fun a => ⟨Or.inl, fun h => h.elim id (fun h => absurd h (by omega))⟩, ⟨Nat.le_refl _, Nat.le_refl _⟩, id⟩
theorem GR.tr (h : GR X S S1) (g : GR Y S1 S2) (hX : ∀ a : Nat, a < Zz S → Y a → X a) : GR X S S2 := by
  obtain ⟨h1, ⟨h2, h3, h4, h5⟩, h6, h7, h8, h9⟩ := h
  obtain ⟨g1, ⟨g2, g3, g4, g5⟩, g6, g7, g8, g9⟩ := g
  refine ⟨fun j a b c d e f => (g1 j a b c d e f).trans (h1 j a b c d e f), ⟨g2.trans h2, g3.trans h3, g4.trans h4, g5.trans h5⟩, fun a ha hx => (g6 a (by omega) (fun q => hx (hX a ha q))).trans (h6 a ha hx), fun a => ?_, ⟨by omega, by omega⟩, fun q => h9 (g9 q)⟩
  rw [g7, h7]
  constructor
  · rintro ((h | h) | h)
    · exact Or.inl h
    · exact Or.inr ⟨h.1, by omega⟩
    · exact Or.inr ⟨by omega, h.2⟩
  · rintro (h | h)
    · exact Or.inl (Or.inl h)
    · rcases Nat.lt_or_ge a (Zz S1) with z | z
      · exact Or.inl (Or.inr ⟨h.1, z⟩)
      · exact Or.inr ⟨z, h.2⟩
theorem GR.n (h : GR X S S1) (g : GR nX S1 S2) : GR X S S2 := h.tr g (fun _ _ q => q.elim)
theorem GR.mo (h : GR X S S2) (hX : ∀ a : Nat, a < Zz S → X a → Y a) : GR Y S S2 := ⟨h.1, h.2.1, fun a ha q => h.2.2.1 a ha (fun z => q (hX a ha z)), h.2.2.2⟩
theorem GR.ui {k : Nat} {v : Int32} (hk : k = 10 ∨ k = 15 ∨ k = 16 ∨ k = 17) : GR X S (Ui S k v) := by
  refine ⟨fun j a b c d e f => Zi_n (by rintro rfl; rcases hk with h | h | h | h <;> contradiction), ⟨rfl, rfl, rfl, rfl⟩, fun _ _ _ => rfl, fun a => ⟨Or.inl, fun h => h.elim id (fun h => absurd (show a < Zz S from h.2) (by omega))⟩, ⟨Nat.le_refl _, Nat.le_refl _⟩, fun q => ?_⟩
  rwa [Zi_n (by rintro rfl; rcases hk with h | h | h | h <;> exact absurd h (by decide))] at q
theorem GR.uf {a : Nat} {c : va_E} : GR (fun b => b = a) S (UF S a c) := ⟨fun _ _ _ _ _ _ _ => rfl, ⟨rfl, rfl, rfl, rfl⟩, fun b _ q => ZF_n q, fun b => ⟨Or.inl, fun h => h.elim id (fun h => absurd (show b < Zz S from h.2) (by omega))⟩, ⟨Nat.le_refl _, Nat.le_refl _⟩, id⟩
theorem GR.un {c : va_E} {n : Nat} : GR X S (Un S c n) := by
  refine ⟨fun _ _ _ _ _ _ _ => rfl, ⟨rfl, rfl, rfl, rfl⟩, fun b hb _ => updE_n (by omega), fun b => ?_, ⟨Nat.le_succ _, Nat.le_add_right _ _⟩, id⟩
  show b ∈ Zz S :: ZL S ↔ b ∈ ZL S ∨ (Zz S ≤ b ∧ b < Zz S + 1)
  rw [List.mem_cons]
  constructor
  · rintro (h | h)
    · exact Or.inr (by omega)
    · exact Or.inl h
  · rintro (h | h)
    · exact Or.inr h
    · exact Or.inl (by omega)
theorem GR.fl {wh x : Int32} : GR X S (flS S wh x) := by
  unfold flS
  by_cases q : Zi S 3 = 0
  · rw [if_pos q]
    exact ⟨fun j a b _ _ _ _ => (Zi_n b).trans (Zi_n a), ⟨rfl, rfl, rfl, rfl⟩, fun _ _ _ => rfl, fun a => ⟨Or.inl, fun h => h.elim id (fun h => absurd (show a < Zz S from h.2) (by omega))⟩, ⟨Nat.le_refl _, Nat.le_refl _⟩, fun _ => q⟩
  · rw [if_neg q]; exact GR.rf
/-- the cells that were there are there -/
theorem GR.ex (h : GR nX S S2) (hz : ∀ a ∈ ZL S, a < Zz S) : exS (ZL S) (ZF S) (ZL S2) (ZF S2) := fun a ha => ⟨(h.2.2.2.1 a).mpr (Or.inl ha), h.2.2.1 a (hz a ha) (fun q => q)⟩
theorem GR.in (h : GR X S S2) {a : Nat} (ha : a ∈ ZL S) : a ∈ ZL S2 := (h.2.2.2.1 a).mpr (Or.inl ha)
theorem GR.lt (h : GR X S S2) (hz : ∀ a ∈ ZL S, a < Zz S) : ∀ a ∈ ZL S2, a < Zz S2 := fun a ha => ((h.2.2.2.1 a).mp ha).elim (fun q => Nat.lt_of_lt_of_le (hz a q) h.2.2.2.2.1.1) (fun q => q.2)
end GRL
/-- the store is the same -/
def SS (S S2 : Sg) : Prop := GR nX S S2 ∧ ZF S2 = ZF S ∧ ZL S2 = ZL S ∧ Zz S2 = Zz S ∧ Zn S2 = Zn S
theorem SS.rf {S : Sg} : SS S S := ⟨GR.rf, rfl, rfl, rfl, rfl⟩
theorem SS.tr {S S1 S2 : Sg} (h : SS S S1) (g : SS S1 S2) : SS S S2 := ⟨h.1.n g.1, g.2.1.trans h.2.1, g.2.2.1.trans h.2.2.1, g.2.2.2.1.trans h.2.2.2.1, g.2.2.2.2.trans h.2.2.2.2⟩
theorem SS.ui {S : Sg} {k : Nat} {v : Int32} (hk : k = 10 ∨ k = 15 ∨ k = 16 ∨ k = 17) : SS S (Ui S k v) := ⟨GR.ui hk, rfl, rfl, rfl, rfl⟩
theorem SS.fl {S : Sg} {wh x : Int32} : SS S (flS S wh x) := ⟨GR.fl, flS_st.2.1, flS_st.1, flS_st.2.2.1, flS_st.2.2.2.1⟩
section RZL
variable {K : Ky} {S S2 : Sg} {T pp ns vv bb : Nat}
theorem RZ.mk (h : RZ S T pp ns vv bb) {pp2 ns2 vv2 bb2 : Nat} (hs : SS S S2) (h1 : Zi S2 10 = nI pp2) (h2 : pp2 < T) (h3 : Zi S2 15 = nI ns2) (h4 : Zi S2 16 = nI vv2) (h5 : Zi S2 17 = nI bb2) : RZ S2 T pp2 ns2 vv2 bb2 := ⟨⟨h1, h2, h.1.2.2.1, by rw [hs.1.2.1.1]; exact h.1.2.2.2⟩, h3, h4, h5, by rw [hs.2.2.1, hs.2.2.2.1]; exact h.2.2.2.2⟩
theorem RZ.p (h : RZ S T pp ns vv bb) {p2 : Nat} (hp : p2 < T) : RZ (Ui S 10 (nI p2)) T p2 ns vv bb := h.mk (SS.ui (Or.inl rfl)) Zi_s hp ((Zi_n (by decide)).trans h.2.1) ((Zi_n (by decide)).trans h.2.2.1) ((Zi_n (by decide)).trans h.2.2.2.1)
theorem RZ.ne (h : RZ S T pp ns vv bb) {n2 : Nat} : RZ (Ui S 15 (nI n2)) T pp n2 vv bb := h.mk (SS.ui (by decide)) ((Zi_n (by decide)).trans h.1.1) h.1.2.1 Zi_s ((Zi_n (by decide)).trans h.2.2.1) ((Zi_n (by decide)).trans h.2.2.2.1)
theorem RZ.va (h : RZ S T pp ns vv bb) {n2 : Nat} : RZ (Ui S 16 (nI n2)) T pp ns n2 bb := h.mk (SS.ui (by decide)) ((Zi_n (by decide)).trans h.1.1) h.1.2.1 ((Zi_n (by decide)).trans h.2.1) Zi_s ((Zi_n (by decide)).trans h.2.2.2.1)
theorem RZ.bo (h : RZ S T pp ns vv bb) {n2 : Nat} : RZ (Ui S 17 (nI n2)) T pp ns vv n2 := h.mk (SS.ui (by decide)) ((Zi_n (by decide)).trans h.1.1) h.1.2.1 ((Zi_n (by decide)).trans h.2.1) ((Zi_n (by decide)).trans h.2.2.1) Zi_s
theorem flS_i {wh x : Int32} {j : Nat} (h3 : j ≠ 3) (h4 : j ≠ 4) : Zi (flS S wh x) j = Zi S j := by
  unfold flS
  by_cases q : Zi S 3 = 0
  · rw [if_pos q]; exact (Zi_n h4).trans (Zi_n h3)
  · rw [if_neg q]
theorem RZ.fl (h : RZ S T pp ns vv bb) {wh x : Int32} : RZ (flS S wh x) T pp ns vv bb := h.mk SS.fl ((flS_i (by decide) (by decide)).trans h.1.1) h.1.2.1 ((flS_i (by decide) (by decide)).trans h.2.1) ((flS_i (by decide) (by decide)).trans h.2.2.1) ((flS_i (by decide) (by decide)).trans h.2.2.2.1)
theorem RZ.uf (h : RZ S T pp ns vv bb) {a : Nat} {c : va_E} : RZ (UF S a c) T pp ns vv bb := h
theorem RZ.un (h : RZ S T pp ns vv bb) {c : va_E} {n : Nat} : RZ (Un S c n) T pp ns vv bb := ⟨h.1, h.2.1, h.2.2.1, h.2.2.2.1, GR.lt (X := nX) GR.un h.2.2.2.2⟩
/-- a token that is not the last -/
theorem RZ.nx (h : RZ S T pp ns vv bb) {k : Int32} (hk : Zr S 5 pp = k) (h0 : k ≠ 0) : pp + 1 < T := by
  rcases Nat.lt_or_ge (pp + 1) T with z | z
  · exact z
  · exact absurd (hk.symm.trans (by rw [show pp = T - 1 by have := h.1.2.1; omega]; exact h.1.2.2.2)) h0
theorem RZ.kd (h : RZ S T pp ns vv bb) : rI S 5 (Zi S 10) = some (Zr S 5 pp) := by rw [h.1.1]; exact rI_n (show pp < 3002 by have := h.1.2.1; have := h.1.2.2.1; omega) (by decide)
theorem is_1 (h : RZ S T pp ns vv bb) {k : Int32} (hk : Zr S 5 pp = k) : f_is K S k = some (S, 1) := by unfold f_is f_is_18; rw [h.kd]; show (if Zr S 5 pp = k then _ else _) = _; rw [if_pos hk, zb1]
theorem is_0 (h : RZ S T pp ns vv bb) {k : Int32} (hk : ¬ Zr S 5 pp = k) : f_is K S k = some (S, 0) := by unfold f_is f_is_18; rw [h.kd]; show (if Zr S 5 pp = k then _ else _) = _; rw [if_neg hk, zb0]
/-- is: both ways -/
theorem Rt.is {α : Type} {k : Int32} {a b : Sg → Option (Sg × α)} {P : Sg → α → Prop} (h : RZ S T pp ns vv bb) (k1 : Zr S 5 pp = k → Rt (b S) P) (k0 : ¬ Zr S 5 pp = k → Rt (a S) P) : Rt (bnd (f_is K S k) fun S3 v4 => if v4 = 0 then a S3 else b S3) P := by
  by_cases q : Zr S 5 pp = k
  · exact Rt.be (is_1 h q) (Rt.iq (by decide) (k1 q))
  · exact Rt.be (is_0 h q) (Rt.ip rfl (k0 q))
/-- ok: both ways -/
theorem Rt.ok {α : Type} {a b : Sg → Option (Sg × α)} {P : Sg → α → Prop} (k1 : Zi S 3 = 0 → Rt (b S) P) (k0 : ¬ Zi S 3 = 0 → Rt (a S) P) : Rt (bnd (f_ok K S) fun S3 v4 => if v4 = 0 then a S3 else b S3) P := by
  by_cases q : Zi S 3 = 0
  · exact Rt.be (ok_1 q) (Rt.iq (by decide) (k1 q))
  · exact Rt.be (ok_0 q) (Rt.ip rfl (k0 q))
theorem take_ (h : RZ S T pp ns vv bb) {k : Int32} (hk0 : k ≠ 0) : Rt (f_take K S k) (fun S2 _ => ∃ pp2 : Nat, RZ S2 T pp2 ns vv bb ∧ SS S S2 ∧ pp ≤ pp2 ∧ pp2 ≤ pp + 1 ∧ (Zi S2 3 = 0 → Zr S 5 pp = k ∧ pp2 = pp + 1)) := by
  unfold f_take f_take_38
  refine Rt.ok (fun q => Rt.is h (fun hk => ?_) (fun hk => ?_)) (fun q => Rt.rt ⟨pp, h, SS.rf, Nat.le_refl _, Nat.le_succ _, fun z => absurd z q⟩)
  · refine Rt.bd (v := Ui S 10 (nI (pp + 1))) (by rw [h.1.1]; show some (Ui S 10 (nI pp + 1)) = _; rw [nI_1]) (Rt.rt ⟨pp + 1, h.p (h.nx hk hk0), SS.ui (Or.inl rfl), Nat.le_succ _, Nat.le_refl _, fun _ => ⟨hk, rfl⟩⟩)
  · rw [h.1.1]
    exact Rt.be (fail_ (by have := h.1.2.1; have := h.1.2.2.1; omega)) (Rt.rt ⟨pp, h.fl, SS.fl, Nat.le_refl _, Nat.le_succ _, fun z => absurd z (flS_n0 (by decide))⟩)
theorem takes_ (h : RZ S T pp ns vv bb) {k : Int32} (hk0 : k ≠ 0) : Rt (f_takes K S k) (fun S2 r => ∃ pp2 : Nat, RZ S2 T pp2 ns vv bb ∧ SS S S2 ∧ Zi S2 3 = Zi S 3 ∧ ((r = 0 ∧ pp2 = pp ∧ (Zi S 3 = 0 → ¬ Zr S 5 pp = k)) ∨ (r = 1 ∧ pp2 = pp + 1 ∧ Zi S 3 = 0 ∧ Zr S 5 pp = k))) := by
  unfold f_takes f_takes_15
  refine Rt.ok (fun q => Rt.is h (fun hk => ?_) (fun hk => ?_)) (fun q => ?_)
  · refine Rt.bd (v := Ui S 10 (nI (pp + 1))) (by rw [h.1.1]; show some (Ui S 10 (nI pp + 1)) = _; rw [nI_1]) (Rt.zr (Or.inr rfl) ⟨pp + 1, h.p (h.nx hk hk0), SS.ui (Or.inl rfl), Zi_n (by decide), Or.inr ⟨rfl, rfl, q, hk⟩⟩)
  · exact Rt.zr (Or.inl rfl) ⟨pp, h, SS.rf, rfl, Or.inl ⟨rfl, rfl, fun _ => hk⟩⟩
  · exact Rt.zr (Or.inl rfl) ⟨pp, h, SS.rf, rfl, Or.inl ⟨rfl, rfl, fun z => absurd z q⟩⟩
theorem name_ (h : RZ S T pp ns vv bb) : Rt (f_name K S) (fun S2 r => ∃ pp2 : Nat, RZ S2 T pp2 ns vv bb ∧ SS S S2 ∧ pp ≤ pp2 ∧ pp2 ≤ pp + 1 ∧ (Zi S2 3 = 0 → Zr S 5 pp = 2 ∧ pp2 = pp + 1 ∧ r = nI pp)) := by
  unfold f_name
  refine Rt.bn (take_ h (by decide)) (fun S2 _ q => Rt.rt ?_)
  obtain ⟨pp2, q1, q2, q3, q4, q5⟩ := q
  refine ⟨pp2, q1, q2, q3, q4, fun z => ⟨(q5 z).1, (q5 z).2, ?_⟩⟩
  rw [q1.1.1, (q5 z).2, nI_pred]
theorem enter_ (h : RZ S T pp ns vv bb) {tj : Nat} (ht : tj < 3002) : Rt (f_enter K S (nI tj)) (fun S2 _ => RZ S2 T pp (ns + 1) vv bb ∧ SS S S2 ∧ (Zi S2 3 = 0 → ns ≠ 16)) := by
  have hu : ∀ S1 : Sg, RZ S1 T pp ns vv bb → SS S S1 → (Zi S1 3 = 0 → ns ≠ 16) → Rt (f_enter_22 K S1) (fun S2 _ => RZ S2 T pp (ns + 1) vv bb ∧ SS S S2 ∧ (Zi S2 3 = 0 → ns ≠ 16)) := fun S1 g1 g2 g3 => by
    unfold f_enter_22
    refine Rt.bd (v := Ui S1 15 (nI (ns + 1))) (by rw [g1.2.1, ← nI_1]; rfl) (Rt.rt ⟨g1.ne, g2.tr (SS.ui (by decide)), fun q => g3 (by rwa [Zi_n (by decide)] at q)⟩)
  unfold f_enter
  refine Rt.ok (fun q => Rt.it (fun e => ?_) (fun e => ?_)) (fun q => hu S h SS.rf (fun z => absurd z q))
  · exact Rt.be (fail_ ht) (hu _ h.fl SS.fl (fun z => absurd z (flS_n0 (by decide))))
  · exact hu S h SS.rf (fun _ z => e (by rw [h.2.1, z]; rfl))
theorem limit_ (h : RZ S T pp ns vv bb) {mn mx : Nat} : Rt (f_limit K S (nI mn) (nI mx)) (fun S2 _ => RZ S2 T pp ns vv bb ∧ SS S S2 ∧ (Zi S2 3 = 0 → Zr S 5 pp = 2 → mn ≠ mx)) := by
  unfold f_limit f_limit_29
  refine Rt.ok (fun q => Rt.is h (fun hk => Rt.it (fun e => ?_) (fun e => ?_)) (fun hk => ?_)) (fun q => Rt.rt ⟨h, SS.rf, fun z => absurd z q⟩)
  · rw [h.1.1]
    exact Rt.be (fail_ (by have := h.1.2.1; have := h.1.2.2.1; omega)) (Rt.rt ⟨h.fl, SS.fl, fun z => absurd z (flS_n0 (by decide))⟩)
  · exact Rt.rt ⟨h, SS.rf, fun _ _ z => e (by rw [z])⟩
  · exact Rt.rt ⟨h, SS.rf, fun _ z => absurd z hk⟩
theorem oneV_ (h : RZ S T pp ns vv bb) : Rt (f_oneVariable K S) (fun S2 _ => RZ S2 T pp ns (vv + 1) bb ∧ SS S S2 ∧ (Zi S2 3 = 0 → Zr S 5 pp = 2 → vv ≠ 40)) := by
  have hu : ∀ S1 : Sg, RZ S1 T pp ns vv bb → SS S S1 → (Zi S1 3 = 0 → Zr S 5 pp = 2 → vv ≠ 40) → Rt (f_oneVariable_33 K S1) (fun S2 _ => RZ S2 T pp ns (vv + 1) bb ∧ SS S S2 ∧ (Zi S2 3 = 0 → Zr S 5 pp = 2 → vv ≠ 40)) := fun S1 g1 g2 g3 => by
    unfold f_oneVariable_33
    refine Rt.bd (v := Ui S1 16 (nI (vv + 1))) (by rw [g1.2.2.1, ← nI_1]; rfl) (Rt.rt ⟨g1.va, g2.tr (SS.ui (by decide)), fun q => g3 (by rwa [Zi_n (by decide)] at q)⟩)
  unfold f_oneVariable
  refine Rt.ok (fun q => Rt.is h (fun hk => Rt.it (fun e => ?_) (fun e => ?_)) (fun hk => hu S h SS.rf (fun _ z => absurd z hk))) (fun q => hu S h SS.rf (fun z => absurd z q))
  · rw [h.1.1]
    exact Rt.be (fail_ (by have := h.1.2.1; have := h.1.2.2.1; omega)) (hu _ h.fl SS.fl (fun z => absurd z (flS_n0 (by decide))))
  · exact hu S h SS.rf (fun _ _ z => e (by rw [h.2.2.1, z]; rfl))
theorem borrow_ (h : RZ S T pp ns vv bb) : Rt (f_borrow K S) (fun S2 _ => RZ S2 T pp ns vv (bb + 1) ∧ SS S S2 ∧ (Zi S2 3 = 0 → bb ≠ 54)) := by
  have hu : ∀ S1 : Sg, RZ S1 T pp ns vv bb → SS S S1 → (Zi S1 3 = 0 → bb ≠ 54) → Rt (f_borrow_25 K S1) (fun S2 _ => RZ S2 T pp ns vv (bb + 1) ∧ SS S S2 ∧ (Zi S2 3 = 0 → bb ≠ 54)) := fun S1 g1 g2 g3 => by
    unfold f_borrow_25
    refine Rt.bd (v := Ui S1 17 (nI (bb + 1))) (by rw [g1.2.2.2.1, ← nI_1]; rfl) (Rt.rt ⟨g1.bo, g2.tr (SS.ui (by decide)), fun q => g3 (by rwa [Zi_n (by decide)] at q)⟩)
  unfold f_borrow
  refine Rt.ok (fun q => Rt.it (fun e => ?_) (fun e => ?_)) (fun q => hu S h SS.rf (fun z => absurd z q))
  · rw [h.1.1]
    exact Rt.be (fail_ (by have := h.1.2.1; have := h.1.2.2.1; omega)) (hu _ h.fl SS.fl (fun z => absurd z (flS_n0 (by decide))))
  · exact hu S h SS.rf (fun _ z => e (by rw [h.2.2.2.1, z]; rfl))
end RZL
end
