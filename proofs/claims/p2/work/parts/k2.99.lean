theorem eX23_run_0 : decode cX23_run 0 = .ok (.iload_n 1, 1) := by decide +kernel
theorem eX23_run_1 : decode cX23_run 1 = .ok (.ifCond .lt 22, 3) := by decide +kernel
theorem eX23_run_4 : decode cX23_run 4 = .ok (.iload_n 1, 1) := by decide +kernel
theorem eX23_run_5 : decode cX23_run 5 = .ok (.aload_n 0, 1) := by decide +kernel
theorem eX23_run_6 : decode cX23_run 6 = .ok (.getfield 1167, 3) := by decide +kernel
theorem eX23_run_9 : decode cX23_run 9 = .ok (.if_icmp .gt 14, 3) := by decide +kernel
theorem eX23_run_12 : decode cX23_run 12 = .ok (.iload_n 2, 1) := by decide +kernel
theorem eX23_run_13 : decode cX23_run 13 = .ok (.ifCond .lt 10, 3) := by decide +kernel
theorem eX23_run_16 : decode cX23_run 16 = .ok (.iload_n 2, 1) := by decide +kernel
theorem eX23_run_17 : decode cX23_run 17 = .ok (.sipush 20000, 3) := by decide +kernel
theorem eX23_run_20 : decode cX23_run 20 = .ok (.if_icmp .le 5, 3) := by decide +kernel
theorem eX23_run_23 : decode cX23_run 23 = .ok (.iconst (-1), 1) := by decide +kernel
theorem eX23_run_24 : decode cX23_run 24 = .ok (.ireturn, 1) := by decide +kernel
theorem eX23_run_25 : decode cX23_run 25 = .ok (.aload_n 0, 1) := by decide +kernel
theorem eX23_run_26 : decode cX23_run 26 = .ok (.iload_n 1, 1) := by decide +kernel
theorem eX23_run_27 : decode cX23_run 27 = .ok (.putfield 1, 3) := by decide +kernel
theorem eX23_run_30 : decode cX23_run 30 = .ok (.aload_n 0, 1) := by decide +kernel
theorem eX23_run_31 : decode cX23_run 31 = .ok (.iconst 0, 1) := by decide +kernel
theorem eX23_run_32 : decode cX23_run 32 = .ok (.putfield 1167, 3) := by decide +kernel
theorem eX23_run_35 : decode cX23_run 35 = .ok (.aload_n 0, 1) := by decide +kernel
theorem eX23_run_36 : decode cX23_run 36 = .ok (.iconst 0, 1) := by decide +kernel
theorem eX23_run_37 : decode cX23_run 37 = .ok (.putfield 80, 3) := by decide +kernel
theorem eX23_run_40 : decode cX23_run 40 = .ok (.aload_n 0, 1) := by decide +kernel
theorem eX23_run_41 : decode cX23_run 41 = .ok (.iconst (-1), 1) := by decide +kernel
theorem eX23_run_42 : decode cX23_run 42 = .ok (.putfield 83, 3) := by decide +kernel
theorem eX23_run_45 : decode cX23_run 45 = .ok (.aload_n 0, 1) := by decide +kernel
theorem eX23_run_46 : decode cX23_run 46 = .ok (.iload_n 2, 1) := by decide +kernel
theorem eX23_run_47 : decode cX23_run 47 = .ok (.putfield 1093, 3) := by decide +kernel
theorem eX23_run_50 : decode cX23_run 50 = .ok (.aload_n 0, 1) := by decide +kernel
theorem eX23_run_51 : decode cX23_run 51 = .ok (.iconst 0, 1) := by decide +kernel
theorem eX23_run_52 : decode cX23_run 52 = .ok (.putfield 1002, 3) := by decide +kernel
theorem eX23_run_55 : decode cX23_run 55 = .ok (.aload_n 0, 1) := by decide +kernel
theorem eX23_run_56 : decode cX23_run 56 = .ok (.iconst 0, 1) := by decide +kernel
theorem eX23_run_57 : decode cX23_run 57 = .ok (.putfield 1008, 3) := by decide +kernel
theorem eX23_run_60 : decode cX23_run 60 = .ok (.aload_n 0, 1) := by decide +kernel
theorem eX23_run_61 : decode cX23_run 61 = .ok (.invokevirtual 1173, 3) := by decide +kernel
theorem eX23_run_64 : decode cX23_run 64 = .ok (.aload_n 0, 1) := by decide +kernel
theorem eX23_run_65 : decode cX23_run 65 = .ok (.invokevirtual 1176, 3) := by decide +kernel
theorem eX23_run_68 : decode cX23_run 68 = .ok (.aload_n 0, 1) := by decide +kernel
theorem eX23_run_69 : decode cX23_run 69 = .ok (.invokevirtual 89, 3) := by decide +kernel
theorem eX23_run_72 : decode cX23_run 72 = .ok (.ifCond .eq 7, 3) := by decide +kernel
theorem eX23_run_75 : decode cX23_run 75 = .ok (.aload_n 0, 1) := by decide +kernel
theorem eX23_run_76 : decode cX23_run 76 = .ok (.invokevirtual 1179, 3) := by decide +kernel
theorem eX23_run_79 : decode cX23_run 79 = .ok (.aload_n 0, 1) := by decide +kernel
theorem eX23_run_80 : decode cX23_run 80 = .ok (.invokevirtual 89, 3) := by decide +kernel
theorem eX23_run_83 : decode cX23_run 83 = .ok (.ifCond .eq 7, 3) := by decide +kernel
theorem eX23_run_86 : decode cX23_run 86 = .ok (.aload_n 0, 1) := by decide +kernel
theorem eX23_run_87 : decode cX23_run 87 = .ok (.invokevirtual 1182, 3) := by decide +kernel
theorem eX23_run_90 : decode cX23_run 90 = .ok (.aload_n 0, 1) := by decide +kernel
theorem eX23_run_91 : decode cX23_run 91 = .ok (.aload_n 0, 1) := by decide +kernel
theorem eX23_run_92 : decode cX23_run 92 = .ok (.invokevirtual 89, 3) := by decide +kernel
theorem eX23_run_95 : decode cX23_run 95 = .ok (.ifCond .eq 7, 3) := by decide +kernel
theorem eX23_run_98 : decode cX23_run 98 = .ok (.iconst (-1), 1) := by decide +kernel
theorem eX23_run_99 : decode cX23_run 99 = .ok (.goto 7, 3) := by decide +kernel
theorem eX23_run_102 : decode cX23_run 102 = .ok (.aload_n 0, 1) := by decide +kernel
theorem eX23_run_103 : decode cX23_run 103 = .ok (.getfield 83, 3) := by decide +kernel
theorem eX23_run_106 : decode cX23_run 106 = .ok (.putfield 966, 3) := by decide +kernel
theorem eX23_run_109 : decode cX23_run 109 = .ok (.aload_n 0, 1) := by decide +kernel
theorem eX23_run_110 : decode cX23_run 110 = .ok (.invokevirtual 89, 3) := by decide +kernel
theorem eX23_run_113 : decode cX23_run 113 = .ok (.ifCond .eq 7, 3) := by decide +kernel
theorem eX23_run_116 : decode cX23_run 116 = .ok (.aload_n 0, 1) := by decide +kernel
theorem eX23_run_117 : decode cX23_run 117 = .ok (.invokevirtual 1185, 3) := by decide +kernel
theorem eX23_run_120 : decode cX23_run 120 = .ok (.aload_n 0, 1) := by decide +kernel
theorem eX23_run_121 : decode cX23_run 121 = .ok (.aload_n 0, 1) := by decide +kernel
theorem eX23_run_122 : decode cX23_run 122 = .ok (.getfield 1093, 3) := by decide +kernel
theorem eX23_run_125 : decode cX23_run 125 = .ok (.putfield 1188, 3) := by decide +kernel
theorem eX23_run_128 : decode cX23_run 128 = .ok (.aload_n 0, 1) := by decide +kernel
theorem eX23_run_129 : decode cX23_run 129 = .ok (.getfield 80, 3) := by decide +kernel
theorem eX23_run_132 : decode cX23_run 132 = .ok (.ireturn, 1) := by decide +kernel
set_option maxRecDepth 20000 in
set_option maxHeartbeats 4000000 in
theorem k_run64 {l : Launch} {D : va_G} {K : Ky} {m9 : Nat} {mr : Nat → Nat} {p : Program} {e : Env} {R : Room} {s : State} {m : MethodId} {args : Array Value} {below : List Frame} {meth : Method} {c : Code} {Q : State → Prop} {A : Nat → Prop} {mn : String} {Ts : List Cond} {fr lo : Nat} {Sb S0 Sf : Sg} {rf : Int32} (hfr : 1840 ≤ fr) (hlo : 44100 ≤ lo) (C : CX p l e R s m args below meth c Q D A K m9 mr RX23 mn cX23_run 3 Ts (some .int) fr lo Sb Sf (some (.int rf))) (h : f_run64 K S0 = some (Sf, rf)) : WX p l e R s m args below meth c Q D A K m9 mr 3 Sb S0 64 [(0, .ref m9)] [] := by
  have j_120 : ∀ (S : Sg), f_run_120 K S = some (Sf, rf) → WX p l e R s m args below meth c Q D A K m9 mr 3 Sb S 120 [(0, .ref m9)] [] := by
    intro S h
    unfold f_run_120 at h
    refine x_tload_n C eX23_run_120 rfl 0 rfl ?_
    refine x_tload_n C eX23_run_121 rfl 0 rfl ?_
    refine x_mV (k9 := 70) C (by decide) ww_872 eX23_run_122 rfl ?_
    refine x_pM (k9 := 71) C (by decide) rfl (by decide) ww_955 rfl (by decide +kernel) eX23_run_125 h (fun S18 h => ?_)
    refine x_tload_n C eX23_run_128 rfl 0 rfl ?_
    refine x_mV (k9 := 3) C (by decide) ww_1 eX23_run_129 rfl ?_
    exact x_iret C rfl rfl eX23_run_132 h
  have j_106 : ∀ (S : Sg) (y0 : Int32), f_run_106 K S y0 = some (Sf, rf) → WX p l e R s m args below meth c Q D A K m9 mr 3 Sb S 106 [(0, .ref m9)] [.int y0, .ref m9] := by
    intro S y0 h
    unfold f_run_106 at h
    refine x_pM (k9 := 88) C (by decide) rfl (by decide) ww_952 rfl (by decide +kernel) eX23_run_106 h (fun S13 h => ?_)
    refine x_tload_n C eX23_run_109 rfl 0 rfl ?_
    refine x_cVi (As := []) (st := []) (n := 0) (frc := 1) (loc := 20) C h (fun S9 r9 e9 => k_X23_ok l D K m9 mr _ S9 r9 e9) ww_0 ww_13 ww_14 ww_15 ww_16 (by decide +kernel) rfl ⟨by omega, by omega⟩ (Nat.le_of_ble_eq_true rfl) eX23_run_110 (fun S14 v15 h => ?_)
    refine x_if_eq (tgt := 120) C eX23_run_113 (by decide) h (fun h => ?_) (fun h => ?_)
    · refine x_sub [0] rfl ?_
      exact j_120 S14 h
    · refine x_tload_n C eX23_run_116 rfl 0 rfl ?_
      refine x_cVv (As := []) (st := []) (n := 0) (frc := 165) (loc := 3791) C h (fun S9 r9 e9 => k_X23_runMain l D K m9 mr _ S9 r9 e9) ww_940 ww_1004 ww_1005 ww_1006 ww_16 (by decide +kernel) rfl ⟨by omega, by omega⟩ (Nat.le_of_ble_eq_true rfl) eX23_run_117 (fun S16 v17 h => ?_)
      refine x_sub [0] rfl ?_
      exact j_120 S16 h
  have j_90 : ∀ (S : Sg), f_run_90 K S = some (Sf, rf) → WX p l e R s m args below meth c Q D A K m9 mr 3 Sb S 90 [(0, .ref m9)] [] := by
    intro S h
    unfold f_run_90 at h
    refine x_tload_n C eX23_run_90 rfl 0 rfl ?_
    refine x_tload_n C eX23_run_91 rfl 0 rfl ?_
    refine x_cVi (As := []) (st := [.ref m9]) (n := 0) (frc := 1) (loc := 20) C h (fun S9 r9 e9 => k_X23_ok l D K m9 mr _ S9 r9 e9) ww_0 ww_13 ww_14 ww_15 ww_16 (by decide +kernel) rfl ⟨by omega, by omega⟩ (Nat.le_of_ble_eq_true rfl) eX23_run_92 (fun S11 v12 h => ?_)
    refine x_if_eq (tgt := 102) C eX23_run_95 (by decide) h (fun h => ?_) (fun h => ?_)
    · refine x_tload_n C eX23_run_102 rfl 0 rfl ?_
      refine x_mV (k9 := 4) C (by decide) ww_4 eX23_run_103 rfl ?_
      refine x_sub [0] rfl ?_
      exact j_106 S11 (Zi S11 4) h
    · refine x_iconst (v := (-1)) C eX23_run_98 (by decide) ?_
      refine x_goto (tgt := 106) C eX23_run_99 (by decide) ?_
      refine x_sub [0] rfl ?_
      exact j_106 S11 (-1) h
  have j_79 : ∀ (S : Sg), f_run_79 K S = some (Sf, rf) → WX p l e R s m args below meth c Q D A K m9 mr 3 Sb S 79 [(0, .ref m9)] [] := by
    intro S h
    unfold f_run_79 at h
    refine x_tload_n C eX23_run_79 rfl 0 rfl ?_
    refine x_cVi (As := []) (st := []) (n := 0) (frc := 1) (loc := 20) C h (fun S9 r9 e9 => k_X23_ok l D K m9 mr _ S9 r9 e9) ww_0 ww_13 ww_14 ww_15 ww_16 (by decide +kernel) rfl ⟨by omega, by omega⟩ (Nat.le_of_ble_eq_true rfl) eX23_run_80 (fun S7 v8 h => ?_)
    refine x_if_eq (tgt := 90) C eX23_run_83 (by decide) h (fun h => ?_) (fun h => ?_)
    · refine x_sub [0] rfl ?_
      exact j_90 S7 h
    · refine x_tload_n C eX23_run_86 rfl 0 rfl ?_
      refine x_cVv (As := []) (st := []) (n := 0) (frc := 964) (loc := 21939) C h (fun S9 r9 e9 => k_X23_layAll l D K m9 mr _ S9 r9 e9) ww_724 ww_1001 ww_1002 ww_1003 ww_16 (by decide +kernel) rfl ⟨by omega, by omega⟩ (Nat.le_of_ble_eq_true rfl) eX23_run_87 (fun S9 v10 h => ?_)
      refine x_sub [0] rfl ?_
      exact j_90 S9 h
  unfold f_run64 at h
  refine x_tload_n C eX23_run_64 rfl 0 rfl ?_
  refine x_cVv (As := []) (st := []) (n := 0) (frc := 929) (loc := 20495) C h (fun S9 r9 e9 => k_X23_program l D K m9 mr _ S9 r9 e9) ww_101 ww_995 ww_996 ww_997 ww_16 (by decide +kernel) rfl ⟨by omega, by omega⟩ (Nat.le_of_ble_eq_true rfl) eX23_run_65 (fun S1 v2 h => ?_)
  refine x_tload_n C eX23_run_68 rfl 0 rfl ?_
  refine x_cVi (As := []) (st := []) (n := 0) (frc := 1) (loc := 20) C h (fun S9 r9 e9 => k_X23_ok l D K m9 mr _ S9 r9 e9) ww_0 ww_13 ww_14 ww_15 ww_16 (by decide +kernel) rfl ⟨by omega, by omega⟩ (Nat.le_of_ble_eq_true rfl) eX23_run_69 (fun S3 v4 h => ?_)
  refine x_if_eq (tgt := 79) C eX23_run_72 (by decide) h (fun h => ?_) (fun h => ?_)
  · refine x_sub [0] rfl ?_
    exact j_79 S3 h
  · refine x_tload_n C eX23_run_75 rfl 0 rfl ?_
    refine x_cVv (As := []) (st := []) (n := 0) (frc := 1831) (loc := 43973) C h (fun S9 r9 e9 => k_X23_typeAll l D K m9 mr _ S9 r9 e9) ww_464 ww_998 ww_999 ww_1000 ww_16 (by decide +kernel) rfl ⟨by omega, by omega⟩ (Nat.le_of_ble_eq_true rfl) eX23_run_76 (fun S5 v6 h => ?_)
    refine x_sub [0] rfl ?_
    exact j_79 S5 h
