set_option maxRecDepth 20000 in
set_option maxHeartbeats 4000000 in
theorem k_runP {l : Launch} {D : va_G} {K : Ky} {m9 : Nat} {mr : Nat → Nat} {p : Program} {e : Env} {R : Room} {s : State} {m : MethodId} {args : Array Value} {below : List Frame} {meth : Method} {c : Code} {Q : State → Prop} {A : Nat → Prop} {mn : String} {Ts : List Cond} {fr lo : Nat} {Sb S0 Sf : Sg} {rf x1 x2 : Int32} {V : Sg → Option (Sg × Int32)} (C : CX p l e R s m args below meth c Q D A K m9 mr RX23 mn cX23_run 3 Ts (some .int) fr lo Sb Sf (some (.int rf))) (hV : ∀ S : Sg, V S = some (Sf, rf) → WX p l e R s m args below meth c Q D A K m9 mr 3 Sb S 61 [(0, .ref m9)] [.ref m9]) (h : f_runP K V S0 x1 x2 = some (Sf, rf)) : WX p l e R s m args below meth c Q D A K m9 mr 3 Sb S0 0 [(0, .ref m9), (1, .int x1), (2, .int x2)] [] := by
  have j_23 : ∀ (S : Sg), f_runP_23 K V S = some (Sf, rf) → WX p l e R s m args below meth c Q D A K m9 mr 3 Sb S 23 [] [] := by
    intro S h
    unfold f_runP_23 at h
    refine x_iconst (v := (-1)) C eX23_run_23 (by decide) ?_
    exact x_iret C rfl rfl eX23_run_24 h
  unfold f_runP at h
  refine x_iload_n C eX23_run_0 rfl 1 rfl ?_
  refine x_if_lt (tgt := 23) C eX23_run_1 (by decide) h (fun h => ?_) (fun h => ?_)
  · refine x_sub [] rfl ?_
    exact j_23 S0 h
  · refine x_iload_n C eX23_run_4 rfl 1 rfl ?_
    refine x_tload_n C eX23_run_5 rfl 0 rfl ?_
    refine x_mV (k9 := 1) C (by decide) ww_945 eX23_run_6 rfl ?_
    refine x_ic_gt (tgt := 23) C eX23_run_9 (by decide) h (fun h => ?_) (fun h => ?_)
    · refine x_sub [] rfl ?_
      exact j_23 S0 h
    · refine x_iload_n C eX23_run_12 rfl 2 rfl ?_
      refine x_if_lt (tgt := 23) C eX23_run_13 (by decide) h (fun h => ?_) (fun h => ?_)
      · refine x_sub [] rfl ?_
        exact j_23 S0 h
      · refine x_iload_n C eX23_run_16 rfl 2 rfl ?_
        refine x_sipush (v := 20000) C eX23_run_17 (by decide) ?_
        refine x_ic_le (tgt := 25) C eX23_run_20 (by decide) h (fun h => ?_) (fun h => ?_)
        · refine x_tload_n C eX23_run_25 rfl 0 rfl ?_
          refine x_iload_n C eX23_run_26 rfl 1 rfl ?_
          refine x_pM (k9 := 2) C (by decide) rfl (by decide) ww_991 rfl (by decide +kernel) eX23_run_27 h (fun S1 h => ?_)
          refine x_tload_n C eX23_run_30 rfl 0 rfl ?_
          refine x_iconst (v := 0) C eX23_run_31 (by decide) ?_
          refine x_pM (k9 := 1) C (by decide) rfl (by decide) ww_945 rfl (by decide +kernel) eX23_run_32 h (fun S2 h => ?_)
          refine x_tload_n C eX23_run_35 rfl 0 rfl ?_
          refine x_iconst (v := 0) C eX23_run_36 (by decide) ?_
          refine x_pM (k9 := 3) C (by decide) rfl (by decide) ww_1 rfl (by decide +kernel) eX23_run_37 h (fun S3 h => ?_)
          refine x_tload_n C eX23_run_40 rfl 0 rfl ?_
          refine x_iconst (v := (-1)) C eX23_run_41 (by decide) ?_
          refine x_pM (k9 := 4) C (by decide) rfl (by decide) ww_4 rfl (by decide +kernel) eX23_run_42 h (fun S4 h => ?_)
          refine x_tload_n C eX23_run_45 rfl 0 rfl ?_
          refine x_iload_n C eX23_run_46 rfl 2 rfl ?_
          refine x_pM (k9 := 70) C (by decide) rfl (by decide) ww_872 rfl (by decide +kernel) eX23_run_47 h (fun S5 h => ?_)
          refine x_tload_n C eX23_run_50 rfl 0 rfl ?_
          refine x_iconst (v := 0) C eX23_run_51 (by decide) ?_
          refine x_pM (k9 := 68) C (by decide) rfl (by decide) ww_785 rfl (by decide +kernel) eX23_run_52 h (fun S6 h => ?_)
          refine x_tload_n C eX23_run_55 rfl 0 rfl ?_
          refine x_iconst (v := 0) C eX23_run_56 (by decide) ?_
          refine x_pM (k9 := 69) C (by decide) rfl (by decide) ww_790 rfl (by decide +kernel) eX23_run_57 h (fun S7 h => ?_)
          refine x_tload_n C eX23_run_60 rfl 0 rfl ?_
          refine x_sub [0] rfl ?_
          exact hV _ h
        · refine x_sub [] rfl ?_
          exact j_23 S0 h
