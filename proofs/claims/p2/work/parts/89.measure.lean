def wf_c_mshape : List Cond := [.code yX10_measureShape cX10_measureShape 10 none, .fieldLink RX10 9 "OwnedPlaces$Types" "kind" "[I", .fieldLink RX10 37 "OwnedPlaces$Types" "variants" "[I", .fieldLink RX10 18 "OwnedPlaces$Types" "size" "[I", .fieldLink RX10 21 "OwnedPlaces$Types" "drops" "[Z", .code yX10_rowOf cX10_rowOf 3 (some .int), .methodLink RX10 70 yX10_rowOf, .instanceMethod yX10_rowOf, .selects RX10 yX10_rowOf yX10_rowOf, .initialized RX10, .fieldLink RX10 43 "OwnedPlaces$Types" "parts" "[I", .methodLink RX10 78 Lib.Math.max.name, .static Lib.Math.max.name, .initialized "java/lang/Math", .code Lib.Math.max.name Lib.Math.max.code 2 (some .int), .fieldLink RX10 49 "OwnedPlaces$Types" "partType" "[I", .fieldLink RX10 52 "OwnedPlaces$Types" "partOffset" "[I", .methodLink RX10 73 Lib.Math.min.name, .static Lib.Math.min.name, .code Lib.Math.min.name Lib.Math.min.code 2 (some .int)]
def wp_c_mshape : List Cond := wf_c_mshape ++ (wsX100 ++ [])
theorem in_c_mshape_X10 : ∀ w ∈ wsX100, w ∈ wp_c_mshape := fun w h => List.mem_append_right _ (List.mem_append_left _ h)
theorem wg_c_mshape : wf_c_mshape.all goodWord = true := by decide +kernel
theorem wm_c_mshape (k : Nat) {w : Cond} (h : wp_c_mshape[k]? = some w) : w ∈ wp_c_mshape := List.mem_of_getElem? h
set_option maxRecDepth 20000 in
theorem g_c_mshape_c_rowOf_44 : GoodIn wp_c_mshape (wsV RX10 70 RX10 yX10_rowOf wp_c_rowOf) := goodIn_app (goodIn_f [.methodLink RX10 70 yX10_rowOf, .instanceMethod yX10_rowOf, .selects RX10 yX10_rowOf yX10_rowOf, .initialized RX10] [6, 7, 8, 9] rfl (by decide +kernel)) (goodIn_app (goodIn_f (wf_c_rowOf) [5] rfl wg_c_rowOf) (goodIn_n))
set_option maxHeartbeats 4000000 in
set_option maxRecDepth 100000 in
theorem c_mshape (l : Launch) (dC : Nat → ClassId) (dI : Nat → Nat → Nat) (y y0 y1 y2 y3 y4 y5 y6 y7 y8 y9 y10 y11 y12 y13 : Nat) (yt yp : Nat) (a : Nat) (kI kZ : ClassId) (fk fv fpa fs fpt fof fd : Nat → Int32) (sz : Nat) (ha : a < 30) (hvI : upI 30 12 fv) (hpI : upI 360 12 fpa) (htI : upI 4320 3039 fpt) (hsI : upI 3040 17 fs) : Met l yX10_measureShape wp_c_mshape ({ frames := 1, cells := 0, slots := 0, locals := 22 }) (va_Pc [.ref y, .int (nI a)] (fun U => U.heap.size = sz ∧ va_P (dC, dI) vwCl [(y, .inr (10, [.ref y0, .ref y1, .ref y2, .ref y3, .ref y4, .ref y5, .ref y6, .int (nI yt), .int (nI yp), .ref y7, .ref y8, .ref y9, .ref y10, .ref y11, .ref y12, .ref y13])), (y0, .inl (kI, 3040, .inl fk)), (y8, .inl (kI, 30, .inl fv)), (y10, .inl (kI, 360, .inl fpa)), (y2, .inl (kI, 3040, .inl fs)), (y12, .inl (kI, 4320, .inl fpt)), (y13, .inl (kI, 4320, .inl fof)), (y3, .inl (kZ, 3040, .inl fd))] U.heap ∧ va_K (dC, dI) vwCl [(kI, .int), (kZ, .boolean)] U ∧ va_D (fun _ => True) [(y, .inr (10, [.ref y0, .ref y1, .ref y2, .ref y3, .ref y4, .ref y5, .ref y6, .int (nI yt), .int (nI yp), .ref y7, .ref y8, .ref y9, .ref y10, .ref y11, .ref y12, .ref y13])), (y0, .inl (kI, 3040, .inl fk)), (y8, .inl (kI, 30, .inl fv)), (y10, .inl (kI, 360, .inl fpa)), (y2, .inl (kI, 3040, .inl fs)), (y12, .inl (kI, 4320, .inl fpt)), (y13, .inl (kI, 4320, .inl fof)), (y3, .inl (kZ, 3040, .inl fd))])) (va_Qv (fun _ : Unit => True) (fun (_ : Unit) (tS : State) => ∃ (gs : Nat → Int32) (gof : Nat → Int32) (gd : Nat → Int32), (lyO a fof gof) ∧ (gs = fs ∨ ∃ mo : Nat, mo ≤ 17 ∧ gs = upd fs (4 + a) (nI mo) ∧ lyD (if fk (4 + a) = 3 then 1 else 0) a (pcR fv a) mo fs fpt fpa gof) ∧ va_P (dC, dI) vwCl [(y, .inr (10, [.ref y0, .ref y1, .ref y2, .ref y3, .ref y4, .ref y5, .ref y6, .int (nI yt), .int (nI yp), .ref y7, .ref y8, .ref y9, .ref y10, .ref y11, .ref y12, .ref y13])), (y0, .inl (kI, 3040, .inl fk)), (y8, .inl (kI, 30, .inl fv)), (y10, .inl (kI, 360, .inl fpa)), (y2, .inl (kI, 3040, .inl gs)), (y12, .inl (kI, 4320, .inl fpt)), (y13, .inl (kI, 4320, .inl gof)), (y3, .inl (kZ, 3040, .inl gd))] tS.heap ∧ va_K (dC, dI) vwCl [(kI, .int), (kZ, .boolean)] tS ∧ va_D (va_A [(y, .inr (10, [.ref y0, .ref y1, .ref y2, .ref y3, .ref y4, .ref y5, .ref y6, .int (nI yt), .int (nI yp), .ref y7, .ref y8, .ref y9, .ref y10, .ref y11, .ref y12, .ref y13])), (y0, .inl (kI, 3040, .inl fk)), (y8, .inl (kI, 30, .inl fv)), (y10, .inl (kI, 360, .inl fpa)), (y2, .inl (kI, 3040, .inl fs)), (y12, .inl (kI, 4320, .inl fpt)), (y13, .inl (kI, 4320, .inl fof)), (y3, .inl (kZ, 3040, .inl fd))] sz) [(y, .inr (10, [.ref y0, .ref y1, .ref y2, .ref y3, .ref y4, .ref y5, .ref y6, .int (nI yt), .int (nI yp), .ref y7, .ref y8, .ref y9, .ref y10, .ref y11, .ref y12, .ref y13])), (y0, .inl (kI, 3040, .inl fk)), (y8, .inl (kI, 30, .inl fv)), (y10, .inl (kI, 360, .inl fpa)), (y2, .inl (kI, 3040, .inl gs)), (y12, .inl (kI, 4320, .inl fpt)), (y13, .inl (kI, 4320, .inl gof)), (y3, .inl (kZ, 3040, .inl gd))]) (va_A [(y, .inr (10, [.ref y0, .ref y1, .ref y2, .ref y3, .ref y4, .ref y5, .ref y6, .int (nI yt), .int (nI yp), .ref y7, .ref y8, .ref y9, .ref y10, .ref y11, .ref y12, .ref y13])), (y0, .inl (kI, 3040, .inl fk)), (y8, .inl (kI, 30, .inl fv)), (y10, .inl (kI, 360, .inl fpa)), (y2, .inl (kI, 3040, .inl fs)), (y12, .inl (kI, 4320, .inl fpt)), (y13, .inl (kI, 4320, .inl fof)), (y3, .inl (kZ, 3040, .inl fd))] sz)) 0 0 (va_A [(y, .inr (10, [.ref y0, .ref y1, .ref y2, .ref y3, .ref y4, .ref y5, .ref y6, .int (nI yt), .int (nI yp), .ref y7, .ref y8, .ref y9, .ref y10, .ref y11, .ref y12, .ref y13])), (y0, .inl (kI, 3040, .inl fk)), (y8, .inl (kI, 30, .inl fv)), (y10, .inl (kI, 360, .inl fpa)), (y2, .inl (kI, 3040, .inl fs)), (y12, .inl (kI, 4320, .inl fpt)), (y13, .inl (kI, 4320, .inl fof)), (y3, .inl (kZ, 3040, .inl fd))] sz) := by
  refine Met.ofW (cc := cX10_measureShape) (maxL := 10) (ret := none) (by decide) rfl ?_
  intro p e s m args below meth c s₁ B hml hv
  obtain ⟨rfl, hsz, hP, hK, hD0⟩ := hv
  have hx := B.exec
  have hb := B.bytes
  have hr := B.returns
  have hts := atoms_spec (ws := wp_c_mshape) B.pre
  have hown : s.vm.findClass RX10 = some m.cls := findClass_of_methodNamed B.named
  have hlocks := B.notSynchronized
  subst hsz
  have hD := hD0.self (sz := s.heap.size)
  generalize hAe : va_A [(y, .inr (10, [.ref y0, .ref y1, .ref y2, .ref y3, .ref y4, .ref y5, .ref y6, .int (nI yt), .int (nI yp), .ref y7, .ref y8, .ref y9, .ref y10, .ref y11, .ref y12, .ref y13])), (y0, .inl (kI, 3040, .inl fk)), (y8, .inl (kI, 30, .inl fv)), (y10, .inl (kI, 360, .inl fpa)), (y2, .inl (kI, 3040, .inl fs)), (y12, .inl (kI, 4320, .inl fpt)), (y13, .inl (kI, 4320, .inl fof)), (y3, .inl (kZ, 3040, .inl fd))] s.heap.size = A at hD ⊢
  have hA : ∀ q : Nat, s.heap.size ≤ q → A q := fun q h => by rw [← hAe]; exact Or.inr h
  have hS : va_S A s.heap s.heap [] := va_S.rf
  have hP : va_P (dC, dI) vwCl [(y, .inr (10, [.ref y0, .ref y1, .ref y2, .ref y3, .ref y4, .ref y5, .ref y6, .int (nI yt), .int (nI yp), .ref y7, .ref y8, .ref y9, .ref y10, .ref y11, .ref y12, .ref y13])), (y0, .inl (kI, 3040, .inl fk)), (y8, .inl (kI, 30, .inl fv)), (y10, .inl (kI, 360, .inl fpa)), (y2, .inl (kI, 3040, .inl fs)), (y12, .inl (kI, 4320, .inl fpt)), (y13, .inl (kI, 4320, .inl fof)), (y3, .inl (kZ, 3040, .inl fd))] s.heap := hP
  have hl := lv_entry ([.ref y, .int (nI a)]) (n := 10) (Nat.le_of_ble_eq_true rfl)
  rw [lg_entry_eq]
  generalize (lg_sl ([.ref y, .int (nI a)]) ++ List.replicate (10 - (lg_sl ([.ref y, .int (nI a)])).length) Slot.unset).toArray = ls at hl ⊢
  have hl : lv_has ls 10 [(0, .ref y), (1, .int (nI a))] := hl
  obtain ⟨vc, hvc, hvce⟩ := hvI a ha
  have hpv : pcR fv a = vc := by unfold pcR; rw [hvce]; exact nI_clamp (by omega)
  refine lv_iconst (v := 4) hx hb dX10_measureShape_0 (by decide) ?_
  refine lv_iload_n hx hb dX10_measureShape_1 rfl (lv_at hl 1 rfl) ?_
  refine lv_iadd hx hb dX10_measureShape_2 ?_
  refine lv_topi (fun f_1 ef_1 => ?_)
  obtain rfl : f_1 = nI (4 + a) := ef_1.trans (nI_add 4 a)
  refine lv_istore_n (lv' := [(2, .int (nI (4 + a))), (0, .ref y), (1, .int (nI a))]) hx hb dX10_measureShape_3 rfl hl (by decide) rfl (fun ls hl => ?_)
  refine lv_aload_n hx hb dX10_measureShape_4 rfl (lv_at hl 1 rfl) ?_
  refine va_get (D := (dC, dI)) (ci := 10) (v := .ref y0) (C := RX10) (T := TX10) (N := 16) hx hb hts in_c_mshape_X10 hown hK hP 0 rfl rfl 0 (by decide) (hts (.fieldLink RX10 9 "OwnedPlaces$Types" "kind" "[I") (wm_c_mshape 1 rfl)) (fun _ h9 => h9) rfl dX10_measureShape_5 ?_
  refine lv_iload_n hx hb dX10_measureShape_8 rfl (lv_at hl 0 rfl) ?_
  refine va_iald hx hb hK hP 1 0 rfl rfl (vp_in_nI (by omega) (by decide)) dX10_measureShape_9 ?_
  refine lv_topi (fun v_2 ev_2 => ?_)
  have hv_2 : v_2 = fk (4 + a) := ev_2.trans (by rw [nI_clamp (by omega)])
  refine lv_iconst (v := 3) hx hb dX10_measureShape_10 (by decide) ?_
  refine lv_icmp_ne (tgt := 18) hx hb dX10_measureShape_11 (by decide) (fun hk3 => ?_) (fun hk3 => ?_)
  · refine lv_iconst (v := 0) hx hb dX10_measureShape_18 (by decide) ?_
    have hhd : (if fk (4 + a) = 3 then 1 else 0) = 0 := if_neg (fun q9 => hk3 (hv_2.trans q9))
    refine lv_istore_n (lv' := [(3, .int 0), (2, .int (nI (4 + a))), (0, .ref y), (1, .int (nI a))]) hx hb dX10_measureShape_19 rfl hl (by decide) rfl (fun ls hl => ?_)
    refine lv_iconst (v := 0) hx hb dX10_measureShape_20 (by decide) ?_
    refine lv_istore (lv' := [(4, .int 0), (3, .int 0), (2, .int (nI (4 + a))), (0, .ref y), (1, .int (nI a))]) hx hb dX10_measureShape_21 hl (by decide) rfl (fun ls hl => ?_)
    refine lv_iconst (v := 0) hx hb dX10_measureShape_23 (by decide) ?_
    refine lv_istore (lv' := [(5, .int 0), (4, .int 0), (3, .int 0), (2, .int (nI (4 + a))), (0, .ref y), (1, .int (nI a))]) hx hb dX10_measureShape_24 hl (by decide) rfl (fun ls hl => ?_)
    refine lv_iconst (v := 0) hx hb dX10_measureShape_26 (by decide) ?_
    refine lv_istore (lv' := [(6, .int 0), (5, .int 0), (4, .int 0), (3, .int 0), (2, .int (nI (4 + a))), (0, .ref y), (1, .int (nI a))]) hx hb dX10_measureShape_27 hl (by decide) rfl (fun ls hl => ?_)
    refine W_q (fun Q1 hQ1 => ?_)
    have key1 : ∀ (n1 : Nat) (i dr mo : Nat) (of1 : Nat → Int32) (H : Heap) (locs : List Loc) (ls : Array Slot), (i + n1 = vc + 1 ∧ i ≤ vc) → (dr ≤ 1 ∧ mo ≤ 17) → (lyD 0 a i mo fs fpt fpa of1) → (lyO a fof of1) → va_P (dC, dI) vwCl [(y, .inr (10, [.ref y0, .ref y1, .ref y2, .ref y3, .ref y4, .ref y5, .ref y6, .int (nI yt), .int (nI yp), .ref y7, .ref y8, .ref y9, .ref y10, .ref y11, .ref y12, .ref y13])), (y0, .inl (kI, 3040, .inl fk)), (y8, .inl (kI, 30, .inl fv)), (y10, .inl (kI, 360, .inl fpa)), (y2, .inl (kI, 3040, .inl fs)), (y12, .inl (kI, 4320, .inl fpt)), (y13, .inl (kI, 4320, .inl of1)), (y3, .inl (kZ, 3040, .inl fd))] H → va_D A [(y, .inr (10, [.ref y0, .ref y1, .ref y2, .ref y3, .ref y4, .ref y5, .ref y6, .int (nI yt), .int (nI yp), .ref y7, .ref y8, .ref y9, .ref y10, .ref y11, .ref y12, .ref y13])), (y0, .inl (kI, 3040, .inl fk)), (y8, .inl (kI, 30, .inl fv)), (y10, .inl (kI, 360, .inl fpa)), (y2, .inl (kI, 3040, .inl fs)), (y12, .inl (kI, 4320, .inl fpt)), (y13, .inl (kI, 4320, .inl of1)), (y3, .inl (kZ, 3040, .inl fd))] → va_S A s.heap H locs → lv_has ls 10 [(6, .int (nI i)), (5, .int (nI dr)), (4, .int (nI mo)), (3, .int 0), (2, .int (nI (4 + a))), (0, .ref y), (1, .int (nI a))] → W p l e (headSpec wp_c_mshape ({ frames := 1, cells := 0, slots := 0, locals := 22 })).room s m ([.ref y, .int (nI a)] : List Value).toArray below meth c H locs 0 0 Q1 (F0 m 29 ls []) := by
      intro n1
      induction n1 with
      | zero => intro i dr mo of1 H locs ls hb0 hb1 hb2 hb3; exact absurd hb0 (by omega)
      | succ n1 ih1 =>
        intro i dr mo of1 H locs ls hb0 hb1 hb2 hb3 hP hD hS hl
        refine lv_iload hx hb dX10_measureShape_29 (lv_at hl 0 rfl) ?_
        refine lv_aload_n hx hb dX10_measureShape_31 rfl (lv_at hl 5 rfl) ?_
        refine va_get (D := (dC, dI)) (ci := 10) (v := .ref y8) (C := RX10) (T := TX10) (N := 16) hx hb hts in_c_mshape_X10 hown hK hP 0 rfl rfl 10 (by decide) (hts (.fieldLink RX10 37 "OwnedPlaces$Types" "variants" "[I") (wm_c_mshape 2 rfl)) (fun _ h9 => h9) rfl dX10_measureShape_32 ?_
        refine lv_iload_n hx hb dX10_measureShape_35 rfl (lv_at hl 6 rfl) ?_
        refine va_iald hx hb hK hP 2 0 rfl rfl (vp_in_nI (by omega) (by decide)) dX10_measureShape_36 ?_
        refine lv_topi (fun v_3 ev_3 => ?_)
        have hv_3 : v_3 = fv a := ev_3.trans (by rw [nI_clamp (by omega)])
        obtain rfl : v_3 = nI vc := hv_3.trans hvce
        refine lv_icmp_ge (tgt := 172) hx hb dX10_measureShape_37 (by decide) (fun hc => ?_) (fun hc => ?_)
        · have hiv : i = vc := by have := (nI_leI (a := vc) (b := i) (by omega) (by omega)).mp hc; omega
          refine lv_aload_n hx hb dX10_measureShape_172 rfl (lv_at hl 5 rfl) ?_
          refine va_get (D := (dC, dI)) (ci := 10) (v := .ref y2) (C := RX10) (T := TX10) (N := 16) hx hb hts in_c_mshape_X10 hown hK hP 0 rfl rfl 2 (by decide) (hts (.fieldLink RX10 18 "OwnedPlaces$Types" "size" "[I") (wm_c_mshape 3 rfl)) (fun _ h9 => h9) rfl dX10_measureShape_173 ?_
          refine lv_iload_n hx hb dX10_measureShape_176 rfl (lv_at hl 4 rfl) ?_
          refine lv_iload hx hb dX10_measureShape_177 (lv_at hl 2 rfl) ?_
          refine va_iast hx hb hK hP hD hS 4 0 rfl rfl (vp_in_nI (by omega) (by decide)) dX10_measureShape_179 (fun H locs hP hD hS => ?_)
          have hP : va_P (dC, dI) vwCl [(y, .inr (10, [.ref y0, .ref y1, .ref y2, .ref y3, .ref y4, .ref y5, .ref y6, .int (nI yt), .int (nI yp), .ref y7, .ref y8, .ref y9, .ref y10, .ref y11, .ref y12, .ref y13])), (y0, .inl (kI, 3040, .inl fk)), (y8, .inl (kI, 30, .inl fv)), (y10, .inl (kI, 360, .inl fpa)), (y2, .inl (kI, 3040, .inl (upd fs (nI (4 + a) : Int32).toNatClampNeg (nI mo)))), (y12, .inl (kI, 4320, .inl fpt)), (y13, .inl (kI, 4320, .inl of1)), (y3, .inl (kZ, 3040, .inl fd))] H := hP
          have hD : va_D A [(y, .inr (10, [.ref y0, .ref y1, .ref y2, .ref y3, .ref y4, .ref y5, .ref y6, .int (nI yt), .int (nI yp), .ref y7, .ref y8, .ref y9, .ref y10, .ref y11, .ref y12, .ref y13])), (y0, .inl (kI, 3040, .inl fk)), (y8, .inl (kI, 30, .inl fv)), (y10, .inl (kI, 360, .inl fpa)), (y2, .inl (kI, 3040, .inl (upd fs (nI (4 + a) : Int32).toNatClampNeg (nI mo)))), (y12, .inl (kI, 4320, .inl fpt)), (y13, .inl (kI, 4320, .inl of1)), (y3, .inl (kZ, 3040, .inl fd))] := hD
          obtain ⟨gs1, egs1⟩ : ∃ zZ : Nat → Int32, zZ = upd fs (nI (4 + a) : Int32).toNatClampNeg (nI mo) := ⟨_, rfl⟩
          rw [← egs1] at hP hD
          refine lv_aload_n hx hb dX10_measureShape_180 rfl (lv_at hl 5 rfl) ?_
          refine va_get (D := (dC, dI)) (ci := 10) (v := .ref y3) (C := RX10) (T := TX10) (N := 16) hx hb hts in_c_mshape_X10 hown hK hP 0 rfl rfl 3 (by decide) (hts (.fieldLink RX10 21 "OwnedPlaces$Types" "drops" "[Z") (wm_c_mshape 4 rfl)) (fun _ h9 => h9) rfl dX10_measureShape_181 ?_
          refine lv_iload_n hx hb dX10_measureShape_184 rfl (lv_at hl 4 rfl) ?_
          refine lv_iload hx hb dX10_measureShape_185 (lv_at hl 1 rfl) ?_
          refine va_zast hx hb hK hP hD hS 7 1 rfl rfl (vp_in_nI (by omega) (by decide)) dX10_measureShape_187 (fun H locs hP hD hS => ?_)
          have hP : va_P (dC, dI) vwCl [(y, .inr (10, [.ref y0, .ref y1, .ref y2, .ref y3, .ref y4, .ref y5, .ref y6, .int (nI yt), .int (nI yp), .ref y7, .ref y8, .ref y9, .ref y10, .ref y11, .ref y12, .ref y13])), (y0, .inl (kI, 3040, .inl fk)), (y8, .inl (kI, 30, .inl fv)), (y10, .inl (kI, 360, .inl fpa)), (y2, .inl (kI, 3040, .inl gs1)), (y12, .inl (kI, 4320, .inl fpt)), (y13, .inl (kI, 4320, .inl of1)), (y3, .inl (kZ, 3040, .inl (upd fd (nI (4 + a) : Int32).toNatClampNeg (vp_nar .boolean (nI dr)))))] H := hP
          have hD : va_D A [(y, .inr (10, [.ref y0, .ref y1, .ref y2, .ref y3, .ref y4, .ref y5, .ref y6, .int (nI yt), .int (nI yp), .ref y7, .ref y8, .ref y9, .ref y10, .ref y11, .ref y12, .ref y13])), (y0, .inl (kI, 3040, .inl fk)), (y8, .inl (kI, 30, .inl fv)), (y10, .inl (kI, 360, .inl fpa)), (y2, .inl (kI, 3040, .inl gs1)), (y12, .inl (kI, 4320, .inl fpt)), (y13, .inl (kI, 4320, .inl of1)), (y3, .inl (kZ, 3040, .inl (upd fd (nI (4 + a) : Int32).toNatClampNeg (vp_nar .boolean (nI dr)))))] := hD
          obtain ⟨gd1, egd1⟩ : ∃ zZ : Nat → Int32, zZ = upd fd (nI (4 + a) : Int32).toNatClampNeg (vp_nar .boolean (nI dr)) := ⟨_, rfl⟩
          rw [← egd1] at hP hD
          have hP9 := hP.sub (ws' := [(y, .inr (10, [.ref y0, .ref y1, .ref y2, .ref y3, .ref y4, .ref y5, .ref y6, .int (nI yt), .int (nI yp), .ref y7, .ref y8, .ref y9, .ref y10, .ref y11, .ref y12, .ref y13])), (y0, .inl (kI, 3040, .inl fk)), (y8, .inl (kI, 30, .inl fv)), (y10, .inl (kI, 360, .inl fpa)), (y2, .inl (kI, 3040, .inl gs1)), (y12, .inl (kI, 4320, .inl fpt)), (y13, .inl (kI, 4320, .inl of1)), (y3, .inl (kZ, 3040, .inl gd1))]) [0, 1, 2, 3, 4, 5, 6, 7] rfl
          have hD9 := hD.sub (ws' := [(y, .inr (10, [.ref y0, .ref y1, .ref y2, .ref y3, .ref y4, .ref y5, .ref y6, .int (nI yt), .int (nI yp), .ref y7, .ref y8, .ref y9, .ref y10, .ref y11, .ref y12, .ref y13])), (y0, .inl (kI, 3040, .inl fk)), (y8, .inl (kI, 30, .inl fv)), (y10, .inl (kI, 360, .inl fpa)), (y2, .inl (kI, 3040, .inl gs1)), (y12, .inl (kI, 4320, .inl fpt)), (y13, .inl (kI, 4320, .inl of1)), (y3, .inl (kZ, 3040, .inl gd1))]) [0, 1, 2, 3, 4, 5, 6, 7] (by decide) rfl
          have hK9 := hK.sub (tys' := [(kI, .int), (kZ, .boolean)]) [0, 1] rfl
          subst hQ1
          exact W.vret hx hb hr (fun tS ht hW => ⟨⟨(), rfl, trivial, gs1, of1, gd1, hb3, Or.inr ⟨mo, by omega, by rw [egs1, nI_clamp (by omega)], by rw [hhd, hpv, ← hiv]; exact hb2⟩, by rw [ht]; exact hP9, va_K.moved hW.alike hK9, hD9⟩, hS.F ht⟩) hS.2.2 dX10_measureShape_188
        · have hi : i < vc := by rcases Nat.lt_or_ge i vc with z9 | z9; exact z9; exact absurd (nI_le z9 (by omega)) hc
          obtain ⟨pc, hpc, hpce⟩ := hpI (a * 12 + i) (by omega)
          have hpp : pcR fpa (a * 12 + i) = pc := by unfold pcR; rw [hpce]; exact nI_clamp (by omega)
          refine lv_aload_n hx hb dX10_measureShape_40 rfl (lv_at hl 5 rfl) ?_
          refine lv_iload_n hx hb dX10_measureShape_41 rfl (lv_at hl 6 rfl) ?_
          refine lv_iload hx hb dX10_measureShape_42 (lv_at hl 0 rfl) ?_
          have hPc := hP.sub (ws' := [(y, .inr (10, [.ref y0, .ref y1, .ref y2, .ref y3, .ref y4, .ref y5, .ref y6, .int (nI yt), .int (nI yp), .ref y7, .ref y8, .ref y9, .ref y10, .ref y11, .ref y12, .ref y13]))]) [0] rfl
          have hDc := hD.sub (ws' := [(y, .inr (10, [.ref y0, .ref y1, .ref y2, .ref y3, .ref y4, .ref y5, .ref y6, .int (nI yt), .int (nI yp), .ref y7, .ref y8, .ref y9, .ref y10, .ref y11, .ref y12, .ref y13]))]) [0] (by decide) rfl
          have hKc := hK.sub (tys' := []) [] rfl
          have hFc := va_free (wc := [(y, .inr (10, [.ref y0, .ref y1, .ref y2, .ref y3, .ref y4, .ref y5, .ref y6, .int (nI yt), .int (nI yp), .ref y7, .ref y8, .ref y9, .ref y10, .ref y11, .ref y12, .ref y13]))]) hD hS hA [0] rfl
          refine va_calli (va_runV (As := [.int (nI a), .int (nI i)]) (rest := []) ⟨hx, hb, hml, hown, hts⟩ (c_rowOf l dC dI y y0 y1 y2 y3 y4 y5 y6 y7 y8 y9 y10 y11 y12 y13 yt yp a i H.size) (cwV 2 hts g_c_mshape_c_rowOf_44 rfl rfl rfl (by decide +kernel) ⟨Nat.le_of_ble_eq_true rfl, Nat.le_of_ble_eq_true rfl⟩) ⟨fun a U g mk q => by obtain ⟨q0, q1, qP, qK, qD⟩ := q; exact ⟨q0, q1, qP, va_K.moved (u := U) (U := U.calling g mk a) (Vm.Alike.refl U.vm) qK, qD⟩, va_recv hKc hPc (ci := 10) (q0 := 0) rfl rfl, fun U hU hW => ⟨rfl, by rw [hU], by rw [hU]; exact hPc, va_K.moved hW.alike hKc, hDc.weaken (fun _ _ _ _ => trivial)⟩⟩ rfl rfl hl.1 rfl (lv_room (Nat.le_of_ble_eq_true rfl)) dX10_measureShape_44 ⟨(show 0 + 0 ≤ 0 by omega), (show 0 + 0 ≤ 0 by omega)⟩) hS (fun q _ h => hFc q h) hFc (fun r_4 u tS H1 locs ht hvm hw hB hz1 hk1 hS => ?_)
          obtain ⟨hP1, hK1, hD1⟩ := hB
          rw [ht] at hP1
          have hK1 := va_K.moved hvm.symm hK1
          obtain ⟨hP, hD⟩ := va_join (wr := [(y0, .inl (kI, 3040, .inl fk)), (y8, .inl (kI, 30, .inl fv)), (y10, .inl (kI, 360, .inl fpa)), (y2, .inl (kI, 3040, .inl fs)), (y12, .inl (kI, 4320, .inl fpt)), (y13, .inl (kI, 4320, .inl of1)), (y3, .inl (kZ, 3040, .inl fd))]) (w1 := [(y, .inr (10, [.ref y0, .ref y1, .ref y2, .ref y3, .ref y4, .ref y5, .ref y6, .int (nI yt), .int (nI yp), .ref y7, .ref y8, .ref y9, .ref y10, .ref y11, .ref y12, .ref y13]))]) hP hD [0] [1, 2, 3, 4, 5, 6, 7] rfl rfl (by decide) (by decide) hk1 hFc hP1 hD1
          generalize H1 = H at hP hS ⊢
          have hP : va_P (dC, dI) vwCl [(y0, .inl (kI, 3040, .inl fk)), (y8, .inl (kI, 30, .inl fv)), (y10, .inl (kI, 360, .inl fpa)), (y2, .inl (kI, 3040, .inl fs)), (y12, .inl (kI, 4320, .inl fpt)), (y13, .inl (kI, 4320, .inl of1)), (y3, .inl (kZ, 3040, .inl fd)), (y, .inr (10, [.ref y0, .ref y1, .ref y2, .ref y3, .ref y4, .ref y5, .ref y6, .int (nI yt), .int (nI yp), .ref y7, .ref y8, .ref y9, .ref y10, .ref y11, .ref y12, .ref y13]))] H := hP
          have hD : va_D A [(y0, .inl (kI, 3040, .inl fk)), (y8, .inl (kI, 30, .inl fv)), (y10, .inl (kI, 360, .inl fpa)), (y2, .inl (kI, 3040, .inl fs)), (y12, .inl (kI, 4320, .inl fpt)), (y13, .inl (kI, 4320, .inl of1)), (y3, .inl (kZ, 3040, .inl fd)), (y, .inr (10, [.ref y0, .ref y1, .ref y2, .ref y3, .ref y4, .ref y5, .ref y6, .int (nI yt), .int (nI yp), .ref y7, .ref y8, .ref y9, .ref y10, .ref y11, .ref y12, .ref y13]))] := hD
          have hK : va_K (dC, dI) vwCl [(kI, .int), (kZ, .boolean)] s := hK
          obtain rfl : r_4 = nI (a * 12 + i) := hw
          refine lv_istore (lv' := [(7, .int (nI (a * 12 + i))), (6, .int (nI i)), (5, .int (nI dr)), (4, .int (nI mo)), (3, .int 0), (2, .int (nI (4 + a))), (0, .ref y), (1, .int (nI a))]) hx hb dX10_measureShape_47 hl (by decide) rfl (fun ls hl => ?_)
          refine lv_iload_n hx hb dX10_measureShape_49 rfl (lv_at hl 4 rfl) ?_
          refine lv_istore (lv' := [(8, .int 0), (7, .int (nI (a * 12 + i))), (6, .int (nI i)), (5, .int (nI dr)), (4, .int (nI mo)), (3, .int 0), (2, .int (nI (4 + a))), (0, .ref y), (1, .int (nI a))]) hx hb dX10_measureShape_50 hl (by decide) rfl (fun ls hl => ?_)
          refine lv_iload hx hb dX10_measureShape_52 (lv_at hl 1 rfl) ?_
          refine lv_bipush (v := 12) hx hb dX10_measureShape_54 (by decide) ?_
          refine lv_imul hx hb dX10_measureShape_56 ?_
          refine lv_topi (fun f_5 ef_5 => ?_)
          obtain rfl : f_5 = nI ((a * 12 + i) * 12) := ef_5.trans (pk_mul (a * 12 + i) 12)
          refine lv_istore (lv' := [(9, .int (nI ((a * 12 + i) * 12))), (8, .int 0), (7, .int (nI (a * 12 + i))), (6, .int (nI i)), (5, .int (nI dr)), (4, .int (nI mo)), (3, .int 0), (2, .int (nI (4 + a))), (0, .ref y), (1, .int (nI a))]) hx hb dX10_measureShape_57 hl (by decide) rfl (fun ls hl => ?_)
          have hl : lv_has ls 10 [(9, .int (nI ((a * 12 + i) * 12 + 0))), (8, .int (nI (lyP 0 (a * 12 + i) fs fpt 0))), (7, .int (nI (a * 12 + i))), (6, .int (nI i)), (5, .int (nI dr)), (4, .int (nI mo)), (3, .int 0), (2, .int (nI (4 + a))), (0, .ref y), (1, .int (nI a))] := hl
          refine W_q (fun Q2 hQ2 => ?_)
          have key2 : ∀ (n2 : Nat) (k dr2 : Nat) (of2 : Nat → Int32) (H : Heap) (locs : List Loc) (ls : Array Slot), (k + n2 = pc + 1 ∧ k ≤ pc) → (dr2 ≤ 1) → (lyD 0 a i mo fs fpt fpa of2) → (lyK 0 (a * 12 + i) k fs fpt of2) → (lyO a fof of2) → va_P (dC, dI) vwCl [(y, .inr (10, [.ref y0, .ref y1, .ref y2, .ref y3, .ref y4, .ref y5, .ref y6, .int (nI yt), .int (nI yp), .ref y7, .ref y8, .ref y9, .ref y10, .ref y11, .ref y12, .ref y13])), (y0, .inl (kI, 3040, .inl fk)), (y8, .inl (kI, 30, .inl fv)), (y10, .inl (kI, 360, .inl fpa)), (y2, .inl (kI, 3040, .inl fs)), (y12, .inl (kI, 4320, .inl fpt)), (y13, .inl (kI, 4320, .inl of2)), (y3, .inl (kZ, 3040, .inl fd))] H → va_D A [(y, .inr (10, [.ref y0, .ref y1, .ref y2, .ref y3, .ref y4, .ref y5, .ref y6, .int (nI yt), .int (nI yp), .ref y7, .ref y8, .ref y9, .ref y10, .ref y11, .ref y12, .ref y13])), (y0, .inl (kI, 3040, .inl fk)), (y8, .inl (kI, 30, .inl fv)), (y10, .inl (kI, 360, .inl fpa)), (y2, .inl (kI, 3040, .inl fs)), (y12, .inl (kI, 4320, .inl fpt)), (y13, .inl (kI, 4320, .inl of2)), (y3, .inl (kZ, 3040, .inl fd))] → va_S A s.heap H locs → lv_has ls 10 [(9, .int (nI ((a * 12 + i) * 12 + k))), (8, .int (nI (lyP 0 (a * 12 + i) fs fpt k))), (7, .int (nI (a * 12 + i))), (6, .int (nI i)), (5, .int (nI dr2)), (4, .int (nI mo)), (3, .int 0), (2, .int (nI (4 + a))), (0, .ref y), (1, .int (nI a))] → W p l e (headSpec wp_c_mshape ({ frames := 1, cells := 0, slots := 0, locals := 22 })).room s m ([.ref y, .int (nI a)] : List Value).toArray below meth c H locs 0 0 Q2 (F0 m 59 ls []) := by
            intro n2
            induction n2 with
            | zero => intro k dr2 of2 H locs ls hc0 hc1 hc2 hc3 hc4; exact absurd hc0 (by omega)
            | succ n2 ih2 =>
              intro k dr2 of2 H locs ls hc0 hc1 hc2 hc3 hc4 hP hD hS hl
              have hly := lyP_le (hd := 0) (r := a * 12 + i) (fs := fs) (fpt := fpt) (by decide) k
              refine lv_iload hx hb dX10_measureShape_59 (lv_at hl 0 rfl) ?_
              refine lv_iload hx hb dX10_measureShape_61 (lv_at hl 2 rfl) ?_
              refine lv_bipush (v := 12) hx hb dX10_measureShape_63 (by decide) ?_
              refine lv_imul hx hb dX10_measureShape_65 ?_
              refine lv_topi (fun f_6 ef_6 => ?_)
              obtain rfl : f_6 = nI ((a * 12 + i) * 12) := ef_6.trans (pk_mul (a * 12 + i) 12)
              refine lv_aload_n hx hb dX10_measureShape_66 rfl (lv_at hl 8 rfl) ?_
              refine va_get (D := (dC, dI)) (ci := 10) (v := .ref y10) (C := RX10) (T := TX10) (N := 16) hx hb hts in_c_mshape_X10 hown hK hP 0 rfl rfl 12 (by decide) (hts (.fieldLink RX10 43 "OwnedPlaces$Types" "parts" "[I") (wm_c_mshape 10 rfl)) (fun _ h9 => h9) rfl dX10_measureShape_67 ?_
              refine lv_iload hx hb dX10_measureShape_70 (lv_at hl 2 rfl) ?_
              refine va_iald hx hb hK hP 3 0 rfl rfl (vp_in_nI (by omega) (by decide)) dX10_measureShape_72 ?_
              refine lv_topi (fun v_7 ev_7 => ?_)
              have hv_7 : v_7 = fpa (a * 12 + i) := ev_7.trans (by rw [nI_clamp (by omega)])
              obtain rfl : v_7 = nI pc := hv_7.trans hpce
              refine lv_iadd hx hb dX10_measureShape_73 ?_
              refine lv_topi (fun f_8 ef_8 => ?_)
              obtain rfl : f_8 = nI ((a * 12 + i) * 12 + pc) := ef_8.trans (nI_add _ _)
              refine lv_icmp_ge (tgt := 157) hx hb dX10_measureShape_74 (by decide) (fun hd => ?_) (fun hd => ?_)
              · have hkp : k = pc := by have := (nI_leI (a := (a * 12 + i) * 12 + pc) (b := (a * 12 + i) * 12 + k) (by omega) (by omega)).mp hd; omega
                refine lv_iload hx hb dX10_measureShape_157 (lv_at hl 5 rfl) ?_
                refine lv_iload hx hb dX10_measureShape_159 (lv_at hl 1 rfl) ?_
                refine va_mmax hx hb (by rw [hml]; exact hl.1.symm) hown (hts (.methodLink RX10 78 Lib.Math.max.name) (wm_c_mshape 11 rfl)) (hts (.static Lib.Math.max.name) (wm_c_mshape 12 rfl)) (hts (.initialized "java/lang/Math") (wm_c_mshape 13 rfl)) (hts (.code Lib.Math.max.name Lib.Math.max.code 2 (some .int)) (wm_c_mshape 14 rfl)) (Nat.le_of_ble_eq_true rfl) (Nat.le_of_ble_eq_true rfl) (Nat.zero_le _) (Nat.zero_le _) dX10_measureShape_161 ?_
                refine lv_topi (fun f_9 ef_9 => ?_)
                obtain rfl : f_9 = nI (max mo (lyP 0 (a * 12 + i) fs fpt k)) := max_nI (a := mo) (b := lyP 0 (a * 12 + i) fs fpt k) (by omega) (by omega) ef_9
                refine lv_istore (lv' := [(4, .int (nI (max mo (lyP 0 (a * 12 + i) fs fpt k)))), (9, .int (nI ((a * 12 + i) * 12 + k))), (8, .int (nI (lyP 0 (a * 12 + i) fs fpt k))), (7, .int (nI (a * 12 + i))), (6, .int (nI i)), (5, .int (nI dr2)), (3, .int 0), (2, .int (nI (4 + a))), (0, .ref y), (1, .int (nI a))]) hx hb dX10_measureShape_164 hl (by decide) rfl (fun ls hl => ?_)
                obtain ⟨x_10, ex_10⟩ : ∃ yY : Int32, yY = (nI i) + 1 := ⟨_, rfl⟩
                refine lv_iinc (v := x_10) (lv' := [(6, .int x_10), (4, .int (nI (max mo (lyP 0 (a * 12 + i) fs fpt k)))), (9, .int (nI ((a * 12 + i) * 12 + k))), (8, .int (nI (lyP 0 (a * 12 + i) fs fpt k))), (7, .int (nI (a * 12 + i))), (5, .int (nI dr2)), (3, .int 0), (2, .int (nI (4 + a))), (0, .ref y), (1, .int (nI a))]) hx hb dX10_measureShape_166 hl (k := 4) rfl (by rw [ex_10]; rfl) (by decide) rfl (fun ls hl => ?_)
                obtain rfl : x_10 = nI (i + 1) := by rw [ex_10]; exact nI_1 i
                have hl : lv_has ls 10 [(6, .int (nI (i + 1))), (4, .int (nI (max mo (lyP 0 (a * 12 + i) fs fpt k)))), (9, .int (nI ((a * 12 + i) * 12 + k))), (8, .int (nI (lyP 0 (a * 12 + i) fs fpt k))), (7, .int (nI (a * 12 + i))), (5, .int (nI dr2)), (3, .int 0), (2, .int (nI (4 + a))), (0, .ref y), (1, .int (nI a))] := hl
                refine lv_goto (tgt := 29) hx hb dX10_measureShape_169 (by decide) ?_
                subst hQ2
                exact ih1 (i + 1) dr2 (max mo (lyP 0 (a * 12 + i) fs fpt k)) of2 _ _ _ (by omega) (by omega) (lyD_next hc2 (by omega) (by rw [hpp, ← hkp]; omega) (by rw [hpp, ← hkp]; exact hc3)) hc4 (hP.sub [0, 1, 2, 3, 4, 5, 6, 7] rfl) (hD.sub [0, 1, 2, 3, 4, 5, 6, 7] (by decide) rfl) hS (lv_sub hl [0, 5, 1, 6, 7, 8, 9] rfl)
              · have hk : k < pc := by rcases Nat.lt_or_ge k pc with z9 | z9; exact z9; exact absurd (nI_le (a := (a * 12 + i) * 12 + pc) (b := (a * 12 + i) * 12 + k) (by omega) (by omega)) hd
                obtain ⟨ty, hty, htye⟩ := htI ((a * 12 + i) * 12 + k) (by omega)
                obtain ⟨sz, hsz, hsze⟩ := hsI ty (by omega)
                have hszP : szP fs fpt ((a * 12 + i) * 12 + k) = sz := by unfold szP; rw [htye, nI_clamp (by omega), hsze]; exact nI_clamp (by omega)
                refine lv_aload_n hx hb dX10_measureShape_77 rfl (lv_at hl 8 rfl) ?_
                refine va_get (D := (dC, dI)) (ci := 10) (v := .ref y2) (C := RX10) (T := TX10) (N := 16) hx hb hts in_c_mshape_X10 hown hK hP 0 rfl rfl 2 (by decide) (hts (.fieldLink RX10 18 "OwnedPlaces$Types" "size" "[I") (wm_c_mshape 3 rfl)) (fun _ h9 => h9) rfl dX10_measureShape_78 ?_
                refine lv_aload_n hx hb dX10_measureShape_81 rfl (lv_at hl 8 rfl) ?_
                refine va_get (D := (dC, dI)) (ci := 10) (v := .ref y12) (C := RX10) (T := TX10) (N := 16) hx hb hts in_c_mshape_X10 hown hK hP 0 rfl rfl 14 (by decide) (hts (.fieldLink RX10 49 "OwnedPlaces$Types" "partType" "[I") (wm_c_mshape 15 rfl)) (fun _ h9 => h9) rfl dX10_measureShape_82 ?_
                refine lv_iload hx hb dX10_measureShape_85 (lv_at hl 0 rfl) ?_
                refine va_iald hx hb hK hP 5 0 rfl rfl (vp_in_nI (by omega) (by decide)) dX10_measureShape_87 ?_
                refine lv_topi (fun v_9 ev_9 => ?_)
                have hv_9 : v_9 = fpt ((a * 12 + i) * 12 + k) := ev_9.trans (by rw [nI_clamp (by omega)])
                obtain rfl : v_9 = nI ty := hv_9.trans htye
                refine va_iald hx hb hK hP 4 0 rfl rfl (vp_in_nI (by omega) (by decide)) dX10_measureShape_88 ?_
                refine lv_topi (fun v_10 ev_10 => ?_)
                have hv_10 : v_10 = fs ty := ev_10.trans (by rw [nI_clamp (by omega)])
                obtain rfl : v_10 = nI sz := hv_10.trans hsze
                refine lv_if_ne (tgt := 93) hx hb dX10_measureShape_89 (by decide) (fun hz0 => ?_) (fun hz0 => ?_)
                · have hsz0 : sz ≠ 0 := fun q9 => hz0 (by rw [q9]; rfl)
                  refine lv_aload_n hx hb dX10_measureShape_93 rfl (lv_at hl 8 rfl) ?_
                  refine va_get (D := (dC, dI)) (ci := 10) (v := .ref y13) (C := RX10) (T := TX10) (N := 16) hx hb hts in_c_mshape_X10 hown hK hP 0 rfl rfl 15 (by decide) (hts (.fieldLink RX10 52 "OwnedPlaces$Types" "partOffset" "[I") (wm_c_mshape 16 rfl)) (fun _ h9 => h9) rfl dX10_measureShape_94 ?_
                  refine lv_iload hx hb dX10_measureShape_97 (lv_at hl 0 rfl) ?_
                  refine lv_iload hx hb dX10_measureShape_99 (lv_at hl 1 rfl) ?_
                  refine va_iast hx hb hK hP hD hS 6 0 rfl rfl (vp_in_nI (by omega) (by decide)) dX10_measureShape_101 (fun H locs hP hD hS => ?_)
                  have hP : va_P (dC, dI) vwCl [(y, .inr (10, [.ref y0, .ref y1, .ref y2, .ref y3, .ref y4, .ref y5, .ref y6, .int (nI yt), .int (nI yp), .ref y7, .ref y8, .ref y9, .ref y10, .ref y11, .ref y12, .ref y13])), (y0, .inl (kI, 3040, .inl fk)), (y8, .inl (kI, 30, .inl fv)), (y10, .inl (kI, 360, .inl fpa)), (y2, .inl (kI, 3040, .inl fs)), (y12, .inl (kI, 4320, .inl fpt)), (y13, .inl (kI, 4320, .inl (upd of2 (nI ((a * 12 + i) * 12 + k) : Int32).toNatClampNeg (nI (lyP 0 (a * 12 + i) fs fpt k))))), (y3, .inl (kZ, 3040, .inl fd))] H := hP
                  have hD : va_D A [(y, .inr (10, [.ref y0, .ref y1, .ref y2, .ref y3, .ref y4, .ref y5, .ref y6, .int (nI yt), .int (nI yp), .ref y7, .ref y8, .ref y9, .ref y10, .ref y11, .ref y12, .ref y13])), (y0, .inl (kI, 3040, .inl fk)), (y8, .inl (kI, 30, .inl fv)), (y10, .inl (kI, 360, .inl fpa)), (y2, .inl (kI, 3040, .inl fs)), (y12, .inl (kI, 4320, .inl fpt)), (y13, .inl (kI, 4320, .inl (upd of2 (nI ((a * 12 + i) * 12 + k) : Int32).toNatClampNeg (nI (lyP 0 (a * 12 + i) fs fpt k))))), (y3, .inl (kZ, 3040, .inl fd))] := hD
                  obtain ⟨of3, eof3⟩ : ∃ zZ : Nat → Int32, zZ = upd of2 (nI ((a * 12 + i) * 12 + k) : Int32).toNatClampNeg (nI (lyP 0 (a * 12 + i) fs fpt k)) := ⟨_, rfl⟩
                  rw [← eof3] at hP hD
                  have eo3 : of3 = upd of2 ((a * 12 + i) * 12 + k) (nI (lyP 0 (a * 12 + i) fs fpt k)) := by rw [eof3, nI_clamp (by omega)]
                  refine lv_iload hx hb dX10_measureShape_102 (lv_at hl 1 rfl) ?_
                  refine lv_aload_n hx hb dX10_measureShape_104 rfl (lv_at hl 8 rfl) ?_
                  refine va_get (D := (dC, dI)) (ci := 10) (v := .ref y2) (C := RX10) (T := TX10) (N := 16) hx hb hts in_c_mshape_X10 hown hK hP 0 rfl rfl 2 (by decide) (hts (.fieldLink RX10 18 "OwnedPlaces$Types" "size" "[I") (wm_c_mshape 3 rfl)) (fun _ h9 => h9) rfl dX10_measureShape_105 ?_
                  refine lv_aload_n hx hb dX10_measureShape_108 rfl (lv_at hl 8 rfl) ?_
                  refine va_get (D := (dC, dI)) (ci := 10) (v := .ref y12) (C := RX10) (T := TX10) (N := 16) hx hb hts in_c_mshape_X10 hown hK hP 0 rfl rfl 14 (by decide) (hts (.fieldLink RX10 49 "OwnedPlaces$Types" "partType" "[I") (wm_c_mshape 15 rfl)) (fun _ h9 => h9) rfl dX10_measureShape_109 ?_
                  refine lv_iload hx hb dX10_measureShape_112 (lv_at hl 0 rfl) ?_
                  refine va_iald hx hb hK hP 5 0 rfl rfl (vp_in_nI (by omega) (by decide)) dX10_measureShape_114 ?_
                  refine lv_topi (fun v_11 ev_11 => ?_)
                  have hv_11 : v_11 = fpt ((a * 12 + i) * 12 + k) := ev_11.trans (by rw [nI_clamp (by omega)])
                  obtain rfl : v_11 = nI ty := hv_11.trans htye
                  refine va_iald hx hb hK hP 4 0 rfl rfl (vp_in_nI (by omega) (by decide)) dX10_measureShape_115 ?_
                  refine lv_topi (fun v_12 ev_12 => ?_)
                  have hv_12 : v_12 = fs ty := ev_12.trans (by rw [nI_clamp (by omega)])
                  obtain rfl : v_12 = nI sz := hv_12.trans hsze
                  refine lv_iadd hx hb dX10_measureShape_116 ?_
                  refine lv_topi (fun f_13 ef_13 => ?_)
                  obtain rfl : f_13 = nI (lyP 0 (a * 12 + i) fs fpt k + sz) := ef_13.trans (nI_add _ _)
                  refine lv_bipush (v := 17) hx hb dX10_measureShape_117 (by decide) ?_
                  refine va_mmin hx hb (by rw [hml]; exact hl.1.symm) hown (hts (.methodLink RX10 73 Lib.Math.min.name) (wm_c_mshape 17 rfl)) (hts (.static Lib.Math.min.name) (wm_c_mshape 18 rfl)) (hts (.initialized "java/lang/Math") (wm_c_mshape 13 rfl)) (hts (.code Lib.Math.min.name Lib.Math.min.code 2 (some .int)) (wm_c_mshape 19 rfl)) (Nat.le_of_ble_eq_true rfl) (Nat.le_of_ble_eq_true rfl) (Nat.zero_le _) (Nat.zero_le _) dX10_measureShape_119 ?_
                  refine lv_topi (fun f_14 ef_14 => ?_)
                  obtain rfl : f_14 = nI (lyP 0 (a * 12 + i) fs fpt (k + 1)) := (min_nI (a := lyP 0 (a * 12 + i) fs fpt k + sz) (b := 17) (by omega) (by decide) ef_14).trans (by show nI (min (_ + sz) 17) = nI (min (_ + szP fs fpt ((a * 12 + i) * 12 + k)) 17); rw [hszP])
                  refine lv_istore (lv' := [(8, .int (nI (lyP 0 (a * 12 + i) fs fpt (k + 1)))), (9, .int (nI ((a * 12 + i) * 12 + k))), (7, .int (nI (a * 12 + i))), (6, .int (nI i)), (5, .int (nI dr2)), (4, .int (nI mo)), (3, .int 0), (2, .int (nI (4 + a))), (0, .ref y), (1, .int (nI a))]) hx hb dX10_measureShape_122 hl (by decide) rfl (fun ls hl => ?_)
                  refine lv_iload hx hb dX10_measureShape_124 (lv_at hl 4 rfl) ?_
                  refine lv_if_ne (tgt := 144) hx hb dX10_measureShape_126 (by decide) (fun hdr => ?_) (fun hdr => ?_)
                  · refine lv_iconst (v := 1) hx hb dX10_measureShape_144 (by decide) ?_
                    refine lv_goto (tgt := 149) hx hb dX10_measureShape_145 (by decide) ?_
                    refine lv_istore (lv' := [(5, .int 1), (8, .int (nI (lyP 0 (a * 12 + i) fs fpt (k + 1)))), (9, .int (nI ((a * 12 + i) * 12 + k))), (7, .int (nI (a * 12 + i))), (6, .int (nI i)), (4, .int (nI mo)), (3, .int 0), (2, .int (nI (4 + a))), (0, .ref y), (1, .int (nI a))]) hx hb dX10_measureShape_149 hl (by decide) rfl (fun ls hl => ?_)
                    obtain ⟨x_15, ex_15⟩ : ∃ yY : Int32, yY = (nI ((a * 12 + i) * 12 + k)) + 1 := ⟨_, rfl⟩
                    refine lv_iinc (v := x_15) (lv' := [(9, .int x_15), (5, .int 1), (8, .int (nI (lyP 0 (a * 12 + i) fs fpt (k + 1)))), (7, .int (nI (a * 12 + i))), (6, .int (nI i)), (4, .int (nI mo)), (3, .int 0), (2, .int (nI (4 + a))), (0, .ref y), (1, .int (nI a))]) hx hb dX10_measureShape_151 hl (k := 2) rfl (by rw [ex_15]; rfl) (by decide) rfl (fun ls hl => ?_)
                    obtain rfl : x_15 = nI ((a * 12 + i) * 12 + (k + 1)) := by rw [ex_15]; exact nI_1 _
                    have hl : lv_has ls 10 [(9, .int (nI ((a * 12 + i) * 12 + (k + 1)))), (5, .int (nI 1)), (8, .int (nI (lyP 0 (a * 12 + i) fs fpt (k + 1)))), (7, .int (nI (a * 12 + i))), (6, .int (nI i)), (4, .int (nI mo)), (3, .int 0), (2, .int (nI (4 + a))), (0, .ref y), (1, .int (nI a))] := hl
                    refine lv_goto (tgt := 59) hx hb dX10_measureShape_154 (by decide) ?_
                    exact ih2 (k + 1) 1 of3 _ _ _ (by omega) (by omega) (by rw [eo3]; exact lyD_put hc2 hpI ha (by omega) (by omega)) (by rw [eo3]; exact lyK_put hc3 (by rw [hszP]; exact hsz0)) (by rw [eo3]; exact lyO_put hc4 (by omega) (by omega)) (hP.sub [0, 1, 2, 3, 4, 5, 6, 7] rfl) (hD.sub [0, 1, 2, 3, 4, 5, 6, 7] (by decide) rfl) hS (lv_sub hl [0, 2, 3, 4, 1, 5, 6, 7, 8, 9] rfl)
                  · refine lv_aload_n hx hb dX10_measureShape_129 rfl (lv_at hl 8 rfl) ?_
                    refine va_get (D := (dC, dI)) (ci := 10) (v := .ref y3) (C := RX10) (T := TX10) (N := 16) hx hb hts in_c_mshape_X10 hown hK hP 0 rfl rfl 3 (by decide) (hts (.fieldLink RX10 21 "OwnedPlaces$Types" "drops" "[Z") (wm_c_mshape 4 rfl)) (fun _ h9 => h9) rfl dX10_measureShape_130 ?_
                    refine lv_aload_n hx hb dX10_measureShape_133 rfl (lv_at hl 8 rfl) ?_
                    refine va_get (D := (dC, dI)) (ci := 10) (v := .ref y12) (C := RX10) (T := TX10) (N := 16) hx hb hts in_c_mshape_X10 hown hK hP 0 rfl rfl 14 (by decide) (hts (.fieldLink RX10 49 "OwnedPlaces$Types" "partType" "[I") (wm_c_mshape 15 rfl)) (fun _ h9 => h9) rfl dX10_measureShape_134 ?_
                    refine lv_iload hx hb dX10_measureShape_137 (lv_at hl 1 rfl) ?_
                    refine va_iald hx hb hK hP 5 0 rfl rfl (vp_in_nI (by omega) (by decide)) dX10_measureShape_139 ?_
                    refine lv_topi (fun v_15 ev_15 => ?_)
                    have hv_15 : v_15 = fpt ((a * 12 + i) * 12 + k) := ev_15.trans (by rw [nI_clamp (by omega)])
                    obtain rfl : v_15 = nI ty := hv_15.trans htye
                    refine va_zald hx hb hK hP 7 1 rfl rfl (vp_in_nI (by omega) (by decide)) dX10_measureShape_140 ?_
                    refine lv_topi (fun v_16 ev_16 => ?_)
                    refine lv_if_eq (tgt := 148) hx hb dX10_measureShape_141 (by decide) (fun hdq => ?_) (fun hdq => ?_)
                    · refine lv_iconst (v := 0) hx hb dX10_measureShape_148 (by decide) ?_
                      refine lv_istore (lv' := [(5, .int 0), (8, .int (nI (lyP 0 (a * 12 + i) fs fpt (k + 1)))), (9, .int (nI ((a * 12 + i) * 12 + k))), (7, .int (nI (a * 12 + i))), (6, .int (nI i)), (4, .int (nI mo)), (3, .int 0), (2, .int (nI (4 + a))), (0, .ref y), (1, .int (nI a))]) hx hb dX10_measureShape_149 hl (by decide) rfl (fun ls hl => ?_)
                      obtain ⟨x_17, ex_17⟩ : ∃ yY : Int32, yY = (nI ((a * 12 + i) * 12 + k)) + 1 := ⟨_, rfl⟩
                      refine lv_iinc (v := x_17) (lv' := [(9, .int x_17), (5, .int 0), (8, .int (nI (lyP 0 (a * 12 + i) fs fpt (k + 1)))), (7, .int (nI (a * 12 + i))), (6, .int (nI i)), (4, .int (nI mo)), (3, .int 0), (2, .int (nI (4 + a))), (0, .ref y), (1, .int (nI a))]) hx hb dX10_measureShape_151 hl (k := 2) rfl (by rw [ex_17]; rfl) (by decide) rfl (fun ls hl => ?_)
                      obtain rfl : x_17 = nI ((a * 12 + i) * 12 + (k + 1)) := by rw [ex_17]; exact nI_1 _
                      have hl : lv_has ls 10 [(9, .int (nI ((a * 12 + i) * 12 + (k + 1)))), (5, .int (nI 0)), (8, .int (nI (lyP 0 (a * 12 + i) fs fpt (k + 1)))), (7, .int (nI (a * 12 + i))), (6, .int (nI i)), (4, .int (nI mo)), (3, .int 0), (2, .int (nI (4 + a))), (0, .ref y), (1, .int (nI a))] := hl
                      refine lv_goto (tgt := 59) hx hb dX10_measureShape_154 (by decide) ?_
                      exact ih2 (k + 1) 0 of3 _ _ _ (by omega) (by omega) (by rw [eo3]; exact lyD_put hc2 hpI ha (by omega) (by omega)) (by rw [eo3]; exact lyK_put hc3 (by rw [hszP]; exact hsz0)) (by rw [eo3]; exact lyO_put hc4 (by omega) (by omega)) (hP.sub [0, 1, 2, 3, 4, 5, 6, 7] rfl) (hD.sub [0, 1, 2, 3, 4, 5, 6, 7] (by decide) rfl) hS (lv_sub hl [0, 2, 3, 4, 1, 5, 6, 7, 8, 9] rfl)
                    · refine lv_iconst (v := 1) hx hb dX10_measureShape_144 (by decide) ?_
                      refine lv_goto (tgt := 149) hx hb dX10_measureShape_145 (by decide) ?_
                      refine lv_istore (lv' := [(5, .int 1), (8, .int (nI (lyP 0 (a * 12 + i) fs fpt (k + 1)))), (9, .int (nI ((a * 12 + i) * 12 + k))), (7, .int (nI (a * 12 + i))), (6, .int (nI i)), (4, .int (nI mo)), (3, .int 0), (2, .int (nI (4 + a))), (0, .ref y), (1, .int (nI a))]) hx hb dX10_measureShape_149 hl (by decide) rfl (fun ls hl => ?_)
                      obtain ⟨x_17, ex_17⟩ : ∃ yY : Int32, yY = (nI ((a * 12 + i) * 12 + k)) + 1 := ⟨_, rfl⟩
                      refine lv_iinc (v := x_17) (lv' := [(9, .int x_17), (5, .int 1), (8, .int (nI (lyP 0 (a * 12 + i) fs fpt (k + 1)))), (7, .int (nI (a * 12 + i))), (6, .int (nI i)), (4, .int (nI mo)), (3, .int 0), (2, .int (nI (4 + a))), (0, .ref y), (1, .int (nI a))]) hx hb dX10_measureShape_151 hl (k := 2) rfl (by rw [ex_17]; rfl) (by decide) rfl (fun ls hl => ?_)
                      obtain rfl : x_17 = nI ((a * 12 + i) * 12 + (k + 1)) := by rw [ex_17]; exact nI_1 _
                      have hl : lv_has ls 10 [(9, .int (nI ((a * 12 + i) * 12 + (k + 1)))), (5, .int (nI 1)), (8, .int (nI (lyP 0 (a * 12 + i) fs fpt (k + 1)))), (7, .int (nI (a * 12 + i))), (6, .int (nI i)), (4, .int (nI mo)), (3, .int 0), (2, .int (nI (4 + a))), (0, .ref y), (1, .int (nI a))] := hl
                      refine lv_goto (tgt := 59) hx hb dX10_measureShape_154 (by decide) ?_
                      exact ih2 (k + 1) 1 of3 _ _ _ (by omega) (by omega) (by rw [eo3]; exact lyD_put hc2 hpI ha (by omega) (by omega)) (by rw [eo3]; exact lyK_put hc3 (by rw [hszP]; exact hsz0)) (by rw [eo3]; exact lyO_put hc4 (by omega) (by omega)) (hP.sub [0, 1, 2, 3, 4, 5, 6, 7] rfl) (hD.sub [0, 1, 2, 3, 4, 5, 6, 7] (by decide) rfl) hS (lv_sub hl [0, 2, 3, 4, 1, 5, 6, 7, 8, 9] rfl)
                · have hP9 := hP.sub (ws' := [(y, .inr (10, [.ref y0, .ref y1, .ref y2, .ref y3, .ref y4, .ref y5, .ref y6, .int (nI yt), .int (nI yp), .ref y7, .ref y8, .ref y9, .ref y10, .ref y11, .ref y12, .ref y13])), (y0, .inl (kI, 3040, .inl fk)), (y8, .inl (kI, 30, .inl fv)), (y10, .inl (kI, 360, .inl fpa)), (y2, .inl (kI, 3040, .inl fs)), (y12, .inl (kI, 4320, .inl fpt)), (y13, .inl (kI, 4320, .inl of2)), (y3, .inl (kZ, 3040, .inl fd))]) [0, 1, 2, 3, 4, 5, 6, 7] rfl
                  have hD9 := hD.sub (ws' := [(y, .inr (10, [.ref y0, .ref y1, .ref y2, .ref y3, .ref y4, .ref y5, .ref y6, .int (nI yt), .int (nI yp), .ref y7, .ref y8, .ref y9, .ref y10, .ref y11, .ref y12, .ref y13])), (y0, .inl (kI, 3040, .inl fk)), (y8, .inl (kI, 30, .inl fv)), (y10, .inl (kI, 360, .inl fpa)), (y2, .inl (kI, 3040, .inl fs)), (y12, .inl (kI, 4320, .inl fpt)), (y13, .inl (kI, 4320, .inl of2)), (y3, .inl (kZ, 3040, .inl fd))]) [0, 1, 2, 3, 4, 5, 6, 7] (by decide) rfl
                  have hK9 := hK.sub (tys' := [(kI, .int), (kZ, .boolean)]) [0, 1] rfl
                  subst hQ2
                  subst hQ1
                  exact W.vret hx hb hr (fun tS ht hW => ⟨⟨(), rfl, trivial, fs, of2, fd, hc4, Or.inl rfl, by rw [ht]; exact hP9, va_K.moved hW.alike hK9, hD9⟩, hS.F ht⟩) hS.2.2 dX10_measureShape_92
          exact key2 (pc + 1) 0 dr of1 _ _ _ (by omega) (by omega) hb2 (fun j hj => absurd hj (by omega)) hb3 (hP.sub [7, 0, 1, 2, 3, 4, 5, 6] rfl) (hD.sub [7, 0, 1, 2, 3, 4, 5, 6] (by decide) rfl) hS (lv_sub hl [0, 1, 2, 3, 4, 5, 6, 7, 8, 9] rfl)
    exact key1 (vc + 1) 0 0 0 fof _ _ _ (by omega) (by omega) (fun j hj => absurd hj (by omega)) (fun _ _ => rfl) (hP.sub [0, 1, 2, 3, 4, 5, 6, 7] rfl) (hD.sub [0, 1, 2, 3, 4, 5, 6, 7] (by decide) rfl) hS (lv_sub hl [0, 1, 2, 3, 4, 5, 6] rfl)
  · refine lv_iconst (v := 1) hx hb dX10_measureShape_14 (by decide) ?_
    refine lv_goto (tgt := 19) hx hb dX10_measureShape_15 (by decide) ?_
    have hhd : (if fk (4 + a) = 3 then 1 else 0) = 1 := if_pos (hv_2.symm.trans hk3)
    refine lv_istore_n (lv' := [(3, .int 1), (2, .int (nI (4 + a))), (0, .ref y), (1, .int (nI a))]) hx hb dX10_measureShape_19 rfl hl (by decide) rfl (fun ls hl => ?_)
    refine lv_iconst (v := 0) hx hb dX10_measureShape_20 (by decide) ?_
    refine lv_istore (lv' := [(4, .int 0), (3, .int 1), (2, .int (nI (4 + a))), (0, .ref y), (1, .int (nI a))]) hx hb dX10_measureShape_21 hl (by decide) rfl (fun ls hl => ?_)
    refine lv_iconst (v := 0) hx hb dX10_measureShape_23 (by decide) ?_
    refine lv_istore (lv' := [(5, .int 0), (4, .int 0), (3, .int 1), (2, .int (nI (4 + a))), (0, .ref y), (1, .int (nI a))]) hx hb dX10_measureShape_24 hl (by decide) rfl (fun ls hl => ?_)
    refine lv_iconst (v := 0) hx hb dX10_measureShape_26 (by decide) ?_
    refine lv_istore (lv' := [(6, .int 0), (5, .int 0), (4, .int 0), (3, .int 1), (2, .int (nI (4 + a))), (0, .ref y), (1, .int (nI a))]) hx hb dX10_measureShape_27 hl (by decide) rfl (fun ls hl => ?_)
    refine W_q (fun Q1 hQ1 => ?_)
    have key1 : ∀ (n1 : Nat) (i dr mo : Nat) (of1 : Nat → Int32) (H : Heap) (locs : List Loc) (ls : Array Slot), (i + n1 = vc + 1 ∧ i ≤ vc) → (dr ≤ 1 ∧ mo ≤ 17) → (lyD 1 a i mo fs fpt fpa of1) → (lyO a fof of1) → va_P (dC, dI) vwCl [(y, .inr (10, [.ref y0, .ref y1, .ref y2, .ref y3, .ref y4, .ref y5, .ref y6, .int (nI yt), .int (nI yp), .ref y7, .ref y8, .ref y9, .ref y10, .ref y11, .ref y12, .ref y13])), (y0, .inl (kI, 3040, .inl fk)), (y8, .inl (kI, 30, .inl fv)), (y10, .inl (kI, 360, .inl fpa)), (y2, .inl (kI, 3040, .inl fs)), (y12, .inl (kI, 4320, .inl fpt)), (y13, .inl (kI, 4320, .inl of1)), (y3, .inl (kZ, 3040, .inl fd))] H → va_D A [(y, .inr (10, [.ref y0, .ref y1, .ref y2, .ref y3, .ref y4, .ref y5, .ref y6, .int (nI yt), .int (nI yp), .ref y7, .ref y8, .ref y9, .ref y10, .ref y11, .ref y12, .ref y13])), (y0, .inl (kI, 3040, .inl fk)), (y8, .inl (kI, 30, .inl fv)), (y10, .inl (kI, 360, .inl fpa)), (y2, .inl (kI, 3040, .inl fs)), (y12, .inl (kI, 4320, .inl fpt)), (y13, .inl (kI, 4320, .inl of1)), (y3, .inl (kZ, 3040, .inl fd))] → va_S A s.heap H locs → lv_has ls 10 [(6, .int (nI i)), (5, .int (nI dr)), (4, .int (nI mo)), (3, .int 1), (2, .int (nI (4 + a))), (0, .ref y), (1, .int (nI a))] → W p l e (headSpec wp_c_mshape ({ frames := 1, cells := 0, slots := 0, locals := 22 })).room s m ([.ref y, .int (nI a)] : List Value).toArray below meth c H locs 0 0 Q1 (F0 m 29 ls []) := by
      intro n1
      induction n1 with
      | zero => intro i dr mo of1 H locs ls hb0 hb1 hb2 hb3; exact absurd hb0 (by omega)
      | succ n1 ih1 =>
        intro i dr mo of1 H locs ls hb0 hb1 hb2 hb3 hP hD hS hl
        refine lv_iload hx hb dX10_measureShape_29 (lv_at hl 0 rfl) ?_
        refine lv_aload_n hx hb dX10_measureShape_31 rfl (lv_at hl 5 rfl) ?_
        refine va_get (D := (dC, dI)) (ci := 10) (v := .ref y8) (C := RX10) (T := TX10) (N := 16) hx hb hts in_c_mshape_X10 hown hK hP 0 rfl rfl 10 (by decide) (hts (.fieldLink RX10 37 "OwnedPlaces$Types" "variants" "[I") (wm_c_mshape 2 rfl)) (fun _ h9 => h9) rfl dX10_measureShape_32 ?_
        refine lv_iload_n hx hb dX10_measureShape_35 rfl (lv_at hl 6 rfl) ?_
        refine va_iald hx hb hK hP 2 0 rfl rfl (vp_in_nI (by omega) (by decide)) dX10_measureShape_36 ?_
        refine lv_topi (fun v_3 ev_3 => ?_)
        have hv_3 : v_3 = fv a := ev_3.trans (by rw [nI_clamp (by omega)])
        obtain rfl : v_3 = nI vc := hv_3.trans hvce
        refine lv_icmp_ge (tgt := 172) hx hb dX10_measureShape_37 (by decide) (fun hc => ?_) (fun hc => ?_)
        · have hiv : i = vc := by have := (nI_leI (a := vc) (b := i) (by omega) (by omega)).mp hc; omega
          refine lv_aload_n hx hb dX10_measureShape_172 rfl (lv_at hl 5 rfl) ?_
          refine va_get (D := (dC, dI)) (ci := 10) (v := .ref y2) (C := RX10) (T := TX10) (N := 16) hx hb hts in_c_mshape_X10 hown hK hP 0 rfl rfl 2 (by decide) (hts (.fieldLink RX10 18 "OwnedPlaces$Types" "size" "[I") (wm_c_mshape 3 rfl)) (fun _ h9 => h9) rfl dX10_measureShape_173 ?_
          refine lv_iload_n hx hb dX10_measureShape_176 rfl (lv_at hl 4 rfl) ?_
          refine lv_iload hx hb dX10_measureShape_177 (lv_at hl 2 rfl) ?_
          refine va_iast hx hb hK hP hD hS 4 0 rfl rfl (vp_in_nI (by omega) (by decide)) dX10_measureShape_179 (fun H locs hP hD hS => ?_)
          have hP : va_P (dC, dI) vwCl [(y, .inr (10, [.ref y0, .ref y1, .ref y2, .ref y3, .ref y4, .ref y5, .ref y6, .int (nI yt), .int (nI yp), .ref y7, .ref y8, .ref y9, .ref y10, .ref y11, .ref y12, .ref y13])), (y0, .inl (kI, 3040, .inl fk)), (y8, .inl (kI, 30, .inl fv)), (y10, .inl (kI, 360, .inl fpa)), (y2, .inl (kI, 3040, .inl (upd fs (nI (4 + a) : Int32).toNatClampNeg (nI mo)))), (y12, .inl (kI, 4320, .inl fpt)), (y13, .inl (kI, 4320, .inl of1)), (y3, .inl (kZ, 3040, .inl fd))] H := hP
          have hD : va_D A [(y, .inr (10, [.ref y0, .ref y1, .ref y2, .ref y3, .ref y4, .ref y5, .ref y6, .int (nI yt), .int (nI yp), .ref y7, .ref y8, .ref y9, .ref y10, .ref y11, .ref y12, .ref y13])), (y0, .inl (kI, 3040, .inl fk)), (y8, .inl (kI, 30, .inl fv)), (y10, .inl (kI, 360, .inl fpa)), (y2, .inl (kI, 3040, .inl (upd fs (nI (4 + a) : Int32).toNatClampNeg (nI mo)))), (y12, .inl (kI, 4320, .inl fpt)), (y13, .inl (kI, 4320, .inl of1)), (y3, .inl (kZ, 3040, .inl fd))] := hD
          obtain ⟨gs1, egs1⟩ : ∃ zZ : Nat → Int32, zZ = upd fs (nI (4 + a) : Int32).toNatClampNeg (nI mo) := ⟨_, rfl⟩
          rw [← egs1] at hP hD
          refine lv_aload_n hx hb dX10_measureShape_180 rfl (lv_at hl 5 rfl) ?_
          refine va_get (D := (dC, dI)) (ci := 10) (v := .ref y3) (C := RX10) (T := TX10) (N := 16) hx hb hts in_c_mshape_X10 hown hK hP 0 rfl rfl 3 (by decide) (hts (.fieldLink RX10 21 "OwnedPlaces$Types" "drops" "[Z") (wm_c_mshape 4 rfl)) (fun _ h9 => h9) rfl dX10_measureShape_181 ?_
          refine lv_iload_n hx hb dX10_measureShape_184 rfl (lv_at hl 4 rfl) ?_
          refine lv_iload hx hb dX10_measureShape_185 (lv_at hl 1 rfl) ?_
          refine va_zast hx hb hK hP hD hS 7 1 rfl rfl (vp_in_nI (by omega) (by decide)) dX10_measureShape_187 (fun H locs hP hD hS => ?_)
          have hP : va_P (dC, dI) vwCl [(y, .inr (10, [.ref y0, .ref y1, .ref y2, .ref y3, .ref y4, .ref y5, .ref y6, .int (nI yt), .int (nI yp), .ref y7, .ref y8, .ref y9, .ref y10, .ref y11, .ref y12, .ref y13])), (y0, .inl (kI, 3040, .inl fk)), (y8, .inl (kI, 30, .inl fv)), (y10, .inl (kI, 360, .inl fpa)), (y2, .inl (kI, 3040, .inl gs1)), (y12, .inl (kI, 4320, .inl fpt)), (y13, .inl (kI, 4320, .inl of1)), (y3, .inl (kZ, 3040, .inl (upd fd (nI (4 + a) : Int32).toNatClampNeg (vp_nar .boolean (nI dr)))))] H := hP
          have hD : va_D A [(y, .inr (10, [.ref y0, .ref y1, .ref y2, .ref y3, .ref y4, .ref y5, .ref y6, .int (nI yt), .int (nI yp), .ref y7, .ref y8, .ref y9, .ref y10, .ref y11, .ref y12, .ref y13])), (y0, .inl (kI, 3040, .inl fk)), (y8, .inl (kI, 30, .inl fv)), (y10, .inl (kI, 360, .inl fpa)), (y2, .inl (kI, 3040, .inl gs1)), (y12, .inl (kI, 4320, .inl fpt)), (y13, .inl (kI, 4320, .inl of1)), (y3, .inl (kZ, 3040, .inl (upd fd (nI (4 + a) : Int32).toNatClampNeg (vp_nar .boolean (nI dr)))))] := hD
          obtain ⟨gd1, egd1⟩ : ∃ zZ : Nat → Int32, zZ = upd fd (nI (4 + a) : Int32).toNatClampNeg (vp_nar .boolean (nI dr)) := ⟨_, rfl⟩
          rw [← egd1] at hP hD
          have hP9 := hP.sub (ws' := [(y, .inr (10, [.ref y0, .ref y1, .ref y2, .ref y3, .ref y4, .ref y5, .ref y6, .int (nI yt), .int (nI yp), .ref y7, .ref y8, .ref y9, .ref y10, .ref y11, .ref y12, .ref y13])), (y0, .inl (kI, 3040, .inl fk)), (y8, .inl (kI, 30, .inl fv)), (y10, .inl (kI, 360, .inl fpa)), (y2, .inl (kI, 3040, .inl gs1)), (y12, .inl (kI, 4320, .inl fpt)), (y13, .inl (kI, 4320, .inl of1)), (y3, .inl (kZ, 3040, .inl gd1))]) [0, 1, 2, 3, 4, 5, 6, 7] rfl
          have hD9 := hD.sub (ws' := [(y, .inr (10, [.ref y0, .ref y1, .ref y2, .ref y3, .ref y4, .ref y5, .ref y6, .int (nI yt), .int (nI yp), .ref y7, .ref y8, .ref y9, .ref y10, .ref y11, .ref y12, .ref y13])), (y0, .inl (kI, 3040, .inl fk)), (y8, .inl (kI, 30, .inl fv)), (y10, .inl (kI, 360, .inl fpa)), (y2, .inl (kI, 3040, .inl gs1)), (y12, .inl (kI, 4320, .inl fpt)), (y13, .inl (kI, 4320, .inl of1)), (y3, .inl (kZ, 3040, .inl gd1))]) [0, 1, 2, 3, 4, 5, 6, 7] (by decide) rfl
          have hK9 := hK.sub (tys' := [(kI, .int), (kZ, .boolean)]) [0, 1] rfl
          subst hQ1
          exact W.vret hx hb hr (fun tS ht hW => ⟨⟨(), rfl, trivial, gs1, of1, gd1, hb3, Or.inr ⟨mo, by omega, by rw [egs1, nI_clamp (by omega)], by rw [hhd, hpv, ← hiv]; exact hb2⟩, by rw [ht]; exact hP9, va_K.moved hW.alike hK9, hD9⟩, hS.F ht⟩) hS.2.2 dX10_measureShape_188
        · have hi : i < vc := by rcases Nat.lt_or_ge i vc with z9 | z9; exact z9; exact absurd (nI_le z9 (by omega)) hc
          obtain ⟨pc, hpc, hpce⟩ := hpI (a * 12 + i) (by omega)
          have hpp : pcR fpa (a * 12 + i) = pc := by unfold pcR; rw [hpce]; exact nI_clamp (by omega)
          refine lv_aload_n hx hb dX10_measureShape_40 rfl (lv_at hl 5 rfl) ?_
          refine lv_iload_n hx hb dX10_measureShape_41 rfl (lv_at hl 6 rfl) ?_
          refine lv_iload hx hb dX10_measureShape_42 (lv_at hl 0 rfl) ?_
          have hPc := hP.sub (ws' := [(y, .inr (10, [.ref y0, .ref y1, .ref y2, .ref y3, .ref y4, .ref y5, .ref y6, .int (nI yt), .int (nI yp), .ref y7, .ref y8, .ref y9, .ref y10, .ref y11, .ref y12, .ref y13]))]) [0] rfl
          have hDc := hD.sub (ws' := [(y, .inr (10, [.ref y0, .ref y1, .ref y2, .ref y3, .ref y4, .ref y5, .ref y6, .int (nI yt), .int (nI yp), .ref y7, .ref y8, .ref y9, .ref y10, .ref y11, .ref y12, .ref y13]))]) [0] (by decide) rfl
          have hKc := hK.sub (tys' := []) [] rfl
          have hFc := va_free (wc := [(y, .inr (10, [.ref y0, .ref y1, .ref y2, .ref y3, .ref y4, .ref y5, .ref y6, .int (nI yt), .int (nI yp), .ref y7, .ref y8, .ref y9, .ref y10, .ref y11, .ref y12, .ref y13]))]) hD hS hA [0] rfl
          refine va_calli (va_runV (As := [.int (nI a), .int (nI i)]) (rest := []) ⟨hx, hb, hml, hown, hts⟩ (c_rowOf l dC dI y y0 y1 y2 y3 y4 y5 y6 y7 y8 y9 y10 y11 y12 y13 yt yp a i H.size) (cwV 2 hts g_c_mshape_c_rowOf_44 rfl rfl rfl (by decide +kernel) ⟨Nat.le_of_ble_eq_true rfl, Nat.le_of_ble_eq_true rfl⟩) ⟨fun a U g mk q => by obtain ⟨q0, q1, qP, qK, qD⟩ := q; exact ⟨q0, q1, qP, va_K.moved (u := U) (U := U.calling g mk a) (Vm.Alike.refl U.vm) qK, qD⟩, va_recv hKc hPc (ci := 10) (q0 := 0) rfl rfl, fun U hU hW => ⟨rfl, by rw [hU], by rw [hU]; exact hPc, va_K.moved hW.alike hKc, hDc.weaken (fun _ _ _ _ => trivial)⟩⟩ rfl rfl hl.1 rfl (lv_room (Nat.le_of_ble_eq_true rfl)) dX10_measureShape_44 ⟨(show 0 + 0 ≤ 0 by omega), (show 0 + 0 ≤ 0 by omega)⟩) hS (fun q _ h => hFc q h) hFc (fun r_4 u tS H1 locs ht hvm hw hB hz1 hk1 hS => ?_)
          obtain ⟨hP1, hK1, hD1⟩ := hB
          rw [ht] at hP1
          have hK1 := va_K.moved hvm.symm hK1
          obtain ⟨hP, hD⟩ := va_join (wr := [(y0, .inl (kI, 3040, .inl fk)), (y8, .inl (kI, 30, .inl fv)), (y10, .inl (kI, 360, .inl fpa)), (y2, .inl (kI, 3040, .inl fs)), (y12, .inl (kI, 4320, .inl fpt)), (y13, .inl (kI, 4320, .inl of1)), (y3, .inl (kZ, 3040, .inl fd))]) (w1 := [(y, .inr (10, [.ref y0, .ref y1, .ref y2, .ref y3, .ref y4, .ref y5, .ref y6, .int (nI yt), .int (nI yp), .ref y7, .ref y8, .ref y9, .ref y10, .ref y11, .ref y12, .ref y13]))]) hP hD [0] [1, 2, 3, 4, 5, 6, 7] rfl rfl (by decide) (by decide) hk1 hFc hP1 hD1
          generalize H1 = H at hP hS ⊢
          have hP : va_P (dC, dI) vwCl [(y0, .inl (kI, 3040, .inl fk)), (y8, .inl (kI, 30, .inl fv)), (y10, .inl (kI, 360, .inl fpa)), (y2, .inl (kI, 3040, .inl fs)), (y12, .inl (kI, 4320, .inl fpt)), (y13, .inl (kI, 4320, .inl of1)), (y3, .inl (kZ, 3040, .inl fd)), (y, .inr (10, [.ref y0, .ref y1, .ref y2, .ref y3, .ref y4, .ref y5, .ref y6, .int (nI yt), .int (nI yp), .ref y7, .ref y8, .ref y9, .ref y10, .ref y11, .ref y12, .ref y13]))] H := hP
          have hD : va_D A [(y0, .inl (kI, 3040, .inl fk)), (y8, .inl (kI, 30, .inl fv)), (y10, .inl (kI, 360, .inl fpa)), (y2, .inl (kI, 3040, .inl fs)), (y12, .inl (kI, 4320, .inl fpt)), (y13, .inl (kI, 4320, .inl of1)), (y3, .inl (kZ, 3040, .inl fd)), (y, .inr (10, [.ref y0, .ref y1, .ref y2, .ref y3, .ref y4, .ref y5, .ref y6, .int (nI yt), .int (nI yp), .ref y7, .ref y8, .ref y9, .ref y10, .ref y11, .ref y12, .ref y13]))] := hD
          have hK : va_K (dC, dI) vwCl [(kI, .int), (kZ, .boolean)] s := hK
          obtain rfl : r_4 = nI (a * 12 + i) := hw
          refine lv_istore (lv' := [(7, .int (nI (a * 12 + i))), (6, .int (nI i)), (5, .int (nI dr)), (4, .int (nI mo)), (3, .int 1), (2, .int (nI (4 + a))), (0, .ref y), (1, .int (nI a))]) hx hb dX10_measureShape_47 hl (by decide) rfl (fun ls hl => ?_)
          refine lv_iload_n hx hb dX10_measureShape_49 rfl (lv_at hl 4 rfl) ?_
          refine lv_istore (lv' := [(8, .int 1), (7, .int (nI (a * 12 + i))), (6, .int (nI i)), (5, .int (nI dr)), (4, .int (nI mo)), (3, .int 1), (2, .int (nI (4 + a))), (0, .ref y), (1, .int (nI a))]) hx hb dX10_measureShape_50 hl (by decide) rfl (fun ls hl => ?_)
          refine lv_iload hx hb dX10_measureShape_52 (lv_at hl 1 rfl) ?_
          refine lv_bipush (v := 12) hx hb dX10_measureShape_54 (by decide) ?_
          refine lv_imul hx hb dX10_measureShape_56 ?_
          refine lv_topi (fun f_5 ef_5 => ?_)
          obtain rfl : f_5 = nI ((a * 12 + i) * 12) := ef_5.trans (pk_mul (a * 12 + i) 12)
          refine lv_istore (lv' := [(9, .int (nI ((a * 12 + i) * 12))), (8, .int 1), (7, .int (nI (a * 12 + i))), (6, .int (nI i)), (5, .int (nI dr)), (4, .int (nI mo)), (3, .int 1), (2, .int (nI (4 + a))), (0, .ref y), (1, .int (nI a))]) hx hb dX10_measureShape_57 hl (by decide) rfl (fun ls hl => ?_)
          have hl : lv_has ls 10 [(9, .int (nI ((a * 12 + i) * 12 + 0))), (8, .int (nI (lyP 1 (a * 12 + i) fs fpt 0))), (7, .int (nI (a * 12 + i))), (6, .int (nI i)), (5, .int (nI dr)), (4, .int (nI mo)), (3, .int 1), (2, .int (nI (4 + a))), (0, .ref y), (1, .int (nI a))] := hl
          refine W_q (fun Q2 hQ2 => ?_)
          have key2 : ∀ (n2 : Nat) (k dr2 : Nat) (of2 : Nat → Int32) (H : Heap) (locs : List Loc) (ls : Array Slot), (k + n2 = pc + 1 ∧ k ≤ pc) → (dr2 ≤ 1) → (lyD 1 a i mo fs fpt fpa of2) → (lyK 1 (a * 12 + i) k fs fpt of2) → (lyO a fof of2) → va_P (dC, dI) vwCl [(y, .inr (10, [.ref y0, .ref y1, .ref y2, .ref y3, .ref y4, .ref y5, .ref y6, .int (nI yt), .int (nI yp), .ref y7, .ref y8, .ref y9, .ref y10, .ref y11, .ref y12, .ref y13])), (y0, .inl (kI, 3040, .inl fk)), (y8, .inl (kI, 30, .inl fv)), (y10, .inl (kI, 360, .inl fpa)), (y2, .inl (kI, 3040, .inl fs)), (y12, .inl (kI, 4320, .inl fpt)), (y13, .inl (kI, 4320, .inl of2)), (y3, .inl (kZ, 3040, .inl fd))] H → va_D A [(y, .inr (10, [.ref y0, .ref y1, .ref y2, .ref y3, .ref y4, .ref y5, .ref y6, .int (nI yt), .int (nI yp), .ref y7, .ref y8, .ref y9, .ref y10, .ref y11, .ref y12, .ref y13])), (y0, .inl (kI, 3040, .inl fk)), (y8, .inl (kI, 30, .inl fv)), (y10, .inl (kI, 360, .inl fpa)), (y2, .inl (kI, 3040, .inl fs)), (y12, .inl (kI, 4320, .inl fpt)), (y13, .inl (kI, 4320, .inl of2)), (y3, .inl (kZ, 3040, .inl fd))] → va_S A s.heap H locs → lv_has ls 10 [(9, .int (nI ((a * 12 + i) * 12 + k))), (8, .int (nI (lyP 1 (a * 12 + i) fs fpt k))), (7, .int (nI (a * 12 + i))), (6, .int (nI i)), (5, .int (nI dr2)), (4, .int (nI mo)), (3, .int 1), (2, .int (nI (4 + a))), (0, .ref y), (1, .int (nI a))] → W p l e (headSpec wp_c_mshape ({ frames := 1, cells := 0, slots := 0, locals := 22 })).room s m ([.ref y, .int (nI a)] : List Value).toArray below meth c H locs 0 0 Q2 (F0 m 59 ls []) := by
            intro n2
            induction n2 with
            | zero => intro k dr2 of2 H locs ls hc0 hc1 hc2 hc3 hc4; exact absurd hc0 (by omega)
            | succ n2 ih2 =>
              intro k dr2 of2 H locs ls hc0 hc1 hc2 hc3 hc4 hP hD hS hl
              have hly := lyP_le (hd := 1) (r := a * 12 + i) (fs := fs) (fpt := fpt) (by decide) k
              refine lv_iload hx hb dX10_measureShape_59 (lv_at hl 0 rfl) ?_
              refine lv_iload hx hb dX10_measureShape_61 (lv_at hl 2 rfl) ?_
              refine lv_bipush (v := 12) hx hb dX10_measureShape_63 (by decide) ?_
              refine lv_imul hx hb dX10_measureShape_65 ?_
              refine lv_topi (fun f_6 ef_6 => ?_)
              obtain rfl : f_6 = nI ((a * 12 + i) * 12) := ef_6.trans (pk_mul (a * 12 + i) 12)
              refine lv_aload_n hx hb dX10_measureShape_66 rfl (lv_at hl 8 rfl) ?_
              refine va_get (D := (dC, dI)) (ci := 10) (v := .ref y10) (C := RX10) (T := TX10) (N := 16) hx hb hts in_c_mshape_X10 hown hK hP 0 rfl rfl 12 (by decide) (hts (.fieldLink RX10 43 "OwnedPlaces$Types" "parts" "[I") (wm_c_mshape 10 rfl)) (fun _ h9 => h9) rfl dX10_measureShape_67 ?_
              refine lv_iload hx hb dX10_measureShape_70 (lv_at hl 2 rfl) ?_
              refine va_iald hx hb hK hP 3 0 rfl rfl (vp_in_nI (by omega) (by decide)) dX10_measureShape_72 ?_
              refine lv_topi (fun v_7 ev_7 => ?_)
              have hv_7 : v_7 = fpa (a * 12 + i) := ev_7.trans (by rw [nI_clamp (by omega)])
              obtain rfl : v_7 = nI pc := hv_7.trans hpce
              refine lv_iadd hx hb dX10_measureShape_73 ?_
              refine lv_topi (fun f_8 ef_8 => ?_)
              obtain rfl : f_8 = nI ((a * 12 + i) * 12 + pc) := ef_8.trans (nI_add _ _)
              refine lv_icmp_ge (tgt := 157) hx hb dX10_measureShape_74 (by decide) (fun hd => ?_) (fun hd => ?_)
              · have hkp : k = pc := by have := (nI_leI (a := (a * 12 + i) * 12 + pc) (b := (a * 12 + i) * 12 + k) (by omega) (by omega)).mp hd; omega
                refine lv_iload hx hb dX10_measureShape_157 (lv_at hl 5 rfl) ?_
                refine lv_iload hx hb dX10_measureShape_159 (lv_at hl 1 rfl) ?_
                refine va_mmax hx hb (by rw [hml]; exact hl.1.symm) hown (hts (.methodLink RX10 78 Lib.Math.max.name) (wm_c_mshape 11 rfl)) (hts (.static Lib.Math.max.name) (wm_c_mshape 12 rfl)) (hts (.initialized "java/lang/Math") (wm_c_mshape 13 rfl)) (hts (.code Lib.Math.max.name Lib.Math.max.code 2 (some .int)) (wm_c_mshape 14 rfl)) (Nat.le_of_ble_eq_true rfl) (Nat.le_of_ble_eq_true rfl) (Nat.zero_le _) (Nat.zero_le _) dX10_measureShape_161 ?_
                refine lv_topi (fun f_9 ef_9 => ?_)
                obtain rfl : f_9 = nI (max mo (lyP 1 (a * 12 + i) fs fpt k)) := max_nI (a := mo) (b := lyP 1 (a * 12 + i) fs fpt k) (by omega) (by omega) ef_9
                refine lv_istore (lv' := [(4, .int (nI (max mo (lyP 1 (a * 12 + i) fs fpt k)))), (9, .int (nI ((a * 12 + i) * 12 + k))), (8, .int (nI (lyP 1 (a * 12 + i) fs fpt k))), (7, .int (nI (a * 12 + i))), (6, .int (nI i)), (5, .int (nI dr2)), (3, .int 1), (2, .int (nI (4 + a))), (0, .ref y), (1, .int (nI a))]) hx hb dX10_measureShape_164 hl (by decide) rfl (fun ls hl => ?_)
                obtain ⟨x_10, ex_10⟩ : ∃ yY : Int32, yY = (nI i) + 1 := ⟨_, rfl⟩
                refine lv_iinc (v := x_10) (lv' := [(6, .int x_10), (4, .int (nI (max mo (lyP 1 (a * 12 + i) fs fpt k)))), (9, .int (nI ((a * 12 + i) * 12 + k))), (8, .int (nI (lyP 1 (a * 12 + i) fs fpt k))), (7, .int (nI (a * 12 + i))), (5, .int (nI dr2)), (3, .int 1), (2, .int (nI (4 + a))), (0, .ref y), (1, .int (nI a))]) hx hb dX10_measureShape_166 hl (k := 4) rfl (by rw [ex_10]; rfl) (by decide) rfl (fun ls hl => ?_)
                obtain rfl : x_10 = nI (i + 1) := by rw [ex_10]; exact nI_1 i
                have hl : lv_has ls 10 [(6, .int (nI (i + 1))), (4, .int (nI (max mo (lyP 1 (a * 12 + i) fs fpt k)))), (9, .int (nI ((a * 12 + i) * 12 + k))), (8, .int (nI (lyP 1 (a * 12 + i) fs fpt k))), (7, .int (nI (a * 12 + i))), (5, .int (nI dr2)), (3, .int 1), (2, .int (nI (4 + a))), (0, .ref y), (1, .int (nI a))] := hl
                refine lv_goto (tgt := 29) hx hb dX10_measureShape_169 (by decide) ?_
                subst hQ2
                exact ih1 (i + 1) dr2 (max mo (lyP 1 (a * 12 + i) fs fpt k)) of2 _ _ _ (by omega) (by omega) (lyD_next hc2 (by omega) (by rw [hpp, ← hkp]; omega) (by rw [hpp, ← hkp]; exact hc3)) hc4 (hP.sub [0, 1, 2, 3, 4, 5, 6, 7] rfl) (hD.sub [0, 1, 2, 3, 4, 5, 6, 7] (by decide) rfl) hS (lv_sub hl [0, 5, 1, 6, 7, 8, 9] rfl)
              · have hk : k < pc := by rcases Nat.lt_or_ge k pc with z9 | z9; exact z9; exact absurd (nI_le (a := (a * 12 + i) * 12 + pc) (b := (a * 12 + i) * 12 + k) (by omega) (by omega)) hd
                obtain ⟨ty, hty, htye⟩ := htI ((a * 12 + i) * 12 + k) (by omega)
                obtain ⟨sz, hsz, hsze⟩ := hsI ty (by omega)
                have hszP : szP fs fpt ((a * 12 + i) * 12 + k) = sz := by unfold szP; rw [htye, nI_clamp (by omega), hsze]; exact nI_clamp (by omega)
                refine lv_aload_n hx hb dX10_measureShape_77 rfl (lv_at hl 8 rfl) ?_
                refine va_get (D := (dC, dI)) (ci := 10) (v := .ref y2) (C := RX10) (T := TX10) (N := 16) hx hb hts in_c_mshape_X10 hown hK hP 0 rfl rfl 2 (by decide) (hts (.fieldLink RX10 18 "OwnedPlaces$Types" "size" "[I") (wm_c_mshape 3 rfl)) (fun _ h9 => h9) rfl dX10_measureShape_78 ?_
                refine lv_aload_n hx hb dX10_measureShape_81 rfl (lv_at hl 8 rfl) ?_
                refine va_get (D := (dC, dI)) (ci := 10) (v := .ref y12) (C := RX10) (T := TX10) (N := 16) hx hb hts in_c_mshape_X10 hown hK hP 0 rfl rfl 14 (by decide) (hts (.fieldLink RX10 49 "OwnedPlaces$Types" "partType" "[I") (wm_c_mshape 15 rfl)) (fun _ h9 => h9) rfl dX10_measureShape_82 ?_
                refine lv_iload hx hb dX10_measureShape_85 (lv_at hl 0 rfl) ?_
                refine va_iald hx hb hK hP 5 0 rfl rfl (vp_in_nI (by omega) (by decide)) dX10_measureShape_87 ?_
                refine lv_topi (fun v_9 ev_9 => ?_)
                have hv_9 : v_9 = fpt ((a * 12 + i) * 12 + k) := ev_9.trans (by rw [nI_clamp (by omega)])
                obtain rfl : v_9 = nI ty := hv_9.trans htye
                refine va_iald hx hb hK hP 4 0 rfl rfl (vp_in_nI (by omega) (by decide)) dX10_measureShape_88 ?_
                refine lv_topi (fun v_10 ev_10 => ?_)
                have hv_10 : v_10 = fs ty := ev_10.trans (by rw [nI_clamp (by omega)])
                obtain rfl : v_10 = nI sz := hv_10.trans hsze
                refine lv_if_ne (tgt := 93) hx hb dX10_measureShape_89 (by decide) (fun hz0 => ?_) (fun hz0 => ?_)
                · have hsz0 : sz ≠ 0 := fun q9 => hz0 (by rw [q9]; rfl)
                  refine lv_aload_n hx hb dX10_measureShape_93 rfl (lv_at hl 8 rfl) ?_
                  refine va_get (D := (dC, dI)) (ci := 10) (v := .ref y13) (C := RX10) (T := TX10) (N := 16) hx hb hts in_c_mshape_X10 hown hK hP 0 rfl rfl 15 (by decide) (hts (.fieldLink RX10 52 "OwnedPlaces$Types" "partOffset" "[I") (wm_c_mshape 16 rfl)) (fun _ h9 => h9) rfl dX10_measureShape_94 ?_
                  refine lv_iload hx hb dX10_measureShape_97 (lv_at hl 0 rfl) ?_
                  refine lv_iload hx hb dX10_measureShape_99 (lv_at hl 1 rfl) ?_
                  refine va_iast hx hb hK hP hD hS 6 0 rfl rfl (vp_in_nI (by omega) (by decide)) dX10_measureShape_101 (fun H locs hP hD hS => ?_)
                  have hP : va_P (dC, dI) vwCl [(y, .inr (10, [.ref y0, .ref y1, .ref y2, .ref y3, .ref y4, .ref y5, .ref y6, .int (nI yt), .int (nI yp), .ref y7, .ref y8, .ref y9, .ref y10, .ref y11, .ref y12, .ref y13])), (y0, .inl (kI, 3040, .inl fk)), (y8, .inl (kI, 30, .inl fv)), (y10, .inl (kI, 360, .inl fpa)), (y2, .inl (kI, 3040, .inl fs)), (y12, .inl (kI, 4320, .inl fpt)), (y13, .inl (kI, 4320, .inl (upd of2 (nI ((a * 12 + i) * 12 + k) : Int32).toNatClampNeg (nI (lyP 1 (a * 12 + i) fs fpt k))))), (y3, .inl (kZ, 3040, .inl fd))] H := hP
                  have hD : va_D A [(y, .inr (10, [.ref y0, .ref y1, .ref y2, .ref y3, .ref y4, .ref y5, .ref y6, .int (nI yt), .int (nI yp), .ref y7, .ref y8, .ref y9, .ref y10, .ref y11, .ref y12, .ref y13])), (y0, .inl (kI, 3040, .inl fk)), (y8, .inl (kI, 30, .inl fv)), (y10, .inl (kI, 360, .inl fpa)), (y2, .inl (kI, 3040, .inl fs)), (y12, .inl (kI, 4320, .inl fpt)), (y13, .inl (kI, 4320, .inl (upd of2 (nI ((a * 12 + i) * 12 + k) : Int32).toNatClampNeg (nI (lyP 1 (a * 12 + i) fs fpt k))))), (y3, .inl (kZ, 3040, .inl fd))] := hD
                  obtain ⟨of3, eof3⟩ : ∃ zZ : Nat → Int32, zZ = upd of2 (nI ((a * 12 + i) * 12 + k) : Int32).toNatClampNeg (nI (lyP 1 (a * 12 + i) fs fpt k)) := ⟨_, rfl⟩
                  rw [← eof3] at hP hD
                  have eo3 : of3 = upd of2 ((a * 12 + i) * 12 + k) (nI (lyP 1 (a * 12 + i) fs fpt k)) := by rw [eof3, nI_clamp (by omega)]
                  refine lv_iload hx hb dX10_measureShape_102 (lv_at hl 1 rfl) ?_
                  refine lv_aload_n hx hb dX10_measureShape_104 rfl (lv_at hl 8 rfl) ?_
                  refine va_get (D := (dC, dI)) (ci := 10) (v := .ref y2) (C := RX10) (T := TX10) (N := 16) hx hb hts in_c_mshape_X10 hown hK hP 0 rfl rfl 2 (by decide) (hts (.fieldLink RX10 18 "OwnedPlaces$Types" "size" "[I") (wm_c_mshape 3 rfl)) (fun _ h9 => h9) rfl dX10_measureShape_105 ?_
                  refine lv_aload_n hx hb dX10_measureShape_108 rfl (lv_at hl 8 rfl) ?_
                  refine va_get (D := (dC, dI)) (ci := 10) (v := .ref y12) (C := RX10) (T := TX10) (N := 16) hx hb hts in_c_mshape_X10 hown hK hP 0 rfl rfl 14 (by decide) (hts (.fieldLink RX10 49 "OwnedPlaces$Types" "partType" "[I") (wm_c_mshape 15 rfl)) (fun _ h9 => h9) rfl dX10_measureShape_109 ?_
                  refine lv_iload hx hb dX10_measureShape_112 (lv_at hl 0 rfl) ?_
                  refine va_iald hx hb hK hP 5 0 rfl rfl (vp_in_nI (by omega) (by decide)) dX10_measureShape_114 ?_
                  refine lv_topi (fun v_11 ev_11 => ?_)
                  have hv_11 : v_11 = fpt ((a * 12 + i) * 12 + k) := ev_11.trans (by rw [nI_clamp (by omega)])
                  obtain rfl : v_11 = nI ty := hv_11.trans htye
                  refine va_iald hx hb hK hP 4 0 rfl rfl (vp_in_nI (by omega) (by decide)) dX10_measureShape_115 ?_
                  refine lv_topi (fun v_12 ev_12 => ?_)
                  have hv_12 : v_12 = fs ty := ev_12.trans (by rw [nI_clamp (by omega)])
                  obtain rfl : v_12 = nI sz := hv_12.trans hsze
                  refine lv_iadd hx hb dX10_measureShape_116 ?_
                  refine lv_topi (fun f_13 ef_13 => ?_)
                  obtain rfl : f_13 = nI (lyP 1 (a * 12 + i) fs fpt k + sz) := ef_13.trans (nI_add _ _)
                  refine lv_bipush (v := 17) hx hb dX10_measureShape_117 (by decide) ?_
                  refine va_mmin hx hb (by rw [hml]; exact hl.1.symm) hown (hts (.methodLink RX10 73 Lib.Math.min.name) (wm_c_mshape 17 rfl)) (hts (.static Lib.Math.min.name) (wm_c_mshape 18 rfl)) (hts (.initialized "java/lang/Math") (wm_c_mshape 13 rfl)) (hts (.code Lib.Math.min.name Lib.Math.min.code 2 (some .int)) (wm_c_mshape 19 rfl)) (Nat.le_of_ble_eq_true rfl) (Nat.le_of_ble_eq_true rfl) (Nat.zero_le _) (Nat.zero_le _) dX10_measureShape_119 ?_
                  refine lv_topi (fun f_14 ef_14 => ?_)
                  obtain rfl : f_14 = nI (lyP 1 (a * 12 + i) fs fpt (k + 1)) := (min_nI (a := lyP 1 (a * 12 + i) fs fpt k + sz) (b := 17) (by omega) (by decide) ef_14).trans (by show nI (min (_ + sz) 17) = nI (min (_ + szP fs fpt ((a * 12 + i) * 12 + k)) 17); rw [hszP])
                  refine lv_istore (lv' := [(8, .int (nI (lyP 1 (a * 12 + i) fs fpt (k + 1)))), (9, .int (nI ((a * 12 + i) * 12 + k))), (7, .int (nI (a * 12 + i))), (6, .int (nI i)), (5, .int (nI dr2)), (4, .int (nI mo)), (3, .int 1), (2, .int (nI (4 + a))), (0, .ref y), (1, .int (nI a))]) hx hb dX10_measureShape_122 hl (by decide) rfl (fun ls hl => ?_)
                  refine lv_iload hx hb dX10_measureShape_124 (lv_at hl 4 rfl) ?_
                  refine lv_if_ne (tgt := 144) hx hb dX10_measureShape_126 (by decide) (fun hdr => ?_) (fun hdr => ?_)
                  · refine lv_iconst (v := 1) hx hb dX10_measureShape_144 (by decide) ?_
                    refine lv_goto (tgt := 149) hx hb dX10_measureShape_145 (by decide) ?_
                    refine lv_istore (lv' := [(5, .int 1), (8, .int (nI (lyP 1 (a * 12 + i) fs fpt (k + 1)))), (9, .int (nI ((a * 12 + i) * 12 + k))), (7, .int (nI (a * 12 + i))), (6, .int (nI i)), (4, .int (nI mo)), (3, .int 1), (2, .int (nI (4 + a))), (0, .ref y), (1, .int (nI a))]) hx hb dX10_measureShape_149 hl (by decide) rfl (fun ls hl => ?_)
                    obtain ⟨x_15, ex_15⟩ : ∃ yY : Int32, yY = (nI ((a * 12 + i) * 12 + k)) + 1 := ⟨_, rfl⟩
                    refine lv_iinc (v := x_15) (lv' := [(9, .int x_15), (5, .int 1), (8, .int (nI (lyP 1 (a * 12 + i) fs fpt (k + 1)))), (7, .int (nI (a * 12 + i))), (6, .int (nI i)), (4, .int (nI mo)), (3, .int 1), (2, .int (nI (4 + a))), (0, .ref y), (1, .int (nI a))]) hx hb dX10_measureShape_151 hl (k := 2) rfl (by rw [ex_15]; rfl) (by decide) rfl (fun ls hl => ?_)
                    obtain rfl : x_15 = nI ((a * 12 + i) * 12 + (k + 1)) := by rw [ex_15]; exact nI_1 _
                    have hl : lv_has ls 10 [(9, .int (nI ((a * 12 + i) * 12 + (k + 1)))), (5, .int (nI 1)), (8, .int (nI (lyP 1 (a * 12 + i) fs fpt (k + 1)))), (7, .int (nI (a * 12 + i))), (6, .int (nI i)), (4, .int (nI mo)), (3, .int 1), (2, .int (nI (4 + a))), (0, .ref y), (1, .int (nI a))] := hl
                    refine lv_goto (tgt := 59) hx hb dX10_measureShape_154 (by decide) ?_
                    exact ih2 (k + 1) 1 of3 _ _ _ (by omega) (by omega) (by rw [eo3]; exact lyD_put hc2 hpI ha (by omega) (by omega)) (by rw [eo3]; exact lyK_put hc3 (by rw [hszP]; exact hsz0)) (by rw [eo3]; exact lyO_put hc4 (by omega) (by omega)) (hP.sub [0, 1, 2, 3, 4, 5, 6, 7] rfl) (hD.sub [0, 1, 2, 3, 4, 5, 6, 7] (by decide) rfl) hS (lv_sub hl [0, 2, 3, 4, 1, 5, 6, 7, 8, 9] rfl)
                  · refine lv_aload_n hx hb dX10_measureShape_129 rfl (lv_at hl 8 rfl) ?_
                    refine va_get (D := (dC, dI)) (ci := 10) (v := .ref y3) (C := RX10) (T := TX10) (N := 16) hx hb hts in_c_mshape_X10 hown hK hP 0 rfl rfl 3 (by decide) (hts (.fieldLink RX10 21 "OwnedPlaces$Types" "drops" "[Z") (wm_c_mshape 4 rfl)) (fun _ h9 => h9) rfl dX10_measureShape_130 ?_
                    refine lv_aload_n hx hb dX10_measureShape_133 rfl (lv_at hl 8 rfl) ?_
                    refine va_get (D := (dC, dI)) (ci := 10) (v := .ref y12) (C := RX10) (T := TX10) (N := 16) hx hb hts in_c_mshape_X10 hown hK hP 0 rfl rfl 14 (by decide) (hts (.fieldLink RX10 49 "OwnedPlaces$Types" "partType" "[I") (wm_c_mshape 15 rfl)) (fun _ h9 => h9) rfl dX10_measureShape_134 ?_
                    refine lv_iload hx hb dX10_measureShape_137 (lv_at hl 1 rfl) ?_
                    refine va_iald hx hb hK hP 5 0 rfl rfl (vp_in_nI (by omega) (by decide)) dX10_measureShape_139 ?_
                    refine lv_topi (fun v_15 ev_15 => ?_)
                    have hv_15 : v_15 = fpt ((a * 12 + i) * 12 + k) := ev_15.trans (by rw [nI_clamp (by omega)])
                    obtain rfl : v_15 = nI ty := hv_15.trans htye
                    refine va_zald hx hb hK hP 7 1 rfl rfl (vp_in_nI (by omega) (by decide)) dX10_measureShape_140 ?_
                    refine lv_topi (fun v_16 ev_16 => ?_)
                    refine lv_if_eq (tgt := 148) hx hb dX10_measureShape_141 (by decide) (fun hdq => ?_) (fun hdq => ?_)
                    · refine lv_iconst (v := 0) hx hb dX10_measureShape_148 (by decide) ?_
                      refine lv_istore (lv' := [(5, .int 0), (8, .int (nI (lyP 1 (a * 12 + i) fs fpt (k + 1)))), (9, .int (nI ((a * 12 + i) * 12 + k))), (7, .int (nI (a * 12 + i))), (6, .int (nI i)), (4, .int (nI mo)), (3, .int 1), (2, .int (nI (4 + a))), (0, .ref y), (1, .int (nI a))]) hx hb dX10_measureShape_149 hl (by decide) rfl (fun ls hl => ?_)
                      obtain ⟨x_17, ex_17⟩ : ∃ yY : Int32, yY = (nI ((a * 12 + i) * 12 + k)) + 1 := ⟨_, rfl⟩
                      refine lv_iinc (v := x_17) (lv' := [(9, .int x_17), (5, .int 0), (8, .int (nI (lyP 1 (a * 12 + i) fs fpt (k + 1)))), (7, .int (nI (a * 12 + i))), (6, .int (nI i)), (4, .int (nI mo)), (3, .int 1), (2, .int (nI (4 + a))), (0, .ref y), (1, .int (nI a))]) hx hb dX10_measureShape_151 hl (k := 2) rfl (by rw [ex_17]; rfl) (by decide) rfl (fun ls hl => ?_)
                      obtain rfl : x_17 = nI ((a * 12 + i) * 12 + (k + 1)) := by rw [ex_17]; exact nI_1 _
                      have hl : lv_has ls 10 [(9, .int (nI ((a * 12 + i) * 12 + (k + 1)))), (5, .int (nI 0)), (8, .int (nI (lyP 1 (a * 12 + i) fs fpt (k + 1)))), (7, .int (nI (a * 12 + i))), (6, .int (nI i)), (4, .int (nI mo)), (3, .int 1), (2, .int (nI (4 + a))), (0, .ref y), (1, .int (nI a))] := hl
                      refine lv_goto (tgt := 59) hx hb dX10_measureShape_154 (by decide) ?_
                      exact ih2 (k + 1) 0 of3 _ _ _ (by omega) (by omega) (by rw [eo3]; exact lyD_put hc2 hpI ha (by omega) (by omega)) (by rw [eo3]; exact lyK_put hc3 (by rw [hszP]; exact hsz0)) (by rw [eo3]; exact lyO_put hc4 (by omega) (by omega)) (hP.sub [0, 1, 2, 3, 4, 5, 6, 7] rfl) (hD.sub [0, 1, 2, 3, 4, 5, 6, 7] (by decide) rfl) hS (lv_sub hl [0, 2, 3, 4, 1, 5, 6, 7, 8, 9] rfl)
                    · refine lv_iconst (v := 1) hx hb dX10_measureShape_144 (by decide) ?_
                      refine lv_goto (tgt := 149) hx hb dX10_measureShape_145 (by decide) ?_
                      refine lv_istore (lv' := [(5, .int 1), (8, .int (nI (lyP 1 (a * 12 + i) fs fpt (k + 1)))), (9, .int (nI ((a * 12 + i) * 12 + k))), (7, .int (nI (a * 12 + i))), (6, .int (nI i)), (4, .int (nI mo)), (3, .int 1), (2, .int (nI (4 + a))), (0, .ref y), (1, .int (nI a))]) hx hb dX10_measureShape_149 hl (by decide) rfl (fun ls hl => ?_)
                      obtain ⟨x_17, ex_17⟩ : ∃ yY : Int32, yY = (nI ((a * 12 + i) * 12 + k)) + 1 := ⟨_, rfl⟩
                      refine lv_iinc (v := x_17) (lv' := [(9, .int x_17), (5, .int 1), (8, .int (nI (lyP 1 (a * 12 + i) fs fpt (k + 1)))), (7, .int (nI (a * 12 + i))), (6, .int (nI i)), (4, .int (nI mo)), (3, .int 1), (2, .int (nI (4 + a))), (0, .ref y), (1, .int (nI a))]) hx hb dX10_measureShape_151 hl (k := 2) rfl (by rw [ex_17]; rfl) (by decide) rfl (fun ls hl => ?_)
                      obtain rfl : x_17 = nI ((a * 12 + i) * 12 + (k + 1)) := by rw [ex_17]; exact nI_1 _
                      have hl : lv_has ls 10 [(9, .int (nI ((a * 12 + i) * 12 + (k + 1)))), (5, .int (nI 1)), (8, .int (nI (lyP 1 (a * 12 + i) fs fpt (k + 1)))), (7, .int (nI (a * 12 + i))), (6, .int (nI i)), (4, .int (nI mo)), (3, .int 1), (2, .int (nI (4 + a))), (0, .ref y), (1, .int (nI a))] := hl
                      refine lv_goto (tgt := 59) hx hb dX10_measureShape_154 (by decide) ?_
                      exact ih2 (k + 1) 1 of3 _ _ _ (by omega) (by omega) (by rw [eo3]; exact lyD_put hc2 hpI ha (by omega) (by omega)) (by rw [eo3]; exact lyK_put hc3 (by rw [hszP]; exact hsz0)) (by rw [eo3]; exact lyO_put hc4 (by omega) (by omega)) (hP.sub [0, 1, 2, 3, 4, 5, 6, 7] rfl) (hD.sub [0, 1, 2, 3, 4, 5, 6, 7] (by decide) rfl) hS (lv_sub hl [0, 2, 3, 4, 1, 5, 6, 7, 8, 9] rfl)
                · have hP9 := hP.sub (ws' := [(y, .inr (10, [.ref y0, .ref y1, .ref y2, .ref y3, .ref y4, .ref y5, .ref y6, .int (nI yt), .int (nI yp), .ref y7, .ref y8, .ref y9, .ref y10, .ref y11, .ref y12, .ref y13])), (y0, .inl (kI, 3040, .inl fk)), (y8, .inl (kI, 30, .inl fv)), (y10, .inl (kI, 360, .inl fpa)), (y2, .inl (kI, 3040, .inl fs)), (y12, .inl (kI, 4320, .inl fpt)), (y13, .inl (kI, 4320, .inl of2)), (y3, .inl (kZ, 3040, .inl fd))]) [0, 1, 2, 3, 4, 5, 6, 7] rfl
                  have hD9 := hD.sub (ws' := [(y, .inr (10, [.ref y0, .ref y1, .ref y2, .ref y3, .ref y4, .ref y5, .ref y6, .int (nI yt), .int (nI yp), .ref y7, .ref y8, .ref y9, .ref y10, .ref y11, .ref y12, .ref y13])), (y0, .inl (kI, 3040, .inl fk)), (y8, .inl (kI, 30, .inl fv)), (y10, .inl (kI, 360, .inl fpa)), (y2, .inl (kI, 3040, .inl fs)), (y12, .inl (kI, 4320, .inl fpt)), (y13, .inl (kI, 4320, .inl of2)), (y3, .inl (kZ, 3040, .inl fd))]) [0, 1, 2, 3, 4, 5, 6, 7] (by decide) rfl
                  have hK9 := hK.sub (tys' := [(kI, .int), (kZ, .boolean)]) [0, 1] rfl
                  subst hQ2
                  subst hQ1
                  exact W.vret hx hb hr (fun tS ht hW => ⟨⟨(), rfl, trivial, fs, of2, fd, hc4, Or.inl rfl, by rw [ht]; exact hP9, va_K.moved hW.alike hK9, hD9⟩, hS.F ht⟩) hS.2.2 dX10_measureShape_92
          exact key2 (pc + 1) 0 dr of1 _ _ _ (by omega) (by omega) hb2 (fun j hj => absurd hj (by omega)) hb3 (hP.sub [7, 0, 1, 2, 3, 4, 5, 6] rfl) (hD.sub [7, 0, 1, 2, 3, 4, 5, 6] (by decide) rfl) hS (lv_sub hl [0, 1, 2, 3, 4, 5, 6, 7, 8, 9] rfl)
    exact key1 (vc + 1) 0 0 0 fof _ _ _ (by omega) (by omega) (fun j hj => absurd hj (by omega)) (fun _ _ => rfl) (hP.sub [0, 1, 2, 3, 4, 5, 6, 7] rfl) (hD.sub [0, 1, 2, 3, 4, 5, 6, 7] (by decide) rfl) hS (lv_sub hl [0, 1, 2, 3, 4, 5, 6] rfl)
def wf_c_measure : List Cond := [.code yX10_measure cX10_measure 3 none, .fieldLink RX10 55 "OwnedPlaces$Types" "shapes" "I", .fieldLink RX10 18 "OwnedPlaces$Types" "size" "[I", .code yX10_measureShape cX10_measureShape 10 none, .fieldLink RX10 9 "OwnedPlaces$Types" "kind" "[I", .fieldLink RX10 37 "OwnedPlaces$Types" "variants" "[I", .fieldLink RX10 21 "OwnedPlaces$Types" "drops" "[Z", .code yX10_rowOf cX10_rowOf 3 (some .int), .methodLink RX10 70 yX10_rowOf, .instanceMethod yX10_rowOf, .selects RX10 yX10_rowOf yX10_rowOf, .initialized RX10, .fieldLink RX10 43 "OwnedPlaces$Types" "parts" "[I", .methodLink RX10 78 Lib.Math.max.name, .static Lib.Math.max.name, .initialized "java/lang/Math", .code Lib.Math.max.name Lib.Math.max.code 2 (some .int), .fieldLink RX10 49 "OwnedPlaces$Types" "partType" "[I", .fieldLink RX10 52 "OwnedPlaces$Types" "partOffset" "[I", .methodLink RX10 73 Lib.Math.min.name, .static Lib.Math.min.name, .code Lib.Math.min.name Lib.Math.min.code 2 (some .int), .methodLink RX10 66 yX10_measureShape, .instanceMethod yX10_measureShape, .selects RX10 yX10_measureShape yX10_measureShape]
def wp_c_measure : List Cond := wf_c_measure ++ (wsX100 ++ [])
theorem in_c_measure_X10 : ∀ w ∈ wsX100, w ∈ wp_c_measure := fun w h => List.mem_append_right _ (List.mem_append_left _ h)
theorem wg_c_measure : wf_c_measure.all goodWord = true := by decide +kernel
theorem wm_c_measure (k : Nat) {w : Cond} (h : wp_c_measure[k]? = some w) : w ∈ wp_c_measure := List.mem_of_getElem? h
set_option maxRecDepth 20000 in
theorem g_c_measure_c_mshape_33 : GoodIn wp_c_measure (wsV RX10 66 RX10 yX10_measureShape wp_c_mshape) := goodIn_app (goodIn_f [.methodLink RX10 66 yX10_measureShape, .instanceMethod yX10_measureShape, .selects RX10 yX10_measureShape yX10_measureShape, .initialized RX10] [22, 23, 24, 11] rfl (by decide +kernel)) (goodIn_app (goodIn_f (wf_c_mshape) [3, 4, 5, 2, 6, 7, 8, 9, 10, 11, 12, 13, 14, 15, 16, 17, 18, 19, 20, 21] rfl wg_c_mshape) (goodIn_app (goodIn_sub in_c_measure_X10 gd_X10) (goodIn_n)))
set_option maxHeartbeats 4000000 in
set_option maxRecDepth 100000 in
theorem c_measure (l : Launch) (dC : Nat → ClassId) (dI : Nat → Nat → Nat) (y y0 y1 y2 y3 y4 y5 y6 y7 y8 y9 y10 y11 y12 y13 : Nat) (yt yp : Nat) (kI kZ : ClassId) (fk fv fpa fs fpt fof fd : Nat → Int32) (sz : Nat) (hyp : yp ≤ 30) (hvI : upI 30 12 fv) (hpI : upI 360 12 fpa) (htI : upI 4320 3039 fpt) (hsI : upI 3040 17 fs) : Met l yX10_measure wp_c_measure ({ frames := 2, cells := 0, slots := 0, locals := 51 }) (va_Pc [.ref y] (fun U => U.heap.size = sz ∧ va_P (dC, dI) vwCl [(y, .inr (10, [.ref y0, .ref y1, .ref y2, .ref y3, .ref y4, .ref y5, .ref y6, .int (nI yt), .int (nI yp), .ref y7, .ref y8, .ref y9, .ref y10, .ref y11, .ref y12, .ref y13])), (y0, .inl (kI, 3040, .inl fk)), (y8, .inl (kI, 30, .inl fv)), (y10, .inl (kI, 360, .inl fpa)), (y2, .inl (kI, 3040, .inl fs)), (y12, .inl (kI, 4320, .inl fpt)), (y13, .inl (kI, 4320, .inl fof)), (y3, .inl (kZ, 3040, .inl fd))] U.heap ∧ va_K (dC, dI) vwCl [(kI, .int), (kZ, .boolean)] U ∧ va_D (fun _ => True) [(y, .inr (10, [.ref y0, .ref y1, .ref y2, .ref y3, .ref y4, .ref y5, .ref y6, .int (nI yt), .int (nI yp), .ref y7, .ref y8, .ref y9, .ref y10, .ref y11, .ref y12, .ref y13])), (y0, .inl (kI, 3040, .inl fk)), (y8, .inl (kI, 30, .inl fv)), (y10, .inl (kI, 360, .inl fpa)), (y2, .inl (kI, 3040, .inl fs)), (y12, .inl (kI, 4320, .inl fpt)), (y13, .inl (kI, 4320, .inl fof)), (y3, .inl (kZ, 3040, .inl fd))])) (va_Qv (fun _ : Unit => True) (fun (_ : Unit) (tS : State) => ∃ (gs : Nat → Int32) (gof : Nat → Int32) (gd : Nat → Int32), (upI 3040 17 gs) ∧ va_P (dC, dI) vwCl [(y, .inr (10, [.ref y0, .ref y1, .ref y2, .ref y3, .ref y4, .ref y5, .ref y6, .int (nI yt), .int (nI yp), .ref y7, .ref y8, .ref y9, .ref y10, .ref y11, .ref y12, .ref y13])), (y0, .inl (kI, 3040, .inl fk)), (y8, .inl (kI, 30, .inl fv)), (y10, .inl (kI, 360, .inl fpa)), (y2, .inl (kI, 3040, .inl gs)), (y12, .inl (kI, 4320, .inl fpt)), (y13, .inl (kI, 4320, .inl gof)), (y3, .inl (kZ, 3040, .inl gd))] tS.heap ∧ va_K (dC, dI) vwCl [(kI, .int), (kZ, .boolean)] tS ∧ va_D (va_A [(y, .inr (10, [.ref y0, .ref y1, .ref y2, .ref y3, .ref y4, .ref y5, .ref y6, .int (nI yt), .int (nI yp), .ref y7, .ref y8, .ref y9, .ref y10, .ref y11, .ref y12, .ref y13])), (y0, .inl (kI, 3040, .inl fk)), (y8, .inl (kI, 30, .inl fv)), (y10, .inl (kI, 360, .inl fpa)), (y2, .inl (kI, 3040, .inl fs)), (y12, .inl (kI, 4320, .inl fpt)), (y13, .inl (kI, 4320, .inl fof)), (y3, .inl (kZ, 3040, .inl fd))] sz) [(y, .inr (10, [.ref y0, .ref y1, .ref y2, .ref y3, .ref y4, .ref y5, .ref y6, .int (nI yt), .int (nI yp), .ref y7, .ref y8, .ref y9, .ref y10, .ref y11, .ref y12, .ref y13])), (y0, .inl (kI, 3040, .inl fk)), (y8, .inl (kI, 30, .inl fv)), (y10, .inl (kI, 360, .inl fpa)), (y2, .inl (kI, 3040, .inl gs)), (y12, .inl (kI, 4320, .inl fpt)), (y13, .inl (kI, 4320, .inl gof)), (y3, .inl (kZ, 3040, .inl gd))]) (va_A [(y, .inr (10, [.ref y0, .ref y1, .ref y2, .ref y3, .ref y4, .ref y5, .ref y6, .int (nI yt), .int (nI yp), .ref y7, .ref y8, .ref y9, .ref y10, .ref y11, .ref y12, .ref y13])), (y0, .inl (kI, 3040, .inl fk)), (y8, .inl (kI, 30, .inl fv)), (y10, .inl (kI, 360, .inl fpa)), (y2, .inl (kI, 3040, .inl fs)), (y12, .inl (kI, 4320, .inl fpt)), (y13, .inl (kI, 4320, .inl fof)), (y3, .inl (kZ, 3040, .inl fd))] sz)) 0 0 (va_A [(y, .inr (10, [.ref y0, .ref y1, .ref y2, .ref y3, .ref y4, .ref y5, .ref y6, .int (nI yt), .int (nI yp), .ref y7, .ref y8, .ref y9, .ref y10, .ref y11, .ref y12, .ref y13])), (y0, .inl (kI, 3040, .inl fk)), (y8, .inl (kI, 30, .inl fv)), (y10, .inl (kI, 360, .inl fpa)), (y2, .inl (kI, 3040, .inl fs)), (y12, .inl (kI, 4320, .inl fpt)), (y13, .inl (kI, 4320, .inl fof)), (y3, .inl (kZ, 3040, .inl fd))] sz) := by
  refine Met.ofW (cc := cX10_measure) (maxL := 3) (ret := none) (by decide) rfl ?_
  intro p e s m args below meth c s₁ B hml hv
  obtain ⟨rfl, hsz, hP, hK, hD0⟩ := hv
  have hx := B.exec
  have hb := B.bytes
  have hr := B.returns
  have hts := atoms_spec (ws := wp_c_measure) B.pre
  have hown : s.vm.findClass RX10 = some m.cls := findClass_of_methodNamed B.named
  have hlocks := B.notSynchronized
  subst hsz
  have hD := hD0.self (sz := s.heap.size)
  generalize hAe : va_A [(y, .inr (10, [.ref y0, .ref y1, .ref y2, .ref y3, .ref y4, .ref y5, .ref y6, .int (nI yt), .int (nI yp), .ref y7, .ref y8, .ref y9, .ref y10, .ref y11, .ref y12, .ref y13])), (y0, .inl (kI, 3040, .inl fk)), (y8, .inl (kI, 30, .inl fv)), (y10, .inl (kI, 360, .inl fpa)), (y2, .inl (kI, 3040, .inl fs)), (y12, .inl (kI, 4320, .inl fpt)), (y13, .inl (kI, 4320, .inl fof)), (y3, .inl (kZ, 3040, .inl fd))] s.heap.size = A at hD ⊢
  have hA : ∀ q : Nat, s.heap.size ≤ q → A q := fun q h => by rw [← hAe]; exact Or.inr h
  have hS : va_S A s.heap s.heap [] := va_S.rf
  have hP : va_P (dC, dI) vwCl [(y, .inr (10, [.ref y0, .ref y1, .ref y2, .ref y3, .ref y4, .ref y5, .ref y6, .int (nI yt), .int (nI yp), .ref y7, .ref y8, .ref y9, .ref y10, .ref y11, .ref y12, .ref y13])), (y0, .inl (kI, 3040, .inl fk)), (y8, .inl (kI, 30, .inl fv)), (y10, .inl (kI, 360, .inl fpa)), (y2, .inl (kI, 3040, .inl fs)), (y12, .inl (kI, 4320, .inl fpt)), (y13, .inl (kI, 4320, .inl fof)), (y3, .inl (kZ, 3040, .inl fd))] s.heap := hP
  have hl := lv_entry ([.ref y]) (n := 3) (Nat.le_of_ble_eq_true rfl)
  rw [lg_entry_eq]
  generalize (lg_sl ([.ref y]) ++ List.replicate (3 - (lg_sl ([.ref y])).length) Slot.unset).toArray = ls at hl ⊢
  have hl : lv_has ls 3 [(0, .ref y)] := hl
  refine lv_iconst (v := 0) hx hb dX10_measure_0 (by decide) ?_
  refine lv_istore_n (lv' := [(1, .int 0), (0, .ref y)]) hx hb dX10_measure_1 rfl hl (by decide) rfl (fun ls hl => ?_)
  refine W_q (fun Q1 hQ1 => ?_)
  have key1 : ∀ (n1 : Nat) (r : Nat) (s1 o1 d1 : Nat → Int32) (H : Heap) (locs : List Loc) (ls : Array Slot), (r + n1 = yp + 1 ∧ r ≤ yp) → (upI 3040 17 s1) → va_P (dC, dI) vwCl [(y, .inr (10, [.ref y0, .ref y1, .ref y2, .ref y3, .ref y4, .ref y5, .ref y6, .int (nI yt), .int (nI yp), .ref y7, .ref y8, .ref y9, .ref y10, .ref y11, .ref y12, .ref y13])), (y0, .inl (kI, 3040, .inl fk)), (y8, .inl (kI, 30, .inl fv)), (y10, .inl (kI, 360, .inl fpa)), (y2, .inl (kI, 3040, .inl s1)), (y12, .inl (kI, 4320, .inl fpt)), (y13, .inl (kI, 4320, .inl o1)), (y3, .inl (kZ, 3040, .inl d1))] H → va_D A [(y, .inr (10, [.ref y0, .ref y1, .ref y2, .ref y3, .ref y4, .ref y5, .ref y6, .int (nI yt), .int (nI yp), .ref y7, .ref y8, .ref y9, .ref y10, .ref y11, .ref y12, .ref y13])), (y0, .inl (kI, 3040, .inl fk)), (y8, .inl (kI, 30, .inl fv)), (y10, .inl (kI, 360, .inl fpa)), (y2, .inl (kI, 3040, .inl s1)), (y12, .inl (kI, 4320, .inl fpt)), (y13, .inl (kI, 4320, .inl o1)), (y3, .inl (kZ, 3040, .inl d1))] → va_S A s.heap H locs → lv_has ls 3 [(1, .int (nI r)), (0, .ref y)] → W p l e (headSpec wp_c_measure ({ frames := 2, cells := 0, slots := 0, locals := 51 })).room s m ([.ref y] : List Value).toArray below meth c H locs 0 0 Q1 (F0 m 2 ls []) := by
    intro n1
    induction n1 with
    | zero => intro r s1 o1 d1 H locs ls hb0 hb1; exact absurd hb0 (by omega)
    | succ n1 ih1 =>
      intro r s1 o1 d1 H locs ls hb0 hb1 hP hD hS hl
      refine lv_iload_n hx hb dX10_measure_2 rfl (lv_at hl 0 rfl) ?_
      refine lv_aload_n hx hb dX10_measure_3 rfl (lv_at hl 1 rfl) ?_
      refine va_get (D := (dC, dI)) (ci := 10) (v := .int (nI yp)) (C := RX10) (T := TX10) (N := 16) hx hb hts in_c_measure_X10 hown hK hP 0 rfl rfl 8 (by decide) (hts (.fieldLink RX10 55 "OwnedPlaces$Types" "shapes" "I") (wm_c_measure 1 rfl)) (fun _ h9 => h9) rfl dX10_measure_4 ?_
      refine lv_icmp_ge (tgt := 48) hx hb dX10_measure_7 (by decide) (fun hc => ?_) (fun hc => ?_)
      · have hP9 := hP.sub (ws' := [(y, .inr (10, [.ref y0, .ref y1, .ref y2, .ref y3, .ref y4, .ref y5, .ref y6, .int (nI yt), .int (nI yp), .ref y7, .ref y8, .ref y9, .ref y10, .ref y11, .ref y12, .ref y13])), (y0, .inl (kI, 3040, .inl fk)), (y8, .inl (kI, 30, .inl fv)), (y10, .inl (kI, 360, .inl fpa)), (y2, .inl (kI, 3040, .inl s1)), (y12, .inl (kI, 4320, .inl fpt)), (y13, .inl (kI, 4320, .inl o1)), (y3, .inl (kZ, 3040, .inl d1))]) [0, 1, 2, 3, 4, 5, 6, 7] rfl
        have hD9 := hD.sub (ws' := [(y, .inr (10, [.ref y0, .ref y1, .ref y2, .ref y3, .ref y4, .ref y5, .ref y6, .int (nI yt), .int (nI yp), .ref y7, .ref y8, .ref y9, .ref y10, .ref y11, .ref y12, .ref y13])), (y0, .inl (kI, 3040, .inl fk)), (y8, .inl (kI, 30, .inl fv)), (y10, .inl (kI, 360, .inl fpa)), (y2, .inl (kI, 3040, .inl s1)), (y12, .inl (kI, 4320, .inl fpt)), (y13, .inl (kI, 4320, .inl o1)), (y3, .inl (kZ, 3040, .inl d1))]) [0, 1, 2, 3, 4, 5, 6, 7] (by decide) rfl
        have hK9 := hK.sub (tys' := [(kI, .int), (kZ, .boolean)]) [0, 1] rfl
        subst hQ1
        exact W.vret hx hb hr (fun tS ht hW => ⟨⟨(), rfl, trivial, s1, o1, d1, hb1, by rw [ht]; exact hP9, va_K.moved hW.alike hK9, hD9⟩, hS.F ht⟩) hS.2.2 dX10_measure_48
      · have hr9 : r < yp := by rcases Nat.lt_or_ge r yp with z9 | z9; exact z9; exact absurd (nI_le z9 (by omega)) hc
        refine lv_iconst (v := 0) hx hb dX10_measure_10 (by decide) ?_
        refine lv_istore_n (lv' := [(2, .int 0), (1, .int (nI r)), (0, .ref y)]) hx hb dX10_measure_11 rfl hl (by decide) rfl (fun ls hl => ?_)
        refine W_q (fun Q2 hQ2 => ?_)
        have key2 : ∀ (n2 : Nat) (t : Nat) (s2 o2 d2 : Nat → Int32) (H : Heap) (locs : List Loc) (ls : Array Slot), (t + n2 = yp + 1 ∧ t ≤ yp) → (upI 3040 17 s2) → va_P (dC, dI) vwCl [(y, .inr (10, [.ref y0, .ref y1, .ref y2, .ref y3, .ref y4, .ref y5, .ref y6, .int (nI yt), .int (nI yp), .ref y7, .ref y8, .ref y9, .ref y10, .ref y11, .ref y12, .ref y13])), (y0, .inl (kI, 3040, .inl fk)), (y8, .inl (kI, 30, .inl fv)), (y10, .inl (kI, 360, .inl fpa)), (y2, .inl (kI, 3040, .inl s2)), (y12, .inl (kI, 4320, .inl fpt)), (y13, .inl (kI, 4320, .inl o2)), (y3, .inl (kZ, 3040, .inl d2))] H → va_D A [(y, .inr (10, [.ref y0, .ref y1, .ref y2, .ref y3, .ref y4, .ref y5, .ref y6, .int (nI yt), .int (nI yp), .ref y7, .ref y8, .ref y9, .ref y10, .ref y11, .ref y12, .ref y13])), (y0, .inl (kI, 3040, .inl fk)), (y8, .inl (kI, 30, .inl fv)), (y10, .inl (kI, 360, .inl fpa)), (y2, .inl (kI, 3040, .inl s2)), (y12, .inl (kI, 4320, .inl fpt)), (y13, .inl (kI, 4320, .inl o2)), (y3, .inl (kZ, 3040, .inl d2))] → va_S A s.heap H locs → lv_has ls 3 [(2, .int (nI t)), (1, .int (nI r)), (0, .ref y)] → W p l e (headSpec wp_c_measure ({ frames := 2, cells := 0, slots := 0, locals := 51 })).room s m ([.ref y] : List Value).toArray below meth c H locs 0 0 Q2 (F0 m 12 ls []) := by
          intro n2
          induction n2 with
          | zero => intro t s2 o2 d2 H locs ls hc0 hc1; exact absurd hc0 (by omega)
          | succ n2 ih2 =>
            intro t s2 o2 d2 H locs ls hc0 hc1 hP hD hS hl
            refine lv_iload_n hx hb dX10_measure_12 rfl (lv_at hl 0 rfl) ?_
            refine lv_aload_n hx hb dX10_measure_13 rfl (lv_at hl 2 rfl) ?_
            refine va_get (D := (dC, dI)) (ci := 10) (v := .int (nI yp)) (C := RX10) (T := TX10) (N := 16) hx hb hts in_c_measure_X10 hown hK hP 0 rfl rfl 8 (by decide) (hts (.fieldLink RX10 55 "OwnedPlaces$Types" "shapes" "I") (wm_c_measure 1 rfl)) (fun _ h9 => h9) rfl dX10_measure_14 ?_
            refine lv_icmp_ge (tgt := 42) hx hb dX10_measure_17 (by decide) (fun hd => ?_) (fun hd => ?_)
            · obtain ⟨x_1, ex_1⟩ : ∃ yY : Int32, yY = (nI r) + 1 := ⟨_, rfl⟩
              refine lv_iinc (v := x_1) (lv' := [(1, .int x_1), (2, .int (nI t)), (0, .ref y)]) hx hb dX10_measure_42 hl (k := 1) rfl (by rw [ex_1]; rfl) (by decide) rfl (fun ls hl => ?_)
              obtain rfl : x_1 = nI (r + 1) := by rw [ex_1]; exact nI_1 r
              have hl : lv_has ls 3 [(1, .int (nI (r + 1))), (2, .int (nI t)), (0, .ref y)] := hl
              refine lv_goto (tgt := 2) hx hb dX10_measure_45 (by decide) ?_
              subst hQ2
              exact ih1 (r + 1) s2 o2 d2 _ _ _ (by omega) hc1 (hP.sub [0, 1, 2, 3, 4, 5, 6, 7] rfl) (hD.sub [0, 1, 2, 3, 4, 5, 6, 7] (by decide) rfl) hS (lv_sub hl [0, 2] rfl)
            · have ht9 : t < yp := by rcases Nat.lt_or_ge t yp with z9 | z9; exact z9; exact absurd (nI_le z9 (by omega)) hd
              refine lv_aload_n hx hb dX10_measure_20 rfl (lv_at hl 2 rfl) ?_
              refine va_get (D := (dC, dI)) (ci := 10) (v := .ref y2) (C := RX10) (T := TX10) (N := 16) hx hb hts in_c_measure_X10 hown hK hP 0 rfl rfl 2 (by decide) (hts (.fieldLink RX10 18 "OwnedPlaces$Types" "size" "[I") (wm_c_measure 2 rfl)) (fun _ h9 => h9) rfl dX10_measure_21 ?_
              refine lv_iconst (v := 4) hx hb dX10_measure_24 (by decide) ?_
              refine lv_iload_n hx hb dX10_measure_25 rfl (lv_at hl 0 rfl) ?_
              refine lv_iadd hx hb dX10_measure_26 ?_
              refine lv_topi (fun f_1 ef_1 => ?_)
              obtain rfl : f_1 = nI (4 + t) := ef_1.trans (nI_add 4 t)
              refine va_iald hx hb hK hP 4 0 rfl rfl (vp_in_nI (by omega) (by decide)) dX10_measure_27 ?_
              refine lv_topi (fun v_2 ev_2 => ?_)
              refine lv_if_ne (tgt := 36) hx hb dX10_measure_28 (by decide) (fun he => ?_) (fun he => ?_)
              · obtain ⟨x_3, ex_3⟩ : ∃ yY : Int32, yY = (nI t) + 1 := ⟨_, rfl⟩
                refine lv_iinc (v := x_3) (lv' := [(2, .int x_3), (1, .int (nI r)), (0, .ref y)]) hx hb dX10_measure_36 hl (k := 0) rfl (by rw [ex_3]; rfl) (by decide) rfl (fun ls hl => ?_)
                obtain rfl : x_3 = nI (t + 1) := by rw [ex_3]; exact nI_1 t
                have hl : lv_has ls 3 [(2, .int (nI (t + 1))), (1, .int (nI r)), (0, .ref y)] := hl
                refine lv_goto (tgt := 12) hx hb dX10_measure_39 (by decide) ?_
                exact ih2 (t + 1) s2 o2 d2 _ _ _ (by omega) hc1 (hP.sub [0, 1, 2, 3, 4, 5, 6, 7] rfl) (hD.sub [0, 1, 2, 3, 4, 5, 6, 7] (by decide) rfl) hS (lv_sub hl [0, 1, 2] rfl)
              · refine lv_aload_n hx hb dX10_measure_31 rfl (lv_at hl 2 rfl) ?_
                refine lv_iload_n hx hb dX10_measure_32 rfl (lv_at hl 0 rfl) ?_
                have hPc := hP.sub (ws' := [(y, .inr (10, [.ref y0, .ref y1, .ref y2, .ref y3, .ref y4, .ref y5, .ref y6, .int (nI yt), .int (nI yp), .ref y7, .ref y8, .ref y9, .ref y10, .ref y11, .ref y12, .ref y13])), (y0, .inl (kI, 3040, .inl fk)), (y8, .inl (kI, 30, .inl fv)), (y10, .inl (kI, 360, .inl fpa)), (y2, .inl (kI, 3040, .inl s2)), (y12, .inl (kI, 4320, .inl fpt)), (y13, .inl (kI, 4320, .inl o2)), (y3, .inl (kZ, 3040, .inl d2))]) [0, 1, 2, 3, 4, 5, 6, 7] rfl
                have hDc := hD.sub (ws' := [(y, .inr (10, [.ref y0, .ref y1, .ref y2, .ref y3, .ref y4, .ref y5, .ref y6, .int (nI yt), .int (nI yp), .ref y7, .ref y8, .ref y9, .ref y10, .ref y11, .ref y12, .ref y13])), (y0, .inl (kI, 3040, .inl fk)), (y8, .inl (kI, 30, .inl fv)), (y10, .inl (kI, 360, .inl fpa)), (y2, .inl (kI, 3040, .inl s2)), (y12, .inl (kI, 4320, .inl fpt)), (y13, .inl (kI, 4320, .inl o2)), (y3, .inl (kZ, 3040, .inl d2))]) [0, 1, 2, 3, 4, 5, 6, 7] (by decide) rfl
                have hKc := hK.sub (tys' := [(kI, .int), (kZ, .boolean)]) [0, 1] rfl
                have hFc := va_free (wc := [(y, .inr (10, [.ref y0, .ref y1, .ref y2, .ref y3, .ref y4, .ref y5, .ref y6, .int (nI yt), .int (nI yp), .ref y7, .ref y8, .ref y9, .ref y10, .ref y11, .ref y12, .ref y13])), (y0, .inl (kI, 3040, .inl fk)), (y8, .inl (kI, 30, .inl fv)), (y10, .inl (kI, 360, .inl fpa)), (y2, .inl (kI, 3040, .inl s2)), (y12, .inl (kI, 4320, .inl fpt)), (y13, .inl (kI, 4320, .inl o2)), (y3, .inl (kZ, 3040, .inl d2))]) hD hS hA [0, 1, 2, 3, 4, 5, 6, 7] rfl
                refine va_callv (va_runV (As := [.int (nI t)]) (rest := []) ⟨hx, hb, hml, hown, hts⟩ (c_mshape l dC dI y y0 y1 y2 y3 y4 y5 y6 y7 y8 y9 y10 y11 y12 y13 yt yp t kI kZ fk fv fpa s2 fpt o2 d2 H.size (by omega) hvI hpI htI hc1) (cwV 1 hts g_c_measure_c_mshape_33 rfl rfl rfl (by decide +kernel) ⟨Nat.le_of_ble_eq_true rfl, Nat.le_of_ble_eq_true rfl⟩) ⟨fun a U g mk q => by obtain ⟨q0, q1, qP, qK, qD⟩ := q; exact ⟨q0, q1, qP, va_K.moved (u := U) (U := U.calling g mk a) (Vm.Alike.refl U.vm) qK, qD⟩, va_recv hKc hPc (ci := 10) (q0 := 0) rfl rfl, fun U hU hW => ⟨rfl, by rw [hU], by rw [hU]; exact hPc, va_K.moved hW.alike hKc, hDc.weaken (fun _ _ _ _ => trivial)⟩⟩ rfl rfl hl.1 rfl (lv_room (Nat.le_of_ble_eq_true rfl)) dX10_measure_33 ⟨(show 0 + 0 ≤ 0 by omega), (show 0 + 0 ≤ 0 by omega)⟩) hS (fun q _ h => hFc q h) hFc (fun u tS H1 locs ht hvm hw hB hz1 hk1 hS => ?_)
                obtain ⟨s3, o3, d3, hf3_0, hf3_1, hP1, hK1, hD1⟩ := hB
                rw [ht] at hP1
                have hK1 := va_K.moved hvm.symm hK1
                obtain ⟨hP, hD⟩ := va_join (wr := []) (w1 := [(y, .inr (10, [.ref y0, .ref y1, .ref y2, .ref y3, .ref y4, .ref y5, .ref y6, .int (nI yt), .int (nI yp), .ref y7, .ref y8, .ref y9, .ref y10, .ref y11, .ref y12, .ref y13])), (y0, .inl (kI, 3040, .inl fk)), (y8, .inl (kI, 30, .inl fv)), (y10, .inl (kI, 360, .inl fpa)), (y2, .inl (kI, 3040, .inl s3)), (y12, .inl (kI, 4320, .inl fpt)), (y13, .inl (kI, 4320, .inl o3)), (y3, .inl (kZ, 3040, .inl d3))]) hP hD [0, 1, 2, 3, 4, 5, 6, 7] [] rfl rfl (by decide) (by decide) hk1 hFc hP1 hD1
                have hK := hK.app hK1
                generalize H1 = H at hP hS ⊢
                have hP : va_P (dC, dI) vwCl [(y, .inr (10, [.ref y0, .ref y1, .ref y2, .ref y3, .ref y4, .ref y5, .ref y6, .int (nI yt), .int (nI yp), .ref y7, .ref y8, .ref y9, .ref y10, .ref y11, .ref y12, .ref y13])), (y0, .inl (kI, 3040, .inl fk)), (y8, .inl (kI, 30, .inl fv)), (y10, .inl (kI, 360, .inl fpa)), (y2, .inl (kI, 3040, .inl s3)), (y12, .inl (kI, 4320, .inl fpt)), (y13, .inl (kI, 4320, .inl o3)), (y3, .inl (kZ, 3040, .inl d3))] H := hP
                have hD : va_D A [(y, .inr (10, [.ref y0, .ref y1, .ref y2, .ref y3, .ref y4, .ref y5, .ref y6, .int (nI yt), .int (nI yp), .ref y7, .ref y8, .ref y9, .ref y10, .ref y11, .ref y12, .ref y13])), (y0, .inl (kI, 3040, .inl fk)), (y8, .inl (kI, 30, .inl fv)), (y10, .inl (kI, 360, .inl fpa)), (y2, .inl (kI, 3040, .inl s3)), (y12, .inl (kI, 4320, .inl fpt)), (y13, .inl (kI, 4320, .inl o3)), (y3, .inl (kZ, 3040, .inl d3))] := hD
                have hK : va_K (dC, dI) vwCl [(kI, .int), (kZ, .boolean), (kI, .int), (kZ, .boolean)] s := hK
                have hK := hK.sub (tys' := [(kI, .int), (kZ, .boolean)]) [0, 1] rfl
                have hP : va_P (dC, dI) vwCl [(y, .inr (10, [.ref y0, .ref y1, .ref y2, .ref y3, .ref y4, .ref y5, .ref y6, .int (nI yt), .int (nI yp), .ref y7, .ref y8, .ref y9, .ref y10, .ref y11, .ref y12, .ref y13])), (y0, .inl (kI, 3040, .inl fk)), (y8, .inl (kI, 30, .inl fv)), (y10, .inl (kI, 360, .inl fpa)), (y2, .inl (kI, 3040, .inl s3)), (y12, .inl (kI, 4320, .inl fpt)), (y13, .inl (kI, 4320, .inl o3)), (y3, .inl (kZ, 3040, .inl d3))] H := hP
                have hD : va_D A [(y, .inr (10, [.ref y0, .ref y1, .ref y2, .ref y3, .ref y4, .ref y5, .ref y6, .int (nI yt), .int (nI yp), .ref y7, .ref y8, .ref y9, .ref y10, .ref y11, .ref y12, .ref y13])), (y0, .inl (kI, 3040, .inl fk)), (y8, .inl (kI, 30, .inl fv)), (y10, .inl (kI, 360, .inl fpa)), (y2, .inl (kI, 3040, .inl s3)), (y12, .inl (kI, 4320, .inl fpt)), (y13, .inl (kI, 4320, .inl o3)), (y3, .inl (kZ, 3040, .inl d3))] := hD
                have hs3 : upI 3040 17 s3 := by rcases hf3_1 with z9 | ⟨mo, hmo, he9, _⟩; rw [z9]; exact hc1; rw [he9]; exact upI_put hc1 ⟨mo, hmo, rfl⟩
                obtain ⟨x_4, ex_4⟩ : ∃ yY : Int32, yY = (nI t) + 1 := ⟨_, rfl⟩
                refine lv_iinc (v := x_4) (lv' := [(2, .int x_4), (1, .int (nI r)), (0, .ref y)]) hx hb dX10_measure_36 hl (k := 0) rfl (by rw [ex_4]; rfl) (by decide) rfl (fun ls hl => ?_)
                obtain rfl : x_4 = nI (t + 1) := by rw [ex_4]; exact nI_1 t
                have hl : lv_has ls 3 [(2, .int (nI (t + 1))), (1, .int (nI r)), (0, .ref y)] := hl
                refine lv_goto (tgt := 12) hx hb dX10_measure_39 (by decide) ?_
                exact ih2 (t + 1) s3 o3 d3 _ _ _ (by omega) hs3 (hP.sub [0, 1, 2, 3, 4, 5, 6, 7] rfl) (hD.sub [0, 1, 2, 3, 4, 5, 6, 7] (by decide) rfl) hS (lv_sub hl [0, 1, 2] rfl)
        exact key2 (yp + 1) 0 s1 o1 d1 _ _ _ (by omega) hb1 (hP.sub [0, 1, 2, 3, 4, 5, 6, 7] rfl) (hD.sub [0, 1, 2, 3, 4, 5, 6, 7] (by decide) rfl) hS (lv_sub hl [0, 1, 2] rfl)
  exact key1 (yp + 1) 0 fs fof fd _ _ _ (by omega) hsI (hP.sub [0, 1, 2, 3, 4, 5, 6, 7] rfl) (hD.sub [0, 1, 2, 3, 4, 5, 6, 7] (by decide) rfl) hS (lv_sub hl [0, 1] rfl)
