def wf_c_dep : List Cond := [.code yX23_depth cX23_depth 3 (some .int), .code yX23_bare cX23_bare 2 (some (.object "OwnedPlacesModel$Exp")), .fieldLink RX23 330 "OwnedPlacesModel$Exp" "kind" "I", .fieldLink RX23 331 "OwnedPlacesModel$Exp" "of" "LOwnedPlacesModel$Exp;", .methodLink RX23 480 yX23_bare, .static yX23_bare, .initialized RX23]
def wp_c_dep : List Cond := wf_c_dep ++ (wsX150 ++ [])
theorem in_c_dep_X15 : ∀ w ∈ wsX150, w ∈ wp_c_dep := fun w h => List.mem_append_right _ (List.mem_append_left _ h)
theorem wg_c_dep : wf_c_dep.all goodWord = true := by decide +kernel
theorem wm_c_dep (k : Nat) {w : Cond} (h : wp_c_dep[k]? = some w) : w ∈ wp_c_dep := List.mem_of_getElem? h
set_option maxRecDepth 20000 in
theorem g_c_dep_c_bar_3 : GoodIn wp_c_dep (va_wsS RX23 480 yX23_bare wp_c_bar) := goodIn_app (goodIn_f [.methodLink RX23 480 yX23_bare, .static yX23_bare, .initialized RX23] [4, 5, 6] rfl (by decide +kernel)) (goodIn_app (goodIn_f (wf_c_bar) [1, 2, 3] rfl wg_c_bar) (goodIn_app (goodIn_sub in_c_dep_X15 gd_X15) (goodIn_n)))
set_option maxRecDepth 20000 in
theorem g_c_dep_c_bar_32 : GoodIn wp_c_dep (va_wsS RX23 480 yX23_bare wp_c_bar) := goodIn_app (goodIn_f [.methodLink RX23 480 yX23_bare, .static yX23_bare, .initialized RX23] [4, 5, 6] rfl (by decide +kernel)) (goodIn_app (goodIn_f (wf_c_bar) [1, 2, 3] rfl wg_c_bar) (goodIn_app (goodIn_sub in_c_dep_X15 gd_X15) (goodIn_n)))
set_option maxHeartbeats 4000000 in
set_option maxRecDepth 100000 in
theorem c_dep (l : Launch) (dC : Nat → ClassId) (dI : Nat → Nat → Nat) (ee n v : Nat) (ys : List Nat) (L : List Nat) (F : Nat → va_E) (sz : Nat) (hpd : plD L F n ee ys v) (hd9 : ys.length ≤ 10000) : Met l yX23_depth wp_c_dep ({ frames := 1, cells := 0, slots := 0, locals := 21 }) (va_Pc [.ref ee] (fun U => U.heap.size = sz ∧ va_P (dC, dI) vwCl (([] : va_W) ++ (sT L F)) U.heap ∧ va_K (dC, dI) vwCl [] U ∧ va_D (fun _ => True) (([] : va_W) ++ (sT L F)))) (va_Qi (fun (r : Int32) (_ : Unit) => r = nI ys.length) (fun (_ : Unit) (tS : State) => va_P (dC, dI) vwCl (([] : va_W) ++ (sT L F)) tS.heap ∧ va_K (dC, dI) vwCl [] tS ∧ va_D (va_A (([] : va_W) ++ (sT L F)) sz) (([] : va_W) ++ (sT L F))) (va_A (([] : va_W) ++ (sT L F)) sz)) 0 0 (va_A (([] : va_W) ++ (sT L F)) sz) := by
  refine Met.ofW (cc := cX23_depth) (maxL := 3) (ret := (some .int)) (by decide) rfl ?_
  intro p e s m args below meth c s₁ B hml hv
  obtain ⟨rfl, hsz, hP, hK, hD0⟩ := hv
  have hx := B.exec
  have hb := B.bytes
  have hr := B.returns
  have hts := atoms_spec (ws := wp_c_dep) B.pre
  have hown : s.vm.findClass RX23 = some m.cls := findClass_of_methodNamed B.named
  have hlocks := B.notSynchronized
  subst hsz
  have hD := hD0.self (sz := s.heap.size)
  generalize hAe : va_A (([] : va_W) ++ (sT L F)) s.heap.size = A at hD ⊢
  have hA : ∀ q : Nat, s.heap.size ≤ q → A q := fun q h => by rw [← hAe]; exact Or.inr h
  have hS : va_S A s.heap s.heap [] := va_S.rf
  have hP : va_P (dC, dI) vwCl (([] : va_W) ++ (sT L F)) s.heap := hP
  have hl := lv_entry ([.ref ee]) (n := 3) (Nat.le_of_ble_eq_true rfl)
  rw [lg_entry_eq]
  generalize (lg_sl ([.ref ee]) ++ List.replicate (3 - (lg_sl ([.ref ee])).length) Slot.unset).toArray = ls at hl ⊢
  have hl : lv_has ls 3 [(0, .ref ee)] := hl
  refine lv_iconst (v := 0) hx hb dX23_depth_0 (by decide) ?_
  refine lv_istore_n (lv' := [(1, .int 0), (0, .ref ee)]) hx hb dX23_depth_1 rfl hl (by decide) rfl (fun ls hl => ?_)
  refine lv_aload_n hx hb dX23_depth_2 rfl (lv_at hl 1 rfl) ?_
  have hPc := hP.subT (f' := []) [] rfl
  have hDc := hD.subT (f' := []) [] (by decide) rfl
  have hKc := hK.sub (tys' := []) [] rfl
  have hFc := va_freeB (wc := []) hD hS hA [] rfl
  refine va_callr (va_runS (As := [.ref ee]) (rest := []) ⟨hx, hb, hml, hown, hts⟩ (c_bar l dC dI ee n v ys L F s.heap.size hpd) (va_cwS 1 hts g_c_dep_c_bar_3 rfl rfl rfl (by decide +kernel) ⟨Nat.le_of_ble_eq_true rfl, Nat.le_of_ble_eq_true rfl⟩) ⟨fun a U g mk q => by obtain ⟨q0, q1, qP, qK, qD⟩ := q; exact ⟨q0, q1, qP, va_K.moved (u := U) (U := U.calling g mk a) (Vm.Alike.refl U.vm) qK, qD⟩, fun U hU hW => ⟨rfl, by rw [hU], by rw [hU]; exact hPc, va_K.moved hW.alike hKc, hDc.weaken (fun _ _ _ _ => trivial)⟩⟩ rfl rfl hl.1 rfl (lv_room (Nat.le_of_ble_eq_true rfl)) dX23_depth_3 ⟨(show 0 + 0 ≤ 0 by omega), (show 0 + 0 ≤ 0 by omega)⟩) hS (fun q _ h => hFc q h) hFc (fun u r_1 tS H1 locs ht hvm hw hB hz1 hk1 hS => ?_)
  obtain ⟨m8, kd8, vo8, fs8, hf1_0, hf1_1, hP1, hK1, hD1⟩ := hB
  rw [ht] at hP1
  have hK1 := va_K.moved hvm.symm hK1
  obtain ⟨hP, hD⟩ := va_joinB (wr := []) (w1 := []) hP hD [] [] rfl rfl (by decide) (by decide) hk1 hFc hP1 hD1
  generalize H1 = H at hP hS ⊢
  have hP : va_P (dC, dI) vwCl (([] : va_W) ++ (sT L F)) H := hP
  have hD : va_D A (([] : va_W) ++ (sT L F)) := hD
  have hK : va_K (dC, dI) vwCl [] s := hK
  clear hz1 hk1 hPc hDc hKc hFc hP1 hD1 hK1
  refine lv_astore_n (lv' := [(2, .ref r_1), (1, .int 0), (0, .ref ee)]) hx hb dX23_depth_6 rfl hl (by decide) rfl (fun ls hl => ?_)
  refine W_q (fun Q1 hQ1 => ?_)
  have key1 : ∀ (n1 : Nat) (x1 m1 : Nat) (y1 : List Nat) (kd1 : Int32) (vo1 : Value) (fs1 : List Value) (c1 : Nat) (H : Heap) (locs : List Loc) (ls : Array Slot), (m1 + 1 ≤ n1 ∧ c1 + y1.length = ys.length) → (x1 ∈ L ∧ F x1 = .inr (15, fs1) ∧ fs1[0]? = some (.int kd1) ∧ fs1[8]? = some vo1) → ((kd1 = 2 ∧ y1 = [] ∧ v = x1) ∨ ((kd1 = 14 ∨ kd1 = 11) ∧ ∃ (o : Nat) (zs : List Nat), vo1 = .ref o ∧ y1 = x1 :: zs ∧ plD L F m1 o zs v)) → va_P (dC, dI) vwCl (([] : va_W) ++ (sT L F)) H → va_D A (([] : va_W) ++ (sT L F)) → va_S A s.heap H locs → lv_has ls 3 [(2, .ref x1), (1, .int (nI c1)), (0, .ref ee)] → W p l e (headSpec wp_c_dep ({ frames := 1, cells := 0, slots := 0, locals := 21 })).room s m ([.ref ee] : List Value).toArray below meth c H locs 0 0 Q1 (F0 m 7 ls []) := by
    intro n1
    induction n1 with
    | zero => intro x1 m1 y1 kd1 vo1 fs1 c1 H locs ls ha0 ha1 ha2; exact absurd ha0 (by omega)
    | succ n1 ih1 =>
      intro x1 m1 y1 kd1 vo1 fs1 c1 H locs ls ha0 ha1 ha2 hP hD hS hl
      refine lv_aload_n hx hb dX23_depth_7 rfl (lv_at hl 0 rfl) ?_
      refine va_get (D := (dC, dI)) (ci := 15) (v := .int kd1) (C := RX15) (T := TX15) (N := 14) hx hb hts in_c_dep_X15 hown hK (va_P.st hP ha1.1 ha1.2.1) 0 rfl rfl 0 (by decide) (hts (.fieldLink RX23 330 "OwnedPlacesModel$Exp" "kind" "I") (wm_c_dep 2 rfl)) (fun _ h9 => h9) ha1.2.2.1 dX23_depth_8 ?_
      refine lv_bipush (v := 14) hx hb dX23_depth_11 (by decide) ?_
      refine lv_icmp_eq (tgt := 25) hx hb dX23_depth_13 (by decide) (fun hb_2 => ?_) (fun hb_2 => ?_)
      · obtain ⟨o9, z9_, rfl, hd8, hpo⟩ := (ha2.resolve_left (fun q9 => absurd (hb_2.symm.trans q9.1) (by decide))).2
        have hl8 : y1.length = z9_.length + 1 := by rw [hd8]; rfl
        obtain ⟨x_3, ex_3⟩ : ∃ yY : Int32, yY = (nI c1) + 1 := ⟨_, rfl⟩
        refine lv_iinc (v := x_3) (lv' := [(1, .int x_3), (2, .ref x1), (0, .ref ee)]) hx hb dX23_depth_25 hl (k := 1) rfl (by rw [ex_3]; rfl) (by decide) rfl (fun ls hl => ?_)
        obtain rfl : x_3 = nI (c1 + 1) := by rw [ex_3]; exact nI_1 c1
        have hl : lv_has ls 3 [(1, .int (nI (c1 + 1))), (2, .ref x1), (0, .ref ee)] := hl
        refine lv_aload_n hx hb dX23_depth_28 rfl (lv_at hl 1 rfl) ?_
        refine va_get (D := (dC, dI)) (ci := 15) (v := .ref o9) (C := RX15) (T := TX15) (N := 14) hx hb hts in_c_dep_X15 hown hK (va_P.st hP ha1.1 ha1.2.1) 0 rfl rfl 8 (by decide) (hts (.fieldLink RX23 331 "OwnedPlacesModel$Exp" "of" "LOwnedPlacesModel$Exp;") (wm_c_dep 3 rfl)) (fun _ h9 => h9) ha1.2.2.2 dX23_depth_29 ?_
        have hPc := hP.subT (f' := []) [] rfl
        have hDc := hD.subT (f' := []) [] (by decide) rfl
        have hKc := hK.sub (tys' := []) [] rfl
        have hFc := va_freeB (wc := []) hD hS hA [] rfl
        refine va_callr (va_runS (As := [.ref o9]) (rest := []) ⟨hx, hb, hml, hown, hts⟩ (c_bar l dC dI o9 m1 v z9_ L F H.size hpo) (va_cwS 1 hts g_c_dep_c_bar_32 rfl rfl rfl (by decide +kernel) ⟨Nat.le_of_ble_eq_true rfl, Nat.le_of_ble_eq_true rfl⟩) ⟨fun a U g mk q => by obtain ⟨q0, q1, qP, qK, qD⟩ := q; exact ⟨q0, q1, qP, va_K.moved (u := U) (U := U.calling g mk a) (Vm.Alike.refl U.vm) qK, qD⟩, fun U hU hW => ⟨rfl, by rw [hU], by rw [hU]; exact hPc, va_K.moved hW.alike hKc, hDc.weaken (fun _ _ _ _ => trivial)⟩⟩ rfl rfl hl.1 rfl (lv_room (Nat.le_of_ble_eq_true rfl)) dX23_depth_32 ⟨(show 0 + 0 ≤ 0 by omega), (show 0 + 0 ≤ 0 by omega)⟩) hS (fun q _ h => hFc q h) hFc (fun u r_4 tS H1 locs ht hvm hw hB hz1 hk1 hS => ?_)
        obtain ⟨mz3, kdz3, voz3, fsz3, hf4_0, hf4_1, hP1, hK1, hD1⟩ := hB
        rw [ht] at hP1
        have hK1 := va_K.moved hvm.symm hK1
        obtain ⟨hP, hD⟩ := va_joinB (wr := []) (w1 := []) hP hD [] [] rfl rfl (by decide) (by decide) hk1 hFc hP1 hD1
        generalize H1 = H at hP hS ⊢
        have hP : va_P (dC, dI) vwCl (([] : va_W) ++ (sT L F)) H := hP
        have hD : va_D A (([] : va_W) ++ (sT L F)) := hD
        have hK : va_K (dC, dI) vwCl [] s := hK
        clear hz1 hk1 hPc hDc hKc hFc hP1 hD1 hK1
        refine lv_astore_n (lv' := [(2, .ref r_4), (1, .int (nI (c1 + 1))), (0, .ref ee)]) hx hb dX23_depth_35 rfl hl (by decide) rfl (fun ls hl => ?_)
        refine lv_goto (tgt := 7) hx hb dX23_depth_36 (by decide) ?_
        exact ih1 r_4 mz3 z9_ kdz3 voz3 fsz3 (c1 + 1) _ _ _ (⟨by omega, by omega⟩) hf4_0.2 hf4_1 (hP.subT [] rfl) (hD.subT [] (by decide) rfl) hS (lv_sub hl [0, 1, 2] rfl)
      · refine lv_aload_n hx hb dX23_depth_16 rfl (lv_at hl 0 rfl) ?_
        refine va_get (D := (dC, dI)) (ci := 15) (v := .int kd1) (C := RX15) (T := TX15) (N := 14) hx hb hts in_c_dep_X15 hown hK (va_P.st hP ha1.1 ha1.2.1) 0 rfl rfl 0 (by decide) (hts (.fieldLink RX23 330 "OwnedPlacesModel$Exp" "kind" "I") (wm_c_dep 2 rfl)) (fun _ h9 => h9) ha1.2.2.1 dX23_depth_17 ?_
        refine lv_bipush (v := 11) hx hb dX23_depth_20 (by decide) ?_
        refine lv_icmp_ne (tgt := 39) hx hb dX23_depth_22 (by decide) (fun hb_3 => ?_) (fun hb_3 => ?_)
        · refine lv_iload_n hx hb dX23_depth_39 rfl (lv_at hl 1 rfl) ?_
          have hz9 : c1 = ys.length := by
            rcases ha2 with ⟨_, q9, _⟩ | ⟨q9 | q9, _⟩
            · rw [q9] at ha0; have := ha0.2; rw [List.length_nil] at this; omega
            · contradiction
            · contradiction
          have hP9 := hP.subT (f' := []) [] rfl
          have hD9 := hD.subT (f' := []) [] (by decide) rfl
          have hK9 := hK.sub (tys' := []) [] rfl
          subst hQ1
          exact W.iret (v := nI c1) hx hb hr (fun tS ht hW => ⟨⟨(nI c1), (), rfl, (by rw [hz9]), by rw [ht]; exact hP9, va_K.moved hW.alike hK9, hD9⟩, hS.F ht⟩) hS.2.2 dX23_depth_40
        · obtain ⟨o9, z9_, rfl, hd8, hpo⟩ := (ha2.resolve_left (fun q9 => absurd (hb_3.symm.trans q9.1) (by decide))).2
          have hl8 : y1.length = z9_.length + 1 := by rw [hd8]; rfl
          obtain ⟨x_4, ex_4⟩ : ∃ yY : Int32, yY = (nI c1) + 1 := ⟨_, rfl⟩
          refine lv_iinc (v := x_4) (lv' := [(1, .int x_4), (2, .ref x1), (0, .ref ee)]) hx hb dX23_depth_25 hl (k := 1) rfl (by rw [ex_4]; rfl) (by decide) rfl (fun ls hl => ?_)
          obtain rfl : x_4 = nI (c1 + 1) := by rw [ex_4]; exact nI_1 c1
          have hl : lv_has ls 3 [(1, .int (nI (c1 + 1))), (2, .ref x1), (0, .ref ee)] := hl
          refine lv_aload_n hx hb dX23_depth_28 rfl (lv_at hl 1 rfl) ?_
          refine va_get (D := (dC, dI)) (ci := 15) (v := .ref o9) (C := RX15) (T := TX15) (N := 14) hx hb hts in_c_dep_X15 hown hK (va_P.st hP ha1.1 ha1.2.1) 0 rfl rfl 8 (by decide) (hts (.fieldLink RX23 331 "OwnedPlacesModel$Exp" "of" "LOwnedPlacesModel$Exp;") (wm_c_dep 3 rfl)) (fun _ h9 => h9) ha1.2.2.2 dX23_depth_29 ?_
          have hPc := hP.subT (f' := []) [] rfl
          have hDc := hD.subT (f' := []) [] (by decide) rfl
          have hKc := hK.sub (tys' := []) [] rfl
          have hFc := va_freeB (wc := []) hD hS hA [] rfl
          refine va_callr (va_runS (As := [.ref o9]) (rest := []) ⟨hx, hb, hml, hown, hts⟩ (c_bar l dC dI o9 m1 v z9_ L F H.size hpo) (va_cwS 1 hts g_c_dep_c_bar_32 rfl rfl rfl (by decide +kernel) ⟨Nat.le_of_ble_eq_true rfl, Nat.le_of_ble_eq_true rfl⟩) ⟨fun a U g mk q => by obtain ⟨q0, q1, qP, qK, qD⟩ := q; exact ⟨q0, q1, qP, va_K.moved (u := U) (U := U.calling g mk a) (Vm.Alike.refl U.vm) qK, qD⟩, fun U hU hW => ⟨rfl, by rw [hU], by rw [hU]; exact hPc, va_K.moved hW.alike hKc, hDc.weaken (fun _ _ _ _ => trivial)⟩⟩ rfl rfl hl.1 rfl (lv_room (Nat.le_of_ble_eq_true rfl)) dX23_depth_32 ⟨(show 0 + 0 ≤ 0 by omega), (show 0 + 0 ≤ 0 by omega)⟩) hS (fun q _ h => hFc q h) hFc (fun u r_5 tS H1 locs ht hvm hw hB hz1 hk1 hS => ?_)
          obtain ⟨mz4, kdz4, voz4, fsz4, hf5_0, hf5_1, hP1, hK1, hD1⟩ := hB
          rw [ht] at hP1
          have hK1 := va_K.moved hvm.symm hK1
          obtain ⟨hP, hD⟩ := va_joinB (wr := []) (w1 := []) hP hD [] [] rfl rfl (by decide) (by decide) hk1 hFc hP1 hD1
          generalize H1 = H at hP hS ⊢
          have hP : va_P (dC, dI) vwCl (([] : va_W) ++ (sT L F)) H := hP
          have hD : va_D A (([] : va_W) ++ (sT L F)) := hD
          have hK : va_K (dC, dI) vwCl [] s := hK
          clear hz1 hk1 hPc hDc hKc hFc hP1 hD1 hK1
          refine lv_astore_n (lv' := [(2, .ref r_5), (1, .int (nI (c1 + 1))), (0, .ref ee)]) hx hb dX23_depth_35 rfl hl (by decide) rfl (fun ls hl => ?_)
          refine lv_goto (tgt := 7) hx hb dX23_depth_36 (by decide) ?_
          exact ih1 r_5 mz4 z9_ kdz4 voz4 fsz4 (c1 + 1) _ _ _ (⟨by omega, by omega⟩) hf5_0.2 hf5_1 (hP.subT [] rfl) (hD.subT [] (by decide) rfl) hS (lv_sub hl [0, 1, 2] rfl)
  exact key1 (n + 1) r_1 m8 ys kd8 vo8 fs8 0 _ _ _ (⟨by omega, by omega⟩) hf1_0.2 hf1_1 (hP.subT [] rfl) (hD.subT [] (by decide) rfl) hS (lv_sub hl [0, 1, 2] rfl)
def wf_c_ipt : List Cond := [.code yX23_isPart cX23_isPart 2 (some .boolean), .code yX23_bare cX23_bare 2 (some (.object "OwnedPlacesModel$Exp")), .fieldLink RX23 330 "OwnedPlacesModel$Exp" "kind" "I", .fieldLink RX23 331 "OwnedPlacesModel$Exp" "of" "LOwnedPlacesModel$Exp;", .methodLink RX23 480 yX23_bare, .static yX23_bare, .initialized RX23]
def wp_c_ipt : List Cond := wf_c_ipt ++ (wsX150 ++ [])
theorem in_c_ipt_X15 : ∀ w ∈ wsX150, w ∈ wp_c_ipt := fun w h => List.mem_append_right _ (List.mem_append_left _ h)
theorem wg_c_ipt : wf_c_ipt.all goodWord = true := by decide +kernel
theorem wm_c_ipt (k : Nat) {w : Cond} (h : wp_c_ipt[k]? = some w) : w ∈ wp_c_ipt := List.mem_of_getElem? h
set_option maxRecDepth 20000 in
theorem g_c_ipt_c_bar_1 : GoodIn wp_c_ipt (va_wsS RX23 480 yX23_bare wp_c_bar) := goodIn_app (goodIn_f [.methodLink RX23 480 yX23_bare, .static yX23_bare, .initialized RX23] [4, 5, 6] rfl (by decide +kernel)) (goodIn_app (goodIn_f (wf_c_bar) [1, 2, 3] rfl wg_c_bar) (goodIn_app (goodIn_sub in_c_ipt_X15 gd_X15) (goodIn_n)))
set_option maxRecDepth 20000 in
theorem g_c_ipt_c_bar_18 : GoodIn wp_c_ipt (va_wsS RX23 480 yX23_bare wp_c_bar) := goodIn_app (goodIn_f [.methodLink RX23 480 yX23_bare, .static yX23_bare, .initialized RX23] [4, 5, 6] rfl (by decide +kernel)) (goodIn_app (goodIn_f (wf_c_bar) [1, 2, 3] rfl wg_c_bar) (goodIn_app (goodIn_sub in_c_ipt_X15 gd_X15) (goodIn_n)))
set_option maxHeartbeats 4000000 in
set_option maxRecDepth 100000 in
theorem c_ipt (l : Launch) (dC : Nat → ClassId) (dI : Nat → Nat → Nat) (ee n v : Nat) (ys : List Nat) (L : List Nat) (F : Nat → va_E) (sz : Nat) (hpd : plD L F n ee ys v) : Met l yX23_isPart wp_c_ipt ({ frames := 1, cells := 0, slots := 0, locals := 21 }) (va_Pc [.ref ee] (fun U => U.heap.size = sz ∧ va_P (dC, dI) vwCl (([] : va_W) ++ (sT L F)) U.heap ∧ va_K (dC, dI) vwCl [] U ∧ va_D (fun _ => True) (([] : va_W) ++ (sT L F)))) (va_Qi (fun (r : Int32) (_ : Unit) => (r = 0 ∨ r = 1) ∧ (r = 1 → ptD F ys)) (fun (_ : Unit) (tS : State) => va_P (dC, dI) vwCl (([] : va_W) ++ (sT L F)) tS.heap ∧ va_K (dC, dI) vwCl [] tS ∧ va_D (va_A (([] : va_W) ++ (sT L F)) sz) (([] : va_W) ++ (sT L F))) (va_A (([] : va_W) ++ (sT L F)) sz)) 0 0 (va_A (([] : va_W) ++ (sT L F)) sz) := by
  refine Met.ofW (cc := cX23_isPart) (maxL := 2) (ret := (some .boolean)) (by decide) rfl ?_
  intro p e s m args below meth c s₁ B hml hv
  obtain ⟨rfl, hsz, hP, hK, hD0⟩ := hv
  have hx := B.exec
  have hb := B.bytes
  have hr := B.returns
  have hts := atoms_spec (ws := wp_c_ipt) B.pre
  have hown : s.vm.findClass RX23 = some m.cls := findClass_of_methodNamed B.named
  have hlocks := B.notSynchronized
  subst hsz
  have hD := hD0.self (sz := s.heap.size)
  generalize hAe : va_A (([] : va_W) ++ (sT L F)) s.heap.size = A at hD ⊢
  have hA : ∀ q : Nat, s.heap.size ≤ q → A q := fun q h => by rw [← hAe]; exact Or.inr h
  have hS : va_S A s.heap s.heap [] := va_S.rf
  have hP : va_P (dC, dI) vwCl (([] : va_W) ++ (sT L F)) s.heap := hP
  have hl := lv_entry ([.ref ee]) (n := 2) (Nat.le_of_ble_eq_true rfl)
  rw [lg_entry_eq]
  generalize (lg_sl ([.ref ee]) ++ List.replicate (2 - (lg_sl ([.ref ee])).length) Slot.unset).toArray = ls at hl ⊢
  have hl : lv_has ls 2 [(0, .ref ee)] := hl
  refine lv_aload_n hx hb dX23_isPart_0 rfl (lv_at hl 0 rfl) ?_
  have hPc := hP.subT (f' := []) [] rfl
  have hDc := hD.subT (f' := []) [] (by decide) rfl
  have hKc := hK.sub (tys' := []) [] rfl
  have hFc := va_freeB (wc := []) hD hS hA [] rfl
  refine va_callr (va_runS (As := [.ref ee]) (rest := []) ⟨hx, hb, hml, hown, hts⟩ (c_bar l dC dI ee n v ys L F s.heap.size hpd) (va_cwS 1 hts g_c_ipt_c_bar_1 rfl rfl rfl (by decide +kernel) ⟨Nat.le_of_ble_eq_true rfl, Nat.le_of_ble_eq_true rfl⟩) ⟨fun a U g mk q => by obtain ⟨q0, q1, qP, qK, qD⟩ := q; exact ⟨q0, q1, qP, va_K.moved (u := U) (U := U.calling g mk a) (Vm.Alike.refl U.vm) qK, qD⟩, fun U hU hW => ⟨rfl, by rw [hU], by rw [hU]; exact hPc, va_K.moved hW.alike hKc, hDc.weaken (fun _ _ _ _ => trivial)⟩⟩ rfl rfl hl.1 rfl (lv_room (Nat.le_of_ble_eq_true rfl)) dX23_isPart_1 ⟨(show 0 + 0 ≤ 0 by omega), (show 0 + 0 ≤ 0 by omega)⟩) hS (fun q _ h => hFc q h) hFc (fun u r_1 tS H1 locs ht hvm hw hB hz1 hk1 hS => ?_)
  obtain ⟨m8, kd8, vo8, fs8, hf1_0, hf1_1, hP1, hK1, hD1⟩ := hB
  rw [ht] at hP1
  have hK1 := va_K.moved hvm.symm hK1
  obtain ⟨hP, hD⟩ := va_joinB (wr := []) (w1 := []) hP hD [] [] rfl rfl (by decide) (by decide) hk1 hFc hP1 hD1
  generalize H1 = H at hP hS ⊢
  have hP : va_P (dC, dI) vwCl (([] : va_W) ++ (sT L F)) H := hP
  have hD : va_D A (([] : va_W) ++ (sT L F)) := hD
  have hK : va_K (dC, dI) vwCl [] s := hK
  clear hz1 hk1 hPc hDc hKc hFc hP1 hD1 hK1
  refine lv_astore_n (lv' := [(1, .ref r_1), (0, .ref ee)]) hx hb dX23_isPart_4 rfl hl (by decide) rfl (fun ls hl => ?_)
  refine W_q (fun Q1 hQ1 => ?_)
  have key1 : ∀ (n1 : Nat) (x1 m1 : Nat) (y1 : List Nat) (kd1 : Int32) (vo1 : Value) (fs1 : List Value) (H : Heap) (locs : List Loc) (ls : Array Slot), (m1 + 1 ≤ n1) → (x1 ∈ L ∧ F x1 = .inr (15, fs1) ∧ fs1[0]? = some (.int kd1) ∧ fs1[8]? = some vo1) → ((kd1 = 2 ∧ y1 = [] ∧ v = x1) ∨ ((kd1 = 14 ∨ kd1 = 11) ∧ ∃ (o : Nat) (zs : List Nat), vo1 = .ref o ∧ y1 = x1 :: zs ∧ plD L F m1 o zs v)) → (ptD F y1 → ptD F ys) → va_P (dC, dI) vwCl (([] : va_W) ++ (sT L F)) H → va_D A (([] : va_W) ++ (sT L F)) → va_S A s.heap H locs → lv_has ls 2 [(1, .ref x1), (0, .ref ee)] → W p l e (headSpec wp_c_ipt ({ frames := 1, cells := 0, slots := 0, locals := 21 })).room s m ([.ref ee] : List Value).toArray below meth c H locs 0 0 Q1 (F0 m 5 ls []) := by
    intro n1
    induction n1 with
    | zero => intro x1 m1 y1 kd1 vo1 fs1 H locs ls ha0 ha1 ha2 ha3; exact absurd ha0 (by omega)
    | succ n1 ih1 =>
      intro x1 m1 y1 kd1 vo1 fs1 H locs ls ha0 ha1 ha2 ha3 hP hD hS hl
      refine lv_aload_n hx hb dX23_isPart_5 rfl (lv_at hl 0 rfl) ?_
      refine va_get (D := (dC, dI)) (ci := 15) (v := .int kd1) (C := RX15) (T := TX15) (N := 14) hx hb hts in_c_ipt_X15 hown hK (va_P.st hP ha1.1 ha1.2.1) 0 rfl rfl 0 (by decide) (hts (.fieldLink RX23 330 "OwnedPlacesModel$Exp" "kind" "I") (wm_c_ipt 2 rfl)) (fun _ h9 => h9) ha1.2.2.1 dX23_isPart_6 ?_
      refine lv_bipush (v := 14) hx hb dX23_isPart_9 (by decide) ?_
      refine lv_icmp_ne (tgt := 25) hx hb dX23_isPart_11 (by decide) (fun hb_2 => ?_) (fun hb_2 => ?_)
      · refine lv_aload_n hx hb dX23_isPart_25 rfl (lv_at hl 0 rfl) ?_
        refine va_get (D := (dC, dI)) (ci := 15) (v := .int kd1) (C := RX15) (T := TX15) (N := 14) hx hb hts in_c_ipt_X15 hown hK (va_P.st hP ha1.1 ha1.2.1) 0 rfl rfl 0 (by decide) (hts (.fieldLink RX23 330 "OwnedPlacesModel$Exp" "kind" "I") (wm_c_ipt 2 rfl)) (fun _ h9 => h9) ha1.2.2.1 dX23_isPart_26 ?_
        refine lv_iconst (v := 2) hx hb dX23_isPart_29 (by decide) ?_
        refine lv_icmp_ne (tgt := 37) hx hb dX23_isPart_30 (by decide) (fun hb_3 => ?_) (fun hb_3 => ?_)
        · refine lv_iconst (v := 0) hx hb dX23_isPart_37 (by decide) ?_
          have hP9 := hP.subT (f' := []) [] rfl
          have hD9 := hD.subT (f' := []) [] (by decide) rfl
          have hK9 := hK.sub (tys' := []) [] rfl
          subst hQ1
          exact W.zret (v := 0) hx hb hr (by decide) (fun tS ht hW => ⟨⟨0, (), rfl, ⟨Or.inl rfl, fun q => absurd q (by decide)⟩, by rw [ht]; exact hP9, va_K.moved hW.alike hK9, hD9⟩, hS.F ht⟩) hS.2.2 dX23_isPart_38
        · refine lv_iconst (v := 1) hx hb dX23_isPart_33 (by decide) ?_
          refine lv_goto (tgt := 38) hx hb dX23_isPart_34 (by decide) ?_
          have hy9 : y1 = [] := (ha2.resolve_right (fun q9 => by rcases q9.1 with q8 | q8 <;> exact absurd (hb_3.symm.trans q8) (by decide))).2.1
          have hP9 := hP.subT (f' := []) [] rfl
          have hD9 := hD.subT (f' := []) [] (by decide) rfl
          have hK9 := hK.sub (tys' := []) [] rfl
          subst hQ1
          exact W.zret (v := 1) hx hb hr (by decide) (fun tS ht hW => ⟨⟨1, (), rfl, ⟨Or.inr rfl, fun _ => ha3 (by rw [hy9]; intro y9 h9; cases h9)⟩, by rw [ht]; exact hP9, va_K.moved hW.alike hK9, hD9⟩, hS.F ht⟩) hS.2.2 dX23_isPart_38
      · refine lv_aload_n hx hb dX23_isPart_14 rfl (lv_at hl 0 rfl) ?_
        obtain ⟨o9, z9_, rfl, hd8, hpo⟩ := (ha2.resolve_left (fun q9 => absurd (hb_2.symm.trans q9.1) (by decide))).2
        refine va_get (D := (dC, dI)) (ci := 15) (v := .ref o9) (C := RX15) (T := TX15) (N := 14) hx hb hts in_c_ipt_X15 hown hK (va_P.st hP ha1.1 ha1.2.1) 0 rfl rfl 8 (by decide) (hts (.fieldLink RX23 331 "OwnedPlacesModel$Exp" "of" "LOwnedPlacesModel$Exp;") (wm_c_ipt 3 rfl)) (fun _ h9 => h9) ha1.2.2.2 dX23_isPart_15 ?_
        have hPc := hP.subT (f' := []) [] rfl
        have hDc := hD.subT (f' := []) [] (by decide) rfl
        have hKc := hK.sub (tys' := []) [] rfl
        have hFc := va_freeB (wc := []) hD hS hA [] rfl
        refine va_callr (va_runS (As := [.ref o9]) (rest := []) ⟨hx, hb, hml, hown, hts⟩ (c_bar l dC dI o9 m1 v z9_ L F H.size hpo) (va_cwS 1 hts g_c_ipt_c_bar_18 rfl rfl rfl (by decide +kernel) ⟨Nat.le_of_ble_eq_true rfl, Nat.le_of_ble_eq_true rfl⟩) ⟨fun a U g mk q => by obtain ⟨q0, q1, qP, qK, qD⟩ := q; exact ⟨q0, q1, qP, va_K.moved (u := U) (U := U.calling g mk a) (Vm.Alike.refl U.vm) qK, qD⟩, fun U hU hW => ⟨rfl, by rw [hU], by rw [hU]; exact hPc, va_K.moved hW.alike hKc, hDc.weaken (fun _ _ _ _ => trivial)⟩⟩ rfl rfl hl.1 rfl (lv_room (Nat.le_of_ble_eq_true rfl)) dX23_isPart_18 ⟨(show 0 + 0 ≤ 0 by omega), (show 0 + 0 ≤ 0 by omega)⟩) hS (fun q _ h => hFc q h) hFc (fun u r_3 tS H1 locs ht hvm hw hB hz1 hk1 hS => ?_)
        obtain ⟨mz2, kdz2, voz2, fsz2, hf3_0, hf3_1, hP1, hK1, hD1⟩ := hB
        rw [ht] at hP1
        have hK1 := va_K.moved hvm.symm hK1
        obtain ⟨hP, hD⟩ := va_joinB (wr := []) (w1 := []) hP hD [] [] rfl rfl (by decide) (by decide) hk1 hFc hP1 hD1
        generalize H1 = H at hP hS ⊢
        have hP : va_P (dC, dI) vwCl (([] : va_W) ++ (sT L F)) H := hP
        have hD : va_D A (([] : va_W) ++ (sT L F)) := hD
        have hK : va_K (dC, dI) vwCl [] s := hK
        clear hz1 hk1 hPc hDc hKc hFc hP1 hD1 hK1
        refine lv_astore_n (lv' := [(1, .ref r_3), (0, .ref ee)]) hx hb dX23_isPart_21 rfl hl (by decide) rfl (fun ls hl => ?_)
        refine lv_goto (tgt := 5) hx hb dX23_isPart_22 (by decide) ?_
        exact ih1 r_3 mz2 z9_ kdz2 voz2 fsz2 _ _ _ (by omega) hf3_0.2 hf3_1 (fun q9 => ha3 (by rw [hd8]; exact ptD_c q9 ha1.2.1 ha1.2.2.1 hb_2)) (hP.subT [] rfl) (hD.subT [] (by decide) rfl) hS (lv_sub hl [0, 1] rfl)
  exact key1 (n + 1) r_1 m8 ys kd8 vo8 fs8 _ _ _ (by omega) hf1_0.2 hf1_1 id (hP.subT [] rfl) (hD.subT [] (by decide) rfl) hS (lv_sub hl [0, 1] rfl)
