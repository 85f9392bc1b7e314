def wf_c_mclear : List Cond := [.code yX6_clear cX6_clear 1 none, .fieldLink RX6 37 "OwnedPlaces$Memory" "taken" "[B", .code yJ7_fill_031fb cJ7_fill_031fb 4 none, .methodLink RX6 41 yJ7_fill_031fb, .static yJ7_fill_031fb, .initialized RJ7, .fieldLink RX6 47 "OwnedPlaces$Memory" "lowest" "I", .fieldLink RX6 50 "OwnedPlaces$Memory" "inUse" "I", .fieldLink RX6 53 "OwnedPlaces$Memory" "mostInUse" "I"]
def wp_c_mclear : List Cond := wf_c_mclear ++ (wsX60 ++ [])
theorem in_c_mclear_X6 : ∀ w ∈ wsX60, w ∈ wp_c_mclear := fun w h => List.mem_append_right _ (List.mem_append_left _ h)
theorem wg_c_mclear : wf_c_mclear.all goodWord = true := by decide +kernel
theorem wm_c_mclear (k : Nat) {w : Cond} (h : wp_c_mclear[k]? = some w) : w ∈ wp_c_mclear := List.mem_of_getElem? h
set_option maxRecDepth 20000 in
theorem g_c_mclear_c_fillBw_5 : GoodIn wp_c_mclear (va_wsS RX6 41 yJ7_fill_031fb wp_c_fillBw) := goodIn_app (goodIn_f [.methodLink RX6 41 yJ7_fill_031fb, .static yJ7_fill_031fb, .initialized RJ7] [3, 4, 5] rfl (by decide +kernel)) (goodIn_app (goodIn_f (wf_c_fillBw) [2] rfl wg_c_fillBw) (goodIn_n))
set_option maxHeartbeats 4000000 in
set_option maxRecDepth 100000 in
theorem c_mclear (l : Launch) (dC : Nat → ClassId) (dI : Nat → Nat → Nat) (me wq mc mt md0 md1 md2 mh : Nat) (mlo miu mmo mdt : Int32) (y y0 y1 y2 y3 y4 y5 y6 y7 y8 y9 y10 y11 y12 y13 : Nat) (yt yp : Nat) (kI kZ kB kL : ClassId) (ft : Nat → Int32) (sz : Nat) (hmh : mh ≤ 4000) : Met l yX6_clear wp_c_mclear ({ frames := 1, cells := 0, slots := 0, locals := 23 }) (va_Pc [.ref me] (fun U => U.heap.size = sz ∧ va_P (dC, dI) vwCl [(me, .inr (6, [.ref y, .ref wq, .int (nI mh), .ref mc, .ref mt, .int mlo, .int miu, .int mmo, .ref md0, .ref md1, .ref md2, .int mdt])), (mt, .inl (kB, mh, .inl ft))] U.heap ∧ va_K (dC, dI) vwCl [(kB, .byte)] U ∧ va_D (fun _ => True) [(me, .inr (6, [.ref y, .ref wq, .int (nI mh), .ref mc, .ref mt, .int mlo, .int miu, .int mmo, .ref md0, .ref md1, .ref md2, .int mdt])), (mt, .inl (kB, mh, .inl ft))])) (va_Qv (fun _ : Unit => True) (fun (_ : Unit) (tS : State) => ∃ (gt : Nat → Int32), (∀ j : Nat, j < mh → gt j = 0) ∧ va_P (dC, dI) vwCl [(me, .inr (6, [.ref y, .ref wq, .int (nI mh), .ref mc, .ref mt, .int 0, .int 0, .int 0, .ref md0, .ref md1, .ref md2, .int mdt])), (mt, .inl (kB, mh, .inl gt))] tS.heap ∧ va_K (dC, dI) vwCl [(kB, .byte)] tS ∧ va_D (va_A [(me, .inr (6, [.ref y, .ref wq, .int (nI mh), .ref mc, .ref mt, .int mlo, .int miu, .int mmo, .ref md0, .ref md1, .ref md2, .int mdt])), (mt, .inl (kB, mh, .inl ft))] sz) [(me, .inr (6, [.ref y, .ref wq, .int (nI mh), .ref mc, .ref mt, .int 0, .int 0, .int 0, .ref md0, .ref md1, .ref md2, .int mdt])), (mt, .inl (kB, mh, .inl gt))]) (va_A [(me, .inr (6, [.ref y, .ref wq, .int (nI mh), .ref mc, .ref mt, .int mlo, .int miu, .int mmo, .ref md0, .ref md1, .ref md2, .int mdt])), (mt, .inl (kB, mh, .inl ft))] sz)) 0 0 (va_A [(me, .inr (6, [.ref y, .ref wq, .int (nI mh), .ref mc, .ref mt, .int mlo, .int miu, .int mmo, .ref md0, .ref md1, .ref md2, .int mdt])), (mt, .inl (kB, mh, .inl ft))] sz) := by
  refine Met.ofW (cc := cX6_clear) (maxL := 1) (ret := none) (by decide) rfl ?_
  intro p e s m args below meth c s₁ B hml hv
  obtain ⟨rfl, hsz, hP, hK, hD0⟩ := hv
  have hx := B.exec
  have hb := B.bytes
  have hr := B.returns
  have hts := atoms_spec (ws := wp_c_mclear) B.pre
  have hown : s.vm.findClass RX6 = some m.cls := findClass_of_methodNamed B.named
  have hlocks := B.notSynchronized
  subst hsz
  have hD := hD0.self (sz := s.heap.size)
  generalize hAe : va_A [(me, .inr (6, [.ref y, .ref wq, .int (nI mh), .ref mc, .ref mt, .int mlo, .int miu, .int mmo, .ref md0, .ref md1, .ref md2, .int mdt])), (mt, .inl (kB, mh, .inl ft))] s.heap.size = A at hD ⊢
  have hA : ∀ q : Nat, s.heap.size ≤ q → A q := fun q h => by rw [← hAe]; exact Or.inr h
  have hS : va_S A s.heap s.heap [] := va_S.rf
  have hP : va_P (dC, dI) vwCl [(me, .inr (6, [.ref y, .ref wq, .int (nI mh), .ref mc, .ref mt, .int mlo, .int miu, .int mmo, .ref md0, .ref md1, .ref md2, .int mdt])), (mt, .inl (kB, mh, .inl ft))] s.heap := hP
  have hl := lv_entry ([.ref me]) (n := 1) (Nat.le_of_ble_eq_true rfl)
  rw [lg_entry_eq]
  generalize (lg_sl ([.ref me]) ++ List.replicate (1 - (lg_sl ([.ref me])).length) Slot.unset).toArray = ls at hl ⊢
  have hl : lv_has ls 1 [(0, .ref me)] := hl
  refine lv_aload_n hx hb dX6_clear_0 rfl (lv_at hl 0 rfl) ?_
  refine va_get (D := (dC, dI)) (ci := 6) (v := .ref mt) (C := RX6) (T := TX6) (N := 12) hx hb hts in_c_mclear_X6 hown hK hP 0 rfl rfl 4 (by decide) (hts (.fieldLink RX6 37 "OwnedPlaces$Memory" "taken" "[B") (wm_c_mclear 1 rfl)) (fun _ h9 => h9) rfl dX6_clear_1 ?_
  refine lv_iconst (v := 0) hx hb dX6_clear_4 (by decide) ?_
  have hPc := hP.sub (ws' := [(mt, .inl (kB, mh, .inl ft))]) [1] rfl
  have hDc := hD.sub (ws' := [(mt, .inl (kB, mh, .inl ft))]) [1] (by decide) rfl
  have hKc := hK.sub (tys' := [(kB, .byte)]) [0] rfl
  have hFc := va_free (wc := [(mt, .inl (kB, mh, .inl ft))]) hD hS hA [1] rfl
  refine va_callv (va_runS (As := [.ref mt, .int 0]) (rest := []) ⟨hx, hb, hml, hown, hts⟩ (c_fillBw l dC dI mt mh kB ft 0 s.heap.size (by omega)) (va_cwS 2 hts g_c_mclear_c_fillBw_5 rfl rfl rfl (by decide +kernel) ⟨Nat.le_of_ble_eq_true rfl, Nat.le_of_ble_eq_true rfl⟩) ⟨fun a U g mk q => by obtain ⟨q0, q1, qP, qK, qD⟩ := q; exact ⟨q0, q1, qP, va_K.moved (u := U) (U := U.calling g mk a) (Vm.Alike.refl U.vm) qK, qD⟩, fun U hU hW => ⟨rfl, by rw [hU], by rw [hU]; exact hPc, va_K.moved hW.alike hKc, hDc.weaken (fun _ _ _ _ => trivial)⟩⟩ rfl rfl hl.1 rfl (lv_room (Nat.le_of_ble_eq_true rfl)) dX6_clear_5 ⟨(show 0 + 0 ≤ 0 by omega), (show 0 + 0 ≤ 0 by omega)⟩) hS (fun q _ h => hFc q h) hFc (fun u tS H1 locs ht hvm hw hB hz1 hk1 hS => ?_)
  obtain ⟨g9, hf1_0, hP1, hK1, hD1⟩ := hB
  rw [ht] at hP1
  have hK1 := va_K.moved hvm.symm hK1
  obtain ⟨hP, hD⟩ := va_join (wr := [(me, .inr (6, [.ref y, .ref wq, .int (nI mh), .ref mc, .ref mt, .int mlo, .int miu, .int mmo, .ref md0, .ref md1, .ref md2, .int mdt]))]) (w1 := [(mt, .inl (kB, mh, .inl g9))]) hP hD [1] [0] rfl rfl (by decide) (by decide) hk1 hFc hP1 hD1
  have hK := hK.app hK1
  generalize H1 = H at hP hS ⊢
  have hP : va_P (dC, dI) vwCl [(me, .inr (6, [.ref y, .ref wq, .int (nI mh), .ref mc, .ref mt, .int mlo, .int miu, .int mmo, .ref md0, .ref md1, .ref md2, .int mdt])), (mt, .inl (kB, mh, .inl g9))] H := hP
  have hD : va_D A [(me, .inr (6, [.ref y, .ref wq, .int (nI mh), .ref mc, .ref mt, .int mlo, .int miu, .int mmo, .ref md0, .ref md1, .ref md2, .int mdt])), (mt, .inl (kB, mh, .inl g9))] := hD
  have hK : va_K (dC, dI) vwCl [(kB, .byte), (kB, .byte)] s := hK
  have hK := hK.sub (tys' := [(kB, .byte)]) [0] rfl
  have hP : va_P (dC, dI) vwCl [(me, .inr (6, [.ref y, .ref wq, .int (nI mh), .ref mc, .ref mt, .int mlo, .int miu, .int mmo, .ref md0, .ref md1, .ref md2, .int mdt])), (mt, .inl (kB, mh, .inl g9))] H := hP
  have hD : va_D A [(me, .inr (6, [.ref y, .ref wq, .int (nI mh), .ref mc, .ref mt, .int mlo, .int miu, .int mmo, .ref md0, .ref md1, .ref md2, .int mdt])), (mt, .inl (kB, mh, .inl g9))] := hD
  refine lv_aload_n hx hb dX6_clear_8 rfl (lv_at hl 0 rfl) ?_
  refine lv_iconst (v := 0) hx hb dX6_clear_9 (by decide) ?_
  refine va_put (D := (dC, dI)) (ci := 6) (v := .int 0) (ty := .int) (C := RX6) (T := TX6) (N := 12) hx hb hts in_c_mclear_X6 tyX6 tyX6_ok nmX6 hown hK hP hD hS 0 rfl rfl 5 (by decide) (hts (.fieldLink RX6 47 "OwnedPlaces$Memory" "lowest" "I") (wm_c_mclear 6 rfl)) (fun _ h9 => h9) rfl (by decide +kernel) rfl rfl (Nat.le_of_ble_eq_true rfl) dX6_clear_10 (fun H locs hP hD hS => ?_)
  have hP : va_P (dC, dI) vwCl [(me, .inr (6, [.ref y, .ref wq, .int (nI mh), .ref mc, .ref mt, .int 0, .int miu, .int mmo, .ref md0, .ref md1, .ref md2, .int mdt])), (mt, .inl (kB, mh, .inl g9))] H := hP
  have hD : va_D A [(me, .inr (6, [.ref y, .ref wq, .int (nI mh), .ref mc, .ref mt, .int 0, .int miu, .int mmo, .ref md0, .ref md1, .ref md2, .int mdt])), (mt, .inl (kB, mh, .inl g9))] := hD
  refine lv_aload_n hx hb dX6_clear_13 rfl (lv_at hl 0 rfl) ?_
  refine lv_iconst (v := 0) hx hb dX6_clear_14 (by decide) ?_
  refine va_put (D := (dC, dI)) (ci := 6) (v := .int 0) (ty := .int) (C := RX6) (T := TX6) (N := 12) hx hb hts in_c_mclear_X6 tyX6 tyX6_ok nmX6 hown hK hP hD hS 0 rfl rfl 6 (by decide) (hts (.fieldLink RX6 50 "OwnedPlaces$Memory" "inUse" "I") (wm_c_mclear 7 rfl)) (fun _ h9 => h9) rfl (by decide +kernel) rfl rfl (Nat.le_of_ble_eq_true rfl) dX6_clear_15 (fun H locs hP hD hS => ?_)
  have hP : va_P (dC, dI) vwCl [(me, .inr (6, [.ref y, .ref wq, .int (nI mh), .ref mc, .ref mt, .int 0, .int 0, .int mmo, .ref md0, .ref md1, .ref md2, .int mdt])), (mt, .inl (kB, mh, .inl g9))] H := hP
  have hD : va_D A [(me, .inr (6, [.ref y, .ref wq, .int (nI mh), .ref mc, .ref mt, .int 0, .int 0, .int mmo, .ref md0, .ref md1, .ref md2, .int mdt])), (mt, .inl (kB, mh, .inl g9))] := hD
  refine lv_aload_n hx hb dX6_clear_18 rfl (lv_at hl 0 rfl) ?_
  refine lv_iconst (v := 0) hx hb dX6_clear_19 (by decide) ?_
  refine va_put (D := (dC, dI)) (ci := 6) (v := .int 0) (ty := .int) (C := RX6) (T := TX6) (N := 12) hx hb hts in_c_mclear_X6 tyX6 tyX6_ok nmX6 hown hK hP hD hS 0 rfl rfl 7 (by decide) (hts (.fieldLink RX6 53 "OwnedPlaces$Memory" "mostInUse" "I") (wm_c_mclear 8 rfl)) (fun _ h9 => h9) rfl (by decide +kernel) rfl rfl (Nat.le_of_ble_eq_true rfl) dX6_clear_20 (fun H locs hP hD hS => ?_)
  have hP : va_P (dC, dI) vwCl [(me, .inr (6, [.ref y, .ref wq, .int (nI mh), .ref mc, .ref mt, .int 0, .int 0, .int 0, .ref md0, .ref md1, .ref md2, .int mdt])), (mt, .inl (kB, mh, .inl g9))] H := hP
  have hD : va_D A [(me, .inr (6, [.ref y, .ref wq, .int (nI mh), .ref mc, .ref mt, .int 0, .int 0, .int 0, .ref md0, .ref md1, .ref md2, .int mdt])), (mt, .inl (kB, mh, .inl g9))] := hD
  have hP9 := hP.sub (ws' := [(me, .inr (6, [.ref y, .ref wq, .int (nI mh), .ref mc, .ref mt, .int 0, .int 0, .int 0, .ref md0, .ref md1, .ref md2, .int mdt])), (mt, .inl (kB, mh, .inl g9))]) [0, 1] rfl
  have hD9 := hD.sub (ws' := [(me, .inr (6, [.ref y, .ref wq, .int (nI mh), .ref mc, .ref mt, .int 0, .int 0, .int 0, .ref md0, .ref md1, .ref md2, .int mdt])), (mt, .inl (kB, mh, .inl g9))]) [0, 1] (by decide) rfl
  have hK9 := hK.sub (tys' := [(kB, .byte)]) [0] rfl
  exact W.vret hx hb hr (fun tS ht hW => ⟨⟨(), rfl, trivial, g9, fun j hj => ((hf1_0 j).1 (by omega)).trans (by decide), by rw [ht]; exact hP9, va_K.moved hW.alike hK9, hD9⟩, hS.F ht⟩) hS.2.2 dX6_clear_23
def wf_c_mbegin : List Cond := [.code yX6_stackBegin cX6_stackBegin 1 (some .int), .fieldLink RX6 29 "OwnedPlaces$Memory" "heap" "I"]
def wp_c_mbegin : List Cond := wf_c_mbegin ++ (wsX60 ++ [])
theorem in_c_mbegin_X6 : ∀ w ∈ wsX60, w ∈ wp_c_mbegin := fun w h => List.mem_append_right _ (List.mem_append_left _ h)
theorem wg_c_mbegin : wf_c_mbegin.all goodWord = true := by decide +kernel
theorem wm_c_mbegin (k : Nat) {w : Cond} (h : wp_c_mbegin[k]? = some w) : w ∈ wp_c_mbegin := List.mem_of_getElem? h
set_option maxHeartbeats 4000000 in
set_option maxRecDepth 100000 in
theorem c_mbegin (l : Launch) (dC : Nat → ClassId) (dI : Nat → Nat → Nat) (me wq mc mt md0 md1 md2 mh : Nat) (mlo miu mmo mdt : Int32) (y y0 y1 y2 y3 y4 y5 y6 y7 y8 y9 y10 y11 y12 y13 : Nat) (yt yp : Nat) (kI kZ kB kL : ClassId) (ft : Nat → Int32) (sz : Nat) : Met l yX6_stackBegin wp_c_mbegin ({ frames := 0, cells := 0, slots := 0, locals := 0 }) (va_Pc [.ref me] (fun U => U.heap.size = sz ∧ va_P (dC, dI) vwCl [(me, .inr (6, [.ref y, .ref wq, .int (nI mh), .ref mc, .ref mt, .int mlo, .int miu, .int mmo, .ref md0, .ref md1, .ref md2, .int mdt]))] U.heap ∧ va_K (dC, dI) vwCl [] U ∧ va_D (fun _ => True) [(me, .inr (6, [.ref y, .ref wq, .int (nI mh), .ref mc, .ref mt, .int mlo, .int miu, .int mmo, .ref md0, .ref md1, .ref md2, .int mdt]))])) (va_Qi (fun (r : Int32) (_ : Unit) => r = nI mh) (fun (_ : Unit) (tS : State) => va_P (dC, dI) vwCl [(me, .inr (6, [.ref y, .ref wq, .int (nI mh), .ref mc, .ref mt, .int mlo, .int miu, .int mmo, .ref md0, .ref md1, .ref md2, .int mdt]))] tS.heap ∧ va_K (dC, dI) vwCl [] tS ∧ va_D (va_A [(me, .inr (6, [.ref y, .ref wq, .int (nI mh), .ref mc, .ref mt, .int mlo, .int miu, .int mmo, .ref md0, .ref md1, .ref md2, .int mdt]))] sz) [(me, .inr (6, [.ref y, .ref wq, .int (nI mh), .ref mc, .ref mt, .int mlo, .int miu, .int mmo, .ref md0, .ref md1, .ref md2, .int mdt]))]) (va_A [(me, .inr (6, [.ref y, .ref wq, .int (nI mh), .ref mc, .ref mt, .int mlo, .int miu, .int mmo, .ref md0, .ref md1, .ref md2, .int mdt]))] sz)) 0 0 (va_A [(me, .inr (6, [.ref y, .ref wq, .int (nI mh), .ref mc, .ref mt, .int mlo, .int miu, .int mmo, .ref md0, .ref md1, .ref md2, .int mdt]))] sz) := by
  refine Met.ofW (cc := cX6_stackBegin) (maxL := 1) (ret := (some .int)) (by decide) rfl ?_
  intro p e s m args below meth c s₁ B hml hv
  obtain ⟨rfl, hsz, hP, hK, hD0⟩ := hv
  have hx := B.exec
  have hb := B.bytes
  have hr := B.returns
  have hts := atoms_spec (ws := wp_c_mbegin) B.pre
  have hown : s.vm.findClass RX6 = some m.cls := findClass_of_methodNamed B.named
  have hlocks := B.notSynchronized
  subst hsz
  have hD := hD0.self (sz := s.heap.size)
  generalize hAe : va_A [(me, .inr (6, [.ref y, .ref wq, .int (nI mh), .ref mc, .ref mt, .int mlo, .int miu, .int mmo, .ref md0, .ref md1, .ref md2, .int mdt]))] s.heap.size = A at hD ⊢
  have hA : ∀ q : Nat, s.heap.size ≤ q → A q := fun q h => by rw [← hAe]; exact Or.inr h
  have hS : va_S A s.heap s.heap [] := va_S.rf
  have hP : va_P (dC, dI) vwCl [(me, .inr (6, [.ref y, .ref wq, .int (nI mh), .ref mc, .ref mt, .int mlo, .int miu, .int mmo, .ref md0, .ref md1, .ref md2, .int mdt]))] s.heap := hP
  have hl := lv_entry ([.ref me]) (n := 1) (Nat.le_of_ble_eq_true rfl)
  rw [lg_entry_eq]
  generalize (lg_sl ([.ref me]) ++ List.replicate (1 - (lg_sl ([.ref me])).length) Slot.unset).toArray = ls at hl ⊢
  have hl : lv_has ls 1 [(0, .ref me)] := hl
  refine lv_aload_n hx hb dX6_stackBegin_0 rfl (lv_at hl 0 rfl) ?_
  refine va_get (D := (dC, dI)) (ci := 6) (v := .int (nI mh)) (C := RX6) (T := TX6) (N := 12) hx hb hts in_c_mbegin_X6 hown hK hP 0 rfl rfl 2 (by decide) (hts (.fieldLink RX6 29 "OwnedPlaces$Memory" "heap" "I") (wm_c_mbegin 1 rfl)) (fun _ h9 => h9) rfl dX6_stackBegin_1 ?_
  have hP9 := hP.sub (ws' := [(me, .inr (6, [.ref y, .ref wq, .int (nI mh), .ref mc, .ref mt, .int mlo, .int miu, .int mmo, .ref md0, .ref md1, .ref md2, .int mdt]))]) [0] rfl
  have hD9 := hD.sub (ws' := [(me, .inr (6, [.ref y, .ref wq, .int (nI mh), .ref mc, .ref mt, .int mlo, .int miu, .int mmo, .ref md0, .ref md1, .ref md2, .int mdt]))]) [0] (by decide) rfl
  have hK9 := hK.sub (tys' := []) [] rfl
  exact W.iret (v := nI mh) hx hb hr (fun tS ht hW => ⟨⟨(nI mh), (), rfl, rfl, by rw [ht]; exact hP9, va_K.moved hW.alike hK9, hD9⟩, hS.F ht⟩) hS.2.2 dX6_stackBegin_4
def wf_c_mfree : List Cond := [.code yX6_freeBlock cX6_freeBlock 3 none, .fieldLink RX6 37 "OwnedPlaces$Memory" "taken" "[B", .code yJ7_fill_eb02e cJ7_fill_eb02e 5 none, .code yJ7_rangeCheck_23922 cJ7_rangeCheck_23922 3 none, .methodLink RJ7 13 yJ7_rangeCheck_23922, .static yJ7_rangeCheck_23922, .initialized RJ7, .methodLink RX6 66 yJ7_fill_eb02e, .static yJ7_fill_eb02e, .fieldLink RX6 47 "OwnedPlaces$Memory" "lowest" "I", .methodLink RX6 69 Lib.Math.min.name, .static Lib.Math.min.name, .initialized "java/lang/Math", .code Lib.Math.min.name Lib.Math.min.code 2 (some .int), .fieldLink RX6 50 "OwnedPlaces$Memory" "inUse" "I"]
def wp_c_mfree : List Cond := wf_c_mfree ++ (wsX60 ++ [])
theorem in_c_mfree_X6 : ∀ w ∈ wsX60, w ∈ wp_c_mfree := fun w h => List.mem_append_right _ (List.mem_append_left _ h)
theorem wg_c_mfree : wf_c_mfree.all goodWord = true := by decide +kernel
theorem wm_c_mfree (k : Nat) {w : Cond} (h : wp_c_mfree[k]? = some w) : w ∈ wp_c_mfree := List.mem_of_getElem? h
set_option maxRecDepth 20000 in
theorem g_c_mfree_c_fillBp_9 : GoodIn wp_c_mfree (va_wsS RX6 66 yJ7_fill_eb02e wp_c_fillBp) := goodIn_app (goodIn_f [.methodLink RX6 66 yJ7_fill_eb02e, .static yJ7_fill_eb02e, .initialized RJ7] [7, 8, 6] rfl (by decide +kernel)) (goodIn_app (goodIn_f (wf_c_fillBp) [2, 3, 4, 5, 6] rfl wg_c_fillBp) (goodIn_n))
set_option maxHeartbeats 4000000 in
set_option maxRecDepth 100000 in
theorem c_mfree (l : Launch) (dC : Nat → ClassId) (dI : Nat → Nat → Nat) (me wq mc mt md0 md1 md2 mh : Nat) (mlo miu mmo mdt : Int32) (y y0 y1 y2 y3 y4 y5 y6 y7 y8 y9 y10 y11 y12 y13 : Nat) (yt yp : Nat) (kI kZ kB kL : ClassId) (ft : Nat → Int32) (a z9 lo : Nat) (sz : Nat) (hmh : mh ≤ 4000) (ha : a + z9 ≤ mh) (hlo : lo ≤ mh) : Met l yX6_freeBlock wp_c_mfree ({ frames := 2, cells := 0, slots := 0, locals := 46 }) (va_Pc [.ref me, .int (nI a), .int (nI z9)] (fun U => U.heap.size = sz ∧ va_P (dC, dI) vwCl [(me, .inr (6, [.ref y, .ref wq, .int (nI mh), .ref mc, .ref mt, .int (nI lo), .int miu, .int mmo, .ref md0, .ref md1, .ref md2, .int mdt])), (mt, .inl (kB, mh, .inl ft))] U.heap ∧ va_K (dC, dI) vwCl [(kB, .byte)] U ∧ va_D (fun _ => True) [(me, .inr (6, [.ref y, .ref wq, .int (nI mh), .ref mc, .ref mt, .int (nI lo), .int miu, .int mmo, .ref md0, .ref md1, .ref md2, .int mdt])), (mt, .inl (kB, mh, .inl ft))])) (va_Qv (fun _ : Unit => True) (fun (_ : Unit) (tS : State) => ∃ (gt : Nat → Int32), (∀ j : Nat, gt j = if a ≤ j ∧ j < a + z9 then 0 else ft j) ∧ va_P (dC, dI) vwCl [(me, .inr (6, [.ref y, .ref wq, .int (nI mh), .ref mc, .ref mt, .int (nI (min lo a)), .int (miu - nI z9), .int mmo, .ref md0, .ref md1, .ref md2, .int mdt])), (mt, .inl (kB, mh, .inl gt))] tS.heap ∧ va_K (dC, dI) vwCl [(kB, .byte)] tS ∧ va_D (va_A [(me, .inr (6, [.ref y, .ref wq, .int (nI mh), .ref mc, .ref mt, .int (nI lo), .int miu, .int mmo, .ref md0, .ref md1, .ref md2, .int mdt])), (mt, .inl (kB, mh, .inl ft))] sz) [(me, .inr (6, [.ref y, .ref wq, .int (nI mh), .ref mc, .ref mt, .int (nI (min lo a)), .int (miu - nI z9), .int mmo, .ref md0, .ref md1, .ref md2, .int mdt])), (mt, .inl (kB, mh, .inl gt))]) (va_A [(me, .inr (6, [.ref y, .ref wq, .int (nI mh), .ref mc, .ref mt, .int (nI lo), .int miu, .int mmo, .ref md0, .ref md1, .ref md2, .int mdt])), (mt, .inl (kB, mh, .inl ft))] sz)) 0 0 (va_A [(me, .inr (6, [.ref y, .ref wq, .int (nI mh), .ref mc, .ref mt, .int (nI lo), .int miu, .int mmo, .ref md0, .ref md1, .ref md2, .int mdt])), (mt, .inl (kB, mh, .inl ft))] sz) := by
  refine Met.ofW (cc := cX6_freeBlock) (maxL := 3) (ret := none) (by decide) rfl ?_
  intro p e s m args below meth c s₁ B hml hv
  obtain ⟨rfl, hsz, hP, hK, hD0⟩ := hv
  have hx := B.exec
  have hb := B.bytes
  have hr := B.returns
  have hts := atoms_spec (ws := wp_c_mfree) B.pre
  have hown : s.vm.findClass RX6 = some m.cls := findClass_of_methodNamed B.named
  have hlocks := B.notSynchronized
  subst hsz
  have hD := hD0.self (sz := s.heap.size)
  generalize hAe : va_A [(me, .inr (6, [.ref y, .ref wq, .int (nI mh), .ref mc, .ref mt, .int (nI lo), .int miu, .int mmo, .ref md0, .ref md1, .ref md2, .int mdt])), (mt, .inl (kB, mh, .inl ft))] s.heap.size = A at hD ⊢
  have hA : ∀ q : Nat, s.heap.size ≤ q → A q := fun q h => by rw [← hAe]; exact Or.inr h
  have hS : va_S A s.heap s.heap [] := va_S.rf
  have hP : va_P (dC, dI) vwCl [(me, .inr (6, [.ref y, .ref wq, .int (nI mh), .ref mc, .ref mt, .int (nI lo), .int miu, .int mmo, .ref md0, .ref md1, .ref md2, .int mdt])), (mt, .inl (kB, mh, .inl ft))] s.heap := hP
  have hl := lv_entry ([.ref me, .int (nI a), .int (nI z9)]) (n := 3) (Nat.le_of_ble_eq_true rfl)
  rw [lg_entry_eq]
  generalize (lg_sl ([.ref me, .int (nI a), .int (nI z9)]) ++ List.replicate (3 - (lg_sl ([.ref me, .int (nI a), .int (nI z9)])).length) Slot.unset).toArray = ls at hl ⊢
  have hl : lv_has ls 3 [(0, .ref me), (1, .int (nI a)), (2, .int (nI z9))] := hl
  refine lv_aload_n hx hb dX6_freeBlock_0 rfl (lv_at hl 0 rfl) ?_
  refine va_get (D := (dC, dI)) (ci := 6) (v := .ref mt) (C := RX6) (T := TX6) (N := 12) hx hb hts in_c_mfree_X6 hown hK hP 0 rfl rfl 4 (by decide) (hts (.fieldLink RX6 37 "OwnedPlaces$Memory" "taken" "[B") (wm_c_mfree 1 rfl)) (fun _ h9 => h9) rfl dX6_freeBlock_1 ?_
  refine lv_iload_n hx hb dX6_freeBlock_4 rfl (lv_at hl 1 rfl) ?_
  refine lv_iload_n hx hb dX6_freeBlock_5 rfl (lv_at hl 1 rfl) ?_
  refine lv_iload_n hx hb dX6_freeBlock_6 rfl (lv_at hl 2 rfl) ?_
  refine lv_iadd hx hb dX6_freeBlock_7 ?_
  refine lv_topi (fun f_1 ef_1 => ?_)
  obtain rfl : f_1 = nI (a + z9) := ef_1.trans (nI_add _ _)
  refine lv_iconst (v := 0) hx hb dX6_freeBlock_8 (by decide) ?_
  have hPc := hP.sub (ws' := [(mt, .inl (kB, mh, .inl ft))]) [1] rfl
  have hDc := hD.sub (ws' := [(mt, .inl (kB, mh, .inl ft))]) [1] (by decide) rfl
  have hKc := hK.sub (tys' := [(kB, .byte)]) [0] rfl
  have hFc := va_free (wc := [(mt, .inl (kB, mh, .inl ft))]) hD hS hA [1] rfl
  refine va_callv (va_runS (As := [.ref mt, .int (nI a), .int (nI (a + z9)), .int 0]) (rest := []) ⟨hx, hb, hml, hown, hts⟩ (c_fillBp l dC dI mt mh a (a + z9) kB ft 0 s.heap.size (by omega) (by omega) (by omega)) (va_cwS 4 hts g_c_mfree_c_fillBp_9 rfl rfl rfl (by decide +kernel) ⟨Nat.le_of_ble_eq_true rfl, Nat.le_of_ble_eq_true rfl⟩) ⟨fun a U g mk q => by obtain ⟨q0, q1, qP, qK, qD⟩ := q; exact ⟨q0, q1, qP, va_K.moved (u := U) (U := U.calling g mk a) (Vm.Alike.refl U.vm) qK, qD⟩, fun U hU hW => ⟨rfl, by rw [hU], by rw [hU]; exact hPc, va_K.moved hW.alike hKc, hDc.weaken (fun _ _ _ _ => trivial)⟩⟩ rfl rfl hl.1 rfl (lv_room (Nat.le_of_ble_eq_true rfl)) dX6_freeBlock_9 ⟨(show 0 + 0 ≤ 0 by omega), (show 0 + 0 ≤ 0 by omega)⟩) hS (fun q _ h => hFc q h) hFc (fun u tS H1 locs ht hvm hw hB hz1 hk1 hS => ?_)
  obtain ⟨g9, hf2_0, hP1, hK1, hD1⟩ := hB
  rw [ht] at hP1
  have hK1 := va_K.moved hvm.symm hK1
  obtain ⟨hP, hD⟩ := va_join (wr := [(me, .inr (6, [.ref y, .ref wq, .int (nI mh), .ref mc, .ref mt, .int (nI lo), .int miu, .int mmo, .ref md0, .ref md1, .ref md2, .int mdt]))]) (w1 := [(mt, .inl (kB, mh, .inl g9))]) hP hD [1] [0] rfl rfl (by decide) (by decide) hk1 hFc hP1 hD1
  have hK := hK.app hK1
  generalize H1 = H at hP hS ⊢
  have hP : va_P (dC, dI) vwCl [(me, .inr (6, [.ref y, .ref wq, .int (nI mh), .ref mc, .ref mt, .int (nI lo), .int miu, .int mmo, .ref md0, .ref md1, .ref md2, .int mdt])), (mt, .inl (kB, mh, .inl g9))] H := hP
  have hD : va_D A [(me, .inr (6, [.ref y, .ref wq, .int (nI mh), .ref mc, .ref mt, .int (nI lo), .int miu, .int mmo, .ref md0, .ref md1, .ref md2, .int mdt])), (mt, .inl (kB, mh, .inl g9))] := hD
  have hK : va_K (dC, dI) vwCl [(kB, .byte), (kB, .byte)] s := hK
  have hK := hK.sub (tys' := [(kB, .byte)]) [0] rfl
  have hP : va_P (dC, dI) vwCl [(me, .inr (6, [.ref y, .ref wq, .int (nI mh), .ref mc, .ref mt, .int (nI lo), .int miu, .int mmo, .ref md0, .ref md1, .ref md2, .int mdt])), (mt, .inl (kB, mh, .inl g9))] H := hP
  have hD : va_D A [(me, .inr (6, [.ref y, .ref wq, .int (nI mh), .ref mc, .ref mt, .int (nI lo), .int miu, .int mmo, .ref md0, .ref md1, .ref md2, .int mdt])), (mt, .inl (kB, mh, .inl g9))] := hD
  have hG := hf2_0
  refine lv_aload_n hx hb dX6_freeBlock_12 rfl (lv_at hl 0 rfl) ?_
  refine lv_aload_n hx hb dX6_freeBlock_13 rfl (lv_at hl 0 rfl) ?_
  refine va_get (D := (dC, dI)) (ci := 6) (v := .int (nI lo)) (C := RX6) (T := TX6) (N := 12) hx hb hts in_c_mfree_X6 hown hK hP 0 rfl rfl 5 (by decide) (hts (.fieldLink RX6 47 "OwnedPlaces$Memory" "lowest" "I") (wm_c_mfree 9 rfl)) (fun _ h9 => h9) rfl dX6_freeBlock_14 ?_
  refine lv_iload_n hx hb dX6_freeBlock_17 rfl (lv_at hl 1 rfl) ?_
  refine va_mmin hx hb (by rw [hml]; exact hl.1.symm) hown (hts (.methodLink RX6 69 Lib.Math.min.name) (wm_c_mfree 10 rfl)) (hts (.static Lib.Math.min.name) (wm_c_mfree 11 rfl)) (hts (.initialized "java/lang/Math") (wm_c_mfree 12 rfl)) (hts (.code Lib.Math.min.name Lib.Math.min.code 2 (some .int)) (wm_c_mfree 13 rfl)) (Nat.le_of_ble_eq_true rfl) (Nat.le_of_ble_eq_true rfl) (Nat.zero_le _) (Nat.zero_le _) dX6_freeBlock_18 ?_
  refine lv_topi (fun f_3 ef_3 => ?_)
  obtain rfl : f_3 = nI (min lo a) := min_nI (a := lo) (b := a) (by omega) (by omega) ef_3
  refine va_put (D := (dC, dI)) (ci := 6) (v := .int (nI (min lo a))) (ty := .int) (C := RX6) (T := TX6) (N := 12) hx hb hts in_c_mfree_X6 tyX6 tyX6_ok nmX6 hown hK hP hD hS 0 rfl rfl 5 (by decide) (hts (.fieldLink RX6 47 "OwnedPlaces$Memory" "lowest" "I") (wm_c_mfree 9 rfl)) (fun _ h9 => h9) rfl (by decide +kernel) rfl rfl (Nat.le_of_ble_eq_true rfl) dX6_freeBlock_21 (fun H locs hP hD hS => ?_)
  have hP : va_P (dC, dI) vwCl [(me, .inr (6, [.ref y, .ref wq, .int (nI mh), .ref mc, .ref mt, .int (nI (min lo a)), .int miu, .int mmo, .ref md0, .ref md1, .ref md2, .int mdt])), (mt, .inl (kB, mh, .inl g9))] H := hP
  have hD : va_D A [(me, .inr (6, [.ref y, .ref wq, .int (nI mh), .ref mc, .ref mt, .int (nI (min lo a)), .int miu, .int mmo, .ref md0, .ref md1, .ref md2, .int mdt])), (mt, .inl (kB, mh, .inl g9))] := hD
  refine lv_aload_n hx hb dX6_freeBlock_24 rfl (lv_at hl 0 rfl) ?_
  refine lv_dup hx hb dX6_freeBlock_25 rfl ?_
  refine va_get (D := (dC, dI)) (ci := 6) (v := .int miu) (C := RX6) (T := TX6) (N := 12) hx hb hts in_c_mfree_X6 hown hK hP 0 rfl rfl 6 (by decide) (hts (.fieldLink RX6 50 "OwnedPlaces$Memory" "inUse" "I") (wm_c_mfree 14 rfl)) (fun _ h9 => h9) rfl dX6_freeBlock_26 ?_
  refine lv_iload_n hx hb dX6_freeBlock_29 rfl (lv_at hl 2 rfl) ?_
  refine lv_isub hx hb dX6_freeBlock_30 ?_
  refine lv_topi (fun f_4 ef_4 => ?_)
  obtain rfl : f_4 = (miu - nI z9) := ef_4
  refine va_put (D := (dC, dI)) (ci := 6) (v := .int (miu - nI z9)) (ty := .int) (C := RX6) (T := TX6) (N := 12) hx hb hts in_c_mfree_X6 tyX6 tyX6_ok nmX6 hown hK hP hD hS 0 rfl rfl 6 (by decide) (hts (.fieldLink RX6 50 "OwnedPlaces$Memory" "inUse" "I") (wm_c_mfree 14 rfl)) (fun _ h9 => h9) rfl (by decide +kernel) rfl rfl (Nat.le_of_ble_eq_true rfl) dX6_freeBlock_31 (fun H locs hP hD hS => ?_)
  have hP : va_P (dC, dI) vwCl [(me, .inr (6, [.ref y, .ref wq, .int (nI mh), .ref mc, .ref mt, .int (nI (min lo a)), .int (miu - nI z9), .int mmo, .ref md0, .ref md1, .ref md2, .int mdt])), (mt, .inl (kB, mh, .inl g9))] H := hP
  have hD : va_D A [(me, .inr (6, [.ref y, .ref wq, .int (nI mh), .ref mc, .ref mt, .int (nI (min lo a)), .int (miu - nI z9), .int mmo, .ref md0, .ref md1, .ref md2, .int mdt])), (mt, .inl (kB, mh, .inl g9))] := hD
  have hP9 := hP.sub (ws' := [(me, .inr (6, [.ref y, .ref wq, .int (nI mh), .ref mc, .ref mt, .int (nI (min lo a)), .int (miu - nI z9), .int mmo, .ref md0, .ref md1, .ref md2, .int mdt])), (mt, .inl (kB, mh, .inl g9))]) [0, 1] rfl
  have hD9 := hD.sub (ws' := [(me, .inr (6, [.ref y, .ref wq, .int (nI mh), .ref mc, .ref mt, .int (nI (min lo a)), .int (miu - nI z9), .int mmo, .ref md0, .ref md1, .ref md2, .int mdt])), (mt, .inl (kB, mh, .inl g9))]) [0, 1] (by decide) rfl
  have hK9 := hK.sub (tys' := [(kB, .byte)]) [0] rfl
  exact W.vret hx hb hr (fun tS ht hW => ⟨⟨(), rfl, trivial, g9, fun j => by
    by_cases e9 : a ≤ j ∧ j < a + z9
    · rw [if_pos e9, (hG j).1 (by omega)]; decide
    · rw [if_neg e9]; exact (hG j).2 (by omega), by rw [ht]; exact hP9, va_K.moved hW.alike hK9, hD9⟩, hS.F ht⟩) hS.2.2 dX6_freeBlock_34
def wf_c_mtake : List Cond := [.code yX6_takeBlock cX6_takeBlock 5 (some .int), .fieldLink RX6 47 "OwnedPlaces$Memory" "lowest" "I", .fieldLink RX6 29 "OwnedPlaces$Memory" "heap" "I", .fieldLink RX6 37 "OwnedPlaces$Memory" "taken" "[B", .code yJ7_fill_eb02e cJ7_fill_eb02e 5 none, .code yJ7_rangeCheck_23922 cJ7_rangeCheck_23922 3 none, .methodLink RJ7 13 yJ7_rangeCheck_23922, .static yJ7_rangeCheck_23922, .initialized RJ7, .methodLink RX6 66 yJ7_fill_eb02e, .static yJ7_fill_eb02e, .fieldLink RX6 50 "OwnedPlaces$Memory" "inUse" "I", .fieldLink RX6 53 "OwnedPlaces$Memory" "mostInUse" "I", .methodLink RX6 56 Lib.Math.max.name, .static Lib.Math.max.name, .initialized "java/lang/Math", .code Lib.Math.max.name Lib.Math.max.code 2 (some .int)]
def wp_c_mtake : List Cond := wf_c_mtake ++ (wsX60 ++ [])
theorem in_c_mtake_X6 : ∀ w ∈ wsX60, w ∈ wp_c_mtake := fun w h => List.mem_append_right _ (List.mem_append_left _ h)
theorem wg_c_mtake : wf_c_mtake.all goodWord = true := by decide +kernel
theorem wm_c_mtake (k : Nat) {w : Cond} (h : wp_c_mtake[k]? = some w) : w ∈ wp_c_mtake := List.mem_of_getElem? h
set_option maxRecDepth 20000 in
theorem g_c_mtake_c_fillBp_54 : GoodIn wp_c_mtake (va_wsS RX6 66 yJ7_fill_eb02e wp_c_fillBp) := goodIn_app (goodIn_f [.methodLink RX6 66 yJ7_fill_eb02e, .static yJ7_fill_eb02e, .initialized RJ7] [9, 10, 8] rfl (by decide +kernel)) (goodIn_app (goodIn_f (wf_c_fillBp) [4, 5, 6, 7, 8] rfl wg_c_fillBp) (goodIn_n))
set_option maxHeartbeats 4000000 in
set_option maxRecDepth 100000 in
theorem c_mtake (l : Launch) (dC : Nat → ClassId) (dI : Nat → Nat → Nat) (me wq mc mt md0 md1 md2 mh : Nat) (mlo miu mmo mdt : Int32) (y y0 y1 y2 y3 y4 y5 y6 y7 y8 y9 y10 y11 y12 y13 : Nat) (yt yp : Nat) (kI kZ kB kL : ClassId) (ft : Nat → Int32) (z9 lo : Nat) (sz : Nat) (hmh : mh ≤ 4000) (hz9 : 1 ≤ z9 ∧ z9 ≤ 16) (hlo : lo ≤ mh) : Met l yX6_takeBlock wp_c_mtake ({ frames := 2, cells := 0, slots := 0, locals := 46 }) (va_Pc [.ref me, .int (nI z9)] (fun U => U.heap.size = sz ∧ va_P (dC, dI) vwCl [(me, .inr (6, [.ref y, .ref wq, .int (nI mh), .ref mc, .ref mt, .int (nI lo), .int miu, .int mmo, .ref md0, .ref md1, .ref md2, .int mdt])), (mt, .inl (kB, mh, .inl ft))] U.heap ∧ va_K (dC, dI) vwCl [(kB, .byte)] U ∧ va_D (fun _ => True) [(me, .inr (6, [.ref y, .ref wq, .int (nI mh), .ref mc, .ref mt, .int (nI lo), .int miu, .int mmo, .ref md0, .ref md1, .ref md2, .int mdt])), (mt, .inl (kB, mh, .inl ft))])) (va_Qi (fun (r rv : Int32) => r = rv) (fun (rv : Int32) (tS : State) => ∃ (lo2 : Nat) (iu2 : Int32) (mo2 : Int32) (gt : Nat → Int32), (lo2 ≤ mh) ∧ ((rv = -1 ∧ gt = ft ∧ iu2 = miu) ∨ ∃ a : Nat, rv = nI a ∧ a + z9 ≤ mh ∧ (∀ j : Nat, a ≤ j → j < a + z9 → ft j = 0) ∧ (∀ j : Nat, gt j = if a ≤ j ∧ j < a + z9 then 1 else ft j) ∧ iu2 = miu + nI z9) ∧ va_P (dC, dI) vwCl [(me, .inr (6, [.ref y, .ref wq, .int (nI mh), .ref mc, .ref mt, .int (nI lo2), .int iu2, .int mo2, .ref md0, .ref md1, .ref md2, .int mdt])), (mt, .inl (kB, mh, .inl gt))] tS.heap ∧ va_K (dC, dI) vwCl [(kB, .byte)] tS ∧ va_D (va_A [(me, .inr (6, [.ref y, .ref wq, .int (nI mh), .ref mc, .ref mt, .int (nI lo), .int miu, .int mmo, .ref md0, .ref md1, .ref md2, .int mdt])), (mt, .inl (kB, mh, .inl ft))] sz) [(me, .inr (6, [.ref y, .ref wq, .int (nI mh), .ref mc, .ref mt, .int (nI lo2), .int iu2, .int mo2, .ref md0, .ref md1, .ref md2, .int mdt])), (mt, .inl (kB, mh, .inl gt))]) (va_A [(me, .inr (6, [.ref y, .ref wq, .int (nI mh), .ref mc, .ref mt, .int (nI lo), .int miu, .int mmo, .ref md0, .ref md1, .ref md2, .int mdt])), (mt, .inl (kB, mh, .inl ft))] sz)) 0 0 (va_A [(me, .inr (6, [.ref y, .ref wq, .int (nI mh), .ref mc, .ref mt, .int (nI lo), .int miu, .int mmo, .ref md0, .ref md1, .ref md2, .int mdt])), (mt, .inl (kB, mh, .inl ft))] sz) := by
  refine Met.ofW (cc := cX6_takeBlock) (maxL := 5) (ret := (some .int)) (by decide) rfl ?_
  intro p e s m args below meth c s₁ B hml hv
  obtain ⟨rfl, hsz, hP, hK, hD0⟩ := hv
  have hx := B.exec
  have hb := B.bytes
  have hr := B.returns
  have hts := atoms_spec (ws := wp_c_mtake) B.pre
  have hown : s.vm.findClass RX6 = some m.cls := findClass_of_methodNamed B.named
  have hlocks := B.notSynchronized
  subst hsz
  have hD := hD0.self (sz := s.heap.size)
  generalize hAe : va_A [(me, .inr (6, [.ref y, .ref wq, .int (nI mh), .ref mc, .ref mt, .int (nI lo), .int miu, .int mmo, .ref md0, .ref md1, .ref md2, .int mdt])), (mt, .inl (kB, mh, .inl ft))] s.heap.size = A at hD ⊢
  have hA : ∀ q : Nat, s.heap.size ≤ q → A q := fun q h => by rw [← hAe]; exact Or.inr h
  have hS : va_S A s.heap s.heap [] := va_S.rf
  have hP : va_P (dC, dI) vwCl [(me, .inr (6, [.ref y, .ref wq, .int (nI mh), .ref mc, .ref mt, .int (nI lo), .int miu, .int mmo, .ref md0, .ref md1, .ref md2, .int mdt])), (mt, .inl (kB, mh, .inl ft))] s.heap := hP
  have hl := lv_entry ([.ref me, .int (nI z9)]) (n := 5) (Nat.le_of_ble_eq_true rfl)
  rw [lg_entry_eq]
  generalize (lg_sl ([.ref me, .int (nI z9)]) ++ List.replicate (5 - (lg_sl ([.ref me, .int (nI z9)])).length) Slot.unset).toArray = ls at hl ⊢
  have hl : lv_has ls 5 [(0, .ref me), (1, .int (nI z9))] := hl
  refine lv_iconst (v := 0) hx hb dX6_takeBlock_0 (by decide) ?_
  refine lv_istore_n (lv' := [(2, .int 0), (0, .ref me), (1, .int (nI z9))]) hx hb dX6_takeBlock_1 rfl hl (by decide) rfl (fun ls hl => ?_)
  refine lv_aload_n hx hb dX6_takeBlock_2 rfl (lv_at hl 1 rfl) ?_
  refine va_get (D := (dC, dI)) (ci := 6) (v := .int (nI lo)) (C := RX6) (T := TX6) (N := 12) hx hb hts in_c_mtake_X6 hown hK hP 0 rfl rfl 5 (by decide) (hts (.fieldLink RX6 47 "OwnedPlaces$Memory" "lowest" "I") (wm_c_mtake 1 rfl)) (fun _ h9 => h9) rfl dX6_takeBlock_3 ?_
  refine lv_istore_n (lv' := [(3, .int (nI lo)), (2, .int 0), (0, .ref me), (1, .int (nI z9))]) hx hb dX6_takeBlock_6 rfl hl (by decide) rfl (fun ls hl => ?_)
  have hl : lv_has ls 5 [(3, .int (nI lo)), (2, .int (nI 0)), (0, .ref me), (1, .int (nI z9))] := hl
  refine W_q (fun Q1 hQ1 => ?_)
  have key1 : ∀ (n1 : Nat) (i fr9 : Nat) (H : Heap) (locs : List Loc) (ls : Array Slot), (i + n1 = mh + 1 ∧ i ≤ mh) → (fr9 ≤ i ∧ fr9 < z9) → (∀ j : Nat, i - fr9 ≤ j → j < i → ft j = 0) → va_P (dC, dI) vwCl [(me, .inr (6, [.ref y, .ref wq, .int (nI mh), .ref mc, .ref mt, .int (nI lo), .int miu, .int mmo, .ref md0, .ref md1, .ref md2, .int mdt])), (mt, .inl (kB, mh, .inl ft))] H → va_D A [(me, .inr (6, [.ref y, .ref wq, .int (nI mh), .ref mc, .ref mt, .int (nI lo), .int miu, .int mmo, .ref md0, .ref md1, .ref md2, .int mdt])), (mt, .inl (kB, mh, .inl ft))] → va_S A s.heap H locs → lv_has ls 5 [(3, .int (nI i)), (2, .int (nI fr9)), (0, .ref me), (1, .int (nI z9))] → W p l e (headSpec wp_c_mtake ({ frames := 2, cells := 0, slots := 0, locals := 46 })).room s m ([.ref me, .int (nI z9)] : List Value).toArray below meth c H locs 0 0 Q1 (F0 m 7 ls []) := by
    intro n1
    induction n1 with
    | zero => intro i fr9 H locs ls hb0 hb1 hb2; exact absurd hb0 (by omega)
    | succ n1 ih1 =>
      intro i fr9 H locs ls hb0 hb1 hb2 hP hD hS hl
      refine lv_iload_n hx hb dX6_takeBlock_7 rfl (lv_at hl 0 rfl) ?_
      refine lv_aload_n hx hb dX6_takeBlock_8 rfl (lv_at hl 2 rfl) ?_
      refine va_get (D := (dC, dI)) (ci := 6) (v := .int (nI mh)) (C := RX6) (T := TX6) (N := 12) hx hb hts in_c_mtake_X6 hown hK hP 0 rfl rfl 2 (by decide) (hts (.fieldLink RX6 29 "OwnedPlaces$Memory" "heap" "I") (wm_c_mtake 2 rfl)) (fun _ h9 => h9) rfl dX6_takeBlock_9 ?_
      refine lv_icmp_ge (tgt := 114) hx hb dX6_takeBlock_12 (by decide) (fun hc1 => ?_) (fun hc1 => ?_)
      · refine lv_iconst (v := (-1)) hx hb dX6_takeBlock_114 (by decide) ?_
        have hP9 := hP.sub (ws' := [(me, .inr (6, [.ref y, .ref wq, .int (nI mh), .ref mc, .ref mt, .int (nI lo), .int miu, .int mmo, .ref md0, .ref md1, .ref md2, .int mdt])), (mt, .inl (kB, mh, .inl ft))]) [0, 1] rfl
        have hD9 := hD.sub (ws' := [(me, .inr (6, [.ref y, .ref wq, .int (nI mh), .ref mc, .ref mt, .int (nI lo), .int miu, .int mmo, .ref md0, .ref md1, .ref md2, .int mdt])), (mt, .inl (kB, mh, .inl ft))]) [0, 1] (by decide) rfl
        have hK9 := hK.sub (tys' := [(kB, .byte)]) [0] rfl
        subst hQ1
        exact W.iret (v := (-1)) hx hb hr (fun tS ht hW => ⟨⟨(-1), (-1), rfl, rfl, lo, miu, mmo, ft, hlo, Or.inl ⟨rfl, rfl, rfl⟩, by rw [ht]; exact hP9, va_K.moved hW.alike hK9, hD9⟩, hS.F ht⟩) hS.2.2 dX6_takeBlock_115
      · have hi9 : i < mh := by rcases Nat.lt_or_ge i mh with y9 | y9; exact y9; exact absurd (nI_le y9 (by omega)) hc1
        refine lv_aload_n hx hb dX6_takeBlock_15 rfl (lv_at hl 2 rfl) ?_
        refine va_get (D := (dC, dI)) (ci := 6) (v := .ref mt) (C := RX6) (T := TX6) (N := 12) hx hb hts in_c_mtake_X6 hown hK hP 0 rfl rfl 4 (by decide) (hts (.fieldLink RX6 37 "OwnedPlaces$Memory" "taken" "[B") (wm_c_mtake 3 rfl)) (fun _ h9 => h9) rfl dX6_takeBlock_16 ?_
        refine lv_iload_n hx hb dX6_takeBlock_19 rfl (lv_at hl 0 rfl) ?_
        refine va_bald hx hb hK hP 1 0 rfl rfl (vp_in_nI hi9 (by omega)) dX6_takeBlock_20 ?_
        refine lv_topi (fun v_1 ev_1 => ?_)
        have hv9 : v_1 = ft i := ev_1.trans (by rw [nI_clamp (by omega)])
        refine lv_if_ne (tgt := 30) hx hb dX6_takeBlock_21 (by decide) (fun hne => ?_) (fun hne => ?_)
        · refine lv_iconst (v := 0) hx hb dX6_takeBlock_30 (by decide) ?_
          refine lv_istore_n (lv' := [(2, .int (nI 0)), (3, .int (nI i)), (0, .ref me), (1, .int (nI z9))]) hx hb dX6_takeBlock_31 rfl hl (by decide) rfl (fun ls hl => ?_)
          refine lv_iload_n hx hb dX6_takeBlock_32 rfl (lv_at hl 0 rfl) ?_
          refine lv_iload_n hx hb dX6_takeBlock_33 rfl (lv_at hl 3 rfl) ?_
          refine lv_icmp_ne (tgt := 108) hx hb dX6_takeBlock_34 (by decide) (fun _ => ?_) (fun c_2 => absurd c_2 (fun y9 => absurd ((nI_eq (a := 0) (b := z9) (by omega) (by omega)).mp y9) (by omega)))
          obtain ⟨x_3, ex_3⟩ : ∃ yY : Int32, yY = (nI i) + 1 := ⟨_, rfl⟩
          refine lv_iinc (v := x_3) (lv' := [(3, .int x_3), (2, .int (nI 0)), (0, .ref me), (1, .int (nI z9))]) hx hb dX6_takeBlock_108 hl (k := 1) rfl (by rw [ex_3]; rfl) (by decide) rfl (fun ls hl => ?_)
          obtain rfl : x_3 = nI (i + 1) := by rw [ex_3]; exact nI_1 i
          have hl : lv_has ls 5 [(3, .int (nI (i + 1))), (2, .int (nI 0)), (0, .ref me), (1, .int (nI z9))] := hl
          refine lv_goto (tgt := 7) hx hb dX6_takeBlock_111 (by decide) ?_
          exact ih1 (i + 1) 0 _ _ _ (by omega) (by omega) (fun j h1 h2 => absurd h2 (by omega)) (hP.sub [0, 1] rfl) (hD.sub [0, 1] (by decide) rfl) hS (lv_sub hl [0, 1, 2, 3] rfl)
        · have hf9 : ft i = 0 := hv9.symm.trans hne
          refine lv_iload_n hx hb dX6_takeBlock_24 rfl (lv_at hl 1 rfl) ?_
          refine lv_iconst (v := 1) hx hb dX6_takeBlock_25 (by decide) ?_
          refine lv_iadd hx hb dX6_takeBlock_26 ?_
          refine lv_topi (fun f_2 ef_2 => ?_)
          obtain rfl : f_2 = nI (fr9 + 1) := ef_2.trans (nI_1 _)
          refine lv_goto (tgt := 31) hx hb dX6_takeBlock_27 (by decide) ?_
          refine lv_istore_n (lv' := [(2, .int (nI (fr9 + 1))), (3, .int (nI i)), (0, .ref me), (1, .int (nI z9))]) hx hb dX6_takeBlock_31 rfl hl (by decide) rfl (fun ls hl => ?_)
          refine lv_iload_n hx hb dX6_takeBlock_32 rfl (lv_at hl 0 rfl) ?_
          refine lv_iload_n hx hb dX6_takeBlock_33 rfl (lv_at hl 3 rfl) ?_
          refine lv_icmp_ne (tgt := 108) hx hb dX6_takeBlock_34 (by decide) (fun hsz => ?_) (fun hsz => ?_)
          · have hs9 : fr9 + 1 ≠ z9 := fun y9 => hsz (by rw [y9])
            obtain ⟨x_3, ex_3⟩ : ∃ yY : Int32, yY = (nI i) + 1 := ⟨_, rfl⟩
            refine lv_iinc (v := x_3) (lv' := [(3, .int x_3), (2, .int (nI (fr9 + 1))), (0, .ref me), (1, .int (nI z9))]) hx hb dX6_takeBlock_108 hl (k := 1) rfl (by rw [ex_3]; rfl) (by decide) rfl (fun ls hl => ?_)
            obtain rfl : x_3 = nI (i + 1) := by rw [ex_3]; exact nI_1 i
            have hl : lv_has ls 5 [(3, .int (nI (i + 1))), (2, .int (nI (fr9 + 1))), (0, .ref me), (1, .int (nI z9))] := hl
            refine lv_goto (tgt := 7) hx hb dX6_takeBlock_111 (by decide) ?_
            exact ih1 (i + 1) (fr9 + 1) _ _ _ (by omega) (by omega) (fun j h1 h2 => by rcases Nat.lt_or_ge j i with y9 | y9; exact hb2 j (by omega) y9; rw [show j = i by omega]; exact hf9) (hP.sub [0, 1] rfl) (hD.sub [0, 1] (by decide) rfl) hS (lv_sub hl [0, 1, 2, 3] rfl)
          · have hs9 : fr9 + 1 = z9 := (nI_eq (a := fr9 + 1) (b := z9) (by omega) (by omega)).mp hsz
            have hfr9 : ∀ j : Nat, i + 1 - (fr9 + 1) ≤ j → j < i + 1 → ft j = 0 := fun j h1 h2 => by rcases Nat.lt_or_ge j i with y9 | y9; exact hb2 j (by omega) y9; rw [show j = i by omega]; exact hf9
            refine lv_iload_n hx hb dX6_takeBlock_37 rfl (lv_at hl 1 rfl) ?_
            refine lv_iconst (v := 1) hx hb dX6_takeBlock_38 (by decide) ?_
            refine lv_iadd hx hb dX6_takeBlock_39 ?_
            refine lv_topi (fun f_3 ef_3 => ?_)
            obtain rfl : f_3 = nI (i + 1) := ef_3.trans (nI_1 _)
            refine lv_iload_n hx hb dX6_takeBlock_40 rfl (lv_at hl 3 rfl) ?_
            refine lv_isub hx hb dX6_takeBlock_41 ?_
            refine lv_topi (fun f_4 ef_4 => ?_)
            obtain rfl : f_4 = nI (i + 1 - z9) := ef_4.trans (pk_sub (a := i + 1) (b := z9) (by omega))
            refine lv_istore (lv' := [(4, .int (nI (i + 1 - z9))), (2, .int (nI (fr9 + 1))), (3, .int (nI i)), (0, .ref me), (1, .int (nI z9))]) hx hb dX6_takeBlock_42 hl (by decide) rfl (fun ls hl => ?_)
            refine lv_aload_n hx hb dX6_takeBlock_44 rfl (lv_at hl 3 rfl) ?_
            refine va_get (D := (dC, dI)) (ci := 6) (v := .ref mt) (C := RX6) (T := TX6) (N := 12) hx hb hts in_c_mtake_X6 hown hK hP 0 rfl rfl 4 (by decide) (hts (.fieldLink RX6 37 "OwnedPlaces$Memory" "taken" "[B") (wm_c_mtake 3 rfl)) (fun _ h9 => h9) rfl dX6_takeBlock_45 ?_
            refine lv_iload hx hb dX6_takeBlock_48 (lv_at hl 0 rfl) ?_
            refine lv_iload_n hx hb dX6_takeBlock_50 rfl (lv_at hl 2 rfl) ?_
            refine lv_iconst (v := 1) hx hb dX6_takeBlock_51 (by decide) ?_
            refine lv_iadd hx hb dX6_takeBlock_52 ?_
            refine lv_topi (fun f_5 ef_5 => ?_)
            obtain rfl : f_5 = nI (i + 1) := ef_5.trans (nI_1 _)
            refine lv_iconst (v := 1) hx hb dX6_takeBlock_53 (by decide) ?_
            have hPc := hP.sub (ws' := [(mt, .inl (kB, mh, .inl ft))]) [1] rfl
            have hDc := hD.sub (ws' := [(mt, .inl (kB, mh, .inl ft))]) [1] (by decide) rfl
            have hKc := hK.sub (tys' := [(kB, .byte)]) [0] rfl
            have hFc := va_free (wc := [(mt, .inl (kB, mh, .inl ft))]) hD hS hA [1] rfl
            refine va_callv (va_runS (As := [.ref mt, .int (nI (i + 1 - z9)), .int (nI (i + 1)), .int 1]) (rest := []) ⟨hx, hb, hml, hown, hts⟩ (c_fillBp l dC dI mt mh (i + 1 - z9) (i + 1) kB ft 1 H.size (by omega) (by omega) (by omega)) (va_cwS 4 hts g_c_mtake_c_fillBp_54 rfl rfl rfl (by decide +kernel) ⟨Nat.le_of_ble_eq_true rfl, Nat.le_of_ble_eq_true rfl⟩) ⟨fun a U g mk q => by obtain ⟨q0, q1, qP, qK, qD⟩ := q; exact ⟨q0, q1, qP, va_K.moved (u := U) (U := U.calling g mk a) (Vm.Alike.refl U.vm) qK, qD⟩, fun U hU hW => ⟨rfl, by rw [hU], by rw [hU]; exact hPc, va_K.moved hW.alike hKc, hDc.weaken (fun _ _ _ _ => trivial)⟩⟩ rfl rfl hl.1 rfl (lv_room (Nat.le_of_ble_eq_true rfl)) dX6_takeBlock_54 ⟨(show 0 + 0 ≤ 0 by omega), (show 0 + 0 ≤ 0 by omega)⟩) hS (fun q _ h => hFc q h) hFc (fun u tS H1 locs ht hvm hw hB hz1 hk1 hS => ?_)
            obtain ⟨g9, hf6_0, hP1, hK1, hD1⟩ := hB
            rw [ht] at hP1
            have hK1 := va_K.moved hvm.symm hK1
            obtain ⟨hP, hD⟩ := va_join (wr := [(me, .inr (6, [.ref y, .ref wq, .int (nI mh), .ref mc, .ref mt, .int (nI lo), .int miu, .int mmo, .ref md0, .ref md1, .ref md2, .int mdt]))]) (w1 := [(mt, .inl (kB, mh, .inl g9))]) hP hD [1] [0] rfl rfl (by decide) (by decide) hk1 hFc hP1 hD1
            have hK := hK.app hK1
            generalize H1 = H at hP hS ⊢
            have hP : va_P (dC, dI) vwCl [(me, .inr (6, [.ref y, .ref wq, .int (nI mh), .ref mc, .ref mt, .int (nI lo), .int miu, .int mmo, .ref md0, .ref md1, .ref md2, .int mdt])), (mt, .inl (kB, mh, .inl g9))] H := hP
            have hD : va_D A [(me, .inr (6, [.ref y, .ref wq, .int (nI mh), .ref mc, .ref mt, .int (nI lo), .int miu, .int mmo, .ref md0, .ref md1, .ref md2, .int mdt])), (mt, .inl (kB, mh, .inl g9))] := hD
            have hK : va_K (dC, dI) vwCl [(kB, .byte), (kB, .byte)] s := hK
            have hK := hK.sub (tys' := [(kB, .byte)]) [0] rfl
            have hP : va_P (dC, dI) vwCl [(me, .inr (6, [.ref y, .ref wq, .int (nI mh), .ref mc, .ref mt, .int (nI lo), .int miu, .int mmo, .ref md0, .ref md1, .ref md2, .int mdt])), (mt, .inl (kB, mh, .inl g9))] H := hP
            have hD : va_D A [(me, .inr (6, [.ref y, .ref wq, .int (nI mh), .ref mc, .ref mt, .int (nI lo), .int miu, .int mmo, .ref md0, .ref md1, .ref md2, .int mdt])), (mt, .inl (kB, mh, .inl g9))] := hD
            have hG := hf6_0
            refine lv_aload_n hx hb dX6_takeBlock_57 rfl (lv_at hl 3 rfl) ?_
            refine lv_iload hx hb dX6_takeBlock_58 (lv_at hl 0 rfl) ?_
            refine lv_aload_n hx hb dX6_takeBlock_60 rfl (lv_at hl 3 rfl) ?_
            refine va_get (D := (dC, dI)) (ci := 6) (v := .int (nI lo)) (C := RX6) (T := TX6) (N := 12) hx hb hts in_c_mtake_X6 hown hK hP 0 rfl rfl 5 (by decide) (hts (.fieldLink RX6 47 "OwnedPlaces$Memory" "lowest" "I") (wm_c_mtake 1 rfl)) (fun _ h9 => h9) rfl dX6_takeBlock_61 ?_
            refine lv_icmp_ne (tgt := 73) hx hb dX6_takeBlock_64 (by decide) (fun hlw => ?_) (fun hlw => ?_)
            · refine lv_aload_n hx hb dX6_takeBlock_73 rfl (lv_at hl 3 rfl) ?_
              refine va_get (D := (dC, dI)) (ci := 6) (v := .int (nI lo)) (C := RX6) (T := TX6) (N := 12) hx hb hts in_c_mtake_X6 hown hK hP 0 rfl rfl 5 (by decide) (hts (.fieldLink RX6 47 "OwnedPlaces$Memory" "lowest" "I") (wm_c_mtake 1 rfl)) (fun _ h9 => h9) rfl dX6_takeBlock_74 ?_
              refine va_put (D := (dC, dI)) (ci := 6) (v := .int (nI lo)) (ty := .int) (C := RX6) (T := TX6) (N := 12) hx hb hts in_c_mtake_X6 tyX6 tyX6_ok nmX6 hown hK hP hD hS 0 rfl rfl 5 (by decide) (hts (.fieldLink RX6 47 "OwnedPlaces$Memory" "lowest" "I") (wm_c_mtake 1 rfl)) (fun _ h9 => h9) rfl (by decide +kernel) rfl rfl (Nat.le_of_ble_eq_true rfl) dX6_takeBlock_77 (fun H locs hP hD hS => ?_)
              have hP : va_P (dC, dI) vwCl [(me, .inr (6, [.ref y, .ref wq, .int (nI mh), .ref mc, .ref mt, .int (nI lo), .int miu, .int mmo, .ref md0, .ref md1, .ref md2, .int mdt])), (mt, .inl (kB, mh, .inl g9))] H := hP
              have hD : va_D A [(me, .inr (6, [.ref y, .ref wq, .int (nI mh), .ref mc, .ref mt, .int (nI lo), .int miu, .int mmo, .ref md0, .ref md1, .ref md2, .int mdt])), (mt, .inl (kB, mh, .inl g9))] := hD
              refine lv_aload_n hx hb dX6_takeBlock_80 rfl (lv_at hl 3 rfl) ?_
              refine lv_dup hx hb dX6_takeBlock_81 rfl ?_
              refine va_get (D := (dC, dI)) (ci := 6) (v := .int miu) (C := RX6) (T := TX6) (N := 12) hx hb hts in_c_mtake_X6 hown hK hP 0 rfl rfl 6 (by decide) (hts (.fieldLink RX6 50 "OwnedPlaces$Memory" "inUse" "I") (wm_c_mtake 11 rfl)) (fun _ h9 => h9) rfl dX6_takeBlock_82 ?_
              refine lv_iload_n hx hb dX6_takeBlock_85 rfl (lv_at hl 4 rfl) ?_
              refine lv_iadd hx hb dX6_takeBlock_86 ?_
              refine lv_topi (fun f_7 ef_7 => ?_)
              obtain rfl : f_7 = (miu + nI z9) := ef_7
              refine va_put (D := (dC, dI)) (ci := 6) (v := .int (miu + nI z9)) (ty := .int) (C := RX6) (T := TX6) (N := 12) hx hb hts in_c_mtake_X6 tyX6 tyX6_ok nmX6 hown hK hP hD hS 0 rfl rfl 6 (by decide) (hts (.fieldLink RX6 50 "OwnedPlaces$Memory" "inUse" "I") (wm_c_mtake 11 rfl)) (fun _ h9 => h9) rfl (by decide +kernel) rfl rfl (Nat.le_of_ble_eq_true rfl) dX6_takeBlock_87 (fun H locs hP hD hS => ?_)
              have hP : va_P (dC, dI) vwCl [(me, .inr (6, [.ref y, .ref wq, .int (nI mh), .ref mc, .ref mt, .int (nI lo), .int (miu + nI z9), .int mmo, .ref md0, .ref md1, .ref md2, .int mdt])), (mt, .inl (kB, mh, .inl g9))] H := hP
              have hD : va_D A [(me, .inr (6, [.ref y, .ref wq, .int (nI mh), .ref mc, .ref mt, .int (nI lo), .int (miu + nI z9), .int mmo, .ref md0, .ref md1, .ref md2, .int mdt])), (mt, .inl (kB, mh, .inl g9))] := hD
              refine lv_aload_n hx hb dX6_takeBlock_90 rfl (lv_at hl 3 rfl) ?_
              refine lv_aload_n hx hb dX6_takeBlock_91 rfl (lv_at hl 3 rfl) ?_
              refine va_get (D := (dC, dI)) (ci := 6) (v := .int mmo) (C := RX6) (T := TX6) (N := 12) hx hb hts in_c_mtake_X6 hown hK hP 0 rfl rfl 7 (by decide) (hts (.fieldLink RX6 53 "OwnedPlaces$Memory" "mostInUse" "I") (wm_c_mtake 12 rfl)) (fun _ h9 => h9) rfl dX6_takeBlock_92 ?_
              refine lv_aload_n hx hb dX6_takeBlock_95 rfl (lv_at hl 3 rfl) ?_
              refine va_get (D := (dC, dI)) (ci := 6) (v := .int (miu + nI z9)) (C := RX6) (T := TX6) (N := 12) hx hb hts in_c_mtake_X6 hown hK hP 0 rfl rfl 6 (by decide) (hts (.fieldLink RX6 50 "OwnedPlaces$Memory" "inUse" "I") (wm_c_mtake 11 rfl)) (fun _ h9 => h9) rfl dX6_takeBlock_96 ?_
              refine va_mmax hx hb (by rw [hml]; exact hl.1.symm) hown (hts (.methodLink RX6 56 Lib.Math.max.name) (wm_c_mtake 13 rfl)) (hts (.static Lib.Math.max.name) (wm_c_mtake 14 rfl)) (hts (.initialized "java/lang/Math") (wm_c_mtake 15 rfl)) (hts (.code Lib.Math.max.name Lib.Math.max.code 2 (some .int)) (wm_c_mtake 16 rfl)) (Nat.le_of_ble_eq_true rfl) (Nat.le_of_ble_eq_true rfl) (Nat.zero_le _) (Nat.zero_le _) dX6_takeBlock_99 ?_
              refine lv_topi (fun f_8 ef_8 => ?_)
              refine va_put (D := (dC, dI)) (ci := 6) (v := .int f_8) (ty := .int) (C := RX6) (T := TX6) (N := 12) hx hb hts in_c_mtake_X6 tyX6 tyX6_ok nmX6 hown hK hP hD hS 0 rfl rfl 7 (by decide) (hts (.fieldLink RX6 53 "OwnedPlaces$Memory" "mostInUse" "I") (wm_c_mtake 12 rfl)) (fun _ h9 => h9) rfl (by decide +kernel) rfl rfl (Nat.le_of_ble_eq_true rfl) dX6_takeBlock_102 (fun H locs hP hD hS => ?_)
              have hP : va_P (dC, dI) vwCl [(me, .inr (6, [.ref y, .ref wq, .int (nI mh), .ref mc, .ref mt, .int (nI lo), .int (miu + nI z9), .int f_8, .ref md0, .ref md1, .ref md2, .int mdt])), (mt, .inl (kB, mh, .inl g9))] H := hP
              have hD : va_D A [(me, .inr (6, [.ref y, .ref wq, .int (nI mh), .ref mc, .ref mt, .int (nI lo), .int (miu + nI z9), .int f_8, .ref md0, .ref md1, .ref md2, .int mdt])), (mt, .inl (kB, mh, .inl g9))] := hD
              refine lv_iload hx hb dX6_takeBlock_105 (lv_at hl 0 rfl) ?_
              have hP9 := hP.sub (ws' := [(me, .inr (6, [.ref y, .ref wq, .int (nI mh), .ref mc, .ref mt, .int (nI lo), .int (miu + nI z9), .int f_8, .ref md0, .ref md1, .ref md2, .int mdt])), (mt, .inl (kB, mh, .inl g9))]) [0, 1] rfl
              have hD9 := hD.sub (ws' := [(me, .inr (6, [.ref y, .ref wq, .int (nI mh), .ref mc, .ref mt, .int (nI lo), .int (miu + nI z9), .int f_8, .ref md0, .ref md1, .ref md2, .int mdt])), (mt, .inl (kB, mh, .inl g9))]) [0, 1] (by decide) rfl
              have hK9 := hK.sub (tys' := [(kB, .byte)]) [0] rfl
              subst hQ1
              exact W.iret (v := nI (i + 1 - z9)) hx hb hr (fun tS ht hW => ⟨⟨(nI (i + 1 - z9)), (nI (i + 1 - z9)), rfl, rfl, lo, miu + nI z9, f_8, g9, by omega, Or.inr ⟨i + 1 - z9, rfl, by omega, fun j h1 h2 => hfr9 j (by omega) (by omega), fun j => by
                by_cases e9 : i + 1 - z9 ≤ j ∧ j < i + 1 - z9 + z9
                · rw [if_pos e9, (hG j).1 (by omega)]; decide
                · rw [if_neg e9]; exact (hG j).2 (by omega), rfl⟩, by rw [ht]; exact hP9, va_K.moved hW.alike hK9, hD9⟩, hS.F ht⟩) hS.2.2 dX6_takeBlock_107
            · refine lv_iload_n hx hb dX6_takeBlock_67 rfl (lv_at hl 2 rfl) ?_
              refine lv_iconst (v := 1) hx hb dX6_takeBlock_68 (by decide) ?_
              refine lv_iadd hx hb dX6_takeBlock_69 ?_
              refine lv_topi (fun f_7 ef_7 => ?_)
              obtain rfl : f_7 = nI (i + 1) := ef_7.trans (nI_1 _)
              refine lv_goto (tgt := 77) hx hb dX6_takeBlock_70 (by decide) ?_
              refine va_put (D := (dC, dI)) (ci := 6) (v := .int (nI (i + 1))) (ty := .int) (C := RX6) (T := TX6) (N := 12) hx hb hts in_c_mtake_X6 tyX6 tyX6_ok nmX6 hown hK hP hD hS 0 rfl rfl 5 (by decide) (hts (.fieldLink RX6 47 "OwnedPlaces$Memory" "lowest" "I") (wm_c_mtake 1 rfl)) (fun _ h9 => h9) rfl (by decide +kernel) rfl rfl (Nat.le_of_ble_eq_true rfl) dX6_takeBlock_77 (fun H locs hP hD hS => ?_)
              have hP : va_P (dC, dI) vwCl [(me, .inr (6, [.ref y, .ref wq, .int (nI mh), .ref mc, .ref mt, .int (nI (i + 1)), .int miu, .int mmo, .ref md0, .ref md1, .ref md2, .int mdt])), (mt, .inl (kB, mh, .inl g9))] H := hP
              have hD : va_D A [(me, .inr (6, [.ref y, .ref wq, .int (nI mh), .ref mc, .ref mt, .int (nI (i + 1)), .int miu, .int mmo, .ref md0, .ref md1, .ref md2, .int mdt])), (mt, .inl (kB, mh, .inl g9))] := hD
              refine lv_aload_n hx hb dX6_takeBlock_80 rfl (lv_at hl 3 rfl) ?_
              refine lv_dup hx hb dX6_takeBlock_81 rfl ?_
              refine va_get (D := (dC, dI)) (ci := 6) (v := .int miu) (C := RX6) (T := TX6) (N := 12) hx hb hts in_c_mtake_X6 hown hK hP 0 rfl rfl 6 (by decide) (hts (.fieldLink RX6 50 "OwnedPlaces$Memory" "inUse" "I") (wm_c_mtake 11 rfl)) (fun _ h9 => h9) rfl dX6_takeBlock_82 ?_
              refine lv_iload_n hx hb dX6_takeBlock_85 rfl (lv_at hl 4 rfl) ?_
              refine lv_iadd hx hb dX6_takeBlock_86 ?_
              refine lv_topi (fun f_8 ef_8 => ?_)
              obtain rfl : f_8 = (miu + nI z9) := ef_8
              refine va_put (D := (dC, dI)) (ci := 6) (v := .int (miu + nI z9)) (ty := .int) (C := RX6) (T := TX6) (N := 12) hx hb hts in_c_mtake_X6 tyX6 tyX6_ok nmX6 hown hK hP hD hS 0 rfl rfl 6 (by decide) (hts (.fieldLink RX6 50 "OwnedPlaces$Memory" "inUse" "I") (wm_c_mtake 11 rfl)) (fun _ h9 => h9) rfl (by decide +kernel) rfl rfl (Nat.le_of_ble_eq_true rfl) dX6_takeBlock_87 (fun H locs hP hD hS => ?_)
              have hP : va_P (dC, dI) vwCl [(me, .inr (6, [.ref y, .ref wq, .int (nI mh), .ref mc, .ref mt, .int (nI (i + 1)), .int (miu + nI z9), .int mmo, .ref md0, .ref md1, .ref md2, .int mdt])), (mt, .inl (kB, mh, .inl g9))] H := hP
              have hD : va_D A [(me, .inr (6, [.ref y, .ref wq, .int (nI mh), .ref mc, .ref mt, .int (nI (i + 1)), .int (miu + nI z9), .int mmo, .ref md0, .ref md1, .ref md2, .int mdt])), (mt, .inl (kB, mh, .inl g9))] := hD
              refine lv_aload_n hx hb dX6_takeBlock_90 rfl (lv_at hl 3 rfl) ?_
              refine lv_aload_n hx hb dX6_takeBlock_91 rfl (lv_at hl 3 rfl) ?_
              refine va_get (D := (dC, dI)) (ci := 6) (v := .int mmo) (C := RX6) (T := TX6) (N := 12) hx hb hts in_c_mtake_X6 hown hK hP 0 rfl rfl 7 (by decide) (hts (.fieldLink RX6 53 "OwnedPlaces$Memory" "mostInUse" "I") (wm_c_mtake 12 rfl)) (fun _ h9 => h9) rfl dX6_takeBlock_92 ?_
              refine lv_aload_n hx hb dX6_takeBlock_95 rfl (lv_at hl 3 rfl) ?_
              refine va_get (D := (dC, dI)) (ci := 6) (v := .int (miu + nI z9)) (C := RX6) (T := TX6) (N := 12) hx hb hts in_c_mtake_X6 hown hK hP 0 rfl rfl 6 (by decide) (hts (.fieldLink RX6 50 "OwnedPlaces$Memory" "inUse" "I") (wm_c_mtake 11 rfl)) (fun _ h9 => h9) rfl dX6_takeBlock_96 ?_
              refine va_mmax hx hb (by rw [hml]; exact hl.1.symm) hown (hts (.methodLink RX6 56 Lib.Math.max.name) (wm_c_mtake 13 rfl)) (hts (.static Lib.Math.max.name) (wm_c_mtake 14 rfl)) (hts (.initialized "java/lang/Math") (wm_c_mtake 15 rfl)) (hts (.code Lib.Math.max.name Lib.Math.max.code 2 (some .int)) (wm_c_mtake 16 rfl)) (Nat.le_of_ble_eq_true rfl) (Nat.le_of_ble_eq_true rfl) (Nat.zero_le _) (Nat.zero_le _) dX6_takeBlock_99 ?_
              refine lv_topi (fun f_9 ef_9 => ?_)
              refine va_put (D := (dC, dI)) (ci := 6) (v := .int f_9) (ty := .int) (C := RX6) (T := TX6) (N := 12) hx hb hts in_c_mtake_X6 tyX6 tyX6_ok nmX6 hown hK hP hD hS 0 rfl rfl 7 (by decide) (hts (.fieldLink RX6 53 "OwnedPlaces$Memory" "mostInUse" "I") (wm_c_mtake 12 rfl)) (fun _ h9 => h9) rfl (by decide +kernel) rfl rfl (Nat.le_of_ble_eq_true rfl) dX6_takeBlock_102 (fun H locs hP hD hS => ?_)
              have hP : va_P (dC, dI) vwCl [(me, .inr (6, [.ref y, .ref wq, .int (nI mh), .ref mc, .ref mt, .int (nI (i + 1)), .int (miu + nI z9), .int f_9, .ref md0, .ref md1, .ref md2, .int mdt])), (mt, .inl (kB, mh, .inl g9))] H := hP
              have hD : va_D A [(me, .inr (6, [.ref y, .ref wq, .int (nI mh), .ref mc, .ref mt, .int (nI (i + 1)), .int (miu + nI z9), .int f_9, .ref md0, .ref md1, .ref md2, .int mdt])), (mt, .inl (kB, mh, .inl g9))] := hD
              refine lv_iload hx hb dX6_takeBlock_105 (lv_at hl 0 rfl) ?_
              have hP9 := hP.sub (ws' := [(me, .inr (6, [.ref y, .ref wq, .int (nI mh), .ref mc, .ref mt, .int (nI (i + 1)), .int (miu + nI z9), .int f_9, .ref md0, .ref md1, .ref md2, .int mdt])), (mt, .inl (kB, mh, .inl g9))]) [0, 1] rfl
              have hD9 := hD.sub (ws' := [(me, .inr (6, [.ref y, .ref wq, .int (nI mh), .ref mc, .ref mt, .int (nI (i + 1)), .int (miu + nI z9), .int f_9, .ref md0, .ref md1, .ref md2, .int mdt])), (mt, .inl (kB, mh, .inl g9))]) [0, 1] (by decide) rfl
              have hK9 := hK.sub (tys' := [(kB, .byte)]) [0] rfl
              subst hQ1
              exact W.iret (v := nI (i + 1 - z9)) hx hb hr (fun tS ht hW => ⟨⟨(nI (i + 1 - z9)), (nI (i + 1 - z9)), rfl, rfl, i + 1, miu + nI z9, f_9, g9, by omega, Or.inr ⟨i + 1 - z9, rfl, by omega, fun j h1 h2 => hfr9 j (by omega) (by omega), fun j => by
                by_cases e9 : i + 1 - z9 ≤ j ∧ j < i + 1 - z9 + z9
                · rw [if_pos e9, (hG j).1 (by omega)]; decide
                · rw [if_neg e9]; exact (hG j).2 (by omega), rfl⟩, by rw [ht]; exact hP9, va_K.moved hW.alike hK9, hD9⟩, hS.F ht⟩) hS.2.2 dX6_takeBlock_107
  exact key1 (mh + 1 - lo) lo 0 _ _ _ (by omega) (by omega) (fun j h1 h2 => absurd h2 (by omega)) (hP.sub [0, 1] rfl) (hD.sub [0, 1] (by decide) rfl) hS (lv_sub hl [0, 1, 2, 3] rfl)
