/-- the first of two places where a fault is told; below 0: none -/
def tlF (a w : Int32) : Int32 := if a < 0 then w else if w < a then w else a
/-- the cells of a variable of that type, a bit each -/
def fuI (az : Nat → Int32) (u : Nat) : Int32 := ((1 : Int32) <<< (az u &&& 31)) - 1
def wf_c_vtell : List Cond := [.code yX7_tell cX7_tell 3 none, .fieldLink RX7 27 "OwnedPlaces$Moves" "code" "LOwnedPlaces$Code;", .fieldLink RX7 144 "OwnedPlaces$Code" "placeWhere" "[I", .fieldLink RX7 35 "OwnedPlaces$Moves" "first" "I"]
def wp_c_vtell : List Cond := wf_c_vtell ++ (wsX70 ++ (wsX00 ++ []))
theorem in_c_vtell_X7 : ∀ w ∈ wsX70, w ∈ wp_c_vtell := fun w h => List.mem_append_right _ (List.mem_append_left _ h)
theorem in_c_vtell_X0 : ∀ w ∈ wsX00, w ∈ wp_c_vtell := fun w h => List.mem_append_right _ (List.mem_append_right _ (List.mem_append_left _ h))
theorem wg_c_vtell : wf_c_vtell.all goodWord = true := by decide +kernel
theorem wm_c_vtell (k : Nat) {w : Cond} (h : wp_c_vtell[k]? = some w) : w ∈ wp_c_vtell := List.mem_of_getElem? h
set_option maxHeartbeats 4000000 in
set_option maxRecDepth 100000 in
theorem c_vtell (l : Launch) (dC : Nat → ClassId) (dI : Nat → Nat → Nat) (mv y f0 vs vr vc : Nat) (vir vag vfi : Int32) (c0 co ca cb c3 cw cl cpv cpp cpl cpr cpt cpw cpc car : Nat) (ct cb9 cp9 ca9 : Nat) (kI kZ : ClassId) (pp : Nat) (fpw : Nat → Int32) (sz : Nat) (hpp : pp < 3002) : Met l yX7_tell wp_c_vtell ({ frames := 0, cells := 0, slots := 0, locals := 0 }) (va_Pc [.ref mv, .int (nI pp)] (fun U => U.heap.size = sz ∧ va_P (dC, dI) vwCl [(mv, .inr (7, [.ref y, .ref c0, .ref f0, .ref vs, .ref vr, .ref vc, .int vir, .int vag, .int vfi])), (c0, .inr (0, [.ref co, .ref ca, .ref cb, .ref c3, .ref cw, .int (nI ct), .ref cl, .int (nI cb9), .ref cpv, .ref cpp, .ref cpl, .ref cpr, .ref cpt, .ref cpw, .ref cpc, .int (nI cp9), .ref car, .int (nI ca9)])), (cpw, .inl (kI, 3002, .inl fpw))] U.heap ∧ va_K (dC, dI) vwCl [(kI, .int)] U ∧ va_D (fun _ => True) [(mv, .inr (7, [.ref y, .ref c0, .ref f0, .ref vs, .ref vr, .ref vc, .int vir, .int vag, .int vfi])), (c0, .inr (0, [.ref co, .ref ca, .ref cb, .ref c3, .ref cw, .int (nI ct), .ref cl, .int (nI cb9), .ref cpv, .ref cpp, .ref cpl, .ref cpr, .ref cpt, .ref cpw, .ref cpc, .int (nI cp9), .ref car, .int (nI ca9)])), (cpw, .inl (kI, 3002, .inl fpw))])) (va_Qv (fun _ : Unit => True) (fun (_ : Unit) (tS : State) => ∃ (fi2 : Int32), (fi2 = tlF vfi (fpw pp)) ∧ va_P (dC, dI) vwCl [(mv, .inr (7, [.ref y, .ref c0, .ref f0, .ref vs, .ref vr, .ref vc, .int vir, .int vag, .int fi2])), (c0, .inr (0, [.ref co, .ref ca, .ref cb, .ref c3, .ref cw, .int (nI ct), .ref cl, .int (nI cb9), .ref cpv, .ref cpp, .ref cpl, .ref cpr, .ref cpt, .ref cpw, .ref cpc, .int (nI cp9), .ref car, .int (nI ca9)])), (cpw, .inl (kI, 3002, .inl fpw))] tS.heap ∧ va_K (dC, dI) vwCl [(kI, .int)] tS ∧ va_D (va_A [(mv, .inr (7, [.ref y, .ref c0, .ref f0, .ref vs, .ref vr, .ref vc, .int vir, .int vag, .int vfi])), (c0, .inr (0, [.ref co, .ref ca, .ref cb, .ref c3, .ref cw, .int (nI ct), .ref cl, .int (nI cb9), .ref cpv, .ref cpp, .ref cpl, .ref cpr, .ref cpt, .ref cpw, .ref cpc, .int (nI cp9), .ref car, .int (nI ca9)])), (cpw, .inl (kI, 3002, .inl fpw))] sz) [(mv, .inr (7, [.ref y, .ref c0, .ref f0, .ref vs, .ref vr, .ref vc, .int vir, .int vag, .int fi2])), (c0, .inr (0, [.ref co, .ref ca, .ref cb, .ref c3, .ref cw, .int (nI ct), .ref cl, .int (nI cb9), .ref cpv, .ref cpp, .ref cpl, .ref cpr, .ref cpt, .ref cpw, .ref cpc, .int (nI cp9), .ref car, .int (nI ca9)])), (cpw, .inl (kI, 3002, .inl fpw))]) (va_A [(mv, .inr (7, [.ref y, .ref c0, .ref f0, .ref vs, .ref vr, .ref vc, .int vir, .int vag, .int vfi])), (c0, .inr (0, [.ref co, .ref ca, .ref cb, .ref c3, .ref cw, .int (nI ct), .ref cl, .int (nI cb9), .ref cpv, .ref cpp, .ref cpl, .ref cpr, .ref cpt, .ref cpw, .ref cpc, .int (nI cp9), .ref car, .int (nI ca9)])), (cpw, .inl (kI, 3002, .inl fpw))] sz)) 0 0 (va_A [(mv, .inr (7, [.ref y, .ref c0, .ref f0, .ref vs, .ref vr, .ref vc, .int vir, .int vag, .int vfi])), (c0, .inr (0, [.ref co, .ref ca, .ref cb, .ref c3, .ref cw, .int (nI ct), .ref cl, .int (nI cb9), .ref cpv, .ref cpp, .ref cpl, .ref cpr, .ref cpt, .ref cpw, .ref cpc, .int (nI cp9), .ref car, .int (nI ca9)])), (cpw, .inl (kI, 3002, .inl fpw))] sz) := by
  refine Met.ofW (cc := cX7_tell) (maxL := 3) (ret := none) (by decide) rfl ?_
  intro p e s m args below meth c s₁ B hml hv
  obtain ⟨rfl, hsz, hP, hK, hD0⟩ := hv
  have hx := B.exec
  have hb := B.bytes
  have hr := B.returns
  have hts := atoms_spec (ws := wp_c_vtell) B.pre
  have hown : s.vm.findClass RX7 = some m.cls := findClass_of_methodNamed B.named
  have hlocks := B.notSynchronized
  subst hsz
  have hD := hD0.self (sz := s.heap.size)
  generalize hAe : va_A [(mv, .inr (7, [.ref y, .ref c0, .ref f0, .ref vs, .ref vr, .ref vc, .int vir, .int vag, .int vfi])), (c0, .inr (0, [.ref co, .ref ca, .ref cb, .ref c3, .ref cw, .int (nI ct), .ref cl, .int (nI cb9), .ref cpv, .ref cpp, .ref cpl, .ref cpr, .ref cpt, .ref cpw, .ref cpc, .int (nI cp9), .ref car, .int (nI ca9)])), (cpw, .inl (kI, 3002, .inl fpw))] s.heap.size = A at hD ⊢
  have hA : ∀ q : Nat, s.heap.size ≤ q → A q := fun q h => by rw [← hAe]; exact Or.inr h
  have hS : va_S A s.heap s.heap [] := va_S.rf
  have hP : va_P (dC, dI) vwCl [(mv, .inr (7, [.ref y, .ref c0, .ref f0, .ref vs, .ref vr, .ref vc, .int vir, .int vag, .int vfi])), (c0, .inr (0, [.ref co, .ref ca, .ref cb, .ref c3, .ref cw, .int (nI ct), .ref cl, .int (nI cb9), .ref cpv, .ref cpp, .ref cpl, .ref cpr, .ref cpt, .ref cpw, .ref cpc, .int (nI cp9), .ref car, .int (nI ca9)])), (cpw, .inl (kI, 3002, .inl fpw))] s.heap := hP
  have hl := lv_entry ([.ref mv, .int (nI pp)]) (n := 3) (Nat.le_of_ble_eq_true rfl)
  rw [lg_entry_eq]
  generalize (lg_sl ([.ref mv, .int (nI pp)]) ++ List.replicate (3 - (lg_sl ([.ref mv, .int (nI pp)])).length) Slot.unset).toArray = ls at hl ⊢
  have hl : lv_has ls 3 [(0, .ref mv), (1, .int (nI pp))] := hl
  refine lv_aload_n hx hb dX7_tell_0 rfl (lv_at hl 0 rfl) ?_
  refine va_get (D := (dC, dI)) (ci := 7) (v := .ref c0) (C := RX7) (T := TX7) (N := 9) hx hb hts in_c_vtell_X7 hown hK hP 0 rfl rfl 1 (by decide) (hts (.fieldLink RX7 27 "OwnedPlaces$Moves" "code" "LOwnedPlaces$Code;") (wm_c_vtell 1 rfl)) (fun _ h9 => h9) rfl dX7_tell_1 ?_
  refine va_get (D := (dC, dI)) (ci := 0) (v := .ref cpw) (C := RX0) (T := TX0) (N := 18) hx hb hts in_c_vtell_X0 hown hK hP 1 rfl rfl 13 (by decide) (hts (.fieldLink RX7 144 "OwnedPlaces$Code" "placeWhere" "[I") (wm_c_vtell 2 rfl)) (fun _ h9 => h9) rfl dX7_tell_4 ?_
  refine lv_iload_n hx hb dX7_tell_7 rfl (lv_at hl 1 rfl) ?_
  refine va_iald hx hb hK hP 2 0 rfl rfl (vp_in_nI hpp (by decide)) dX7_tell_8 ?_
  refine lv_topi (fun v_1 ev_1 => ?_)
  obtain rfl : v_1 = fpw pp := ev_1.trans (by rw [nI_clamp (by omega)])
  refine lv_istore_n (lv' := [(2, .int (fpw pp)), (0, .ref mv), (1, .int (nI pp))]) hx hb dX7_tell_9 rfl hl (by decide) rfl (fun ls hl => ?_)
  refine lv_aload_n hx hb dX7_tell_10 rfl (lv_at hl 1 rfl) ?_
  refine va_get (D := (dC, dI)) (ci := 7) (v := .int vfi) (C := RX7) (T := TX7) (N := 9) hx hb hts in_c_vtell_X7 hown hK hP 0 rfl rfl 8 (by decide) (hts (.fieldLink RX7 35 "OwnedPlaces$Moves" "first" "I") (wm_c_vtell 3 rfl)) (fun _ h9 => h9) rfl dX7_tell_11 ?_
  refine lv_if_lt (tgt := 25) hx hb dX7_tell_14 (by decide) (fun hlt => ?_) (fun hlt => ?_)
  · refine lv_aload_n hx hb dX7_tell_25 rfl (lv_at hl 1 rfl) ?_
    refine lv_iload_n hx hb dX7_tell_26 rfl (lv_at hl 0 rfl) ?_
    refine va_put (D := (dC, dI)) (ci := 7) (v := .int (fpw pp)) (ty := .int) (C := RX7) (T := TX7) (N := 9) hx hb hts in_c_vtell_X7 tyX7 tyX7_ok nmX7 hown hK hP hD hS 0 rfl rfl 8 (by decide) (hts (.fieldLink RX7 35 "OwnedPlaces$Moves" "first" "I") (wm_c_vtell 3 rfl)) (fun _ h9 => h9) rfl (by decide +kernel) rfl rfl (Nat.le_of_ble_eq_true rfl) dX7_tell_27 (fun H locs hP hD hS => ?_)
    have hP : va_P (dC, dI) vwCl [(mv, .inr (7, [.ref y, .ref c0, .ref f0, .ref vs, .ref vr, .ref vc, .int vir, .int vag, .int (fpw pp)])), (c0, .inr (0, [.ref co, .ref ca, .ref cb, .ref c3, .ref cw, .int (nI ct), .ref cl, .int (nI cb9), .ref cpv, .ref cpp, .ref cpl, .ref cpr, .ref cpt, .ref cpw, .ref cpc, .int (nI cp9), .ref car, .int (nI ca9)])), (cpw, .inl (kI, 3002, .inl fpw))] H := hP
    have hD : va_D A [(mv, .inr (7, [.ref y, .ref c0, .ref f0, .ref vs, .ref vr, .ref vc, .int vir, .int vag, .int (fpw pp)])), (c0, .inr (0, [.ref co, .ref ca, .ref cb, .ref c3, .ref cw, .int (nI ct), .ref cl, .int (nI cb9), .ref cpv, .ref cpp, .ref cpl, .ref cpr, .ref cpt, .ref cpw, .ref cpc, .int (nI cp9), .ref car, .int (nI ca9)])), (cpw, .inl (kI, 3002, .inl fpw))] := hD
    have hP9 := hP.sub (ws' := [(mv, .inr (7, [.ref y, .ref c0, .ref f0, .ref vs, .ref vr, .ref vc, .int vir, .int vag, .int (fpw pp)])), (c0, .inr (0, [.ref co, .ref ca, .ref cb, .ref c3, .ref cw, .int (nI ct), .ref cl, .int (nI cb9), .ref cpv, .ref cpp, .ref cpl, .ref cpr, .ref cpt, .ref cpw, .ref cpc, .int (nI cp9), .ref car, .int (nI ca9)])), (cpw, .inl (kI, 3002, .inl fpw))]) [0, 1, 2] rfl
    have hD9 := hD.sub (ws' := [(mv, .inr (7, [.ref y, .ref c0, .ref f0, .ref vs, .ref vr, .ref vc, .int vir, .int vag, .int (fpw pp)])), (c0, .inr (0, [.ref co, .ref ca, .ref cb, .ref c3, .ref cw, .int (nI ct), .ref cl, .int (nI cb9), .ref cpv, .ref cpp, .ref cpl, .ref cpr, .ref cpt, .ref cpw, .ref cpc, .int (nI cp9), .ref car, .int (nI ca9)])), (cpw, .inl (kI, 3002, .inl fpw))]) [0, 1, 2] (by decide) rfl
    have hK9 := hK.sub (tys' := [(kI, .int)]) [0] rfl
    exact W.vret hx hb hr (fun tS ht hW => ⟨⟨(), rfl, trivial, fpw pp, (if_pos hlt).symm, by rw [ht]; exact hP9, va_K.moved hW.alike hK9, hD9⟩, hS.F ht⟩) hS.2.2 dX7_tell_30
  · refine lv_iload_n hx hb dX7_tell_17 rfl (lv_at hl 0 rfl) ?_
    refine lv_aload_n hx hb dX7_tell_18 rfl (lv_at hl 1 rfl) ?_
    refine va_get (D := (dC, dI)) (ci := 7) (v := .int vfi) (C := RX7) (T := TX7) (N := 9) hx hb hts in_c_vtell_X7 hown hK hP 0 rfl rfl 8 (by decide) (hts (.fieldLink RX7 35 "OwnedPlaces$Moves" "first" "I") (wm_c_vtell 3 rfl)) (fun _ h9 => h9) rfl dX7_tell_19 ?_
    refine lv_icmp_ge (tgt := 30) hx hb dX7_tell_22 (by decide) (fun hge => ?_) (fun hge => ?_)
    · have hP9 := hP.sub (ws' := [(mv, .inr (7, [.ref y, .ref c0, .ref f0, .ref vs, .ref vr, .ref vc, .int vir, .int vag, .int vfi])), (c0, .inr (0, [.ref co, .ref ca, .ref cb, .ref c3, .ref cw, .int (nI ct), .ref cl, .int (nI cb9), .ref cpv, .ref cpp, .ref cpl, .ref cpr, .ref cpt, .ref cpw, .ref cpc, .int (nI cp9), .ref car, .int (nI ca9)])), (cpw, .inl (kI, 3002, .inl fpw))]) [0, 1, 2] rfl
      have hD9 := hD.sub (ws' := [(mv, .inr (7, [.ref y, .ref c0, .ref f0, .ref vs, .ref vr, .ref vc, .int vir, .int vag, .int vfi])), (c0, .inr (0, [.ref co, .ref ca, .ref cb, .ref c3, .ref cw, .int (nI ct), .ref cl, .int (nI cb9), .ref cpv, .ref cpp, .ref cpl, .ref cpr, .ref cpt, .ref cpw, .ref cpc, .int (nI cp9), .ref car, .int (nI ca9)])), (cpw, .inl (kI, 3002, .inl fpw))]) [0, 1, 2] (by decide) rfl
      have hK9 := hK.sub (tys' := [(kI, .int)]) [0] rfl
      exact W.vret hx hb hr (fun tS ht hW => ⟨⟨(), rfl, trivial, vfi, by unfold tlF; rw [if_neg hlt, if_neg (Int32.not_lt.mpr hge)], by rw [ht]; exact hP9, va_K.moved hW.alike hK9, hD9⟩, hS.F ht⟩) hS.2.2 dX7_tell_30
    · refine lv_aload_n hx hb dX7_tell_25 rfl (lv_at hl 1 rfl) ?_
      refine lv_iload_n hx hb dX7_tell_26 rfl (lv_at hl 0 rfl) ?_
      refine va_put (D := (dC, dI)) (ci := 7) (v := .int (fpw pp)) (ty := .int) (C := RX7) (T := TX7) (N := 9) hx hb hts in_c_vtell_X7 tyX7 tyX7_ok nmX7 hown hK hP hD hS 0 rfl rfl 8 (by decide) (hts (.fieldLink RX7 35 "OwnedPlaces$Moves" "first" "I") (wm_c_vtell 3 rfl)) (fun _ h9 => h9) rfl (by decide +kernel) rfl rfl (Nat.le_of_ble_eq_true rfl) dX7_tell_27 (fun H locs hP hD hS => ?_)
      have hP : va_P (dC, dI) vwCl [(mv, .inr (7, [.ref y, .ref c0, .ref f0, .ref vs, .ref vr, .ref vc, .int vir, .int vag, .int (fpw pp)])), (c0, .inr (0, [.ref co, .ref ca, .ref cb, .ref c3, .ref cw, .int (nI ct), .ref cl, .int (nI cb9), .ref cpv, .ref cpp, .ref cpl, .ref cpr, .ref cpt, .ref cpw, .ref cpc, .int (nI cp9), .ref car, .int (nI ca9)])), (cpw, .inl (kI, 3002, .inl fpw))] H := hP
      have hD : va_D A [(mv, .inr (7, [.ref y, .ref c0, .ref f0, .ref vs, .ref vr, .ref vc, .int vir, .int vag, .int (fpw pp)])), (c0, .inr (0, [.ref co, .ref ca, .ref cb, .ref c3, .ref cw, .int (nI ct), .ref cl, .int (nI cb9), .ref cpv, .ref cpp, .ref cpl, .ref cpr, .ref cpt, .ref cpw, .ref cpc, .int (nI cp9), .ref car, .int (nI ca9)])), (cpw, .inl (kI, 3002, .inl fpw))] := hD
      have hP9 := hP.sub (ws' := [(mv, .inr (7, [.ref y, .ref c0, .ref f0, .ref vs, .ref vr, .ref vc, .int vir, .int vag, .int (fpw pp)])), (c0, .inr (0, [.ref co, .ref ca, .ref cb, .ref c3, .ref cw, .int (nI ct), .ref cl, .int (nI cb9), .ref cpv, .ref cpp, .ref cpl, .ref cpr, .ref cpt, .ref cpw, .ref cpc, .int (nI cp9), .ref car, .int (nI ca9)])), (cpw, .inl (kI, 3002, .inl fpw))]) [0, 1, 2] rfl
      have hD9 := hD.sub (ws' := [(mv, .inr (7, [.ref y, .ref c0, .ref f0, .ref vs, .ref vr, .ref vc, .int vir, .int vag, .int (fpw pp)])), (c0, .inr (0, [.ref co, .ref ca, .ref cb, .ref c3, .ref cw, .int (nI ct), .ref cl, .int (nI cb9), .ref cpv, .ref cpp, .ref cpl, .ref cpr, .ref cpt, .ref cpw, .ref cpc, .int (nI cp9), .ref car, .int (nI ca9)])), (cpw, .inl (kI, 3002, .inl fpw))]) [0, 1, 2] (by decide) rfl
      have hK9 := hK.sub (tys' := [(kI, .int)]) [0] rfl
      exact W.vret hx hb hr (fun tS ht hW => ⟨⟨(), rfl, trivial, fpw pp, by unfold tlF; rw [if_neg hlt, if_pos (Int32.not_le.mp hge)], by rw [ht]; exact hP9, va_K.moved hW.alike hK9, hD9⟩, hS.F ht⟩) hS.2.2 dX7_tell_30
def wf_c_vuse : List Cond := [.code yX7_use cX7_use 2 none, .fieldLink RX7 9 "OwnedPlaces$Moves" "state" "[I", .fieldLink RX7 27 "OwnedPlaces$Moves" "code" "LOwnedPlaces$Code;", .fieldLink RX7 106 "OwnedPlaces$Code" "placeVariable" "[I", .fieldLink RX7 109 "OwnedPlaces$Code" "placeCells" "[I", .code yX7_tell cX7_tell 3 none, .fieldLink RX7 144 "OwnedPlaces$Code" "placeWhere" "[I", .fieldLink RX7 35 "OwnedPlaces$Moves" "first" "I", .methodLink RX7 132 yX7_tell, .instanceMethod yX7_tell, .selects RX7 yX7_tell yX7_tell, .initialized RX7]
def wp_c_vuse : List Cond := wf_c_vuse ++ (wsX70 ++ (wsX00 ++ []))
theorem in_c_vuse_X7 : ∀ w ∈ wsX70, w ∈ wp_c_vuse := fun w h => List.mem_append_right _ (List.mem_append_left _ h)
theorem in_c_vuse_X0 : ∀ w ∈ wsX00, w ∈ wp_c_vuse := fun w h => List.mem_append_right _ (List.mem_append_right _ (List.mem_append_left _ h))
theorem wg_c_vuse : wf_c_vuse.all goodWord = true := by decide +kernel
theorem wm_c_vuse (k : Nat) {w : Cond} (h : wp_c_vuse[k]? = some w) : w ∈ wp_c_vuse := List.mem_of_getElem? h
set_option maxRecDepth 20000 in
theorem g_c_vuse_c_vtell_29 : GoodIn wp_c_vuse (wsV RX7 132 RX7 yX7_tell wp_c_vtell) := goodIn_app (goodIn_f [.methodLink RX7 132 yX7_tell, .instanceMethod yX7_tell, .selects RX7 yX7_tell yX7_tell, .initialized RX7] [8, 9, 10, 11] rfl (by decide +kernel)) (goodIn_app (goodIn_f (wf_c_vtell) [5, 2, 6, 7] rfl wg_c_vtell) (goodIn_app (goodIn_sub in_c_vuse_X7 gd_X7) (goodIn_app (goodIn_sub in_c_vuse_X0 gd_X0) (goodIn_n))))
set_option maxHeartbeats 4000000 in
set_option maxRecDepth 100000 in
theorem c_vuse (l : Launch) (dC : Nat → ClassId) (dI : Nat → Nat → Nat) (mv y f0 vs vr vc : Nat) (vir vag vfi : Int32) (c0 co ca cb c3 cw cl cpv cpp cpl cpr cpt cpw cpc car : Nat) (ct cb9 cp9 ca9 : Nat) (kI kZ : ClassId) (pp v9 : Nat) (fpw fpv fpc st : Nat → Int32) (sz : Nat) (hpp : pp < 3002) (hv9 : v9 < 40) (hpv : fpv pp = nI v9) : Met l yX7_use wp_c_vuse ({ frames := 1, cells := 0, slots := 0, locals := 22 }) (va_Pc [.ref mv, .int (nI pp)] (fun U => U.heap.size = sz ∧ va_P (dC, dI) vwCl [(mv, .inr (7, [.ref y, .ref c0, .ref f0, .ref vs, .ref vr, .ref vc, .int vir, .int vag, .int vfi])), (c0, .inr (0, [.ref co, .ref ca, .ref cb, .ref c3, .ref cw, .int (nI ct), .ref cl, .int (nI cb9), .ref cpv, .ref cpp, .ref cpl, .ref cpr, .ref cpt, .ref cpw, .ref cpc, .int (nI cp9), .ref car, .int (nI ca9)])), (cpv, .inl (kI, 3002, .inl fpv)), (cpc, .inl (kI, 3002, .inl fpc)), (cpw, .inl (kI, 3002, .inl fpw)), (vs, .inl (kI, 40, .inl st))] U.heap ∧ va_K (dC, dI) vwCl [(kI, .int)] U ∧ va_D (fun _ => True) [(mv, .inr (7, [.ref y, .ref c0, .ref f0, .ref vs, .ref vr, .ref vc, .int vir, .int vag, .int vfi])), (c0, .inr (0, [.ref co, .ref ca, .ref cb, .ref c3, .ref cw, .int (nI ct), .ref cl, .int (nI cb9), .ref cpv, .ref cpp, .ref cpl, .ref cpr, .ref cpt, .ref cpw, .ref cpc, .int (nI cp9), .ref car, .int (nI ca9)])), (cpv, .inl (kI, 3002, .inl fpv)), (cpc, .inl (kI, 3002, .inl fpc)), (cpw, .inl (kI, 3002, .inl fpw)), (vs, .inl (kI, 40, .inl st))])) (va_Qv (fun _ : Unit => True) (fun (_ : Unit) (tS : State) => ∃ (fi2 : Int32), (fi2 = if st v9 &&& fpc pp = 0 then vfi else tlF vfi (fpw pp)) ∧ va_P (dC, dI) vwCl [(mv, .inr (7, [.ref y, .ref c0, .ref f0, .ref vs, .ref vr, .ref vc, .int vir, .int vag, .int fi2])), (c0, .inr (0, [.ref co, .ref ca, .ref cb, .ref c3, .ref cw, .int (nI ct), .ref cl, .int (nI cb9), .ref cpv, .ref cpp, .ref cpl, .ref cpr, .ref cpt, .ref cpw, .ref cpc, .int (nI cp9), .ref car, .int (nI ca9)])), (cpv, .inl (kI, 3002, .inl fpv)), (cpc, .inl (kI, 3002, .inl fpc)), (cpw, .inl (kI, 3002, .inl fpw)), (vs, .inl (kI, 40, .inl st))] tS.heap ∧ va_K (dC, dI) vwCl [(kI, .int)] tS ∧ va_D (va_A [(mv, .inr (7, [.ref y, .ref c0, .ref f0, .ref vs, .ref vr, .ref vc, .int vir, .int vag, .int vfi])), (c0, .inr (0, [.ref co, .ref ca, .ref cb, .ref c3, .ref cw, .int (nI ct), .ref cl, .int (nI cb9), .ref cpv, .ref cpp, .ref cpl, .ref cpr, .ref cpt, .ref cpw, .ref cpc, .int (nI cp9), .ref car, .int (nI ca9)])), (cpv, .inl (kI, 3002, .inl fpv)), (cpc, .inl (kI, 3002, .inl fpc)), (cpw, .inl (kI, 3002, .inl fpw)), (vs, .inl (kI, 40, .inl st))] sz) [(mv, .inr (7, [.ref y, .ref c0, .ref f0, .ref vs, .ref vr, .ref vc, .int vir, .int vag, .int fi2])), (c0, .inr (0, [.ref co, .ref ca, .ref cb, .ref c3, .ref cw, .int (nI ct), .ref cl, .int (nI cb9), .ref cpv, .ref cpp, .ref cpl, .ref cpr, .ref cpt, .ref cpw, .ref cpc, .int (nI cp9), .ref car, .int (nI ca9)])), (cpv, .inl (kI, 3002, .inl fpv)), (cpc, .inl (kI, 3002, .inl fpc)), (cpw, .inl (kI, 3002, .inl fpw)), (vs, .inl (kI, 40, .inl st))]) (va_A [(mv, .inr (7, [.ref y, .ref c0, .ref f0, .ref vs, .ref vr, .ref vc, .int vir, .int vag, .int vfi])), (c0, .inr (0, [.ref co, .ref ca, .ref cb, .ref c3, .ref cw, .int (nI ct), .ref cl, .int (nI cb9), .ref cpv, .ref cpp, .ref cpl, .ref cpr, .ref cpt, .ref cpw, .ref cpc, .int (nI cp9), .ref car, .int (nI ca9)])), (cpv, .inl (kI, 3002, .inl fpv)), (cpc, .inl (kI, 3002, .inl fpc)), (cpw, .inl (kI, 3002, .inl fpw)), (vs, .inl (kI, 40, .inl st))] sz)) 0 0 (va_A [(mv, .inr (7, [.ref y, .ref c0, .ref f0, .ref vs, .ref vr, .ref vc, .int vir, .int vag, .int vfi])), (c0, .inr (0, [.ref co, .ref ca, .ref cb, .ref c3, .ref cw, .int (nI ct), .ref cl, .int (nI cb9), .ref cpv, .ref cpp, .ref cpl, .ref cpr, .ref cpt, .ref cpw, .ref cpc, .int (nI cp9), .ref car, .int (nI ca9)])), (cpv, .inl (kI, 3002, .inl fpv)), (cpc, .inl (kI, 3002, .inl fpc)), (cpw, .inl (kI, 3002, .inl fpw)), (vs, .inl (kI, 40, .inl st))] sz) := by
  refine Met.ofW (cc := cX7_use) (maxL := 2) (ret := none) (by decide) rfl ?_
  intro p e s m args below meth c s₁ B hml hv
  obtain ⟨rfl, hsz, hP, hK, hD0⟩ := hv
  have hx := B.exec
  have hb := B.bytes
  have hr := B.returns
  have hts := atoms_spec (ws := wp_c_vuse) B.pre
  have hown : s.vm.findClass RX7 = some m.cls := findClass_of_methodNamed B.named
  have hlocks := B.notSynchronized
  subst hsz
  have hD := hD0.self (sz := s.heap.size)
  generalize hAe : va_A [(mv, .inr (7, [.ref y, .ref c0, .ref f0, .ref vs, .ref vr, .ref vc, .int vir, .int vag, .int vfi])), (c0, .inr (0, [.ref co, .ref ca, .ref cb, .ref c3, .ref cw, .int (nI ct), .ref cl, .int (nI cb9), .ref cpv, .ref cpp, .ref cpl, .ref cpr, .ref cpt, .ref cpw, .ref cpc, .int (nI cp9), .ref car, .int (nI ca9)])), (cpv, .inl (kI, 3002, .inl fpv)), (cpc, .inl (kI, 3002, .inl fpc)), (cpw, .inl (kI, 3002, .inl fpw)), (vs, .inl (kI, 40, .inl st))] s.heap.size = A at hD ⊢
  have hA : ∀ q : Nat, s.heap.size ≤ q → A q := fun q h => by rw [← hAe]; exact Or.inr h
  have hS : va_S A s.heap s.heap [] := va_S.rf
  have hP : va_P (dC, dI) vwCl [(mv, .inr (7, [.ref y, .ref c0, .ref f0, .ref vs, .ref vr, .ref vc, .int vir, .int vag, .int vfi])), (c0, .inr (0, [.ref co, .ref ca, .ref cb, .ref c3, .ref cw, .int (nI ct), .ref cl, .int (nI cb9), .ref cpv, .ref cpp, .ref cpl, .ref cpr, .ref cpt, .ref cpw, .ref cpc, .int (nI cp9), .ref car, .int (nI ca9)])), (cpv, .inl (kI, 3002, .inl fpv)), (cpc, .inl (kI, 3002, .inl fpc)), (cpw, .inl (kI, 3002, .inl fpw)), (vs, .inl (kI, 40, .inl st))] s.heap := hP
  have hl := lv_entry ([.ref mv, .int (nI pp)]) (n := 2) (Nat.le_of_ble_eq_true rfl)
  rw [lg_entry_eq]
  generalize (lg_sl ([.ref mv, .int (nI pp)]) ++ List.replicate (2 - (lg_sl ([.ref mv, .int (nI pp)])).length) Slot.unset).toArray = ls at hl ⊢
  have hl : lv_has ls 2 [(0, .ref mv), (1, .int (nI pp))] := hl
  refine lv_aload_n hx hb dX7_use_0 rfl (lv_at hl 0 rfl) ?_
  refine va_get (D := (dC, dI)) (ci := 7) (v := .ref vs) (C := RX7) (T := TX7) (N := 9) hx hb hts in_c_vuse_X7 hown hK hP 0 rfl rfl 3 (by decide) (hts (.fieldLink RX7 9 "OwnedPlaces$Moves" "state" "[I") (wm_c_vuse 1 rfl)) (fun _ h9 => h9) rfl dX7_use_1 ?_
  refine lv_aload_n hx hb dX7_use_4 rfl (lv_at hl 0 rfl) ?_
  refine va_get (D := (dC, dI)) (ci := 7) (v := .ref c0) (C := RX7) (T := TX7) (N := 9) hx hb hts in_c_vuse_X7 hown hK hP 0 rfl rfl 1 (by decide) (hts (.fieldLink RX7 27 "OwnedPlaces$Moves" "code" "LOwnedPlaces$Code;") (wm_c_vuse 2 rfl)) (fun _ h9 => h9) rfl dX7_use_5 ?_
  refine va_get (D := (dC, dI)) (ci := 0) (v := .ref cpv) (C := RX0) (T := TX0) (N := 18) hx hb hts in_c_vuse_X0 hown hK hP 1 rfl rfl 8 (by decide) (hts (.fieldLink RX7 106 "OwnedPlaces$Code" "placeVariable" "[I") (wm_c_vuse 3 rfl)) (fun _ h9 => h9) rfl dX7_use_8 ?_
  refine lv_iload_n hx hb dX7_use_11 rfl (lv_at hl 1 rfl) ?_
  refine va_iald hx hb hK hP 2 0 rfl rfl (vp_in_nI hpp (by decide)) dX7_use_12 ?_
  refine lv_topi (fun v_1 ev_1 => ?_)
  obtain rfl : v_1 = nI v9 := ev_1.trans (by rw [nI_clamp (by omega)]; exact hpv)
  refine va_iald hx hb hK hP 5 0 rfl rfl (vp_in_nI hv9 (by decide)) dX7_use_13 ?_
  refine lv_topi (fun v_2 ev_2 => ?_)
  have hs9 : v_2 = st v9 := ev_2.trans (by rw [nI_clamp (by omega)])
  refine lv_aload_n hx hb dX7_use_14 rfl (lv_at hl 0 rfl) ?_
  refine va_get (D := (dC, dI)) (ci := 7) (v := .ref c0) (C := RX7) (T := TX7) (N := 9) hx hb hts in_c_vuse_X7 hown hK hP 0 rfl rfl 1 (by decide) (hts (.fieldLink RX7 27 "OwnedPlaces$Moves" "code" "LOwnedPlaces$Code;") (wm_c_vuse 2 rfl)) (fun _ h9 => h9) rfl dX7_use_15 ?_
  refine va_get (D := (dC, dI)) (ci := 0) (v := .ref cpc) (C := RX0) (T := TX0) (N := 18) hx hb hts in_c_vuse_X0 hown hK hP 1 rfl rfl 14 (by decide) (hts (.fieldLink RX7 109 "OwnedPlaces$Code" "placeCells" "[I") (wm_c_vuse 4 rfl)) (fun _ h9 => h9) rfl dX7_use_18 ?_
  refine lv_iload_n hx hb dX7_use_21 rfl (lv_at hl 1 rfl) ?_
  refine va_iald hx hb hK hP 3 0 rfl rfl (vp_in_nI hpp (by decide)) dX7_use_22 ?_
  refine lv_topi (fun v_3 ev_3 => ?_)
  have hc9 : v_3 = fpc pp := ev_3.trans (by rw [nI_clamp (by omega)])
  refine lv_iand hx hb dX7_use_23 ?_
  refine lv_topi (fun f_4 ef_4 => ?_)
  have hf9 : f_4 = st v9 &&& fpc pp := by rw [ef_4, hs9, hc9]
  refine lv_if_eq (tgt := 32) hx hb dX7_use_24 (by decide) (fun hz => ?_) (fun hz => ?_)
  · have hP9 := hP.sub (ws' := [(mv, .inr (7, [.ref y, .ref c0, .ref f0, .ref vs, .ref vr, .ref vc, .int vir, .int vag, .int vfi])), (c0, .inr (0, [.ref co, .ref ca, .ref cb, .ref c3, .ref cw, .int (nI ct), .ref cl, .int (nI cb9), .ref cpv, .ref cpp, .ref cpl, .ref cpr, .ref cpt, .ref cpw, .ref cpc, .int (nI cp9), .ref car, .int (nI ca9)])), (cpv, .inl (kI, 3002, .inl fpv)), (cpc, .inl (kI, 3002, .inl fpc)), (cpw, .inl (kI, 3002, .inl fpw)), (vs, .inl (kI, 40, .inl st))]) [0, 1, 2, 3, 4, 5] rfl
    have hD9 := hD.sub (ws' := [(mv, .inr (7, [.ref y, .ref c0, .ref f0, .ref vs, .ref vr, .ref vc, .int vir, .int vag, .int vfi])), (c0, .inr (0, [.ref co, .ref ca, .ref cb, .ref c3, .ref cw, .int (nI ct), .ref cl, .int (nI cb9), .ref cpv, .ref cpp, .ref cpl, .ref cpr, .ref cpt, .ref cpw, .ref cpc, .int (nI cp9), .ref car, .int (nI ca9)])), (cpv, .inl (kI, 3002, .inl fpv)), (cpc, .inl (kI, 3002, .inl fpc)), (cpw, .inl (kI, 3002, .inl fpw)), (vs, .inl (kI, 40, .inl st))]) [0, 1, 2, 3, 4, 5] (by decide) rfl
    have hK9 := hK.sub (tys' := [(kI, .int)]) [0] rfl
    exact W.vret hx hb hr (fun tS ht hW => ⟨⟨(), rfl, trivial, vfi, (if_pos (hf9.symm.trans hz)).symm, by rw [ht]; exact hP9, va_K.moved hW.alike hK9, hD9⟩, hS.F ht⟩) hS.2.2 dX7_use_32
  · refine lv_aload_n hx hb dX7_use_27 rfl (lv_at hl 0 rfl) ?_
    refine lv_iload_n hx hb dX7_use_28 rfl (lv_at hl 1 rfl) ?_
    have hPc := hP.sub (ws' := [(mv, .inr (7, [.ref y, .ref c0, .ref f0, .ref vs, .ref vr, .ref vc, .int vir, .int vag, .int vfi])), (c0, .inr (0, [.ref co, .ref ca, .ref cb, .ref c3, .ref cw, .int (nI ct), .ref cl, .int (nI cb9), .ref cpv, .ref cpp, .ref cpl, .ref cpr, .ref cpt, .ref cpw, .ref cpc, .int (nI cp9), .ref car, .int (nI ca9)])), (cpw, .inl (kI, 3002, .inl fpw))]) [0, 1, 4] rfl
    have hDc := hD.sub (ws' := [(mv, .inr (7, [.ref y, .ref c0, .ref f0, .ref vs, .ref vr, .ref vc, .int vir, .int vag, .int vfi])), (c0, .inr (0, [.ref co, .ref ca, .ref cb, .ref c3, .ref cw, .int (nI ct), .ref cl, .int (nI cb9), .ref cpv, .ref cpp, .ref cpl, .ref cpr, .ref cpt, .ref cpw, .ref cpc, .int (nI cp9), .ref car, .int (nI ca9)])), (cpw, .inl (kI, 3002, .inl fpw))]) [0, 1, 4] (by decide) rfl
    have hKc := hK.sub (tys' := [(kI, .int)]) [0] rfl
    have hFc := va_free (wc := [(mv, .inr (7, [.ref y, .ref c0, .ref f0, .ref vs, .ref vr, .ref vc, .int vir, .int vag, .int vfi])), (c0, .inr (0, [.ref co, .ref ca, .ref cb, .ref c3, .ref cw, .int (nI ct), .ref cl, .int (nI cb9), .ref cpv, .ref cpp, .ref cpl, .ref cpr, .ref cpt, .ref cpw, .ref cpc, .int (nI cp9), .ref car, .int (nI ca9)])), (cpw, .inl (kI, 3002, .inl fpw))]) hD hS hA [0, 1, 4] rfl
    refine va_callv (va_runV (As := [.int (nI pp)]) (rest := []) ⟨hx, hb, hml, hown, hts⟩ (c_vtell l dC dI mv y f0 vs vr vc vir vag vfi c0 co ca cb c3 cw cl cpv cpp cpl cpr cpt cpw cpc car ct cb9 cp9 ca9 kI kZ pp fpw s.heap.size hpp) (cwV 1 hts g_c_vuse_c_vtell_29 rfl rfl rfl (by decide +kernel) ⟨Nat.le_of_ble_eq_true rfl, Nat.le_of_ble_eq_true rfl⟩) ⟨fun a U g mk q => by obtain ⟨q0, q1, qP, qK, qD⟩ := q; exact ⟨q0, q1, qP, va_K.moved (u := U) (U := U.calling g mk a) (Vm.Alike.refl U.vm) qK, qD⟩, va_recv hKc hPc (ci := 7) (q0 := 0) rfl rfl, fun U hU hW => ⟨rfl, by rw [hU], by rw [hU]; exact hPc, va_K.moved hW.alike hKc, hDc.weaken (fun _ _ _ _ => trivial)⟩⟩ rfl rfl hl.1 rfl (lv_room (Nat.le_of_ble_eq_true rfl)) dX7_use_29 ⟨(show 0 + 0 ≤ 0 by omega), (show 0 + 0 ≤ 0 by omega)⟩) hS (fun q _ h => hFc q h) hFc (fun u tS H1 locs ht hvm hw hB hz1 hk1 hS => ?_)
    obtain ⟨fi9, hf5_0, hP1, hK1, hD1⟩ := hB
    rw [ht] at hP1
    have hK1 := va_K.moved hvm.symm hK1
    obtain ⟨hP, hD⟩ := va_join (wr := [(cpv, .inl (kI, 3002, .inl fpv)), (cpc, .inl (kI, 3002, .inl fpc)), (vs, .inl (kI, 40, .inl st))]) (w1 := [(mv, .inr (7, [.ref y, .ref c0, .ref f0, .ref vs, .ref vr, .ref vc, .int vir, .int vag, .int fi9])), (c0, .inr (0, [.ref co, .ref ca, .ref cb, .ref c3, .ref cw, .int (nI ct), .ref cl, .int (nI cb9), .ref cpv, .ref cpp, .ref cpl, .ref cpr, .ref cpt, .ref cpw, .ref cpc, .int (nI cp9), .ref car, .int (nI ca9)])), (cpw, .inl (kI, 3002, .inl fpw))]) hP hD [0, 1, 4] [2, 3, 5] rfl rfl (by decide) (by decide) hk1 hFc hP1 hD1
    have hK := hK.app hK1
    generalize H1 = H at hP hS ⊢
    have hP : va_P (dC, dI) vwCl [(cpv, .inl (kI, 3002, .inl fpv)), (cpc, .inl (kI, 3002, .inl fpc)), (vs, .inl (kI, 40, .inl st)), (mv, .inr (7, [.ref y, .ref c0, .ref f0, .ref vs, .ref vr, .ref vc, .int vir, .int vag, .int fi9])), (c0, .inr (0, [.ref co, .ref ca, .ref cb, .ref c3, .ref cw, .int (nI ct), .ref cl, .int (nI cb9), .ref cpv, .ref cpp, .ref cpl, .ref cpr, .ref cpt, .ref cpw, .ref cpc, .int (nI cp9), .ref car, .int (nI ca9)])), (cpw, .inl (kI, 3002, .inl fpw))] H := hP
    have hD : va_D A [(cpv, .inl (kI, 3002, .inl fpv)), (cpc, .inl (kI, 3002, .inl fpc)), (vs, .inl (kI, 40, .inl st)), (mv, .inr (7, [.ref y, .ref c0, .ref f0, .ref vs, .ref vr, .ref vc, .int vir, .int vag, .int fi9])), (c0, .inr (0, [.ref co, .ref ca, .ref cb, .ref c3, .ref cw, .int (nI ct), .ref cl, .int (nI cb9), .ref cpv, .ref cpp, .ref cpl, .ref cpr, .ref cpt, .ref cpw, .ref cpc, .int (nI cp9), .ref car, .int (nI ca9)])), (cpw, .inl (kI, 3002, .inl fpw))] := hD
    have hK : va_K (dC, dI) vwCl [(kI, .int), (kI, .int)] s := hK
    have hK := hK.sub (tys' := [(kI, .int)]) [0] rfl
    have hP : va_P (dC, dI) vwCl [(cpv, .inl (kI, 3002, .inl fpv)), (cpc, .inl (kI, 3002, .inl fpc)), (vs, .inl (kI, 40, .inl st)), (mv, .inr (7, [.ref y, .ref c0, .ref f0, .ref vs, .ref vr, .ref vc, .int vir, .int vag, .int fi9])), (c0, .inr (0, [.ref co, .ref ca, .ref cb, .ref c3, .ref cw, .int (nI ct), .ref cl, .int (nI cb9), .ref cpv, .ref cpp, .ref cpl, .ref cpr, .ref cpt, .ref cpw, .ref cpc, .int (nI cp9), .ref car, .int (nI ca9)])), (cpw, .inl (kI, 3002, .inl fpw))] H := hP
    have hD : va_D A [(cpv, .inl (kI, 3002, .inl fpv)), (cpc, .inl (kI, 3002, .inl fpc)), (vs, .inl (kI, 40, .inl st)), (mv, .inr (7, [.ref y, .ref c0, .ref f0, .ref vs, .ref vr, .ref vc, .int vir, .int vag, .int fi9])), (c0, .inr (0, [.ref co, .ref ca, .ref cb, .ref c3, .ref cw, .int (nI ct), .ref cl, .int (nI cb9), .ref cpv, .ref cpp, .ref cpl, .ref cpr, .ref cpt, .ref cpw, .ref cpc, .int (nI cp9), .ref car, .int (nI ca9)])), (cpw, .inl (kI, 3002, .inl fpw))] := hD
    have hP9 := hP.sub (ws' := [(mv, .inr (7, [.ref y, .ref c0, .ref f0, .ref vs, .ref vr, .ref vc, .int vir, .int vag, .int fi9])), (c0, .inr (0, [.ref co, .ref ca, .ref cb, .ref c3, .ref cw, .int (nI ct), .ref cl, .int (nI cb9), .ref cpv, .ref cpp, .ref cpl, .ref cpr, .ref cpt, .ref cpw, .ref cpc, .int (nI cp9), .ref car, .int (nI ca9)])), (cpv, .inl (kI, 3002, .inl fpv)), (cpc, .inl (kI, 3002, .inl fpc)), (cpw, .inl (kI, 3002, .inl fpw)), (vs, .inl (kI, 40, .inl st))]) [3, 4, 0, 1, 5, 2] rfl
    have hD9 := hD.sub (ws' := [(mv, .inr (7, [.ref y, .ref c0, .ref f0, .ref vs, .ref vr, .ref vc, .int vir, .int vag, .int fi9])), (c0, .inr (0, [.ref co, .ref ca, .ref cb, .ref c3, .ref cw, .int (nI ct), .ref cl, .int (nI cb9), .ref cpv, .ref cpp, .ref cpl, .ref cpr, .ref cpt, .ref cpw, .ref cpc, .int (nI cp9), .ref car, .int (nI ca9)])), (cpv, .inl (kI, 3002, .inl fpv)), (cpc, .inl (kI, 3002, .inl fpc)), (cpw, .inl (kI, 3002, .inl fpw)), (vs, .inl (kI, 40, .inl st))]) [3, 4, 0, 1, 5, 2] (by decide) rfl
    have hK9 := hK.sub (tys' := [(kI, .int)]) [0] rfl
    exact W.vret hx hb hr (fun tS ht hW => ⟨⟨(), rfl, trivial, fi9, by rw [if_neg (fun q => hz (hf9.trans q))]; exact hf5_0, by rw [ht]; exact hP9, va_K.moved hW.alike hK9, hD9⟩, hS.F ht⟩) hS.2.2 dX7_use_32
def wf_c_vlose : List Cond := [.code yX7_lose cX7_lose 3 none, .fieldLink RX7 9 "OwnedPlaces$Moves" "state" "[I"]
def wp_c_vlose : List Cond := wf_c_vlose ++ (wsX70 ++ [])
theorem in_c_vlose_X7 : ∀ w ∈ wsX70, w ∈ wp_c_vlose := fun w h => List.mem_append_right _ (List.mem_append_left _ h)
theorem wg_c_vlose : wf_c_vlose.all goodWord = true := by decide +kernel
theorem wm_c_vlose (k : Nat) {w : Cond} (h : wp_c_vlose[k]? = some w) : w ∈ wp_c_vlose := List.mem_of_getElem? h
set_option maxHeartbeats 4000000 in
set_option maxRecDepth 100000 in
theorem c_vlose (l : Launch) (dC : Nat → ClassId) (dI : Nat → Nat → Nat) (mv y f0 vs vr vc : Nat) (vir vag vfi : Int32) (c0 co ca cb c3 cw cl cpv cpp cpl cpr cpt cpw cpc car : Nat) (ct cb9 cp9 ca9 : Nat) (kI kZ : ClassId) (v9 : Nat) (xc : Int32) (st : Nat → Int32) (sz : Nat) (hv9 : v9 < 40) : Met l yX7_lose wp_c_vlose ({ frames := 0, cells := 0, slots := 0, locals := 0 }) (va_Pc [.ref mv, .int (nI v9), .int xc] (fun U => U.heap.size = sz ∧ va_P (dC, dI) vwCl [(mv, .inr (7, [.ref y, .ref c0, .ref f0, .ref vs, .ref vr, .ref vc, .int vir, .int vag, .int vfi])), (vs, .inl (kI, 40, .inl st))] U.heap ∧ va_K (dC, dI) vwCl [(kI, .int)] U ∧ va_D (fun _ => True) [(mv, .inr (7, [.ref y, .ref c0, .ref f0, .ref vs, .ref vr, .ref vc, .int vir, .int vag, .int vfi])), (vs, .inl (kI, 40, .inl st))])) (va_Qv (fun _ : Unit => True) (fun (_ : Unit) (tS : State) => ∃ (g9 : Nat → Int32), (g9 = upd st v9 ((st v9 ||| xc) &&& ((xc <<< ((16 : Int32) &&& 31)) ^^^ -1))) ∧ va_P (dC, dI) vwCl [(mv, .inr (7, [.ref y, .ref c0, .ref f0, .ref vs, .ref vr, .ref vc, .int vir, .int vag, .int vfi])), (vs, .inl (kI, 40, .inl g9))] tS.heap ∧ va_K (dC, dI) vwCl [(kI, .int)] tS ∧ va_D (va_A [(mv, .inr (7, [.ref y, .ref c0, .ref f0, .ref vs, .ref vr, .ref vc, .int vir, .int vag, .int vfi])), (vs, .inl (kI, 40, .inl st))] sz) [(mv, .inr (7, [.ref y, .ref c0, .ref f0, .ref vs, .ref vr, .ref vc, .int vir, .int vag, .int vfi])), (vs, .inl (kI, 40, .inl g9))]) (va_A [(mv, .inr (7, [.ref y, .ref c0, .ref f0, .ref vs, .ref vr, .ref vc, .int vir, .int vag, .int vfi])), (vs, .inl (kI, 40, .inl st))] sz)) 0 0 (va_A [(mv, .inr (7, [.ref y, .ref c0, .ref f0, .ref vs, .ref vr, .ref vc, .int vir, .int vag, .int vfi])), (vs, .inl (kI, 40, .inl st))] sz) := by
  refine Met.ofW (cc := cX7_lose) (maxL := 3) (ret := none) (by decide) rfl ?_
  intro p e s m args below meth c s₁ B hml hv
  obtain ⟨rfl, hsz, hP, hK, hD0⟩ := hv
  have hx := B.exec
  have hb := B.bytes
  have hr := B.returns
  have hts := atoms_spec (ws := wp_c_vlose) B.pre
  have hown : s.vm.findClass RX7 = some m.cls := findClass_of_methodNamed B.named
  have hlocks := B.notSynchronized
  subst hsz
  have hD := hD0.self (sz := s.heap.size)
  generalize hAe : va_A [(mv, .inr (7, [.ref y, .ref c0, .ref f0, .ref vs, .ref vr, .ref vc, .int vir, .int vag, .int vfi])), (vs, .inl (kI, 40, .inl st))] s.heap.size = A at hD ⊢
  have hA : ∀ q : Nat, s.heap.size ≤ q → A q := fun q h => by rw [← hAe]; exact Or.inr h
  have hS : va_S A s.heap s.heap [] := va_S.rf
  have hP : va_P (dC, dI) vwCl [(mv, .inr (7, [.ref y, .ref c0, .ref f0, .ref vs, .ref vr, .ref vc, .int vir, .int vag, .int vfi])), (vs, .inl (kI, 40, .inl st))] s.heap := hP
  have hl := lv_entry ([.ref mv, .int (nI v9), .int xc]) (n := 3) (Nat.le_of_ble_eq_true rfl)
  rw [lg_entry_eq]
  generalize (lg_sl ([.ref mv, .int (nI v9), .int xc]) ++ List.replicate (3 - (lg_sl ([.ref mv, .int (nI v9), .int xc])).length) Slot.unset).toArray = ls at hl ⊢
  have hl : lv_has ls 3 [(0, .ref mv), (1, .int (nI v9)), (2, .int xc)] := hl
  refine lv_aload_n hx hb dX7_lose_0 rfl (lv_at hl 0 rfl) ?_
  refine va_get (D := (dC, dI)) (ci := 7) (v := .ref vs) (C := RX7) (T := TX7) (N := 9) hx hb hts in_c_vlose_X7 hown hK hP 0 rfl rfl 3 (by decide) (hts (.fieldLink RX7 9 "OwnedPlaces$Moves" "state" "[I") (wm_c_vlose 1 rfl)) (fun _ h9 => h9) rfl dX7_lose_1 ?_
  refine lv_iload_n hx hb dX7_lose_4 rfl (lv_at hl 1 rfl) ?_
  refine lv_aload_n hx hb dX7_lose_5 rfl (lv_at hl 0 rfl) ?_
  refine va_get (D := (dC, dI)) (ci := 7) (v := .ref vs) (C := RX7) (T := TX7) (N := 9) hx hb hts in_c_vlose_X7 hown hK hP 0 rfl rfl 3 (by decide) (hts (.fieldLink RX7 9 "OwnedPlaces$Moves" "state" "[I") (wm_c_vlose 1 rfl)) (fun _ h9 => h9) rfl dX7_lose_6 ?_
  refine lv_iload_n hx hb dX7_lose_9 rfl (lv_at hl 1 rfl) ?_
  refine va_iald hx hb hK hP 1 0 rfl rfl (vp_in_nI hv9 (by decide)) dX7_lose_10 ?_
  refine lv_topi (fun v_1 ev_1 => ?_)
  have hs9 : v_1 = st v9 := ev_1.trans (by rw [nI_clamp (by omega)])
  refine lv_iload_n hx hb dX7_lose_11 rfl (lv_at hl 2 rfl) ?_
  refine lv_ior hx hb dX7_lose_12 ?_
  refine lv_topi (fun f_2 ef_2 => ?_)
  refine lv_iload_n hx hb dX7_lose_13 rfl (lv_at hl 2 rfl) ?_
  refine lv_bipush (v := 16) hx hb dX7_lose_14 (by decide) ?_
  refine lv_ishl hx hb dX7_lose_16 ?_
  refine lv_topi (fun f_3 ef_3 => ?_)
  refine lv_iconst (v := (-1)) hx hb dX7_lose_17 (by decide) ?_
  refine lv_ixor hx hb dX7_lose_18 ?_
  refine lv_topi (fun f_4 ef_4 => ?_)
  refine lv_iand hx hb dX7_lose_19 ?_
  refine lv_topi (fun f_5 ef_5 => ?_)
  refine va_iast hx hb hK hP hD hS 1 0 rfl rfl (vp_in_nI hv9 (by decide)) dX7_lose_20 (fun H locs hP hD hS => ?_)
  have hP : va_P (dC, dI) vwCl [(mv, .inr (7, [.ref y, .ref c0, .ref f0, .ref vs, .ref vr, .ref vc, .int vir, .int vag, .int vfi])), (vs, .inl (kI, 40, .inl (upd st (nI v9 : Int32).toNatClampNeg f_5)))] H := hP
  have hD : va_D A [(mv, .inr (7, [.ref y, .ref c0, .ref f0, .ref vs, .ref vr, .ref vc, .int vir, .int vag, .int vfi])), (vs, .inl (kI, 40, .inl (upd st (nI v9 : Int32).toNatClampNeg f_5)))] := hD
  obtain ⟨s8, es8⟩ : ∃ zZ : Nat → Int32, zZ = upd st (nI v9 : Int32).toNatClampNeg f_5 := ⟨_, rfl⟩
  rw [← es8] at hP hD
  have hP9 := hP.sub (ws' := [(mv, .inr (7, [.ref y, .ref c0, .ref f0, .ref vs, .ref vr, .ref vc, .int vir, .int vag, .int vfi])), (vs, .inl (kI, 40, .inl s8))]) [0, 1] rfl
  have hD9 := hD.sub (ws' := [(mv, .inr (7, [.ref y, .ref c0, .ref f0, .ref vs, .ref vr, .ref vc, .int vir, .int vag, .int vfi])), (vs, .inl (kI, 40, .inl s8))]) [0, 1] (by decide) rfl
  have hK9 := hK.sub (tys' := [(kI, .int)]) [0] rfl
  exact W.vret hx hb hr (fun tS ht hW => ⟨⟨(), rfl, trivial, s8, by rw [es8, nI_clamp (by omega), ef_5, ef_2, ef_4, ef_3, hs9], by rw [ht]; exact hP9, va_K.moved hW.alike hK9, hD9⟩, hS.F ht⟩) hS.2.2 dX7_lose_21
def wf_c_vfull : List Cond := [.code yX7_full cX7_full 2 (some .int), .fieldLink RX7 31 "OwnedPlaces$Moves" "function" "LOwnedPlaces$Function;", .fieldLink RX7 95 "OwnedPlaces$Function" "type" "[I", .fieldLink RX7 23 "OwnedPlaces$Moves" "types" "LOwnedPlaces$Types;", .fieldLink RX7 98 "OwnedPlaces$Types" "size" "[I"]
def wp_c_vfull : List Cond := wf_c_vfull ++ (wsX70 ++ (wsX20 ++ (wsX100 ++ [])))
theorem in_c_vfull_X7 : ∀ w ∈ wsX70, w ∈ wp_c_vfull := fun w h => List.mem_append_right _ (List.mem_append_left _ h)
theorem in_c_vfull_X2 : ∀ w ∈ wsX20, w ∈ wp_c_vfull := fun w h => List.mem_append_right _ (List.mem_append_right _ (List.mem_append_left _ h))
theorem in_c_vfull_X10 : ∀ w ∈ wsX100, w ∈ wp_c_vfull := fun w h => List.mem_append_right _ (List.mem_append_right _ (List.mem_append_right _ (List.mem_append_left _ h)))
theorem wg_c_vfull : wf_c_vfull.all goodWord = true := by decide +kernel
theorem wm_c_vfull (k : Nat) {w : Cond} (h : wp_c_vfull[k]? = some w) : w ∈ wp_c_vfull := List.mem_of_getElem? h
set_option maxHeartbeats 4000000 in
set_option maxRecDepth 100000 in
theorem c_vfull (l : Launch) (dC : Nat → ClassId) (dI : Nat → Nat → Nat) (mv vs vr vc : Nat) (vir vag vfi : Int32) (c0 co ca cb c3 cw cl cpv cpp cpl cpr cpt cpw cpc car : Nat) (ct cb9 cp9 ca9 : Nat) (y y0 y1 y2 y3 y4 y5 y6 y7 y8 y9 y10 y11 y12 y13 : Nat) (yt yp : Nat) (f0 fl0 fl1 fv0 fv1 fv2 fv3 fv4 fv5 : Nat) (ytk ybd yac yrs yrl ycl ycf yct ylf ylt ybo : Int32) (ylv ypr yva : Nat) (kI kZ : ClassId) (v9 : Nat) (et_ az : Nat → Int32) (sz : Nat) (hv9 : v9 < 40) (het : et_ v9 = -1 ∨ ∃ u : Nat, u < 3040 ∧ et_ v9 = nI u) : Met l yX7_full wp_c_vfull ({ frames := 0, cells := 0, slots := 0, locals := 0 }) (va_Pc [.ref mv, .int (nI v9)] (fun U => U.heap.size = sz ∧ va_P (dC, dI) vwCl [(mv, .inr (7, [.ref y, .ref c0, .ref f0, .ref vs, .ref vr, .ref vc, .int vir, .int vag, .int vfi])), (y, .inr (10, [.ref y0, .ref y1, .ref y2, .ref y3, .ref y4, .ref y5, .ref y6, .int (nI yt), .int (nI yp), .ref y7, .ref y8, .ref y9, .ref y10, .ref y11, .ref y12, .ref y13])), (y2, .inl (kI, 3040, .inl az)), (f0, .inr (2, [.int ytk, .int ybd, .int (nI ylv), .ref fl0, .int (nI ypr), .ref fl1, .int yac, .int yrs, .int yrl, .int (nI yva), .ref fv0, .ref fv1, .ref fv2, .ref fv3, .ref fv4, .ref fv5, .int ycl, .int ycf, .int yct, .int ylf, .int ylt, .int ybo])), (fv1, .inl (kI, 40, .inl et_))] U.heap ∧ va_K (dC, dI) vwCl [(kI, .int)] U ∧ va_D (fun _ => True) [(mv, .inr (7, [.ref y, .ref c0, .ref f0, .ref vs, .ref vr, .ref vc, .int vir, .int vag, .int vfi])), (y, .inr (10, [.ref y0, .ref y1, .ref y2, .ref y3, .ref y4, .ref y5, .ref y6, .int (nI yt), .int (nI yp), .ref y7, .ref y8, .ref y9, .ref y10, .ref y11, .ref y12, .ref y13])), (y2, .inl (kI, 3040, .inl az)), (f0, .inr (2, [.int ytk, .int ybd, .int (nI ylv), .ref fl0, .int (nI ypr), .ref fl1, .int yac, .int yrs, .int yrl, .int (nI yva), .ref fv0, .ref fv1, .ref fv2, .ref fv3, .ref fv4, .ref fv5, .int ycl, .int ycf, .int yct, .int ylf, .int ylt, .int ybo])), (fv1, .inl (kI, 40, .inl et_))])) (va_Qi (fun (r : Int32) (_ : Unit) => (et_ v9 = -1 ∧ r = 0) ∨ ∃ u : Nat, u < 3040 ∧ et_ v9 = nI u ∧ r = fuI az u) (fun (_ : Unit) (tS : State) => va_P (dC, dI) vwCl [(mv, .inr (7, [.ref y, .ref c0, .ref f0, .ref vs, .ref vr, .ref vc, .int vir, .int vag, .int vfi])), (y, .inr (10, [.ref y0, .ref y1, .ref y2, .ref y3, .ref y4, .ref y5, .ref y6, .int (nI yt), .int (nI yp), .ref y7, .ref y8, .ref y9, .ref y10, .ref y11, .ref y12, .ref y13])), (y2, .inl (kI, 3040, .inl az)), (f0, .inr (2, [.int ytk, .int ybd, .int (nI ylv), .ref fl0, .int (nI ypr), .ref fl1, .int yac, .int yrs, .int yrl, .int (nI yva), .ref fv0, .ref fv1, .ref fv2, .ref fv3, .ref fv4, .ref fv5, .int ycl, .int ycf, .int yct, .int ylf, .int ylt, .int ybo])), (fv1, .inl (kI, 40, .inl et_))] tS.heap ∧ va_K (dC, dI) vwCl [(kI, .int)] tS ∧ va_D (va_A [(mv, .inr (7, [.ref y, .ref c0, .ref f0, .ref vs, .ref vr, .ref vc, .int vir, .int vag, .int vfi])), (y, .inr (10, [.ref y0, .ref y1, .ref y2, .ref y3, .ref y4, .ref y5, .ref y6, .int (nI yt), .int (nI yp), .ref y7, .ref y8, .ref y9, .ref y10, .ref y11, .ref y12, .ref y13])), (y2, .inl (kI, 3040, .inl az)), (f0, .inr (2, [.int ytk, .int ybd, .int (nI ylv), .ref fl0, .int (nI ypr), .ref fl1, .int yac, .int yrs, .int yrl, .int (nI yva), .ref fv0, .ref fv1, .ref fv2, .ref fv3, .ref fv4, .ref fv5, .int ycl, .int ycf, .int yct, .int ylf, .int ylt, .int ybo])), (fv1, .inl (kI, 40, .inl et_))] sz) [(mv, .inr (7, [.ref y, .ref c0, .ref f0, .ref vs, .ref vr, .ref vc, .int vir, .int vag, .int vfi])), (y, .inr (10, [.ref y0, .ref y1, .ref y2, .ref y3, .ref y4, .ref y5, .ref y6, .int (nI yt), .int (nI yp), .ref y7, .ref y8, .ref y9, .ref y10, .ref y11, .ref y12, .ref y13])), (y2, .inl (kI, 3040, .inl az)), (f0, .inr (2, [.int ytk, .int ybd, .int (nI ylv), .ref fl0, .int (nI ypr), .ref fl1, .int yac, .int yrs, .int yrl, .int (nI yva), .ref fv0, .ref fv1, .ref fv2, .ref fv3, .ref fv4, .ref fv5, .int ycl, .int ycf, .int yct, .int ylf, .int ylt, .int ybo])), (fv1, .inl (kI, 40, .inl et_))]) (va_A [(mv, .inr (7, [.ref y, .ref c0, .ref f0, .ref vs, .ref vr, .ref vc, .int vir, .int vag, .int vfi])), (y, .inr (10, [.ref y0, .ref y1, .ref y2, .ref y3, .ref y4, .ref y5, .ref y6, .int (nI yt), .int (nI yp), .ref y7, .ref y8, .ref y9, .ref y10, .ref y11, .ref y12, .ref y13])), (y2, .inl (kI, 3040, .inl az)), (f0, .inr (2, [.int ytk, .int ybd, .int (nI ylv), .ref fl0, .int (nI ypr), .ref fl1, .int yac, .int yrs, .int yrl, .int (nI yva), .ref fv0, .ref fv1, .ref fv2, .ref fv3, .ref fv4, .ref fv5, .int ycl, .int ycf, .int yct, .int ylf, .int ylt, .int ybo])), (fv1, .inl (kI, 40, .inl et_))] sz)) 0 0 (va_A [(mv, .inr (7, [.ref y, .ref c0, .ref f0, .ref vs, .ref vr, .ref vc, .int vir, .int vag, .int vfi])), (y, .inr (10, [.ref y0, .ref y1, .ref y2, .ref y3, .ref y4, .ref y5, .ref y6, .int (nI yt), .int (nI yp), .ref y7, .ref y8, .ref y9, .ref y10, .ref y11, .ref y12, .ref y13])), (y2, .inl (kI, 3040, .inl az)), (f0, .inr (2, [.int ytk, .int ybd, .int (nI ylv), .ref fl0, .int (nI ypr), .ref fl1, .int yac, .int yrs, .int yrl, .int (nI yva), .ref fv0, .ref fv1, .ref fv2, .ref fv3, .ref fv4, .ref fv5, .int ycl, .int ycf, .int yct, .int ylf, .int ylt, .int ybo])), (fv1, .inl (kI, 40, .inl et_))] sz) := by
  refine Met.ofW (cc := cX7_full) (maxL := 2) (ret := (some .int)) (by decide) rfl ?_
  intro p e s m args below meth c s₁ B hml hv
  obtain ⟨rfl, hsz, hP, hK, hD0⟩ := hv
  have hx := B.exec
  have hb := B.bytes
  have hr := B.returns
  have hts := atoms_spec (ws := wp_c_vfull) B.pre
  have hown : s.vm.findClass RX7 = some m.cls := findClass_of_methodNamed B.named
  have hlocks := B.notSynchronized
  subst hsz
  have hD := hD0.self (sz := s.heap.size)
  generalize hAe : va_A [(mv, .inr (7, [.ref y, .ref c0, .ref f0, .ref vs, .ref vr, .ref vc, .int vir, .int vag, .int vfi])), (y, .inr (10, [.ref y0, .ref y1, .ref y2, .ref y3, .ref y4, .ref y5, .ref y6, .int (nI yt), .int (nI yp), .ref y7, .ref y8, .ref y9, .ref y10, .ref y11, .ref y12, .ref y13])), (y2, .inl (kI, 3040, .inl az)), (f0, .inr (2, [.int ytk, .int ybd, .int (nI ylv), .ref fl0, .int (nI ypr), .ref fl1, .int yac, .int yrs, .int yrl, .int (nI yva), .ref fv0, .ref fv1, .ref fv2, .ref fv3, .ref fv4, .ref fv5, .int ycl, .int ycf, .int yct, .int ylf, .int ylt, .int ybo])), (fv1, .inl (kI, 40, .inl et_))] s.heap.size = A at hD ⊢
  have hA : ∀ q : Nat, s.heap.size ≤ q → A q := fun q h => by rw [← hAe]; exact Or.inr h
  have hS : va_S A s.heap s.heap [] := va_S.rf
  have hP : va_P (dC, dI) vwCl [(mv, .inr (7, [.ref y, .ref c0, .ref f0, .ref vs, .ref vr, .ref vc, .int vir, .int vag, .int vfi])), (y, .inr (10, [.ref y0, .ref y1, .ref y2, .ref y3, .ref y4, .ref y5, .ref y6, .int (nI yt), .int (nI yp), .ref y7, .ref y8, .ref y9, .ref y10, .ref y11, .ref y12, .ref y13])), (y2, .inl (kI, 3040, .inl az)), (f0, .inr (2, [.int ytk, .int ybd, .int (nI ylv), .ref fl0, .int (nI ypr), .ref fl1, .int yac, .int yrs, .int yrl, .int (nI yva), .ref fv0, .ref fv1, .ref fv2, .ref fv3, .ref fv4, .ref fv5, .int ycl, .int ycf, .int yct, .int ylf, .int ylt, .int ybo])), (fv1, .inl (kI, 40, .inl et_))] s.heap := hP
  have hl := lv_entry ([.ref mv, .int (nI v9)]) (n := 2) (Nat.le_of_ble_eq_true rfl)
  rw [lg_entry_eq]
  generalize (lg_sl ([.ref mv, .int (nI v9)]) ++ List.replicate (2 - (lg_sl ([.ref mv, .int (nI v9)])).length) Slot.unset).toArray = ls at hl ⊢
  have hl : lv_has ls 2 [(0, .ref mv), (1, .int (nI v9))] := hl
  refine lv_aload_n hx hb dX7_full_0 rfl (lv_at hl 0 rfl) ?_
  refine va_get (D := (dC, dI)) (ci := 7) (v := .ref f0) (C := RX7) (T := TX7) (N := 9) hx hb hts in_c_vfull_X7 hown hK hP 0 rfl rfl 2 (by decide) (hts (.fieldLink RX7 31 "OwnedPlaces$Moves" "function" "LOwnedPlaces$Function;") (wm_c_vfull 1 rfl)) (fun _ h9 => h9) rfl dX7_full_1 ?_
  refine va_get (D := (dC, dI)) (ci := 2) (v := .ref fv1) (C := RX2) (T := TX2) (N := 22) hx hb hts in_c_vfull_X2 hown hK hP 3 rfl rfl 11 (by decide) (hts (.fieldLink RX7 95 "OwnedPlaces$Function" "type" "[I") (wm_c_vfull 2 rfl)) (fun _ h9 => h9) rfl dX7_full_4 ?_
  refine lv_iload_n hx hb dX7_full_7 rfl (lv_at hl 1 rfl) ?_
  refine va_iald hx hb hK hP 4 0 rfl rfl (vp_in_nI hv9 (by decide)) dX7_full_8 ?_
  refine lv_topi (fun v_1 ev_1 => ?_)
  have ht9 : v_1 = et_ v9 := ev_1.trans (by rw [nI_clamp (by omega)])
  refine lv_iconst (v := (-1)) hx hb dX7_full_9 (by decide) ?_
  refine lv_icmp_ne (tgt := 17) hx hb dX7_full_10 (by decide) (fun hne => ?_) (fun hne => ?_)
  · obtain ⟨u9, hu9, hue⟩ := het.elim (fun z => absurd (ht9.trans z) hne) id
    refine lv_iconst (v := 1) hx hb dX7_full_17 (by decide) ?_
    refine lv_aload_n hx hb dX7_full_18 rfl (lv_at hl 0 rfl) ?_
    refine va_get (D := (dC, dI)) (ci := 7) (v := .ref y) (C := RX7) (T := TX7) (N := 9) hx hb hts in_c_vfull_X7 hown hK hP 0 rfl rfl 0 (by decide) (hts (.fieldLink RX7 23 "OwnedPlaces$Moves" "types" "LOwnedPlaces$Types;") (wm_c_vfull 3 rfl)) (fun _ h9 => h9) rfl dX7_full_19 ?_
    refine va_get (D := (dC, dI)) (ci := 10) (v := .ref y2) (C := RX10) (T := TX10) (N := 16) hx hb hts in_c_vfull_X10 hown hK hP 1 rfl rfl 2 (by decide) (hts (.fieldLink RX7 98 "OwnedPlaces$Types" "size" "[I") (wm_c_vfull 4 rfl)) (fun _ h9 => h9) rfl dX7_full_22 ?_
    refine lv_aload_n hx hb dX7_full_25 rfl (lv_at hl 0 rfl) ?_
    refine va_get (D := (dC, dI)) (ci := 7) (v := .ref f0) (C := RX7) (T := TX7) (N := 9) hx hb hts in_c_vfull_X7 hown hK hP 0 rfl rfl 2 (by decide) (hts (.fieldLink RX7 31 "OwnedPlaces$Moves" "function" "LOwnedPlaces$Function;") (wm_c_vfull 1 rfl)) (fun _ h9 => h9) rfl dX7_full_26 ?_
    refine va_get (D := (dC, dI)) (ci := 2) (v := .ref fv1) (C := RX2) (T := TX2) (N := 22) hx hb hts in_c_vfull_X2 hown hK hP 3 rfl rfl 11 (by decide) (hts (.fieldLink RX7 95 "OwnedPlaces$Function" "type" "[I") (wm_c_vfull 2 rfl)) (fun _ h9 => h9) rfl dX7_full_29 ?_
    refine lv_iload_n hx hb dX7_full_32 rfl (lv_at hl 1 rfl) ?_
    refine va_iald hx hb hK hP 4 0 rfl rfl (vp_in_nI hv9 (by decide)) dX7_full_33 ?_
    refine lv_topi (fun v_2 ev_2 => ?_)
    obtain rfl : v_2 = nI u9 := ev_2.trans (by rw [nI_clamp (by omega)]; exact hue)
    refine va_iald hx hb hK hP 2 0 rfl rfl (vp_in_nI (by omega) (by decide)) dX7_full_34 ?_
    refine lv_topi (fun v_3 ev_3 => ?_)
    have hz9 : v_3 = az u9 := ev_3.trans (by rw [nI_clamp (by omega)])
    refine lv_ishl hx hb dX7_full_35 ?_
    refine lv_topi (fun f_4 ef_4 => ?_)
    refine lv_iconst (v := 1) hx hb dX7_full_36 (by decide) ?_
    refine lv_isub hx hb dX7_full_37 ?_
    refine lv_topi (fun f_5 ef_5 => ?_)
    have hP9 := hP.sub (ws' := [(mv, .inr (7, [.ref y, .ref c0, .ref f0, .ref vs, .ref vr, .ref vc, .int vir, .int vag, .int vfi])), (y, .inr (10, [.ref y0, .ref y1, .ref y2, .ref y3, .ref y4, .ref y5, .ref y6, .int (nI yt), .int (nI yp), .ref y7, .ref y8, .ref y9, .ref y10, .ref y11, .ref y12, .ref y13])), (y2, .inl (kI, 3040, .inl az)), (f0, .inr (2, [.int ytk, .int ybd, .int (nI ylv), .ref fl0, .int (nI ypr), .ref fl1, .int yac, .int yrs, .int yrl, .int (nI yva), .ref fv0, .ref fv1, .ref fv2, .ref fv3, .ref fv4, .ref fv5, .int ycl, .int ycf, .int yct, .int ylf, .int ylt, .int ybo])), (fv1, .inl (kI, 40, .inl et_))]) [0, 1, 2, 3, 4] rfl
    have hD9 := hD.sub (ws' := [(mv, .inr (7, [.ref y, .ref c0, .ref f0, .ref vs, .ref vr, .ref vc, .int vir, .int vag, .int vfi])), (y, .inr (10, [.ref y0, .ref y1, .ref y2, .ref y3, .ref y4, .ref y5, .ref y6, .int (nI yt), .int (nI yp), .ref y7, .ref y8, .ref y9, .ref y10, .ref y11, .ref y12, .ref y13])), (y2, .inl (kI, 3040, .inl az)), (f0, .inr (2, [.int ytk, .int ybd, .int (nI ylv), .ref fl0, .int (nI ypr), .ref fl1, .int yac, .int yrs, .int yrl, .int (nI yva), .ref fv0, .ref fv1, .ref fv2, .ref fv3, .ref fv4, .ref fv5, .int ycl, .int ycf, .int yct, .int ylf, .int ylt, .int ybo])), (fv1, .inl (kI, 40, .inl et_))]) [0, 1, 2, 3, 4] (by decide) rfl
    have hK9 := hK.sub (tys' := [(kI, .int)]) [0] rfl
    exact W.iret (v := f_5) hx hb hr (fun tS ht hW => ⟨⟨f_5, (), rfl, (Or.inr ⟨u9, hu9, hue, by unfold fuI; rw [ef_5, ef_4, hz9]⟩), by rw [ht]; exact hP9, va_K.moved hW.alike hK9, hD9⟩, hS.F ht⟩) hS.2.2 dX7_full_38
  · refine lv_iconst (v := 0) hx hb dX7_full_13 (by decide) ?_
    refine lv_goto (tgt := 38) hx hb dX7_full_14 (by decide) ?_
    have hP9 := hP.sub (ws' := [(mv, .inr (7, [.ref y, .ref c0, .ref f0, .ref vs, .ref vr, .ref vc, .int vir, .int vag, .int vfi])), (y, .inr (10, [.ref y0, .ref y1, .ref y2, .ref y3, .ref y4, .ref y5, .ref y6, .int (nI yt), .int (nI yp), .ref y7, .ref y8, .ref y9, .ref y10, .ref y11, .ref y12, .ref y13])), (y2, .inl (kI, 3040, .inl az)), (f0, .inr (2, [.int ytk, .int ybd, .int (nI ylv), .ref fl0, .int (nI ypr), .ref fl1, .int yac, .int yrs, .int yrl, .int (nI yva), .ref fv0, .ref fv1, .ref fv2, .ref fv3, .ref fv4, .ref fv5, .int ycl, .int ycf, .int yct, .int ylf, .int ylt, .int ybo])), (fv1, .inl (kI, 40, .inl et_))]) [0, 1, 2, 3, 4] rfl
    have hD9 := hD.sub (ws' := [(mv, .inr (7, [.ref y, .ref c0, .ref f0, .ref vs, .ref vr, .ref vc, .int vir, .int vag, .int vfi])), (y, .inr (10, [.ref y0, .ref y1, .ref y2, .ref y3, .ref y4, .ref y5, .ref y6, .int (nI yt), .int (nI yp), .ref y7, .ref y8, .ref y9, .ref y10, .ref y11, .ref y12, .ref y13])), (y2, .inl (kI, 3040, .inl az)), (f0, .inr (2, [.int ytk, .int ybd, .int (nI ylv), .ref fl0, .int (nI ypr), .ref fl1, .int yac, .int yrs, .int yrl, .int (nI yva), .ref fv0, .ref fv1, .ref fv2, .ref fv3, .ref fv4, .ref fv5, .int ycl, .int ycf, .int yct, .int ylf, .int ylt, .int ybo])), (fv1, .inl (kI, 40, .inl et_))]) [0, 1, 2, 3, 4] (by decide) rfl
    have hK9 := hK.sub (tys' := [(kI, .int)]) [0] rfl
    exact W.iret (v := 0) hx hb hr (fun tS ht hW => ⟨⟨0, (), rfl, (Or.inl ⟨ht9.symm.trans hne, rfl⟩), by rw [ht]; exact hP9, va_K.moved hW.alike hK9, hD9⟩, hS.F ht⟩) hS.2.2 dX7_full_38
