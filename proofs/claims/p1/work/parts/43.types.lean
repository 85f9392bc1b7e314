def wf_c_make : List Cond := [.code yX10_make cX10_make 4 (some .int), .fieldLink RX10 59 "OwnedPlaces$Types" "total" "I", .fieldLink RX10 9 "OwnedPlaces$Types" "kind" "[I", .fieldLink RX10 15 "OwnedPlaces$Types" "of" "[I", .fieldLink RX10 18 "OwnedPlaces$Types" "size" "[I", .fieldLink RX10 21 "OwnedPlaces$Types" "drops" "[Z", .fieldLink RX10 25 "OwnedPlaces$Types" "boxes" "[I", .fieldLink RX10 28 "OwnedPlaces$Types" "shared" "[I", .fieldLink RX10 31 "OwnedPlaces$Types" "unique" "[I"]
def wp_c_make : List Cond := wf_c_make ++ (wsX100 ++ [])
theorem in_c_make_X10 : ∀ w ∈ wsX100, w ∈ wp_c_make := fun w h => List.mem_append_right _ (List.mem_append_left _ h)
theorem wg_c_make : wf_c_make.all goodWord = true := by decide +kernel
theorem wm_c_make (k : Nat) {w : Cond} (h : wp_c_make[k]? = some w) : w ∈ wp_c_make := List.mem_of_getElem? h
set_option maxHeartbeats 4000000 in
set_option maxRecDepth 100000 in
theorem c_make (l : Launch) (dC : Nat → ClassId) (dI : Nat → Nat → Nat) (y yk yo yz yd yb ys yu y1 y2 y3 y4 y5 y6 y7 : Nat) (kI kZ : ClassId) (e1 e2 e3 e4 e5 e6 e7 : Nat → Int32) (u : Nat) (sz : Nat) (hu : u < 3040) : Met l yX10_make wp_c_make ({ frames := 0, cells := 0, slots := 0, locals := 0 }) (va_Pc [.ref y, .int 0, .int 0] (fun U => U.heap.size = sz ∧ va_P (dC, dI) vwCl [(y, .inr (10, [.ref yk, .ref yo, .ref yz, .ref yd, .ref yb, .ref ys, .ref yu, .int (nI u), .int 0, .ref y1, .ref y2, .ref y3, .ref y4, .ref y5, .ref y6, .ref y7])), (yk, .inl (kI, 3040, .inl e1)), (yo, .inl (kI, 3040, .inl e2)), (yz, .inl (kI, 3040, .inl e3)), (yd, .inl (kZ, 3040, .inl e4)), (yb, .inl (kI, 3040, .inl e5)), (ys, .inl (kI, 3040, .inl e6)), (yu, .inl (kI, 3040, .inl e7))] U.heap ∧ va_K (dC, dI) vwCl [(kI, .int), (kZ, .boolean)] U ∧ va_D (fun _ => True) [(y, .inr (10, [.ref yk, .ref yo, .ref yz, .ref yd, .ref yb, .ref ys, .ref yu, .int (nI u), .int 0, .ref y1, .ref y2, .ref y3, .ref y4, .ref y5, .ref y6, .ref y7])), (yk, .inl (kI, 3040, .inl e1)), (yo, .inl (kI, 3040, .inl e2)), (yz, .inl (kI, 3040, .inl e3)), (yd, .inl (kZ, 3040, .inl e4)), (yb, .inl (kI, 3040, .inl e5)), (ys, .inl (kI, 3040, .inl e6)), (yu, .inl (kI, 3040, .inl e7))])) (va_Qi (fun (_ : Int32) (_ : Unit) => True) (fun (_ : Unit) (tS : State) => ∃ (g0 : Nat → Int32) (g1 : Nat → Int32) (g2 : Nat → Int32) (g3 : Nat → Int32) (g4 : Nat → Int32) (g5 : Nat → Int32) (g6 : Nat → Int32), va_P (dC, dI) vwCl [(y, .inr (10, [.ref yk, .ref yo, .ref yz, .ref yd, .ref yb, .ref ys, .ref yu, .int (nI (u + 1)), .int 0, .ref y1, .ref y2, .ref y3, .ref y4, .ref y5, .ref y6, .ref y7])), (yk, .inl (kI, 3040, .inl g0)), (yo, .inl (kI, 3040, .inl g1)), (yz, .inl (kI, 3040, .inl g2)), (yd, .inl (kZ, 3040, .inl g3)), (yb, .inl (kI, 3040, .inl g4)), (ys, .inl (kI, 3040, .inl g5)), (yu, .inl (kI, 3040, .inl g6))] tS.heap ∧ va_K (dC, dI) vwCl [(kI, .int), (kZ, .boolean)] tS ∧ va_D (va_A [(y, .inr (10, [.ref yk, .ref yo, .ref yz, .ref yd, .ref yb, .ref ys, .ref yu, .int (nI u), .int 0, .ref y1, .ref y2, .ref y3, .ref y4, .ref y5, .ref y6, .ref y7])), (yk, .inl (kI, 3040, .inl e1)), (yo, .inl (kI, 3040, .inl e2)), (yz, .inl (kI, 3040, .inl e3)), (yd, .inl (kZ, 3040, .inl e4)), (yb, .inl (kI, 3040, .inl e5)), (ys, .inl (kI, 3040, .inl e6)), (yu, .inl (kI, 3040, .inl e7))] sz) [(y, .inr (10, [.ref yk, .ref yo, .ref yz, .ref yd, .ref yb, .ref ys, .ref yu, .int (nI (u + 1)), .int 0, .ref y1, .ref y2, .ref y3, .ref y4, .ref y5, .ref y6, .ref y7])), (yk, .inl (kI, 3040, .inl g0)), (yo, .inl (kI, 3040, .inl g1)), (yz, .inl (kI, 3040, .inl g2)), (yd, .inl (kZ, 3040, .inl g3)), (yb, .inl (kI, 3040, .inl g4)), (ys, .inl (kI, 3040, .inl g5)), (yu, .inl (kI, 3040, .inl g6))]) (va_A [(y, .inr (10, [.ref yk, .ref yo, .ref yz, .ref yd, .ref yb, .ref ys, .ref yu, .int (nI u), .int 0, .ref y1, .ref y2, .ref y3, .ref y4, .ref y5, .ref y6, .ref y7])), (yk, .inl (kI, 3040, .inl e1)), (yo, .inl (kI, 3040, .inl e2)), (yz, .inl (kI, 3040, .inl e3)), (yd, .inl (kZ, 3040, .inl e4)), (yb, .inl (kI, 3040, .inl e5)), (ys, .inl (kI, 3040, .inl e6)), (yu, .inl (kI, 3040, .inl e7))] sz)) 0 0 (va_A [(y, .inr (10, [.ref yk, .ref yo, .ref yz, .ref yd, .ref yb, .ref ys, .ref yu, .int (nI u), .int 0, .ref y1, .ref y2, .ref y3, .ref y4, .ref y5, .ref y6, .ref y7])), (yk, .inl (kI, 3040, .inl e1)), (yo, .inl (kI, 3040, .inl e2)), (yz, .inl (kI, 3040, .inl e3)), (yd, .inl (kZ, 3040, .inl e4)), (yb, .inl (kI, 3040, .inl e5)), (ys, .inl (kI, 3040, .inl e6)), (yu, .inl (kI, 3040, .inl e7))] sz) := by
  refine Met.ofW (cc := cX10_make) (maxL := 4) (ret := (some .int)) (by decide) rfl ?_
  intro p e s m args below meth c s₁ B hml hv
  obtain ⟨rfl, hsz, hP, hK, hD0⟩ := hv
  have hx := B.exec
  have hb := B.bytes
  have hr := B.returns
  have hts := atoms_spec (ws := wp_c_make) B.pre
  have hown : s.vm.findClass RX10 = some m.cls := findClass_of_methodNamed B.named
  have hlocks := B.notSynchronized
  subst hsz
  have hD := hD0.self (sz := s.heap.size)
  generalize hAe : va_A [(y, .inr (10, [.ref yk, .ref yo, .ref yz, .ref yd, .ref yb, .ref ys, .ref yu, .int (nI u), .int 0, .ref y1, .ref y2, .ref y3, .ref y4, .ref y5, .ref y6, .ref y7])), (yk, .inl (kI, 3040, .inl e1)), (yo, .inl (kI, 3040, .inl e2)), (yz, .inl (kI, 3040, .inl e3)), (yd, .inl (kZ, 3040, .inl e4)), (yb, .inl (kI, 3040, .inl e5)), (ys, .inl (kI, 3040, .inl e6)), (yu, .inl (kI, 3040, .inl e7))] s.heap.size = A at hD ⊢
  have hA : ∀ q : Nat, s.heap.size ≤ q → A q := fun q h => by rw [← hAe]; exact Or.inr h
  have hS : va_S A s.heap s.heap [] := va_S.rf
  have hP : va_P (dC, dI) vwCl [(y, .inr (10, [.ref yk, .ref yo, .ref yz, .ref yd, .ref yb, .ref ys, .ref yu, .int (nI u), .int 0, .ref y1, .ref y2, .ref y3, .ref y4, .ref y5, .ref y6, .ref y7])), (yk, .inl (kI, 3040, .inl e1)), (yo, .inl (kI, 3040, .inl e2)), (yz, .inl (kI, 3040, .inl e3)), (yd, .inl (kZ, 3040, .inl e4)), (yb, .inl (kI, 3040, .inl e5)), (ys, .inl (kI, 3040, .inl e6)), (yu, .inl (kI, 3040, .inl e7))] s.heap := hP
  have hl := lv_entry ([.ref y, .int 0, .int 0]) (n := 4) (Nat.le_of_ble_eq_true rfl)
  rw [lg_entry_eq]
  generalize (lg_sl ([.ref y, .int 0, .int 0]) ++ List.replicate (4 - (lg_sl ([.ref y, .int 0, .int 0])).length) Slot.unset).toArray = ls at hl ⊢
  have hl : lv_has ls 4 [(0, .ref y), (1, .int 0), (2, .int 0)] := hl
  refine lv_aload_n hx hb dX10_make_0 rfl (lv_at hl 0 rfl) ?_
  refine va_get (D := (dC, dI)) (ci := 10) (v := .int (nI u)) (C := RX10) (T := TX10) (N := 16) hx hb hts in_c_make_X10 hown hK hP 0 rfl rfl 7 (by decide) (hts (.fieldLink RX10 59 "OwnedPlaces$Types" "total" "I") (wm_c_make 1 rfl)) (fun _ h9 => h9) rfl dX10_make_1 ?_
  refine lv_sipush (v := 3040) hx hb dX10_make_4 (by decide) ?_
  refine lv_icmp_ne (tgt := 12) hx hb dX10_make_7 (by decide) (fun _ => ?_) (fun c_1 => absurd c_1 (fun h9 => absurd ((nI_eq (a := u) (b := 3040) (by omega) (by decide)).mp h9) (by omega)))
  refine lv_aload_n hx hb dX10_make_12 rfl (lv_at hl 0 rfl) ?_
  refine va_get (D := (dC, dI)) (ci := 10) (v := .int (nI u)) (C := RX10) (T := TX10) (N := 16) hx hb hts in_c_make_X10 hown hK hP 0 rfl rfl 7 (by decide) (hts (.fieldLink RX10 59 "OwnedPlaces$Types" "total" "I") (wm_c_make 1 rfl)) (fun _ h9 => h9) rfl dX10_make_13 ?_
  refine lv_istore_n (lv' := [(3, .int (nI u)), (0, .ref y), (1, .int 0), (2, .int 0)]) hx hb dX10_make_16 rfl hl (by decide) rfl (fun ls hl => ?_)
  refine lv_aload_n hx hb dX10_make_17 rfl (lv_at hl 1 rfl) ?_
  refine va_get (D := (dC, dI)) (ci := 10) (v := .ref yk) (C := RX10) (T := TX10) (N := 16) hx hb hts in_c_make_X10 hown hK hP 0 rfl rfl 0 (by decide) (hts (.fieldLink RX10 9 "OwnedPlaces$Types" "kind" "[I") (wm_c_make 2 rfl)) (fun _ h9 => h9) rfl dX10_make_18 ?_
  refine lv_iload_n hx hb dX10_make_21 rfl (lv_at hl 0 rfl) ?_
  refine lv_iload_n hx hb dX10_make_22 rfl (lv_at hl 2 rfl) ?_
  refine va_iast hx hb hK hP hD hS 1 0 rfl rfl (vp_in_nI hu (by decide)) dX10_make_23 (fun H locs hP hD hS => ?_)
  have hP : va_P (dC, dI) vwCl [(y, .inr (10, [.ref yk, .ref yo, .ref yz, .ref yd, .ref yb, .ref ys, .ref yu, .int (nI u), .int 0, .ref y1, .ref y2, .ref y3, .ref y4, .ref y5, .ref y6, .ref y7])), (yk, .inl (kI, 3040, .inl (upd e1 (nI u : Int32).toNatClampNeg 0))), (yo, .inl (kI, 3040, .inl e2)), (yz, .inl (kI, 3040, .inl e3)), (yd, .inl (kZ, 3040, .inl e4)), (yb, .inl (kI, 3040, .inl e5)), (ys, .inl (kI, 3040, .inl e6)), (yu, .inl (kI, 3040, .inl e7))] H := hP
  have hD : va_D A [(y, .inr (10, [.ref yk, .ref yo, .ref yz, .ref yd, .ref yb, .ref ys, .ref yu, .int (nI u), .int 0, .ref y1, .ref y2, .ref y3, .ref y4, .ref y5, .ref y6, .ref y7])), (yk, .inl (kI, 3040, .inl (upd e1 (nI u : Int32).toNatClampNeg 0))), (yo, .inl (kI, 3040, .inl e2)), (yz, .inl (kI, 3040, .inl e3)), (yd, .inl (kZ, 3040, .inl e4)), (yb, .inl (kI, 3040, .inl e5)), (ys, .inl (kI, 3040, .inl e6)), (yu, .inl (kI, 3040, .inl e7))] := hD
  obtain ⟨a1, ea1⟩ : ∃ zZ : Nat → Int32, zZ = upd e1 (nI u : Int32).toNatClampNeg 0 := ⟨_, rfl⟩
  rw [← ea1] at hP hD
  refine lv_aload_n hx hb dX10_make_24 rfl (lv_at hl 1 rfl) ?_
  refine va_get (D := (dC, dI)) (ci := 10) (v := .ref yo) (C := RX10) (T := TX10) (N := 16) hx hb hts in_c_make_X10 hown hK hP 0 rfl rfl 1 (by decide) (hts (.fieldLink RX10 15 "OwnedPlaces$Types" "of" "[I") (wm_c_make 3 rfl)) (fun _ h9 => h9) rfl dX10_make_25 ?_
  refine lv_iload_n hx hb dX10_make_28 rfl (lv_at hl 0 rfl) ?_
  refine lv_iload_n hx hb dX10_make_29 rfl (lv_at hl 3 rfl) ?_
  refine va_iast hx hb hK hP hD hS 2 0 rfl rfl (vp_in_nI hu (by decide)) dX10_make_30 (fun H locs hP hD hS => ?_)
  have hP : va_P (dC, dI) vwCl [(y, .inr (10, [.ref yk, .ref yo, .ref yz, .ref yd, .ref yb, .ref ys, .ref yu, .int (nI u), .int 0, .ref y1, .ref y2, .ref y3, .ref y4, .ref y5, .ref y6, .ref y7])), (yk, .inl (kI, 3040, .inl a1)), (yo, .inl (kI, 3040, .inl (upd e2 (nI u : Int32).toNatClampNeg 0))), (yz, .inl (kI, 3040, .inl e3)), (yd, .inl (kZ, 3040, .inl e4)), (yb, .inl (kI, 3040, .inl e5)), (ys, .inl (kI, 3040, .inl e6)), (yu, .inl (kI, 3040, .inl e7))] H := hP
  have hD : va_D A [(y, .inr (10, [.ref yk, .ref yo, .ref yz, .ref yd, .ref yb, .ref ys, .ref yu, .int (nI u), .int 0, .ref y1, .ref y2, .ref y3, .ref y4, .ref y5, .ref y6, .ref y7])), (yk, .inl (kI, 3040, .inl a1)), (yo, .inl (kI, 3040, .inl (upd e2 (nI u : Int32).toNatClampNeg 0))), (yz, .inl (kI, 3040, .inl e3)), (yd, .inl (kZ, 3040, .inl e4)), (yb, .inl (kI, 3040, .inl e5)), (ys, .inl (kI, 3040, .inl e6)), (yu, .inl (kI, 3040, .inl e7))] := hD
  obtain ⟨a2, ea2⟩ : ∃ zZ : Nat → Int32, zZ = upd e2 (nI u : Int32).toNatClampNeg 0 := ⟨_, rfl⟩
  rw [← ea2] at hP hD
  refine lv_aload_n hx hb dX10_make_31 rfl (lv_at hl 1 rfl) ?_
  refine va_get (D := (dC, dI)) (ci := 10) (v := .ref yz) (C := RX10) (T := TX10) (N := 16) hx hb hts in_c_make_X10 hown hK hP 0 rfl rfl 2 (by decide) (hts (.fieldLink RX10 18 "OwnedPlaces$Types" "size" "[I") (wm_c_make 4 rfl)) (fun _ h9 => h9) rfl dX10_make_32 ?_
  refine lv_iload_n hx hb dX10_make_35 rfl (lv_at hl 0 rfl) ?_
  refine lv_iconst (v := 1) hx hb dX10_make_36 (by decide) ?_
  refine va_iast hx hb hK hP hD hS 3 0 rfl rfl (vp_in_nI hu (by decide)) dX10_make_37 (fun H locs hP hD hS => ?_)
  have hP : va_P (dC, dI) vwCl [(y, .inr (10, [.ref yk, .ref yo, .ref yz, .ref yd, .ref yb, .ref ys, .ref yu, .int (nI u), .int 0, .ref y1, .ref y2, .ref y3, .ref y4, .ref y5, .ref y6, .ref y7])), (yk, .inl (kI, 3040, .inl a1)), (yo, .inl (kI, 3040, .inl a2)), (yz, .inl (kI, 3040, .inl (upd e3 (nI u : Int32).toNatClampNeg 1))), (yd, .inl (kZ, 3040, .inl e4)), (yb, .inl (kI, 3040, .inl e5)), (ys, .inl (kI, 3040, .inl e6)), (yu, .inl (kI, 3040, .inl e7))] H := hP
  have hD : va_D A [(y, .inr (10, [.ref yk, .ref yo, .ref yz, .ref yd, .ref yb, .ref ys, .ref yu, .int (nI u), .int 0, .ref y1, .ref y2, .ref y3, .ref y4, .ref y5, .ref y6, .ref y7])), (yk, .inl (kI, 3040, .inl a1)), (yo, .inl (kI, 3040, .inl a2)), (yz, .inl (kI, 3040, .inl (upd e3 (nI u : Int32).toNatClampNeg 1))), (yd, .inl (kZ, 3040, .inl e4)), (yb, .inl (kI, 3040, .inl e5)), (ys, .inl (kI, 3040, .inl e6)), (yu, .inl (kI, 3040, .inl e7))] := hD
  obtain ⟨a3, ea3⟩ : ∃ zZ : Nat → Int32, zZ = upd e3 (nI u : Int32).toNatClampNeg 1 := ⟨_, rfl⟩
  rw [← ea3] at hP hD
  refine lv_aload_n hx hb dX10_make_38 rfl (lv_at hl 1 rfl) ?_
  refine va_get (D := (dC, dI)) (ci := 10) (v := .ref yd) (C := RX10) (T := TX10) (N := 16) hx hb hts in_c_make_X10 hown hK hP 0 rfl rfl 3 (by decide) (hts (.fieldLink RX10 21 "OwnedPlaces$Types" "drops" "[Z") (wm_c_make 5 rfl)) (fun _ h9 => h9) rfl dX10_make_39 ?_
  refine lv_iload_n hx hb dX10_make_42 rfl (lv_at hl 0 rfl) ?_
  refine lv_iload_n hx hb dX10_make_43 rfl (lv_at hl 2 rfl) ?_
  refine lv_iconst (v := 4) hx hb dX10_make_44 (by decide) ?_
  refine lv_icmp_ne (tgt := 52) hx hb dX10_make_45 (by decide) (fun _ => ?_) (fun c_2 => absurd c_2 (by decide))
  refine lv_iconst (v := 0) hx hb dX10_make_52 (by decide) ?_
  refine va_zast hx hb hK hP hD hS 4 1 rfl rfl (vp_in_nI hu (by decide)) dX10_make_53 (fun H locs hP hD hS => ?_)
  have hP : va_P (dC, dI) vwCl [(y, .inr (10, [.ref yk, .ref yo, .ref yz, .ref yd, .ref yb, .ref ys, .ref yu, .int (nI u), .int 0, .ref y1, .ref y2, .ref y3, .ref y4, .ref y5, .ref y6, .ref y7])), (yk, .inl (kI, 3040, .inl a1)), (yo, .inl (kI, 3040, .inl a2)), (yz, .inl (kI, 3040, .inl a3)), (yd, .inl (kZ, 3040, .inl (upd e4 (nI u : Int32).toNatClampNeg (vp_nar .boolean 0)))), (yb, .inl (kI, 3040, .inl e5)), (ys, .inl (kI, 3040, .inl e6)), (yu, .inl (kI, 3040, .inl e7))] H := hP
  have hD : va_D A [(y, .inr (10, [.ref yk, .ref yo, .ref yz, .ref yd, .ref yb, .ref ys, .ref yu, .int (nI u), .int 0, .ref y1, .ref y2, .ref y3, .ref y4, .ref y5, .ref y6, .ref y7])), (yk, .inl (kI, 3040, .inl a1)), (yo, .inl (kI, 3040, .inl a2)), (yz, .inl (kI, 3040, .inl a3)), (yd, .inl (kZ, 3040, .inl (upd e4 (nI u : Int32).toNatClampNeg (vp_nar .boolean 0)))), (yb, .inl (kI, 3040, .inl e5)), (ys, .inl (kI, 3040, .inl e6)), (yu, .inl (kI, 3040, .inl e7))] := hD
  obtain ⟨a4, ea4⟩ : ∃ zZ : Nat → Int32, zZ = upd e4 (nI u : Int32).toNatClampNeg (vp_nar .boolean 0) := ⟨_, rfl⟩
  rw [← ea4] at hP hD
  refine lv_aload_n hx hb dX10_make_54 rfl (lv_at hl 1 rfl) ?_
  refine va_get (D := (dC, dI)) (ci := 10) (v := .ref yb) (C := RX10) (T := TX10) (N := 16) hx hb hts in_c_make_X10 hown hK hP 0 rfl rfl 4 (by decide) (hts (.fieldLink RX10 25 "OwnedPlaces$Types" "boxes" "[I") (wm_c_make 6 rfl)) (fun _ h9 => h9) rfl dX10_make_55 ?_
  refine lv_iload_n hx hb dX10_make_58 rfl (lv_at hl 0 rfl) ?_
  refine lv_iconst (v := 0) hx hb dX10_make_59 (by decide) ?_
  refine va_iast hx hb hK hP hD hS 5 0 rfl rfl (vp_in_nI hu (by decide)) dX10_make_60 (fun H locs hP hD hS => ?_)
  have hP : va_P (dC, dI) vwCl [(y, .inr (10, [.ref yk, .ref yo, .ref yz, .ref yd, .ref yb, .ref ys, .ref yu, .int (nI u), .int 0, .ref y1, .ref y2, .ref y3, .ref y4, .ref y5, .ref y6, .ref y7])), (yk, .inl (kI, 3040, .inl a1)), (yo, .inl (kI, 3040, .inl a2)), (yz, .inl (kI, 3040, .inl a3)), (yd, .inl (kZ, 3040, .inl a4)), (yb, .inl (kI, 3040, .inl (upd e5 (nI u : Int32).toNatClampNeg 0))), (ys, .inl (kI, 3040, .inl e6)), (yu, .inl (kI, 3040, .inl e7))] H := hP
  have hD : va_D A [(y, .inr (10, [.ref yk, .ref yo, .ref yz, .ref yd, .ref yb, .ref ys, .ref yu, .int (nI u), .int 0, .ref y1, .ref y2, .ref y3, .ref y4, .ref y5, .ref y6, .ref y7])), (yk, .inl (kI, 3040, .inl a1)), (yo, .inl (kI, 3040, .inl a2)), (yz, .inl (kI, 3040, .inl a3)), (yd, .inl (kZ, 3040, .inl a4)), (yb, .inl (kI, 3040, .inl (upd e5 (nI u : Int32).toNatClampNeg 0))), (ys, .inl (kI, 3040, .inl e6)), (yu, .inl (kI, 3040, .inl e7))] := hD
  obtain ⟨a5, ea5⟩ : ∃ zZ : Nat → Int32, zZ = upd e5 (nI u : Int32).toNatClampNeg 0 := ⟨_, rfl⟩
  rw [← ea5] at hP hD
  refine lv_aload_n hx hb dX10_make_61 rfl (lv_at hl 1 rfl) ?_
  refine va_get (D := (dC, dI)) (ci := 10) (v := .ref ys) (C := RX10) (T := TX10) (N := 16) hx hb hts in_c_make_X10 hown hK hP 0 rfl rfl 5 (by decide) (hts (.fieldLink RX10 28 "OwnedPlaces$Types" "shared" "[I") (wm_c_make 7 rfl)) (fun _ h9 => h9) rfl dX10_make_62 ?_
  refine lv_iload_n hx hb dX10_make_65 rfl (lv_at hl 0 rfl) ?_
  refine lv_iconst (v := 0) hx hb dX10_make_66 (by decide) ?_
  refine va_iast hx hb hK hP hD hS 6 0 rfl rfl (vp_in_nI hu (by decide)) dX10_make_67 (fun H locs hP hD hS => ?_)
  have hP : va_P (dC, dI) vwCl [(y, .inr (10, [.ref yk, .ref yo, .ref yz, .ref yd, .ref yb, .ref ys, .ref yu, .int (nI u), .int 0, .ref y1, .ref y2, .ref y3, .ref y4, .ref y5, .ref y6, .ref y7])), (yk, .inl (kI, 3040, .inl a1)), (yo, .inl (kI, 3040, .inl a2)), (yz, .inl (kI, 3040, .inl a3)), (yd, .inl (kZ, 3040, .inl a4)), (yb, .inl (kI, 3040, .inl a5)), (ys, .inl (kI, 3040, .inl (upd e6 (nI u : Int32).toNatClampNeg 0))), (yu, .inl (kI, 3040, .inl e7))] H := hP
  have hD : va_D A [(y, .inr (10, [.ref yk, .ref yo, .ref yz, .ref yd, .ref yb, .ref ys, .ref yu, .int (nI u), .int 0, .ref y1, .ref y2, .ref y3, .ref y4, .ref y5, .ref y6, .ref y7])), (yk, .inl (kI, 3040, .inl a1)), (yo, .inl (kI, 3040, .inl a2)), (yz, .inl (kI, 3040, .inl a3)), (yd, .inl (kZ, 3040, .inl a4)), (yb, .inl (kI, 3040, .inl a5)), (ys, .inl (kI, 3040, .inl (upd e6 (nI u : Int32).toNatClampNeg 0))), (yu, .inl (kI, 3040, .inl e7))] := hD
  obtain ⟨a6, ea6⟩ : ∃ zZ : Nat → Int32, zZ = upd e6 (nI u : Int32).toNatClampNeg 0 := ⟨_, rfl⟩
  rw [← ea6] at hP hD
  refine lv_aload_n hx hb dX10_make_68 rfl (lv_at hl 1 rfl) ?_
  refine va_get (D := (dC, dI)) (ci := 10) (v := .ref yu) (C := RX10) (T := TX10) (N := 16) hx hb hts in_c_make_X10 hown hK hP 0 rfl rfl 6 (by decide) (hts (.fieldLink RX10 31 "OwnedPlaces$Types" "unique" "[I") (wm_c_make 8 rfl)) (fun _ h9 => h9) rfl dX10_make_69 ?_
  refine lv_iload_n hx hb dX10_make_72 rfl (lv_at hl 0 rfl) ?_
  refine lv_iconst (v := 0) hx hb dX10_make_73 (by decide) ?_
  refine va_iast hx hb hK hP hD hS 7 0 rfl rfl (vp_in_nI hu (by decide)) dX10_make_74 (fun H locs hP hD hS => ?_)
  have hP : va_P (dC, dI) vwCl [(y, .inr (10, [.ref yk, .ref yo, .ref yz, .ref yd, .ref yb, .ref ys, .ref yu, .int (nI u), .int 0, .ref y1, .ref y2, .ref y3, .ref y4, .ref y5, .ref y6, .ref y7])), (yk, .inl (kI, 3040, .inl a1)), (yo, .inl (kI, 3040, .inl a2)), (yz, .inl (kI, 3040, .inl a3)), (yd, .inl (kZ, 3040, .inl a4)), (yb, .inl (kI, 3040, .inl a5)), (ys, .inl (kI, 3040, .inl a6)), (yu, .inl (kI, 3040, .inl (upd e7 (nI u : Int32).toNatClampNeg 0)))] H := hP
  have hD : va_D A [(y, .inr (10, [.ref yk, .ref yo, .ref yz, .ref yd, .ref yb, .ref ys, .ref yu, .int (nI u), .int 0, .ref y1, .ref y2, .ref y3, .ref y4, .ref y5, .ref y6, .ref y7])), (yk, .inl (kI, 3040, .inl a1)), (yo, .inl (kI, 3040, .inl a2)), (yz, .inl (kI, 3040, .inl a3)), (yd, .inl (kZ, 3040, .inl a4)), (yb, .inl (kI, 3040, .inl a5)), (ys, .inl (kI, 3040, .inl a6)), (yu, .inl (kI, 3040, .inl (upd e7 (nI u : Int32).toNatClampNeg 0)))] := hD
  obtain ⟨a7, ea7⟩ : ∃ zZ : Nat → Int32, zZ = upd e7 (nI u : Int32).toNatClampNeg 0 := ⟨_, rfl⟩
  rw [← ea7] at hP hD
  refine lv_aload_n hx hb dX10_make_75 rfl (lv_at hl 1 rfl) ?_
  refine lv_dup hx hb dX10_make_76 rfl ?_
  refine va_get (D := (dC, dI)) (ci := 10) (v := .int (nI u)) (C := RX10) (T := TX10) (N := 16) hx hb hts in_c_make_X10 hown hK hP 0 rfl rfl 7 (by decide) (hts (.fieldLink RX10 59 "OwnedPlaces$Types" "total" "I") (wm_c_make 1 rfl)) (fun _ h9 => h9) rfl dX10_make_77 ?_
  refine lv_iconst (v := 1) hx hb dX10_make_80 (by decide) ?_
  refine lv_iadd hx hb dX10_make_81 ?_
  refine lv_topi (fun f_3 ef_3 => ?_)
  obtain rfl : f_3 = nI (u + 1) := ef_3.trans (nI_1 u)
  refine va_put (D := (dC, dI)) (ci := 10) (v := .int (nI (u + 1))) (ty := .int) (C := RX10) (T := TX10) (N := 16) hx hb hts in_c_make_X10 tyX10 tyX10_ok nmX10 hown hK hP hD hS 0 rfl rfl 7 (by decide) (hts (.fieldLink RX10 59 "OwnedPlaces$Types" "total" "I") (wm_c_make 1 rfl)) (fun _ h9 => h9) rfl (by decide +kernel) rfl rfl (Nat.le_of_ble_eq_true rfl) dX10_make_82 (fun H locs hP hD hS => ?_)
  have hP : va_P (dC, dI) vwCl [(y, .inr (10, [.ref yk, .ref yo, .ref yz, .ref yd, .ref yb, .ref ys, .ref yu, .int (nI (u + 1)), .int 0, .ref y1, .ref y2, .ref y3, .ref y4, .ref y5, .ref y6, .ref y7])), (yk, .inl (kI, 3040, .inl a1)), (yo, .inl (kI, 3040, .inl a2)), (yz, .inl (kI, 3040, .inl a3)), (yd, .inl (kZ, 3040, .inl a4)), (yb, .inl (kI, 3040, .inl a5)), (ys, .inl (kI, 3040, .inl a6)), (yu, .inl (kI, 3040, .inl a7))] H := hP
  have hD : va_D A [(y, .inr (10, [.ref yk, .ref yo, .ref yz, .ref yd, .ref yb, .ref ys, .ref yu, .int (nI (u + 1)), .int 0, .ref y1, .ref y2, .ref y3, .ref y4, .ref y5, .ref y6, .ref y7])), (yk, .inl (kI, 3040, .inl a1)), (yo, .inl (kI, 3040, .inl a2)), (yz, .inl (kI, 3040, .inl a3)), (yd, .inl (kZ, 3040, .inl a4)), (yb, .inl (kI, 3040, .inl a5)), (ys, .inl (kI, 3040, .inl a6)), (yu, .inl (kI, 3040, .inl a7))] := hD
  refine lv_iload_n hx hb dX10_make_85 rfl (lv_at hl 0 rfl) ?_
  have hP9 := hP.sub (ws' := [(y, .inr (10, [.ref yk, .ref yo, .ref yz, .ref yd, .ref yb, .ref ys, .ref yu, .int (nI (u + 1)), .int 0, .ref y1, .ref y2, .ref y3, .ref y4, .ref y5, .ref y6, .ref y7])), (yk, .inl (kI, 3040, .inl a1)), (yo, .inl (kI, 3040, .inl a2)), (yz, .inl (kI, 3040, .inl a3)), (yd, .inl (kZ, 3040, .inl a4)), (yb, .inl (kI, 3040, .inl a5)), (ys, .inl (kI, 3040, .inl a6)), (yu, .inl (kI, 3040, .inl a7))]) [0, 1, 2, 3, 4, 5, 6, 7] rfl
  have hD9 := hD.sub (ws' := [(y, .inr (10, [.ref yk, .ref yo, .ref yz, .ref yd, .ref yb, .ref ys, .ref yu, .int (nI (u + 1)), .int 0, .ref y1, .ref y2, .ref y3, .ref y4, .ref y5, .ref y6, .ref y7])), (yk, .inl (kI, 3040, .inl a1)), (yo, .inl (kI, 3040, .inl a2)), (yz, .inl (kI, 3040, .inl a3)), (yd, .inl (kZ, 3040, .inl a4)), (yb, .inl (kI, 3040, .inl a5)), (ys, .inl (kI, 3040, .inl a6)), (yu, .inl (kI, 3040, .inl a7))]) [0, 1, 2, 3, 4, 5, 6, 7] (by decide) rfl
  have hK9 := hK.sub (tys' := [(kI, .int), (kZ, .boolean)]) [0, 1] rfl
  exact W.iret (v := nI u) hx hb hr (fun tS ht hW => ⟨⟨(nI u), (), rfl, trivial, a1, a2, a3, a4, a5, a6, a7, by rw [ht]; exact hP9, va_K.moved hW.alike hK9, hD9⟩, hS.F ht⟩) hS.2.2 dX10_make_86
def wf_c_tclear : List Cond := [.code yX10_clear cX10_clear 2 none, .fieldLink RX10 55 "OwnedPlaces$Types" "shapes" "I", .fieldLink RX10 59 "OwnedPlaces$Types" "total" "I", .fieldLink RX10 9 "OwnedPlaces$Types" "kind" "[I", .fieldLink RX10 21 "OwnedPlaces$Types" "drops" "[Z", .code yX10_make cX10_make 4 (some .int), .fieldLink RX10 15 "OwnedPlaces$Types" "of" "[I", .fieldLink RX10 18 "OwnedPlaces$Types" "size" "[I", .fieldLink RX10 25 "OwnedPlaces$Types" "boxes" "[I", .fieldLink RX10 28 "OwnedPlaces$Types" "shared" "[I", .fieldLink RX10 31 "OwnedPlaces$Types" "unique" "[I", .methodLink RX10 62 yX10_make, .instanceMethod yX10_make, .selects RX10 yX10_make yX10_make, .initialized RX10]
def wp_c_tclear : List Cond := wf_c_tclear ++ (wsX100 ++ [])
theorem in_c_tclear_X10 : ∀ w ∈ wsX100, w ∈ wp_c_tclear := fun w h => List.mem_append_right _ (List.mem_append_left _ h)
theorem wg_c_tclear : wf_c_tclear.all goodWord = true := by decide +kernel
theorem wm_c_tclear (k : Nat) {w : Cond} (h : wp_c_tclear[k]? = some w) : w ∈ wp_c_tclear := List.mem_of_getElem? h
set_option maxRecDepth 20000 in
theorem g_c_tclear_c_make_21 : GoodIn wp_c_tclear (wsV RX10 62 RX10 yX10_make wp_c_make) := goodIn_app (goodIn_f [.methodLink RX10 62 yX10_make, .instanceMethod yX10_make, .selects RX10 yX10_make yX10_make, .initialized RX10] [11, 12, 13, 14] rfl (by decide +kernel)) (goodIn_app (goodIn_f (wf_c_make) [5, 2, 3, 6, 7, 4, 8, 9, 10] rfl wg_c_make) (goodIn_app (goodIn_sub in_c_tclear_X10 gd_X10) (goodIn_n)))
set_option maxHeartbeats 4000000 in
set_option maxRecDepth 100000 in
theorem c_tclear (l : Launch) (dC : Nat → ClassId) (dI : Nat → Nat → Nat) (y yk yo yz yd yb ys yu y1 y2 y3 y4 y5 y6 y7 : Nat) (kI kZ : ClassId) (sz : Nat) : Met l yX10_clear wp_c_tclear ({ frames := 1, cells := 0, slots := 0, locals := 23 }) (va_Pc [.ref y] (fun U => U.heap.size = sz ∧ va_P (dC, dI) vwCl [(y, .inr (10, [.ref yk, .ref yo, .ref yz, .ref yd, .ref yb, .ref ys, .ref yu, .int 0, .int 0, .ref y1, .ref y2, .ref y3, .ref y4, .ref y5, .ref y6, .ref y7])), (yk, .inl (kI, 3040, .inl (fun _ => 0))), (yo, .inl (kI, 3040, .inl (fun _ => 0))), (yz, .inl (kI, 3040, .inl (fun _ => 0))), (yd, .inl (kZ, 3040, .inl (fun _ => 0))), (yb, .inl (kI, 3040, .inl (fun _ => 0))), (ys, .inl (kI, 3040, .inl (fun _ => 0))), (yu, .inl (kI, 3040, .inl (fun _ => 0)))] U.heap ∧ va_K (dC, dI) vwCl [(kI, .int), (kZ, .boolean)] U ∧ va_D (fun _ => True) [(y, .inr (10, [.ref yk, .ref yo, .ref yz, .ref yd, .ref yb, .ref ys, .ref yu, .int 0, .int 0, .ref y1, .ref y2, .ref y3, .ref y4, .ref y5, .ref y6, .ref y7])), (yk, .inl (kI, 3040, .inl (fun _ => 0))), (yo, .inl (kI, 3040, .inl (fun _ => 0))), (yz, .inl (kI, 3040, .inl (fun _ => 0))), (yd, .inl (kZ, 3040, .inl (fun _ => 0))), (yb, .inl (kI, 3040, .inl (fun _ => 0))), (ys, .inl (kI, 3040, .inl (fun _ => 0))), (yu, .inl (kI, 3040, .inl (fun _ => 0)))])) (va_Qv (fun _ : Unit => True) (fun (_ : Unit) (tS : State) => ∃ (u : Int32), va_P (dC, dI) vwCl [(y, .inr (10, [.ref yk, .ref yo, .ref yz, .ref yd, .ref yb, .ref ys, .ref yu, .int u, .int 0, .ref y1, .ref y2, .ref y3, .ref y4, .ref y5, .ref y6, .ref y7]))] tS.heap ∧ va_K (dC, dI) vwCl [] tS ∧ va_D (va_A [(y, .inr (10, [.ref yk, .ref yo, .ref yz, .ref yd, .ref yb, .ref ys, .ref yu, .int 0, .int 0, .ref y1, .ref y2, .ref y3, .ref y4, .ref y5, .ref y6, .ref y7])), (yk, .inl (kI, 3040, .inl (fun _ => 0))), (yo, .inl (kI, 3040, .inl (fun _ => 0))), (yz, .inl (kI, 3040, .inl (fun _ => 0))), (yd, .inl (kZ, 3040, .inl (fun _ => 0))), (yb, .inl (kI, 3040, .inl (fun _ => 0))), (ys, .inl (kI, 3040, .inl (fun _ => 0))), (yu, .inl (kI, 3040, .inl (fun _ => 0)))] sz) [(y, .inr (10, [.ref yk, .ref yo, .ref yz, .ref yd, .ref yb, .ref ys, .ref yu, .int u, .int 0, .ref y1, .ref y2, .ref y3, .ref y4, .ref y5, .ref y6, .ref y7]))]) (va_A [(y, .inr (10, [.ref yk, .ref yo, .ref yz, .ref yd, .ref yb, .ref ys, .ref yu, .int 0, .int 0, .ref y1, .ref y2, .ref y3, .ref y4, .ref y5, .ref y6, .ref y7])), (yk, .inl (kI, 3040, .inl (fun _ => 0))), (yo, .inl (kI, 3040, .inl (fun _ => 0))), (yz, .inl (kI, 3040, .inl (fun _ => 0))), (yd, .inl (kZ, 3040, .inl (fun _ => 0))), (yb, .inl (kI, 3040, .inl (fun _ => 0))), (ys, .inl (kI, 3040, .inl (fun _ => 0))), (yu, .inl (kI, 3040, .inl (fun _ => 0)))] sz)) 0 0 (va_A [(y, .inr (10, [.ref yk, .ref yo, .ref yz, .ref yd, .ref yb, .ref ys, .ref yu, .int 0, .int 0, .ref y1, .ref y2, .ref y3, .ref y4, .ref y5, .ref y6, .ref y7])), (yk, .inl (kI, 3040, .inl (fun _ => 0))), (yo, .inl (kI, 3040, .inl (fun _ => 0))), (yz, .inl (kI, 3040, .inl (fun _ => 0))), (yd, .inl (kZ, 3040, .inl (fun _ => 0))), (yb, .inl (kI, 3040, .inl (fun _ => 0))), (ys, .inl (kI, 3040, .inl (fun _ => 0))), (yu, .inl (kI, 3040, .inl (fun _ => 0)))] sz) := by
  refine Met.ofW (cc := cX10_clear) (maxL := 2) (ret := none) (by decide) rfl ?_
  intro p e s m args below meth c s₁ B hml hv
  obtain ⟨rfl, hsz, hP, hK, hD0⟩ := hv
  have hx := B.exec
  have hb := B.bytes
  have hr := B.returns
  have hts := atoms_spec (ws := wp_c_tclear) B.pre
  have hown : s.vm.findClass RX10 = some m.cls := findClass_of_methodNamed B.named
  have hlocks := B.notSynchronized
  subst hsz
  have hD := hD0.self (sz := s.heap.size)
  generalize hAe : va_A [(y, .inr (10, [.ref yk, .ref yo, .ref yz, .ref yd, .ref yb, .ref ys, .ref yu, .int 0, .int 0, .ref y1, .ref y2, .ref y3, .ref y4, .ref y5, .ref y6, .ref y7])), (yk, .inl (kI, 3040, .inl (fun _ => 0))), (yo, .inl (kI, 3040, .inl (fun _ => 0))), (yz, .inl (kI, 3040, .inl (fun _ => 0))), (yd, .inl (kZ, 3040, .inl (fun _ => 0))), (yb, .inl (kI, 3040, .inl (fun _ => 0))), (ys, .inl (kI, 3040, .inl (fun _ => 0))), (yu, .inl (kI, 3040, .inl (fun _ => 0)))] s.heap.size = A at hD ⊢
  have hA : ∀ q : Nat, s.heap.size ≤ q → A q := fun q h => by rw [← hAe]; exact Or.inr h
  have hS : va_S A s.heap s.heap [] := va_S.rf
  have hP : va_P (dC, dI) vwCl [(y, .inr (10, [.ref yk, .ref yo, .ref yz, .ref yd, .ref yb, .ref ys, .ref yu, .int 0, .int 0, .ref y1, .ref y2, .ref y3, .ref y4, .ref y5, .ref y6, .ref y7])), (yk, .inl (kI, 3040, .inl (fun _ => 0))), (yo, .inl (kI, 3040, .inl (fun _ => 0))), (yz, .inl (kI, 3040, .inl (fun _ => 0))), (yd, .inl (kZ, 3040, .inl (fun _ => 0))), (yb, .inl (kI, 3040, .inl (fun _ => 0))), (ys, .inl (kI, 3040, .inl (fun _ => 0))), (yu, .inl (kI, 3040, .inl (fun _ => 0)))] s.heap := hP
  have hl := lv_entry ([.ref y]) (n := 2) (Nat.le_of_ble_eq_true rfl)
  rw [lg_entry_eq]
  generalize (lg_sl ([.ref y]) ++ List.replicate (2 - (lg_sl ([.ref y])).length) Slot.unset).toArray = ls at hl ⊢
  have hl : lv_has ls 2 [(0, .ref y)] := hl
  refine lv_aload_n hx hb dX10_clear_0 rfl (lv_at hl 0 rfl) ?_
  refine lv_iconst (v := 0) hx hb dX10_clear_1 (by decide) ?_
  refine va_put (D := (dC, dI)) (ci := 10) (v := .int 0) (ty := .int) (C := RX10) (T := TX10) (N := 16) hx hb hts in_c_tclear_X10 tyX10 tyX10_ok nmX10 hown hK hP hD hS 0 rfl rfl 8 (by decide) (hts (.fieldLink RX10 55 "OwnedPlaces$Types" "shapes" "I") (wm_c_tclear 1 rfl)) (fun _ h9 => h9) rfl (by decide +kernel) rfl rfl (Nat.le_of_ble_eq_true rfl) dX10_clear_2 (fun H locs hP hD hS => ?_)
  have hP : va_P (dC, dI) vwCl [(y, .inr (10, [.ref yk, .ref yo, .ref yz, .ref yd, .ref yb, .ref ys, .ref yu, .int 0, .int 0, .ref y1, .ref y2, .ref y3, .ref y4, .ref y5, .ref y6, .ref y7])), (yk, .inl (kI, 3040, .inl (fun _ => 0))), (yo, .inl (kI, 3040, .inl (fun _ => 0))), (yz, .inl (kI, 3040, .inl (fun _ => 0))), (yd, .inl (kZ, 3040, .inl (fun _ => 0))), (yb, .inl (kI, 3040, .inl (fun _ => 0))), (ys, .inl (kI, 3040, .inl (fun _ => 0))), (yu, .inl (kI, 3040, .inl (fun _ => 0)))] H := hP
  have hD : va_D A [(y, .inr (10, [.ref yk, .ref yo, .ref yz, .ref yd, .ref yb, .ref ys, .ref yu, .int 0, .int 0, .ref y1, .ref y2, .ref y3, .ref y4, .ref y5, .ref y6, .ref y7])), (yk, .inl (kI, 3040, .inl (fun _ => 0))), (yo, .inl (kI, 3040, .inl (fun _ => 0))), (yz, .inl (kI, 3040, .inl (fun _ => 0))), (yd, .inl (kZ, 3040, .inl (fun _ => 0))), (yb, .inl (kI, 3040, .inl (fun _ => 0))), (ys, .inl (kI, 3040, .inl (fun _ => 0))), (yu, .inl (kI, 3040, .inl (fun _ => 0)))] := hD
  refine lv_aload_n hx hb dX10_clear_5 rfl (lv_at hl 0 rfl) ?_
  refine lv_iconst (v := 0) hx hb dX10_clear_6 (by decide) ?_
  refine va_put (D := (dC, dI)) (ci := 10) (v := .int 0) (ty := .int) (C := RX10) (T := TX10) (N := 16) hx hb hts in_c_tclear_X10 tyX10 tyX10_ok nmX10 hown hK hP hD hS 0 rfl rfl 7 (by decide) (hts (.fieldLink RX10 59 "OwnedPlaces$Types" "total" "I") (wm_c_tclear 2 rfl)) (fun _ h9 => h9) rfl (by decide +kernel) rfl rfl (Nat.le_of_ble_eq_true rfl) dX10_clear_7 (fun H locs hP hD hS => ?_)
  have hP : va_P (dC, dI) vwCl [(y, .inr (10, [.ref yk, .ref yo, .ref yz, .ref yd, .ref yb, .ref ys, .ref yu, .int 0, .int 0, .ref y1, .ref y2, .ref y3, .ref y4, .ref y5, .ref y6, .ref y7])), (yk, .inl (kI, 3040, .inl (fun _ => 0))), (yo, .inl (kI, 3040, .inl (fun _ => 0))), (yz, .inl (kI, 3040, .inl (fun _ => 0))), (yd, .inl (kZ, 3040, .inl (fun _ => 0))), (yb, .inl (kI, 3040, .inl (fun _ => 0))), (ys, .inl (kI, 3040, .inl (fun _ => 0))), (yu, .inl (kI, 3040, .inl (fun _ => 0)))] H := hP
  have hD : va_D A [(y, .inr (10, [.ref yk, .ref yo, .ref yz, .ref yd, .ref yb, .ref ys, .ref yu, .int 0, .int 0, .ref y1, .ref y2, .ref y3, .ref y4, .ref y5, .ref y6, .ref y7])), (yk, .inl (kI, 3040, .inl (fun _ => 0))), (yo, .inl (kI, 3040, .inl (fun _ => 0))), (yz, .inl (kI, 3040, .inl (fun _ => 0))), (yd, .inl (kZ, 3040, .inl (fun _ => 0))), (yb, .inl (kI, 3040, .inl (fun _ => 0))), (ys, .inl (kI, 3040, .inl (fun _ => 0))), (yu, .inl (kI, 3040, .inl (fun _ => 0)))] := hD
  refine lv_iconst (v := 0) hx hb dX10_clear_10 (by decide) ?_
  refine lv_istore_n (lv' := [(1, .int 0), (0, .ref y)]) hx hb dX10_clear_11 rfl hl (by decide) rfl (fun ls hl => ?_)
  refine W_q (fun Q1 hQ1 => ?_)
  have key1 : ∀ (n1 : Nat) (i : Nat) (e1 : Nat → Int32) (e2 : Nat → Int32) (e3 : Nat → Int32) (e4 : Nat → Int32) (e5 : Nat → Int32) (e6 : Nat → Int32) (e7 : Nat → Int32) (H : Heap) (locs : List Loc) (ls : Array Slot), (i + n1 = 35 ∧ i ≤ 34) → va_P (dC, dI) vwCl [(y, .inr (10, [.ref yk, .ref yo, .ref yz, .ref yd, .ref yb, .ref ys, .ref yu, .int (nI i), .int 0, .ref y1, .ref y2, .ref y3, .ref y4, .ref y5, .ref y6, .ref y7])), (yk, .inl (kI, 3040, .inl e1)), (yo, .inl (kI, 3040, .inl e2)), (yz, .inl (kI, 3040, .inl e3)), (yd, .inl (kZ, 3040, .inl e4)), (yb, .inl (kI, 3040, .inl e5)), (ys, .inl (kI, 3040, .inl e6)), (yu, .inl (kI, 3040, .inl e7))] H → va_D A [(y, .inr (10, [.ref yk, .ref yo, .ref yz, .ref yd, .ref yb, .ref ys, .ref yu, .int (nI i), .int 0, .ref y1, .ref y2, .ref y3, .ref y4, .ref y5, .ref y6, .ref y7])), (yk, .inl (kI, 3040, .inl e1)), (yo, .inl (kI, 3040, .inl e2)), (yz, .inl (kI, 3040, .inl e3)), (yd, .inl (kZ, 3040, .inl e4)), (yb, .inl (kI, 3040, .inl e5)), (ys, .inl (kI, 3040, .inl e6)), (yu, .inl (kI, 3040, .inl e7))] → va_S A s.heap H locs → lv_has ls 2 [(1, .int (nI i)), (0, .ref y)] → W p l e (headSpec wp_c_tclear ({ frames := 1, cells := 0, slots := 0, locals := 23 })).room s m ([.ref y] : List Value).toArray below meth c H locs 0 0 Q1 (F0 m 12 ls []) := by
    intro n1
    induction n1 with
    | zero => intro i e1 e2 e3 e4 e5 e6 e7 H locs ls hb0; exact absurd hb0 (by omega)
    | succ n1 ih1 =>
      intro i e1 e2 e3 e4 e5 e6 e7 H locs ls hb0 hP hD hS hl
      refine lv_iload_n hx hb dX10_clear_12 rfl (lv_at hl 0 rfl) ?_
      refine lv_bipush (v := 34) hx hb dX10_clear_13 (by decide) ?_
      refine lv_icmp_ge (tgt := 57) hx hb dX10_clear_15 (by decide) (fun hc => ?_) (fun hc => ?_)
      · refine lv_aload_n hx hb dX10_clear_57 rfl (lv_at hl 1 rfl) ?_
        refine va_get (D := (dC, dI)) (ci := 10) (v := .ref yk) (C := RX10) (T := TX10) (N := 16) hx hb hts in_c_tclear_X10 hown hK hP 0 rfl rfl 0 (by decide) (hts (.fieldLink RX10 9 "OwnedPlaces$Types" "kind" "[I") (wm_c_tclear 3 rfl)) (fun _ h9 => h9) rfl dX10_clear_58 ?_
        refine lv_iconst (v := 3) hx hb dX10_clear_61 (by decide) ?_
        refine lv_iconst (v := 1) hx hb dX10_clear_62 (by decide) ?_
        refine va_iast hx hb hK hP hD hS 1 0 rfl rfl (by unfold vp_in; decide) dX10_clear_63 (fun H locs hP hD hS => ?_)
        have hP : va_P (dC, dI) vwCl [(y, .inr (10, [.ref yk, .ref yo, .ref yz, .ref yd, .ref yb, .ref ys, .ref yu, .int (nI i), .int 0, .ref y1, .ref y2, .ref y3, .ref y4, .ref y5, .ref y6, .ref y7])), (yk, .inl (kI, 3040, .inl (upd e1 (3 : Int32).toNatClampNeg 1))), (yo, .inl (kI, 3040, .inl e2)), (yz, .inl (kI, 3040, .inl e3)), (yd, .inl (kZ, 3040, .inl e4)), (yb, .inl (kI, 3040, .inl e5)), (ys, .inl (kI, 3040, .inl e6)), (yu, .inl (kI, 3040, .inl e7))] H := hP
        have hD : va_D A [(y, .inr (10, [.ref yk, .ref yo, .ref yz, .ref yd, .ref yb, .ref ys, .ref yu, .int (nI i), .int 0, .ref y1, .ref y2, .ref y3, .ref y4, .ref y5, .ref y6, .ref y7])), (yk, .inl (kI, 3040, .inl (upd e1 (3 : Int32).toNatClampNeg 1))), (yo, .inl (kI, 3040, .inl e2)), (yz, .inl (kI, 3040, .inl e3)), (yd, .inl (kZ, 3040, .inl e4)), (yb, .inl (kI, 3040, .inl e5)), (ys, .inl (kI, 3040, .inl e6)), (yu, .inl (kI, 3040, .inl e7))] := hD
        obtain ⟨z1, ez1⟩ : ∃ zZ : Nat → Int32, zZ = upd e1 (3 : Int32).toNatClampNeg 1 := ⟨_, rfl⟩
        rw [← ez1] at hP hD
        refine lv_aload_n hx hb dX10_clear_64 rfl (lv_at hl 1 rfl) ?_
        refine va_get (D := (dC, dI)) (ci := 10) (v := .ref yd) (C := RX10) (T := TX10) (N := 16) hx hb hts in_c_tclear_X10 hown hK hP 0 rfl rfl 3 (by decide) (hts (.fieldLink RX10 21 "OwnedPlaces$Types" "drops" "[Z") (wm_c_tclear 4 rfl)) (fun _ h9 => h9) rfl dX10_clear_65 ?_
        refine lv_iconst (v := 3) hx hb dX10_clear_68 (by decide) ?_
        refine lv_iconst (v := 1) hx hb dX10_clear_69 (by decide) ?_
        refine va_zast hx hb hK hP hD hS 4 1 rfl rfl (by unfold vp_in; decide) dX10_clear_70 (fun H locs hP hD hS => ?_)
        have hP : va_P (dC, dI) vwCl [(y, .inr (10, [.ref yk, .ref yo, .ref yz, .ref yd, .ref yb, .ref ys, .ref yu, .int (nI i), .int 0, .ref y1, .ref y2, .ref y3, .ref y4, .ref y5, .ref y6, .ref y7])), (yk, .inl (kI, 3040, .inl z1)), (yo, .inl (kI, 3040, .inl e2)), (yz, .inl (kI, 3040, .inl e3)), (yd, .inl (kZ, 3040, .inl (upd e4 (3 : Int32).toNatClampNeg (vp_nar .boolean 1)))), (yb, .inl (kI, 3040, .inl e5)), (ys, .inl (kI, 3040, .inl e6)), (yu, .inl (kI, 3040, .inl e7))] H := hP
        have hD : va_D A [(y, .inr (10, [.ref yk, .ref yo, .ref yz, .ref yd, .ref yb, .ref ys, .ref yu, .int (nI i), .int 0, .ref y1, .ref y2, .ref y3, .ref y4, .ref y5, .ref y6, .ref y7])), (yk, .inl (kI, 3040, .inl z1)), (yo, .inl (kI, 3040, .inl e2)), (yz, .inl (kI, 3040, .inl e3)), (yd, .inl (kZ, 3040, .inl (upd e4 (3 : Int32).toNatClampNeg (vp_nar .boolean 1)))), (yb, .inl (kI, 3040, .inl e5)), (ys, .inl (kI, 3040, .inl e6)), (yu, .inl (kI, 3040, .inl e7))] := hD
        obtain ⟨z2, ez2⟩ : ∃ zZ : Nat → Int32, zZ = upd e4 (3 : Int32).toNatClampNeg (vp_nar .boolean 1) := ⟨_, rfl⟩
        rw [← ez2] at hP hD
        have hP9 := hP.sub (ws' := [(y, .inr (10, [.ref yk, .ref yo, .ref yz, .ref yd, .ref yb, .ref ys, .ref yu, .int (nI i), .int 0, .ref y1, .ref y2, .ref y3, .ref y4, .ref y5, .ref y6, .ref y7]))]) [0] rfl
        have hD9 := hD.sub (ws' := [(y, .inr (10, [.ref yk, .ref yo, .ref yz, .ref yd, .ref yb, .ref ys, .ref yu, .int (nI i), .int 0, .ref y1, .ref y2, .ref y3, .ref y4, .ref y5, .ref y6, .ref y7]))]) [0] (by decide) rfl
        have hK9 := hK.sub (tys' := []) [] rfl
        subst hQ1
        exact W.vret hx hb hr (fun tS ht hW => ⟨⟨(), rfl, trivial, nI i, by rw [ht]; exact hP9, va_K.moved hW.alike hK9, hD9⟩, hS.F ht⟩) hS.2.2 dX10_clear_71
      · have hi : i < 34 := by rcases Nat.lt_or_ge i 34 with q | q; exact q; exact absurd (nI_le (b := i) q (by omega)) hc
        refine lv_aload_n hx hb dX10_clear_18 rfl (lv_at hl 1 rfl) ?_
        refine lv_iconst (v := 0) hx hb dX10_clear_19 (by decide) ?_
        refine lv_iconst (v := 0) hx hb dX10_clear_20 (by decide) ?_
        have hPc := hP.sub (ws' := [(y, .inr (10, [.ref yk, .ref yo, .ref yz, .ref yd, .ref yb, .ref ys, .ref yu, .int (nI i), .int 0, .ref y1, .ref y2, .ref y3, .ref y4, .ref y5, .ref y6, .ref y7])), (yk, .inl (kI, 3040, .inl e1)), (yo, .inl (kI, 3040, .inl e2)), (yz, .inl (kI, 3040, .inl e3)), (yd, .inl (kZ, 3040, .inl e4)), (yb, .inl (kI, 3040, .inl e5)), (ys, .inl (kI, 3040, .inl e6)), (yu, .inl (kI, 3040, .inl e7))]) [0, 1, 2, 3, 4, 5, 6, 7] rfl
        have hDc := hD.sub (ws' := [(y, .inr (10, [.ref yk, .ref yo, .ref yz, .ref yd, .ref yb, .ref ys, .ref yu, .int (nI i), .int 0, .ref y1, .ref y2, .ref y3, .ref y4, .ref y5, .ref y6, .ref y7])), (yk, .inl (kI, 3040, .inl e1)), (yo, .inl (kI, 3040, .inl e2)), (yz, .inl (kI, 3040, .inl e3)), (yd, .inl (kZ, 3040, .inl e4)), (yb, .inl (kI, 3040, .inl e5)), (ys, .inl (kI, 3040, .inl e6)), (yu, .inl (kI, 3040, .inl e7))]) [0, 1, 2, 3, 4, 5, 6, 7] (by decide) rfl
        have hKc := hK.sub (tys' := [(kI, .int), (kZ, .boolean)]) [0, 1] rfl
        have hFc := va_free (wc := [(y, .inr (10, [.ref yk, .ref yo, .ref yz, .ref yd, .ref yb, .ref ys, .ref yu, .int (nI i), .int 0, .ref y1, .ref y2, .ref y3, .ref y4, .ref y5, .ref y6, .ref y7])), (yk, .inl (kI, 3040, .inl e1)), (yo, .inl (kI, 3040, .inl e2)), (yz, .inl (kI, 3040, .inl e3)), (yd, .inl (kZ, 3040, .inl e4)), (yb, .inl (kI, 3040, .inl e5)), (ys, .inl (kI, 3040, .inl e6)), (yu, .inl (kI, 3040, .inl e7))]) hD hS hA [0, 1, 2, 3, 4, 5, 6, 7] rfl
        refine va_calli (va_runV (As := [.int 0, .int 0]) (rest := []) ⟨hx, hb, hml, hown, hts⟩ (c_make l dC dI y yk yo yz yd yb ys yu y1 y2 y3 y4 y5 y6 y7 kI kZ e1 e2 e3 e4 e5 e6 e7 i H.size (by omega)) (cwV 2 hts g_c_tclear_c_make_21 rfl rfl rfl (by decide +kernel) ⟨Nat.le_of_ble_eq_true rfl, Nat.le_of_ble_eq_true rfl⟩) ⟨fun a U g mk q => by obtain ⟨q0, q1, qP, qK, qD⟩ := q; exact ⟨q0, q1, qP, va_K.moved (u := U) (U := U.calling g mk a) (Vm.Alike.refl U.vm) qK, qD⟩, va_recv hKc hPc (ci := 10) (q0 := 0) rfl rfl, fun U hU hW => ⟨rfl, by rw [hU], by rw [hU]; exact hPc, va_K.moved hW.alike hKc, hDc.weaken (fun _ _ _ _ => trivial)⟩⟩ rfl rfl hl.1 rfl (lv_room (Nat.le_of_ble_eq_true rfl)) dX10_clear_21 ⟨(show 0 + 0 ≤ 0 by omega), (show 0 + 0 ≤ 0 by omega)⟩) hS (fun q _ h => hFc q h) hFc (fun r_1 u tS H1 locs ht hvm hw hB hz1 hk1 hS => ?_)
        obtain ⟨g0, g1, g2, g3, g4, g5, g6, hP1, hK1, hD1⟩ := hB
        rw [ht] at hP1
        have hK1 := va_K.moved hvm.symm hK1
        obtain ⟨hP, hD⟩ := va_join (wr := []) (w1 := [(y, .inr (10, [.ref yk, .ref yo, .ref yz, .ref yd, .ref yb, .ref ys, .ref yu, .int (nI (i + 1)), .int 0, .ref y1, .ref y2, .ref y3, .ref y4, .ref y5, .ref y6, .ref y7])), (yk, .inl (kI, 3040, .inl g0)), (yo, .inl (kI, 3040, .inl g1)), (yz, .inl (kI, 3040, .inl g2)), (yd, .inl (kZ, 3040, .inl g3)), (yb, .inl (kI, 3040, .inl g4)), (ys, .inl (kI, 3040, .inl g5)), (yu, .inl (kI, 3040, .inl g6))]) hP hD [0, 1, 2, 3, 4, 5, 6, 7] [] rfl rfl (by decide) (by decide) hk1 hFc hP1 hD1
        have hK := hK.app hK1
        generalize H1 = H at hP hS ⊢
        have hP : va_P (dC, dI) vwCl [(y, .inr (10, [.ref yk, .ref yo, .ref yz, .ref yd, .ref yb, .ref ys, .ref yu, .int (nI (i + 1)), .int 0, .ref y1, .ref y2, .ref y3, .ref y4, .ref y5, .ref y6, .ref y7])), (yk, .inl (kI, 3040, .inl g0)), (yo, .inl (kI, 3040, .inl g1)), (yz, .inl (kI, 3040, .inl g2)), (yd, .inl (kZ, 3040, .inl g3)), (yb, .inl (kI, 3040, .inl g4)), (ys, .inl (kI, 3040, .inl g5)), (yu, .inl (kI, 3040, .inl g6))] H := hP
        have hD : va_D A [(y, .inr (10, [.ref yk, .ref yo, .ref yz, .ref yd, .ref yb, .ref ys, .ref yu, .int (nI (i + 1)), .int 0, .ref y1, .ref y2, .ref y3, .ref y4, .ref y5, .ref y6, .ref y7])), (yk, .inl (kI, 3040, .inl g0)), (yo, .inl (kI, 3040, .inl g1)), (yz, .inl (kI, 3040, .inl g2)), (yd, .inl (kZ, 3040, .inl g3)), (yb, .inl (kI, 3040, .inl g4)), (ys, .inl (kI, 3040, .inl g5)), (yu, .inl (kI, 3040, .inl g6))] := hD
        have hK : va_K (dC, dI) vwCl [(kI, .int), (kZ, .boolean), (kI, .int), (kZ, .boolean)] s := hK
        have hK := hK.sub (tys' := [(kI, .int), (kZ, .boolean)]) [0, 1] rfl
        have hP : va_P (dC, dI) vwCl [(y, .inr (10, [.ref yk, .ref yo, .ref yz, .ref yd, .ref yb, .ref ys, .ref yu, .int (nI (i + 1)), .int 0, .ref y1, .ref y2, .ref y3, .ref y4, .ref y5, .ref y6, .ref y7])), (yk, .inl (kI, 3040, .inl g0)), (yo, .inl (kI, 3040, .inl g1)), (yz, .inl (kI, 3040, .inl g2)), (yd, .inl (kZ, 3040, .inl g3)), (yb, .inl (kI, 3040, .inl g4)), (ys, .inl (kI, 3040, .inl g5)), (yu, .inl (kI, 3040, .inl g6))] H := hP
        have hD : va_D A [(y, .inr (10, [.ref yk, .ref yo, .ref yz, .ref yd, .ref yb, .ref ys, .ref yu, .int (nI (i + 1)), .int 0, .ref y1, .ref y2, .ref y3, .ref y4, .ref y5, .ref y6, .ref y7])), (yk, .inl (kI, 3040, .inl g0)), (yo, .inl (kI, 3040, .inl g1)), (yz, .inl (kI, 3040, .inl g2)), (yd, .inl (kZ, 3040, .inl g3)), (yb, .inl (kI, 3040, .inl g4)), (ys, .inl (kI, 3040, .inl g5)), (yu, .inl (kI, 3040, .inl g6))] := hD
        refine lv_pop hx hb dX10_clear_24 rfl ?_
        refine lv_aload_n hx hb dX10_clear_25 rfl (lv_at hl 1 rfl) ?_
        refine va_get (D := (dC, dI)) (ci := 10) (v := .ref yz) (C := RX10) (T := TX10) (N := 16) hx hb hts in_c_tclear_X10 hown hK hP 0 rfl rfl 2 (by decide) (hts (.fieldLink RX10 18 "OwnedPlaces$Types" "size" "[I") (wm_c_tclear 7 rfl)) (fun _ h9 => h9) rfl dX10_clear_26 ?_
        refine lv_iload_n hx hb dX10_clear_29 rfl (lv_at hl 0 rfl) ?_
        refine lv_iload_n hx hb dX10_clear_30 rfl (lv_at hl 0 rfl) ?_
        refine lv_iconst (v := 1) hx hb dX10_clear_31 (by decide) ?_
        refine lv_icmp_eq (tgt := 45) hx hb dX10_clear_32 (by decide) (fun h1 => ?_) (fun h1 => ?_)
        · refine lv_iconst (v := 1) hx hb dX10_clear_45 (by decide) ?_
          refine lv_goto (tgt := 50) hx hb dX10_clear_46 (by decide) ?_
          refine va_iast hx hb hK hP hD hS 3 0 rfl rfl (vp_in_nI (by omega) (by decide)) dX10_clear_50 (fun H locs hP hD hS => ?_)
          have hP : va_P (dC, dI) vwCl [(y, .inr (10, [.ref yk, .ref yo, .ref yz, .ref yd, .ref yb, .ref ys, .ref yu, .int (nI (i + 1)), .int 0, .ref y1, .ref y2, .ref y3, .ref y4, .ref y5, .ref y6, .ref y7])), (yk, .inl (kI, 3040, .inl g0)), (yo, .inl (kI, 3040, .inl g1)), (yz, .inl (kI, 3040, .inl (upd g2 (nI i : Int32).toNatClampNeg 1))), (yd, .inl (kZ, 3040, .inl g3)), (yb, .inl (kI, 3040, .inl g4)), (ys, .inl (kI, 3040, .inl g5)), (yu, .inl (kI, 3040, .inl g6))] H := hP
          have hD : va_D A [(y, .inr (10, [.ref yk, .ref yo, .ref yz, .ref yd, .ref yb, .ref ys, .ref yu, .int (nI (i + 1)), .int 0, .ref y1, .ref y2, .ref y3, .ref y4, .ref y5, .ref y6, .ref y7])), (yk, .inl (kI, 3040, .inl g0)), (yo, .inl (kI, 3040, .inl g1)), (yz, .inl (kI, 3040, .inl (upd g2 (nI i : Int32).toNatClampNeg 1))), (yd, .inl (kZ, 3040, .inl g3)), (yb, .inl (kI, 3040, .inl g4)), (ys, .inl (kI, 3040, .inl g5)), (yu, .inl (kI, 3040, .inl g6))] := hD
          obtain ⟨z3, ez3⟩ : ∃ zZ : Nat → Int32, zZ = upd g2 (nI i : Int32).toNatClampNeg 1 := ⟨_, rfl⟩
          rw [← ez3] at hP hD
          obtain ⟨x_2, ex_2⟩ : ∃ yY : Int32, yY = (nI i) + 1 := ⟨_, rfl⟩
          refine lv_iinc (v := x_2) (lv' := [(1, .int x_2), (0, .ref y)]) hx hb dX10_clear_51 hl (k := 0) rfl (by rw [ex_2]; rfl) (by decide) rfl (fun ls hl => ?_)
          obtain rfl : x_2 = nI (i + 1) := by rw [ex_2]; exact nI_1 i
          have hl : lv_has ls 2 [(1, .int (nI (i + 1))), (0, .ref y)] := hl
          refine lv_goto (tgt := 12) hx hb dX10_clear_54 (by decide) ?_
          exact ih1 (i + 1) g0 g1 z3 g3 g4 g5 g6 _ _ _ (by omega) (hP.sub [0, 1, 2, 3, 4, 5, 6, 7] rfl) (hD.sub [0, 1, 2, 3, 4, 5, 6, 7] (by decide) rfl) hS (lv_sub hl [0, 1] rfl)
        · refine lv_iload_n hx hb dX10_clear_35 rfl (lv_at hl 0 rfl) ?_
          refine lv_iconst (v := 2) hx hb dX10_clear_36 (by decide) ?_
          refine lv_icmp_eq (tgt := 45) hx hb dX10_clear_37 (by decide) (fun h2 => ?_) (fun h2 => ?_)
          · refine lv_iconst (v := 1) hx hb dX10_clear_45 (by decide) ?_
            refine lv_goto (tgt := 50) hx hb dX10_clear_46 (by decide) ?_
            refine va_iast hx hb hK hP hD hS 3 0 rfl rfl (vp_in_nI (by omega) (by decide)) dX10_clear_50 (fun H locs hP hD hS => ?_)
            have hP : va_P (dC, dI) vwCl [(y, .inr (10, [.ref yk, .ref yo, .ref yz, .ref yd, .ref yb, .ref ys, .ref yu, .int (nI (i + 1)), .int 0, .ref y1, .ref y2, .ref y3, .ref y4, .ref y5, .ref y6, .ref y7])), (yk, .inl (kI, 3040, .inl g0)), (yo, .inl (kI, 3040, .inl g1)), (yz, .inl (kI, 3040, .inl (upd g2 (nI i : Int32).toNatClampNeg 1))), (yd, .inl (kZ, 3040, .inl g3)), (yb, .inl (kI, 3040, .inl g4)), (ys, .inl (kI, 3040, .inl g5)), (yu, .inl (kI, 3040, .inl g6))] H := hP
            have hD : va_D A [(y, .inr (10, [.ref yk, .ref yo, .ref yz, .ref yd, .ref yb, .ref ys, .ref yu, .int (nI (i + 1)), .int 0, .ref y1, .ref y2, .ref y3, .ref y4, .ref y5, .ref y6, .ref y7])), (yk, .inl (kI, 3040, .inl g0)), (yo, .inl (kI, 3040, .inl g1)), (yz, .inl (kI, 3040, .inl (upd g2 (nI i : Int32).toNatClampNeg 1))), (yd, .inl (kZ, 3040, .inl g3)), (yb, .inl (kI, 3040, .inl g4)), (ys, .inl (kI, 3040, .inl g5)), (yu, .inl (kI, 3040, .inl g6))] := hD
            obtain ⟨z3, ez3⟩ : ∃ zZ : Nat → Int32, zZ = upd g2 (nI i : Int32).toNatClampNeg 1 := ⟨_, rfl⟩
            rw [← ez3] at hP hD
            obtain ⟨x_2, ex_2⟩ : ∃ yY : Int32, yY = (nI i) + 1 := ⟨_, rfl⟩
            refine lv_iinc (v := x_2) (lv' := [(1, .int x_2), (0, .ref y)]) hx hb dX10_clear_51 hl (k := 0) rfl (by rw [ex_2]; rfl) (by decide) rfl (fun ls hl => ?_)
            obtain rfl : x_2 = nI (i + 1) := by rw [ex_2]; exact nI_1 i
            have hl : lv_has ls 2 [(1, .int (nI (i + 1))), (0, .ref y)] := hl
            refine lv_goto (tgt := 12) hx hb dX10_clear_54 (by decide) ?_
            exact ih1 (i + 1) g0 g1 z3 g3 g4 g5 g6 _ _ _ (by omega) (hP.sub [0, 1, 2, 3, 4, 5, 6, 7] rfl) (hD.sub [0, 1, 2, 3, 4, 5, 6, 7] (by decide) rfl) hS (lv_sub hl [0, 1] rfl)
          · refine lv_iload_n hx hb dX10_clear_40 rfl (lv_at hl 0 rfl) ?_
            refine lv_iconst (v := 3) hx hb dX10_clear_41 (by decide) ?_
            refine lv_icmp_ne (tgt := 49) hx hb dX10_clear_42 (by decide) (fun h3 => ?_) (fun h3 => ?_)
            · refine lv_iconst (v := 0) hx hb dX10_clear_49 (by decide) ?_
              refine va_iast hx hb hK hP hD hS 3 0 rfl rfl (vp_in_nI (by omega) (by decide)) dX10_clear_50 (fun H locs hP hD hS => ?_)
              have hP : va_P (dC, dI) vwCl [(y, .inr (10, [.ref yk, .ref yo, .ref yz, .ref yd, .ref yb, .ref ys, .ref yu, .int (nI (i + 1)), .int 0, .ref y1, .ref y2, .ref y3, .ref y4, .ref y5, .ref y6, .ref y7])), (yk, .inl (kI, 3040, .inl g0)), (yo, .inl (kI, 3040, .inl g1)), (yz, .inl (kI, 3040, .inl (upd g2 (nI i : Int32).toNatClampNeg 0))), (yd, .inl (kZ, 3040, .inl g3)), (yb, .inl (kI, 3040, .inl g4)), (ys, .inl (kI, 3040, .inl g5)), (yu, .inl (kI, 3040, .inl g6))] H := hP
              have hD : va_D A [(y, .inr (10, [.ref yk, .ref yo, .ref yz, .ref yd, .ref yb, .ref ys, .ref yu, .int (nI (i + 1)), .int 0, .ref y1, .ref y2, .ref y3, .ref y4, .ref y5, .ref y6, .ref y7])), (yk, .inl (kI, 3040, .inl g0)), (yo, .inl (kI, 3040, .inl g1)), (yz, .inl (kI, 3040, .inl (upd g2 (nI i : Int32).toNatClampNeg 0))), (yd, .inl (kZ, 3040, .inl g3)), (yb, .inl (kI, 3040, .inl g4)), (ys, .inl (kI, 3040, .inl g5)), (yu, .inl (kI, 3040, .inl g6))] := hD
              obtain ⟨z3, ez3⟩ : ∃ zZ : Nat → Int32, zZ = upd g2 (nI i : Int32).toNatClampNeg 0 := ⟨_, rfl⟩
              rw [← ez3] at hP hD
              obtain ⟨x_2, ex_2⟩ : ∃ yY : Int32, yY = (nI i) + 1 := ⟨_, rfl⟩
              refine lv_iinc (v := x_2) (lv' := [(1, .int x_2), (0, .ref y)]) hx hb dX10_clear_51 hl (k := 0) rfl (by rw [ex_2]; rfl) (by decide) rfl (fun ls hl => ?_)
              obtain rfl : x_2 = nI (i + 1) := by rw [ex_2]; exact nI_1 i
              have hl : lv_has ls 2 [(1, .int (nI (i + 1))), (0, .ref y)] := hl
              refine lv_goto (tgt := 12) hx hb dX10_clear_54 (by decide) ?_
              exact ih1 (i + 1) g0 g1 z3 g3 g4 g5 g6 _ _ _ (by omega) (hP.sub [0, 1, 2, 3, 4, 5, 6, 7] rfl) (hD.sub [0, 1, 2, 3, 4, 5, 6, 7] (by decide) rfl) hS (lv_sub hl [0, 1] rfl)
            · refine lv_iconst (v := 1) hx hb dX10_clear_45 (by decide) ?_
              refine lv_goto (tgt := 50) hx hb dX10_clear_46 (by decide) ?_
              refine va_iast hx hb hK hP hD hS 3 0 rfl rfl (vp_in_nI (by omega) (by decide)) dX10_clear_50 (fun H locs hP hD hS => ?_)
              have hP : va_P (dC, dI) vwCl [(y, .inr (10, [.ref yk, .ref yo, .ref yz, .ref yd, .ref yb, .ref ys, .ref yu, .int (nI (i + 1)), .int 0, .ref y1, .ref y2, .ref y3, .ref y4, .ref y5, .ref y6, .ref y7])), (yk, .inl (kI, 3040, .inl g0)), (yo, .inl (kI, 3040, .inl g1)), (yz, .inl (kI, 3040, .inl (upd g2 (nI i : Int32).toNatClampNeg 1))), (yd, .inl (kZ, 3040, .inl g3)), (yb, .inl (kI, 3040, .inl g4)), (ys, .inl (kI, 3040, .inl g5)), (yu, .inl (kI, 3040, .inl g6))] H := hP
              have hD : va_D A [(y, .inr (10, [.ref yk, .ref yo, .ref yz, .ref yd, .ref yb, .ref ys, .ref yu, .int (nI (i + 1)), .int 0, .ref y1, .ref y2, .ref y3, .ref y4, .ref y5, .ref y6, .ref y7])), (yk, .inl (kI, 3040, .inl g0)), (yo, .inl (kI, 3040, .inl g1)), (yz, .inl (kI, 3040, .inl (upd g2 (nI i : Int32).toNatClampNeg 1))), (yd, .inl (kZ, 3040, .inl g3)), (yb, .inl (kI, 3040, .inl g4)), (ys, .inl (kI, 3040, .inl g5)), (yu, .inl (kI, 3040, .inl g6))] := hD
              obtain ⟨z3, ez3⟩ : ∃ zZ : Nat → Int32, zZ = upd g2 (nI i : Int32).toNatClampNeg 1 := ⟨_, rfl⟩
              rw [← ez3] at hP hD
              obtain ⟨x_2, ex_2⟩ : ∃ yY : Int32, yY = (nI i) + 1 := ⟨_, rfl⟩
              refine lv_iinc (v := x_2) (lv' := [(1, .int x_2), (0, .ref y)]) hx hb dX10_clear_51 hl (k := 0) rfl (by rw [ex_2]; rfl) (by decide) rfl (fun ls hl => ?_)
              obtain rfl : x_2 = nI (i + 1) := by rw [ex_2]; exact nI_1 i
              have hl : lv_has ls 2 [(1, .int (nI (i + 1))), (0, .ref y)] := hl
              refine lv_goto (tgt := 12) hx hb dX10_clear_54 (by decide) ?_
              exact ih1 (i + 1) g0 g1 z3 g3 g4 g5 g6 _ _ _ (by omega) (hP.sub [0, 1, 2, 3, 4, 5, 6, 7] rfl) (hD.sub [0, 1, 2, 3, 4, 5, 6, 7] (by decide) rfl) hS (lv_sub hl [0, 1] rfl)
  exact key1 35 0 (fun _ => 0) (fun _ => 0) (fun _ => 0) (fun _ => 0) (fun _ => 0) (fun _ => 0) (fun _ => 0) _ _ _ (by omega) (hP.sub [0, 1, 2, 3, 4, 5, 6, 7] rfl) (hD.sub [0, 1, 2, 3, 4, 5, 6, 7] (by decide) rfl) hS (lv_sub hl [0, 1] rfl)
def wf_c_measure : List Cond := [.code yX10_measure cX10_measure 3 none, .fieldLink RX10 55 "OwnedPlaces$Types" "shapes" "I"]
def wp_c_measure : List Cond := wf_c_measure ++ (wsX100 ++ [])
theorem in_c_measure_X10 : ∀ w ∈ wsX100, w ∈ wp_c_measure := fun w h => List.mem_append_right _ (List.mem_append_left _ h)
theorem wg_c_measure : wf_c_measure.all goodWord = true := by decide +kernel
theorem wm_c_measure (k : Nat) {w : Cond} (h : wp_c_measure[k]? = some w) : w ∈ wp_c_measure := List.mem_of_getElem? h
set_option maxHeartbeats 4000000 in
set_option maxRecDepth 100000 in
theorem c_measure (l : Launch) (dC : Nat → ClassId) (dI : Nat → Nat → Nat) (y yk yo yz yd yb ys yu y1 y2 y3 y4 y5 y6 y7 : Nat) (u : Int32) (sz : Nat) : Met l yX10_measure wp_c_measure ({ frames := 0, cells := 0, slots := 0, locals := 0 }) (va_Pc [.ref y] (fun U => U.heap.size = sz ∧ va_P (dC, dI) vwCl [(y, .inr (10, [.ref yk, .ref yo, .ref yz, .ref yd, .ref yb, .ref ys, .ref yu, .int u, .int 0, .ref y1, .ref y2, .ref y3, .ref y4, .ref y5, .ref y6, .ref y7]))] U.heap ∧ va_K (dC, dI) vwCl [] U ∧ va_D (fun _ => True) [(y, .inr (10, [.ref yk, .ref yo, .ref yz, .ref yd, .ref yb, .ref ys, .ref yu, .int u, .int 0, .ref y1, .ref y2, .ref y3, .ref y4, .ref y5, .ref y6, .ref y7]))])) (va_Qv (fun _ : Unit => True) (fun (_ : Unit) (tS : State) => va_P (dC, dI) vwCl [(y, .inr (10, [.ref yk, .ref yo, .ref yz, .ref yd, .ref yb, .ref ys, .ref yu, .int u, .int 0, .ref y1, .ref y2, .ref y3, .ref y4, .ref y5, .ref y6, .ref y7]))] tS.heap ∧ va_K (dC, dI) vwCl [] tS ∧ va_D (va_A [(y, .inr (10, [.ref yk, .ref yo, .ref yz, .ref yd, .ref yb, .ref ys, .ref yu, .int u, .int 0, .ref y1, .ref y2, .ref y3, .ref y4, .ref y5, .ref y6, .ref y7]))] sz) [(y, .inr (10, [.ref yk, .ref yo, .ref yz, .ref yd, .ref yb, .ref ys, .ref yu, .int u, .int 0, .ref y1, .ref y2, .ref y3, .ref y4, .ref y5, .ref y6, .ref y7]))]) (va_A [(y, .inr (10, [.ref yk, .ref yo, .ref yz, .ref yd, .ref yb, .ref ys, .ref yu, .int u, .int 0, .ref y1, .ref y2, .ref y3, .ref y4, .ref y5, .ref y6, .ref y7]))] sz)) 0 0 (va_A [(y, .inr (10, [.ref yk, .ref yo, .ref yz, .ref yd, .ref yb, .ref ys, .ref yu, .int u, .int 0, .ref y1, .ref y2, .ref y3, .ref y4, .ref y5, .ref y6, .ref y7]))] sz) := by
  refine Met.ofW (cc := cX10_measure) (maxL := 3) (ret := none) (by decide) rfl ?_
  intro p e s m args below meth c s₁ B hml hv
  obtain ⟨rfl, hsz, hP, hK, hD0⟩ := hv
  have hx := B.exec
  have hb := B.bytes
  have hr := B.returns
  have hts := atoms_spec (ws := wp_c_measure) B.pre
  have hown : s.vm.findClass RX10 = some m.cls := findClass_of_methodNamed B.named
  have hlocks := B.notSynchronized
  subst hsz
  have hD := hD0.self (sz := s.heap.size)
  generalize hAe : va_A [(y, .inr (10, [.ref yk, .ref yo, .ref yz, .ref yd, .ref yb, .ref ys, .ref yu, .int u, .int 0, .ref y1, .ref y2, .ref y3, .ref y4, .ref y5, .ref y6, .ref y7]))] s.heap.size = A at hD ⊢
  have hA : ∀ q : Nat, s.heap.size ≤ q → A q := fun q h => by rw [← hAe]; exact Or.inr h
  have hS : va_S A s.heap s.heap [] := va_S.rf
  have hP : va_P (dC, dI) vwCl [(y, .inr (10, [.ref yk, .ref yo, .ref yz, .ref yd, .ref yb, .ref ys, .ref yu, .int u, .int 0, .ref y1, .ref y2, .ref y3, .ref y4, .ref y5, .ref y6, .ref y7]))] s.heap := hP
  have hl := lv_entry ([.ref y]) (n := 3) (Nat.le_of_ble_eq_true rfl)
  rw [lg_entry_eq]
  generalize (lg_sl ([.ref y]) ++ List.replicate (3 - (lg_sl ([.ref y])).length) Slot.unset).toArray = ls at hl ⊢
  have hl : lv_has ls 3 [(0, .ref y)] := hl
  refine lv_iconst (v := 0) hx hb dX10_measure_0 (by decide) ?_
  refine lv_istore_n (lv' := [(1, .int 0), (0, .ref y)]) hx hb dX10_measure_1 rfl hl (by decide) rfl (fun ls hl => ?_)
  refine lv_iload_n hx hb dX10_measure_2 rfl (lv_at hl 0 rfl) ?_
  refine lv_aload_n hx hb dX10_measure_3 rfl (lv_at hl 1 rfl) ?_
  refine va_get (D := (dC, dI)) (ci := 10) (v := .int 0) (C := RX10) (T := TX10) (N := 16) hx hb hts in_c_measure_X10 hown hK hP 0 rfl rfl 8 (by decide) (hts (.fieldLink RX10 55 "OwnedPlaces$Types" "shapes" "I") (wm_c_measure 1 rfl)) (fun _ h9 => h9) rfl dX10_measure_4 ?_
  refine lv_icmp_ge (tgt := 48) hx hb dX10_measure_7 (by decide) (fun _ => ?_) (fun c_1 => absurd (by decide) c_1)
  have hP9 := hP.sub (ws' := [(y, .inr (10, [.ref yk, .ref yo, .ref yz, .ref yd, .ref yb, .ref ys, .ref yu, .int u, .int 0, .ref y1, .ref y2, .ref y3, .ref y4, .ref y5, .ref y6, .ref y7]))]) [0] rfl
  have hD9 := hD.sub (ws' := [(y, .inr (10, [.ref yk, .ref yo, .ref yz, .ref yd, .ref yb, .ref ys, .ref yu, .int u, .int 0, .ref y1, .ref y2, .ref y3, .ref y4, .ref y5, .ref y6, .ref y7]))]) [0] (by decide) rfl
  have hK9 := hK.sub (tys' := []) [] rfl
  exact W.vret hx hb hr (fun tS ht hW => ⟨⟨(), rfl, trivial, by rw [ht]; exact hP9, va_K.moved hW.alike hK9, hD9⟩, hS.F ht⟩) hS.2.2 dX10_measure_48
