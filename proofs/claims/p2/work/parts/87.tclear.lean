/-- the first t types of a table that is being cleared -/
def tyB (t : Nat) (gk gs gd gb gh gu : Nat → Int32) : Prop := ∀ j, j < t → gk j = 0 ∧ gs j = (if j = 1 ∨ j = 2 ∨ j = 3 then 1 else 0) ∧ gd j = 0 ∧ gb j = 0 ∧ gh j = 0 ∧ gu j = 0
/-- what is true of the table's rows at any time -/
def tyS (fo fs fb fh fu : Nat → Int32) : Prop := upI 3040 3039 fo ∧ upI 3040 17 fs ∧ upI 3040 3039 fb ∧ upI 3040 3039 fh ∧ upI 3040 3039 fu
theorem tyS_step {t : Nat} {fo fs fb fh fu : Nat → Int32} {z : Int32} (h : tyS fo fs fb fh fu) (hz : z = 0 ∨ z = 1) : tyS (upd fo t 0) (upd (upd fs t 1) t z) (upd fb t 0) (upd fh t 0) (upd fu t 0) :=
  ⟨upI_put h.1 ⟨0, by omega, rfl⟩, upI_put (upI_put h.2.1 ⟨1, by omega, rfl⟩) (hz.elim (fun q => ⟨0, by omega, q⟩) (fun q => ⟨1, by omega, q⟩)), upI_put h.2.2.1 ⟨0, by omega, rfl⟩, upI_put h.2.2.2.1 ⟨0, by omega, rfl⟩, upI_put h.2.2.2.2 ⟨0, by omega, rfl⟩⟩
theorem tyB_step {t : Nat} {fk fs fd fb fh fu : Nat → Int32} {z : Int32} (h : tyB t fk fs fd fb fh fu) (hz : z = (if t = 1 ∨ t = 2 ∨ t = 3 then 1 else 0)) : tyB (t + 1) (upd fk t 0) (upd (upd fs t 1) t z) (upd fd t 0) (upd fb t 0) (upd fh t 0) (upd fu t 0) := by
  intro j hj
  by_cases e : j = t
  · subst e; simp only [pk_us]; exact ⟨trivial, hz, trivial, trivial, trivial, trivial⟩
  · simp only [pk_un e]; exact h j (by omega)
def wf_c_tclear : List Cond := [.code yX10_clear cX10_clear 2 none, .fieldLink RX10 55 "OwnedPlaces$Types" "shapes" "I", .fieldLink RX10 59 "OwnedPlaces$Types" "total" "I", .fieldLink RX10 9 "OwnedPlaces$Types" "kind" "[I", .fieldLink RX10 21 "OwnedPlaces$Types" "drops" "[Z", .code yX10_make cX10_make 4 (some .int), .fieldLink RX10 15 "OwnedPlaces$Types" "of" "[I", .fieldLink RX10 18 "OwnedPlaces$Types" "size" "[I", .fieldLink RX10 25 "OwnedPlaces$Types" "boxes" "[I", .fieldLink RX10 28 "OwnedPlaces$Types" "shared" "[I", .fieldLink RX10 31 "OwnedPlaces$Types" "unique" "[I", .methodLink RX10 62 yX10_make, .instanceMethod yX10_make, .selects RX10 yX10_make yX10_make, .initialized RX10]
def wp_c_tclear : List Cond := wf_c_tclear ++ (wsX100 ++ [])
theorem in_c_tclear_X10 : ∀ w ∈ wsX100, w ∈ wp_c_tclear := fun w h => List.mem_append_right _ (List.mem_append_left _ h)
theorem wg_c_tclear : wf_c_tclear.all goodWord = true := by decide +kernel
theorem wm_c_tclear (k : Nat) {w : Cond} (h : wp_c_tclear[k]? = some w) : w ∈ wp_c_tclear := List.mem_of_getElem? h
set_option maxRecDepth 20000 in
theorem g_c_tclear_c_make_21 : GoodIn wp_c_tclear (wsV RX10 62 RX10 yX10_make wp_c_make) := goodIn_app (goodIn_f [.methodLink RX10 62 yX10_make, .instanceMethod yX10_make, .selects RX10 yX10_make yX10_make, .initialized RX10] [11, 12, 13, 14] rfl (by decide +kernel)) (goodIn_app (goodIn_f (wf_c_make) [5, 2, 3, 6, 7, 4, 8, 9, 10] rfl wg_c_make) (goodIn_app (goodIn_sub in_c_tclear_X10 gd_X10) (goodIn_n)))
set_option maxHeartbeats 4000000 in
set_option maxRecDepth 100000 in
theorem c_tclear (l : Launch) (dC : Nat → ClassId) (dI : Nat → Nat → Nat) (y y0 y1 y2 y3 y4 y5 y6 y7 y8 y9 y10 y11 y12 y13 : Nat) (zt zp : Int32) (kI kZ : ClassId) (fk fo fs fd fb fh fu : Nat → Int32) (sz : Nat) (hS0 : tyS fo fs fb fh fu) : Met l yX10_clear wp_c_tclear ({ frames := 1, cells := 0, slots := 0, locals := 23 }) (va_Pc [.ref y] (fun U => U.heap.size = sz ∧ va_P (dC, dI) vwCl [(y, .inr (10, [.ref y0, .ref y1, .ref y2, .ref y3, .ref y4, .ref y5, .ref y6, .int zt, .int zp, .ref y7, .ref y8, .ref y9, .ref y10, .ref y11, .ref y12, .ref y13])), (y0, .inl (kI, 3040, .inl fk)), (y1, .inl (kI, 3040, .inl fo)), (y2, .inl (kI, 3040, .inl fs)), (y3, .inl (kZ, 3040, .inl fd)), (y4, .inl (kI, 3040, .inl fb)), (y5, .inl (kI, 3040, .inl fh)), (y6, .inl (kI, 3040, .inl fu))] U.heap ∧ va_K (dC, dI) vwCl [(kI, .int), (kZ, .boolean)] U ∧ va_D (fun _ => True) [(y, .inr (10, [.ref y0, .ref y1, .ref y2, .ref y3, .ref y4, .ref y5, .ref y6, .int zt, .int zp, .ref y7, .ref y8, .ref y9, .ref y10, .ref y11, .ref y12, .ref y13])), (y0, .inl (kI, 3040, .inl fk)), (y1, .inl (kI, 3040, .inl fo)), (y2, .inl (kI, 3040, .inl fs)), (y3, .inl (kZ, 3040, .inl fd)), (y4, .inl (kI, 3040, .inl fb)), (y5, .inl (kI, 3040, .inl fh)), (y6, .inl (kI, 3040, .inl fu))])) (va_Qv (fun _ : Unit => True) (fun (_ : Unit) (tS : State) => ∃ (gk : Nat → Int32) (go : Nat → Int32) (gs : Nat → Int32) (gd : Nat → Int32) (gb : Nat → Int32) (gh : Nat → Int32) (gu : Nat → Int32) (k0 : Nat → Int32) (d0 : Nat → Int32), (tyB 34 k0 gs d0 gb gh gu) ∧ (gk = upd k0 3 1) ∧ (gd = upd d0 3 1) ∧ (tyS go gs gb gh gu) ∧ va_P (dC, dI) vwCl [(y, .inr (10, [.ref y0, .ref y1, .ref y2, .ref y3, .ref y4, .ref y5, .ref y6, .int 34, .int 0, .ref y7, .ref y8, .ref y9, .ref y10, .ref y11, .ref y12, .ref y13])), (y0, .inl (kI, 3040, .inl gk)), (y1, .inl (kI, 3040, .inl go)), (y2, .inl (kI, 3040, .inl gs)), (y3, .inl (kZ, 3040, .inl gd)), (y4, .inl (kI, 3040, .inl gb)), (y5, .inl (kI, 3040, .inl gh)), (y6, .inl (kI, 3040, .inl gu))] tS.heap ∧ va_K (dC, dI) vwCl [(kI, .int), (kZ, .boolean)] tS ∧ va_D (va_A [(y, .inr (10, [.ref y0, .ref y1, .ref y2, .ref y3, .ref y4, .ref y5, .ref y6, .int zt, .int zp, .ref y7, .ref y8, .ref y9, .ref y10, .ref y11, .ref y12, .ref y13])), (y0, .inl (kI, 3040, .inl fk)), (y1, .inl (kI, 3040, .inl fo)), (y2, .inl (kI, 3040, .inl fs)), (y3, .inl (kZ, 3040, .inl fd)), (y4, .inl (kI, 3040, .inl fb)), (y5, .inl (kI, 3040, .inl fh)), (y6, .inl (kI, 3040, .inl fu))] sz) [(y, .inr (10, [.ref y0, .ref y1, .ref y2, .ref y3, .ref y4, .ref y5, .ref y6, .int 34, .int 0, .ref y7, .ref y8, .ref y9, .ref y10, .ref y11, .ref y12, .ref y13])), (y0, .inl (kI, 3040, .inl gk)), (y1, .inl (kI, 3040, .inl go)), (y2, .inl (kI, 3040, .inl gs)), (y3, .inl (kZ, 3040, .inl gd)), (y4, .inl (kI, 3040, .inl gb)), (y5, .inl (kI, 3040, .inl gh)), (y6, .inl (kI, 3040, .inl gu))]) (va_A [(y, .inr (10, [.ref y0, .ref y1, .ref y2, .ref y3, .ref y4, .ref y5, .ref y6, .int zt, .int zp, .ref y7, .ref y8, .ref y9, .ref y10, .ref y11, .ref y12, .ref y13])), (y0, .inl (kI, 3040, .inl fk)), (y1, .inl (kI, 3040, .inl fo)), (y2, .inl (kI, 3040, .inl fs)), (y3, .inl (kZ, 3040, .inl fd)), (y4, .inl (kI, 3040, .inl fb)), (y5, .inl (kI, 3040, .inl fh)), (y6, .inl (kI, 3040, .inl fu))] sz)) 0 0 (va_A [(y, .inr (10, [.ref y0, .ref y1, .ref y2, .ref y3, .ref y4, .ref y5, .ref y6, .int zt, .int zp, .ref y7, .ref y8, .ref y9, .ref y10, .ref y11, .ref y12, .ref y13])), (y0, .inl (kI, 3040, .inl fk)), (y1, .inl (kI, 3040, .inl fo)), (y2, .inl (kI, 3040, .inl fs)), (y3, .inl (kZ, 3040, .inl fd)), (y4, .inl (kI, 3040, .inl fb)), (y5, .inl (kI, 3040, .inl fh)), (y6, .inl (kI, 3040, .inl fu))] sz) := by
  refine Met.ofW (cc := cX10_clear) (maxL := 2) (ret := none) (by decide) rfl ?_
  intro p e s m args below meth c s₁ B hml hv
  obtain ⟨rfl, hsz, hP, hK, hD0⟩ := hv
  have hx := B.exec
  have hb := B.bytes
  have hr := B.returns
  have hts := atoms_spec (ws := wp_c_tclear) B.pre
  have hown : s.vm.findClass RX10 = some m.cls := findClass_of_methodNamed B.named
  have hlocks := B.notSynchronized
  subst hsz
  have hD := hD0.self (sz := s.heap.size)
  generalize hAe : va_A [(y, .inr (10, [.ref y0, .ref y1, .ref y2, .ref y3, .ref y4, .ref y5, .ref y6, .int zt, .int zp, .ref y7, .ref y8, .ref y9, .ref y10, .ref y11, .ref y12, .ref y13])), (y0, .inl (kI, 3040, .inl fk)), (y1, .inl (kI, 3040, .inl fo)), (y2, .inl (kI, 3040, .inl fs)), (y3, .inl (kZ, 3040, .inl fd)), (y4, .inl (kI, 3040, .inl fb)), (y5, .inl (kI, 3040, .inl fh)), (y6, .inl (kI, 3040, .inl fu))] s.heap.size = A at hD ⊢
  have hA : ∀ q : Nat, s.heap.size ≤ q → A q := fun q h => by rw [← hAe]; exact Or.inr h
  have hS : va_S A s.heap s.heap [] := va_S.rf
  have hP : va_P (dC, dI) vwCl [(y, .inr (10, [.ref y0, .ref y1, .ref y2, .ref y3, .ref y4, .ref y5, .ref y6, .int zt, .int zp, .ref y7, .ref y8, .ref y9, .ref y10, .ref y11, .ref y12, .ref y13])), (y0, .inl (kI, 3040, .inl fk)), (y1, .inl (kI, 3040, .inl fo)), (y2, .inl (kI, 3040, .inl fs)), (y3, .inl (kZ, 3040, .inl fd)), (y4, .inl (kI, 3040, .inl fb)), (y5, .inl (kI, 3040, .inl fh)), (y6, .inl (kI, 3040, .inl fu))] s.heap := hP
  have hl := lv_entry ([.ref y]) (n := 2) (Nat.le_of_ble_eq_true rfl)
  rw [lg_entry_eq]
  generalize (lg_sl ([.ref y]) ++ List.replicate (2 - (lg_sl ([.ref y])).length) Slot.unset).toArray = ls at hl ⊢
  have hl : lv_has ls 2 [(0, .ref y)] := hl
  refine lv_aload_n hx hb dX10_clear_0 rfl (lv_at hl 0 rfl) ?_
  refine lv_iconst (v := 0) hx hb dX10_clear_1 (by decide) ?_
  refine va_put (D := (dC, dI)) (ci := 10) (v := .int 0) (ty := .int) (C := RX10) (T := TX10) (N := 16) hx hb hts in_c_tclear_X10 tyX10 tyX10_ok nmX10 hown hK hP hD hS 0 rfl rfl 8 (by decide) (hts (.fieldLink RX10 55 "OwnedPlaces$Types" "shapes" "I") (wm_c_tclear 1 rfl)) (fun _ h9 => h9) rfl (by decide +kernel) rfl rfl (Nat.le_of_ble_eq_true rfl) dX10_clear_2 (fun H locs hP hD hS => ?_)
  have hP : va_P (dC, dI) vwCl [(y, .inr (10, [.ref y0, .ref y1, .ref y2, .ref y3, .ref y4, .ref y5, .ref y6, .int zt, .int 0, .ref y7, .ref y8, .ref y9, .ref y10, .ref y11, .ref y12, .ref y13])), (y0, .inl (kI, 3040, .inl fk)), (y1, .inl (kI, 3040, .inl fo)), (y2, .inl (kI, 3040, .inl fs)), (y3, .inl (kZ, 3040, .inl fd)), (y4, .inl (kI, 3040, .inl fb)), (y5, .inl (kI, 3040, .inl fh)), (y6, .inl (kI, 3040, .inl fu))] H := hP
  have hD : va_D A [(y, .inr (10, [.ref y0, .ref y1, .ref y2, .ref y3, .ref y4, .ref y5, .ref y6, .int zt, .int 0, .ref y7, .ref y8, .ref y9, .ref y10, .ref y11, .ref y12, .ref y13])), (y0, .inl (kI, 3040, .inl fk)), (y1, .inl (kI, 3040, .inl fo)), (y2, .inl (kI, 3040, .inl fs)), (y3, .inl (kZ, 3040, .inl fd)), (y4, .inl (kI, 3040, .inl fb)), (y5, .inl (kI, 3040, .inl fh)), (y6, .inl (kI, 3040, .inl fu))] := hD
  refine lv_aload_n hx hb dX10_clear_5 rfl (lv_at hl 0 rfl) ?_
  refine lv_iconst (v := 0) hx hb dX10_clear_6 (by decide) ?_
  refine va_put (D := (dC, dI)) (ci := 10) (v := .int 0) (ty := .int) (C := RX10) (T := TX10) (N := 16) hx hb hts in_c_tclear_X10 tyX10 tyX10_ok nmX10 hown hK hP hD hS 0 rfl rfl 7 (by decide) (hts (.fieldLink RX10 59 "OwnedPlaces$Types" "total" "I") (wm_c_tclear 2 rfl)) (fun _ h9 => h9) rfl (by decide +kernel) rfl rfl (Nat.le_of_ble_eq_true rfl) dX10_clear_7 (fun H locs hP hD hS => ?_)
  have hP : va_P (dC, dI) vwCl [(y, .inr (10, [.ref y0, .ref y1, .ref y2, .ref y3, .ref y4, .ref y5, .ref y6, .int 0, .int 0, .ref y7, .ref y8, .ref y9, .ref y10, .ref y11, .ref y12, .ref y13])), (y0, .inl (kI, 3040, .inl fk)), (y1, .inl (kI, 3040, .inl fo)), (y2, .inl (kI, 3040, .inl fs)), (y3, .inl (kZ, 3040, .inl fd)), (y4, .inl (kI, 3040, .inl fb)), (y5, .inl (kI, 3040, .inl fh)), (y6, .inl (kI, 3040, .inl fu))] H := hP
  have hD : va_D A [(y, .inr (10, [.ref y0, .ref y1, .ref y2, .ref y3, .ref y4, .ref y5, .ref y6, .int 0, .int 0, .ref y7, .ref y8, .ref y9, .ref y10, .ref y11, .ref y12, .ref y13])), (y0, .inl (kI, 3040, .inl fk)), (y1, .inl (kI, 3040, .inl fo)), (y2, .inl (kI, 3040, .inl fs)), (y3, .inl (kZ, 3040, .inl fd)), (y4, .inl (kI, 3040, .inl fb)), (y5, .inl (kI, 3040, .inl fh)), (y6, .inl (kI, 3040, .inl fu))] := hD
  refine lv_iconst (v := 0) hx hb dX10_clear_10 (by decide) ?_
  refine lv_istore_n (lv' := [(1, .int 0), (0, .ref y)]) hx hb dX10_clear_11 rfl hl (by decide) rfl (fun ls hl => ?_)
  refine W_q (fun Q1 hQ1 => ?_)
  have key1 : ∀ (n1 : Nat) (t : Nat) (k1 o1 s1 d1 b1 h1 u1 : Nat → Int32) (H : Heap) (locs : List Loc) (ls : Array Slot), (t + n1 = 35 ∧ t ≤ 34) → (tyB t k1 s1 d1 b1 h1 u1) → (tyS o1 s1 b1 h1 u1) → va_P (dC, dI) vwCl [(y, .inr (10, [.ref y0, .ref y1, .ref y2, .ref y3, .ref y4, .ref y5, .ref y6, .int (nI t), .int 0, .ref y7, .ref y8, .ref y9, .ref y10, .ref y11, .ref y12, .ref y13])), (y0, .inl (kI, 3040, .inl k1)), (y1, .inl (kI, 3040, .inl o1)), (y2, .inl (kI, 3040, .inl s1)), (y3, .inl (kZ, 3040, .inl d1)), (y4, .inl (kI, 3040, .inl b1)), (y5, .inl (kI, 3040, .inl h1)), (y6, .inl (kI, 3040, .inl u1))] H → va_D A [(y, .inr (10, [.ref y0, .ref y1, .ref y2, .ref y3, .ref y4, .ref y5, .ref y6, .int (nI t), .int 0, .ref y7, .ref y8, .ref y9, .ref y10, .ref y11, .ref y12, .ref y13])), (y0, .inl (kI, 3040, .inl k1)), (y1, .inl (kI, 3040, .inl o1)), (y2, .inl (kI, 3040, .inl s1)), (y3, .inl (kZ, 3040, .inl d1)), (y4, .inl (kI, 3040, .inl b1)), (y5, .inl (kI, 3040, .inl h1)), (y6, .inl (kI, 3040, .inl u1))] → va_S A s.heap H locs → lv_has ls 2 [(1, .int (nI t)), (0, .ref y)] → W p l e (headSpec wp_c_tclear ({ frames := 1, cells := 0, slots := 0, locals := 23 })).room s m ([.ref y] : List Value).toArray below meth c H locs 0 0 Q1 (F0 m 12 ls []) := by
    intro n1
    induction n1 with
    | zero => intro t k1 o1 s1 d1 b1 h1 u1 H locs ls hb0 hb1 hb2; exact absurd hb0 (by omega)
    | succ n1 ih1 =>
      intro t k1 o1 s1 d1 b1 h1 u1 H locs ls hb0 hb1 hb2 hP hD hS hl
      refine lv_iload_n hx hb dX10_clear_12 rfl (lv_at hl 0 rfl) ?_
      refine lv_bipush (v := 34) hx hb dX10_clear_13 (by decide) ?_
      refine lv_icmp_ge (tgt := 57) hx hb dX10_clear_15 (by decide) (fun hc => ?_) (fun hc => ?_)
      · obtain rfl : t = 34 := by have := (nI_leI (a := 34) (b := t) (by decide) (by omega)).mp hc; omega
        refine lv_aload_n hx hb dX10_clear_57 rfl (lv_at hl 1 rfl) ?_
        refine va_get (D := (dC, dI)) (ci := 10) (v := .ref y0) (C := RX10) (T := TX10) (N := 16) hx hb hts in_c_tclear_X10 hown hK hP 0 rfl rfl 0 (by decide) (hts (.fieldLink RX10 9 "OwnedPlaces$Types" "kind" "[I") (wm_c_tclear 3 rfl)) (fun _ h9 => h9) rfl dX10_clear_58 ?_
        refine lv_iconst (v := 3) hx hb dX10_clear_61 (by decide) ?_
        refine lv_iconst (v := 1) hx hb dX10_clear_62 (by decide) ?_
        refine va_iast hx hb hK hP hD hS 1 0 rfl rfl (by unfold vp_in; decide) dX10_clear_63 (fun H locs hP hD hS => ?_)
        have hP : va_P (dC, dI) vwCl [(y, .inr (10, [.ref y0, .ref y1, .ref y2, .ref y3, .ref y4, .ref y5, .ref y6, .int 34, .int 0, .ref y7, .ref y8, .ref y9, .ref y10, .ref y11, .ref y12, .ref y13])), (y0, .inl (kI, 3040, .inl (upd k1 (3 : Int32).toNatClampNeg 1))), (y1, .inl (kI, 3040, .inl o1)), (y2, .inl (kI, 3040, .inl s1)), (y3, .inl (kZ, 3040, .inl d1)), (y4, .inl (kI, 3040, .inl b1)), (y5, .inl (kI, 3040, .inl h1)), (y6, .inl (kI, 3040, .inl u1))] H := hP
        have hD : va_D A [(y, .inr (10, [.ref y0, .ref y1, .ref y2, .ref y3, .ref y4, .ref y5, .ref y6, .int 34, .int 0, .ref y7, .ref y8, .ref y9, .ref y10, .ref y11, .ref y12, .ref y13])), (y0, .inl (kI, 3040, .inl (upd k1 (3 : Int32).toNatClampNeg 1))), (y1, .inl (kI, 3040, .inl o1)), (y2, .inl (kI, 3040, .inl s1)), (y3, .inl (kZ, 3040, .inl d1)), (y4, .inl (kI, 3040, .inl b1)), (y5, .inl (kI, 3040, .inl h1)), (y6, .inl (kI, 3040, .inl u1))] := hD
        obtain ⟨k8, ek8⟩ : ∃ zZ : Nat → Int32, zZ = upd k1 (3 : Int32).toNatClampNeg 1 := ⟨_, rfl⟩
        rw [← ek8] at hP hD
        refine lv_aload_n hx hb dX10_clear_64 rfl (lv_at hl 1 rfl) ?_
        refine va_get (D := (dC, dI)) (ci := 10) (v := .ref y3) (C := RX10) (T := TX10) (N := 16) hx hb hts in_c_tclear_X10 hown hK hP 0 rfl rfl 3 (by decide) (hts (.fieldLink RX10 21 "OwnedPlaces$Types" "drops" "[Z") (wm_c_tclear 4 rfl)) (fun _ h9 => h9) rfl dX10_clear_65 ?_
        refine lv_iconst (v := 3) hx hb dX10_clear_68 (by decide) ?_
        refine lv_iconst (v := 1) hx hb dX10_clear_69 (by decide) ?_
        refine va_zast hx hb hK hP hD hS 4 1 rfl rfl (by unfold vp_in; decide) dX10_clear_70 (fun H locs hP hD hS => ?_)
        have hP : va_P (dC, dI) vwCl [(y, .inr (10, [.ref y0, .ref y1, .ref y2, .ref y3, .ref y4, .ref y5, .ref y6, .int 34, .int 0, .ref y7, .ref y8, .ref y9, .ref y10, .ref y11, .ref y12, .ref y13])), (y0, .inl (kI, 3040, .inl k8)), (y1, .inl (kI, 3040, .inl o1)), (y2, .inl (kI, 3040, .inl s1)), (y3, .inl (kZ, 3040, .inl (upd d1 (3 : Int32).toNatClampNeg (vp_nar .boolean 1)))), (y4, .inl (kI, 3040, .inl b1)), (y5, .inl (kI, 3040, .inl h1)), (y6, .inl (kI, 3040, .inl u1))] H := hP
        have hD : va_D A [(y, .inr (10, [.ref y0, .ref y1, .ref y2, .ref y3, .ref y4, .ref y5, .ref y6, .int 34, .int 0, .ref y7, .ref y8, .ref y9, .ref y10, .ref y11, .ref y12, .ref y13])), (y0, .inl (kI, 3040, .inl k8)), (y1, .inl (kI, 3040, .inl o1)), (y2, .inl (kI, 3040, .inl s1)), (y3, .inl (kZ, 3040, .inl (upd d1 (3 : Int32).toNatClampNeg (vp_nar .boolean 1)))), (y4, .inl (kI, 3040, .inl b1)), (y5, .inl (kI, 3040, .inl h1)), (y6, .inl (kI, 3040, .inl u1))] := hD
        obtain ⟨d8, ed8⟩ : ∃ zZ : Nat → Int32, zZ = upd d1 (3 : Int32).toNatClampNeg (vp_nar .boolean 1) := ⟨_, rfl⟩
        rw [← ed8] at hP hD
        have hP9 := hP.sub (ws' := [(y, .inr (10, [.ref y0, .ref y1, .ref y2, .ref y3, .ref y4, .ref y5, .ref y6, .int 34, .int 0, .ref y7, .ref y8, .ref y9, .ref y10, .ref y11, .ref y12, .ref y13])), (y0, .inl (kI, 3040, .inl k8)), (y1, .inl (kI, 3040, .inl o1)), (y2, .inl (kI, 3040, .inl s1)), (y3, .inl (kZ, 3040, .inl d8)), (y4, .inl (kI, 3040, .inl b1)), (y5, .inl (kI, 3040, .inl h1)), (y6, .inl (kI, 3040, .inl u1))]) [0, 1, 2, 3, 4, 5, 6, 7] rfl
        have hD9 := hD.sub (ws' := [(y, .inr (10, [.ref y0, .ref y1, .ref y2, .ref y3, .ref y4, .ref y5, .ref y6, .int 34, .int 0, .ref y7, .ref y8, .ref y9, .ref y10, .ref y11, .ref y12, .ref y13])), (y0, .inl (kI, 3040, .inl k8)), (y1, .inl (kI, 3040, .inl o1)), (y2, .inl (kI, 3040, .inl s1)), (y3, .inl (kZ, 3040, .inl d8)), (y4, .inl (kI, 3040, .inl b1)), (y5, .inl (kI, 3040, .inl h1)), (y6, .inl (kI, 3040, .inl u1))]) [0, 1, 2, 3, 4, 5, 6, 7] (by decide) rfl
        have hK9 := hK.sub (tys' := [(kI, .int), (kZ, .boolean)]) [0, 1] rfl
        subst hQ1
        exact W.vret hx hb hr (fun tS ht hW => ⟨⟨(), rfl, trivial, k8, o1, s1, d8, b1, h1, u1, k1, d1, hb1, ek8, ed8, hb2, by rw [ht]; exact hP9, va_K.moved hW.alike hK9, hD9⟩, hS.F ht⟩) hS.2.2 dX10_clear_71
      · have ht : t < 34 := by rcases Nat.lt_or_ge t 34 with z9 | z9; exact z9; exact absurd (nI_le (a := 34) z9 (by omega)) hc
        refine lv_aload_n hx hb dX10_clear_18 rfl (lv_at hl 1 rfl) ?_
        refine lv_iconst (v := 0) hx hb dX10_clear_19 (by decide) ?_
        refine lv_iconst (v := 0) hx hb dX10_clear_20 (by decide) ?_
        have hPc := hP.sub (ws' := [(y, .inr (10, [.ref y0, .ref y1, .ref y2, .ref y3, .ref y4, .ref y5, .ref y6, .int (nI t), .int (nI 0), .ref y7, .ref y8, .ref y9, .ref y10, .ref y11, .ref y12, .ref y13])), (y0, .inl (kI, 3040, .inl k1)), (y1, .inl (kI, 3040, .inl o1)), (y2, .inl (kI, 3040, .inl s1)), (y3, .inl (kZ, 3040, .inl d1)), (y4, .inl (kI, 3040, .inl b1)), (y5, .inl (kI, 3040, .inl h1)), (y6, .inl (kI, 3040, .inl u1))]) [0, 1, 2, 3, 4, 5, 6, 7] rfl
        have hDc := hD.sub (ws' := [(y, .inr (10, [.ref y0, .ref y1, .ref y2, .ref y3, .ref y4, .ref y5, .ref y6, .int (nI t), .int (nI 0), .ref y7, .ref y8, .ref y9, .ref y10, .ref y11, .ref y12, .ref y13])), (y0, .inl (kI, 3040, .inl k1)), (y1, .inl (kI, 3040, .inl o1)), (y2, .inl (kI, 3040, .inl s1)), (y3, .inl (kZ, 3040, .inl d1)), (y4, .inl (kI, 3040, .inl b1)), (y5, .inl (kI, 3040, .inl h1)), (y6, .inl (kI, 3040, .inl u1))]) [0, 1, 2, 3, 4, 5, 6, 7] (by decide) rfl
        have hKc := hK.sub (tys' := [(kI, .int), (kZ, .boolean)]) [0, 1] rfl
        have hFc := va_free (wc := [(y, .inr (10, [.ref y0, .ref y1, .ref y2, .ref y3, .ref y4, .ref y5, .ref y6, .int (nI t), .int (nI 0), .ref y7, .ref y8, .ref y9, .ref y10, .ref y11, .ref y12, .ref y13])), (y0, .inl (kI, 3040, .inl k1)), (y1, .inl (kI, 3040, .inl o1)), (y2, .inl (kI, 3040, .inl s1)), (y3, .inl (kZ, 3040, .inl d1)), (y4, .inl (kI, 3040, .inl b1)), (y5, .inl (kI, 3040, .inl h1)), (y6, .inl (kI, 3040, .inl u1))]) hD hS hA [0, 1, 2, 3, 4, 5, 6, 7] rfl
        refine va_calli (va_runV (As := [.int 0, .int 0]) (rest := []) ⟨hx, hb, hml, hown, hts⟩ (c_make l dC dI y y0 y1 y2 y3 y4 y5 y6 y7 y8 y9 y10 y11 y12 y13 t 0 kI kZ k1 o1 s1 d1 b1 h1 u1 0 0 H.size (by omega)) (cwV 2 hts g_c_tclear_c_make_21 rfl rfl rfl (by decide +kernel) ⟨Nat.le_of_ble_eq_true rfl, Nat.le_of_ble_eq_true rfl⟩) ⟨fun a U g mk q => by obtain ⟨q0, q1, qP, qK, qD⟩ := q; exact ⟨q0, q1, qP, va_K.moved (u := U) (U := U.calling g mk a) (Vm.Alike.refl U.vm) qK, qD⟩, va_recv hKc hPc (ci := 10) (q0 := 0) rfl rfl, fun U hU hW => ⟨rfl, by rw [hU], by rw [hU]; exact hPc, va_K.moved hW.alike hKc, hDc.weaken (fun _ _ _ _ => trivial)⟩⟩ rfl rfl hl.1 rfl (lv_room (Nat.le_of_ble_eq_true rfl)) dX10_clear_21 ⟨(show 0 + 0 ≤ 0 by omega), (show 0 + 0 ≤ 0 by omega)⟩) hS (fun q _ h => hFc q h) hFc (fun r_1 u_2 tS H1 locs ht hvm hw hB hz1 hk1 hS => ?_)
        obtain ⟨yt9, k9, o9, s9, d9, b9, h9, u9, hf2_0, hP1, hK1, hD1⟩ := hB
        rw [ht] at hP1
        have hK1 := va_K.moved hvm.symm hK1
        obtain ⟨hP, hD⟩ := va_join (wr := []) (w1 := [(y, .inr (10, [.ref y0, .ref y1, .ref y2, .ref y3, .ref y4, .ref y5, .ref y6, .int (nI yt9), .int (nI 0), .ref y7, .ref y8, .ref y9, .ref y10, .ref y11, .ref y12, .ref y13])), (y0, .inl (kI, 3040, .inl k9)), (y1, .inl (kI, 3040, .inl o9)), (y2, .inl (kI, 3040, .inl s9)), (y3, .inl (kZ, 3040, .inl d9)), (y4, .inl (kI, 3040, .inl b9)), (y5, .inl (kI, 3040, .inl h9)), (y6, .inl (kI, 3040, .inl u9))]) hP hD [0, 1, 2, 3, 4, 5, 6, 7] [] rfl rfl (by decide) (by decide) hk1 hFc hP1 hD1
        have hK := hK.app hK1
        generalize H1 = H at hP hS ⊢
        have hP : va_P (dC, dI) vwCl [(y, .inr (10, [.ref y0, .ref y1, .ref y2, .ref y3, .ref y4, .ref y5, .ref y6, .int (nI yt9), .int (nI 0), .ref y7, .ref y8, .ref y9, .ref y10, .ref y11, .ref y12, .ref y13])), (y0, .inl (kI, 3040, .inl k9)), (y1, .inl (kI, 3040, .inl o9)), (y2, .inl (kI, 3040, .inl s9)), (y3, .inl (kZ, 3040, .inl d9)), (y4, .inl (kI, 3040, .inl b9)), (y5, .inl (kI, 3040, .inl h9)), (y6, .inl (kI, 3040, .inl u9))] H := hP
        have hD : va_D A [(y, .inr (10, [.ref y0, .ref y1, .ref y2, .ref y3, .ref y4, .ref y5, .ref y6, .int (nI yt9), .int (nI 0), .ref y7, .ref y8, .ref y9, .ref y10, .ref y11, .ref y12, .ref y13])), (y0, .inl (kI, 3040, .inl k9)), (y1, .inl (kI, 3040, .inl o9)), (y2, .inl (kI, 3040, .inl s9)), (y3, .inl (kZ, 3040, .inl d9)), (y4, .inl (kI, 3040, .inl b9)), (y5, .inl (kI, 3040, .inl h9)), (y6, .inl (kI, 3040, .inl u9))] := hD
        have hK : va_K (dC, dI) vwCl [(kI, .int), (kZ, .boolean), (kI, .int), (kZ, .boolean)] s := hK
        have hK := hK.sub (tys' := [(kI, .int), (kZ, .boolean)]) [0, 1] rfl
        have hP : va_P (dC, dI) vwCl [(y, .inr (10, [.ref y0, .ref y1, .ref y2, .ref y3, .ref y4, .ref y5, .ref y6, .int (nI yt9), .int (nI 0), .ref y7, .ref y8, .ref y9, .ref y10, .ref y11, .ref y12, .ref y13])), (y0, .inl (kI, 3040, .inl k9)), (y1, .inl (kI, 3040, .inl o9)), (y2, .inl (kI, 3040, .inl s9)), (y3, .inl (kZ, 3040, .inl d9)), (y4, .inl (kI, 3040, .inl b9)), (y5, .inl (kI, 3040, .inl h9)), (y6, .inl (kI, 3040, .inl u9))] H := hP
        have hD : va_D A [(y, .inr (10, [.ref y0, .ref y1, .ref y2, .ref y3, .ref y4, .ref y5, .ref y6, .int (nI yt9), .int (nI 0), .ref y7, .ref y8, .ref y9, .ref y10, .ref y11, .ref y12, .ref y13])), (y0, .inl (kI, 3040, .inl k9)), (y1, .inl (kI, 3040, .inl o9)), (y2, .inl (kI, 3040, .inl s9)), (y3, .inl (kZ, 3040, .inl d9)), (y4, .inl (kI, 3040, .inl b9)), (y5, .inl (kI, 3040, .inl h9)), (y6, .inl (kI, 3040, .inl u9))] := hD
        obtain ⟨-, rfl, -, rfl, rfl, rfl, rfl, rfl, rfl, rfl⟩ : yt9 < 4000 ∧ yt9 = t + 1 ∧ True ∧ k9 = upd k1 t 0 ∧ o9 = upd o1 t 0 ∧ s9 = upd s1 t 1 ∧ d9 = upd d1 t 0 ∧ b9 = upd b1 t 0 ∧ h9 = upd h1 t 0 ∧ u9 = upd u1 t 0 := by rcases hf2_0 with q | q; obtain ⟨q1, q2, q3, q4, q5, q6, q7, q8, q9, q10⟩ := q; exact ⟨by omega, q2, trivial, q4, q5, q6, q7.trans (by rw [if_neg (by decide)]), q8, q9, q10⟩; obtain ⟨q1, -⟩ := q; omega
        refine lv_pop hx hb dX10_clear_24 rfl ?_
        refine lv_aload_n hx hb dX10_clear_25 rfl (lv_at hl 1 rfl) ?_
        refine va_get (D := (dC, dI)) (ci := 10) (v := .ref y2) (C := RX10) (T := TX10) (N := 16) hx hb hts in_c_tclear_X10 hown hK hP 0 rfl rfl 2 (by decide) (hts (.fieldLink RX10 18 "OwnedPlaces$Types" "size" "[I") (wm_c_tclear 7 rfl)) (fun _ h9 => h9) rfl dX10_clear_26 ?_
        refine lv_iload_n hx hb dX10_clear_29 rfl (lv_at hl 0 rfl) ?_
        refine lv_iload_n hx hb dX10_clear_30 rfl (lv_at hl 0 rfl) ?_
        refine lv_iconst (v := 1) hx hb dX10_clear_31 (by decide) ?_
        refine lv_icmp_eq (tgt := 45) hx hb dX10_clear_32 (by decide) (fun h1c => ?_) (fun h1c => ?_)
        · refine lv_iconst (v := 1) hx hb dX10_clear_45 (by decide) ?_
          refine lv_goto (tgt := 50) hx hb dX10_clear_46 (by decide) ?_
          refine va_iast hx hb hK hP hD hS 3 0 rfl rfl (vp_in_nI (by omega) (by decide)) dX10_clear_50 (fun H locs hP hD hS => ?_)
          have hP : va_P (dC, dI) vwCl [(y, .inr (10, [.ref y0, .ref y1, .ref y2, .ref y3, .ref y4, .ref y5, .ref y6, .int (nI (t + 1)), .int (nI 0), .ref y7, .ref y8, .ref y9, .ref y10, .ref y11, .ref y12, .ref y13])), (y0, .inl (kI, 3040, .inl (upd k1 t 0))), (y1, .inl (kI, 3040, .inl (upd o1 t 0))), (y2, .inl (kI, 3040, .inl (upd (upd s1 t 1) (nI t : Int32).toNatClampNeg 1))), (y3, .inl (kZ, 3040, .inl (upd d1 t 0))), (y4, .inl (kI, 3040, .inl (upd b1 t 0))), (y5, .inl (kI, 3040, .inl (upd h1 t 0))), (y6, .inl (kI, 3040, .inl (upd u1 t 0)))] H := hP
          have hD : va_D A [(y, .inr (10, [.ref y0, .ref y1, .ref y2, .ref y3, .ref y4, .ref y5, .ref y6, .int (nI (t + 1)), .int (nI 0), .ref y7, .ref y8, .ref y9, .ref y10, .ref y11, .ref y12, .ref y13])), (y0, .inl (kI, 3040, .inl (upd k1 t 0))), (y1, .inl (kI, 3040, .inl (upd o1 t 0))), (y2, .inl (kI, 3040, .inl (upd (upd s1 t 1) (nI t : Int32).toNatClampNeg 1))), (y3, .inl (kZ, 3040, .inl (upd d1 t 0))), (y4, .inl (kI, 3040, .inl (upd b1 t 0))), (y5, .inl (kI, 3040, .inl (upd h1 t 0))), (y6, .inl (kI, 3040, .inl (upd u1 t 0)))] := hD
          obtain ⟨s8, es8⟩ : ∃ zZ : Nat → Int32, zZ = upd (upd s1 t 1) (nI t : Int32).toNatClampNeg 1 := ⟨_, rfl⟩
          rw [← es8] at hP hD
          have es9 : s8 = upd (upd s1 t 1) t 1 := by rw [es8, nI_clamp (by omega)]
          subst es9
          obtain ⟨x_3, ex_3⟩ : ∃ yY : Int32, yY = (nI t) + 1 := ⟨_, rfl⟩
          refine lv_iinc (v := x_3) (lv' := [(1, .int x_3), (0, .ref y)]) hx hb dX10_clear_51 hl (k := 0) rfl (by rw [ex_3]; rfl) (by decide) rfl (fun ls hl => ?_)
          obtain rfl : x_3 = nI (t + 1) := by rw [ex_3]; exact nI_1 t
          have hl : lv_has ls 2 [(1, .int (nI (t + 1))), (0, .ref y)] := hl
          refine lv_goto (tgt := 12) hx hb dX10_clear_54 (by decide) ?_
          exact ih1 (t + 1) (upd k1 t 0) (upd o1 t 0) (upd (upd s1 t 1) t 1) (upd d1 t 0) (upd b1 t 0) (upd h1 t 0) (upd u1 t 0) _ _ _ (by omega) (tyB_step hb1 (by rw [if_pos (Or.inl ((nI_eq (a := t) (b := 1) (by omega) (by decide)).mp h1c))])) (tyS_step hb2 (by decide)) (hP.sub [0, 1, 2, 3, 4, 5, 6, 7] rfl) (hD.sub [0, 1, 2, 3, 4, 5, 6, 7] (by decide) rfl) hS (lv_sub hl [0, 1] rfl)
        · refine lv_iload_n hx hb dX10_clear_35 rfl (lv_at hl 0 rfl) ?_
          refine lv_iconst (v := 2) hx hb dX10_clear_36 (by decide) ?_
          refine lv_icmp_eq (tgt := 45) hx hb dX10_clear_37 (by decide) (fun h2c => ?_) (fun h2c => ?_)
          · refine lv_iconst (v := 1) hx hb dX10_clear_45 (by decide) ?_
            refine lv_goto (tgt := 50) hx hb dX10_clear_46 (by decide) ?_
            refine va_iast hx hb hK hP hD hS 3 0 rfl rfl (vp_in_nI (by omega) (by decide)) dX10_clear_50 (fun H locs hP hD hS => ?_)
            have hP : va_P (dC, dI) vwCl [(y, .inr (10, [.ref y0, .ref y1, .ref y2, .ref y3, .ref y4, .ref y5, .ref y6, .int (nI (t + 1)), .int (nI 0), .ref y7, .ref y8, .ref y9, .ref y10, .ref y11, .ref y12, .ref y13])), (y0, .inl (kI, 3040, .inl (upd k1 t 0))), (y1, .inl (kI, 3040, .inl (upd o1 t 0))), (y2, .inl (kI, 3040, .inl (upd (upd s1 t 1) (nI t : Int32).toNatClampNeg 1))), (y3, .inl (kZ, 3040, .inl (upd d1 t 0))), (y4, .inl (kI, 3040, .inl (upd b1 t 0))), (y5, .inl (kI, 3040, .inl (upd h1 t 0))), (y6, .inl (kI, 3040, .inl (upd u1 t 0)))] H := hP
            have hD : va_D A [(y, .inr (10, [.ref y0, .ref y1, .ref y2, .ref y3, .ref y4, .ref y5, .ref y6, .int (nI (t + 1)), .int (nI 0), .ref y7, .ref y8, .ref y9, .ref y10, .ref y11, .ref y12, .ref y13])), (y0, .inl (kI, 3040, .inl (upd k1 t 0))), (y1, .inl (kI, 3040, .inl (upd o1 t 0))), (y2, .inl (kI, 3040, .inl (upd (upd s1 t 1) (nI t : Int32).toNatClampNeg 1))), (y3, .inl (kZ, 3040, .inl (upd d1 t 0))), (y4, .inl (kI, 3040, .inl (upd b1 t 0))), (y5, .inl (kI, 3040, .inl (upd h1 t 0))), (y6, .inl (kI, 3040, .inl (upd u1 t 0)))] := hD
            obtain ⟨s8, es8⟩ : ∃ zZ : Nat → Int32, zZ = upd (upd s1 t 1) (nI t : Int32).toNatClampNeg 1 := ⟨_, rfl⟩
            rw [← es8] at hP hD
            have es9 : s8 = upd (upd s1 t 1) t 1 := by rw [es8, nI_clamp (by omega)]
            subst es9
            obtain ⟨x_3, ex_3⟩ : ∃ yY : Int32, yY = (nI t) + 1 := ⟨_, rfl⟩
            refine lv_iinc (v := x_3) (lv' := [(1, .int x_3), (0, .ref y)]) hx hb dX10_clear_51 hl (k := 0) rfl (by rw [ex_3]; rfl) (by decide) rfl (fun ls hl => ?_)
            obtain rfl : x_3 = nI (t + 1) := by rw [ex_3]; exact nI_1 t
            have hl : lv_has ls 2 [(1, .int (nI (t + 1))), (0, .ref y)] := hl
            refine lv_goto (tgt := 12) hx hb dX10_clear_54 (by decide) ?_
            exact ih1 (t + 1) (upd k1 t 0) (upd o1 t 0) (upd (upd s1 t 1) t 1) (upd d1 t 0) (upd b1 t 0) (upd h1 t 0) (upd u1 t 0) _ _ _ (by omega) (tyB_step hb1 (by rw [if_pos (Or.inr (Or.inl ((nI_eq (a := t) (b := 2) (by omega) (by decide)).mp h2c)))])) (tyS_step hb2 (by decide)) (hP.sub [0, 1, 2, 3, 4, 5, 6, 7] rfl) (hD.sub [0, 1, 2, 3, 4, 5, 6, 7] (by decide) rfl) hS (lv_sub hl [0, 1] rfl)
          · refine lv_iload_n hx hb dX10_clear_40 rfl (lv_at hl 0 rfl) ?_
            refine lv_iconst (v := 3) hx hb dX10_clear_41 (by decide) ?_
            refine lv_icmp_ne (tgt := 49) hx hb dX10_clear_42 (by decide) (fun h3c => ?_) (fun h3c => ?_)
            · refine lv_iconst (v := 0) hx hb dX10_clear_49 (by decide) ?_
              refine va_iast hx hb hK hP hD hS 3 0 rfl rfl (vp_in_nI (by omega) (by decide)) dX10_clear_50 (fun H locs hP hD hS => ?_)
              have hP : va_P (dC, dI) vwCl [(y, .inr (10, [.ref y0, .ref y1, .ref y2, .ref y3, .ref y4, .ref y5, .ref y6, .int (nI (t + 1)), .int (nI 0), .ref y7, .ref y8, .ref y9, .ref y10, .ref y11, .ref y12, .ref y13])), (y0, .inl (kI, 3040, .inl (upd k1 t 0))), (y1, .inl (kI, 3040, .inl (upd o1 t 0))), (y2, .inl (kI, 3040, .inl (upd (upd s1 t 1) (nI t : Int32).toNatClampNeg 0))), (y3, .inl (kZ, 3040, .inl (upd d1 t 0))), (y4, .inl (kI, 3040, .inl (upd b1 t 0))), (y5, .inl (kI, 3040, .inl (upd h1 t 0))), (y6, .inl (kI, 3040, .inl (upd u1 t 0)))] H := hP
              have hD : va_D A [(y, .inr (10, [.ref y0, .ref y1, .ref y2, .ref y3, .ref y4, .ref y5, .ref y6, .int (nI (t + 1)), .int (nI 0), .ref y7, .ref y8, .ref y9, .ref y10, .ref y11, .ref y12, .ref y13])), (y0, .inl (kI, 3040, .inl (upd k1 t 0))), (y1, .inl (kI, 3040, .inl (upd o1 t 0))), (y2, .inl (kI, 3040, .inl (upd (upd s1 t 1) (nI t : Int32).toNatClampNeg 0))), (y3, .inl (kZ, 3040, .inl (upd d1 t 0))), (y4, .inl (kI, 3040, .inl (upd b1 t 0))), (y5, .inl (kI, 3040, .inl (upd h1 t 0))), (y6, .inl (kI, 3040, .inl (upd u1 t 0)))] := hD
              obtain ⟨s8, es8⟩ : ∃ zZ : Nat → Int32, zZ = upd (upd s1 t 1) (nI t : Int32).toNatClampNeg 0 := ⟨_, rfl⟩
              rw [← es8] at hP hD
              have es9 : s8 = upd (upd s1 t 1) t 0 := by rw [es8, nI_clamp (by omega)]
              subst es9
              obtain ⟨x_3, ex_3⟩ : ∃ yY : Int32, yY = (nI t) + 1 := ⟨_, rfl⟩
              refine lv_iinc (v := x_3) (lv' := [(1, .int x_3), (0, .ref y)]) hx hb dX10_clear_51 hl (k := 0) rfl (by rw [ex_3]; rfl) (by decide) rfl (fun ls hl => ?_)
              obtain rfl : x_3 = nI (t + 1) := by rw [ex_3]; exact nI_1 t
              have hl : lv_has ls 2 [(1, .int (nI (t + 1))), (0, .ref y)] := hl
              refine lv_goto (tgt := 12) hx hb dX10_clear_54 (by decide) ?_
              exact ih1 (t + 1) (upd k1 t 0) (upd o1 t 0) (upd (upd s1 t 1) t 0) (upd d1 t 0) (upd b1 t 0) (upd h1 t 0) (upd u1 t 0) _ _ _ (by omega) (tyB_step hb1 (by rw [if_neg (fun q => q.elim (fun q9 => h1c (show nI t = 1 by rw [q9]; rfl)) (fun q => q.elim (fun q9 => h2c (show nI t = 2 by rw [q9]; rfl)) (fun q9 => h3c (show nI t = 3 by rw [q9]; rfl))))])) (tyS_step hb2 (by decide)) (hP.sub [0, 1, 2, 3, 4, 5, 6, 7] rfl) (hD.sub [0, 1, 2, 3, 4, 5, 6, 7] (by decide) rfl) hS (lv_sub hl [0, 1] rfl)
            · refine lv_iconst (v := 1) hx hb dX10_clear_45 (by decide) ?_
              refine lv_goto (tgt := 50) hx hb dX10_clear_46 (by decide) ?_
              refine va_iast hx hb hK hP hD hS 3 0 rfl rfl (vp_in_nI (by omega) (by decide)) dX10_clear_50 (fun H locs hP hD hS => ?_)
              have hP : va_P (dC, dI) vwCl [(y, .inr (10, [.ref y0, .ref y1, .ref y2, .ref y3, .ref y4, .ref y5, .ref y6, .int (nI (t + 1)), .int (nI 0), .ref y7, .ref y8, .ref y9, .ref y10, .ref y11, .ref y12, .ref y13])), (y0, .inl (kI, 3040, .inl (upd k1 t 0))), (y1, .inl (kI, 3040, .inl (upd o1 t 0))), (y2, .inl (kI, 3040, .inl (upd (upd s1 t 1) (nI t : Int32).toNatClampNeg 1))), (y3, .inl (kZ, 3040, .inl (upd d1 t 0))), (y4, .inl (kI, 3040, .inl (upd b1 t 0))), (y5, .inl (kI, 3040, .inl (upd h1 t 0))), (y6, .inl (kI, 3040, .inl (upd u1 t 0)))] H := hP
              have hD : va_D A [(y, .inr (10, [.ref y0, .ref y1, .ref y2, .ref y3, .ref y4, .ref y5, .ref y6, .int (nI (t + 1)), .int (nI 0), .ref y7, .ref y8, .ref y9, .ref y10, .ref y11, .ref y12, .ref y13])), (y0, .inl (kI, 3040, .inl (upd k1 t 0))), (y1, .inl (kI, 3040, .inl (upd o1 t 0))), (y2, .inl (kI, 3040, .inl (upd (upd s1 t 1) (nI t : Int32).toNatClampNeg 1))), (y3, .inl (kZ, 3040, .inl (upd d1 t 0))), (y4, .inl (kI, 3040, .inl (upd b1 t 0))), (y5, .inl (kI, 3040, .inl (upd h1 t 0))), (y6, .inl (kI, 3040, .inl (upd u1 t 0)))] := hD
              obtain ⟨s8, es8⟩ : ∃ zZ : Nat → Int32, zZ = upd (upd s1 t 1) (nI t : Int32).toNatClampNeg 1 := ⟨_, rfl⟩
              rw [← es8] at hP hD
              have es9 : s8 = upd (upd s1 t 1) t 1 := by rw [es8, nI_clamp (by omega)]
              subst es9
              obtain ⟨x_3, ex_3⟩ : ∃ yY : Int32, yY = (nI t) + 1 := ⟨_, rfl⟩
              refine lv_iinc (v := x_3) (lv' := [(1, .int x_3), (0, .ref y)]) hx hb dX10_clear_51 hl (k := 0) rfl (by rw [ex_3]; rfl) (by decide) rfl (fun ls hl => ?_)
              obtain rfl : x_3 = nI (t + 1) := by rw [ex_3]; exact nI_1 t
              have hl : lv_has ls 2 [(1, .int (nI (t + 1))), (0, .ref y)] := hl
              refine lv_goto (tgt := 12) hx hb dX10_clear_54 (by decide) ?_
              exact ih1 (t + 1) (upd k1 t 0) (upd o1 t 0) (upd (upd s1 t 1) t 1) (upd d1 t 0) (upd b1 t 0) (upd h1 t 0) (upd u1 t 0) _ _ _ (by omega) (tyB_step hb1 (by rw [if_pos (Or.inr (Or.inr ((nI_eq (a := t) (b := 3) (by omega) (by decide)).mp h3c)))])) (tyS_step hb2 (by decide)) (hP.sub [0, 1, 2, 3, 4, 5, 6, 7] rfl) (hD.sub [0, 1, 2, 3, 4, 5, 6, 7] (by decide) rfl) hS (lv_sub hl [0, 1] rfl)
  exact key1 35 0 fk fo fs fd fb fh fu _ _ _ (by omega) (fun j hj => absurd hj (by omega)) hS0 (hP.sub [0, 1, 2, 3, 4, 5, 6, 7] rfl) (hD.sub [0, 1, 2, 3, 4, 5, 6, 7] (by decide) rfl) hS (lv_sub hl [0, 1] rfl)
