def wf_c_begin : List Cond := [.code yX2_begin cX2_begin 2 none, .fieldLink RX2 37 "OwnedPlaces$Function" "token" "I", .fieldLink RX2 41 "OwnedPlaces$Function" "lives" "I", .fieldLink RX2 44 "OwnedPlaces$Function" "parameters" "I", .fieldLink RX2 47 "OwnedPlaces$Function" "result" "I", .fieldLink RX2 50 "OwnedPlaces$Function" "resultLife" "I", .fieldLink RX2 53 "OwnedPlaces$Function" "variables" "I", .fieldLink RX2 56 "OwnedPlaces$Function" "cells" "I", .fieldLink RX2 59 "OwnedPlaces$Function" "borrows" "I"]
def wp_c_begin : List Cond := wf_c_begin ++ (wsX20 ++ [])
theorem in_c_begin_X2 : ∀ w ∈ wsX20, w ∈ wp_c_begin := fun w h => List.mem_append_right _ (List.mem_append_left _ h)
theorem wg_c_begin : wf_c_begin.all goodWord = true := by decide +kernel
theorem wm_c_begin (k : Nat) {w : Cond} (h : wp_c_begin[k]? = some w) : w ∈ wp_c_begin := List.mem_of_getElem? h
set_option maxHeartbeats 4000000 in
set_option maxRecDepth 100000 in
theorem c_begin (l : Launch) (dC : Nat → ClassId) (dI : Nat → Nat → Nat) (f0 fl0 fl1 fv0 fv1 fv2 fv3 fv4 fv5 : Nat) (ytk ybd yac yrs yrl ycl ycf yct ylf ylt ybo : Int32) (zl zp zv : Int32) (x1 : Int32) (sz : Nat) : Met l yX2_begin wp_c_begin ({ frames := 0, cells := 0, slots := 0, locals := 0 }) (va_Pc [.ref f0, .int x1] (fun U => U.heap.size = sz ∧ va_P (dC, dI) vwCl [(f0, .inr (2, [.int ytk, .int ybd, .int zl, .ref fl0, .int zp, .ref fl1, .int yac, .int yrs, .int yrl, .int zv, .ref fv0, .ref fv1, .ref fv2, .ref fv3, .ref fv4, .ref fv5, .int ycl, .int ycf, .int yct, .int ylf, .int ylt, .int ybo]))] U.heap ∧ va_K (dC, dI) vwCl [] U ∧ va_D (fun _ => True) [(f0, .inr (2, [.int ytk, .int ybd, .int zl, .ref fl0, .int zp, .ref fl1, .int yac, .int yrs, .int yrl, .int zv, .ref fv0, .ref fv1, .ref fv2, .ref fv3, .ref fv4, .ref fv5, .int ycl, .int ycf, .int yct, .int ylf, .int ylt, .int ybo]))])) (va_Qv (fun _ : Unit => True) (fun (_ : Unit) (tS : State) => va_P (dC, dI) vwCl [(f0, .inr (2, [.int x1, .int ybd, .int 0, .ref fl0, .int 0, .ref fl1, .int yac, .int 0, .int (-1), .int 0, .ref fv0, .ref fv1, .ref fv2, .ref fv3, .ref fv4, .ref fv5, .int 0, .int ycf, .int yct, .int ylf, .int ylt, .int 0]))] tS.heap ∧ va_K (dC, dI) vwCl [] tS ∧ va_D (va_A [(f0, .inr (2, [.int ytk, .int ybd, .int zl, .ref fl0, .int zp, .ref fl1, .int yac, .int yrs, .int yrl, .int zv, .ref fv0, .ref fv1, .ref fv2, .ref fv3, .ref fv4, .ref fv5, .int ycl, .int ycf, .int yct, .int ylf, .int ylt, .int ybo]))] sz) [(f0, .inr (2, [.int x1, .int ybd, .int 0, .ref fl0, .int 0, .ref fl1, .int yac, .int 0, .int (-1), .int 0, .ref fv0, .ref fv1, .ref fv2, .ref fv3, .ref fv4, .ref fv5, .int 0, .int ycf, .int yct, .int ylf, .int ylt, .int 0]))]) (va_A [(f0, .inr (2, [.int ytk, .int ybd, .int zl, .ref fl0, .int zp, .ref fl1, .int yac, .int yrs, .int yrl, .int zv, .ref fv0, .ref fv1, .ref fv2, .ref fv3, .ref fv4, .ref fv5, .int ycl, .int ycf, .int yct, .int ylf, .int ylt, .int ybo]))] sz)) 0 0 (va_A [(f0, .inr (2, [.int ytk, .int ybd, .int zl, .ref fl0, .int zp, .ref fl1, .int yac, .int yrs, .int yrl, .int zv, .ref fv0, .ref fv1, .ref fv2, .ref fv3, .ref fv4, .ref fv5, .int ycl, .int ycf, .int yct, .int ylf, .int ylt, .int ybo]))] sz) := by
  refine Met.ofW (cc := cX2_begin) (maxL := 2) (ret := none) (by decide) rfl ?_
  intro p e s m args below meth c s₁ B hml hv
  obtain ⟨rfl, hsz, hP, hK, hD0⟩ := hv
  have hx := B.exec
  have hb := B.bytes
  have hr := B.returns
  have hts := atoms_spec (ws := wp_c_begin) B.pre
  have hown : s.vm.findClass RX2 = some m.cls := findClass_of_methodNamed B.named
  have hlocks := B.notSynchronized
  subst hsz
  have hD := hD0.self (sz := s.heap.size)
  generalize hAe : va_A [(f0, .inr (2, [.int ytk, .int ybd, .int zl, .ref fl0, .int zp, .ref fl1, .int yac, .int yrs, .int yrl, .int zv, .ref fv0, .ref fv1, .ref fv2, .ref fv3, .ref fv4, .ref fv5, .int ycl, .int ycf, .int yct, .int ylf, .int ylt, .int ybo]))] s.heap.size = A at hD ⊢
  have hA : ∀ q : Nat, s.heap.size ≤ q → A q := fun q h => by rw [← hAe]; exact Or.inr h
  have hS : va_S A s.heap s.heap [] := va_S.rf
  have hP : va_P (dC, dI) vwCl [(f0, .inr (2, [.int ytk, .int ybd, .int zl, .ref fl0, .int zp, .ref fl1, .int yac, .int yrs, .int yrl, .int zv, .ref fv0, .ref fv1, .ref fv2, .ref fv3, .ref fv4, .ref fv5, .int ycl, .int ycf, .int yct, .int ylf, .int ylt, .int ybo]))] s.heap := hP
  have hl := lv_entry ([.ref f0, .int x1]) (n := 2) (Nat.le_of_ble_eq_true rfl)
  rw [lg_entry_eq]
  generalize (lg_sl ([.ref f0, .int x1]) ++ List.replicate (2 - (lg_sl ([.ref f0, .int x1])).length) Slot.unset).toArray = ls at hl ⊢
  have hl : lv_has ls 2 [(0, .ref f0), (1, .int x1)] := hl
  refine lv_aload_n hx hb dX2_begin_0 rfl (lv_at hl 0 rfl) ?_
  refine lv_iload_n hx hb dX2_begin_1 rfl (lv_at hl 1 rfl) ?_
  refine va_put (D := (dC, dI)) (ci := 2) (v := .int x1) (ty := .int) (C := RX2) (T := TX2) (N := 22) hx hb hts in_c_begin_X2 tyX2 tyX2_ok nmX2 hown hK hP hD hS 0 rfl rfl 0 (by decide) (hts (.fieldLink RX2 37 "OwnedPlaces$Function" "token" "I") (wm_c_begin 1 rfl)) (fun _ h9 => h9) rfl (by decide +kernel) rfl rfl (Nat.le_of_ble_eq_true rfl) dX2_begin_2 (fun H locs hP hD hS => ?_)
  have hP : va_P (dC, dI) vwCl [(f0, .inr (2, [.int x1, .int ybd, .int zl, .ref fl0, .int zp, .ref fl1, .int yac, .int yrs, .int yrl, .int zv, .ref fv0, .ref fv1, .ref fv2, .ref fv3, .ref fv4, .ref fv5, .int ycl, .int ycf, .int yct, .int ylf, .int ylt, .int ybo]))] H := hP
  have hD : va_D A [(f0, .inr (2, [.int x1, .int ybd, .int zl, .ref fl0, .int zp, .ref fl1, .int yac, .int yrs, .int yrl, .int zv, .ref fv0, .ref fv1, .ref fv2, .ref fv3, .ref fv4, .ref fv5, .int ycl, .int ycf, .int yct, .int ylf, .int ylt, .int ybo]))] := hD
  refine lv_aload_n hx hb dX2_begin_5 rfl (lv_at hl 0 rfl) ?_
  refine lv_iconst (v := 0) hx hb dX2_begin_6 (by decide) ?_
  refine va_put (D := (dC, dI)) (ci := 2) (v := .int 0) (ty := .int) (C := RX2) (T := TX2) (N := 22) hx hb hts in_c_begin_X2 tyX2 tyX2_ok nmX2 hown hK hP hD hS 0 rfl rfl 2 (by decide) (hts (.fieldLink RX2 41 "OwnedPlaces$Function" "lives" "I") (wm_c_begin 2 rfl)) (fun _ h9 => h9) rfl (by decide +kernel) rfl rfl (Nat.le_of_ble_eq_true rfl) dX2_begin_7 (fun H locs hP hD hS => ?_)
  have hP : va_P (dC, dI) vwCl [(f0, .inr (2, [.int x1, .int ybd, .int 0, .ref fl0, .int zp, .ref fl1, .int yac, .int yrs, .int yrl, .int zv, .ref fv0, .ref fv1, .ref fv2, .ref fv3, .ref fv4, .ref fv5, .int ycl, .int ycf, .int yct, .int ylf, .int ylt, .int ybo]))] H := hP
  have hD : va_D A [(f0, .inr (2, [.int x1, .int ybd, .int 0, .ref fl0, .int zp, .ref fl1, .int yac, .int yrs, .int yrl, .int zv, .ref fv0, .ref fv1, .ref fv2, .ref fv3, .ref fv4, .ref fv5, .int ycl, .int ycf, .int yct, .int ylf, .int ylt, .int ybo]))] := hD
  refine lv_aload_n hx hb dX2_begin_10 rfl (lv_at hl 0 rfl) ?_
  refine lv_iconst (v := 0) hx hb dX2_begin_11 (by decide) ?_
  refine va_put (D := (dC, dI)) (ci := 2) (v := .int 0) (ty := .int) (C := RX2) (T := TX2) (N := 22) hx hb hts in_c_begin_X2 tyX2 tyX2_ok nmX2 hown hK hP hD hS 0 rfl rfl 4 (by decide) (hts (.fieldLink RX2 44 "OwnedPlaces$Function" "parameters" "I") (wm_c_begin 3 rfl)) (fun _ h9 => h9) rfl (by decide +kernel) rfl rfl (Nat.le_of_ble_eq_true rfl) dX2_begin_12 (fun H locs hP hD hS => ?_)
  have hP : va_P (dC, dI) vwCl [(f0, .inr (2, [.int x1, .int ybd, .int 0, .ref fl0, .int 0, .ref fl1, .int yac, .int yrs, .int yrl, .int zv, .ref fv0, .ref fv1, .ref fv2, .ref fv3, .ref fv4, .ref fv5, .int ycl, .int ycf, .int yct, .int ylf, .int ylt, .int ybo]))] H := hP
  have hD : va_D A [(f0, .inr (2, [.int x1, .int ybd, .int 0, .ref fl0, .int 0, .ref fl1, .int yac, .int yrs, .int yrl, .int zv, .ref fv0, .ref fv1, .ref fv2, .ref fv3, .ref fv4, .ref fv5, .int ycl, .int ycf, .int yct, .int ylf, .int ylt, .int ybo]))] := hD
  refine lv_aload_n hx hb dX2_begin_15 rfl (lv_at hl 0 rfl) ?_
  refine lv_iconst (v := 0) hx hb dX2_begin_16 (by decide) ?_
  refine va_put (D := (dC, dI)) (ci := 2) (v := .int 0) (ty := .int) (C := RX2) (T := TX2) (N := 22) hx hb hts in_c_begin_X2 tyX2 tyX2_ok nmX2 hown hK hP hD hS 0 rfl rfl 7 (by decide) (hts (.fieldLink RX2 47 "OwnedPlaces$Function" "result" "I") (wm_c_begin 4 rfl)) (fun _ h9 => h9) rfl (by decide +kernel) rfl rfl (Nat.le_of_ble_eq_true rfl) dX2_begin_17 (fun H locs hP hD hS => ?_)
  have hP : va_P (dC, dI) vwCl [(f0, .inr (2, [.int x1, .int ybd, .int 0, .ref fl0, .int 0, .ref fl1, .int yac, .int 0, .int yrl, .int zv, .ref fv0, .ref fv1, .ref fv2, .ref fv3, .ref fv4, .ref fv5, .int ycl, .int ycf, .int yct, .int ylf, .int ylt, .int ybo]))] H := hP
  have hD : va_D A [(f0, .inr (2, [.int x1, .int ybd, .int 0, .ref fl0, .int 0, .ref fl1, .int yac, .int 0, .int yrl, .int zv, .ref fv0, .ref fv1, .ref fv2, .ref fv3, .ref fv4, .ref fv5, .int ycl, .int ycf, .int yct, .int ylf, .int ylt, .int ybo]))] := hD
  refine lv_aload_n hx hb dX2_begin_20 rfl (lv_at hl 0 rfl) ?_
  refine lv_iconst (v := (-1)) hx hb dX2_begin_21 (by decide) ?_
  refine va_put (D := (dC, dI)) (ci := 2) (v := .int (-1)) (ty := .int) (C := RX2) (T := TX2) (N := 22) hx hb hts in_c_begin_X2 tyX2 tyX2_ok nmX2 hown hK hP hD hS 0 rfl rfl 8 (by decide) (hts (.fieldLink RX2 50 "OwnedPlaces$Function" "resultLife" "I") (wm_c_begin 5 rfl)) (fun _ h9 => h9) rfl (by decide +kernel) rfl rfl (Nat.le_of_ble_eq_true rfl) dX2_begin_22 (fun H locs hP hD hS => ?_)
  have hP : va_P (dC, dI) vwCl [(f0, .inr (2, [.int x1, .int ybd, .int 0, .ref fl0, .int 0, .ref fl1, .int yac, .int 0, .int (-1), .int zv, .ref fv0, .ref fv1, .ref fv2, .ref fv3, .ref fv4, .ref fv5, .int ycl, .int ycf, .int yct, .int ylf, .int ylt, .int ybo]))] H := hP
  have hD : va_D A [(f0, .inr (2, [.int x1, .int ybd, .int 0, .ref fl0, .int 0, .ref fl1, .int yac, .int 0, .int (-1), .int zv, .ref fv0, .ref fv1, .ref fv2, .ref fv3, .ref fv4, .ref fv5, .int ycl, .int ycf, .int yct, .int ylf, .int ylt, .int ybo]))] := hD
  refine lv_aload_n hx hb dX2_begin_25 rfl (lv_at hl 0 rfl) ?_
  refine lv_iconst (v := 0) hx hb dX2_begin_26 (by decide) ?_
  refine va_put (D := (dC, dI)) (ci := 2) (v := .int 0) (ty := .int) (C := RX2) (T := TX2) (N := 22) hx hb hts in_c_begin_X2 tyX2 tyX2_ok nmX2 hown hK hP hD hS 0 rfl rfl 9 (by decide) (hts (.fieldLink RX2 53 "OwnedPlaces$Function" "variables" "I") (wm_c_begin 6 rfl)) (fun _ h9 => h9) rfl (by decide +kernel) rfl rfl (Nat.le_of_ble_eq_true rfl) dX2_begin_27 (fun H locs hP hD hS => ?_)
  have hP : va_P (dC, dI) vwCl [(f0, .inr (2, [.int x1, .int ybd, .int 0, .ref fl0, .int 0, .ref fl1, .int yac, .int 0, .int (-1), .int 0, .ref fv0, .ref fv1, .ref fv2, .ref fv3, .ref fv4, .ref fv5, .int ycl, .int ycf, .int yct, .int ylf, .int ylt, .int ybo]))] H := hP
  have hD : va_D A [(f0, .inr (2, [.int x1, .int ybd, .int 0, .ref fl0, .int 0, .ref fl1, .int yac, .int 0, .int (-1), .int 0, .ref fv0, .ref fv1, .ref fv2, .ref fv3, .ref fv4, .ref fv5, .int ycl, .int ycf, .int yct, .int ylf, .int ylt, .int ybo]))] := hD
  refine lv_aload_n hx hb dX2_begin_30 rfl (lv_at hl 0 rfl) ?_
  refine lv_iconst (v := 0) hx hb dX2_begin_31 (by decide) ?_
  refine va_put (D := (dC, dI)) (ci := 2) (v := .int 0) (ty := .int) (C := RX2) (T := TX2) (N := 22) hx hb hts in_c_begin_X2 tyX2 tyX2_ok nmX2 hown hK hP hD hS 0 rfl rfl 16 (by decide) (hts (.fieldLink RX2 56 "OwnedPlaces$Function" "cells" "I") (wm_c_begin 7 rfl)) (fun _ h9 => h9) rfl (by decide +kernel) rfl rfl (Nat.le_of_ble_eq_true rfl) dX2_begin_32 (fun H locs hP hD hS => ?_)
  have hP : va_P (dC, dI) vwCl [(f0, .inr (2, [.int x1, .int ybd, .int 0, .ref fl0, .int 0, .ref fl1, .int yac, .int 0, .int (-1), .int 0, .ref fv0, .ref fv1, .ref fv2, .ref fv3, .ref fv4, .ref fv5, .int 0, .int ycf, .int yct, .int ylf, .int ylt, .int ybo]))] H := hP
  have hD : va_D A [(f0, .inr (2, [.int x1, .int ybd, .int 0, .ref fl0, .int 0, .ref fl1, .int yac, .int 0, .int (-1), .int 0, .ref fv0, .ref fv1, .ref fv2, .ref fv3, .ref fv4, .ref fv5, .int 0, .int ycf, .int yct, .int ylf, .int ylt, .int ybo]))] := hD
  refine lv_aload_n hx hb dX2_begin_35 rfl (lv_at hl 0 rfl) ?_
  refine lv_iconst (v := 0) hx hb dX2_begin_36 (by decide) ?_
  refine va_put (D := (dC, dI)) (ci := 2) (v := .int 0) (ty := .int) (C := RX2) (T := TX2) (N := 22) hx hb hts in_c_begin_X2 tyX2 tyX2_ok nmX2 hown hK hP hD hS 0 rfl rfl 21 (by decide) (hts (.fieldLink RX2 59 "OwnedPlaces$Function" "borrows" "I") (wm_c_begin 8 rfl)) (fun _ h9 => h9) rfl (by decide +kernel) rfl rfl (Nat.le_of_ble_eq_true rfl) dX2_begin_37 (fun H locs hP hD hS => ?_)
  have hP : va_P (dC, dI) vwCl [(f0, .inr (2, [.int x1, .int ybd, .int 0, .ref fl0, .int 0, .ref fl1, .int yac, .int 0, .int (-1), .int 0, .ref fv0, .ref fv1, .ref fv2, .ref fv3, .ref fv4, .ref fv5, .int 0, .int ycf, .int yct, .int ylf, .int ylt, .int 0]))] H := hP
  have hD : va_D A [(f0, .inr (2, [.int x1, .int ybd, .int 0, .ref fl0, .int 0, .ref fl1, .int yac, .int 0, .int (-1), .int 0, .ref fv0, .ref fv1, .ref fv2, .ref fv3, .ref fv4, .ref fv5, .int 0, .int ycf, .int yct, .int ylf, .int ylt, .int 0]))] := hD
  have hP9 := hP.sub (ws' := [(f0, .inr (2, [.int x1, .int ybd, .int 0, .ref fl0, .int 0, .ref fl1, .int yac, .int 0, .int (-1), .int 0, .ref fv0, .ref fv1, .ref fv2, .ref fv3, .ref fv4, .ref fv5, .int 0, .int ycf, .int yct, .int ylf, .int ylt, .int 0]))]) [0] rfl
  have hD9 := hD.sub (ws' := [(f0, .inr (2, [.int x1, .int ybd, .int 0, .ref fl0, .int 0, .ref fl1, .int yac, .int 0, .int (-1), .int 0, .ref fv0, .ref fv1, .ref fv2, .ref fv3, .ref fv4, .ref fv5, .int 0, .int ycf, .int yct, .int ylf, .int ylt, .int 0]))]) [0] (by decide) rfl
  have hK9 := hK.sub (tys' := []) [] rfl
  exact W.vret hx hb hr (fun tS ht hW => ⟨⟨(), rfl, trivial, by rw [ht]; exact hP9, va_K.moved hW.alike hK9, hD9⟩, hS.F ht⟩) hS.2.2 dX2_begin_40
def wf_c_declare : List Cond := [.code yX2_declare cX2_declare 5 (some .int), .fieldLink RX2 53 "OwnedPlaces$Function" "variables" "I", .fieldLink RX2 18 "OwnedPlaces$Function" "name" "[I", .fieldLink RX2 21 "OwnedPlaces$Function" "type" "[I", .fieldLink RX2 24 "OwnedPlaces$Function" "mutable" "[Z", .fieldLink RX2 28 "OwnedPlaces$Function" "offset" "[I", .fieldLink RX2 31 "OwnedPlaces$Function" "from" "[I", .fieldLink RX2 34 "OwnedPlaces$Function" "to" "[I", .constant RX2 62 1073741824]
def wp_c_declare : List Cond := wf_c_declare ++ (wsX20 ++ [])
theorem in_c_declare_X2 : ∀ w ∈ wsX20, w ∈ wp_c_declare := fun w h => List.mem_append_right _ (List.mem_append_left _ h)
theorem wg_c_declare : wf_c_declare.all goodWord = true := by decide +kernel
theorem wm_c_declare (k : Nat) {w : Cond} (h : wp_c_declare[k]? = some w) : w ∈ wp_c_declare := List.mem_of_getElem? h
set_option maxHeartbeats 4000000 in
set_option maxRecDepth 100000 in
theorem c_declare (l : Launch) (dC : Nat → ClassId) (dI : Nat → Nat → Nat) (f0 fl0 fl1 fv0 fv1 fv2 fv3 fv4 fv5 : Nat) (ytk ybd yac yrs yrl ycl ycf yct ylf ylt ybo : Int32) (ylv ypr yva : Nat) (kI kZ : ClassId) (en_ et_ em_ eo_ ef_ ez_ : Nat → Int32) (x1 x2 x3 : Int32) (sz : Nat) (hv : yva < 40) : Met l yX2_declare wp_c_declare ({ frames := 0, cells := 0, slots := 0, locals := 0 }) (va_Pc [.ref f0, .int x1, .int x2, .int x3] (fun U => U.heap.size = sz ∧ va_P (dC, dI) vwCl [(f0, .inr (2, [.int ytk, .int ybd, .int (nI ylv), .ref fl0, .int (nI ypr), .ref fl1, .int yac, .int yrs, .int yrl, .int (nI yva), .ref fv0, .ref fv1, .ref fv2, .ref fv3, .ref fv4, .ref fv5, .int ycl, .int ycf, .int yct, .int ylf, .int ylt, .int ybo])), (fv0, .inl (kI, 40, .inl en_)), (fv1, .inl (kI, 40, .inl et_)), (fv2, .inl (kZ, 40, .inl em_)), (fv3, .inl (kI, 40, .inl eo_)), (fv4, .inl (kI, 40, .inl ef_)), (fv5, .inl (kI, 40, .inl ez_))] U.heap ∧ va_K (dC, dI) vwCl [(kI, .int), (kZ, .boolean)] U ∧ va_D (fun _ => True) [(f0, .inr (2, [.int ytk, .int ybd, .int (nI ylv), .ref fl0, .int (nI ypr), .ref fl1, .int yac, .int yrs, .int yrl, .int (nI yva), .ref fv0, .ref fv1, .ref fv2, .ref fv3, .ref fv4, .ref fv5, .int ycl, .int ycf, .int yct, .int ylf, .int ylt, .int ybo])), (fv0, .inl (kI, 40, .inl en_)), (fv1, .inl (kI, 40, .inl et_)), (fv2, .inl (kZ, 40, .inl em_)), (fv3, .inl (kI, 40, .inl eo_)), (fv4, .inl (kI, 40, .inl ef_)), (fv5, .inl (kI, 40, .inl ez_))])) (va_Qi (fun (r : Int32) (_ : Unit) => r = nI yva) (fun (_ : Unit) (tS : State) => ∃ (gn_ : Nat → Int32) (gt_ : Nat → Int32) (gm_ : Nat → Int32) (go_ : Nat → Int32) (gf_ : Nat → Int32) (gz_ : Nat → Int32), (gn_ = upd en_ yva x1) ∧ (gt_ = upd et_ yva (-1)) ∧ (gm_ = upd em_ yva (vp_nar .boolean x2)) ∧ (go_ = upd eo_ yva 0) ∧ (gf_ = upd ef_ yva x3) ∧ (gz_ = upd ez_ yva 1073741824) ∧ va_P (dC, dI) vwCl [(f0, .inr (2, [.int ytk, .int ybd, .int (nI ylv), .ref fl0, .int (nI ypr), .ref fl1, .int yac, .int yrs, .int yrl, .int (nI (yva + 1)), .ref fv0, .ref fv1, .ref fv2, .ref fv3, .ref fv4, .ref fv5, .int ycl, .int ycf, .int yct, .int ylf, .int ylt, .int ybo])), (fv0, .inl (kI, 40, .inl gn_)), (fv1, .inl (kI, 40, .inl gt_)), (fv2, .inl (kZ, 40, .inl gm_)), (fv3, .inl (kI, 40, .inl go_)), (fv4, .inl (kI, 40, .inl gf_)), (fv5, .inl (kI, 40, .inl gz_))] tS.heap ∧ va_K (dC, dI) vwCl [(kI, .int), (kZ, .boolean)] tS ∧ va_D (va_A [(f0, .inr (2, [.int ytk, .int ybd, .int (nI ylv), .ref fl0, .int (nI ypr), .ref fl1, .int yac, .int yrs, .int yrl, .int (nI yva), .ref fv0, .ref fv1, .ref fv2, .ref fv3, .ref fv4, .ref fv5, .int ycl, .int ycf, .int yct, .int ylf, .int ylt, .int ybo])), (fv0, .inl (kI, 40, .inl en_)), (fv1, .inl (kI, 40, .inl et_)), (fv2, .inl (kZ, 40, .inl em_)), (fv3, .inl (kI, 40, .inl eo_)), (fv4, .inl (kI, 40, .inl ef_)), (fv5, .inl (kI, 40, .inl ez_))] sz) [(f0, .inr (2, [.int ytk, .int ybd, .int (nI ylv), .ref fl0, .int (nI ypr), .ref fl1, .int yac, .int yrs, .int yrl, .int (nI (yva + 1)), .ref fv0, .ref fv1, .ref fv2, .ref fv3, .ref fv4, .ref fv5, .int ycl, .int ycf, .int yct, .int ylf, .int ylt, .int ybo])), (fv0, .inl (kI, 40, .inl gn_)), (fv1, .inl (kI, 40, .inl gt_)), (fv2, .inl (kZ, 40, .inl gm_)), (fv3, .inl (kI, 40, .inl go_)), (fv4, .inl (kI, 40, .inl gf_)), (fv5, .inl (kI, 40, .inl gz_))]) (va_A [(f0, .inr (2, [.int ytk, .int ybd, .int (nI ylv), .ref fl0, .int (nI ypr), .ref fl1, .int yac, .int yrs, .int yrl, .int (nI yva), .ref fv0, .ref fv1, .ref fv2, .ref fv3, .ref fv4, .ref fv5, .int ycl, .int ycf, .int yct, .int ylf, .int ylt, .int ybo])), (fv0, .inl (kI, 40, .inl en_)), (fv1, .inl (kI, 40, .inl et_)), (fv2, .inl (kZ, 40, .inl em_)), (fv3, .inl (kI, 40, .inl eo_)), (fv4, .inl (kI, 40, .inl ef_)), (fv5, .inl (kI, 40, .inl ez_))] sz)) 0 0 (va_A [(f0, .inr (2, [.int ytk, .int ybd, .int (nI ylv), .ref fl0, .int (nI ypr), .ref fl1, .int yac, .int yrs, .int yrl, .int (nI yva), .ref fv0, .ref fv1, .ref fv2, .ref fv3, .ref fv4, .ref fv5, .int ycl, .int ycf, .int yct, .int ylf, .int ylt, .int ybo])), (fv0, .inl (kI, 40, .inl en_)), (fv1, .inl (kI, 40, .inl et_)), (fv2, .inl (kZ, 40, .inl em_)), (fv3, .inl (kI, 40, .inl eo_)), (fv4, .inl (kI, 40, .inl ef_)), (fv5, .inl (kI, 40, .inl ez_))] sz) := by
  refine Met.ofW (cc := cX2_declare) (maxL := 5) (ret := (some .int)) (by decide) rfl ?_
  intro p e s m args below meth c s₁ B hml hv
  obtain ⟨rfl, hsz, hP, hK, hD0⟩ := hv
  have hx := B.exec
  have hb := B.bytes
  have hr := B.returns
  have hts := atoms_spec (ws := wp_c_declare) B.pre
  have hown : s.vm.findClass RX2 = some m.cls := findClass_of_methodNamed B.named
  have hlocks := B.notSynchronized
  subst hsz
  have hD := hD0.self (sz := s.heap.size)
  generalize hAe : va_A [(f0, .inr (2, [.int ytk, .int ybd, .int (nI ylv), .ref fl0, .int (nI ypr), .ref fl1, .int yac, .int yrs, .int yrl, .int (nI yva), .ref fv0, .ref fv1, .ref fv2, .ref fv3, .ref fv4, .ref fv5, .int ycl, .int ycf, .int yct, .int ylf, .int ylt, .int ybo])), (fv0, .inl (kI, 40, .inl en_)), (fv1, .inl (kI, 40, .inl et_)), (fv2, .inl (kZ, 40, .inl em_)), (fv3, .inl (kI, 40, .inl eo_)), (fv4, .inl (kI, 40, .inl ef_)), (fv5, .inl (kI, 40, .inl ez_))] s.heap.size = A at hD ⊢
  have hA : ∀ q : Nat, s.heap.size ≤ q → A q := fun q h => by rw [← hAe]; exact Or.inr h
  have hS : va_S A s.heap s.heap [] := va_S.rf
  have hP : va_P (dC, dI) vwCl [(f0, .inr (2, [.int ytk, .int ybd, .int (nI ylv), .ref fl0, .int (nI ypr), .ref fl1, .int yac, .int yrs, .int yrl, .int (nI yva), .ref fv0, .ref fv1, .ref fv2, .ref fv3, .ref fv4, .ref fv5, .int ycl, .int ycf, .int yct, .int ylf, .int ylt, .int ybo])), (fv0, .inl (kI, 40, .inl en_)), (fv1, .inl (kI, 40, .inl et_)), (fv2, .inl (kZ, 40, .inl em_)), (fv3, .inl (kI, 40, .inl eo_)), (fv4, .inl (kI, 40, .inl ef_)), (fv5, .inl (kI, 40, .inl ez_))] s.heap := hP
  have hl := lv_entry ([.ref f0, .int x1, .int x2, .int x3]) (n := 5) (Nat.le_of_ble_eq_true rfl)
  rw [lg_entry_eq]
  generalize (lg_sl ([.ref f0, .int x1, .int x2, .int x3]) ++ List.replicate (5 - (lg_sl ([.ref f0, .int x1, .int x2, .int x3])).length) Slot.unset).toArray = ls at hl ⊢
  have hl : lv_has ls 5 [(0, .ref f0), (1, .int x1), (2, .int x2), (3, .int x3)] := hl
  refine lv_aload_n hx hb dX2_declare_0 rfl (lv_at hl 0 rfl) ?_
  refine va_get (D := (dC, dI)) (ci := 2) (v := .int (nI yva)) (C := RX2) (T := TX2) (N := 22) hx hb hts in_c_declare_X2 hown hK hP 0 rfl rfl 9 (by decide) (hts (.fieldLink RX2 53 "OwnedPlaces$Function" "variables" "I") (wm_c_declare 1 rfl)) (fun _ h9 => h9) rfl dX2_declare_1 ?_
  refine lv_istore (lv' := [(4, .int (nI yva)), (0, .ref f0), (1, .int x1), (2, .int x2), (3, .int x3)]) hx hb dX2_declare_4 hl (by decide) rfl (fun ls hl => ?_)
  refine lv_aload_n hx hb dX2_declare_6 rfl (lv_at hl 1 rfl) ?_
  refine va_get (D := (dC, dI)) (ci := 2) (v := .ref fv0) (C := RX2) (T := TX2) (N := 22) hx hb hts in_c_declare_X2 hown hK hP 0 rfl rfl 10 (by decide) (hts (.fieldLink RX2 18 "OwnedPlaces$Function" "name" "[I") (wm_c_declare 2 rfl)) (fun _ h9 => h9) rfl dX2_declare_7 ?_
  refine lv_iload hx hb dX2_declare_10 (lv_at hl 0 rfl) ?_
  refine lv_iload_n hx hb dX2_declare_12 rfl (lv_at hl 2 rfl) ?_
  refine va_iast hx hb hK hP hD hS 1 0 rfl rfl (vp_in_nI hv (by decide)) dX2_declare_13 (fun H locs hP hD hS => ?_)
  have hP : va_P (dC, dI) vwCl [(f0, .inr (2, [.int ytk, .int ybd, .int (nI ylv), .ref fl0, .int (nI ypr), .ref fl1, .int yac, .int yrs, .int yrl, .int (nI yva), .ref fv0, .ref fv1, .ref fv2, .ref fv3, .ref fv4, .ref fv5, .int ycl, .int ycf, .int yct, .int ylf, .int ylt, .int ybo])), (fv0, .inl (kI, 40, .inl (upd en_ (nI yva : Int32).toNatClampNeg x1))), (fv1, .inl (kI, 40, .inl et_)), (fv2, .inl (kZ, 40, .inl em_)), (fv3, .inl (kI, 40, .inl eo_)), (fv4, .inl (kI, 40, .inl ef_)), (fv5, .inl (kI, 40, .inl ez_))] H := hP
  have hD : va_D A [(f0, .inr (2, [.int ytk, .int ybd, .int (nI ylv), .ref fl0, .int (nI ypr), .ref fl1, .int yac, .int yrs, .int yrl, .int (nI yva), .ref fv0, .ref fv1, .ref fv2, .ref fv3, .ref fv4, .ref fv5, .int ycl, .int ycf, .int yct, .int ylf, .int ylt, .int ybo])), (fv0, .inl (kI, 40, .inl (upd en_ (nI yva : Int32).toNatClampNeg x1))), (fv1, .inl (kI, 40, .inl et_)), (fv2, .inl (kZ, 40, .inl em_)), (fv3, .inl (kI, 40, .inl eo_)), (fv4, .inl (kI, 40, .inl ef_)), (fv5, .inl (kI, 40, .inl ez_))] := hD
  obtain ⟨g09, eg09⟩ : ∃ zZ : Nat → Int32, zZ = upd en_ (nI yva : Int32).toNatClampNeg x1 := ⟨_, rfl⟩
  rw [← eg09] at hP hD
  refine lv_aload_n hx hb dX2_declare_14 rfl (lv_at hl 1 rfl) ?_
  refine va_get (D := (dC, dI)) (ci := 2) (v := .ref fv1) (C := RX2) (T := TX2) (N := 22) hx hb hts in_c_declare_X2 hown hK hP 0 rfl rfl 11 (by decide) (hts (.fieldLink RX2 21 "OwnedPlaces$Function" "type" "[I") (wm_c_declare 3 rfl)) (fun _ h9 => h9) rfl dX2_declare_15 ?_
  refine lv_iload hx hb dX2_declare_18 (lv_at hl 0 rfl) ?_
  refine lv_iconst (v := (-1)) hx hb dX2_declare_20 (by decide) ?_
  refine va_iast hx hb hK hP hD hS 2 0 rfl rfl (vp_in_nI hv (by decide)) dX2_declare_21 (fun H locs hP hD hS => ?_)
  have hP : va_P (dC, dI) vwCl [(f0, .inr (2, [.int ytk, .int ybd, .int (nI ylv), .ref fl0, .int (nI ypr), .ref fl1, .int yac, .int yrs, .int yrl, .int (nI yva), .ref fv0, .ref fv1, .ref fv2, .ref fv3, .ref fv4, .ref fv5, .int ycl, .int ycf, .int yct, .int ylf, .int ylt, .int ybo])), (fv0, .inl (kI, 40, .inl g09)), (fv1, .inl (kI, 40, .inl (upd et_ (nI yva : Int32).toNatClampNeg (-1)))), (fv2, .inl (kZ, 40, .inl em_)), (fv3, .inl (kI, 40, .inl eo_)), (fv4, .inl (kI, 40, .inl ef_)), (fv5, .inl (kI, 40, .inl ez_))] H := hP
  have hD : va_D A [(f0, .inr (2, [.int ytk, .int ybd, .int (nI ylv), .ref fl0, .int (nI ypr), .ref fl1, .int yac, .int yrs, .int yrl, .int (nI yva), .ref fv0, .ref fv1, .ref fv2, .ref fv3, .ref fv4, .ref fv5, .int ycl, .int ycf, .int yct, .int ylf, .int ylt, .int ybo])), (fv0, .inl (kI, 40, .inl g09)), (fv1, .inl (kI, 40, .inl (upd et_ (nI yva : Int32).toNatClampNeg (-1)))), (fv2, .inl (kZ, 40, .inl em_)), (fv3, .inl (kI, 40, .inl eo_)), (fv4, .inl (kI, 40, .inl ef_)), (fv5, .inl (kI, 40, .inl ez_))] := hD
  obtain ⟨g19, eg19⟩ : ∃ zZ : Nat → Int32, zZ = upd et_ (nI yva : Int32).toNatClampNeg (-1) := ⟨_, rfl⟩
  rw [← eg19] at hP hD
  refine lv_aload_n hx hb dX2_declare_22 rfl (lv_at hl 1 rfl) ?_
  refine va_get (D := (dC, dI)) (ci := 2) (v := .ref fv2) (C := RX2) (T := TX2) (N := 22) hx hb hts in_c_declare_X2 hown hK hP 0 rfl rfl 12 (by decide) (hts (.fieldLink RX2 24 "OwnedPlaces$Function" "mutable" "[Z") (wm_c_declare 4 rfl)) (fun _ h9 => h9) rfl dX2_declare_23 ?_
  refine lv_iload hx hb dX2_declare_26 (lv_at hl 0 rfl) ?_
  refine lv_iload_n hx hb dX2_declare_28 rfl (lv_at hl 3 rfl) ?_
  refine va_zast hx hb hK hP hD hS 3 1 rfl rfl (vp_in_nI hv (by decide)) dX2_declare_29 (fun H locs hP hD hS => ?_)
  have hP : va_P (dC, dI) vwCl [(f0, .inr (2, [.int ytk, .int ybd, .int (nI ylv), .ref fl0, .int (nI ypr), .ref fl1, .int yac, .int yrs, .int yrl, .int (nI yva), .ref fv0, .ref fv1, .ref fv2, .ref fv3, .ref fv4, .ref fv5, .int ycl, .int ycf, .int yct, .int ylf, .int ylt, .int ybo])), (fv0, .inl (kI, 40, .inl g09)), (fv1, .inl (kI, 40, .inl g19)), (fv2, .inl (kZ, 40, .inl (upd em_ (nI yva : Int32).toNatClampNeg (vp_nar .boolean x2)))), (fv3, .inl (kI, 40, .inl eo_)), (fv4, .inl (kI, 40, .inl ef_)), (fv5, .inl (kI, 40, .inl ez_))] H := hP
  have hD : va_D A [(f0, .inr (2, [.int ytk, .int ybd, .int (nI ylv), .ref fl0, .int (nI ypr), .ref fl1, .int yac, .int yrs, .int yrl, .int (nI yva), .ref fv0, .ref fv1, .ref fv2, .ref fv3, .ref fv4, .ref fv5, .int ycl, .int ycf, .int yct, .int ylf, .int ylt, .int ybo])), (fv0, .inl (kI, 40, .inl g09)), (fv1, .inl (kI, 40, .inl g19)), (fv2, .inl (kZ, 40, .inl (upd em_ (nI yva : Int32).toNatClampNeg (vp_nar .boolean x2)))), (fv3, .inl (kI, 40, .inl eo_)), (fv4, .inl (kI, 40, .inl ef_)), (fv5, .inl (kI, 40, .inl ez_))] := hD
  obtain ⟨g29, eg29⟩ : ∃ zZ : Nat → Int32, zZ = upd em_ (nI yva : Int32).toNatClampNeg (vp_nar .boolean x2) := ⟨_, rfl⟩
  rw [← eg29] at hP hD
  refine lv_aload_n hx hb dX2_declare_30 rfl (lv_at hl 1 rfl) ?_
  refine va_get (D := (dC, dI)) (ci := 2) (v := .ref fv3) (C := RX2) (T := TX2) (N := 22) hx hb hts in_c_declare_X2 hown hK hP 0 rfl rfl 13 (by decide) (hts (.fieldLink RX2 28 "OwnedPlaces$Function" "offset" "[I") (wm_c_declare 5 rfl)) (fun _ h9 => h9) rfl dX2_declare_31 ?_
  refine lv_iload hx hb dX2_declare_34 (lv_at hl 0 rfl) ?_
  refine lv_iconst (v := 0) hx hb dX2_declare_36 (by decide) ?_
  refine va_iast hx hb hK hP hD hS 4 0 rfl rfl (vp_in_nI hv (by decide)) dX2_declare_37 (fun H locs hP hD hS => ?_)
  have hP : va_P (dC, dI) vwCl [(f0, .inr (2, [.int ytk, .int ybd, .int (nI ylv), .ref fl0, .int (nI ypr), .ref fl1, .int yac, .int yrs, .int yrl, .int (nI yva), .ref fv0, .ref fv1, .ref fv2, .ref fv3, .ref fv4, .ref fv5, .int ycl, .int ycf, .int yct, .int ylf, .int ylt, .int ybo])), (fv0, .inl (kI, 40, .inl g09)), (fv1, .inl (kI, 40, .inl g19)), (fv2, .inl (kZ, 40, .inl g29)), (fv3, .inl (kI, 40, .inl (upd eo_ (nI yva : Int32).toNatClampNeg 0))), (fv4, .inl (kI, 40, .inl ef_)), (fv5, .inl (kI, 40, .inl ez_))] H := hP
  have hD : va_D A [(f0, .inr (2, [.int ytk, .int ybd, .int (nI ylv), .ref fl0, .int (nI ypr), .ref fl1, .int yac, .int yrs, .int yrl, .int (nI yva), .ref fv0, .ref fv1, .ref fv2, .ref fv3, .ref fv4, .ref fv5, .int ycl, .int ycf, .int yct, .int ylf, .int ylt, .int ybo])), (fv0, .inl (kI, 40, .inl g09)), (fv1, .inl (kI, 40, .inl g19)), (fv2, .inl (kZ, 40, .inl g29)), (fv3, .inl (kI, 40, .inl (upd eo_ (nI yva : Int32).toNatClampNeg 0))), (fv4, .inl (kI, 40, .inl ef_)), (fv5, .inl (kI, 40, .inl ez_))] := hD
  obtain ⟨g39, eg39⟩ : ∃ zZ : Nat → Int32, zZ = upd eo_ (nI yva : Int32).toNatClampNeg 0 := ⟨_, rfl⟩
  rw [← eg39] at hP hD
  refine lv_aload_n hx hb dX2_declare_38 rfl (lv_at hl 1 rfl) ?_
  refine va_get (D := (dC, dI)) (ci := 2) (v := .ref fv4) (C := RX2) (T := TX2) (N := 22) hx hb hts in_c_declare_X2 hown hK hP 0 rfl rfl 14 (by decide) (hts (.fieldLink RX2 31 "OwnedPlaces$Function" "from" "[I") (wm_c_declare 6 rfl)) (fun _ h9 => h9) rfl dX2_declare_39 ?_
  refine lv_iload hx hb dX2_declare_42 (lv_at hl 0 rfl) ?_
  refine lv_iload_n hx hb dX2_declare_44 rfl (lv_at hl 4 rfl) ?_
  refine va_iast hx hb hK hP hD hS 5 0 rfl rfl (vp_in_nI hv (by decide)) dX2_declare_45 (fun H locs hP hD hS => ?_)
  have hP : va_P (dC, dI) vwCl [(f0, .inr (2, [.int ytk, .int ybd, .int (nI ylv), .ref fl0, .int (nI ypr), .ref fl1, .int yac, .int yrs, .int yrl, .int (nI yva), .ref fv0, .ref fv1, .ref fv2, .ref fv3, .ref fv4, .ref fv5, .int ycl, .int ycf, .int yct, .int ylf, .int ylt, .int ybo])), (fv0, .inl (kI, 40, .inl g09)), (fv1, .inl (kI, 40, .inl g19)), (fv2, .inl (kZ, 40, .inl g29)), (fv3, .inl (kI, 40, .inl g39)), (fv4, .inl (kI, 40, .inl (upd ef_ (nI yva : Int32).toNatClampNeg x3))), (fv5, .inl (kI, 40, .inl ez_))] H := hP
  have hD : va_D A [(f0, .inr (2, [.int ytk, .int ybd, .int (nI ylv), .ref fl0, .int (nI ypr), .ref fl1, .int yac, .int yrs, .int yrl, .int (nI yva), .ref fv0, .ref fv1, .ref fv2, .ref fv3, .ref fv4, .ref fv5, .int ycl, .int ycf, .int yct, .int ylf, .int ylt, .int ybo])), (fv0, .inl (kI, 40, .inl g09)), (fv1, .inl (kI, 40, .inl g19)), (fv2, .inl (kZ, 40, .inl g29)), (fv3, .inl (kI, 40, .inl g39)), (fv4, .inl (kI, 40, .inl (upd ef_ (nI yva : Int32).toNatClampNeg x3))), (fv5, .inl (kI, 40, .inl ez_))] := hD
  obtain ⟨g49, eg49⟩ : ∃ zZ : Nat → Int32, zZ = upd ef_ (nI yva : Int32).toNatClampNeg x3 := ⟨_, rfl⟩
  rw [← eg49] at hP hD
  refine lv_aload_n hx hb dX2_declare_46 rfl (lv_at hl 1 rfl) ?_
  refine va_get (D := (dC, dI)) (ci := 2) (v := .ref fv5) (C := RX2) (T := TX2) (N := 22) hx hb hts in_c_declare_X2 hown hK hP 0 rfl rfl 15 (by decide) (hts (.fieldLink RX2 34 "OwnedPlaces$Function" "to" "[I") (wm_c_declare 7 rfl)) (fun _ h9 => h9) rfl dX2_declare_47 ?_
  refine lv_iload hx hb dX2_declare_50 (lv_at hl 0 rfl) ?_
  refine lv_ldc (v := 1073741824) hx hb hown (hts (.constant RX2 62 1073741824) (wm_c_declare 8 rfl)) dX2_declare_52 ?_
  refine va_iast hx hb hK hP hD hS 6 0 rfl rfl (vp_in_nI hv (by decide)) dX2_declare_54 (fun H locs hP hD hS => ?_)
  have hP : va_P (dC, dI) vwCl [(f0, .inr (2, [.int ytk, .int ybd, .int (nI ylv), .ref fl0, .int (nI ypr), .ref fl1, .int yac, .int yrs, .int yrl, .int (nI yva), .ref fv0, .ref fv1, .ref fv2, .ref fv3, .ref fv4, .ref fv5, .int ycl, .int ycf, .int yct, .int ylf, .int ylt, .int ybo])), (fv0, .inl (kI, 40, .inl g09)), (fv1, .inl (kI, 40, .inl g19)), (fv2, .inl (kZ, 40, .inl g29)), (fv3, .inl (kI, 40, .inl g39)), (fv4, .inl (kI, 40, .inl g49)), (fv5, .inl (kI, 40, .inl (upd ez_ (nI yva : Int32).toNatClampNeg 1073741824)))] H := hP
  have hD : va_D A [(f0, .inr (2, [.int ytk, .int ybd, .int (nI ylv), .ref fl0, .int (nI ypr), .ref fl1, .int yac, .int yrs, .int yrl, .int (nI yva), .ref fv0, .ref fv1, .ref fv2, .ref fv3, .ref fv4, .ref fv5, .int ycl, .int ycf, .int yct, .int ylf, .int ylt, .int ybo])), (fv0, .inl (kI, 40, .inl g09)), (fv1, .inl (kI, 40, .inl g19)), (fv2, .inl (kZ, 40, .inl g29)), (fv3, .inl (kI, 40, .inl g39)), (fv4, .inl (kI, 40, .inl g49)), (fv5, .inl (kI, 40, .inl (upd ez_ (nI yva : Int32).toNatClampNeg 1073741824)))] := hD
  obtain ⟨g59, eg59⟩ : ∃ zZ : Nat → Int32, zZ = upd ez_ (nI yva : Int32).toNatClampNeg 1073741824 := ⟨_, rfl⟩
  rw [← eg59] at hP hD
  refine lv_aload_n hx hb dX2_declare_55 rfl (lv_at hl 1 rfl) ?_
  refine lv_dup hx hb dX2_declare_56 rfl ?_
  refine va_get (D := (dC, dI)) (ci := 2) (v := .int (nI yva)) (C := RX2) (T := TX2) (N := 22) hx hb hts in_c_declare_X2 hown hK hP 0 rfl rfl 9 (by decide) (hts (.fieldLink RX2 53 "OwnedPlaces$Function" "variables" "I") (wm_c_declare 1 rfl)) (fun _ h9 => h9) rfl dX2_declare_57 ?_
  refine lv_iconst (v := 1) hx hb dX2_declare_60 (by decide) ?_
  refine lv_iadd hx hb dX2_declare_61 ?_
  refine lv_topi (fun f_1 ef_1 => ?_)
  obtain rfl : f_1 = nI (yva + 1) := ef_1.trans (nI_1 _)
  refine va_put (D := (dC, dI)) (ci := 2) (v := .int (nI (yva + 1))) (ty := .int) (C := RX2) (T := TX2) (N := 22) hx hb hts in_c_declare_X2 tyX2 tyX2_ok nmX2 hown hK hP hD hS 0 rfl rfl 9 (by decide) (hts (.fieldLink RX2 53 "OwnedPlaces$Function" "variables" "I") (wm_c_declare 1 rfl)) (fun _ h9 => h9) rfl (by decide +kernel) rfl rfl (Nat.le_of_ble_eq_true rfl) dX2_declare_62 (fun H locs hP hD hS => ?_)
  have hP : va_P (dC, dI) vwCl [(f0, .inr (2, [.int ytk, .int ybd, .int (nI ylv), .ref fl0, .int (nI ypr), .ref fl1, .int yac, .int yrs, .int yrl, .int (nI (yva + 1)), .ref fv0, .ref fv1, .ref fv2, .ref fv3, .ref fv4, .ref fv5, .int ycl, .int ycf, .int yct, .int ylf, .int ylt, .int ybo])), (fv0, .inl (kI, 40, .inl g09)), (fv1, .inl (kI, 40, .inl g19)), (fv2, .inl (kZ, 40, .inl g29)), (fv3, .inl (kI, 40, .inl g39)), (fv4, .inl (kI, 40, .inl g49)), (fv5, .inl (kI, 40, .inl g59))] H := hP
  have hD : va_D A [(f0, .inr (2, [.int ytk, .int ybd, .int (nI ylv), .ref fl0, .int (nI ypr), .ref fl1, .int yac, .int yrs, .int yrl, .int (nI (yva + 1)), .ref fv0, .ref fv1, .ref fv2, .ref fv3, .ref fv4, .ref fv5, .int ycl, .int ycf, .int yct, .int ylf, .int ylt, .int ybo])), (fv0, .inl (kI, 40, .inl g09)), (fv1, .inl (kI, 40, .inl g19)), (fv2, .inl (kZ, 40, .inl g29)), (fv3, .inl (kI, 40, .inl g39)), (fv4, .inl (kI, 40, .inl g49)), (fv5, .inl (kI, 40, .inl g59))] := hD
  refine lv_iload hx hb dX2_declare_65 (lv_at hl 0 rfl) ?_
  have hP9 := hP.sub (ws' := [(f0, .inr (2, [.int ytk, .int ybd, .int (nI ylv), .ref fl0, .int (nI ypr), .ref fl1, .int yac, .int yrs, .int yrl, .int (nI (yva + 1)), .ref fv0, .ref fv1, .ref fv2, .ref fv3, .ref fv4, .ref fv5, .int ycl, .int ycf, .int yct, .int ylf, .int ylt, .int ybo])), (fv0, .inl (kI, 40, .inl g09)), (fv1, .inl (kI, 40, .inl g19)), (fv2, .inl (kZ, 40, .inl g29)), (fv3, .inl (kI, 40, .inl g39)), (fv4, .inl (kI, 40, .inl g49)), (fv5, .inl (kI, 40, .inl g59))]) [0, 1, 2, 3, 4, 5, 6] rfl
  have hD9 := hD.sub (ws' := [(f0, .inr (2, [.int ytk, .int ybd, .int (nI ylv), .ref fl0, .int (nI ypr), .ref fl1, .int yac, .int yrs, .int yrl, .int (nI (yva + 1)), .ref fv0, .ref fv1, .ref fv2, .ref fv3, .ref fv4, .ref fv5, .int ycl, .int ycf, .int yct, .int ylf, .int ylt, .int ybo])), (fv0, .inl (kI, 40, .inl g09)), (fv1, .inl (kI, 40, .inl g19)), (fv2, .inl (kZ, 40, .inl g29)), (fv3, .inl (kI, 40, .inl g39)), (fv4, .inl (kI, 40, .inl g49)), (fv5, .inl (kI, 40, .inl g59))]) [0, 1, 2, 3, 4, 5, 6] (by decide) rfl
  have hK9 := hK.sub (tys' := [(kI, .int), (kZ, .boolean)]) [0, 1] rfl
  exact W.iret (v := nI yva) hx hb hr (fun tS ht hW => ⟨⟨(nI yva), (), rfl, rfl, g09, g19, g29, g39, g49, g59, by rw [eg09, nI_clamp (by omega)], by rw [eg19, nI_clamp (by omega)], by rw [eg29, nI_clamp (by omega)], by rw [eg39, nI_clamp (by omega)], by rw [eg49, nI_clamp (by omega)], by rw [eg59, nI_clamp (by omega)], by rw [ht]; exact hP9, va_K.moved hW.alike hK9, hD9⟩, hS.F ht⟩) hS.2.2 dX2_declare_67
def wf_c_settle : List Cond := [.code yX2_settle cX2_settle 4 none, .fieldLink RX2 21 "OwnedPlaces$Function" "type" "[I", .fieldLink RX2 28 "OwnedPlaces$Function" "offset" "[I", .fieldLink RX2 56 "OwnedPlaces$Function" "cells" "I"]
def wp_c_settle : List Cond := wf_c_settle ++ (wsX20 ++ [])
theorem in_c_settle_X2 : ∀ w ∈ wsX20, w ∈ wp_c_settle := fun w h => List.mem_append_right _ (List.mem_append_left _ h)
theorem wg_c_settle : wf_c_settle.all goodWord = true := by decide +kernel
theorem wm_c_settle (k : Nat) {w : Cond} (h : wp_c_settle[k]? = some w) : w ∈ wp_c_settle := List.mem_of_getElem? h
set_option maxHeartbeats 4000000 in
set_option maxRecDepth 100000 in
theorem c_settle (l : Launch) (dC : Nat → ClassId) (dI : Nat → Nat → Nat) (f0 fl0 fl1 fv0 fv1 fv2 fv3 fv4 fv5 : Nat) (ytk ybd yac yrs yrl ycl ycf yct ylf ylt ybo : Int32) (ylv ypr yva : Nat) (vv : Nat) (kI : ClassId) (et_ eo_ : Nat → Int32) (x2 x3 : Int32) (sz : Nat) (hv : vv < 40) : Met l yX2_settle wp_c_settle ({ frames := 0, cells := 0, slots := 0, locals := 0 }) (va_Pc [.ref f0, .int (nI vv), .int x2, .int x3] (fun U => U.heap.size = sz ∧ va_P (dC, dI) vwCl [(f0, .inr (2, [.int ytk, .int ybd, .int (nI ylv), .ref fl0, .int (nI ypr), .ref fl1, .int yac, .int yrs, .int yrl, .int (nI yva), .ref fv0, .ref fv1, .ref fv2, .ref fv3, .ref fv4, .ref fv5, .int ycl, .int ycf, .int yct, .int ylf, .int ylt, .int ybo])), (fv1, .inl (kI, 40, .inl et_)), (fv3, .inl (kI, 40, .inl eo_))] U.heap ∧ va_K (dC, dI) vwCl [(kI, .int)] U ∧ va_D (fun _ => True) [(f0, .inr (2, [.int ytk, .int ybd, .int (nI ylv), .ref fl0, .int (nI ypr), .ref fl1, .int yac, .int yrs, .int yrl, .int (nI yva), .ref fv0, .ref fv1, .ref fv2, .ref fv3, .ref fv4, .ref fv5, .int ycl, .int ycf, .int yct, .int ylf, .int ylt, .int ybo])), (fv1, .inl (kI, 40, .inl et_)), (fv3, .inl (kI, 40, .inl eo_))])) (va_Qv (fun _ : Unit => True) (fun (_ : Unit) (tS : State) => ∃ (gt_ : Nat → Int32) (go_ : Nat → Int32), (gt_ = upd et_ vv x2) ∧ (go_ = upd eo_ vv ycl) ∧ va_P (dC, dI) vwCl [(f0, .inr (2, [.int ytk, .int ybd, .int (nI ylv), .ref fl0, .int (nI ypr), .ref fl1, .int yac, .int yrs, .int yrl, .int (nI yva), .ref fv0, .ref fv1, .ref fv2, .ref fv3, .ref fv4, .ref fv5, .int (ycl + x3), .int ycf, .int yct, .int ylf, .int ylt, .int ybo])), (fv1, .inl (kI, 40, .inl gt_)), (fv3, .inl (kI, 40, .inl go_))] tS.heap ∧ va_K (dC, dI) vwCl [(kI, .int)] tS ∧ va_D (va_A [(f0, .inr (2, [.int ytk, .int ybd, .int (nI ylv), .ref fl0, .int (nI ypr), .ref fl1, .int yac, .int yrs, .int yrl, .int (nI yva), .ref fv0, .ref fv1, .ref fv2, .ref fv3, .ref fv4, .ref fv5, .int ycl, .int ycf, .int yct, .int ylf, .int ylt, .int ybo])), (fv1, .inl (kI, 40, .inl et_)), (fv3, .inl (kI, 40, .inl eo_))] sz) [(f0, .inr (2, [.int ytk, .int ybd, .int (nI ylv), .ref fl0, .int (nI ypr), .ref fl1, .int yac, .int yrs, .int yrl, .int (nI yva), .ref fv0, .ref fv1, .ref fv2, .ref fv3, .ref fv4, .ref fv5, .int (ycl + x3), .int ycf, .int yct, .int ylf, .int ylt, .int ybo])), (fv1, .inl (kI, 40, .inl gt_)), (fv3, .inl (kI, 40, .inl go_))]) (va_A [(f0, .inr (2, [.int ytk, .int ybd, .int (nI ylv), .ref fl0, .int (nI ypr), .ref fl1, .int yac, .int yrs, .int yrl, .int (nI yva), .ref fv0, .ref fv1, .ref fv2, .ref fv3, .ref fv4, .ref fv5, .int ycl, .int ycf, .int yct, .int ylf, .int ylt, .int ybo])), (fv1, .inl (kI, 40, .inl et_)), (fv3, .inl (kI, 40, .inl eo_))] sz)) 0 0 (va_A [(f0, .inr (2, [.int ytk, .int ybd, .int (nI ylv), .ref fl0, .int (nI ypr), .ref fl1, .int yac, .int yrs, .int yrl, .int (nI yva), .ref fv0, .ref fv1, .ref fv2, .ref fv3, .ref fv4, .ref fv5, .int ycl, .int ycf, .int yct, .int ylf, .int ylt, .int ybo])), (fv1, .inl (kI, 40, .inl et_)), (fv3, .inl (kI, 40, .inl eo_))] sz) := by
  refine Met.ofW (cc := cX2_settle) (maxL := 4) (ret := none) (by decide) rfl ?_
  intro p e s m args below meth c s₁ B hml hv
  obtain ⟨rfl, hsz, hP, hK, hD0⟩ := hv
  have hx := B.exec
  have hb := B.bytes
  have hr := B.returns
  have hts := atoms_spec (ws := wp_c_settle) B.pre
  have hown : s.vm.findClass RX2 = some m.cls := findClass_of_methodNamed B.named
  have hlocks := B.notSynchronized
  subst hsz
  have hD := hD0.self (sz := s.heap.size)
  generalize hAe : va_A [(f0, .inr (2, [.int ytk, .int ybd, .int (nI ylv), .ref fl0, .int (nI ypr), .ref fl1, .int yac, .int yrs, .int yrl, .int (nI yva), .ref fv0, .ref fv1, .ref fv2, .ref fv3, .ref fv4, .ref fv5, .int ycl, .int ycf, .int yct, .int ylf, .int ylt, .int ybo])), (fv1, .inl (kI, 40, .inl et_)), (fv3, .inl (kI, 40, .inl eo_))] s.heap.size = A at hD ⊢
  have hA : ∀ q : Nat, s.heap.size ≤ q → A q := fun q h => by rw [← hAe]; exact Or.inr h
  have hS : va_S A s.heap s.heap [] := va_S.rf
  have hP : va_P (dC, dI) vwCl [(f0, .inr (2, [.int ytk, .int ybd, .int (nI ylv), .ref fl0, .int (nI ypr), .ref fl1, .int yac, .int yrs, .int yrl, .int (nI yva), .ref fv0, .ref fv1, .ref fv2, .ref fv3, .ref fv4, .ref fv5, .int ycl, .int ycf, .int yct, .int ylf, .int ylt, .int ybo])), (fv1, .inl (kI, 40, .inl et_)), (fv3, .inl (kI, 40, .inl eo_))] s.heap := hP
  have hl := lv_entry ([.ref f0, .int (nI vv), .int x2, .int x3]) (n := 4) (Nat.le_of_ble_eq_true rfl)
  rw [lg_entry_eq]
  generalize (lg_sl ([.ref f0, .int (nI vv), .int x2, .int x3]) ++ List.replicate (4 - (lg_sl ([.ref f0, .int (nI vv), .int x2, .int x3])).length) Slot.unset).toArray = ls at hl ⊢
  have hl : lv_has ls 4 [(0, .ref f0), (1, .int (nI vv)), (2, .int x2), (3, .int x3)] := hl
  refine lv_aload_n hx hb dX2_settle_0 rfl (lv_at hl 0 rfl) ?_
  refine va_get (D := (dC, dI)) (ci := 2) (v := .ref fv1) (C := RX2) (T := TX2) (N := 22) hx hb hts in_c_settle_X2 hown hK hP 0 rfl rfl 11 (by decide) (hts (.fieldLink RX2 21 "OwnedPlaces$Function" "type" "[I") (wm_c_settle 1 rfl)) (fun _ h9 => h9) rfl dX2_settle_1 ?_
  refine lv_iload_n hx hb dX2_settle_4 rfl (lv_at hl 1 rfl) ?_
  refine lv_iload_n hx hb dX2_settle_5 rfl (lv_at hl 2 rfl) ?_
  refine va_iast hx hb hK hP hD hS 1 0 rfl rfl (vp_in_nI hv (by decide)) dX2_settle_6 (fun H locs hP hD hS => ?_)
  have hP : va_P (dC, dI) vwCl [(f0, .inr (2, [.int ytk, .int ybd, .int (nI ylv), .ref fl0, .int (nI ypr), .ref fl1, .int yac, .int yrs, .int yrl, .int (nI yva), .ref fv0, .ref fv1, .ref fv2, .ref fv3, .ref fv4, .ref fv5, .int ycl, .int ycf, .int yct, .int ylf, .int ylt, .int ybo])), (fv1, .inl (kI, 40, .inl (upd et_ (nI vv : Int32).toNatClampNeg x2))), (fv3, .inl (kI, 40, .inl eo_))] H := hP
  have hD : va_D A [(f0, .inr (2, [.int ytk, .int ybd, .int (nI ylv), .ref fl0, .int (nI ypr), .ref fl1, .int yac, .int yrs, .int yrl, .int (nI yva), .ref fv0, .ref fv1, .ref fv2, .ref fv3, .ref fv4, .ref fv5, .int ycl, .int ycf, .int yct, .int ylf, .int ylt, .int ybo])), (fv1, .inl (kI, 40, .inl (upd et_ (nI vv : Int32).toNatClampNeg x2))), (fv3, .inl (kI, 40, .inl eo_))] := hD
  obtain ⟨g19, eg19⟩ : ∃ zZ : Nat → Int32, zZ = upd et_ (nI vv : Int32).toNatClampNeg x2 := ⟨_, rfl⟩
  rw [← eg19] at hP hD
  refine lv_aload_n hx hb dX2_settle_7 rfl (lv_at hl 0 rfl) ?_
  refine va_get (D := (dC, dI)) (ci := 2) (v := .ref fv3) (C := RX2) (T := TX2) (N := 22) hx hb hts in_c_settle_X2 hown hK hP 0 rfl rfl 13 (by decide) (hts (.fieldLink RX2 28 "OwnedPlaces$Function" "offset" "[I") (wm_c_settle 2 rfl)) (fun _ h9 => h9) rfl dX2_settle_8 ?_
  refine lv_iload_n hx hb dX2_settle_11 rfl (lv_at hl 1 rfl) ?_
  refine lv_aload_n hx hb dX2_settle_12 rfl (lv_at hl 0 rfl) ?_
  refine va_get (D := (dC, dI)) (ci := 2) (v := .int ycl) (C := RX2) (T := TX2) (N := 22) hx hb hts in_c_settle_X2 hown hK hP 0 rfl rfl 16 (by decide) (hts (.fieldLink RX2 56 "OwnedPlaces$Function" "cells" "I") (wm_c_settle 3 rfl)) (fun _ h9 => h9) rfl dX2_settle_13 ?_
  refine va_iast hx hb hK hP hD hS 2 0 rfl rfl (vp_in_nI hv (by decide)) dX2_settle_16 (fun H locs hP hD hS => ?_)
  have hP : va_P (dC, dI) vwCl [(f0, .inr (2, [.int ytk, .int ybd, .int (nI ylv), .ref fl0, .int (nI ypr), .ref fl1, .int yac, .int yrs, .int yrl, .int (nI yva), .ref fv0, .ref fv1, .ref fv2, .ref fv3, .ref fv4, .ref fv5, .int ycl, .int ycf, .int yct, .int ylf, .int ylt, .int ybo])), (fv1, .inl (kI, 40, .inl g19)), (fv3, .inl (kI, 40, .inl (upd eo_ (nI vv : Int32).toNatClampNeg ycl)))] H := hP
  have hD : va_D A [(f0, .inr (2, [.int ytk, .int ybd, .int (nI ylv), .ref fl0, .int (nI ypr), .ref fl1, .int yac, .int yrs, .int yrl, .int (nI yva), .ref fv0, .ref fv1, .ref fv2, .ref fv3, .ref fv4, .ref fv5, .int ycl, .int ycf, .int yct, .int ylf, .int ylt, .int ybo])), (fv1, .inl (kI, 40, .inl g19)), (fv3, .inl (kI, 40, .inl (upd eo_ (nI vv : Int32).toNatClampNeg ycl)))] := hD
  obtain ⟨g29, eg29⟩ : ∃ zZ : Nat → Int32, zZ = upd eo_ (nI vv : Int32).toNatClampNeg ycl := ⟨_, rfl⟩
  rw [← eg29] at hP hD
  refine lv_aload_n hx hb dX2_settle_17 rfl (lv_at hl 0 rfl) ?_
  refine lv_dup hx hb dX2_settle_18 rfl ?_
  refine va_get (D := (dC, dI)) (ci := 2) (v := .int ycl) (C := RX2) (T := TX2) (N := 22) hx hb hts in_c_settle_X2 hown hK hP 0 rfl rfl 16 (by decide) (hts (.fieldLink RX2 56 "OwnedPlaces$Function" "cells" "I") (wm_c_settle 3 rfl)) (fun _ h9 => h9) rfl dX2_settle_19 ?_
  refine lv_iload_n hx hb dX2_settle_22 rfl (lv_at hl 3 rfl) ?_
  refine lv_iadd hx hb dX2_settle_23 ?_
  refine lv_topi (fun f_1 ef_1 => ?_)
  obtain rfl : f_1 = (ycl + x3) := ef_1
  refine va_put (D := (dC, dI)) (ci := 2) (v := .int (ycl + x3)) (ty := .int) (C := RX2) (T := TX2) (N := 22) hx hb hts in_c_settle_X2 tyX2 tyX2_ok nmX2 hown hK hP hD hS 0 rfl rfl 16 (by decide) (hts (.fieldLink RX2 56 "OwnedPlaces$Function" "cells" "I") (wm_c_settle 3 rfl)) (fun _ h9 => h9) rfl (by decide +kernel) rfl rfl (Nat.le_of_ble_eq_true rfl) dX2_settle_24 (fun H locs hP hD hS => ?_)
  have hP : va_P (dC, dI) vwCl [(f0, .inr (2, [.int ytk, .int ybd, .int (nI ylv), .ref fl0, .int (nI ypr), .ref fl1, .int yac, .int yrs, .int yrl, .int (nI yva), .ref fv0, .ref fv1, .ref fv2, .ref fv3, .ref fv4, .ref fv5, .int (ycl + x3), .int ycf, .int yct, .int ylf, .int ylt, .int ybo])), (fv1, .inl (kI, 40, .inl g19)), (fv3, .inl (kI, 40, .inl g29))] H := hP
  have hD : va_D A [(f0, .inr (2, [.int ytk, .int ybd, .int (nI ylv), .ref fl0, .int (nI ypr), .ref fl1, .int yac, .int yrs, .int yrl, .int (nI yva), .ref fv0, .ref fv1, .ref fv2, .ref fv3, .ref fv4, .ref fv5, .int (ycl + x3), .int ycf, .int yct, .int ylf, .int ylt, .int ybo])), (fv1, .inl (kI, 40, .inl g19)), (fv3, .inl (kI, 40, .inl g29))] := hD
  have hP9 := hP.sub (ws' := [(f0, .inr (2, [.int ytk, .int ybd, .int (nI ylv), .ref fl0, .int (nI ypr), .ref fl1, .int yac, .int yrs, .int yrl, .int (nI yva), .ref fv0, .ref fv1, .ref fv2, .ref fv3, .ref fv4, .ref fv5, .int (ycl + x3), .int ycf, .int yct, .int ylf, .int ylt, .int ybo])), (fv1, .inl (kI, 40, .inl g19)), (fv3, .inl (kI, 40, .inl g29))]) [0, 1, 2] rfl
  have hD9 := hD.sub (ws' := [(f0, .inr (2, [.int ytk, .int ybd, .int (nI ylv), .ref fl0, .int (nI ypr), .ref fl1, .int yac, .int yrs, .int yrl, .int (nI yva), .ref fv0, .ref fv1, .ref fv2, .ref fv3, .ref fv4, .ref fv5, .int (ycl + x3), .int ycf, .int yct, .int ylf, .int ylt, .int ybo])), (fv1, .inl (kI, 40, .inl g19)), (fv3, .inl (kI, 40, .inl g29))]) [0, 1, 2] (by decide) rfl
  have hK9 := hK.sub (tys' := [(kI, .int)]) [0] rfl
  exact W.vret hx hb hr (fun tS ht hW => ⟨⟨(), rfl, trivial, g19, g29, by rw [eg19, nI_clamp (by omega)], by rw [eg29, nI_clamp (by omega)], by rw [ht]; exact hP9, va_K.moved hW.alike hK9, hD9⟩, hS.F ht⟩) hS.2.2 dX2_settle_27
def wf_c_find : List Cond := [.code yX2_find cX2_find 3 (some .int), .fieldLink RX2 53 "OwnedPlaces$Function" "variables" "I", .fieldLink RX2 18 "OwnedPlaces$Function" "name" "[I", .fieldLink RX2 34 "OwnedPlaces$Function" "to" "[I", .constant RX2 62 1073741824]
def wp_c_find : List Cond := wf_c_find ++ (wsX20 ++ [])
theorem in_c_find_X2 : ∀ w ∈ wsX20, w ∈ wp_c_find := fun w h => List.mem_append_right _ (List.mem_append_left _ h)
theorem wg_c_find : wf_c_find.all goodWord = true := by decide +kernel
theorem wm_c_find (k : Nat) {w : Cond} (h : wp_c_find[k]? = some w) : w ∈ wp_c_find := List.mem_of_getElem? h
set_option maxHeartbeats 4000000 in
set_option maxRecDepth 100000 in
theorem c_find (l : Launch) (dC : Nat → ClassId) (dI : Nat → Nat → Nat) (f0 fl0 fl1 fv0 fv1 fv2 fv3 fv4 fv5 : Nat) (ytk ybd yac yrs yrl ycl ycf yct ylf ylt ybo : Int32) (ylv ypr yva : Nat) (kI : ClassId) (en_ ez_ : Nat → Int32) (x1 : Int32) (sz : Nat) (hv : yva ≤ 40) : Met l yX2_find wp_c_find ({ frames := 0, cells := 0, slots := 0, locals := 0 }) (va_Pc [.ref f0, .int x1] (fun U => U.heap.size = sz ∧ va_P (dC, dI) vwCl [(f0, .inr (2, [.int ytk, .int ybd, .int (nI ylv), .ref fl0, .int (nI ypr), .ref fl1, .int yac, .int yrs, .int yrl, .int (nI yva), .ref fv0, .ref fv1, .ref fv2, .ref fv3, .ref fv4, .ref fv5, .int ycl, .int ycf, .int yct, .int ylf, .int ylt, .int ybo])), (fv0, .inl (kI, 40, .inl en_)), (fv5, .inl (kI, 40, .inl ez_))] U.heap ∧ va_K (dC, dI) vwCl [(kI, .int)] U ∧ va_D (fun _ => True) [(f0, .inr (2, [.int ytk, .int ybd, .int (nI ylv), .ref fl0, .int (nI ypr), .ref fl1, .int yac, .int yrs, .int yrl, .int (nI yva), .ref fv0, .ref fv1, .ref fv2, .ref fv3, .ref fv4, .ref fv5, .int ycl, .int ycf, .int yct, .int ylf, .int ylt, .int ybo])), (fv0, .inl (kI, 40, .inl en_)), (fv5, .inl (kI, 40, .inl ez_))])) (va_Qi (fun (r : Int32) (_ : Unit) => r = -1 ∨ ∃ v : Nat, r = nI v ∧ v < yva ∧ en_ v = x1 ∧ ez_ v = 1073741824) (fun (_ : Unit) (tS : State) => va_P (dC, dI) vwCl [(f0, .inr (2, [.int ytk, .int ybd, .int (nI ylv), .ref fl0, .int (nI ypr), .ref fl1, .int yac, .int yrs, .int yrl, .int (nI yva), .ref fv0, .ref fv1, .ref fv2, .ref fv3, .ref fv4, .ref fv5, .int ycl, .int ycf, .int yct, .int ylf, .int ylt, .int ybo])), (fv0, .inl (kI, 40, .inl en_)), (fv5, .inl (kI, 40, .inl ez_))] tS.heap ∧ va_K (dC, dI) vwCl [(kI, .int)] tS ∧ va_D (va_A [(f0, .inr (2, [.int ytk, .int ybd, .int (nI ylv), .ref fl0, .int (nI ypr), .ref fl1, .int yac, .int yrs, .int yrl, .int (nI yva), .ref fv0, .ref fv1, .ref fv2, .ref fv3, .ref fv4, .ref fv5, .int ycl, .int ycf, .int yct, .int ylf, .int ylt, .int ybo])), (fv0, .inl (kI, 40, .inl en_)), (fv5, .inl (kI, 40, .inl ez_))] sz) [(f0, .inr (2, [.int ytk, .int ybd, .int (nI ylv), .ref fl0, .int (nI ypr), .ref fl1, .int yac, .int yrs, .int yrl, .int (nI yva), .ref fv0, .ref fv1, .ref fv2, .ref fv3, .ref fv4, .ref fv5, .int ycl, .int ycf, .int yct, .int ylf, .int ylt, .int ybo])), (fv0, .inl (kI, 40, .inl en_)), (fv5, .inl (kI, 40, .inl ez_))]) (va_A [(f0, .inr (2, [.int ytk, .int ybd, .int (nI ylv), .ref fl0, .int (nI ypr), .ref fl1, .int yac, .int yrs, .int yrl, .int (nI yva), .ref fv0, .ref fv1, .ref fv2, .ref fv3, .ref fv4, .ref fv5, .int ycl, .int ycf, .int yct, .int ylf, .int ylt, .int ybo])), (fv0, .inl (kI, 40, .inl en_)), (fv5, .inl (kI, 40, .inl ez_))] sz)) 0 0 (va_A [(f0, .inr (2, [.int ytk, .int ybd, .int (nI ylv), .ref fl0, .int (nI ypr), .ref fl1, .int yac, .int yrs, .int yrl, .int (nI yva), .ref fv0, .ref fv1, .ref fv2, .ref fv3, .ref fv4, .ref fv5, .int ycl, .int ycf, .int yct, .int ylf, .int ylt, .int ybo])), (fv0, .inl (kI, 40, .inl en_)), (fv5, .inl (kI, 40, .inl ez_))] sz) := by
  refine Met.ofW (cc := cX2_find) (maxL := 3) (ret := (some .int)) (by decide) rfl ?_
  intro p e s m args below meth c s₁ B hml hv
  obtain ⟨rfl, hsz, hP, hK, hD0⟩ := hv
  have hx := B.exec
  have hb := B.bytes
  have hr := B.returns
  have hts := atoms_spec (ws := wp_c_find) B.pre
  have hown : s.vm.findClass RX2 = some m.cls := findClass_of_methodNamed B.named
  have hlocks := B.notSynchronized
  subst hsz
  have hD := hD0.self (sz := s.heap.size)
  generalize hAe : va_A [(f0, .inr (2, [.int ytk, .int ybd, .int (nI ylv), .ref fl0, .int (nI ypr), .ref fl1, .int yac, .int yrs, .int yrl, .int (nI yva), .ref fv0, .ref fv1, .ref fv2, .ref fv3, .ref fv4, .ref fv5, .int ycl, .int ycf, .int yct, .int ylf, .int ylt, .int ybo])), (fv0, .inl (kI, 40, .inl en_)), (fv5, .inl (kI, 40, .inl ez_))] s.heap.size = A at hD ⊢
  have hA : ∀ q : Nat, s.heap.size ≤ q → A q := fun q h => by rw [← hAe]; exact Or.inr h
  have hS : va_S A s.heap s.heap [] := va_S.rf
  have hP : va_P (dC, dI) vwCl [(f0, .inr (2, [.int ytk, .int ybd, .int (nI ylv), .ref fl0, .int (nI ypr), .ref fl1, .int yac, .int yrs, .int yrl, .int (nI yva), .ref fv0, .ref fv1, .ref fv2, .ref fv3, .ref fv4, .ref fv5, .int ycl, .int ycf, .int yct, .int ylf, .int ylt, .int ybo])), (fv0, .inl (kI, 40, .inl en_)), (fv5, .inl (kI, 40, .inl ez_))] s.heap := hP
  have hl := lv_entry ([.ref f0, .int x1]) (n := 3) (Nat.le_of_ble_eq_true rfl)
  rw [lg_entry_eq]
  generalize (lg_sl ([.ref f0, .int x1]) ++ List.replicate (3 - (lg_sl ([.ref f0, .int x1])).length) Slot.unset).toArray = ls at hl ⊢
  have hl : lv_has ls 3 [(0, .ref f0), (1, .int x1)] := hl
  refine lv_aload_n hx hb dX2_find_0 rfl (lv_at hl 0 rfl) ?_
  refine va_get (D := (dC, dI)) (ci := 2) (v := .int (nI yva)) (C := RX2) (T := TX2) (N := 22) hx hb hts in_c_find_X2 hown hK hP 0 rfl rfl 9 (by decide) (hts (.fieldLink RX2 53 "OwnedPlaces$Function" "variables" "I") (wm_c_find 1 rfl)) (fun _ h9 => h9) rfl dX2_find_1 ?_
  refine lv_iconst (v := 1) hx hb dX2_find_4 (by decide) ?_
  refine lv_isub hx hb dX2_find_5 ?_
  refine lv_topi (fun f_1 ef_1 => ?_)
  obtain rfl : f_1 = (nI yva - 1) := ef_1
  refine lv_istore_n (lv' := [(2, .int (nI yva - 1)), (0, .ref f0), (1, .int x1)]) hx hb dX2_find_6 rfl hl (by decide) rfl (fun ls hl => ?_)
  refine W_q (fun Q1 hQ1 => ?_)
  have key1 : ∀ (n1 : Nat) (j : Nat) (H : Heap) (locs : List Loc) (ls : Array Slot), (j + 1 = n1 + 0 ∧ j ≤ yva) → va_P (dC, dI) vwCl [(f0, .inr (2, [.int ytk, .int ybd, .int (nI ylv), .ref fl0, .int (nI ypr), .ref fl1, .int yac, .int yrs, .int yrl, .int (nI yva), .ref fv0, .ref fv1, .ref fv2, .ref fv3, .ref fv4, .ref fv5, .int ycl, .int ycf, .int yct, .int ylf, .int ylt, .int ybo])), (fv0, .inl (kI, 40, .inl en_)), (fv5, .inl (kI, 40, .inl ez_))] H → va_D A [(f0, .inr (2, [.int ytk, .int ybd, .int (nI ylv), .ref fl0, .int (nI ypr), .ref fl1, .int yac, .int yrs, .int yrl, .int (nI yva), .ref fv0, .ref fv1, .ref fv2, .ref fv3, .ref fv4, .ref fv5, .int ycl, .int ycf, .int yct, .int ylf, .int ylt, .int ybo])), (fv0, .inl (kI, 40, .inl en_)), (fv5, .inl (kI, 40, .inl ez_))] → va_S A s.heap H locs → lv_has ls 3 [(2, .int (nI j - 1)), (0, .ref f0), (1, .int x1)] → W p l e (headSpec wp_c_find ({ frames := 0, cells := 0, slots := 0, locals := 0 })).room s m ([.ref f0, .int x1] : List Value).toArray below meth c H locs 0 0 Q1 (F0 m 7 ls []) := by
    intro n1
    induction n1 with
    | zero => intro j H locs ls hb0; exact absurd hb0 (by omega)
    | succ n1 ih1 =>
      intro j H locs ls hb0 hP hD hS hl
      refine lv_iload_n hx hb dX2_find_7 rfl (lv_at hl 0 rfl) ?_
      refine lv_if_lt (tgt := 40) hx hb dX2_find_8 (by decide) (fun hc => ?_) (fun hc => ?_)
      · refine lv_iconst (v := (-1)) hx hb dX2_find_40 (by decide) ?_
        have hP9 := hP.sub (ws' := [(f0, .inr (2, [.int ytk, .int ybd, .int (nI ylv), .ref fl0, .int (nI ypr), .ref fl1, .int yac, .int yrs, .int yrl, .int (nI yva), .ref fv0, .ref fv1, .ref fv2, .ref fv3, .ref fv4, .ref fv5, .int ycl, .int ycf, .int yct, .int ylf, .int ylt, .int ybo])), (fv0, .inl (kI, 40, .inl en_)), (fv5, .inl (kI, 40, .inl ez_))]) [0, 1, 2] rfl
        have hD9 := hD.sub (ws' := [(f0, .inr (2, [.int ytk, .int ybd, .int (nI ylv), .ref fl0, .int (nI ypr), .ref fl1, .int yac, .int yrs, .int yrl, .int (nI yva), .ref fv0, .ref fv1, .ref fv2, .ref fv3, .ref fv4, .ref fv5, .int ycl, .int ycf, .int yct, .int ylf, .int ylt, .int ybo])), (fv0, .inl (kI, 40, .inl en_)), (fv5, .inl (kI, 40, .inl ez_))]) [0, 1, 2] (by decide) rfl
        have hK9 := hK.sub (tys' := [(kI, .int)]) [0] rfl
        subst hQ1
        exact W.iret (v := (-1)) hx hb hr (fun tS ht hW => ⟨⟨(-1), (), rfl, (Or.inl rfl), by rw [ht]; exact hP9, va_K.moved hW.alike hK9, hD9⟩, hS.F ht⟩) hS.2.2 dX2_find_41
      · obtain ⟨j1, rfl⟩ : ∃ j1, j = j1 + 1 := by rcases Nat.eq_zero_or_pos j with z8 | z8; exact absurd (show nI j - 1 < 0 by rw [z8]; decide) hc; exact ⟨j - 1, by omega⟩
        have ej : nI (j1 + 1) - 1 = nI j1 := nI_pred j1
        rw [ej] at hl
        refine lv_aload_n hx hb dX2_find_11 rfl (lv_at hl 1 rfl) ?_
        refine va_get (D := (dC, dI)) (ci := 2) (v := .ref fv0) (C := RX2) (T := TX2) (N := 22) hx hb hts in_c_find_X2 hown hK hP 0 rfl rfl 10 (by decide) (hts (.fieldLink RX2 18 "OwnedPlaces$Function" "name" "[I") (wm_c_find 2 rfl)) (fun _ h9 => h9) rfl dX2_find_12 ?_
        refine lv_iload_n hx hb dX2_find_15 rfl (lv_at hl 0 rfl) ?_
        refine va_iald hx hb hK hP 1 0 rfl rfl (vp_in_nI (by omega) (by decide)) dX2_find_16 ?_
        refine lv_topi (fun v_2 ev_2 => ?_)
        have hv1 : v_2 = en_ j1 := ev_2.trans (by rw [nI_clamp (by omega)])
        refine lv_iload_n hx hb dX2_find_17 rfl (lv_at hl 2 rfl) ?_
        refine lv_icmp_ne (tgt := 34) hx hb dX2_find_18 (by decide) (fun hd => ?_) (fun hd => ?_)
        · obtain ⟨x_3, ex_3⟩ : ∃ yY : Int32, yY = (nI j1) + (-1) := ⟨_, rfl⟩
          refine lv_iinc (v := x_3) (lv' := [(2, .int x_3), (0, .ref f0), (1, .int x1)]) hx hb dX2_find_34 hl (k := 0) rfl (by rw [ex_3]; rfl) (by decide) rfl (fun ls hl => ?_)
          obtain rfl : x_3 = (nI j1 - 1) := by rw [ex_3]; exact (Int32.sub_eq_add_neg (a := nI j1) (b := 1)).symm
          have hl : lv_has ls 3 [(2, .int (nI j1 - 1)), (0, .ref f0), (1, .int x1)] := hl
          refine lv_goto (tgt := 7) hx hb dX2_find_37 (by decide) ?_
          exact ih1 j1 _ _ _ (by omega) (hP.sub [0, 1, 2] rfl) (hD.sub [0, 1, 2] (by decide) rfl) hS (lv_sub hl [0, 1, 2] rfl)
        · refine lv_aload_n hx hb dX2_find_21 rfl (lv_at hl 1 rfl) ?_
          refine va_get (D := (dC, dI)) (ci := 2) (v := .ref fv5) (C := RX2) (T := TX2) (N := 22) hx hb hts in_c_find_X2 hown hK hP 0 rfl rfl 15 (by decide) (hts (.fieldLink RX2 34 "OwnedPlaces$Function" "to" "[I") (wm_c_find 3 rfl)) (fun _ h9 => h9) rfl dX2_find_22 ?_
          refine lv_iload_n hx hb dX2_find_25 rfl (lv_at hl 0 rfl) ?_
          refine va_iald hx hb hK hP 2 0 rfl rfl (vp_in_nI (by omega) (by decide)) dX2_find_26 ?_
          refine lv_topi (fun v_3 ev_3 => ?_)
          have hv2 : v_3 = ez_ j1 := ev_3.trans (by rw [nI_clamp (by omega)])
          refine lv_ldc (v := 1073741824) hx hb hown (hts (.constant RX2 62 1073741824) (wm_c_find 4 rfl)) dX2_find_27 ?_
          refine lv_icmp_ne (tgt := 34) hx hb dX2_find_29 (by decide) (fun he => ?_) (fun he => ?_)
          · obtain ⟨x_4, ex_4⟩ : ∃ yY : Int32, yY = (nI j1) + (-1) := ⟨_, rfl⟩
            refine lv_iinc (v := x_4) (lv' := [(2, .int x_4), (0, .ref f0), (1, .int x1)]) hx hb dX2_find_34 hl (k := 0) rfl (by rw [ex_4]; rfl) (by decide) rfl (fun ls hl => ?_)
            obtain rfl : x_4 = (nI j1 - 1) := by rw [ex_4]; exact (Int32.sub_eq_add_neg (a := nI j1) (b := 1)).symm
            have hl : lv_has ls 3 [(2, .int (nI j1 - 1)), (0, .ref f0), (1, .int x1)] := hl
            refine lv_goto (tgt := 7) hx hb dX2_find_37 (by decide) ?_
            exact ih1 j1 _ _ _ (by omega) (hP.sub [0, 1, 2] rfl) (hD.sub [0, 1, 2] (by decide) rfl) hS (lv_sub hl [0, 1, 2] rfl)
          · refine lv_iload_n hx hb dX2_find_32 rfl (lv_at hl 0 rfl) ?_
            have hP9 := hP.sub (ws' := [(f0, .inr (2, [.int ytk, .int ybd, .int (nI ylv), .ref fl0, .int (nI ypr), .ref fl1, .int yac, .int yrs, .int yrl, .int (nI yva), .ref fv0, .ref fv1, .ref fv2, .ref fv3, .ref fv4, .ref fv5, .int ycl, .int ycf, .int yct, .int ylf, .int ylt, .int ybo])), (fv0, .inl (kI, 40, .inl en_)), (fv5, .inl (kI, 40, .inl ez_))]) [0, 1, 2] rfl
            have hD9 := hD.sub (ws' := [(f0, .inr (2, [.int ytk, .int ybd, .int (nI ylv), .ref fl0, .int (nI ypr), .ref fl1, .int yac, .int yrs, .int yrl, .int (nI yva), .ref fv0, .ref fv1, .ref fv2, .ref fv3, .ref fv4, .ref fv5, .int ycl, .int ycf, .int yct, .int ylf, .int ylt, .int ybo])), (fv0, .inl (kI, 40, .inl en_)), (fv5, .inl (kI, 40, .inl ez_))]) [0, 1, 2] (by decide) rfl
            have hK9 := hK.sub (tys' := [(kI, .int)]) [0] rfl
            subst hQ1
            exact W.iret (v := nI j1) hx hb hr (fun tS ht hW => ⟨⟨(nI j1), (), rfl, (Or.inr ⟨j1, rfl, by omega, hv1.symm.trans hd, hv2.symm.trans he⟩), by rw [ht]; exact hP9, va_K.moved hW.alike hK9, hD9⟩, hS.F ht⟩) hS.2.2 dX2_find_33
  exact key1 (yva + 1) yva _ _ _ (by omega) (hP.sub [0, 1, 2] rfl) (hD.sub [0, 1, 2] (by decide) rfl) hS (lv_sub hl [0, 1, 2] rfl)
def wf_c_lifeOf : List Cond := [.code yX2_lifeOf cX2_lifeOf 3 (some .int), .fieldLink RX2 41 "OwnedPlaces$Function" "lives" "I", .fieldLink RX2 9 "OwnedPlaces$Function" "lifeName" "[I"]
def wp_c_lifeOf : List Cond := wf_c_lifeOf ++ (wsX20 ++ [])
theorem in_c_lifeOf_X2 : ∀ w ∈ wsX20, w ∈ wp_c_lifeOf := fun w h => List.mem_append_right _ (List.mem_append_left _ h)
theorem wg_c_lifeOf : wf_c_lifeOf.all goodWord = true := by decide +kernel
theorem wm_c_lifeOf (k : Nat) {w : Cond} (h : wp_c_lifeOf[k]? = some w) : w ∈ wp_c_lifeOf := List.mem_of_getElem? h
set_option maxHeartbeats 4000000 in
set_option maxRecDepth 100000 in
theorem c_lifeOf (l : Launch) (dC : Nat → ClassId) (dI : Nat → Nat → Nat) (f0 fl0 fl1 fv0 fv1 fv2 fv3 fv4 fv5 : Nat) (ytk ybd yac yrs yrl ycl ycf yct ylf ylt ybo : Int32) (ylv ypr yva : Nat) (kI : ClassId) (el_ : Nat → Int32) (x1 : Int32) (sz : Nat) (hv : ylv ≤ 8) : Met l yX2_lifeOf wp_c_lifeOf ({ frames := 0, cells := 0, slots := 0, locals := 0 }) (va_Pc [.ref f0, .int x1] (fun U => U.heap.size = sz ∧ va_P (dC, dI) vwCl [(f0, .inr (2, [.int ytk, .int ybd, .int (nI ylv), .ref fl0, .int (nI ypr), .ref fl1, .int yac, .int yrs, .int yrl, .int (nI yva), .ref fv0, .ref fv1, .ref fv2, .ref fv3, .ref fv4, .ref fv5, .int ycl, .int ycf, .int yct, .int ylf, .int ylt, .int ybo])), (fl0, .inl (kI, 8, .inl el_))] U.heap ∧ va_K (dC, dI) vwCl [(kI, .int)] U ∧ va_D (fun _ => True) [(f0, .inr (2, [.int ytk, .int ybd, .int (nI ylv), .ref fl0, .int (nI ypr), .ref fl1, .int yac, .int yrs, .int yrl, .int (nI yva), .ref fv0, .ref fv1, .ref fv2, .ref fv3, .ref fv4, .ref fv5, .int ycl, .int ycf, .int yct, .int ylf, .int ylt, .int ybo])), (fl0, .inl (kI, 8, .inl el_))])) (va_Qi (fun (r : Int32) (_ : Unit) => r = -1 ∨ ∃ v : Nat, r = nI v ∧ v < ylv) (fun (_ : Unit) (tS : State) => va_P (dC, dI) vwCl [(f0, .inr (2, [.int ytk, .int ybd, .int (nI ylv), .ref fl0, .int (nI ypr), .ref fl1, .int yac, .int yrs, .int yrl, .int (nI yva), .ref fv0, .ref fv1, .ref fv2, .ref fv3, .ref fv4, .ref fv5, .int ycl, .int ycf, .int yct, .int ylf, .int ylt, .int ybo])), (fl0, .inl (kI, 8, .inl el_))] tS.heap ∧ va_K (dC, dI) vwCl [(kI, .int)] tS ∧ va_D (va_A [(f0, .inr (2, [.int ytk, .int ybd, .int (nI ylv), .ref fl0, .int (nI ypr), .ref fl1, .int yac, .int yrs, .int yrl, .int (nI yva), .ref fv0, .ref fv1, .ref fv2, .ref fv3, .ref fv4, .ref fv5, .int ycl, .int ycf, .int yct, .int ylf, .int ylt, .int ybo])), (fl0, .inl (kI, 8, .inl el_))] sz) [(f0, .inr (2, [.int ytk, .int ybd, .int (nI ylv), .ref fl0, .int (nI ypr), .ref fl1, .int yac, .int yrs, .int yrl, .int (nI yva), .ref fv0, .ref fv1, .ref fv2, .ref fv3, .ref fv4, .ref fv5, .int ycl, .int ycf, .int yct, .int ylf, .int ylt, .int ybo])), (fl0, .inl (kI, 8, .inl el_))]) (va_A [(f0, .inr (2, [.int ytk, .int ybd, .int (nI ylv), .ref fl0, .int (nI ypr), .ref fl1, .int yac, .int yrs, .int yrl, .int (nI yva), .ref fv0, .ref fv1, .ref fv2, .ref fv3, .ref fv4, .ref fv5, .int ycl, .int ycf, .int yct, .int ylf, .int ylt, .int ybo])), (fl0, .inl (kI, 8, .inl el_))] sz)) 0 0 (va_A [(f0, .inr (2, [.int ytk, .int ybd, .int (nI ylv), .ref fl0, .int (nI ypr), .ref fl1, .int yac, .int yrs, .int yrl, .int (nI yva), .ref fv0, .ref fv1, .ref fv2, .ref fv3, .ref fv4, .ref fv5, .int ycl, .int ycf, .int yct, .int ylf, .int ylt, .int ybo])), (fl0, .inl (kI, 8, .inl el_))] sz) := by
  refine Met.ofW (cc := cX2_lifeOf) (maxL := 3) (ret := (some .int)) (by decide) rfl ?_
  intro p e s m args below meth c s₁ B hml hv
  obtain ⟨rfl, hsz, hP, hK, hD0⟩ := hv
  have hx := B.exec
  have hb := B.bytes
  have hr := B.returns
  have hts := atoms_spec (ws := wp_c_lifeOf) B.pre
  have hown : s.vm.findClass RX2 = some m.cls := findClass_of_methodNamed B.named
  have hlocks := B.notSynchronized
  subst hsz
  have hD := hD0.self (sz := s.heap.size)
  generalize hAe : va_A [(f0, .inr (2, [.int ytk, .int ybd, .int (nI ylv), .ref fl0, .int (nI ypr), .ref fl1, .int yac, .int yrs, .int yrl, .int (nI yva), .ref fv0, .ref fv1, .ref fv2, .ref fv3, .ref fv4, .ref fv5, .int ycl, .int ycf, .int yct, .int ylf, .int ylt, .int ybo])), (fl0, .inl (kI, 8, .inl el_))] s.heap.size = A at hD ⊢
  have hA : ∀ q : Nat, s.heap.size ≤ q → A q := fun q h => by rw [← hAe]; exact Or.inr h
  have hS : va_S A s.heap s.heap [] := va_S.rf
  have hP : va_P (dC, dI) vwCl [(f0, .inr (2, [.int ytk, .int ybd, .int (nI ylv), .ref fl0, .int (nI ypr), .ref fl1, .int yac, .int yrs, .int yrl, .int (nI yva), .ref fv0, .ref fv1, .ref fv2, .ref fv3, .ref fv4, .ref fv5, .int ycl, .int ycf, .int yct, .int ylf, .int ylt, .int ybo])), (fl0, .inl (kI, 8, .inl el_))] s.heap := hP
  have hl := lv_entry ([.ref f0, .int x1]) (n := 3) (Nat.le_of_ble_eq_true rfl)
  rw [lg_entry_eq]
  generalize (lg_sl ([.ref f0, .int x1]) ++ List.replicate (3 - (lg_sl ([.ref f0, .int x1])).length) Slot.unset).toArray = ls at hl ⊢
  have hl : lv_has ls 3 [(0, .ref f0), (1, .int x1)] := hl
  refine lv_iconst (v := 0) hx hb dX2_lifeOf_0 (by decide) ?_
  refine lv_istore_n (lv' := [(2, .int 0), (0, .ref f0), (1, .int x1)]) hx hb dX2_lifeOf_1 rfl hl (by decide) rfl (fun ls hl => ?_)
  refine W_q (fun Q1 hQ1 => ?_)
  have key1 : ∀ (n1 : Nat) (j : Nat) (H : Heap) (locs : List Loc) (ls : Array Slot), (j + n1 = ylv + 1 ∧ j ≤ ylv) → va_P (dC, dI) vwCl [(f0, .inr (2, [.int ytk, .int ybd, .int (nI ylv), .ref fl0, .int (nI ypr), .ref fl1, .int yac, .int yrs, .int yrl, .int (nI yva), .ref fv0, .ref fv1, .ref fv2, .ref fv3, .ref fv4, .ref fv5, .int ycl, .int ycf, .int yct, .int ylf, .int ylt, .int ybo])), (fl0, .inl (kI, 8, .inl el_))] H → va_D A [(f0, .inr (2, [.int ytk, .int ybd, .int (nI ylv), .ref fl0, .int (nI ypr), .ref fl1, .int yac, .int yrs, .int yrl, .int (nI yva), .ref fv0, .ref fv1, .ref fv2, .ref fv3, .ref fv4, .ref fv5, .int ycl, .int ycf, .int yct, .int ylf, .int ylt, .int ybo])), (fl0, .inl (kI, 8, .inl el_))] → va_S A s.heap H locs → lv_has ls 3 [(2, .int (nI j)), (0, .ref f0), (1, .int x1)] → W p l e (headSpec wp_c_lifeOf ({ frames := 0, cells := 0, slots := 0, locals := 0 })).room s m ([.ref f0, .int x1] : List Value).toArray below meth c H locs 0 0 Q1 (F0 m 2 ls []) := by
    intro n1
    induction n1 with
    | zero => intro j H locs ls hb0; exact absurd hb0 (by omega)
    | succ n1 ih1 =>
      intro j H locs ls hb0 hP hD hS hl
      refine lv_iload_n hx hb dX2_lifeOf_2 rfl (lv_at hl 0 rfl) ?_
      refine lv_aload_n hx hb dX2_lifeOf_3 rfl (lv_at hl 1 rfl) ?_
      refine va_get (D := (dC, dI)) (ci := 2) (v := .int (nI ylv)) (C := RX2) (T := TX2) (N := 22) hx hb hts in_c_lifeOf_X2 hown hK hP 0 rfl rfl 2 (by decide) (hts (.fieldLink RX2 41 "OwnedPlaces$Function" "lives" "I") (wm_c_lifeOf 1 rfl)) (fun _ h9 => h9) rfl dX2_lifeOf_4 ?_
      refine lv_icmp_ge (tgt := 28) hx hb dX2_lifeOf_7 (by decide) (fun hc => ?_) (fun hc => ?_)
      · refine lv_iconst (v := (-1)) hx hb dX2_lifeOf_28 (by decide) ?_
        have hP9 := hP.sub (ws' := [(f0, .inr (2, [.int ytk, .int ybd, .int (nI ylv), .ref fl0, .int (nI ypr), .ref fl1, .int yac, .int yrs, .int yrl, .int (nI yva), .ref fv0, .ref fv1, .ref fv2, .ref fv3, .ref fv4, .ref fv5, .int ycl, .int ycf, .int yct, .int ylf, .int ylt, .int ybo])), (fl0, .inl (kI, 8, .inl el_))]) [0, 1] rfl
        have hD9 := hD.sub (ws' := [(f0, .inr (2, [.int ytk, .int ybd, .int (nI ylv), .ref fl0, .int (nI ypr), .ref fl1, .int yac, .int yrs, .int yrl, .int (nI yva), .ref fv0, .ref fv1, .ref fv2, .ref fv3, .ref fv4, .ref fv5, .int ycl, .int ycf, .int yct, .int ylf, .int ylt, .int ybo])), (fl0, .inl (kI, 8, .inl el_))]) [0, 1] (by decide) rfl
        have hK9 := hK.sub (tys' := [(kI, .int)]) [0] rfl
        subst hQ1
        exact W.iret (v := (-1)) hx hb hr (fun tS ht hW => ⟨⟨(-1), (), rfl, (Or.inl rfl), by rw [ht]; exact hP9, va_K.moved hW.alike hK9, hD9⟩, hS.F ht⟩) hS.2.2 dX2_lifeOf_29
      · have hj : j < ylv := by rcases Nat.lt_or_ge j ylv with q | q; exact q; exact absurd (nI_le q (by omega)) hc
        refine lv_aload_n hx hb dX2_lifeOf_10 rfl (lv_at hl 1 rfl) ?_
        refine va_get (D := (dC, dI)) (ci := 2) (v := .ref fl0) (C := RX2) (T := TX2) (N := 22) hx hb hts in_c_lifeOf_X2 hown hK hP 0 rfl rfl 3 (by decide) (hts (.fieldLink RX2 9 "OwnedPlaces$Function" "lifeName" "[I") (wm_c_lifeOf 2 rfl)) (fun _ h9 => h9) rfl dX2_lifeOf_11 ?_
        refine lv_iload_n hx hb dX2_lifeOf_14 rfl (lv_at hl 0 rfl) ?_
        refine va_iald hx hb hK hP 1 0 rfl rfl (vp_in_nI (by omega) (by decide)) dX2_lifeOf_15 ?_
        refine lv_topi (fun v_1 ev_1 => ?_)
        refine lv_iload_n hx hb dX2_lifeOf_16 rfl (lv_at hl 2 rfl) ?_
        refine lv_icmp_ne (tgt := 22) hx hb dX2_lifeOf_17 (by decide) (fun hd => ?_) (fun hd => ?_)
        · obtain ⟨x_2, ex_2⟩ : ∃ yY : Int32, yY = (nI j) + 1 := ⟨_, rfl⟩
          refine lv_iinc (v := x_2) (lv' := [(2, .int x_2), (0, .ref f0), (1, .int x1)]) hx hb dX2_lifeOf_22 hl (k := 0) rfl (by rw [ex_2]; rfl) (by decide) rfl (fun ls hl => ?_)
          obtain rfl : x_2 = nI (j + 1) := by rw [ex_2]; exact nI_1 j
          have hl : lv_has ls 3 [(2, .int (nI (j + 1))), (0, .ref f0), (1, .int x1)] := hl
          refine lv_goto (tgt := 2) hx hb dX2_lifeOf_25 (by decide) ?_
          exact ih1 (j + 1) _ _ _ (by omega) (hP.sub [0, 1] rfl) (hD.sub [0, 1] (by decide) rfl) hS (lv_sub hl [0, 1, 2] rfl)
        · refine lv_iload_n hx hb dX2_lifeOf_20 rfl (lv_at hl 0 rfl) ?_
          have hP9 := hP.sub (ws' := [(f0, .inr (2, [.int ytk, .int ybd, .int (nI ylv), .ref fl0, .int (nI ypr), .ref fl1, .int yac, .int yrs, .int yrl, .int (nI yva), .ref fv0, .ref fv1, .ref fv2, .ref fv3, .ref fv4, .ref fv5, .int ycl, .int ycf, .int yct, .int ylf, .int ylt, .int ybo])), (fl0, .inl (kI, 8, .inl el_))]) [0, 1] rfl
          have hD9 := hD.sub (ws' := [(f0, .inr (2, [.int ytk, .int ybd, .int (nI ylv), .ref fl0, .int (nI ypr), .ref fl1, .int yac, .int yrs, .int yrl, .int (nI yva), .ref fv0, .ref fv1, .ref fv2, .ref fv3, .ref fv4, .ref fv5, .int ycl, .int ycf, .int yct, .int ylf, .int ylt, .int ybo])), (fl0, .inl (kI, 8, .inl el_))]) [0, 1] (by decide) rfl
          have hK9 := hK.sub (tys' := [(kI, .int)]) [0] rfl
          subst hQ1
          exact W.iret (v := nI j) hx hb hr (fun tS ht hW => ⟨⟨(nI j), (), rfl, (Or.inr ⟨j, rfl, hj⟩), by rw [ht]; exact hP9, va_K.moved hW.alike hK9, hD9⟩, hS.F ht⟩) hS.2.2 dX2_lifeOf_21
  exact key1 (ylv + 1) 0 _ _ _ (by omega) (hP.sub [0, 1] rfl) (hD.sub [0, 1] (by decide) rfl) hS (lv_sub hl [0, 1, 2] rfl)
/-- each end from v0 on, below va, at most x -/
def clO (v0 va : Nat) (x : Int32) (f g : Nat → Int32) : Prop := ∀ j, (v0 ≤ j ∧ j < va → g j = (if x < f j then x else f j)) ∧ (¬ (v0 ≤ j ∧ j < va) → g j = f j)
theorem clO_step {v0 j : Nat} {x y : Int32} {f g : Nat → Int32} (h : clO v0 j x f g) (h0 : v0 ≤ j) (hy : y = if x < g j then x else g j) : clO v0 (j + 1) x f (upd g j y) := by
  intro i
  by_cases e9 : i = j
  · subst e9
    rw [pk_us, hy, (h i).2 (by omega)]
    exact ⟨fun _ => rfl, fun q => absurd ⟨by omega, by omega⟩ q⟩
  · rw [pk_un e9]
    exact ⟨fun q => (h i).1 ⟨q.1, by omega⟩, fun q => (h i).2 (fun z => q ⟨z.1, by omega⟩)⟩
def wf_c_close : List Cond := [.code yX2_close cX2_close 4 none, .fieldLink RX2 53 "OwnedPlaces$Function" "variables" "I", .fieldLink RX2 34 "OwnedPlaces$Function" "to" "[I", .methodLink RX2 63 Lib.Math.min.name, .static Lib.Math.min.name, .initialized "java/lang/Math", .code Lib.Math.min.name Lib.Math.min.code 2 (some .int)]
def wp_c_close : List Cond := wf_c_close ++ (wsX20 ++ [])
theorem in_c_close_X2 : ∀ w ∈ wsX20, w ∈ wp_c_close := fun w h => List.mem_append_right _ (List.mem_append_left _ h)
theorem wg_c_close : wf_c_close.all goodWord = true := by decide +kernel
theorem wm_c_close (k : Nat) {w : Cond} (h : wp_c_close[k]? = some w) : w ∈ wp_c_close := List.mem_of_getElem? h
set_option maxHeartbeats 4000000 in
set_option maxRecDepth 100000 in
theorem c_close (l : Launch) (dC : Nat → ClassId) (dI : Nat → Nat → Nat) (f0 fl0 fl1 fv0 fv1 fv2 fv3 fv4 fv5 : Nat) (ytk ybd yac yrs yrl ycl ycf yct ylf ylt ybo : Int32) (ylv ypr yva : Nat) (v0 : Nat) (kI : ClassId) (ez_ : Nat → Int32) (x2 : Int32) (sz : Nat) (hv : yva ≤ 40) (hv0 : v0 ≤ yva) : Met l yX2_close wp_c_close ({ frames := 1, cells := 0, slots := 0, locals := 15 }) (va_Pc [.ref f0, .int (nI v0), .int x2] (fun U => U.heap.size = sz ∧ va_P (dC, dI) vwCl [(f0, .inr (2, [.int ytk, .int ybd, .int (nI ylv), .ref fl0, .int (nI ypr), .ref fl1, .int yac, .int yrs, .int yrl, .int (nI yva), .ref fv0, .ref fv1, .ref fv2, .ref fv3, .ref fv4, .ref fv5, .int ycl, .int ycf, .int yct, .int ylf, .int ylt, .int ybo])), (fv5, .inl (kI, 40, .inl ez_))] U.heap ∧ va_K (dC, dI) vwCl [(kI, .int)] U ∧ va_D (fun _ => True) [(f0, .inr (2, [.int ytk, .int ybd, .int (nI ylv), .ref fl0, .int (nI ypr), .ref fl1, .int yac, .int yrs, .int yrl, .int (nI yva), .ref fv0, .ref fv1, .ref fv2, .ref fv3, .ref fv4, .ref fv5, .int ycl, .int ycf, .int yct, .int ylf, .int ylt, .int ybo])), (fv5, .inl (kI, 40, .inl ez_))])) (va_Qv (fun _ : Unit => True) (fun (_ : Unit) (tS : State) => ∃ (gz_ : Nat → Int32), (clO v0 yva x2 ez_ gz_) ∧ va_P (dC, dI) vwCl [(f0, .inr (2, [.int ytk, .int ybd, .int (nI ylv), .ref fl0, .int (nI ypr), .ref fl1, .int yac, .int yrs, .int yrl, .int (nI yva), .ref fv0, .ref fv1, .ref fv2, .ref fv3, .ref fv4, .ref fv5, .int ycl, .int ycf, .int yct, .int ylf, .int ylt, .int ybo])), (fv5, .inl (kI, 40, .inl gz_))] tS.heap ∧ va_K (dC, dI) vwCl [(kI, .int)] tS ∧ va_D (va_A [(f0, .inr (2, [.int ytk, .int ybd, .int (nI ylv), .ref fl0, .int (nI ypr), .ref fl1, .int yac, .int yrs, .int yrl, .int (nI yva), .ref fv0, .ref fv1, .ref fv2, .ref fv3, .ref fv4, .ref fv5, .int ycl, .int ycf, .int yct, .int ylf, .int ylt, .int ybo])), (fv5, .inl (kI, 40, .inl ez_))] sz) [(f0, .inr (2, [.int ytk, .int ybd, .int (nI ylv), .ref fl0, .int (nI ypr), .ref fl1, .int yac, .int yrs, .int yrl, .int (nI yva), .ref fv0, .ref fv1, .ref fv2, .ref fv3, .ref fv4, .ref fv5, .int ycl, .int ycf, .int yct, .int ylf, .int ylt, .int ybo])), (fv5, .inl (kI, 40, .inl gz_))]) (va_A [(f0, .inr (2, [.int ytk, .int ybd, .int (nI ylv), .ref fl0, .int (nI ypr), .ref fl1, .int yac, .int yrs, .int yrl, .int (nI yva), .ref fv0, .ref fv1, .ref fv2, .ref fv3, .ref fv4, .ref fv5, .int ycl, .int ycf, .int yct, .int ylf, .int ylt, .int ybo])), (fv5, .inl (kI, 40, .inl ez_))] sz)) 0 0 (va_A [(f0, .inr (2, [.int ytk, .int ybd, .int (nI ylv), .ref fl0, .int (nI ypr), .ref fl1, .int yac, .int yrs, .int yrl, .int (nI yva), .ref fv0, .ref fv1, .ref fv2, .ref fv3, .ref fv4, .ref fv5, .int ycl, .int ycf, .int yct, .int ylf, .int ylt, .int ybo])), (fv5, .inl (kI, 40, .inl ez_))] sz) := by
  refine Met.ofW (cc := cX2_close) (maxL := 4) (ret := none) (by decide) rfl ?_
  intro p e s m args below meth c s₁ B hml hv
  obtain ⟨rfl, hsz, hP, hK, hD0⟩ := hv
  have hx := B.exec
  have hb := B.bytes
  have hr := B.returns
  have hts := atoms_spec (ws := wp_c_close) B.pre
  have hown : s.vm.findClass RX2 = some m.cls := findClass_of_methodNamed B.named
  have hlocks := B.notSynchronized
  subst hsz
  have hD := hD0.self (sz := s.heap.size)
  generalize hAe : va_A [(f0, .inr (2, [.int ytk, .int ybd, .int (nI ylv), .ref fl0, .int (nI ypr), .ref fl1, .int yac, .int yrs, .int yrl, .int (nI yva), .ref fv0, .ref fv1, .ref fv2, .ref fv3, .ref fv4, .ref fv5, .int ycl, .int ycf, .int yct, .int ylf, .int ylt, .int ybo])), (fv5, .inl (kI, 40, .inl ez_))] s.heap.size = A at hD ⊢
  have hA : ∀ q : Nat, s.heap.size ≤ q → A q := fun q h => by rw [← hAe]; exact Or.inr h
  have hS : va_S A s.heap s.heap [] := va_S.rf
  have hP : va_P (dC, dI) vwCl [(f0, .inr (2, [.int ytk, .int ybd, .int (nI ylv), .ref fl0, .int (nI ypr), .ref fl1, .int yac, .int yrs, .int yrl, .int (nI yva), .ref fv0, .ref fv1, .ref fv2, .ref fv3, .ref fv4, .ref fv5, .int ycl, .int ycf, .int yct, .int ylf, .int ylt, .int ybo])), (fv5, .inl (kI, 40, .inl ez_))] s.heap := hP
  have hl := lv_entry ([.ref f0, .int (nI v0), .int x2]) (n := 4) (Nat.le_of_ble_eq_true rfl)
  rw [lg_entry_eq]
  generalize (lg_sl ([.ref f0, .int (nI v0), .int x2]) ++ List.replicate (4 - (lg_sl ([.ref f0, .int (nI v0), .int x2])).length) Slot.unset).toArray = ls at hl ⊢
  have hl : lv_has ls 4 [(0, .ref f0), (1, .int (nI v0)), (2, .int x2)] := hl
  refine lv_iload_n hx hb dX2_close_0 rfl (lv_at hl 1 rfl) ?_
  refine lv_istore_n (lv' := [(3, .int (nI v0)), (0, .ref f0), (1, .int (nI v0)), (2, .int x2)]) hx hb dX2_close_1 rfl hl (by decide) rfl (fun ls hl => ?_)
  refine W_q (fun Q1 hQ1 => ?_)
  have key1 : ∀ (n1 : Nat) (j : Nat) (f1 : Nat → Int32) (H : Heap) (locs : List Loc) (ls : Array Slot), (j + n1 = yva + 1 ∧ j ≤ yva ∧ v0 ≤ j) → (clO v0 j x2 ez_ f1) → va_P (dC, dI) vwCl [(f0, .inr (2, [.int ytk, .int ybd, .int (nI ylv), .ref fl0, .int (nI ypr), .ref fl1, .int yac, .int yrs, .int yrl, .int (nI yva), .ref fv0, .ref fv1, .ref fv2, .ref fv3, .ref fv4, .ref fv5, .int ycl, .int ycf, .int yct, .int ylf, .int ylt, .int ybo])), (fv5, .inl (kI, 40, .inl f1))] H → va_D A [(f0, .inr (2, [.int ytk, .int ybd, .int (nI ylv), .ref fl0, .int (nI ypr), .ref fl1, .int yac, .int yrs, .int yrl, .int (nI yva), .ref fv0, .ref fv1, .ref fv2, .ref fv3, .ref fv4, .ref fv5, .int ycl, .int ycf, .int yct, .int ylf, .int ylt, .int ybo])), (fv5, .inl (kI, 40, .inl f1))] → va_S A s.heap H locs → lv_has ls 4 [(3, .int (nI j)), (0, .ref f0), (1, .int (nI v0)), (2, .int x2)] → W p l e (headSpec wp_c_close ({ frames := 1, cells := 0, slots := 0, locals := 15 })).room s m ([.ref f0, .int (nI v0), .int x2] : List Value).toArray below meth c H locs 0 0 Q1 (F0 m 2 ls []) := by
    intro n1
    induction n1 with
    | zero => intro j f1 H locs ls hb0 hb1; exact absurd hb0 (by omega)
    | succ n1 ih1 =>
      intro j f1 H locs ls hb0 hb1 hP hD hS hl
      refine lv_iload_n hx hb dX2_close_2 rfl (lv_at hl 0 rfl) ?_
      refine lv_aload_n hx hb dX2_close_3 rfl (lv_at hl 1 rfl) ?_
      refine va_get (D := (dC, dI)) (ci := 2) (v := .int (nI yva)) (C := RX2) (T := TX2) (N := 22) hx hb hts in_c_close_X2 hown hK hP 0 rfl rfl 9 (by decide) (hts (.fieldLink RX2 53 "OwnedPlaces$Function" "variables" "I") (wm_c_close 1 rfl)) (fun _ h9 => h9) rfl dX2_close_4 ?_
      refine lv_icmp_ge (tgt := 32) hx hb dX2_close_7 (by decide) (fun hc => ?_) (fun hc => ?_)
      · have hj : j = yva := by have := (nI_leI (a := yva) (b := j) (by omega) (by omega)).mp hc; omega
        have hP9 := hP.sub (ws' := [(f0, .inr (2, [.int ytk, .int ybd, .int (nI ylv), .ref fl0, .int (nI ypr), .ref fl1, .int yac, .int yrs, .int yrl, .int (nI yva), .ref fv0, .ref fv1, .ref fv2, .ref fv3, .ref fv4, .ref fv5, .int ycl, .int ycf, .int yct, .int ylf, .int ylt, .int ybo])), (fv5, .inl (kI, 40, .inl f1))]) [0, 1] rfl
        have hD9 := hD.sub (ws' := [(f0, .inr (2, [.int ytk, .int ybd, .int (nI ylv), .ref fl0, .int (nI ypr), .ref fl1, .int yac, .int yrs, .int yrl, .int (nI yva), .ref fv0, .ref fv1, .ref fv2, .ref fv3, .ref fv4, .ref fv5, .int ycl, .int ycf, .int yct, .int ylf, .int ylt, .int ybo])), (fv5, .inl (kI, 40, .inl f1))]) [0, 1] (by decide) rfl
        have hK9 := hK.sub (tys' := [(kI, .int)]) [0] rfl
        subst hQ1
        exact W.vret hx hb hr (fun tS ht hW => ⟨⟨(), rfl, trivial, f1, by rw [← hj]; exact hb1, by rw [ht]; exact hP9, va_K.moved hW.alike hK9, hD9⟩, hS.F ht⟩) hS.2.2 dX2_close_32
      · have hj : j < yva := by rcases Nat.lt_or_ge j yva with q | q; exact q; exact absurd (nI_le q (by omega)) hc
        refine lv_aload_n hx hb dX2_close_10 rfl (lv_at hl 1 rfl) ?_
        refine va_get (D := (dC, dI)) (ci := 2) (v := .ref fv5) (C := RX2) (T := TX2) (N := 22) hx hb hts in_c_close_X2 hown hK hP 0 rfl rfl 15 (by decide) (hts (.fieldLink RX2 34 "OwnedPlaces$Function" "to" "[I") (wm_c_close 2 rfl)) (fun _ h9 => h9) rfl dX2_close_11 ?_
        refine lv_iload_n hx hb dX2_close_14 rfl (lv_at hl 0 rfl) ?_
        refine lv_aload_n hx hb dX2_close_15 rfl (lv_at hl 1 rfl) ?_
        refine va_get (D := (dC, dI)) (ci := 2) (v := .ref fv5) (C := RX2) (T := TX2) (N := 22) hx hb hts in_c_close_X2 hown hK hP 0 rfl rfl 15 (by decide) (hts (.fieldLink RX2 34 "OwnedPlaces$Function" "to" "[I") (wm_c_close 2 rfl)) (fun _ h9 => h9) rfl dX2_close_16 ?_
        refine lv_iload_n hx hb dX2_close_19 rfl (lv_at hl 0 rfl) ?_
        refine va_iald hx hb hK hP 1 0 rfl rfl (vp_in_nI (by omega) (by decide)) dX2_close_20 ?_
        refine lv_topi (fun v_1 ev_1 => ?_)
        have hv1 : v_1 = f1 j := ev_1.trans (by rw [nI_clamp (by omega)])
        refine lv_iload_n hx hb dX2_close_21 rfl (lv_at hl 3 rfl) ?_
        refine va_mmin hx hb (by rw [hml]; exact hl.1.symm) hown (hts (.methodLink RX2 63 Lib.Math.min.name) (wm_c_close 3 rfl)) (hts (.static Lib.Math.min.name) (wm_c_close 4 rfl)) (hts (.initialized "java/lang/Math") (wm_c_close 5 rfl)) (hts (.code Lib.Math.min.name Lib.Math.min.code 2 (some .int)) (wm_c_close 6 rfl)) (Nat.le_of_ble_eq_true rfl) (Nat.le_of_ble_eq_true rfl) (Nat.zero_le _) (Nat.zero_le _) dX2_close_22 ?_
        refine lv_topi (fun f_2 ef_2 => ?_)
        refine va_iast hx hb hK hP hD hS 1 0 rfl rfl (vp_in_nI (by omega) (by decide)) dX2_close_25 (fun H locs hP hD hS => ?_)
        have hP : va_P (dC, dI) vwCl [(f0, .inr (2, [.int ytk, .int ybd, .int (nI ylv), .ref fl0, .int (nI ypr), .ref fl1, .int yac, .int yrs, .int yrl, .int (nI yva), .ref fv0, .ref fv1, .ref fv2, .ref fv3, .ref fv4, .ref fv5, .int ycl, .int ycf, .int yct, .int ylf, .int ylt, .int ybo])), (fv5, .inl (kI, 40, .inl (upd f1 (nI j : Int32).toNatClampNeg f_2)))] H := hP
        have hD : va_D A [(f0, .inr (2, [.int ytk, .int ybd, .int (nI ylv), .ref fl0, .int (nI ypr), .ref fl1, .int yac, .int yrs, .int yrl, .int (nI yva), .ref fv0, .ref fv1, .ref fv2, .ref fv3, .ref fv4, .ref fv5, .int ycl, .int ycf, .int yct, .int ylf, .int ylt, .int ybo])), (fv5, .inl (kI, 40, .inl (upd f1 (nI j : Int32).toNatClampNeg f_2)))] := hD
        obtain ⟨f2, ef2⟩ : ∃ zZ : Nat → Int32, zZ = upd f1 (nI j : Int32).toNatClampNeg f_2 := ⟨_, rfl⟩
        rw [← ef2] at hP hD
        have hcl : clO v0 (j + 1) x2 ez_ f2 := by rw [ef2, nI_clamp (by omega)]; exact clO_step hb1 (by omega) (by rw [ef_2, hv1])
        obtain ⟨x_3, ex_3⟩ : ∃ yY : Int32, yY = (nI j) + 1 := ⟨_, rfl⟩
        refine lv_iinc (v := x_3) (lv' := [(3, .int x_3), (0, .ref f0), (1, .int (nI v0)), (2, .int x2)]) hx hb dX2_close_26 hl (k := 0) rfl (by rw [ex_3]; rfl) (by decide) rfl (fun ls hl => ?_)
        obtain rfl : x_3 = nI (j + 1) := by rw [ex_3]; exact nI_1 j
        have hl : lv_has ls 4 [(3, .int (nI (j + 1))), (0, .ref f0), (1, .int (nI v0)), (2, .int x2)] := hl
        refine lv_goto (tgt := 2) hx hb dX2_close_29 (by decide) ?_
        exact ih1 (j + 1) f2 _ _ _ (by omega) hcl (hP.sub [0, 1] rfl) (hD.sub [0, 1] (by decide) rfl) hS (lv_sub hl [0, 1, 2, 3] rfl)
  exact key1 (yva + 1 - v0) v0 ez_ _ _ _ (by omega) (fun j => ⟨fun h => absurd h (by omega), fun _ => rfl⟩) (hP.sub [0, 1] rfl) (hD.sub [0, 1] (by decide) rfl) hS (lv_sub hl [0, 1, 2, 3] rfl)
