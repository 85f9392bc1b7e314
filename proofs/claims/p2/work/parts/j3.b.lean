def wf_c_xaN : List Cond := [.code yX23_add cX23_add 6 none, .fieldLink RX23 337 "OwnedPlacesModel$Exp" "list" "[LOwnedPlacesModel$Exp;", .classLink RX23 295 RX15, .arrayClass .int, .fieldLink RX23 339 "OwnedPlacesModel$Exp" "signs" "[I", .fieldLink RX23 342 "OwnedPlacesModel$Exp" "many" "I"]
def wp_c_xaN : List Cond := wf_c_xaN ++ (wsX150 ++ [])
theorem in_c_xaN_X15 : ∀ w ∈ wsX150, w ∈ wp_c_xaN := fun w h => List.mem_append_right _ (List.mem_append_left _ h)
theorem wg_c_xaN : wf_c_xaN.all goodWord = true := by decide +kernel
theorem wm_c_xaN (k : Nat) {w : Cond} (h : wp_c_xaN[k]? = some w) : w ∈ wp_c_xaN := List.mem_of_getElem? h
set_option maxHeartbeats 4000000 in
set_option maxRecDepth 100000 in
theorem c_xaN (l : Launch) (dC : Nat → ClassId) (dI : Nat → Nat → Nat) (ee o : Nat) (kx tx gx nx : Int32) (nu : Int64) (mu sg : Int32) (vo : Value) (kI kE : ClassId) (L : List Nat) (F : Nat → va_E) (sl : Nat) (sz : Nat) (ho : xO L F o) : Met l yX23_add wp_c_xaN ({ frames := 0, cells := 2, slots := 8, locals := 0 }) (va_Pc [.ref ee, .ref o, .int sg] (fun U => U.heap.size = sz ∧ va_P (dC, dI) vwCl (([(ee, .inr (15, [.int kx, .int tx, .int gx, .int nx, .int 0, .int 0, .long nu, .int mu, vo, .null, .null, .int 0, .null, .null]))] : va_W) ++ (sT L F)) U.heap ∧ va_K (dC, dI) vwCl [(kI, .int), (kE, .object RX15)] U ∧ va_D (fun _ => True) (([(ee, .inr (15, [.int kx, .int tx, .int gx, .int nx, .int 0, .int 0, .long nu, .int mu, vo, .null, .null, .int 0, .null, .null]))] : va_W) ++ (sT L F)) ∧ nsM U ∧ slN U.heap = sl)) (va_Qv (fun _ : Unit => True) (fun (_ : Unit) (tS : State) => ∃ (la2 : Nat) (sa2 : Nat) (c2 : Nat) (f2 : Nat → Option Nat) (g2 : Nat → Int32), (c2 = 4) ∧ (f2 0 = some o ∧ g2 0 = sg) ∧ (tS.heap.size ≤ sz + (2) ∧ slN tS.heap ≤ sl + (8)) ∧ va_P (dC, dI) vwCl (([(ee, .inr (15, [.int kx, .int tx, .int gx, .int nx, .int 0, .int 0, .long nu, .int mu, vo, .ref la2, .ref sa2, .int 1, .null, .null])), (la2, .inl (kE, c2, .inr (.inr (.inr (.inr f2))))), (sa2, .inl (kI, c2, .inl g2))] : va_W) ++ (sT L F)) tS.heap ∧ va_K (dC, dI) vwCl [(kI, .int), (kE, .object RX15)] tS ∧ va_D (va_A (([(ee, .inr (15, [.int kx, .int tx, .int gx, .int nx, .int 0, .int 0, .long nu, .int mu, vo, .null, .null, .int 0, .null, .null]))] : va_W) ++ (sT L F)) sz) (([(ee, .inr (15, [.int kx, .int tx, .int gx, .int nx, .int 0, .int 0, .long nu, .int mu, vo, .ref la2, .ref sa2, .int 1, .null, .null])), (la2, .inl (kE, c2, .inr (.inr (.inr (.inr f2))))), (sa2, .inl (kI, c2, .inl g2))] : va_W) ++ (sT L F))) (va_A (([(ee, .inr (15, [.int kx, .int tx, .int gx, .int nx, .int 0, .int 0, .long nu, .int mu, vo, .null, .null, .int 0, .null, .null]))] : va_W) ++ (sT L F)) sz)) 2 8 (va_A (([(ee, .inr (15, [.int kx, .int tx, .int gx, .int nx, .int 0, .int 0, .long nu, .int mu, vo, .null, .null, .int 0, .null, .null]))] : va_W) ++ (sT L F)) sz) := by
  refine Met.ofW (cc := cX23_add) (maxL := 6) (ret := none) (by decide) rfl ?_
  intro p e s m args below meth c s₁ B hml hv
  obtain ⟨rfl, hsz, hP, hK, hD0, hpre0, hpre1⟩ := hv
  have hx := B.exec
  have hb := B.bytes
  have hr := B.returns
  have hts := atoms_spec (ws := wp_c_xaN) B.pre
  have hown : s.vm.findClass RX23 = some m.cls := findClass_of_methodNamed B.named
  have hlocks := B.notSynchronized
  subst hsz
  have hD := hD0.self (sz := s.heap.size)
  generalize hAe : va_A (([(ee, .inr (15, [.int kx, .int tx, .int gx, .int nx, .int 0, .int 0, .long nu, .int mu, vo, .null, .null, .int 0, .null, .null]))] : va_W) ++ (sT L F)) s.heap.size = A at hD ⊢
  have hA : ∀ q : Nat, s.heap.size ≤ q → A q := fun q h => by rw [← hAe]; exact Or.inr h
  have hS : va_S A s.heap s.heap [] := va_S.rf
  have hP : va_P (dC, dI) vwCl (([(ee, .inr (15, [.int kx, .int tx, .int gx, .int nx, .int 0, .int 0, .long nu, .int mu, vo, .null, .null, .int 0, .null, .null]))] : va_W) ++ (sT L F)) s.heap := hP
  have hl := lv_entry ([.ref ee, .ref o, .int sg]) (n := 6) (Nat.le_of_ble_eq_true rfl)
  rw [lg_entry_eq]
  generalize (lg_sl ([.ref ee, .ref o, .int sg]) ++ List.replicate (6 - (lg_sl ([.ref ee, .ref o, .int sg])).length) Slot.unset).toArray = ls at hl ⊢
  have hl : lv_has ls 6 [(0, .ref ee), (1, .ref o), (2, .int sg)] := hl
  have hns := hpre0
  subst hpre1
  refine lv_aload_n hx hb dX23_add_0 rfl (lv_at hl 0 rfl) ?_
  refine va_get (D := (dC, dI)) (ci := 15) (v := .null) (C := RX15) (T := TX15) (N := 14) hx hb hts in_c_xaN_X15 hown hK hP 0 rfl rfl 9 (by decide) (hts (.fieldLink RX23 337 "OwnedPlacesModel$Exp" "list" "[LOwnedPlacesModel$Exp;") (wm_c_xaN 1 rfl)) (fun _ h9 => h9) rfl dX23_add_1 ?_
  refine lv_ifnonnullN hx hb dX23_add_4 ?_
  refine lv_aload_n hx hb dX23_add_7 rfl (lv_at hl 0 rfl) ?_
  refine lv_iconst (v := 4) hx hb dX23_add_8 (by decide) ?_
  refine va_newq (C := RX15) hx hb hown (hts (.classLink RX23 295 RX15) (wm_c_xaN 2 rfl)) hns.2.1 hK hP hD hS hA (by decide) (by decide +kernel) (show 4 * 4 ≤ 536870912 by omega) (show 0 + 1 ≤ 2 by omega) (show 0 + 4 ≤ 8 by omega) dX23_add_9 (fun q_1 k_2 H hK hP hD hS => ?_)
  have hP := va_P.nt hP
  have hD := va_D.nt hD
  have hP : va_P (dC, dI) vwCl (([(ee, .inr (15, [.int kx, .int tx, .int gx, .int nx, .int 0, .int 0, .long nu, .int mu, vo, .null, .null, .int 0, .null, .null])), (q_1, .inl (k_2, 4, .inr (.inr (.inr (.inr (fun _ => none))))))] : va_W) ++ (sT L F)) H := hP
  have hD : va_D A (([(ee, .inr (15, [.int kx, .int tx, .int gx, .int nx, .int 0, .int 0, .long nu, .int mu, vo, .null, .null, .int 0, .null, .null])), (q_1, .inl (k_2, 4, .inr (.inr (.inr (.inr (fun _ => none))))))] : va_W) ++ (sT L F)) := hD
  have hK : va_K (dC, dI) vwCl [(kI, .int), (kE, .object RX15), (k_2, .object RX15)] s := hK
  refine W.widen (k := 1) (n := 4) (by omega) (by omega) ?_
  refine va_put (D := (dC, dI)) (ci := 15) (v := .ref q_1) (ty := (.array (.object "OwnedPlacesModel$Exp"))) (C := RX15) (T := TX15) (N := 14) hx hb hts in_c_xaN_X15 tyX15 tyX15_ok nmX15 hown hK hP hD hS 0 rfl rfl 9 (by decide) (hts (.fieldLink RX23 337 "OwnedPlacesModel$Exp" "list" "[LOwnedPlacesModel$Exp;") (wm_c_xaN 1 rfl)) (fun _ h9 => h9) rfl (by decide +kernel) rfl rfl (Nat.le_of_ble_eq_true rfl) dX23_add_12 (fun H locs hP hD hS => ?_)
  have hP : va_P (dC, dI) vwCl (([(ee, .inr (15, [.int kx, .int tx, .int gx, .int nx, .int 0, .int 0, .long nu, .int mu, vo, .ref q_1, .null, .int 0, .null, .null])), (q_1, .inl (k_2, 4, .inr (.inr (.inr (.inr (fun _ => none))))))] : va_W) ++ (sT L F)) H := hP
  have hD : va_D A (([(ee, .inr (15, [.int kx, .int tx, .int gx, .int nx, .int 0, .int 0, .long nu, .int mu, vo, .ref q_1, .null, .int 0, .null, .null])), (q_1, .inl (k_2, 4, .inr (.inr (.inr (.inr (fun _ => none))))))] : va_W) ++ (sT L F)) := hD
  refine lv_aload_n hx hb dX23_add_15 rfl (lv_at hl 0 rfl) ?_
  refine lv_iconst (v := 4) hx hb dX23_add_16 (by decide) ?_
  refine va_newa (atype := .int) (a0 := (4, .inl (fun _ => 0))) (ty := .int) hx hb (hts (.arrayClass .int) (wm_c_xaN 3 rfl)) rfl hK hP hD hS hA (fun _ => rfl) (by decide) (by decide +kernel) (show 4 * 4 ≤ 536870912 by omega) (show 1 + 1 ≤ 2 by omega) (show 4 + 4 ≤ 8 by omega) dX23_add_17 (fun q_3 k_4 H hK hP hD hS => ?_)
  have hP := va_P.nt hP
  have hD := va_D.nt hD
  have hP : va_P (dC, dI) vwCl (([(ee, .inr (15, [.int kx, .int tx, .int gx, .int nx, .int 0, .int 0, .long nu, .int mu, vo, .ref q_1, .null, .int 0, .null, .null])), (q_1, .inl (k_2, 4, .inr (.inr (.inr (.inr (fun _ => none)))))), (q_3, .inl (k_4, 4, .inl (fun _ => 0)))] : va_W) ++ (sT L F)) H := hP
  have hD : va_D A (([(ee, .inr (15, [.int kx, .int tx, .int gx, .int nx, .int 0, .int 0, .long nu, .int mu, vo, .ref q_1, .null, .int 0, .null, .null])), (q_1, .inl (k_2, 4, .inr (.inr (.inr (.inr (fun _ => none)))))), (q_3, .inl (k_4, 4, .inl (fun _ => 0)))] : va_W) ++ (sT L F)) := hD
  have hK : va_K (dC, dI) vwCl [(kI, .int), (kE, .object RX15), (k_2, .object RX15), (k_4, .int)] s := hK
  obtain rfl : kE = k_2 := kEqO hK 1 2 rfl rfl
  obtain rfl : kI = k_4 := kEq_int hK 0 3 rfl rfl
  have hK := hK.sub (tys' := [(kI, .int), (kE, .object RX15)]) [0, 1] rfl
  have hP : va_P (dC, dI) vwCl (([(ee, .inr (15, [.int kx, .int tx, .int gx, .int nx, .int 0, .int 0, .long nu, .int mu, vo, .ref q_1, .null, .int 0, .null, .null])), (q_1, .inl (kE, 4, .inr (.inr (.inr (.inr (fun _ => none)))))), (q_3, .inl (kI, 4, .inl (fun _ => 0)))] : va_W) ++ (sT L F)) H := hP
  have hD : va_D A (([(ee, .inr (15, [.int kx, .int tx, .int gx, .int nx, .int 0, .int 0, .long nu, .int mu, vo, .ref q_1, .null, .int 0, .null, .null])), (q_1, .inl (kE, 4, .inr (.inr (.inr (.inr (fun _ => none)))))), (q_3, .inl (kI, 4, .inl (fun _ => 0)))] : va_W) ++ (sT L F)) := hD
  refine W.widen (k := 2) (n := 8) (by omega) (by omega) ?_
  refine va_put (D := (dC, dI)) (ci := 15) (v := .ref q_3) (ty := (.array .int)) (C := RX15) (T := TX15) (N := 14) hx hb hts in_c_xaN_X15 tyX15 tyX15_ok nmX15 hown hK hP hD hS 0 rfl rfl 10 (by decide) (hts (.fieldLink RX23 339 "OwnedPlacesModel$Exp" "signs" "[I") (wm_c_xaN 4 rfl)) (fun _ h9 => h9) rfl (by decide +kernel) rfl rfl (Nat.le_of_ble_eq_true rfl) dX23_add_19 (fun H locs hP hD hS => ?_)
  have hP : va_P (dC, dI) vwCl (([(ee, .inr (15, [.int kx, .int tx, .int gx, .int nx, .int 0, .int 0, .long nu, .int mu, vo, .ref q_1, .ref q_3, .int 0, .null, .null])), (q_1, .inl (kE, 4, .inr (.inr (.inr (.inr (fun _ => none)))))), (q_3, .inl (kI, 4, .inl (fun _ => 0)))] : va_W) ++ (sT L F)) H := hP
  have hD : va_D A (([(ee, .inr (15, [.int kx, .int tx, .int gx, .int nx, .int 0, .int 0, .long nu, .int mu, vo, .ref q_1, .ref q_3, .int 0, .null, .null])), (q_1, .inl (kE, 4, .inr (.inr (.inr (.inr (fun _ => none)))))), (q_3, .inl (kI, 4, .inl (fun _ => 0)))] : va_W) ++ (sT L F)) := hD
  refine lv_aload_n hx hb dX23_add_22 rfl (lv_at hl 0 rfl) ?_
  refine va_get (D := (dC, dI)) (ci := 15) (v := .int 0) (C := RX15) (T := TX15) (N := 14) hx hb hts in_c_xaN_X15 hown hK hP 0 rfl rfl 11 (by decide) (hts (.fieldLink RX23 342 "OwnedPlacesModel$Exp" "many" "I") (wm_c_xaN 5 rfl)) (fun _ h9 => h9) rfl dX23_add_23 ?_
  refine lv_aload_n hx hb dX23_add_26 rfl (lv_at hl 0 rfl) ?_
  refine va_get (D := (dC, dI)) (ci := 15) (v := .ref q_1) (C := RX15) (T := TX15) (N := 14) hx hb hts in_c_xaN_X15 hown hK hP 0 rfl rfl 9 (by decide) (hts (.fieldLink RX23 337 "OwnedPlacesModel$Exp" "list" "[LOwnedPlacesModel$Exp;") (wm_c_xaN 1 rfl)) (fun _ h9 => h9) rfl dX23_add_27 ?_
  refine va_alen (v := 4) hx hb hK hP 1 1 rfl rfl rfl dX23_add_30 ?_
  refine lv_icmp_ne (tgt := 106) hx hb dX23_add_31 (by decide) (fun _ => ?_) (fun c_5 => absurd c_5 (by decide))
  refine lv_aload_n hx hb dX23_add_106 rfl (lv_at hl 0 rfl) ?_
  refine va_get (D := (dC, dI)) (ci := 15) (v := .ref q_1) (C := RX15) (T := TX15) (N := 14) hx hb hts in_c_xaN_X15 hown hK hP 0 rfl rfl 9 (by decide) (hts (.fieldLink RX23 337 "OwnedPlacesModel$Exp" "list" "[LOwnedPlacesModel$Exp;") (wm_c_xaN 1 rfl)) (fun _ h9 => h9) rfl dX23_add_107 ?_
  refine lv_aload_n hx hb dX23_add_110 rfl (lv_at hl 0 rfl) ?_
  refine va_get (D := (dC, dI)) (ci := 15) (v := .int 0) (C := RX15) (T := TX15) (N := 14) hx hb hts in_c_xaN_X15 hown hK hP 0 rfl rfl 11 (by decide) (hts (.fieldLink RX23 342 "OwnedPlacesModel$Exp" "many" "I") (wm_c_xaN 5 rfl)) (fun _ h9 => h9) rfl dX23_add_111 ?_
  refine lv_aload_n hx hb dX23_add_114 rfl (lv_at hl 1 rfl) ?_
  obtain ⟨vs9, hvs9⟩ := (ho).2
  obtain ⟨qk9, hqk9⟩ := List.mem_iff_getElem?.mp (List.mem_append_right ([(ee, .inr (15, [.int kx, .int tx, .int gx, .int nx, .int 0, .int 0, .long nu, .int mu, vo, .ref q_1, .ref q_3, .int 0, .null, .null])), (q_1, .inl (kE, 4, .inr (.inr (.inr (.inr (fun _ => none)))))), (q_3, .inl (kI, 4, .inl (fun _ => 0)))]) (sT_mem (F := F) (ho).1))
  rw [hvs9] at hqk9
  refine va_astq (r := (RX15, TX15, 14)) hx hb hK hP hD hS 1 1 qk9 15 rfl rfl hqk9 rfl (vp_in_nI (n := 0) (by decide) (by decide)) dX23_add_115 (fun H locs hP hD hS => ?_)
  have hP : va_P (dC, dI) vwCl (([(ee, .inr (15, [.int kx, .int tx, .int gx, .int nx, .int 0, .int 0, .long nu, .int mu, vo, .ref q_1, .ref q_3, .int 0, .null, .null])), (q_1, .inl (kE, 4, .inr (.inr (.inr (.inr (va_up (fun _ => none) (0 : Int32).toNatClampNeg (some o))))))), (q_3, .inl (kI, 4, .inl (fun _ => 0)))] : va_W) ++ (sT L F)) H := hP
  have hD : va_D A (([(ee, .inr (15, [.int kx, .int tx, .int gx, .int nx, .int 0, .int 0, .long nu, .int mu, vo, .ref q_1, .ref q_3, .int 0, .null, .null])), (q_1, .inl (kE, 4, .inr (.inr (.inr (.inr (va_up (fun _ => none) (0 : Int32).toNatClampNeg (some o))))))), (q_3, .inl (kI, 4, .inl (fun _ => 0)))] : va_W) ++ (sT L F)) := hD
  obtain ⟨fA, efA⟩ : ∃ zZ : Nat → Option Nat, zZ = va_up (fun _ => none) (0 : Int32).toNatClampNeg (some o) := ⟨_, rfl⟩
  rw [← efA] at hP hD
  refine lv_aload_n hx hb dX23_add_116 rfl (lv_at hl 0 rfl) ?_
  refine va_get (D := (dC, dI)) (ci := 15) (v := .ref q_3) (C := RX15) (T := TX15) (N := 14) hx hb hts in_c_xaN_X15 hown hK hP 0 rfl rfl 10 (by decide) (hts (.fieldLink RX23 339 "OwnedPlacesModel$Exp" "signs" "[I") (wm_c_xaN 4 rfl)) (fun _ h9 => h9) rfl dX23_add_117 ?_
  refine lv_aload_n hx hb dX23_add_120 rfl (lv_at hl 0 rfl) ?_
  refine va_get (D := (dC, dI)) (ci := 15) (v := .int 0) (C := RX15) (T := TX15) (N := 14) hx hb hts in_c_xaN_X15 hown hK hP 0 rfl rfl 11 (by decide) (hts (.fieldLink RX23 342 "OwnedPlacesModel$Exp" "many" "I") (wm_c_xaN 5 rfl)) (fun _ h9 => h9) rfl dX23_add_121 ?_
  refine lv_iload_n hx hb dX23_add_124 rfl (lv_at hl 2 rfl) ?_
  refine va_iast hx hb hK hP hD hS 2 0 rfl rfl (vp_in_nI (n := 0) (by decide) (by decide)) dX23_add_125 (fun H locs hP hD hS => ?_)
  have hP : va_P (dC, dI) vwCl (([(ee, .inr (15, [.int kx, .int tx, .int gx, .int nx, .int 0, .int 0, .long nu, .int mu, vo, .ref q_1, .ref q_3, .int 0, .null, .null])), (q_1, .inl (kE, 4, .inr (.inr (.inr (.inr fA))))), (q_3, .inl (kI, 4, .inl (upd (fun _ => 0) (0 : Int32).toNatClampNeg sg)))] : va_W) ++ (sT L F)) H := hP
  have hD : va_D A (([(ee, .inr (15, [.int kx, .int tx, .int gx, .int nx, .int 0, .int 0, .long nu, .int mu, vo, .ref q_1, .ref q_3, .int 0, .null, .null])), (q_1, .inl (kE, 4, .inr (.inr (.inr (.inr fA))))), (q_3, .inl (kI, 4, .inl (upd (fun _ => 0) (0 : Int32).toNatClampNeg sg)))] : va_W) ++ (sT L F)) := hD
  obtain ⟨gA, egA⟩ : ∃ zZ : Nat → Int32, zZ = upd (fun _ => 0) (0 : Int32).toNatClampNeg sg := ⟨_, rfl⟩
  rw [← egA] at hP hD
  refine lv_aload_n hx hb dX23_add_126 rfl (lv_at hl 0 rfl) ?_
  refine lv_dup hx hb dX23_add_127 rfl ?_
  refine va_get (D := (dC, dI)) (ci := 15) (v := .int 0) (C := RX15) (T := TX15) (N := 14) hx hb hts in_c_xaN_X15 hown hK hP 0 rfl rfl 11 (by decide) (hts (.fieldLink RX23 342 "OwnedPlacesModel$Exp" "many" "I") (wm_c_xaN 5 rfl)) (fun _ h9 => h9) rfl dX23_add_128 ?_
  refine lv_iconst (v := 1) hx hb dX23_add_131 (by decide) ?_
  refine lv_iadd hx hb dX23_add_132 ?_
  refine lv_topi (fun f_6 ef_6 => ?_)
  obtain rfl : f_6 = 1 := ef_6.trans (by decide)
  refine va_put (D := (dC, dI)) (ci := 15) (v := .int 1) (ty := .int) (C := RX15) (T := TX15) (N := 14) hx hb hts in_c_xaN_X15 tyX15 tyX15_ok nmX15 hown hK hP hD hS 0 rfl rfl 11 (by decide) (hts (.fieldLink RX23 342 "OwnedPlacesModel$Exp" "many" "I") (wm_c_xaN 5 rfl)) (fun _ h9 => h9) rfl (by decide +kernel) rfl rfl (Nat.le_of_ble_eq_true rfl) dX23_add_133 (fun H locs hP hD hS => ?_)
  have hP : va_P (dC, dI) vwCl (([(ee, .inr (15, [.int kx, .int tx, .int gx, .int nx, .int 0, .int 0, .long nu, .int mu, vo, .ref q_1, .ref q_3, .int 1, .null, .null])), (q_1, .inl (kE, 4, .inr (.inr (.inr (.inr fA))))), (q_3, .inl (kI, 4, .inl gA))] : va_W) ++ (sT L F)) H := hP
  have hD : va_D A (([(ee, .inr (15, [.int kx, .int tx, .int gx, .int nx, .int 0, .int 0, .long nu, .int mu, vo, .ref q_1, .ref q_3, .int 1, .null, .null])), (q_1, .inl (kE, 4, .inr (.inr (.inr (.inr fA))))), (q_3, .inl (kI, 4, .inl gA))] : va_W) ++ (sT L F)) := hD
  refine W.grow (fun hgs0 hgs1 => ?_)
  have hP9 := hP.subT (f' := [(ee, .inr (15, [.int kx, .int tx, .int gx, .int nx, .int 0, .int 0, .long nu, .int mu, vo, .ref q_1, .ref q_3, .int 1, .null, .null])), (q_1, .inl (kE, 4, .inr (.inr (.inr (.inr fA))))), (q_3, .inl (kI, 4, .inl gA))]) [0, 1, 2] rfl
  have hD9 := hD.subT (f' := [(ee, .inr (15, [.int kx, .int tx, .int gx, .int nx, .int 0, .int 0, .long nu, .int mu, vo, .ref q_1, .ref q_3, .int 1, .null, .null])), (q_1, .inl (kE, 4, .inr (.inr (.inr (.inr fA))))), (q_3, .inl (kI, 4, .inl gA))]) [0, 1, 2] (by decide) rfl
  have hK9 := hK.sub (tys' := [(kI, .int), (kE, .object RX15)]) [0, 1] rfl
  refine W.widen (k := 2) (n := 8) (by omega) (by omega) ?_
  exact W.vret hx hb hr (fun tS ht hW => ⟨⟨(), rfl, trivial, q_1, q_3, 4, fA, gA, rfl, ⟨by rw [efA]; exact if_pos rfl, by rw [egA]; exact pk_us⟩, by rw [ht]; exact ⟨by omega, by omega⟩, by rw [ht]; exact hP9, va_K.moved hW.alike hK9, hD9⟩, hS.F ht⟩) hS.2.2 dX23_add_136
set_option maxHeartbeats 4000000 in
set_option maxRecDepth 100000 in
theorem c_xaA (l : Launch) (dC : Nat → ClassId) (dI : Nat → Nat → Nat) (ee o : Nat) (kx tx gx nx : Int32) (nu : Int64) (mu sg : Int32) (vo : Value) (kI kE : ClassId) (la sa n cp : Nat) (f : Nat → Option Nat) (g : Nat → Int32) (L : List Nat) (F : Nat → va_E) (sl : Nat) (sz : Nat) (ho : xO L F o) (hn : n ≤ cp ∧ 4 ≤ cp ∧ cp ≤ 1000000) (hxs : ∀ i : Nat, i < n → ∃ x : Nat, f i = some x ∧ xO L F x) : Met l yX23_add wp_c_xaN ({ frames := 0, cells := 2, slots := (4 * cp), locals := 0 }) (va_Pc [.ref ee, .ref o, .int sg] (fun U => U.heap.size = sz ∧ va_P (dC, dI) vwCl (([(ee, .inr (15, [.int kx, .int tx, .int gx, .int nx, .int 0, .int 0, .long nu, .int mu, vo, .ref la, .ref sa, .int (nI n), .null, .null])), (la, .inl (kE, cp, .inr (.inr (.inr (.inr f))))), (sa, .inl (kI, cp, .inl g))] : va_W) ++ (sT L F)) U.heap ∧ va_K (dC, dI) vwCl [(kI, .int), (kE, .object RX15)] U ∧ va_D (fun _ => True) (([(ee, .inr (15, [.int kx, .int tx, .int gx, .int nx, .int 0, .int 0, .long nu, .int mu, vo, .ref la, .ref sa, .int (nI n), .null, .null])), (la, .inl (kE, cp, .inr (.inr (.inr (.inr f))))), (sa, .inl (kI, cp, .inl g))] : va_W) ++ (sT L F)) ∧ nsM U ∧ slN U.heap = sl)) (va_Qv (fun _ : Unit => True) (fun (_ : Unit) (tS : State) => ∃ (la2 : Nat) (sa2 : Nat) (c2 : Nat) (f2 : Nat → Option Nat) (g2 : Nat → Int32), (n + 1 ≤ c2 ∧ 4 ≤ c2) ∧ (∀ i : Nat, i < n → f2 i = f i ∧ g2 i = g i) ∧ (f2 n = some o ∧ g2 n = sg) ∧ (cp ≤ c2 ∧ (c2 = cp ∨ (cp = n ∧ c2 = 2 * n))) ∧ (tS.heap.size ≤ sz + (2) ∧ slN tS.heap ≤ sl + (4 * (c2 - cp))) ∧ va_P (dC, dI) vwCl (([(ee, .inr (15, [.int kx, .int tx, .int gx, .int nx, .int 0, .int 0, .long nu, .int mu, vo, .ref la2, .ref sa2, .int (nI (n + 1)), .null, .null])), (la2, .inl (kE, c2, .inr (.inr (.inr (.inr f2))))), (sa2, .inl (kI, c2, .inl g2))] : va_W) ++ (sT L F)) tS.heap ∧ va_K (dC, dI) vwCl [(kI, .int), (kE, .object RX15)] tS ∧ va_D (va_A (([(ee, .inr (15, [.int kx, .int tx, .int gx, .int nx, .int 0, .int 0, .long nu, .int mu, vo, .ref la, .ref sa, .int (nI n), .null, .null])), (la, .inl (kE, cp, .inr (.inr (.inr (.inr f))))), (sa, .inl (kI, cp, .inl g))] : va_W) ++ (sT L F)) sz) (([(ee, .inr (15, [.int kx, .int tx, .int gx, .int nx, .int 0, .int 0, .long nu, .int mu, vo, .ref la2, .ref sa2, .int (nI (n + 1)), .null, .null])), (la2, .inl (kE, c2, .inr (.inr (.inr (.inr f2))))), (sa2, .inl (kI, c2, .inl g2))] : va_W) ++ (sT L F))) (va_A (([(ee, .inr (15, [.int kx, .int tx, .int gx, .int nx, .int 0, .int 0, .long nu, .int mu, vo, .ref la, .ref sa, .int (nI n), .null, .null])), (la, .inl (kE, cp, .inr (.inr (.inr (.inr f))))), (sa, .inl (kI, cp, .inl g))] : va_W) ++ (sT L F)) sz)) 2 (4 * cp) (va_A (([(ee, .inr (15, [.int kx, .int tx, .int gx, .int nx, .int 0, .int 0, .long nu, .int mu, vo, .ref la, .ref sa, .int (nI n), .null, .null])), (la, .inl (kE, cp, .inr (.inr (.inr (.inr f))))), (sa, .inl (kI, cp, .inl g))] : va_W) ++ (sT L F)) sz) := by
  refine Met.ofW (cc := cX23_add) (maxL := 6) (ret := none) (by decide) rfl ?_
  intro p e s m args below meth c s₁ B hml hv
  obtain ⟨rfl, hsz, hP, hK, hD0, hpre0, hpre1⟩ := hv
  have hx := B.exec
  have hb := B.bytes
  have hr := B.returns
  have hts := atoms_spec (ws := wp_c_xaN) B.pre
  have hown : s.vm.findClass RX23 = some m.cls := findClass_of_methodNamed B.named
  have hlocks := B.notSynchronized
  subst hsz
  have hD := hD0.self (sz := s.heap.size)
  generalize hAe : va_A (([(ee, .inr (15, [.int kx, .int tx, .int gx, .int nx, .int 0, .int 0, .long nu, .int mu, vo, .ref la, .ref sa, .int (nI n), .null, .null])), (la, .inl (kE, cp, .inr (.inr (.inr (.inr f))))), (sa, .inl (kI, cp, .inl g))] : va_W) ++ (sT L F)) s.heap.size = A at hD ⊢
  have hA : ∀ q : Nat, s.heap.size ≤ q → A q := fun q h => by rw [← hAe]; exact Or.inr h
  have hS : va_S A s.heap s.heap [] := va_S.rf
  have hP : va_P (dC, dI) vwCl (([(ee, .inr (15, [.int kx, .int tx, .int gx, .int nx, .int 0, .int 0, .long nu, .int mu, vo, .ref la, .ref sa, .int (nI n), .null, .null])), (la, .inl (kE, cp, .inr (.inr (.inr (.inr f))))), (sa, .inl (kI, cp, .inl g))] : va_W) ++ (sT L F)) s.heap := hP
  have hl := lv_entry ([.ref ee, .ref o, .int sg]) (n := 6) (Nat.le_of_ble_eq_true rfl)
  rw [lg_entry_eq]
  generalize (lg_sl ([.ref ee, .ref o, .int sg]) ++ List.replicate (6 - (lg_sl ([.ref ee, .ref o, .int sg])).length) Slot.unset).toArray = ls at hl ⊢
  have hl : lv_has ls 6 [(0, .ref ee), (1, .ref o), (2, .int sg)] := hl
  have hns := hpre0
  subst hpre1
  refine lv_aload_n hx hb dX23_add_0 rfl (lv_at hl 0 rfl) ?_
  refine va_get (D := (dC, dI)) (ci := 15) (v := .ref la) (C := RX15) (T := TX15) (N := 14) hx hb hts in_c_xaN_X15 hown hK hP 0 rfl rfl 9 (by decide) (hts (.fieldLink RX23 337 "OwnedPlacesModel$Exp" "list" "[LOwnedPlacesModel$Exp;") (wm_c_xaN 1 rfl)) (fun _ h9 => h9) rfl dX23_add_1 ?_
  refine lv_ifnonnull (tgt := 22) hx hb dX23_add_4 (by decide) ?_
  refine lv_aload_n hx hb dX23_add_22 rfl (lv_at hl 0 rfl) ?_
  refine va_get (D := (dC, dI)) (ci := 15) (v := .int (nI n)) (C := RX15) (T := TX15) (N := 14) hx hb hts in_c_xaN_X15 hown hK hP 0 rfl rfl 11 (by decide) (hts (.fieldLink RX23 342 "OwnedPlacesModel$Exp" "many" "I") (wm_c_xaN 5 rfl)) (fun _ h9 => h9) rfl dX23_add_23 ?_
  refine lv_aload_n hx hb dX23_add_26 rfl (lv_at hl 0 rfl) ?_
  refine va_get (D := (dC, dI)) (ci := 15) (v := .ref la) (C := RX15) (T := TX15) (N := 14) hx hb hts in_c_xaN_X15 hown hK hP 0 rfl rfl 9 (by decide) (hts (.fieldLink RX23 337 "OwnedPlacesModel$Exp" "list" "[LOwnedPlacesModel$Exp;") (wm_c_xaN 1 rfl)) (fun _ h9 => h9) rfl dX23_add_27 ?_
  refine va_alen (v := nI cp) hx hb hK hP 1 1 rfl rfl rfl dX23_add_30 ?_
  refine lv_icmp_ne (tgt := 106) hx hb dX23_add_31 (by decide) (fun hc => ?_) (fun hc => ?_)
  · have hlt : n < cp := by rcases Nat.lt_or_ge n cp with z9 | z9; exact z9; exact absurd (by rw [show n = cp by omega]) hc
    refine lv_aload_n hx hb dX23_add_106 rfl (lv_at hl 0 rfl) ?_
    refine va_get (D := (dC, dI)) (ci := 15) (v := .ref la) (C := RX15) (T := TX15) (N := 14) hx hb hts in_c_xaN_X15 hown hK hP 0 rfl rfl 9 (by decide) (hts (.fieldLink RX23 337 "OwnedPlacesModel$Exp" "list" "[LOwnedPlacesModel$Exp;") (wm_c_xaN 1 rfl)) (fun _ h9 => h9) rfl dX23_add_107 ?_
    refine lv_aload_n hx hb dX23_add_110 rfl (lv_at hl 0 rfl) ?_
    refine va_get (D := (dC, dI)) (ci := 15) (v := .int (nI n)) (C := RX15) (T := TX15) (N := 14) hx hb hts in_c_xaN_X15 hown hK hP 0 rfl rfl 11 (by decide) (hts (.fieldLink RX23 342 "OwnedPlacesModel$Exp" "many" "I") (wm_c_xaN 5 rfl)) (fun _ h9 => h9) rfl dX23_add_111 ?_
    refine lv_aload_n hx hb dX23_add_114 rfl (lv_at hl 1 rfl) ?_
    obtain ⟨vs9, hvs9⟩ := (ho).2
    obtain ⟨qk9, hqk9⟩ := List.mem_iff_getElem?.mp (List.mem_append_right ([(ee, .inr (15, [.int kx, .int tx, .int gx, .int nx, .int 0, .int 0, .long nu, .int mu, vo, .ref la, .ref sa, .int (nI n), .null, .null])), (la, .inl (kE, cp, .inr (.inr (.inr (.inr f))))), (sa, .inl (kI, cp, .inl g))]) (sT_mem (F := F) (ho).1))
    rw [hvs9] at hqk9
    refine va_astq (r := (RX15, TX15, 14)) hx hb hK hP hD hS 1 1 qk9 15 rfl rfl hqk9 rfl (vp_in_nI (n := n) hlt (by omega)) dX23_add_115 (fun H locs hP hD hS => ?_)
    have hP : va_P (dC, dI) vwCl (([(ee, .inr (15, [.int kx, .int tx, .int gx, .int nx, .int 0, .int 0, .long nu, .int mu, vo, .ref la, .ref sa, .int (nI n), .null, .null])), (la, .inl (kE, cp, .inr (.inr (.inr (.inr (va_up f (nI n : Int32).toNatClampNeg (some o))))))), (sa, .inl (kI, cp, .inl g))] : va_W) ++ (sT L F)) H := hP
    have hD : va_D A (([(ee, .inr (15, [.int kx, .int tx, .int gx, .int nx, .int 0, .int 0, .long nu, .int mu, vo, .ref la, .ref sa, .int (nI n), .null, .null])), (la, .inl (kE, cp, .inr (.inr (.inr (.inr (va_up f (nI n : Int32).toNatClampNeg (some o))))))), (sa, .inl (kI, cp, .inl g))] : va_W) ++ (sT L F)) := hD
    obtain ⟨fA, efA⟩ : ∃ zZ : Nat → Option Nat, zZ = va_up f (nI n : Int32).toNatClampNeg (some o) := ⟨_, rfl⟩
    rw [← efA] at hP hD
    refine lv_aload_n hx hb dX23_add_116 rfl (lv_at hl 0 rfl) ?_
    refine va_get (D := (dC, dI)) (ci := 15) (v := .ref sa) (C := RX15) (T := TX15) (N := 14) hx hb hts in_c_xaN_X15 hown hK hP 0 rfl rfl 10 (by decide) (hts (.fieldLink RX23 339 "OwnedPlacesModel$Exp" "signs" "[I") (wm_c_xaN 4 rfl)) (fun _ h9 => h9) rfl dX23_add_117 ?_
    refine lv_aload_n hx hb dX23_add_120 rfl (lv_at hl 0 rfl) ?_
    refine va_get (D := (dC, dI)) (ci := 15) (v := .int (nI n)) (C := RX15) (T := TX15) (N := 14) hx hb hts in_c_xaN_X15 hown hK hP 0 rfl rfl 11 (by decide) (hts (.fieldLink RX23 342 "OwnedPlacesModel$Exp" "many" "I") (wm_c_xaN 5 rfl)) (fun _ h9 => h9) rfl dX23_add_121 ?_
    refine lv_iload_n hx hb dX23_add_124 rfl (lv_at hl 2 rfl) ?_
    refine va_iast hx hb hK hP hD hS 2 0 rfl rfl (vp_in_nI (n := n) hlt (by omega)) dX23_add_125 (fun H locs hP hD hS => ?_)
    have hP : va_P (dC, dI) vwCl (([(ee, .inr (15, [.int kx, .int tx, .int gx, .int nx, .int 0, .int 0, .long nu, .int mu, vo, .ref la, .ref sa, .int (nI n), .null, .null])), (la, .inl (kE, cp, .inr (.inr (.inr (.inr fA))))), (sa, .inl (kI, cp, .inl (upd g (nI n : Int32).toNatClampNeg sg)))] : va_W) ++ (sT L F)) H := hP
    have hD : va_D A (([(ee, .inr (15, [.int kx, .int tx, .int gx, .int nx, .int 0, .int 0, .long nu, .int mu, vo, .ref la, .ref sa, .int (nI n), .null, .null])), (la, .inl (kE, cp, .inr (.inr (.inr (.inr fA))))), (sa, .inl (kI, cp, .inl (upd g (nI n : Int32).toNatClampNeg sg)))] : va_W) ++ (sT L F)) := hD
    obtain ⟨gA, egA⟩ : ∃ zZ : Nat → Int32, zZ = upd g (nI n : Int32).toNatClampNeg sg := ⟨_, rfl⟩
    rw [← egA] at hP hD
    refine lv_aload_n hx hb dX23_add_126 rfl (lv_at hl 0 rfl) ?_
    refine lv_dup hx hb dX23_add_127 rfl ?_
    refine va_get (D := (dC, dI)) (ci := 15) (v := .int (nI n)) (C := RX15) (T := TX15) (N := 14) hx hb hts in_c_xaN_X15 hown hK hP 0 rfl rfl 11 (by decide) (hts (.fieldLink RX23 342 "OwnedPlacesModel$Exp" "many" "I") (wm_c_xaN 5 rfl)) (fun _ h9 => h9) rfl dX23_add_128 ?_
    refine lv_iconst (v := 1) hx hb dX23_add_131 (by decide) ?_
    refine lv_iadd hx hb dX23_add_132 ?_
    refine lv_topi (fun f_1 ef_1 => ?_)
    obtain rfl : f_1 = nI (n + 1) := ef_1.trans (nI_1 _)
    refine va_put (D := (dC, dI)) (ci := 15) (v := .int (nI (n + 1))) (ty := .int) (C := RX15) (T := TX15) (N := 14) hx hb hts in_c_xaN_X15 tyX15 tyX15_ok nmX15 hown hK hP hD hS 0 rfl rfl 11 (by decide) (hts (.fieldLink RX23 342 "OwnedPlacesModel$Exp" "many" "I") (wm_c_xaN 5 rfl)) (fun _ h9 => h9) rfl (by decide +kernel) rfl rfl (Nat.le_of_ble_eq_true rfl) dX23_add_133 (fun H locs hP hD hS => ?_)
    have hP : va_P (dC, dI) vwCl (([(ee, .inr (15, [.int kx, .int tx, .int gx, .int nx, .int 0, .int 0, .long nu, .int mu, vo, .ref la, .ref sa, .int (nI (n + 1)), .null, .null])), (la, .inl (kE, cp, .inr (.inr (.inr (.inr fA))))), (sa, .inl (kI, cp, .inl gA))] : va_W) ++ (sT L F)) H := hP
    have hD : va_D A (([(ee, .inr (15, [.int kx, .int tx, .int gx, .int nx, .int 0, .int 0, .long nu, .int mu, vo, .ref la, .ref sa, .int (nI (n + 1)), .null, .null])), (la, .inl (kE, cp, .inr (.inr (.inr (.inr fA))))), (sa, .inl (kI, cp, .inl gA))] : va_W) ++ (sT L F)) := hD
    have hfA : fA = va_up f n (some o) := by rw [efA, nI_clamp (by omega)]
    have hgA : gA = upd g n sg := by rw [egA, nI_clamp (by omega)]
    refine W.grow (fun hgs0 hgs1 => ?_)
    have hP9 := hP.subT (f' := [(ee, .inr (15, [.int kx, .int tx, .int gx, .int nx, .int 0, .int 0, .long nu, .int mu, vo, .ref la, .ref sa, .int (nI (n + 1)), .null, .null])), (la, .inl (kE, cp, .inr (.inr (.inr (.inr fA))))), (sa, .inl (kI, cp, .inl gA))]) [0, 1, 2] rfl
    have hD9 := hD.subT (f' := [(ee, .inr (15, [.int kx, .int tx, .int gx, .int nx, .int 0, .int 0, .long nu, .int mu, vo, .ref la, .ref sa, .int (nI (n + 1)), .null, .null])), (la, .inl (kE, cp, .inr (.inr (.inr (.inr fA))))), (sa, .inl (kI, cp, .inl gA))]) [0, 1, 2] (by decide) rfl
    have hK9 := hK.sub (tys' := [(kI, .int), (kE, .object RX15)]) [0, 1] rfl
    refine W.widen (k := 2) (n := (4 * cp)) (by omega) (by omega) ?_
    exact W.vret hx hb hr (fun tS ht hW => ⟨⟨(), rfl, trivial, la, sa, cp, fA, gA, ⟨by omega, by omega⟩, fun i hi => ⟨by rw [hfA]; exact vu_n (by omega), by rw [hgA]; exact pk_un (by omega)⟩, ⟨by rw [hfA]; exact vu_s, by rw [hgA]; exact pk_us⟩, ⟨by omega, by omega⟩, by rw [ht]; exact ⟨by omega, by omega⟩, by rw [ht]; exact hP9, va_K.moved hW.alike hK9, hD9⟩, hS.F ht⟩) hS.2.2 dX23_add_136
  · have hcn : n = cp := (nI_eq (by omega) (by omega)).mp hc
    refine lv_iconst (v := 2) hx hb dX23_add_34 (by decide) ?_
    refine lv_aload_n hx hb dX23_add_35 rfl (lv_at hl 0 rfl) ?_
    refine va_get (D := (dC, dI)) (ci := 15) (v := .int (nI n)) (C := RX15) (T := TX15) (N := 14) hx hb hts in_c_xaN_X15 hown hK hP 0 rfl rfl 11 (by decide) (hts (.fieldLink RX23 342 "OwnedPlacesModel$Exp" "many" "I") (wm_c_xaN 5 rfl)) (fun _ h9 => h9) rfl dX23_add_36 ?_
    refine lv_imul hx hb dX23_add_39 ?_
    refine lv_topi (fun f_1 ef_1 => ?_)
    obtain rfl : f_1 = nI (2 * n) := ef_1.trans (nI_2 n)
    refine va_newq (C := RX15) hx hb hown (hts (.classLink RX23 295 RX15) (wm_c_xaN 2 rfl)) hns.2.1 hK hP hD hS hA (nI_pos (by omega)) (nI_clamp (by omega)) (show (2 * n) * 4 ≤ 536870912 by omega) (show 0 + 1 ≤ 2 by omega) (show 0 + (2 * n) ≤ (4 * cp) by omega) dX23_add_40 (fun q_2 k_3 H hK hP hD hS => ?_)
    have hP := va_P.nt hP
    have hD := va_D.nt hD
    have hP : va_P (dC, dI) vwCl (([(ee, .inr (15, [.int kx, .int tx, .int gx, .int nx, .int 0, .int 0, .long nu, .int mu, vo, .ref la, .ref sa, .int (nI n), .null, .null])), (la, .inl (kE, cp, .inr (.inr (.inr (.inr f))))), (sa, .inl (kI, cp, .inl g)), (q_2, .inl (k_3, 2 * n, .inr (.inr (.inr (.inr (fun _ => none))))))] : va_W) ++ (sT L F)) H := hP
    have hD : va_D A (([(ee, .inr (15, [.int kx, .int tx, .int gx, .int nx, .int 0, .int 0, .long nu, .int mu, vo, .ref la, .ref sa, .int (nI n), .null, .null])), (la, .inl (kE, cp, .inr (.inr (.inr (.inr f))))), (sa, .inl (kI, cp, .inl g)), (q_2, .inl (k_3, 2 * n, .inr (.inr (.inr (.inr (fun _ => none))))))] : va_W) ++ (sT L F)) := hD
    have hK : va_K (dC, dI) vwCl [(kI, .int), (kE, .object RX15), (k_3, .object RX15)] s := hK
    obtain rfl : kE = k_3 := kEqO hK 1 2 rfl rfl
    have hK := hK.sub (tys' := [(kI, .int), (kE, .object RX15)]) [0, 1] rfl
    have hP : va_P (dC, dI) vwCl (([(ee, .inr (15, [.int kx, .int tx, .int gx, .int nx, .int 0, .int 0, .long nu, .int mu, vo, .ref la, .ref sa, .int (nI n), .null, .null])), (la, .inl (kE, cp, .inr (.inr (.inr (.inr f))))), (sa, .inl (kI, cp, .inl g)), (q_2, .inl (kE, 2 * n, .inr (.inr (.inr (.inr (fun _ => none))))))] : va_W) ++ (sT L F)) H := hP
    have hD : va_D A (([(ee, .inr (15, [.int kx, .int tx, .int gx, .int nx, .int 0, .int 0, .long nu, .int mu, vo, .ref la, .ref sa, .int (nI n), .null, .null])), (la, .inl (kE, cp, .inr (.inr (.inr (.inr f))))), (sa, .inl (kI, cp, .inl g)), (q_2, .inl (kE, 2 * n, .inr (.inr (.inr (.inr (fun _ => none))))))] : va_W) ++ (sT L F)) := hD
    refine W.widen (k := 1) (n := (2 * n)) (by omega) (by omega) ?_
    refine lv_astore_n (lv' := [(3, .ref q_2), (0, .ref ee), (1, .ref o), (2, .int sg)]) hx hb dX23_add_43 rfl hl (by decide) rfl (fun ls hl => ?_)
    refine lv_iconst (v := 2) hx hb dX23_add_44 (by decide) ?_
    refine lv_aload_n hx hb dX23_add_45 rfl (lv_at hl 1 rfl) ?_
    refine va_get (D := (dC, dI)) (ci := 15) (v := .int (nI n)) (C := RX15) (T := TX15) (N := 14) hx hb hts in_c_xaN_X15 hown hK hP 0 rfl rfl 11 (by decide) (hts (.fieldLink RX23 342 "OwnedPlacesModel$Exp" "many" "I") (wm_c_xaN 5 rfl)) (fun _ h9 => h9) rfl dX23_add_46 ?_
    refine lv_imul hx hb dX23_add_49 ?_
    refine lv_topi (fun f_4 ef_4 => ?_)
    obtain rfl : f_4 = nI (2 * n) := ef_4.trans (nI_2 n)
    refine va_newa (atype := .int) (a0 := (2 * n, .inl (fun _ => 0))) (ty := .int) hx hb (hts (.arrayClass .int) (wm_c_xaN 3 rfl)) rfl hK hP hD hS hA (fun _ => rfl) (nI_pos (by omega)) (nI_clamp (by omega)) (show (2 * n) * 4 ≤ 536870912 by omega) (show 1 + 1 ≤ 2 by omega) (show (2 * n) + 2 * n ≤ (4 * cp) by omega) dX23_add_50 (fun q_5 k_6 H hK hP hD hS => ?_)
    have hP := va_P.nt hP
    have hD := va_D.nt hD
    have hP : va_P (dC, dI) vwCl (([(ee, .inr (15, [.int kx, .int tx, .int gx, .int nx, .int 0, .int 0, .long nu, .int mu, vo, .ref la, .ref sa, .int (nI n), .null, .null])), (la, .inl (kE, cp, .inr (.inr (.inr (.inr f))))), (sa, .inl (kI, cp, .inl g)), (q_2, .inl (kE, 2 * n, .inr (.inr (.inr (.inr (fun _ => none)))))), (q_5, .inl (k_6, 2 * n, .inl (fun _ => 0)))] : va_W) ++ (sT L F)) H := hP
    have hD : va_D A (([(ee, .inr (15, [.int kx, .int tx, .int gx, .int nx, .int 0, .int 0, .long nu, .int mu, vo, .ref la, .ref sa, .int (nI n), .null, .null])), (la, .inl (kE, cp, .inr (.inr (.inr (.inr f))))), (sa, .inl (kI, cp, .inl g)), (q_2, .inl (kE, 2 * n, .inr (.inr (.inr (.inr (fun _ => none)))))), (q_5, .inl (k_6, 2 * n, .inl (fun _ => 0)))] : va_W) ++ (sT L F)) := hD
    have hK : va_K (dC, dI) vwCl [(kI, .int), (kE, .object RX15), (k_6, .int)] s := hK
    obtain rfl : kI = k_6 := kEq_int hK 0 2 rfl rfl
    have hK := hK.sub (tys' := [(kI, .int), (kE, .object RX15)]) [0, 1] rfl
    have hP : va_P (dC, dI) vwCl (([(ee, .inr (15, [.int kx, .int tx, .int gx, .int nx, .int 0, .int 0, .long nu, .int mu, vo, .ref la, .ref sa, .int (nI n), .null, .null])), (la, .inl (kE, cp, .inr (.inr (.inr (.inr f))))), (sa, .inl (kI, cp, .inl g)), (q_2, .inl (kE, 2 * n, .inr (.inr (.inr (.inr (fun _ => none)))))), (q_5, .inl (kI, 2 * n, .inl (fun _ => 0)))] : va_W) ++ (sT L F)) H := hP
    have hD : va_D A (([(ee, .inr (15, [.int kx, .int tx, .int gx, .int nx, .int 0, .int 0, .long nu, .int mu, vo, .ref la, .ref sa, .int (nI n), .null, .null])), (la, .inl (kE, cp, .inr (.inr (.inr (.inr f))))), (sa, .inl (kI, cp, .inl g)), (q_2, .inl (kE, 2 * n, .inr (.inr (.inr (.inr (fun _ => none)))))), (q_5, .inl (kI, 2 * n, .inl (fun _ => 0)))] : va_W) ++ (sT L F)) := hD
    refine W.widen (k := 2) (n := ((2 * n) + 2 * n)) (by omega) (by omega) ?_
    refine lv_astore (lv' := [(4, .ref q_5), (3, .ref q_2), (0, .ref ee), (1, .ref o), (2, .int sg)]) hx hb dX23_add_52 hl (by decide) rfl (fun ls hl => ?_)
    refine lv_iconst (v := 0) hx hb dX23_add_54 (by decide) ?_
    refine lv_istore (lv' := [(5, .int 0), (4, .ref q_5), (3, .ref q_2), (0, .ref ee), (1, .ref o), (2, .int sg)]) hx hb dX23_add_55 hl (by decide) rfl (fun ls hl => ?_)
    refine W_q (fun Q1 hQ1 => ?_)
    have key1 : ∀ (n1 : Nat) (i : Nat) (h1 : Nat → Option Nat) (h2 : Nat → Int32) (H : Heap) (locs : List Loc) (ls : Array Slot), (i + n1 = n + 1 ∧ i ≤ n) → (∀ j : Nat, j < i → h1 j = f j ∧ h2 j = g j) → va_P (dC, dI) vwCl (([(ee, .inr (15, [.int kx, .int tx, .int gx, .int nx, .int 0, .int 0, .long nu, .int mu, vo, .ref la, .ref sa, .int (nI n), .null, .null])), (la, .inl (kE, cp, .inr (.inr (.inr (.inr f))))), (sa, .inl (kI, cp, .inl g)), (q_2, .inl (kE, 2 * n, .inr (.inr (.inr (.inr h1))))), (q_5, .inl (kI, 2 * n, .inl h2))] : va_W) ++ (sT L F)) H → va_D A (([(ee, .inr (15, [.int kx, .int tx, .int gx, .int nx, .int 0, .int 0, .long nu, .int mu, vo, .ref la, .ref sa, .int (nI n), .null, .null])), (la, .inl (kE, cp, .inr (.inr (.inr (.inr f))))), (sa, .inl (kI, cp, .inl g)), (q_2, .inl (kE, 2 * n, .inr (.inr (.inr (.inr h1))))), (q_5, .inl (kI, 2 * n, .inl h2))] : va_W) ++ (sT L F)) → va_S A s.heap H locs → lv_has ls 6 [(5, .int (nI i)), (3, .ref q_2), (4, .ref q_5), (0, .ref ee), (1, .ref o), (2, .int sg)] → W p l e (headSpec wp_c_xaN ({ frames := 0, cells := 2, slots := (4 * cp), locals := 0 })).room s m ([.ref ee, .ref o, .int sg] : List Value).toArray below meth c H locs 2 ((2 * n) + 2 * n) Q1 (F0 m 57 ls []) := by
      intro n1
      induction n1 with
      | zero => intro i h1 h2 H locs ls hb0 hb1; exact absurd hb0 (by omega)
      | succ n1 ih1 =>
        intro i h1 h2 H locs ls hb0 hb1 hP hD hS hl
        refine lv_iload hx hb dX23_add_57 (lv_at hl 0 rfl) ?_
        refine lv_aload_n hx hb dX23_add_59 rfl (lv_at hl 3 rfl) ?_
        refine va_get (D := (dC, dI)) (ci := 15) (v := .int (nI n)) (C := RX15) (T := TX15) (N := 14) hx hb hts in_c_xaN_X15 hown hK hP 0 rfl rfl 11 (by decide) (hts (.fieldLink RX23 342 "OwnedPlacesModel$Exp" "many" "I") (wm_c_xaN 5 rfl)) (fun _ h9 => h9) rfl dX23_add_60 ?_
        refine lv_icmp_ge (tgt := 95) hx hb dX23_add_63 (by decide) (fun hk => ?_) (fun hk => ?_)
        · have hin : n = i := by have := (nI_leI (a := n) (b := i) (by omega) (by omega)).mp hk; omega
          subst hin
          have hl : lv_has ls 6 [(5, .int (nI n)), (3, .ref q_2), (4, .ref q_5), (0, .ref ee), (1, .ref o), (2, .int sg)] := hl
          refine lv_aload_n hx hb dX23_add_95 rfl (lv_at hl 3 rfl) ?_
          refine lv_aload_n hx hb dX23_add_96 rfl (lv_at hl 1 rfl) ?_
          refine va_put (D := (dC, dI)) (ci := 15) (v := .ref q_2) (ty := (.array (.object "OwnedPlacesModel$Exp"))) (C := RX15) (T := TX15) (N := 14) hx hb hts in_c_xaN_X15 tyX15 tyX15_ok nmX15 hown hK hP hD hS 0 rfl rfl 9 (by decide) (hts (.fieldLink RX23 337 "OwnedPlacesModel$Exp" "list" "[LOwnedPlacesModel$Exp;") (wm_c_xaN 1 rfl)) (fun _ h9 => h9) rfl (by decide +kernel) rfl rfl (Nat.le_of_ble_eq_true rfl) dX23_add_97 (fun H locs hP hD hS => ?_)
          have hP : va_P (dC, dI) vwCl (([(ee, .inr (15, [.int kx, .int tx, .int gx, .int nx, .int 0, .int 0, .long nu, .int mu, vo, .ref q_2, .ref sa, .int (nI n), .null, .null])), (la, .inl (kE, cp, .inr (.inr (.inr (.inr f))))), (sa, .inl (kI, cp, .inl g)), (q_2, .inl (kE, 2 * n, .inr (.inr (.inr (.inr h1))))), (q_5, .inl (kI, 2 * n, .inl h2))] : va_W) ++ (sT L F)) H := hP
          have hD : va_D A (([(ee, .inr (15, [.int kx, .int tx, .int gx, .int nx, .int 0, .int 0, .long nu, .int mu, vo, .ref q_2, .ref sa, .int (nI n), .null, .null])), (la, .inl (kE, cp, .inr (.inr (.inr (.inr f))))), (sa, .inl (kI, cp, .inl g)), (q_2, .inl (kE, 2 * n, .inr (.inr (.inr (.inr h1))))), (q_5, .inl (kI, 2 * n, .inl h2))] : va_W) ++ (sT L F)) := hD
          refine lv_aload_n hx hb dX23_add_100 rfl (lv_at hl 3 rfl) ?_
          refine lv_aload hx hb dX23_add_101 (lv_at hl 2 rfl) ?_
          refine va_put (D := (dC, dI)) (ci := 15) (v := .ref q_5) (ty := (.array .int)) (C := RX15) (T := TX15) (N := 14) hx hb hts in_c_xaN_X15 tyX15 tyX15_ok nmX15 hown hK hP hD hS 0 rfl rfl 10 (by decide) (hts (.fieldLink RX23 339 "OwnedPlacesModel$Exp" "signs" "[I") (wm_c_xaN 4 rfl)) (fun _ h9 => h9) rfl (by decide +kernel) rfl rfl (Nat.le_of_ble_eq_true rfl) dX23_add_103 (fun H locs hP hD hS => ?_)
          have hP : va_P (dC, dI) vwCl (([(ee, .inr (15, [.int kx, .int tx, .int gx, .int nx, .int 0, .int 0, .long nu, .int mu, vo, .ref q_2, .ref q_5, .int (nI n), .null, .null])), (la, .inl (kE, cp, .inr (.inr (.inr (.inr f))))), (sa, .inl (kI, cp, .inl g)), (q_2, .inl (kE, 2 * n, .inr (.inr (.inr (.inr h1))))), (q_5, .inl (kI, 2 * n, .inl h2))] : va_W) ++ (sT L F)) H := hP
          have hD : va_D A (([(ee, .inr (15, [.int kx, .int tx, .int gx, .int nx, .int 0, .int 0, .long nu, .int mu, vo, .ref q_2, .ref q_5, .int (nI n), .null, .null])), (la, .inl (kE, cp, .inr (.inr (.inr (.inr f))))), (sa, .inl (kI, cp, .inl g)), (q_2, .inl (kE, 2 * n, .inr (.inr (.inr (.inr h1))))), (q_5, .inl (kI, 2 * n, .inl h2))] : va_W) ++ (sT L F)) := hD
          refine lv_aload_n hx hb dX23_add_106 rfl (lv_at hl 3 rfl) ?_
          refine va_get (D := (dC, dI)) (ci := 15) (v := .ref q_2) (C := RX15) (T := TX15) (N := 14) hx hb hts in_c_xaN_X15 hown hK hP 0 rfl rfl 9 (by decide) (hts (.fieldLink RX23 337 "OwnedPlacesModel$Exp" "list" "[LOwnedPlacesModel$Exp;") (wm_c_xaN 1 rfl)) (fun _ h9 => h9) rfl dX23_add_107 ?_
          refine lv_aload_n hx hb dX23_add_110 rfl (lv_at hl 3 rfl) ?_
          refine va_get (D := (dC, dI)) (ci := 15) (v := .int (nI n)) (C := RX15) (T := TX15) (N := 14) hx hb hts in_c_xaN_X15 hown hK hP 0 rfl rfl 11 (by decide) (hts (.fieldLink RX23 342 "OwnedPlacesModel$Exp" "many" "I") (wm_c_xaN 5 rfl)) (fun _ h9 => h9) rfl dX23_add_111 ?_
          refine lv_aload_n hx hb dX23_add_114 rfl (lv_at hl 4 rfl) ?_
          obtain ⟨vs9, hvs9⟩ := (ho).2
          obtain ⟨qk9, hqk9⟩ := List.mem_iff_getElem?.mp (List.mem_append_right ([(ee, .inr (15, [.int kx, .int tx, .int gx, .int nx, .int 0, .int 0, .long nu, .int mu, vo, .ref q_2, .ref q_5, .int (nI n), .null, .null])), (la, .inl (kE, cp, .inr (.inr (.inr (.inr f))))), (sa, .inl (kI, cp, .inl g)), (q_2, .inl (kE, 2 * n, .inr (.inr (.inr (.inr h1))))), (q_5, .inl (kI, 2 * n, .inl h2))]) (sT_mem (F := F) (ho).1))
          rw [hvs9] at hqk9
          refine va_astq (r := (RX15, TX15, 14)) hx hb hK hP hD hS 3 1 qk9 15 rfl rfl hqk9 rfl (vp_in_nI (n := n) (show n < 2 * n by omega) (by omega)) dX23_add_115 (fun H locs hP hD hS => ?_)
          have hP : va_P (dC, dI) vwCl (([(ee, .inr (15, [.int kx, .int tx, .int gx, .int nx, .int 0, .int 0, .long nu, .int mu, vo, .ref q_2, .ref q_5, .int (nI n), .null, .null])), (la, .inl (kE, cp, .inr (.inr (.inr (.inr f))))), (sa, .inl (kI, cp, .inl g)), (q_2, .inl (kE, 2 * n, .inr (.inr (.inr (.inr (va_up h1 (nI n : Int32).toNatClampNeg (some o))))))), (q_5, .inl (kI, 2 * n, .inl h2))] : va_W) ++ (sT L F)) H := hP
          have hD : va_D A (([(ee, .inr (15, [.int kx, .int tx, .int gx, .int nx, .int 0, .int 0, .long nu, .int mu, vo, .ref q_2, .ref q_5, .int (nI n), .null, .null])), (la, .inl (kE, cp, .inr (.inr (.inr (.inr f))))), (sa, .inl (kI, cp, .inl g)), (q_2, .inl (kE, 2 * n, .inr (.inr (.inr (.inr (va_up h1 (nI n : Int32).toNatClampNeg (some o))))))), (q_5, .inl (kI, 2 * n, .inl h2))] : va_W) ++ (sT L F)) := hD
          obtain ⟨fA, efA⟩ : ∃ zZ : Nat → Option Nat, zZ = va_up h1 (nI n : Int32).toNatClampNeg (some o) := ⟨_, rfl⟩
          rw [← efA] at hP hD
          refine lv_aload_n hx hb dX23_add_116 rfl (lv_at hl 3 rfl) ?_
          refine va_get (D := (dC, dI)) (ci := 15) (v := .ref q_5) (C := RX15) (T := TX15) (N := 14) hx hb hts in_c_xaN_X15 hown hK hP 0 rfl rfl 10 (by decide) (hts (.fieldLink RX23 339 "OwnedPlacesModel$Exp" "signs" "[I") (wm_c_xaN 4 rfl)) (fun _ h9 => h9) rfl dX23_add_117 ?_
          refine lv_aload_n hx hb dX23_add_120 rfl (lv_at hl 3 rfl) ?_
          refine va_get (D := (dC, dI)) (ci := 15) (v := .int (nI n)) (C := RX15) (T := TX15) (N := 14) hx hb hts in_c_xaN_X15 hown hK hP 0 rfl rfl 11 (by decide) (hts (.fieldLink RX23 342 "OwnedPlacesModel$Exp" "many" "I") (wm_c_xaN 5 rfl)) (fun _ h9 => h9) rfl dX23_add_121 ?_
          refine lv_iload_n hx hb dX23_add_124 rfl (lv_at hl 5 rfl) ?_
          refine va_iast hx hb hK hP hD hS 4 0 rfl rfl (vp_in_nI (n := n) (show n < 2 * n by omega) (by omega)) dX23_add_125 (fun H locs hP hD hS => ?_)
          have hP : va_P (dC, dI) vwCl (([(ee, .inr (15, [.int kx, .int tx, .int gx, .int nx, .int 0, .int 0, .long nu, .int mu, vo, .ref q_2, .ref q_5, .int (nI n), .null, .null])), (la, .inl (kE, cp, .inr (.inr (.inr (.inr f))))), (sa, .inl (kI, cp, .inl g)), (q_2, .inl (kE, 2 * n, .inr (.inr (.inr (.inr fA))))), (q_5, .inl (kI, 2 * n, .inl (upd h2 (nI n : Int32).toNatClampNeg sg)))] : va_W) ++ (sT L F)) H := hP
          have hD : va_D A (([(ee, .inr (15, [.int kx, .int tx, .int gx, .int nx, .int 0, .int 0, .long nu, .int mu, vo, .ref q_2, .ref q_5, .int (nI n), .null, .null])), (la, .inl (kE, cp, .inr (.inr (.inr (.inr f))))), (sa, .inl (kI, cp, .inl g)), (q_2, .inl (kE, 2 * n, .inr (.inr (.inr (.inr fA))))), (q_5, .inl (kI, 2 * n, .inl (upd h2 (nI n : Int32).toNatClampNeg sg)))] : va_W) ++ (sT L F)) := hD
          obtain ⟨gA, egA⟩ : ∃ zZ : Nat → Int32, zZ = upd h2 (nI n : Int32).toNatClampNeg sg := ⟨_, rfl⟩
          rw [← egA] at hP hD
          refine lv_aload_n hx hb dX23_add_126 rfl (lv_at hl 3 rfl) ?_
          refine lv_dup hx hb dX23_add_127 rfl ?_
          refine va_get (D := (dC, dI)) (ci := 15) (v := .int (nI n)) (C := RX15) (T := TX15) (N := 14) hx hb hts in_c_xaN_X15 hown hK hP 0 rfl rfl 11 (by decide) (hts (.fieldLink RX23 342 "OwnedPlacesModel$Exp" "many" "I") (wm_c_xaN 5 rfl)) (fun _ h9 => h9) rfl dX23_add_128 ?_
          refine lv_iconst (v := 1) hx hb dX23_add_131 (by decide) ?_
          refine lv_iadd hx hb dX23_add_132 ?_
          refine lv_topi (fun f_7 ef_7 => ?_)
          obtain rfl : f_7 = nI (n + 1) := ef_7.trans (nI_1 _)
          refine va_put (D := (dC, dI)) (ci := 15) (v := .int (nI (n + 1))) (ty := .int) (C := RX15) (T := TX15) (N := 14) hx hb hts in_c_xaN_X15 tyX15 tyX15_ok nmX15 hown hK hP hD hS 0 rfl rfl 11 (by decide) (hts (.fieldLink RX23 342 "OwnedPlacesModel$Exp" "many" "I") (wm_c_xaN 5 rfl)) (fun _ h9 => h9) rfl (by decide +kernel) rfl rfl (Nat.le_of_ble_eq_true rfl) dX23_add_133 (fun H locs hP hD hS => ?_)
          have hP : va_P (dC, dI) vwCl (([(ee, .inr (15, [.int kx, .int tx, .int gx, .int nx, .int 0, .int 0, .long nu, .int mu, vo, .ref q_2, .ref q_5, .int (nI (n + 1)), .null, .null])), (la, .inl (kE, cp, .inr (.inr (.inr (.inr f))))), (sa, .inl (kI, cp, .inl g)), (q_2, .inl (kE, 2 * n, .inr (.inr (.inr (.inr fA))))), (q_5, .inl (kI, 2 * n, .inl gA))] : va_W) ++ (sT L F)) H := hP
          have hD : va_D A (([(ee, .inr (15, [.int kx, .int tx, .int gx, .int nx, .int 0, .int 0, .long nu, .int mu, vo, .ref q_2, .ref q_5, .int (nI (n + 1)), .null, .null])), (la, .inl (kE, cp, .inr (.inr (.inr (.inr f))))), (sa, .inl (kI, cp, .inl g)), (q_2, .inl (kE, 2 * n, .inr (.inr (.inr (.inr fA))))), (q_5, .inl (kI, 2 * n, .inl gA))] : va_W) ++ (sT L F)) := hD
          have hfA : fA = va_up h1 n (some o) := by rw [efA, nI_clamp (by omega)]
          have hgA : gA = upd h2 n sg := by rw [egA, nI_clamp (by omega)]
          refine W.grow (fun hgs0 hgs1 => ?_)
          have hP9 := hP.subT (f' := [(ee, .inr (15, [.int kx, .int tx, .int gx, .int nx, .int 0, .int 0, .long nu, .int mu, vo, .ref q_2, .ref q_5, .int (nI (n + 1)), .null, .null])), (q_2, .inl (kE, 2 * n, .inr (.inr (.inr (.inr fA))))), (q_5, .inl (kI, 2 * n, .inl gA))]) [0, 3, 4] rfl
          have hD9 := hD.subT (f' := [(ee, .inr (15, [.int kx, .int tx, .int gx, .int nx, .int 0, .int 0, .long nu, .int mu, vo, .ref q_2, .ref q_5, .int (nI (n + 1)), .null, .null])), (q_2, .inl (kE, 2 * n, .inr (.inr (.inr (.inr fA))))), (q_5, .inl (kI, 2 * n, .inl gA))]) [0, 3, 4] (by decide) rfl
          have hK9 := hK.sub (tys' := [(kI, .int), (kE, .object RX15)]) [0, 1] rfl
          refine W.widen (k := 2) (n := (4 * cp)) (by omega) (by omega) ?_
          subst hQ1
          exact W.vret hx hb hr (fun tS ht hW => ⟨⟨(), rfl, trivial, q_2, q_5, 2 * n, fA, gA, ⟨by omega, by omega⟩, fun j hj => ⟨by rw [hfA, vu_n (by omega)]; exact (hb1 j hj).1, by rw [hgA, pk_un (by omega)]; exact (hb1 j hj).2⟩, ⟨by rw [hfA]; exact vu_s, by rw [hgA]; exact pk_us⟩, ⟨by omega, Or.inr ⟨by omega, rfl⟩⟩, by rw [ht]; exact ⟨by omega, by omega⟩, by rw [ht]; exact hP9, va_K.moved hW.alike hK9, hD9⟩, hS.F ht⟩) hS.2.2 dX23_add_136
        · have hin : i < n := by rcases Nat.lt_or_ge i n with z9 | z9; exact z9; exact absurd (nI_le z9 (by omega)) hk
          obtain ⟨xi, hxi, hxo⟩ := hxs i hin
          refine lv_aload_n hx hb dX23_add_66 rfl (lv_at hl 1 rfl) ?_
          refine lv_iload hx hb dX23_add_67 (lv_at hl 0 rfl) ?_
          refine lv_aload_n hx hb dX23_add_69 rfl (lv_at hl 3 rfl) ?_
          refine va_get (D := (dC, dI)) (ci := 15) (v := .ref la) (C := RX15) (T := TX15) (N := 14) hx hb hts in_c_xaN_X15 hown hK hP 0 rfl rfl 9 (by decide) (hts (.fieldLink RX23 337 "OwnedPlacesModel$Exp" "list" "[LOwnedPlacesModel$Exp;") (wm_c_xaN 1 rfl)) (fun _ h9 => h9) rfl dX23_add_70 ?_
          refine lv_iload hx hb dX23_add_73 (lv_at hl 0 rfl) ?_
          refine va_aldq hx hb hK hP 1 1 rfl rfl (vp_in_nI (show i < cp by omega) (by omega)) dX23_add_75 ?_
          refine W.eq (g2 := F0 m 76 ls (.ref xi :: [.int (nI i), .ref q_2])) (by show F0 m _ ls (va_rf _ :: _) = _; rw [nI_clamp (show i < 2 ^ 31 by omega), hxi]; rfl) ?_
          obtain ⟨vs9, hvs9⟩ := (hxo).2
          obtain ⟨qk9, hqk9⟩ := List.mem_iff_getElem?.mp (List.mem_append_right ([(ee, .inr (15, [.int kx, .int tx, .int gx, .int nx, .int 0, .int 0, .long nu, .int mu, vo, .ref la, .ref sa, .int (nI n), .null, .null])), (la, .inl (kE, cp, .inr (.inr (.inr (.inr f))))), (sa, .inl (kI, cp, .inl g)), (q_2, .inl (kE, 2 * n, .inr (.inr (.inr (.inr h1))))), (q_5, .inl (kI, 2 * n, .inl h2))]) (sT_mem (F := F) (hxo).1))
          rw [hvs9] at hqk9
          refine va_astq (r := (RX15, TX15, 14)) hx hb hK hP hD hS 3 1 qk9 15 rfl rfl hqk9 rfl (vp_in_nI (show i < 2 * n by omega) (by omega)) dX23_add_76 (fun H locs hP hD hS => ?_)
          have hP : va_P (dC, dI) vwCl (([(ee, .inr (15, [.int kx, .int tx, .int gx, .int nx, .int 0, .int 0, .long nu, .int mu, vo, .ref la, .ref sa, .int (nI n), .null, .null])), (la, .inl (kE, cp, .inr (.inr (.inr (.inr f))))), (sa, .inl (kI, cp, .inl g)), (q_2, .inl (kE, 2 * n, .inr (.inr (.inr (.inr (va_up h1 (nI i : Int32).toNatClampNeg (some xi))))))), (q_5, .inl (kI, 2 * n, .inl h2))] : va_W) ++ (sT L F)) H := hP
          have hD : va_D A (([(ee, .inr (15, [.int kx, .int tx, .int gx, .int nx, .int 0, .int 0, .long nu, .int mu, vo, .ref la, .ref sa, .int (nI n), .null, .null])), (la, .inl (kE, cp, .inr (.inr (.inr (.inr f))))), (sa, .inl (kI, cp, .inl g)), (q_2, .inl (kE, 2 * n, .inr (.inr (.inr (.inr (va_up h1 (nI i : Int32).toNatClampNeg (some xi))))))), (q_5, .inl (kI, 2 * n, .inl h2))] : va_W) ++ (sT L F)) := hD
          obtain ⟨h3, eh3⟩ : ∃ zZ : Nat → Option Nat, zZ = va_up h1 (nI i : Int32).toNatClampNeg (some xi) := ⟨_, rfl⟩
          rw [← eh3] at hP hD
          refine lv_aload hx hb dX23_add_77 (lv_at hl 2 rfl) ?_
          refine lv_iload hx hb dX23_add_79 (lv_at hl 0 rfl) ?_
          refine lv_aload_n hx hb dX23_add_81 rfl (lv_at hl 3 rfl) ?_
          refine va_get (D := (dC, dI)) (ci := 15) (v := .ref sa) (C := RX15) (T := TX15) (N := 14) hx hb hts in_c_xaN_X15 hown hK hP 0 rfl rfl 10 (by decide) (hts (.fieldLink RX23 339 "OwnedPlacesModel$Exp" "signs" "[I") (wm_c_xaN 4 rfl)) (fun _ h9 => h9) rfl dX23_add_82 ?_
          refine lv_iload hx hb dX23_add_85 (lv_at hl 0 rfl) ?_
          refine va_iald hx hb hK hP 2 0 rfl rfl (vp_in_nI (show i < cp by omega) (by omega)) dX23_add_87 ?_
          refine lv_topi (fun v_7 ev_7 => ?_)
          refine va_iast hx hb hK hP hD hS 4 0 rfl rfl (vp_in_nI (show i < 2 * n by omega) (by omega)) dX23_add_88 (fun H locs hP hD hS => ?_)
          have hP : va_P (dC, dI) vwCl (([(ee, .inr (15, [.int kx, .int tx, .int gx, .int nx, .int 0, .int 0, .long nu, .int mu, vo, .ref la, .ref sa, .int (nI n), .null, .null])), (la, .inl (kE, cp, .inr (.inr (.inr (.inr f))))), (sa, .inl (kI, cp, .inl g)), (q_2, .inl (kE, 2 * n, .inr (.inr (.inr (.inr h3))))), (q_5, .inl (kI, 2 * n, .inl (upd h2 (nI i : Int32).toNatClampNeg v_7)))] : va_W) ++ (sT L F)) H := hP
          have hD : va_D A (([(ee, .inr (15, [.int kx, .int tx, .int gx, .int nx, .int 0, .int 0, .long nu, .int mu, vo, .ref la, .ref sa, .int (nI n), .null, .null])), (la, .inl (kE, cp, .inr (.inr (.inr (.inr f))))), (sa, .inl (kI, cp, .inl g)), (q_2, .inl (kE, 2 * n, .inr (.inr (.inr (.inr h3))))), (q_5, .inl (kI, 2 * n, .inl (upd h2 (nI i : Int32).toNatClampNeg v_7)))] : va_W) ++ (sT L F)) := hD
          obtain ⟨h4, eh4⟩ : ∃ zZ : Nat → Int32, zZ = upd h2 (nI i : Int32).toNatClampNeg v_7 := ⟨_, rfl⟩
          rw [← eh4] at hP hD
          have hs9 : ∀ j : Nat, j < i + 1 → h3 j = f j ∧ h4 j = g j := fun j hj => by
            rw [eh3, eh4, nI_clamp (by omega)]
            by_cases e : j = i
            · subst e; rw [vu_s, pk_us, ev_7, nI_clamp (by omega)]; exact ⟨hxi.symm, rfl⟩
            · rw [vu_n e, pk_un e]; exact hb1 j (by omega)
          obtain ⟨x_8, ex_8⟩ : ∃ yY : Int32, yY = (nI i) + 1 := ⟨_, rfl⟩
          refine lv_iinc (v := x_8) (lv' := [(5, .int x_8), (3, .ref q_2), (4, .ref q_5), (0, .ref ee), (1, .ref o), (2, .int sg)]) hx hb dX23_add_89 hl (k := 0) rfl (by rw [ex_8]; rfl) (by decide) rfl (fun ls hl => ?_)
          obtain rfl : x_8 = nI (i + 1) := by rw [ex_8]; exact nI_1 i
          have hl : lv_has ls 6 [(5, .int (nI (i + 1))), (3, .ref q_2), (4, .ref q_5), (0, .ref ee), (1, .ref o), (2, .int sg)] := hl
          refine lv_goto (tgt := 57) hx hb dX23_add_92 (by decide) ?_
          exact ih1 (i + 1) h3 h4 _ _ _ (by omega) hs9 (hP.subT [0, 1, 2, 3, 4] rfl) (hD.subT [0, 1, 2, 3, 4] (by decide) rfl) hS (lv_sub hl [0, 1, 2, 3, 4, 5] rfl)
    exact key1 (n + 1) 0 (fun _ => none) (fun _ => 0) _ _ _ (by omega) (fun j hj => absurd hj (by omega)) (hP.subT [0, 1, 2, 3, 4] rfl) (hD.subT [0, 1, 2, 3, 4] (by decide) rfl) hS (lv_sub hl [0, 2, 1, 3, 4, 5] rfl)
