def wf_c_vgb : List Cond := [.code yX23_growBranch cX23_growBranch 4 none, .fieldLink RX23 305 "OwnedPlacesModel$Statement" "many" "I", .classLink RX23 295 RX15, .classLink RX23 236 RX14, .fieldLink RX23 297 "OwnedPlacesModel$Statement" "conditions" "[LOwnedPlacesModel$Exp;", .fieldLink RX23 301 "OwnedPlacesModel$Statement" "blocks" "[LOwnedPlacesModel$Block;"]
def wp_c_vgb : List Cond := wf_c_vgb ++ (wsX190 ++ [])
theorem in_c_vgb_X19 : ∀ w ∈ wsX190, w ∈ wp_c_vgb := fun w h => List.mem_append_right _ (List.mem_append_left _ h)
theorem wg_c_vgb : wf_c_vgb.all goodWord = true := by decide +kernel
theorem wm_c_vgb (k : Nat) {w : Cond} (h : wp_c_vgb[k]? = some w) : w ∈ wp_c_vgb := List.mem_of_getElem? h
set_option maxHeartbeats 4000000 in
set_option maxRecDepth 100000 in
theorem c_vgb (l : Launch) (dC : Nat → ClassId) (dI : Nat → Nat → Nat) (ss ca ba n : Nat) (tx : Int32) (f g : Nat → Option Nat) (kE kB : ClassId) (L : List Nat) (F : Nat → va_E) (sl : Nat) (sz : Nat) (hn : 4 ≤ n ∧ n ≤ 1000000) (hxs : ∀ i : Nat, i < n → ∃ x y : Nat, f i = some x ∧ xO L F x ∧ g i = some y ∧ oN 14 L F y) : Met l yX23_growBranch wp_c_vgb ({ frames := 0, cells := 2, slots := (4 * n), locals := 0 }) (va_Pc [.ref ss] (fun U => U.heap.size = sz ∧ va_P (dC, dI) vwCl (([(ss, .inr (19, [.int 3, .int tx, .int 0, .int 0, .int 0, .null, .null, .null, .null, .null, .ref ca, .ref ba, .null, .int (nI n)])), (ca, .inl (kE, n, .inr (.inr (.inr (.inr f))))), (ba, .inl (kB, n, .inr (.inr (.inr (.inr g)))))] : va_W) ++ (sT L F)) U.heap ∧ va_K (dC, dI) vwCl [(kE, .object RX15), (kB, .object RX14)] U ∧ va_D (fun _ => True) (([(ss, .inr (19, [.int 3, .int tx, .int 0, .int 0, .int 0, .null, .null, .null, .null, .null, .ref ca, .ref ba, .null, .int (nI n)])), (ca, .inl (kE, n, .inr (.inr (.inr (.inr f))))), (ba, .inl (kB, n, .inr (.inr (.inr (.inr g)))))] : va_W) ++ (sT L F)) ∧ nsM U ∧ slN U.heap = sl)) (va_Qv (fun _ : Unit => True) (fun (_ : Unit) (tS : State) => ∃ (ca2 : Nat) (ba2 : Nat) (f2 : Nat → Option Nat) (g2 : Nat → Option Nat), (∀ i : Nat, i < n → f2 i = f i ∧ g2 i = g i) ∧ (∀ i : Nat, n ≤ i → f2 i = none) ∧ (tS.heap.size ≤ sz + (2) ∧ slN tS.heap ≤ sl + (4 * n)) ∧ va_P (dC, dI) vwCl (([(ss, .inr (19, [.int 3, .int tx, .int 0, .int 0, .int 0, .null, .null, .null, .null, .null, .ref ca2, .ref ba2, .null, .int (nI n)])), (ca2, .inl (kE, 2 * n, .inr (.inr (.inr (.inr f2))))), (ba2, .inl (kB, 2 * n, .inr (.inr (.inr (.inr g2)))))] : va_W) ++ (sT L F)) tS.heap ∧ va_K (dC, dI) vwCl [(kE, .object RX15), (kB, .object RX14)] tS ∧ va_D (va_A (([(ss, .inr (19, [.int 3, .int tx, .int 0, .int 0, .int 0, .null, .null, .null, .null, .null, .ref ca, .ref ba, .null, .int (nI n)])), (ca, .inl (kE, n, .inr (.inr (.inr (.inr f))))), (ba, .inl (kB, n, .inr (.inr (.inr (.inr g)))))] : va_W) ++ (sT L F)) sz) (([(ss, .inr (19, [.int 3, .int tx, .int 0, .int 0, .int 0, .null, .null, .null, .null, .null, .ref ca2, .ref ba2, .null, .int (nI n)])), (ca2, .inl (kE, 2 * n, .inr (.inr (.inr (.inr f2))))), (ba2, .inl (kB, 2 * n, .inr (.inr (.inr (.inr g2)))))] : va_W) ++ (sT L F))) (va_A (([(ss, .inr (19, [.int 3, .int tx, .int 0, .int 0, .int 0, .null, .null, .null, .null, .null, .ref ca, .ref ba, .null, .int (nI n)])), (ca, .inl (kE, n, .inr (.inr (.inr (.inr f))))), (ba, .inl (kB, n, .inr (.inr (.inr (.inr g)))))] : va_W) ++ (sT L F)) sz)) 2 (4 * n) (va_A (([(ss, .inr (19, [.int 3, .int tx, .int 0, .int 0, .int 0, .null, .null, .null, .null, .null, .ref ca, .ref ba, .null, .int (nI n)])), (ca, .inl (kE, n, .inr (.inr (.inr (.inr f))))), (ba, .inl (kB, n, .inr (.inr (.inr (.inr g)))))] : va_W) ++ (sT L F)) sz) := by
  refine Met.ofW (cc := cX23_growBranch) (maxL := 4) (ret := none) (by decide) rfl ?_
  intro p e s m args below meth c s₁ B hml hv
  obtain ⟨rfl, hsz, hP, hK, hD0, hpre0, hpre1⟩ := hv
  have hx := B.exec
  have hb := B.bytes
  have hr := B.returns
  have hts := atoms_spec (ws := wp_c_vgb) B.pre
  have hown : s.vm.findClass RX23 = some m.cls := findClass_of_methodNamed B.named
  have hlocks := B.notSynchronized
  subst hsz
  have hD := hD0.self (sz := s.heap.size)
  generalize hAe : va_A (([(ss, .inr (19, [.int 3, .int tx, .int 0, .int 0, .int 0, .null, .null, .null, .null, .null, .ref ca, .ref ba, .null, .int (nI n)])), (ca, .inl (kE, n, .inr (.inr (.inr (.inr f))))), (ba, .inl (kB, n, .inr (.inr (.inr (.inr g)))))] : va_W) ++ (sT L F)) s.heap.size = A at hD ⊢
  have hA : ∀ q : Nat, s.heap.size ≤ q → A q := fun q h => by rw [← hAe]; exact Or.inr h
  have hS : va_S A s.heap s.heap [] := va_S.rf
  have hP : va_P (dC, dI) vwCl (([(ss, .inr (19, [.int 3, .int tx, .int 0, .int 0, .int 0, .null, .null, .null, .null, .null, .ref ca, .ref ba, .null, .int (nI n)])), (ca, .inl (kE, n, .inr (.inr (.inr (.inr f))))), (ba, .inl (kB, n, .inr (.inr (.inr (.inr g)))))] : va_W) ++ (sT L F)) s.heap := hP
  have hl := lv_entry ([.ref ss]) (n := 4) (Nat.le_of_ble_eq_true rfl)
  rw [lg_entry_eq]
  generalize (lg_sl ([.ref ss]) ++ List.replicate (4 - (lg_sl ([.ref ss])).length) Slot.unset).toArray = ls at hl ⊢
  have hl : lv_has ls 4 [(0, .ref ss)] := hl
  have hns := hpre0
  subst hpre1
  refine lv_iconst (v := 2) hx hb dX23_growBranch_0 (by decide) ?_
  refine lv_aload_n hx hb dX23_growBranch_1 rfl (lv_at hl 0 rfl) ?_
  refine va_get (D := (dC, dI)) (ci := 19) (v := .int (nI n)) (C := RX19) (T := TX19) (N := 14) hx hb hts in_c_vgb_X19 hown hK hP 0 rfl rfl 13 (by decide) (hts (.fieldLink RX23 305 "OwnedPlacesModel$Statement" "many" "I") (wm_c_vgb 1 rfl)) (fun _ h9 => h9) rfl dX23_growBranch_2 ?_
  refine lv_imul hx hb dX23_growBranch_5 ?_
  refine lv_topi (fun f_1 ef_1 => ?_)
  obtain rfl : f_1 = nI (2 * n) := ef_1.trans (nI_2 n)
  refine va_newq (C := RX15) hx hb hown (hts (.classLink RX23 295 RX15) (wm_c_vgb 2 rfl)) hns.2.1 hK hP hD hS hA (nI_pos (by omega)) (nI_clamp (by omega)) (show (2 * n) * 4 ≤ 536870912 by omega) (show 0 + 1 ≤ 2 by omega) (show 0 + (2 * n) ≤ (4 * n) by omega) dX23_growBranch_6 (fun q_2 k_3 H hK hP hD hS => ?_)
  have hP := va_P.nt hP
  have hD := va_D.nt hD
  have hP : va_P (dC, dI) vwCl (([(ss, .inr (19, [.int 3, .int tx, .int 0, .int 0, .int 0, .null, .null, .null, .null, .null, .ref ca, .ref ba, .null, .int (nI n)])), (ca, .inl (kE, n, .inr (.inr (.inr (.inr f))))), (ba, .inl (kB, n, .inr (.inr (.inr (.inr g))))), (q_2, .inl (k_3, 2 * n, .inr (.inr (.inr (.inr (fun _ => none))))))] : va_W) ++ (sT L F)) H := hP
  have hD : va_D A (([(ss, .inr (19, [.int 3, .int tx, .int 0, .int 0, .int 0, .null, .null, .null, .null, .null, .ref ca, .ref ba, .null, .int (nI n)])), (ca, .inl (kE, n, .inr (.inr (.inr (.inr f))))), (ba, .inl (kB, n, .inr (.inr (.inr (.inr g))))), (q_2, .inl (k_3, 2 * n, .inr (.inr (.inr (.inr (fun _ => none))))))] : va_W) ++ (sT L F)) := hD
  have hK : va_K (dC, dI) vwCl [(kE, .object RX15), (kB, .object RX14), (k_3, .object RX15)] s := hK
  obtain rfl : kE = k_3 := kEqO hK 0 2 rfl rfl
  have hK := hK.sub (tys' := [(kE, .object RX15), (kB, .object RX14)]) [0, 1] rfl
  have hP : va_P (dC, dI) vwCl (([(ss, .inr (19, [.int 3, .int tx, .int 0, .int 0, .int 0, .null, .null, .null, .null, .null, .ref ca, .ref ba, .null, .int (nI n)])), (ca, .inl (kE, n, .inr (.inr (.inr (.inr f))))), (ba, .inl (kB, n, .inr (.inr (.inr (.inr g))))), (q_2, .inl (kE, 2 * n, .inr (.inr (.inr (.inr (fun _ => none))))))] : va_W) ++ (sT L F)) H := hP
  have hD : va_D A (([(ss, .inr (19, [.int 3, .int tx, .int 0, .int 0, .int 0, .null, .null, .null, .null, .null, .ref ca, .ref ba, .null, .int (nI n)])), (ca, .inl (kE, n, .inr (.inr (.inr (.inr f))))), (ba, .inl (kB, n, .inr (.inr (.inr (.inr g))))), (q_2, .inl (kE, 2 * n, .inr (.inr (.inr (.inr (fun _ => none))))))] : va_W) ++ (sT L F)) := hD
  refine W.widen (k := 1) (n := (2 * n)) (by omega) (by omega) ?_
  refine lv_astore_n (lv' := [(1, .ref q_2), (0, .ref ss)]) hx hb dX23_growBranch_9 rfl hl (by decide) rfl (fun ls hl => ?_)
  refine lv_iconst (v := 2) hx hb dX23_growBranch_10 (by decide) ?_
  refine lv_aload_n hx hb dX23_growBranch_11 rfl (lv_at hl 1 rfl) ?_
  refine va_get (D := (dC, dI)) (ci := 19) (v := .int (nI n)) (C := RX19) (T := TX19) (N := 14) hx hb hts in_c_vgb_X19 hown hK hP 0 rfl rfl 13 (by decide) (hts (.fieldLink RX23 305 "OwnedPlacesModel$Statement" "many" "I") (wm_c_vgb 1 rfl)) (fun _ h9 => h9) rfl dX23_growBranch_12 ?_
  refine lv_imul hx hb dX23_growBranch_15 ?_
  refine lv_topi (fun f_4 ef_4 => ?_)
  obtain rfl : f_4 = nI (2 * n) := ef_4.trans (nI_2 n)
  refine va_newq (C := RX14) hx hb hown (hts (.classLink RX23 236 RX14) (wm_c_vgb 3 rfl)) hns.2.2.2.1 hK hP hD hS hA (nI_pos (by omega)) (nI_clamp (by omega)) (show (2 * n) * 4 ≤ 536870912 by omega) (show 1 + 1 ≤ 2 by omega) (show (2 * n) + (2 * n) ≤ (4 * n) by omega) dX23_growBranch_16 (fun q_5 k_6 H hK hP hD hS => ?_)
  have hP := va_P.nt hP
  have hD := va_D.nt hD
  have hP : va_P (dC, dI) vwCl (([(ss, .inr (19, [.int 3, .int tx, .int 0, .int 0, .int 0, .null, .null, .null, .null, .null, .ref ca, .ref ba, .null, .int (nI n)])), (ca, .inl (kE, n, .inr (.inr (.inr (.inr f))))), (ba, .inl (kB, n, .inr (.inr (.inr (.inr g))))), (q_2, .inl (kE, 2 * n, .inr (.inr (.inr (.inr (fun _ => none)))))), (q_5, .inl (k_6, 2 * n, .inr (.inr (.inr (.inr (fun _ => none))))))] : va_W) ++ (sT L F)) H := hP
  have hD : va_D A (([(ss, .inr (19, [.int 3, .int tx, .int 0, .int 0, .int 0, .null, .null, .null, .null, .null, .ref ca, .ref ba, .null, .int (nI n)])), (ca, .inl (kE, n, .inr (.inr (.inr (.inr f))))), (ba, .inl (kB, n, .inr (.inr (.inr (.inr g))))), (q_2, .inl (kE, 2 * n, .inr (.inr (.inr (.inr (fun _ => none)))))), (q_5, .inl (k_6, 2 * n, .inr (.inr (.inr (.inr (fun _ => none))))))] : va_W) ++ (sT L F)) := hD
  have hK : va_K (dC, dI) vwCl [(kE, .object RX15), (kB, .object RX14), (k_6, .object RX14)] s := hK
  obtain rfl : kB = k_6 := kEqO hK 1 2 rfl rfl
  have hK := hK.sub (tys' := [(kE, .object RX15), (kB, .object RX14)]) [0, 1] rfl
  have hP : va_P (dC, dI) vwCl (([(ss, .inr (19, [.int 3, .int tx, .int 0, .int 0, .int 0, .null, .null, .null, .null, .null, .ref ca, .ref ba, .null, .int (nI n)])), (ca, .inl (kE, n, .inr (.inr (.inr (.inr f))))), (ba, .inl (kB, n, .inr (.inr (.inr (.inr g))))), (q_2, .inl (kE, 2 * n, .inr (.inr (.inr (.inr (fun _ => none)))))), (q_5, .inl (kB, 2 * n, .inr (.inr (.inr (.inr (fun _ => none))))))] : va_W) ++ (sT L F)) H := hP
  have hD : va_D A (([(ss, .inr (19, [.int 3, .int tx, .int 0, .int 0, .int 0, .null, .null, .null, .null, .null, .ref ca, .ref ba, .null, .int (nI n)])), (ca, .inl (kE, n, .inr (.inr (.inr (.inr f))))), (ba, .inl (kB, n, .inr (.inr (.inr (.inr g))))), (q_2, .inl (kE, 2 * n, .inr (.inr (.inr (.inr (fun _ => none)))))), (q_5, .inl (kB, 2 * n, .inr (.inr (.inr (.inr (fun _ => none))))))] : va_W) ++ (sT L F)) := hD
  refine W.widen (k := 2) (n := ((2 * n) + (2 * n))) (by omega) (by omega) ?_
  refine lv_astore_n (lv' := [(2, .ref q_5), (1, .ref q_2), (0, .ref ss)]) hx hb dX23_growBranch_19 rfl hl (by decide) rfl (fun ls hl => ?_)
  refine lv_iconst (v := 0) hx hb dX23_growBranch_20 (by decide) ?_
  refine lv_istore_n (lv' := [(3, .int 0), (2, .ref q_5), (1, .ref q_2), (0, .ref ss)]) hx hb dX23_growBranch_21 rfl hl (by decide) rfl (fun ls hl => ?_)
  refine W_q (fun Q1 hQ1 => ?_)
  have key1 : ∀ (n1 : Nat) (i : Nat) (h1 : Nat → Option Nat) (h2 : Nat → Option Nat) (H : Heap) (locs : List Loc) (ls : Array Slot), (i + n1 = n + 1 ∧ i ≤ n) → (∀ j : Nat, j < i → h1 j = f j ∧ h2 j = g j) → (∀ j : Nat, i ≤ j → h1 j = none) → va_P (dC, dI) vwCl (([(ss, .inr (19, [.int 3, .int tx, .int 0, .int 0, .int 0, .null, .null, .null, .null, .null, .ref ca, .ref ba, .null, .int (nI n)])), (ca, .inl (kE, n, .inr (.inr (.inr (.inr f))))), (ba, .inl (kB, n, .inr (.inr (.inr (.inr g))))), (q_2, .inl (kE, 2 * n, .inr (.inr (.inr (.inr h1))))), (q_5, .inl (kB, 2 * n, .inr (.inr (.inr (.inr h2)))))] : va_W) ++ (sT L F)) H → va_D A (([(ss, .inr (19, [.int 3, .int tx, .int 0, .int 0, .int 0, .null, .null, .null, .null, .null, .ref ca, .ref ba, .null, .int (nI n)])), (ca, .inl (kE, n, .inr (.inr (.inr (.inr f))))), (ba, .inl (kB, n, .inr (.inr (.inr (.inr g))))), (q_2, .inl (kE, 2 * n, .inr (.inr (.inr (.inr h1))))), (q_5, .inl (kB, 2 * n, .inr (.inr (.inr (.inr h2)))))] : va_W) ++ (sT L F)) → va_S A s.heap H locs → lv_has ls 4 [(3, .int (nI i)), (1, .ref q_2), (2, .ref q_5), (0, .ref ss)] → W p l e (headSpec wp_c_vgb ({ frames := 0, cells := 2, slots := (4 * n), locals := 0 })).room s m ([.ref ss] : List Value).toArray below meth c H locs 2 ((2 * n) + (2 * n)) Q1 (F0 m 22 ls []) := by
    intro n1
    induction n1 with
    | zero => intro i h1 h2 H locs ls hb0 hb1 hb2; exact absurd hb0 (by omega)
    | succ n1 ih1 =>
      intro i h1 h2 H locs ls hb0 hb1 hb2 hP hD hS hl
      refine lv_iload_n hx hb dX23_growBranch_22 rfl (lv_at hl 0 rfl) ?_
      refine lv_aload_n hx hb dX23_growBranch_23 rfl (lv_at hl 3 rfl) ?_
      refine va_get (D := (dC, dI)) (ci := 19) (v := .int (nI n)) (C := RX19) (T := TX19) (N := 14) hx hb hts in_c_vgb_X19 hown hK hP 0 rfl rfl 13 (by decide) (hts (.fieldLink RX23 305 "OwnedPlacesModel$Statement" "many" "I") (wm_c_vgb 1 rfl)) (fun _ h9 => h9) rfl dX23_growBranch_24 ?_
      refine lv_icmp_ge (tgt := 54) hx hb dX23_growBranch_27 (by decide) (fun hk => ?_) (fun hk => ?_)
      · have hin : n = i := by have := (nI_leI (a := n) (b := i) (by omega) (by omega)).mp hk; omega
        subst hin
        refine lv_aload_n hx hb dX23_growBranch_54 rfl (lv_at hl 3 rfl) ?_
        refine lv_aload_n hx hb dX23_growBranch_55 rfl (lv_at hl 1 rfl) ?_
        refine va_put (D := (dC, dI)) (ci := 19) (v := .ref q_2) (ty := (.array (.object "OwnedPlacesModel$Exp"))) (C := RX19) (T := TX19) (N := 14) hx hb hts in_c_vgb_X19 tyX19 tyX19_ok nmX19 hown hK hP hD hS 0 rfl rfl 10 (by decide) (hts (.fieldLink RX23 297 "OwnedPlacesModel$Statement" "conditions" "[LOwnedPlacesModel$Exp;") (wm_c_vgb 4 rfl)) (fun _ h9 => h9) rfl (by decide +kernel) rfl rfl (Nat.le_of_ble_eq_true rfl) dX23_growBranch_56 (fun H locs hP hD hS => ?_)
        have hP : va_P (dC, dI) vwCl (([(ss, .inr (19, [.int 3, .int tx, .int 0, .int 0, .int 0, .null, .null, .null, .null, .null, .ref q_2, .ref ba, .null, .int (nI n)])), (ca, .inl (kE, n, .inr (.inr (.inr (.inr f))))), (ba, .inl (kB, n, .inr (.inr (.inr (.inr g))))), (q_2, .inl (kE, 2 * n, .inr (.inr (.inr (.inr h1))))), (q_5, .inl (kB, 2 * n, .inr (.inr (.inr (.inr h2)))))] : va_W) ++ (sT L F)) H := hP
        have hD : va_D A (([(ss, .inr (19, [.int 3, .int tx, .int 0, .int 0, .int 0, .null, .null, .null, .null, .null, .ref q_2, .ref ba, .null, .int (nI n)])), (ca, .inl (kE, n, .inr (.inr (.inr (.inr f))))), (ba, .inl (kB, n, .inr (.inr (.inr (.inr g))))), (q_2, .inl (kE, 2 * n, .inr (.inr (.inr (.inr h1))))), (q_5, .inl (kB, 2 * n, .inr (.inr (.inr (.inr h2)))))] : va_W) ++ (sT L F)) := hD
        refine lv_aload_n hx hb dX23_growBranch_59 rfl (lv_at hl 3 rfl) ?_
        refine lv_aload_n hx hb dX23_growBranch_60 rfl (lv_at hl 2 rfl) ?_
        refine va_put (D := (dC, dI)) (ci := 19) (v := .ref q_5) (ty := (.array (.object "OwnedPlacesModel$Block"))) (C := RX19) (T := TX19) (N := 14) hx hb hts in_c_vgb_X19 tyX19 tyX19_ok nmX19 hown hK hP hD hS 0 rfl rfl 11 (by decide) (hts (.fieldLink RX23 301 "OwnedPlacesModel$Statement" "blocks" "[LOwnedPlacesModel$Block;") (wm_c_vgb 5 rfl)) (fun _ h9 => h9) rfl (by decide +kernel) rfl rfl (Nat.le_of_ble_eq_true rfl) dX23_growBranch_61 (fun H locs hP hD hS => ?_)
        have hP : va_P (dC, dI) vwCl (([(ss, .inr (19, [.int 3, .int tx, .int 0, .int 0, .int 0, .null, .null, .null, .null, .null, .ref q_2, .ref q_5, .null, .int (nI n)])), (ca, .inl (kE, n, .inr (.inr (.inr (.inr f))))), (ba, .inl (kB, n, .inr (.inr (.inr (.inr g))))), (q_2, .inl (kE, 2 * n, .inr (.inr (.inr (.inr h1))))), (q_5, .inl (kB, 2 * n, .inr (.inr (.inr (.inr h2)))))] : va_W) ++ (sT L F)) H := hP
        have hD : va_D A (([(ss, .inr (19, [.int 3, .int tx, .int 0, .int 0, .int 0, .null, .null, .null, .null, .null, .ref q_2, .ref q_5, .null, .int (nI n)])), (ca, .inl (kE, n, .inr (.inr (.inr (.inr f))))), (ba, .inl (kB, n, .inr (.inr (.inr (.inr g))))), (q_2, .inl (kE, 2 * n, .inr (.inr (.inr (.inr h1))))), (q_5, .inl (kB, 2 * n, .inr (.inr (.inr (.inr h2)))))] : va_W) ++ (sT L F)) := hD
        refine W.grow (fun hgs0 hgs1 => ?_)
        have hP9 := hP.subT (f' := [(ss, .inr (19, [.int 3, .int tx, .int 0, .int 0, .int 0, .null, .null, .null, .null, .null, .ref q_2, .ref q_5, .null, .int (nI n)])), (q_2, .inl (kE, 2 * n, .inr (.inr (.inr (.inr h1))))), (q_5, .inl (kB, 2 * n, .inr (.inr (.inr (.inr h2)))))]) [0, 3, 4] rfl
        have hD9 := hD.subT (f' := [(ss, .inr (19, [.int 3, .int tx, .int 0, .int 0, .int 0, .null, .null, .null, .null, .null, .ref q_2, .ref q_5, .null, .int (nI n)])), (q_2, .inl (kE, 2 * n, .inr (.inr (.inr (.inr h1))))), (q_5, .inl (kB, 2 * n, .inr (.inr (.inr (.inr h2)))))]) [0, 3, 4] (by decide) rfl
        have hK9 := hK.sub (tys' := [(kE, .object RX15), (kB, .object RX14)]) [0, 1] rfl
        refine W.widen (k := 2) (n := (4 * n)) (by omega) (by omega) ?_
        subst hQ1
        exact W.vret hx hb hr (fun tS ht hW => ⟨⟨(), rfl, trivial, q_2, q_5, h1, h2, hb1, hb2, by rw [ht]; exact ⟨by omega, by omega⟩, by rw [ht]; exact hP9, va_K.moved hW.alike hK9, hD9⟩, hS.F ht⟩) hS.2.2 dX23_growBranch_64
      · have hin : i < n := by rcases Nat.lt_or_ge i n with z9 | z9; exact z9; exact absurd (nI_le z9 (by omega)) hk
        obtain ⟨xi, yi, hxi, hxo, hyi, hyo⟩ := hxs i hin
        refine lv_aload_n hx hb dX23_growBranch_30 rfl (lv_at hl 1 rfl) ?_
        refine lv_iload_n hx hb dX23_growBranch_31 rfl (lv_at hl 0 rfl) ?_
        refine lv_aload_n hx hb dX23_growBranch_32 rfl (lv_at hl 3 rfl) ?_
        refine va_get (D := (dC, dI)) (ci := 19) (v := .ref ca) (C := RX19) (T := TX19) (N := 14) hx hb hts in_c_vgb_X19 hown hK hP 0 rfl rfl 10 (by decide) (hts (.fieldLink RX23 297 "OwnedPlacesModel$Statement" "conditions" "[LOwnedPlacesModel$Exp;") (wm_c_vgb 4 rfl)) (fun _ h9 => h9) rfl dX23_growBranch_33 ?_
        refine lv_iload_n hx hb dX23_growBranch_36 rfl (lv_at hl 0 rfl) ?_
        refine va_aldq hx hb hK hP 1 0 rfl rfl (vp_in_nI (show i < n by omega) (by omega)) dX23_growBranch_37 ?_
        refine W.eq (g2 := F0 m 38 ls (.ref xi :: [.int (nI i), .ref q_2])) (by show F0 m _ ls (va_rf _ :: _) = _; rw [nI_clamp (show i < 2 ^ 31 by omega), hxi]; rfl) ?_
        obtain ⟨vs9, hvs9⟩ := (hxo).2
        obtain ⟨qk9, hqk9⟩ := List.mem_iff_getElem?.mp (List.mem_append_right ([(ss, .inr (19, [.int 3, .int tx, .int 0, .int 0, .int 0, .null, .null, .null, .null, .null, .ref ca, .ref ba, .null, .int (nI n)])), (ca, .inl (kE, n, .inr (.inr (.inr (.inr f))))), (ba, .inl (kB, n, .inr (.inr (.inr (.inr g))))), (q_2, .inl (kE, 2 * n, .inr (.inr (.inr (.inr h1))))), (q_5, .inl (kB, 2 * n, .inr (.inr (.inr (.inr h2)))))]) (sT_mem (F := F) (hxo).1))
        rw [hvs9] at hqk9
        refine va_astq (r := (RX15, TX15, 14)) hx hb hK hP hD hS 3 0 qk9 15 rfl rfl hqk9 rfl (vp_in_nI (show i < 2 * n by omega) (by omega)) dX23_growBranch_38 (fun H locs hP hD hS => ?_)
        have hP : va_P (dC, dI) vwCl (([(ss, .inr (19, [.int 3, .int tx, .int 0, .int 0, .int 0, .null, .null, .null, .null, .null, .ref ca, .ref ba, .null, .int (nI n)])), (ca, .inl (kE, n, .inr (.inr (.inr (.inr f))))), (ba, .inl (kB, n, .inr (.inr (.inr (.inr g))))), (q_2, .inl (kE, 2 * n, .inr (.inr (.inr (.inr (va_up h1 (nI i : Int32).toNatClampNeg (some xi))))))), (q_5, .inl (kB, 2 * n, .inr (.inr (.inr (.inr h2)))))] : va_W) ++ (sT L F)) H := hP
        have hD : va_D A (([(ss, .inr (19, [.int 3, .int tx, .int 0, .int 0, .int 0, .null, .null, .null, .null, .null, .ref ca, .ref ba, .null, .int (nI n)])), (ca, .inl (kE, n, .inr (.inr (.inr (.inr f))))), (ba, .inl (kB, n, .inr (.inr (.inr (.inr g))))), (q_2, .inl (kE, 2 * n, .inr (.inr (.inr (.inr (va_up h1 (nI i : Int32).toNatClampNeg (some xi))))))), (q_5, .inl (kB, 2 * n, .inr (.inr (.inr (.inr h2)))))] : va_W) ++ (sT L F)) := hD
        obtain ⟨h3, eh3⟩ : ∃ zZ : Nat → Option Nat, zZ = va_up h1 (nI i : Int32).toNatClampNeg (some xi) := ⟨_, rfl⟩
        rw [← eh3] at hP hD
        refine lv_aload_n hx hb dX23_growBranch_39 rfl (lv_at hl 2 rfl) ?_
        refine lv_iload_n hx hb dX23_growBranch_40 rfl (lv_at hl 0 rfl) ?_
        refine lv_aload_n hx hb dX23_growBranch_41 rfl (lv_at hl 3 rfl) ?_
        refine va_get (D := (dC, dI)) (ci := 19) (v := .ref ba) (C := RX19) (T := TX19) (N := 14) hx hb hts in_c_vgb_X19 hown hK hP 0 rfl rfl 11 (by decide) (hts (.fieldLink RX23 301 "OwnedPlacesModel$Statement" "blocks" "[LOwnedPlacesModel$Block;") (wm_c_vgb 5 rfl)) (fun _ h9 => h9) rfl dX23_growBranch_42 ?_
        refine lv_iload_n hx hb dX23_growBranch_45 rfl (lv_at hl 0 rfl) ?_
        refine va_aldq hx hb hK hP 2 1 rfl rfl (vp_in_nI (show i < n by omega) (by omega)) dX23_growBranch_46 ?_
        refine W.eq (g2 := F0 m 47 ls (.ref yi :: [.int (nI i), .ref q_5])) (by show F0 m _ ls (va_rf _ :: _) = _; rw [nI_clamp (show i < 2 ^ 31 by omega), hyi]; rfl) ?_
        obtain ⟨vs9, hvs9⟩ := (hyo).2
        obtain ⟨qk9, hqk9⟩ := List.mem_iff_getElem?.mp (List.mem_append_right ([(ss, .inr (19, [.int 3, .int tx, .int 0, .int 0, .int 0, .null, .null, .null, .null, .null, .ref ca, .ref ba, .null, .int (nI n)])), (ca, .inl (kE, n, .inr (.inr (.inr (.inr f))))), (ba, .inl (kB, n, .inr (.inr (.inr (.inr g))))), (q_2, .inl (kE, 2 * n, .inr (.inr (.inr (.inr h3))))), (q_5, .inl (kB, 2 * n, .inr (.inr (.inr (.inr h2)))))]) (sT_mem (F := F) (hyo).1))
        rw [hvs9] at hqk9
        refine va_astq (r := (RX14, TX14, 4)) hx hb hK hP hD hS 4 1 qk9 14 rfl rfl hqk9 rfl (vp_in_nI (show i < 2 * n by omega) (by omega)) dX23_growBranch_47 (fun H locs hP hD hS => ?_)
        have hP : va_P (dC, dI) vwCl (([(ss, .inr (19, [.int 3, .int tx, .int 0, .int 0, .int 0, .null, .null, .null, .null, .null, .ref ca, .ref ba, .null, .int (nI n)])), (ca, .inl (kE, n, .inr (.inr (.inr (.inr f))))), (ba, .inl (kB, n, .inr (.inr (.inr (.inr g))))), (q_2, .inl (kE, 2 * n, .inr (.inr (.inr (.inr h3))))), (q_5, .inl (kB, 2 * n, .inr (.inr (.inr (.inr (va_up h2 (nI i : Int32).toNatClampNeg (some yi)))))))] : va_W) ++ (sT L F)) H := hP
        have hD : va_D A (([(ss, .inr (19, [.int 3, .int tx, .int 0, .int 0, .int 0, .null, .null, .null, .null, .null, .ref ca, .ref ba, .null, .int (nI n)])), (ca, .inl (kE, n, .inr (.inr (.inr (.inr f))))), (ba, .inl (kB, n, .inr (.inr (.inr (.inr g))))), (q_2, .inl (kE, 2 * n, .inr (.inr (.inr (.inr h3))))), (q_5, .inl (kB, 2 * n, .inr (.inr (.inr (.inr (va_up h2 (nI i : Int32).toNatClampNeg (some yi)))))))] : va_W) ++ (sT L F)) := hD
        obtain ⟨h4, eh4⟩ : ∃ zZ : Nat → Option Nat, zZ = va_up h2 (nI i : Int32).toNatClampNeg (some yi) := ⟨_, rfl⟩
        rw [← eh4] at hP hD
        have hs9 : ∀ j : Nat, j < i + 1 → h3 j = f j ∧ h4 j = g j := fun j hj => by
          rw [eh3, eh4, nI_clamp (by omega)]
          by_cases e : j = i
          · subst e; rw [vu_s, vu_s]; exact ⟨hxi.symm, hyi.symm⟩
          · rw [vu_n e, vu_n e]; exact hb1 j (by omega)
        have hs8 : ∀ j : Nat, i + 1 ≤ j → h3 j = none := fun j hj => by
          rw [eh3, nI_clamp (by omega), vu_n (by omega)]; exact hb2 j (by omega)
        obtain ⟨x_7, ex_7⟩ : ∃ yY : Int32, yY = (nI i) + 1 := ⟨_, rfl⟩
        refine lv_iinc (v := x_7) (lv' := [(3, .int x_7), (1, .ref q_2), (2, .ref q_5), (0, .ref ss)]) hx hb dX23_growBranch_48 hl (k := 0) rfl (by rw [ex_7]; rfl) (by decide) rfl (fun ls hl => ?_)
        obtain rfl : x_7 = nI (i + 1) := by rw [ex_7]; exact nI_1 i
        have hl : lv_has ls 4 [(3, .int (nI (i + 1))), (1, .ref q_2), (2, .ref q_5), (0, .ref ss)] := hl
        refine lv_goto (tgt := 22) hx hb dX23_growBranch_51 (by decide) ?_
        exact ih1 (i + 1) h3 h4 _ _ _ (by omega) hs9 hs8 (hP.subT [0, 1, 2, 3, 4] rfl) (hD.subT [0, 1, 2, 3, 4] (by decide) rfl) hS (lv_sub hl [0, 1, 2, 3] rfl)
  exact key1 (n + 1) 0 (fun _ => none) (fun _ => none) _ _ _ (by omega) (fun j hj => absurd hj (by omega)) (fun _ _ => rfl) (hP.subT [0, 1, 2, 3, 4] rfl) (hD.subT [0, 1, 2, 3, 4] (by decide) rfl) hS (lv_sub hl [0, 2, 1, 3] rfl)
