def wf_c_vsend2 : List Cond := [.code yX7_send cX7_send 6 (some .boolean), .fieldLink RX7 19 "OwnedPlaces$Moves" "reached" "[Z", .fieldLink RX7 31 "OwnedPlaces$Moves" "function" "LOwnedPlaces$Function;", .fieldLink RX7 64 "OwnedPlaces$Function" "variables" "I", .fieldLink RX7 16 "OwnedPlaces$Moves" "rows" "[I", .fieldLink RX7 9 "OwnedPlaces$Moves" "state" "[I"]
def wp_c_vsend2 : List Cond := wf_c_vsend2 ++ (wsX70 ++ (wsX20 ++ []))
theorem in_c_vsend2_X7 : ∀ w ∈ wsX70, w ∈ wp_c_vsend2 := fun w h => List.mem_append_right _ (List.mem_append_left _ h)
theorem in_c_vsend2_X2 : ∀ w ∈ wsX20, w ∈ wp_c_vsend2 := fun w h => List.mem_append_right _ (List.mem_append_right _ (List.mem_append_left _ h))
theorem wg_c_vsend2 : wf_c_vsend2.all goodWord = true := by decide +kernel
theorem wm_c_vsend2 (k : Nat) {w : Cond} (h : wp_c_vsend2[k]? = some w) : w ∈ wp_c_vsend2 := List.mem_of_getElem? h
set_option maxHeartbeats 4000000 in
set_option maxRecDepth 100000 in
theorem c_vsend2 (l : Launch) (dC : Nat → ClassId) (dI : Nat → Nat → Nat) (mv vs vr vc y : Nat) (vir vag vfi : Int32) (c0 co ca cb c3 cw cl cpv cpp cpl cpr cpt cpw cpc car : Nat) (ct cb9 cp9 ca9 : Nat) (f0 fl0 fl1 fv0 fv1 fv2 fv3 fv4 fv5 : Nat) (ytk ybd yac yrs yrl ycl ycf yct ylf ylt ybo : Int32) (ylv ypr yva : Nat) (kI kZ : ClassId) (lb : Nat) (st fr rc : Nat → Int32) (sz : Nat) (hlb : lb < 1100) (hyv : yva ≤ 40) : Met l yX7_send wp_c_vsend2 ({ frames := 0, cells := 0, slots := 0, locals := 0 }) (va_Pc [.ref mv, .int (nI lb)] (fun U => U.heap.size = sz ∧ va_P (dC, dI) vwCl [(mv, .inr (7, [.ref y, .ref c0, .ref f0, .ref vs, .ref vr, .ref vc, .int vir, .int vag, .int vfi])), (f0, .inr (2, [.int ytk, .int ybd, .int (nI ylv), .ref fl0, .int (nI ypr), .ref fl1, .int yac, .int yrs, .int yrl, .int (nI yva), .ref fv0, .ref fv1, .ref fv2, .ref fv3, .ref fv4, .ref fv5, .int ycl, .int ycf, .int yct, .int ylf, .int ylt, .int ybo])), (vs, .inl (kI, 40, .inl st)), (vr, .inl (kI, 44000, .inl fr)), (vc, .inl (kZ, 1100, .inl rc))] U.heap ∧ va_K (dC, dI) vwCl [(kI, .int), (kZ, .boolean)] U ∧ va_D (fun _ => True) [(mv, .inr (7, [.ref y, .ref c0, .ref f0, .ref vs, .ref vr, .ref vc, .int vir, .int vag, .int vfi])), (f0, .inr (2, [.int ytk, .int ybd, .int (nI ylv), .ref fl0, .int (nI ypr), .ref fl1, .int yac, .int yrs, .int yrl, .int (nI yva), .ref fv0, .ref fv1, .ref fv2, .ref fv3, .ref fv4, .ref fv5, .int ycl, .int ycf, .int yct, .int ylf, .int ylt, .int ybo])), (vs, .inl (kI, 40, .inl st)), (vr, .inl (kI, 44000, .inl fr)), (vc, .inl (kZ, 1100, .inl rc))])) (va_Qi (fun (r rv : Int32) => r = rv ∧ (rv = 0 ∨ rv = 1)) (fun (rv : Int32) (tS : State) => ∃ (gr : Nat → Int32) (gc : Nat → Int32), (sdR lb yva st fr gr) ∧ (gc = upd rc lb (vp_nar .boolean 1)) ∧ (rv = 0 → rc lb ≠ 0 ∧ ∀ v9 : Nat, v9 < yva → fr (lb * 40 + v9) ||| st v9 = fr (lb * 40 + v9)) ∧ (rv ≠ 0 → rc lb = 0 ∨ ∃ v9 : Nat, v9 < yva ∧ fr (lb * 40 + v9) ||| st v9 ≠ fr (lb * 40 + v9)) ∧ va_P (dC, dI) vwCl [(mv, .inr (7, [.ref y, .ref c0, .ref f0, .ref vs, .ref vr, .ref vc, .int vir, .int vag, .int vfi])), (f0, .inr (2, [.int ytk, .int ybd, .int (nI ylv), .ref fl0, .int (nI ypr), .ref fl1, .int yac, .int yrs, .int yrl, .int (nI yva), .ref fv0, .ref fv1, .ref fv2, .ref fv3, .ref fv4, .ref fv5, .int ycl, .int ycf, .int yct, .int ylf, .int ylt, .int ybo])), (vs, .inl (kI, 40, .inl st)), (vr, .inl (kI, 44000, .inl gr)), (vc, .inl (kZ, 1100, .inl gc))] tS.heap ∧ va_K (dC, dI) vwCl [(kI, .int), (kZ, .boolean)] tS ∧ va_D (va_A [(mv, .inr (7, [.ref y, .ref c0, .ref f0, .ref vs, .ref vr, .ref vc, .int vir, .int vag, .int vfi])), (f0, .inr (2, [.int ytk, .int ybd, .int (nI ylv), .ref fl0, .int (nI ypr), .ref fl1, .int yac, .int yrs, .int yrl, .int (nI yva), .ref fv0, .ref fv1, .ref fv2, .ref fv3, .ref fv4, .ref fv5, .int ycl, .int ycf, .int yct, .int ylf, .int ylt, .int ybo])), (vs, .inl (kI, 40, .inl st)), (vr, .inl (kI, 44000, .inl fr)), (vc, .inl (kZ, 1100, .inl rc))] sz) [(mv, .inr (7, [.ref y, .ref c0, .ref f0, .ref vs, .ref vr, .ref vc, .int vir, .int vag, .int vfi])), (f0, .inr (2, [.int ytk, .int ybd, .int (nI ylv), .ref fl0, .int (nI ypr), .ref fl1, .int yac, .int yrs, .int yrl, .int (nI yva), .ref fv0, .ref fv1, .ref fv2, .ref fv3, .ref fv4, .ref fv5, .int ycl, .int ycf, .int yct, .int ylf, .int ylt, .int ybo])), (vs, .inl (kI, 40, .inl st)), (vr, .inl (kI, 44000, .inl gr)), (vc, .inl (kZ, 1100, .inl gc))]) (va_A [(mv, .inr (7, [.ref y, .ref c0, .ref f0, .ref vs, .ref vr, .ref vc, .int vir, .int vag, .int vfi])), (f0, .inr (2, [.int ytk, .int ybd, .int (nI ylv), .ref fl0, .int (nI ypr), .ref fl1, .int yac, .int yrs, .int yrl, .int (nI yva), .ref fv0, .ref fv1, .ref fv2, .ref fv3, .ref fv4, .ref fv5, .int ycl, .int ycf, .int yct, .int ylf, .int ylt, .int ybo])), (vs, .inl (kI, 40, .inl st)), (vr, .inl (kI, 44000, .inl fr)), (vc, .inl (kZ, 1100, .inl rc))] sz)) 0 0 (va_A [(mv, .inr (7, [.ref y, .ref c0, .ref f0, .ref vs, .ref vr, .ref vc, .int vir, .int vag, .int vfi])), (f0, .inr (2, [.int ytk, .int ybd, .int (nI ylv), .ref fl0, .int (nI ypr), .ref fl1, .int yac, .int yrs, .int yrl, .int (nI yva), .ref fv0, .ref fv1, .ref fv2, .ref fv3, .ref fv4, .ref fv5, .int ycl, .int ycf, .int yct, .int ylf, .int ylt, .int ybo])), (vs, .inl (kI, 40, .inl st)), (vr, .inl (kI, 44000, .inl fr)), (vc, .inl (kZ, 1100, .inl rc))] sz) := by
  refine Met.ofW (cc := cX7_send) (maxL := 6) (ret := (some .boolean)) (by decide) rfl ?_
  intro p e s m args below meth c s₁ B hml hv
  obtain ⟨rfl, hsz, hP, hK, hD0⟩ := hv
  have hx := B.exec
  have hb := B.bytes
  have hr := B.returns
  have hts := atoms_spec (ws := wp_c_vsend2) B.pre
  have hown : s.vm.findClass RX7 = some m.cls := findClass_of_methodNamed B.named
  have hlocks := B.notSynchronized
  subst hsz
  have hD := hD0.self (sz := s.heap.size)
  generalize hAe : va_A [(mv, .inr (7, [.ref y, .ref c0, .ref f0, .ref vs, .ref vr, .ref vc, .int vir, .int vag, .int vfi])), (f0, .inr (2, [.int ytk, .int ybd, .int (nI ylv), .ref fl0, .int (nI ypr), .ref fl1, .int yac, .int yrs, .int yrl, .int (nI yva), .ref fv0, .ref fv1, .ref fv2, .ref fv3, .ref fv4, .ref fv5, .int ycl, .int ycf, .int yct, .int ylf, .int ylt, .int ybo])), (vs, .inl (kI, 40, .inl st)), (vr, .inl (kI, 44000, .inl fr)), (vc, .inl (kZ, 1100, .inl rc))] s.heap.size = A at hD ⊢
  have hA : ∀ q : Nat, s.heap.size ≤ q → A q := fun q h => by rw [← hAe]; exact Or.inr h
  have hS : va_S A s.heap s.heap [] := va_S.rf
  have hP : va_P (dC, dI) vwCl [(mv, .inr (7, [.ref y, .ref c0, .ref f0, .ref vs, .ref vr, .ref vc, .int vir, .int vag, .int vfi])), (f0, .inr (2, [.int ytk, .int ybd, .int (nI ylv), .ref fl0, .int (nI ypr), .ref fl1, .int yac, .int yrs, .int yrl, .int (nI yva), .ref fv0, .ref fv1, .ref fv2, .ref fv3, .ref fv4, .ref fv5, .int ycl, .int ycf, .int yct, .int ylf, .int ylt, .int ybo])), (vs, .inl (kI, 40, .inl st)), (vr, .inl (kI, 44000, .inl fr)), (vc, .inl (kZ, 1100, .inl rc))] s.heap := hP
  have hl := lv_entry ([.ref mv, .int (nI lb)]) (n := 6) (Nat.le_of_ble_eq_true rfl)
  rw [lg_entry_eq]
  generalize (lg_sl ([.ref mv, .int (nI lb)]) ++ List.replicate (6 - (lg_sl ([.ref mv, .int (nI lb)])).length) Slot.unset).toArray = ls at hl ⊢
  have hl : lv_has ls 6 [(0, .ref mv), (1, .int (nI lb))] := hl
  refine lv_aload_n hx hb dX7_send_0 rfl (lv_at hl 0 rfl) ?_
  refine va_get (D := (dC, dI)) (ci := 7) (v := .ref vc) (C := RX7) (T := TX7) (N := 9) hx hb hts in_c_vsend2_X7 hown hK hP 0 rfl rfl 5 (by decide) (hts (.fieldLink RX7 19 "OwnedPlaces$Moves" "reached" "[Z") (wm_c_vsend2 1 rfl)) (fun _ h9 => h9) rfl dX7_send_1 ?_
  refine lv_iload_n hx hb dX7_send_4 rfl (lv_at hl 1 rfl) ?_
  refine va_zald hx hb hK hP 4 1 rfl rfl (vp_in_nI hlb (by decide)) dX7_send_5 ?_
  refine lv_topi (fun v_1 ev_1 => ?_)
  have hr9 : v_1 = rc lb := ev_1.trans (by rw [nI_clamp (by omega)])
  refine lv_if_ne (tgt := 13) hx hb dX7_send_6 (by decide) (fun hne => ?_) (fun hne => ?_)
  · refine lv_iconst (v := 0) hx hb dX7_send_13 (by decide) ?_
    refine lv_istore_n (lv' := [(2, .int 0), (0, .ref mv), (1, .int (nI lb))]) hx hb dX7_send_14 rfl hl (by decide) rfl (fun ls hl => ?_)
    refine lv_iload_n hx hb dX7_send_15 rfl (lv_at hl 2 rfl) ?_
    refine lv_bipush (v := 40) hx hb dX7_send_16 (by decide) ?_
    refine lv_imul hx hb dX7_send_18 ?_
    refine lv_topi (fun f_2 ef_2 => ?_)
    obtain rfl : f_2 = nI (lb * 40) := ef_2.trans (pk_mul lb 40)
    refine lv_istore_n (lv' := [(3, .int (nI (lb * 40))), (2, .int 0), (0, .ref mv), (1, .int (nI lb))]) hx hb dX7_send_19 rfl hl (by decide) rfl (fun ls hl => ?_)
    refine lv_iconst (v := 0) hx hb dX7_send_20 (by decide) ?_
    refine lv_istore (lv' := [(4, .int 0), (3, .int (nI (lb * 40))), (2, .int 0), (0, .ref mv), (1, .int (nI lb))]) hx hb dX7_send_21 hl (by decide) rfl (fun ls hl => ?_)
    have hl : lv_has ls 6 [(4, .int (nI 0)), (3, .int (nI (lb * 40))), (2, .int 0), (0, .ref mv), (1, .int (nI lb))] := hl
    refine W_q (fun Q1 hQ1 => ?_)
    have key1 : ∀ (n1 : Nat) (i : Nat) (nz : Int32) (r1 : Nat → Int32) (H : Heap) (locs : List Loc) (ls : Array Slot), (i + n1 = yva + 1 ∧ i ≤ yva) → (nz = 0 ∨ nz = 1) → (sdR lb i st fr r1) → (nz = 0 → rc lb ≠ 0 ∧ ∀ v9 : Nat, v9 < i → fr (lb * 40 + v9) ||| st v9 = fr (lb * 40 + v9)) → (nz ≠ 0 → rc lb = 0 ∨ ∃ v9 : Nat, v9 < i ∧ fr (lb * 40 + v9) ||| st v9 ≠ fr (lb * 40 + v9)) → va_P (dC, dI) vwCl [(mv, .inr (7, [.ref y, .ref c0, .ref f0, .ref vs, .ref vr, .ref vc, .int vir, .int vag, .int vfi])), (f0, .inr (2, [.int ytk, .int ybd, .int (nI ylv), .ref fl0, .int (nI ypr), .ref fl1, .int yac, .int yrs, .int yrl, .int (nI yva), .ref fv0, .ref fv1, .ref fv2, .ref fv3, .ref fv4, .ref fv5, .int ycl, .int ycf, .int yct, .int ylf, .int ylt, .int ybo])), (vs, .inl (kI, 40, .inl st)), (vr, .inl (kI, 44000, .inl r1)), (vc, .inl (kZ, 1100, .inl rc))] H → va_D A [(mv, .inr (7, [.ref y, .ref c0, .ref f0, .ref vs, .ref vr, .ref vc, .int vir, .int vag, .int vfi])), (f0, .inr (2, [.int ytk, .int ybd, .int (nI ylv), .ref fl0, .int (nI ypr), .ref fl1, .int yac, .int yrs, .int yrl, .int (nI yva), .ref fv0, .ref fv1, .ref fv2, .ref fv3, .ref fv4, .ref fv5, .int ycl, .int ycf, .int yct, .int ylf, .int ylt, .int ybo])), (vs, .inl (kI, 40, .inl st)), (vr, .inl (kI, 44000, .inl r1)), (vc, .inl (kZ, 1100, .inl rc))] → va_S A s.heap H locs → lv_has ls 6 [(4, .int (nI i)), (3, .int (nI (lb * 40))), (2, .int nz), (0, .ref mv), (1, .int (nI lb))] → W p l e (headSpec wp_c_vsend2 ({ frames := 0, cells := 0, slots := 0, locals := 0 })).room s m ([.ref mv, .int (nI lb)] : List Value).toArray below meth c H locs 0 0 Q1 (F0 m 23 ls []) := by
      intro n1
      induction n1 with
      | zero => intro i nz r1 H locs ls hb0 hb1 hb2 hb3 hb4; exact absurd hb0 (by omega)
      | succ n1 ih1 =>
        intro i nz r1 H locs ls hb0 hb1 hb2 hb3 hb4 hP hD hS hl
        refine lv_iload hx hb dX7_send_23 (lv_at hl 0 rfl) ?_
        refine lv_aload_n hx hb dX7_send_25 rfl (lv_at hl 3 rfl) ?_
        refine va_get (D := (dC, dI)) (ci := 7) (v := .ref f0) (C := RX7) (T := TX7) (N := 9) hx hb hts in_c_vsend2_X7 hown hK hP 0 rfl rfl 2 (by decide) (hts (.fieldLink RX7 31 "OwnedPlaces$Moves" "function" "LOwnedPlaces$Function;") (wm_c_vsend2 2 rfl)) (fun _ h9 => h9) rfl dX7_send_26 ?_
        refine va_get (D := (dC, dI)) (ci := 2) (v := .int (nI yva)) (C := RX2) (T := TX2) (N := 22) hx hb hts in_c_vsend2_X2 hown hK hP 1 rfl rfl 9 (by decide) (hts (.fieldLink RX7 64 "OwnedPlaces$Function" "variables" "I") (wm_c_vsend2 3 rfl)) (fun _ h9 => h9) rfl dX7_send_29 ?_
        refine lv_icmp_ge (tgt := 95) hx hb dX7_send_32 (by decide) (fun hc1 => ?_) (fun hc1 => ?_)
        · have hi9 : i = yva := by have := (nI_leI (a := yva) (b := i) (by omega) (by omega)).mp hc1; omega
          refine lv_aload_n hx hb dX7_send_95 rfl (lv_at hl 3 rfl) ?_
          refine va_get (D := (dC, dI)) (ci := 7) (v := .ref vc) (C := RX7) (T := TX7) (N := 9) hx hb hts in_c_vsend2_X7 hown hK hP 0 rfl rfl 5 (by decide) (hts (.fieldLink RX7 19 "OwnedPlaces$Moves" "reached" "[Z") (wm_c_vsend2 1 rfl)) (fun _ h9 => h9) rfl dX7_send_96 ?_
          refine lv_iload_n hx hb dX7_send_99 rfl (lv_at hl 4 rfl) ?_
          refine lv_iconst (v := 1) hx hb dX7_send_100 (by decide) ?_
          refine va_zast hx hb hK hP hD hS 4 1 rfl rfl (vp_in_nI hlb (by decide)) dX7_send_101 (fun H locs hP hD hS => ?_)
          have hP : va_P (dC, dI) vwCl [(mv, .inr (7, [.ref y, .ref c0, .ref f0, .ref vs, .ref vr, .ref vc, .int vir, .int vag, .int vfi])), (f0, .inr (2, [.int ytk, .int ybd, .int (nI ylv), .ref fl0, .int (nI ypr), .ref fl1, .int yac, .int yrs, .int yrl, .int (nI yva), .ref fv0, .ref fv1, .ref fv2, .ref fv3, .ref fv4, .ref fv5, .int ycl, .int ycf, .int yct, .int ylf, .int ylt, .int ybo])), (vs, .inl (kI, 40, .inl st)), (vr, .inl (kI, 44000, .inl r1)), (vc, .inl (kZ, 1100, .inl (upd rc (nI lb : Int32).toNatClampNeg (vp_nar .boolean 1))))] H := hP
          have hD : va_D A [(mv, .inr (7, [.ref y, .ref c0, .ref f0, .ref vs, .ref vr, .ref vc, .int vir, .int vag, .int vfi])), (f0, .inr (2, [.int ytk, .int ybd, .int (nI ylv), .ref fl0, .int (nI ypr), .ref fl1, .int yac, .int yrs, .int yrl, .int (nI yva), .ref fv0, .ref fv1, .ref fv2, .ref fv3, .ref fv4, .ref fv5, .int ycl, .int ycf, .int yct, .int ylf, .int ylt, .int ybo])), (vs, .inl (kI, 40, .inl st)), (vr, .inl (kI, 44000, .inl r1)), (vc, .inl (kZ, 1100, .inl (upd rc (nI lb : Int32).toNatClampNeg (vp_nar .boolean 1))))] := hD
          obtain ⟨rc8, erc8⟩ : ∃ zZ : Nat → Int32, zZ = upd rc (nI lb : Int32).toNatClampNeg (vp_nar .boolean 1) := ⟨_, rfl⟩
          rw [← erc8] at hP hD
          refine lv_iload_n hx hb dX7_send_102 rfl (lv_at hl 2 rfl) ?_
          have hP9 := hP.sub (ws' := [(mv, .inr (7, [.ref y, .ref c0, .ref f0, .ref vs, .ref vr, .ref vc, .int vir, .int vag, .int vfi])), (f0, .inr (2, [.int ytk, .int ybd, .int (nI ylv), .ref fl0, .int (nI ypr), .ref fl1, .int yac, .int yrs, .int yrl, .int (nI yva), .ref fv0, .ref fv1, .ref fv2, .ref fv3, .ref fv4, .ref fv5, .int ycl, .int ycf, .int yct, .int ylf, .int ylt, .int ybo])), (vs, .inl (kI, 40, .inl st)), (vr, .inl (kI, 44000, .inl r1)), (vc, .inl (kZ, 1100, .inl rc8))]) [0, 1, 2, 3, 4] rfl
          have hD9 := hD.sub (ws' := [(mv, .inr (7, [.ref y, .ref c0, .ref f0, .ref vs, .ref vr, .ref vc, .int vir, .int vag, .int vfi])), (f0, .inr (2, [.int ytk, .int ybd, .int (nI ylv), .ref fl0, .int (nI ypr), .ref fl1, .int yac, .int yrs, .int yrl, .int (nI yva), .ref fv0, .ref fv1, .ref fv2, .ref fv3, .ref fv4, .ref fv5, .int ycl, .int ycf, .int yct, .int ylf, .int ylt, .int ybo])), (vs, .inl (kI, 40, .inl st)), (vr, .inl (kI, 44000, .inl r1)), (vc, .inl (kZ, 1100, .inl rc8))]) [0, 1, 2, 3, 4] (by decide) rfl
          have hK9 := hK.sub (tys' := [(kI, .int), (kZ, .boolean)]) [0, 1] rfl
          subst hQ1
          exact W.zret (v := nz) hx hb hr (by rcases hb1 with q | q <;> rw [q] <;> decide) (fun tS ht hW => ⟨⟨nz, nz, rfl, ⟨rfl, hb1⟩, r1, rc8, by rw [← hi9]; exact hb2, by rw [erc8, nI_clamp (by omega)], by rw [← hi9]; exact hb3, by rw [← hi9]; exact hb4, by rw [ht]; exact hP9, va_K.moved hW.alike hK9, hD9⟩, hS.F ht⟩) hS.2.2 dX7_send_103
        · have hi9 : i < yva := by rcases Nat.lt_or_ge i yva with y9 | y9; exact y9; exact absurd (nI_le y9 (by omega)) hc1
          have hr1 : r1 (lb * 40 + i) = fr (lb * 40 + i) := by rw [hb2 _, if_neg (by omega)]
          refine lv_aload_n hx hb dX7_send_35 rfl (lv_at hl 3 rfl) ?_
          refine va_get (D := (dC, dI)) (ci := 7) (v := .ref vr) (C := RX7) (T := TX7) (N := 9) hx hb hts in_c_vsend2_X7 hown hK hP 0 rfl rfl 4 (by decide) (hts (.fieldLink RX7 16 "OwnedPlaces$Moves" "rows" "[I") (wm_c_vsend2 4 rfl)) (fun _ h9 => h9) rfl dX7_send_36 ?_
          refine lv_iload_n hx hb dX7_send_39 rfl (lv_at hl 1 rfl) ?_
          refine lv_iload hx hb dX7_send_40 (lv_at hl 0 rfl) ?_
          refine lv_iadd hx hb dX7_send_42 ?_
          refine lv_topi (fun f_3 ef_3 => ?_)
          obtain rfl : f_3 = nI (lb * 40 + i) := ef_3.trans (nI_add _ _)
          refine va_iald hx hb hK hP 3 0 rfl rfl (vp_in_nI (by omega) (by decide)) dX7_send_43 ?_
          refine lv_topi (fun v_4 ev_4 => ?_)
          have h1 : v_4 = fr (lb * 40 + i) := ev_4.trans (by rw [nI_clamp (by omega)]; exact hr1)
          refine lv_aload_n hx hb dX7_send_44 rfl (lv_at hl 3 rfl) ?_
          refine va_get (D := (dC, dI)) (ci := 7) (v := .ref vs) (C := RX7) (T := TX7) (N := 9) hx hb hts in_c_vsend2_X7 hown hK hP 0 rfl rfl 3 (by decide) (hts (.fieldLink RX7 9 "OwnedPlaces$Moves" "state" "[I") (wm_c_vsend2 5 rfl)) (fun _ h9 => h9) rfl dX7_send_45 ?_
          refine lv_iload hx hb dX7_send_48 (lv_at hl 0 rfl) ?_
          refine va_iald hx hb hK hP 2 0 rfl rfl (vp_in_nI (by omega) (by decide)) dX7_send_50 ?_
          refine lv_topi (fun v_5 ev_5 => ?_)
          have h2 : v_5 = st i := ev_5.trans (by rw [nI_clamp (by omega)])
          refine lv_ior hx hb dX7_send_51 ?_
          refine lv_topi (fun f_6 ef_6 => ?_)
          have hf9 : f_6 = fr (lb * 40 + i) ||| st i := by rw [ef_6, h1, h2]
          refine lv_istore (lv' := [(5, .int f_6), (4, .int (nI i)), (3, .int (nI (lb * 40))), (2, .int nz), (0, .ref mv), (1, .int (nI lb))]) hx hb dX7_send_52 hl (by decide) rfl (fun ls hl => ?_)
          refine lv_iload_n hx hb dX7_send_54 rfl (lv_at hl 3 rfl) ?_
          refine lv_if_ne (tgt := 72) hx hb dX7_send_55 (by decide) (fun hnz => ?_) (fun hnz => ?_)
          · refine lv_iconst (v := 1) hx hb dX7_send_72 (by decide) ?_
            refine lv_goto (tgt := 77) hx hb dX7_send_73 (by decide) ?_
            refine lv_istore_n (lv' := [(2, .int 1), (5, .int f_6), (4, .int (nI i)), (3, .int (nI (lb * 40))), (0, .ref mv), (1, .int (nI lb))]) hx hb dX7_send_77 rfl hl (by decide) rfl (fun ls hl => ?_)
            refine lv_aload_n hx hb dX7_send_78 rfl (lv_at hl 4 rfl) ?_
            refine va_get (D := (dC, dI)) (ci := 7) (v := .ref vr) (C := RX7) (T := TX7) (N := 9) hx hb hts in_c_vsend2_X7 hown hK hP 0 rfl rfl 4 (by decide) (hts (.fieldLink RX7 16 "OwnedPlaces$Moves" "rows" "[I") (wm_c_vsend2 4 rfl)) (fun _ h9 => h9) rfl dX7_send_79 ?_
            refine lv_iload_n hx hb dX7_send_82 rfl (lv_at hl 3 rfl) ?_
            refine lv_iload hx hb dX7_send_83 (lv_at hl 2 rfl) ?_
            refine lv_iadd hx hb dX7_send_85 ?_
            refine lv_topi (fun f_7 ef_7 => ?_)
            obtain rfl : f_7 = nI (lb * 40 + i) := ef_7.trans (nI_add _ _)
            refine lv_iload hx hb dX7_send_86 (lv_at hl 1 rfl) ?_
            refine va_iast hx hb hK hP hD hS 3 0 rfl rfl (vp_in_nI (by omega) (by decide)) dX7_send_88 (fun H locs hP hD hS => ?_)
            have hP : va_P (dC, dI) vwCl [(mv, .inr (7, [.ref y, .ref c0, .ref f0, .ref vs, .ref vr, .ref vc, .int vir, .int vag, .int vfi])), (f0, .inr (2, [.int ytk, .int ybd, .int (nI ylv), .ref fl0, .int (nI ypr), .ref fl1, .int yac, .int yrs, .int yrl, .int (nI yva), .ref fv0, .ref fv1, .ref fv2, .ref fv3, .ref fv4, .ref fv5, .int ycl, .int ycf, .int yct, .int ylf, .int ylt, .int ybo])), (vs, .inl (kI, 40, .inl st)), (vr, .inl (kI, 44000, .inl (upd r1 (nI (lb * 40 + i) : Int32).toNatClampNeg f_6))), (vc, .inl (kZ, 1100, .inl rc))] H := hP
            have hD : va_D A [(mv, .inr (7, [.ref y, .ref c0, .ref f0, .ref vs, .ref vr, .ref vc, .int vir, .int vag, .int vfi])), (f0, .inr (2, [.int ytk, .int ybd, .int (nI ylv), .ref fl0, .int (nI ypr), .ref fl1, .int yac, .int yrs, .int yrl, .int (nI yva), .ref fv0, .ref fv1, .ref fv2, .ref fv3, .ref fv4, .ref fv5, .int ycl, .int ycf, .int yct, .int ylf, .int ylt, .int ybo])), (vs, .inl (kI, 40, .inl st)), (vr, .inl (kI, 44000, .inl (upd r1 (nI (lb * 40 + i) : Int32).toNatClampNeg f_6))), (vc, .inl (kZ, 1100, .inl rc))] := hD
            obtain ⟨r8, er8⟩ : ∃ zZ : Nat → Int32, zZ = upd r1 (nI (lb * 40 + i) : Int32).toNatClampNeg f_6 := ⟨_, rfl⟩
            rw [← er8] at hP hD
            have hr8 : sdR lb (i + 1) st fr r8 := by rw [er8, nI_clamp (by omega), hf9]; exact sdR_S hb2
            obtain ⟨x_8, ex_8⟩ : ∃ yY : Int32, yY = (nI i) + 1 := ⟨_, rfl⟩
            refine lv_iinc (v := x_8) (lv' := [(4, .int x_8), (2, .int 1), (5, .int f_6), (3, .int (nI (lb * 40))), (0, .ref mv), (1, .int (nI lb))]) hx hb dX7_send_89 hl (k := 2) rfl (by rw [ex_8]; rfl) (by decide) rfl (fun ls hl => ?_)
            obtain rfl : x_8 = nI (i + 1) := by rw [ex_8]; exact nI_1 i
            have hl : lv_has ls 6 [(4, .int (nI (i + 1))), (2, .int 1), (5, .int f_6), (3, .int (nI (lb * 40))), (0, .ref mv), (1, .int (nI lb))] := hl
            refine lv_goto (tgt := 23) hx hb dX7_send_92 (by decide) ?_
            exact ih1 (i + 1) 1 r8 _ _ _ (by omega) (by decide) hr8 (fun y9 => absurd y9 (by decide)) (fun _ => (hb4 hnz).imp id (fun ⟨v9, y1, y2⟩ => ⟨v9, by omega, y2⟩)) (hP.sub [0, 1, 2, 3, 4] rfl) (hD.sub [0, 1, 2, 3, 4] (by decide) rfl) hS (lv_sub hl [0, 3, 1, 4, 5] rfl)
          · refine lv_iload hx hb dX7_send_58 (lv_at hl 0 rfl) ?_
            refine lv_aload_n hx hb dX7_send_60 rfl (lv_at hl 4 rfl) ?_
            refine va_get (D := (dC, dI)) (ci := 7) (v := .ref vr) (C := RX7) (T := TX7) (N := 9) hx hb hts in_c_vsend2_X7 hown hK hP 0 rfl rfl 4 (by decide) (hts (.fieldLink RX7 16 "OwnedPlaces$Moves" "rows" "[I") (wm_c_vsend2 4 rfl)) (fun _ h9 => h9) rfl dX7_send_61 ?_
            refine lv_iload_n hx hb dX7_send_64 rfl (lv_at hl 2 rfl) ?_
            refine lv_iload hx hb dX7_send_65 (lv_at hl 1 rfl) ?_
            refine lv_iadd hx hb dX7_send_67 ?_
            refine lv_topi (fun f_7 ef_7 => ?_)
            obtain rfl : f_7 = nI (lb * 40 + i) := ef_7.trans (nI_add _ _)
            refine va_iald hx hb hK hP 3 0 rfl rfl (vp_in_nI (by omega) (by decide)) dX7_send_68 ?_
            refine lv_topi (fun v_8 ev_8 => ?_)
            have h3 : v_8 = fr (lb * 40 + i) := ev_8.trans (by rw [nI_clamp (by omega)]; exact hr1)
            refine lv_icmp_eq (tgt := 76) hx hb dX7_send_69 (by decide) (fun heq => ?_) (fun heq => ?_)
            · have hnz0 : nz = 0 := hnz
              refine lv_iconst (v := 0) hx hb dX7_send_76 (by decide) ?_
              refine lv_istore_n (lv' := [(2, .int 0), (5, .int f_6), (4, .int (nI i)), (3, .int (nI (lb * 40))), (0, .ref mv), (1, .int (nI lb))]) hx hb dX7_send_77 rfl hl (by decide) rfl (fun ls hl => ?_)
              refine lv_aload_n hx hb dX7_send_78 rfl (lv_at hl 4 rfl) ?_
              refine va_get (D := (dC, dI)) (ci := 7) (v := .ref vr) (C := RX7) (T := TX7) (N := 9) hx hb hts in_c_vsend2_X7 hown hK hP 0 rfl rfl 4 (by decide) (hts (.fieldLink RX7 16 "OwnedPlaces$Moves" "rows" "[I") (wm_c_vsend2 4 rfl)) (fun _ h9 => h9) rfl dX7_send_79 ?_
              refine lv_iload_n hx hb dX7_send_82 rfl (lv_at hl 3 rfl) ?_
              refine lv_iload hx hb dX7_send_83 (lv_at hl 2 rfl) ?_
              refine lv_iadd hx hb dX7_send_85 ?_
              refine lv_topi (fun f_9 ef_9 => ?_)
              obtain rfl : f_9 = nI (lb * 40 + i) := ef_9.trans (nI_add _ _)
              refine lv_iload hx hb dX7_send_86 (lv_at hl 1 rfl) ?_
              refine va_iast hx hb hK hP hD hS 3 0 rfl rfl (vp_in_nI (by omega) (by decide)) dX7_send_88 (fun H locs hP hD hS => ?_)
              have hP : va_P (dC, dI) vwCl [(mv, .inr (7, [.ref y, .ref c0, .ref f0, .ref vs, .ref vr, .ref vc, .int vir, .int vag, .int vfi])), (f0, .inr (2, [.int ytk, .int ybd, .int (nI ylv), .ref fl0, .int (nI ypr), .ref fl1, .int yac, .int yrs, .int yrl, .int (nI yva), .ref fv0, .ref fv1, .ref fv2, .ref fv3, .ref fv4, .ref fv5, .int ycl, .int ycf, .int yct, .int ylf, .int ylt, .int ybo])), (vs, .inl (kI, 40, .inl st)), (vr, .inl (kI, 44000, .inl (upd r1 (nI (lb * 40 + i) : Int32).toNatClampNeg f_6))), (vc, .inl (kZ, 1100, .inl rc))] H := hP
              have hD : va_D A [(mv, .inr (7, [.ref y, .ref c0, .ref f0, .ref vs, .ref vr, .ref vc, .int vir, .int vag, .int vfi])), (f0, .inr (2, [.int ytk, .int ybd, .int (nI ylv), .ref fl0, .int (nI ypr), .ref fl1, .int yac, .int yrs, .int yrl, .int (nI yva), .ref fv0, .ref fv1, .ref fv2, .ref fv3, .ref fv4, .ref fv5, .int ycl, .int ycf, .int yct, .int ylf, .int ylt, .int ybo])), (vs, .inl (kI, 40, .inl st)), (vr, .inl (kI, 44000, .inl (upd r1 (nI (lb * 40 + i) : Int32).toNatClampNeg f_6))), (vc, .inl (kZ, 1100, .inl rc))] := hD
              obtain ⟨r8, er8⟩ : ∃ zZ : Nat → Int32, zZ = upd r1 (nI (lb * 40 + i) : Int32).toNatClampNeg f_6 := ⟨_, rfl⟩
              rw [← er8] at hP hD
              have hr8 : sdR lb (i + 1) st fr r8 := by rw [er8, nI_clamp (by omega), hf9]; exact sdR_S hb2
              obtain ⟨x_10, ex_10⟩ : ∃ yY : Int32, yY = (nI i) + 1 := ⟨_, rfl⟩
              refine lv_iinc (v := x_10) (lv' := [(4, .int x_10), (2, .int 0), (5, .int f_6), (3, .int (nI (lb * 40))), (0, .ref mv), (1, .int (nI lb))]) hx hb dX7_send_89 hl (k := 2) rfl (by rw [ex_10]; rfl) (by decide) rfl (fun ls hl => ?_)
              obtain rfl : x_10 = nI (i + 1) := by rw [ex_10]; exact nI_1 i
              have hl : lv_has ls 6 [(4, .int (nI (i + 1))), (2, .int 0), (5, .int f_6), (3, .int (nI (lb * 40))), (0, .ref mv), (1, .int (nI lb))] := hl
              refine lv_goto (tgt := 23) hx hb dX7_send_92 (by decide) ?_
              exact ih1 (i + 1) 0 r8 _ _ _ (by omega) (by decide) hr8 (fun _ => ⟨(hb3 hnz0).1, fun v9 hv9 => by rcases Nat.lt_or_ge v9 i with y9 | y9; exact (hb3 hnz0).2 v9 y9; rw [show v9 = i by omega, ← hf9, heq, h3]⟩) (fun y9 => absurd rfl y9) (hP.sub [0, 1, 2, 3, 4] rfl) (hD.sub [0, 1, 2, 3, 4] (by decide) rfl) hS (lv_sub hl [0, 3, 1, 4, 5] rfl)
            · refine lv_iconst (v := 1) hx hb dX7_send_72 (by decide) ?_
              refine lv_goto (tgt := 77) hx hb dX7_send_73 (by decide) ?_
              refine lv_istore_n (lv' := [(2, .int 1), (5, .int f_6), (4, .int (nI i)), (3, .int (nI (lb * 40))), (0, .ref mv), (1, .int (nI lb))]) hx hb dX7_send_77 rfl hl (by decide) rfl (fun ls hl => ?_)
              refine lv_aload_n hx hb dX7_send_78 rfl (lv_at hl 4 rfl) ?_
              refine va_get (D := (dC, dI)) (ci := 7) (v := .ref vr) (C := RX7) (T := TX7) (N := 9) hx hb hts in_c_vsend2_X7 hown hK hP 0 rfl rfl 4 (by decide) (hts (.fieldLink RX7 16 "OwnedPlaces$Moves" "rows" "[I") (wm_c_vsend2 4 rfl)) (fun _ h9 => h9) rfl dX7_send_79 ?_
              refine lv_iload_n hx hb dX7_send_82 rfl (lv_at hl 3 rfl) ?_
              refine lv_iload hx hb dX7_send_83 (lv_at hl 2 rfl) ?_
              refine lv_iadd hx hb dX7_send_85 ?_
              refine lv_topi (fun f_9 ef_9 => ?_)
              obtain rfl : f_9 = nI (lb * 40 + i) := ef_9.trans (nI_add _ _)
              refine lv_iload hx hb dX7_send_86 (lv_at hl 1 rfl) ?_
              refine va_iast hx hb hK hP hD hS 3 0 rfl rfl (vp_in_nI (by omega) (by decide)) dX7_send_88 (fun H locs hP hD hS => ?_)
              have hP : va_P (dC, dI) vwCl [(mv, .inr (7, [.ref y, .ref c0, .ref f0, .ref vs, .ref vr, .ref vc, .int vir, .int vag, .int vfi])), (f0, .inr (2, [.int ytk, .int ybd, .int (nI ylv), .ref fl0, .int (nI ypr), .ref fl1, .int yac, .int yrs, .int yrl, .int (nI yva), .ref fv0, .ref fv1, .ref fv2, .ref fv3, .ref fv4, .ref fv5, .int ycl, .int ycf, .int yct, .int ylf, .int ylt, .int ybo])), (vs, .inl (kI, 40, .inl st)), (vr, .inl (kI, 44000, .inl (upd r1 (nI (lb * 40 + i) : Int32).toNatClampNeg f_6))), (vc, .inl (kZ, 1100, .inl rc))] H := hP
              have hD : va_D A [(mv, .inr (7, [.ref y, .ref c0, .ref f0, .ref vs, .ref vr, .ref vc, .int vir, .int vag, .int vfi])), (f0, .inr (2, [.int ytk, .int ybd, .int (nI ylv), .ref fl0, .int (nI ypr), .ref fl1, .int yac, .int yrs, .int yrl, .int (nI yva), .ref fv0, .ref fv1, .ref fv2, .ref fv3, .ref fv4, .ref fv5, .int ycl, .int ycf, .int yct, .int ylf, .int ylt, .int ybo])), (vs, .inl (kI, 40, .inl st)), (vr, .inl (kI, 44000, .inl (upd r1 (nI (lb * 40 + i) : Int32).toNatClampNeg f_6))), (vc, .inl (kZ, 1100, .inl rc))] := hD
              obtain ⟨r8, er8⟩ : ∃ zZ : Nat → Int32, zZ = upd r1 (nI (lb * 40 + i) : Int32).toNatClampNeg f_6 := ⟨_, rfl⟩
              rw [← er8] at hP hD
              have hr8 : sdR lb (i + 1) st fr r8 := by rw [er8, nI_clamp (by omega), hf9]; exact sdR_S hb2
              obtain ⟨x_10, ex_10⟩ : ∃ yY : Int32, yY = (nI i) + 1 := ⟨_, rfl⟩
              refine lv_iinc (v := x_10) (lv' := [(4, .int x_10), (2, .int 1), (5, .int f_6), (3, .int (nI (lb * 40))), (0, .ref mv), (1, .int (nI lb))]) hx hb dX7_send_89 hl (k := 2) rfl (by rw [ex_10]; rfl) (by decide) rfl (fun ls hl => ?_)
              obtain rfl : x_10 = nI (i + 1) := by rw [ex_10]; exact nI_1 i
              have hl : lv_has ls 6 [(4, .int (nI (i + 1))), (2, .int 1), (5, .int f_6), (3, .int (nI (lb * 40))), (0, .ref mv), (1, .int (nI lb))] := hl
              refine lv_goto (tgt := 23) hx hb dX7_send_92 (by decide) ?_
              exact ih1 (i + 1) 1 r8 _ _ _ (by omega) (by decide) hr8 (fun y9 => absurd y9 (by decide)) (fun _ => Or.inr ⟨i, by omega, fun y9 => heq (by rw [hf9, h3]; exact y9)⟩) (hP.sub [0, 1, 2, 3, 4] rfl) (hD.sub [0, 1, 2, 3, 4] (by decide) rfl) hS (lv_sub hl [0, 3, 1, 4, 5] rfl)
    exact key1 (yva + 1) 0 0 fr _ _ _ (by omega) (by decide) sdR_0 (fun _ => ⟨fun y9 => hne (hr9.trans y9), fun v9 hv9 => absurd hv9 (by omega)⟩) (fun y9 => absurd rfl y9) (hP.sub [0, 1, 2, 3, 4] rfl) (hD.sub [0, 1, 2, 3, 4] (by decide) rfl) hS (lv_sub hl [0, 1, 2, 3, 4] rfl)
  · refine lv_iconst (v := 1) hx hb dX7_send_9 (by decide) ?_
    refine lv_goto (tgt := 14) hx hb dX7_send_10 (by decide) ?_
    refine lv_istore_n (lv' := [(2, .int 1), (0, .ref mv), (1, .int (nI lb))]) hx hb dX7_send_14 rfl hl (by decide) rfl (fun ls hl => ?_)
    refine lv_iload_n hx hb dX7_send_15 rfl (lv_at hl 2 rfl) ?_
    refine lv_bipush (v := 40) hx hb dX7_send_16 (by decide) ?_
    refine lv_imul hx hb dX7_send_18 ?_
    refine lv_topi (fun f_2 ef_2 => ?_)
    obtain rfl : f_2 = nI (lb * 40) := ef_2.trans (pk_mul lb 40)
    refine lv_istore_n (lv' := [(3, .int (nI (lb * 40))), (2, .int 1), (0, .ref mv), (1, .int (nI lb))]) hx hb dX7_send_19 rfl hl (by decide) rfl (fun ls hl => ?_)
    refine lv_iconst (v := 0) hx hb dX7_send_20 (by decide) ?_
    refine lv_istore (lv' := [(4, .int 0), (3, .int (nI (lb * 40))), (2, .int 1), (0, .ref mv), (1, .int (nI lb))]) hx hb dX7_send_21 hl (by decide) rfl (fun ls hl => ?_)
    have hl : lv_has ls 6 [(4, .int (nI 0)), (3, .int (nI (lb * 40))), (2, .int 1), (0, .ref mv), (1, .int (nI lb))] := hl
    refine W_q (fun Q1 hQ1 => ?_)
    have key1 : ∀ (n1 : Nat) (i : Nat) (nz : Int32) (r1 : Nat → Int32) (H : Heap) (locs : List Loc) (ls : Array Slot), (i + n1 = yva + 1 ∧ i ≤ yva) → (nz = 0 ∨ nz = 1) → (sdR lb i st fr r1) → (nz = 0 → rc lb ≠ 0 ∧ ∀ v9 : Nat, v9 < i → fr (lb * 40 + v9) ||| st v9 = fr (lb * 40 + v9)) → (nz ≠ 0 → rc lb = 0 ∨ ∃ v9 : Nat, v9 < i ∧ fr (lb * 40 + v9) ||| st v9 ≠ fr (lb * 40 + v9)) → va_P (dC, dI) vwCl [(mv, .inr (7, [.ref y, .ref c0, .ref f0, .ref vs, .ref vr, .ref vc, .int vir, .int vag, .int vfi])), (f0, .inr (2, [.int ytk, .int ybd, .int (nI ylv), .ref fl0, .int (nI ypr), .ref fl1, .int yac, .int yrs, .int yrl, .int (nI yva), .ref fv0, .ref fv1, .ref fv2, .ref fv3, .ref fv4, .ref fv5, .int ycl, .int ycf, .int yct, .int ylf, .int ylt, .int ybo])), (vs, .inl (kI, 40, .inl st)), (vr, .inl (kI, 44000, .inl r1)), (vc, .inl (kZ, 1100, .inl rc))] H → va_D A [(mv, .inr (7, [.ref y, .ref c0, .ref f0, .ref vs, .ref vr, .ref vc, .int vir, .int vag, .int vfi])), (f0, .inr (2, [.int ytk, .int ybd, .int (nI ylv), .ref fl0, .int (nI ypr), .ref fl1, .int yac, .int yrs, .int yrl, .int (nI yva), .ref fv0, .ref fv1, .ref fv2, .ref fv3, .ref fv4, .ref fv5, .int ycl, .int ycf, .int yct, .int ylf, .int ylt, .int ybo])), (vs, .inl (kI, 40, .inl st)), (vr, .inl (kI, 44000, .inl r1)), (vc, .inl (kZ, 1100, .inl rc))] → va_S A s.heap H locs → lv_has ls 6 [(4, .int (nI i)), (3, .int (nI (lb * 40))), (2, .int nz), (0, .ref mv), (1, .int (nI lb))] → W p l e (headSpec wp_c_vsend2 ({ frames := 0, cells := 0, slots := 0, locals := 0 })).room s m ([.ref mv, .int (nI lb)] : List Value).toArray below meth c H locs 0 0 Q1 (F0 m 23 ls []) := by
      intro n1
      induction n1 with
      | zero => intro i nz r1 H locs ls hb0 hb1 hb2 hb3 hb4; exact absurd hb0 (by omega)
      | succ n1 ih1 =>
        intro i nz r1 H locs ls hb0 hb1 hb2 hb3 hb4 hP hD hS hl
        refine lv_iload hx hb dX7_send_23 (lv_at hl 0 rfl) ?_
        refine lv_aload_n hx hb dX7_send_25 rfl (lv_at hl 3 rfl) ?_
        refine va_get (D := (dC, dI)) (ci := 7) (v := .ref f0) (C := RX7) (T := TX7) (N := 9) hx hb hts in_c_vsend2_X7 hown hK hP 0 rfl rfl 2 (by decide) (hts (.fieldLink RX7 31 "OwnedPlaces$Moves" "function" "LOwnedPlaces$Function;") (wm_c_vsend2 2 rfl)) (fun _ h9 => h9) rfl dX7_send_26 ?_
        refine va_get (D := (dC, dI)) (ci := 2) (v := .int (nI yva)) (C := RX2) (T := TX2) (N := 22) hx hb hts in_c_vsend2_X2 hown hK hP 1 rfl rfl 9 (by decide) (hts (.fieldLink RX7 64 "OwnedPlaces$Function" "variables" "I") (wm_c_vsend2 3 rfl)) (fun _ h9 => h9) rfl dX7_send_29 ?_
        refine lv_icmp_ge (tgt := 95) hx hb dX7_send_32 (by decide) (fun hc1 => ?_) (fun hc1 => ?_)
        · have hi9 : i = yva := by have := (nI_leI (a := yva) (b := i) (by omega) (by omega)).mp hc1; omega
          refine lv_aload_n hx hb dX7_send_95 rfl (lv_at hl 3 rfl) ?_
          refine va_get (D := (dC, dI)) (ci := 7) (v := .ref vc) (C := RX7) (T := TX7) (N := 9) hx hb hts in_c_vsend2_X7 hown hK hP 0 rfl rfl 5 (by decide) (hts (.fieldLink RX7 19 "OwnedPlaces$Moves" "reached" "[Z") (wm_c_vsend2 1 rfl)) (fun _ h9 => h9) rfl dX7_send_96 ?_
          refine lv_iload_n hx hb dX7_send_99 rfl (lv_at hl 4 rfl) ?_
          refine lv_iconst (v := 1) hx hb dX7_send_100 (by decide) ?_
          refine va_zast hx hb hK hP hD hS 4 1 rfl rfl (vp_in_nI hlb (by decide)) dX7_send_101 (fun H locs hP hD hS => ?_)
          have hP : va_P (dC, dI) vwCl [(mv, .inr (7, [.ref y, .ref c0, .ref f0, .ref vs, .ref vr, .ref vc, .int vir, .int vag, .int vfi])), (f0, .inr (2, [.int ytk, .int ybd, .int (nI ylv), .ref fl0, .int (nI ypr), .ref fl1, .int yac, .int yrs, .int yrl, .int (nI yva), .ref fv0, .ref fv1, .ref fv2, .ref fv3, .ref fv4, .ref fv5, .int ycl, .int ycf, .int yct, .int ylf, .int ylt, .int ybo])), (vs, .inl (kI, 40, .inl st)), (vr, .inl (kI, 44000, .inl r1)), (vc, .inl (kZ, 1100, .inl (upd rc (nI lb : Int32).toNatClampNeg (vp_nar .boolean 1))))] H := hP
          have hD : va_D A [(mv, .inr (7, [.ref y, .ref c0, .ref f0, .ref vs, .ref vr, .ref vc, .int vir, .int vag, .int vfi])), (f0, .inr (2, [.int ytk, .int ybd, .int (nI ylv), .ref fl0, .int (nI ypr), .ref fl1, .int yac, .int yrs, .int yrl, .int (nI yva), .ref fv0, .ref fv1, .ref fv2, .ref fv3, .ref fv4, .ref fv5, .int ycl, .int ycf, .int yct, .int ylf, .int ylt, .int ybo])), (vs, .inl (kI, 40, .inl st)), (vr, .inl (kI, 44000, .inl r1)), (vc, .inl (kZ, 1100, .inl (upd rc (nI lb : Int32).toNatClampNeg (vp_nar .boolean 1))))] := hD
          obtain ⟨rc8, erc8⟩ : ∃ zZ : Nat → Int32, zZ = upd rc (nI lb : Int32).toNatClampNeg (vp_nar .boolean 1) := ⟨_, rfl⟩
          rw [← erc8] at hP hD
          refine lv_iload_n hx hb dX7_send_102 rfl (lv_at hl 2 rfl) ?_
          have hP9 := hP.sub (ws' := [(mv, .inr (7, [.ref y, .ref c0, .ref f0, .ref vs, .ref vr, .ref vc, .int vir, .int vag, .int vfi])), (f0, .inr (2, [.int ytk, .int ybd, .int (nI ylv), .ref fl0, .int (nI ypr), .ref fl1, .int yac, .int yrs, .int yrl, .int (nI yva), .ref fv0, .ref fv1, .ref fv2, .ref fv3, .ref fv4, .ref fv5, .int ycl, .int ycf, .int yct, .int ylf, .int ylt, .int ybo])), (vs, .inl (kI, 40, .inl st)), (vr, .inl (kI, 44000, .inl r1)), (vc, .inl (kZ, 1100, .inl rc8))]) [0, 1, 2, 3, 4] rfl
          have hD9 := hD.sub (ws' := [(mv, .inr (7, [.ref y, .ref c0, .ref f0, .ref vs, .ref vr, .ref vc, .int vir, .int vag, .int vfi])), (f0, .inr (2, [.int ytk, .int ybd, .int (nI ylv), .ref fl0, .int (nI ypr), .ref fl1, .int yac, .int yrs, .int yrl, .int (nI yva), .ref fv0, .ref fv1, .ref fv2, .ref fv3, .ref fv4, .ref fv5, .int ycl, .int ycf, .int yct, .int ylf, .int ylt, .int ybo])), (vs, .inl (kI, 40, .inl st)), (vr, .inl (kI, 44000, .inl r1)), (vc, .inl (kZ, 1100, .inl rc8))]) [0, 1, 2, 3, 4] (by decide) rfl
          have hK9 := hK.sub (tys' := [(kI, .int), (kZ, .boolean)]) [0, 1] rfl
          subst hQ1
          exact W.zret (v := nz) hx hb hr (by rcases hb1 with q | q <;> rw [q] <;> decide) (fun tS ht hW => ⟨⟨nz, nz, rfl, ⟨rfl, hb1⟩, r1, rc8, by rw [← hi9]; exact hb2, by rw [erc8, nI_clamp (by omega)], by rw [← hi9]; exact hb3, by rw [← hi9]; exact hb4, by rw [ht]; exact hP9, va_K.moved hW.alike hK9, hD9⟩, hS.F ht⟩) hS.2.2 dX7_send_103
        · have hi9 : i < yva := by rcases Nat.lt_or_ge i yva with y9 | y9; exact y9; exact absurd (nI_le y9 (by omega)) hc1
          have hr1 : r1 (lb * 40 + i) = fr (lb * 40 + i) := by rw [hb2 _, if_neg (by omega)]
          refine lv_aload_n hx hb dX7_send_35 rfl (lv_at hl 3 rfl) ?_
          refine va_get (D := (dC, dI)) (ci := 7) (v := .ref vr) (C := RX7) (T := TX7) (N := 9) hx hb hts in_c_vsend2_X7 hown hK hP 0 rfl rfl 4 (by decide) (hts (.fieldLink RX7 16 "OwnedPlaces$Moves" "rows" "[I") (wm_c_vsend2 4 rfl)) (fun _ h9 => h9) rfl dX7_send_36 ?_
          refine lv_iload_n hx hb dX7_send_39 rfl (lv_at hl 1 rfl) ?_
          refine lv_iload hx hb dX7_send_40 (lv_at hl 0 rfl) ?_
          refine lv_iadd hx hb dX7_send_42 ?_
          refine lv_topi (fun f_3 ef_3 => ?_)
          obtain rfl : f_3 = nI (lb * 40 + i) := ef_3.trans (nI_add _ _)
          refine va_iald hx hb hK hP 3 0 rfl rfl (vp_in_nI (by omega) (by decide)) dX7_send_43 ?_
          refine lv_topi (fun v_4 ev_4 => ?_)
          have h1 : v_4 = fr (lb * 40 + i) := ev_4.trans (by rw [nI_clamp (by omega)]; exact hr1)
          refine lv_aload_n hx hb dX7_send_44 rfl (lv_at hl 3 rfl) ?_
          refine va_get (D := (dC, dI)) (ci := 7) (v := .ref vs) (C := RX7) (T := TX7) (N := 9) hx hb hts in_c_vsend2_X7 hown hK hP 0 rfl rfl 3 (by decide) (hts (.fieldLink RX7 9 "OwnedPlaces$Moves" "state" "[I") (wm_c_vsend2 5 rfl)) (fun _ h9 => h9) rfl dX7_send_45 ?_
          refine lv_iload hx hb dX7_send_48 (lv_at hl 0 rfl) ?_
          refine va_iald hx hb hK hP 2 0 rfl rfl (vp_in_nI (by omega) (by decide)) dX7_send_50 ?_
          refine lv_topi (fun v_5 ev_5 => ?_)
          have h2 : v_5 = st i := ev_5.trans (by rw [nI_clamp (by omega)])
          refine lv_ior hx hb dX7_send_51 ?_
          refine lv_topi (fun f_6 ef_6 => ?_)
          have hf9 : f_6 = fr (lb * 40 + i) ||| st i := by rw [ef_6, h1, h2]
          refine lv_istore (lv' := [(5, .int f_6), (4, .int (nI i)), (3, .int (nI (lb * 40))), (2, .int nz), (0, .ref mv), (1, .int (nI lb))]) hx hb dX7_send_52 hl (by decide) rfl (fun ls hl => ?_)
          refine lv_iload_n hx hb dX7_send_54 rfl (lv_at hl 3 rfl) ?_
          refine lv_if_ne (tgt := 72) hx hb dX7_send_55 (by decide) (fun hnz => ?_) (fun hnz => ?_)
          · refine lv_iconst (v := 1) hx hb dX7_send_72 (by decide) ?_
            refine lv_goto (tgt := 77) hx hb dX7_send_73 (by decide) ?_
            refine lv_istore_n (lv' := [(2, .int 1), (5, .int f_6), (4, .int (nI i)), (3, .int (nI (lb * 40))), (0, .ref mv), (1, .int (nI lb))]) hx hb dX7_send_77 rfl hl (by decide) rfl (fun ls hl => ?_)
            refine lv_aload_n hx hb dX7_send_78 rfl (lv_at hl 4 rfl) ?_
            refine va_get (D := (dC, dI)) (ci := 7) (v := .ref vr) (C := RX7) (T := TX7) (N := 9) hx hb hts in_c_vsend2_X7 hown hK hP 0 rfl rfl 4 (by decide) (hts (.fieldLink RX7 16 "OwnedPlaces$Moves" "rows" "[I") (wm_c_vsend2 4 rfl)) (fun _ h9 => h9) rfl dX7_send_79 ?_
            refine lv_iload_n hx hb dX7_send_82 rfl (lv_at hl 3 rfl) ?_
            refine lv_iload hx hb dX7_send_83 (lv_at hl 2 rfl) ?_
            refine lv_iadd hx hb dX7_send_85 ?_
            refine lv_topi (fun f_7 ef_7 => ?_)
            obtain rfl : f_7 = nI (lb * 40 + i) := ef_7.trans (nI_add _ _)
            refine lv_iload hx hb dX7_send_86 (lv_at hl 1 rfl) ?_
            refine va_iast hx hb hK hP hD hS 3 0 rfl rfl (vp_in_nI (by omega) (by decide)) dX7_send_88 (fun H locs hP hD hS => ?_)
            have hP : va_P (dC, dI) vwCl [(mv, .inr (7, [.ref y, .ref c0, .ref f0, .ref vs, .ref vr, .ref vc, .int vir, .int vag, .int vfi])), (f0, .inr (2, [.int ytk, .int ybd, .int (nI ylv), .ref fl0, .int (nI ypr), .ref fl1, .int yac, .int yrs, .int yrl, .int (nI yva), .ref fv0, .ref fv1, .ref fv2, .ref fv3, .ref fv4, .ref fv5, .int ycl, .int ycf, .int yct, .int ylf, .int ylt, .int ybo])), (vs, .inl (kI, 40, .inl st)), (vr, .inl (kI, 44000, .inl (upd r1 (nI (lb * 40 + i) : Int32).toNatClampNeg f_6))), (vc, .inl (kZ, 1100, .inl rc))] H := hP
            have hD : va_D A [(mv, .inr (7, [.ref y, .ref c0, .ref f0, .ref vs, .ref vr, .ref vc, .int vir, .int vag, .int vfi])), (f0, .inr (2, [.int ytk, .int ybd, .int (nI ylv), .ref fl0, .int (nI ypr), .ref fl1, .int yac, .int yrs, .int yrl, .int (nI yva), .ref fv0, .ref fv1, .ref fv2, .ref fv3, .ref fv4, .ref fv5, .int ycl, .int ycf, .int yct, .int ylf, .int ylt, .int ybo])), (vs, .inl (kI, 40, .inl st)), (vr, .inl (kI, 44000, .inl (upd r1 (nI (lb * 40 + i) : Int32).toNatClampNeg f_6))), (vc, .inl (kZ, 1100, .inl rc))] := hD
            obtain ⟨r8, er8⟩ : ∃ zZ : Nat → Int32, zZ = upd r1 (nI (lb * 40 + i) : Int32).toNatClampNeg f_6 := ⟨_, rfl⟩
            rw [← er8] at hP hD
            have hr8 : sdR lb (i + 1) st fr r8 := by rw [er8, nI_clamp (by omega), hf9]; exact sdR_S hb2
            obtain ⟨x_8, ex_8⟩ : ∃ yY : Int32, yY = (nI i) + 1 := ⟨_, rfl⟩
            refine lv_iinc (v := x_8) (lv' := [(4, .int x_8), (2, .int 1), (5, .int f_6), (3, .int (nI (lb * 40))), (0, .ref mv), (1, .int (nI lb))]) hx hb dX7_send_89 hl (k := 2) rfl (by rw [ex_8]; rfl) (by decide) rfl (fun ls hl => ?_)
            obtain rfl : x_8 = nI (i + 1) := by rw [ex_8]; exact nI_1 i
            have hl : lv_has ls 6 [(4, .int (nI (i + 1))), (2, .int 1), (5, .int f_6), (3, .int (nI (lb * 40))), (0, .ref mv), (1, .int (nI lb))] := hl
            refine lv_goto (tgt := 23) hx hb dX7_send_92 (by decide) ?_
            exact ih1 (i + 1) 1 r8 _ _ _ (by omega) (by decide) hr8 (fun y9 => absurd y9 (by decide)) (fun _ => (hb4 hnz).imp id (fun ⟨v9, y1, y2⟩ => ⟨v9, by omega, y2⟩)) (hP.sub [0, 1, 2, 3, 4] rfl) (hD.sub [0, 1, 2, 3, 4] (by decide) rfl) hS (lv_sub hl [0, 3, 1, 4, 5] rfl)
          · refine lv_iload hx hb dX7_send_58 (lv_at hl 0 rfl) ?_
            refine lv_aload_n hx hb dX7_send_60 rfl (lv_at hl 4 rfl) ?_
            refine va_get (D := (dC, dI)) (ci := 7) (v := .ref vr) (C := RX7) (T := TX7) (N := 9) hx hb hts in_c_vsend2_X7 hown hK hP 0 rfl rfl 4 (by decide) (hts (.fieldLink RX7 16 "OwnedPlaces$Moves" "rows" "[I") (wm_c_vsend2 4 rfl)) (fun _ h9 => h9) rfl dX7_send_61 ?_
            refine lv_iload_n hx hb dX7_send_64 rfl (lv_at hl 2 rfl) ?_
            refine lv_iload hx hb dX7_send_65 (lv_at hl 1 rfl) ?_
            refine lv_iadd hx hb dX7_send_67 ?_
            refine lv_topi (fun f_7 ef_7 => ?_)
            obtain rfl : f_7 = nI (lb * 40 + i) := ef_7.trans (nI_add _ _)
            refine va_iald hx hb hK hP 3 0 rfl rfl (vp_in_nI (by omega) (by decide)) dX7_send_68 ?_
            refine lv_topi (fun v_8 ev_8 => ?_)
            have h3 : v_8 = fr (lb * 40 + i) := ev_8.trans (by rw [nI_clamp (by omega)]; exact hr1)
            refine lv_icmp_eq (tgt := 76) hx hb dX7_send_69 (by decide) (fun heq => ?_) (fun heq => ?_)
            · have hnz0 : nz = 0 := hnz
              refine lv_iconst (v := 0) hx hb dX7_send_76 (by decide) ?_
              refine lv_istore_n (lv' := [(2, .int 0), (5, .int f_6), (4, .int (nI i)), (3, .int (nI (lb * 40))), (0, .ref mv), (1, .int (nI lb))]) hx hb dX7_send_77 rfl hl (by decide) rfl (fun ls hl => ?_)
              refine lv_aload_n hx hb dX7_send_78 rfl (lv_at hl 4 rfl) ?_
              refine va_get (D := (dC, dI)) (ci := 7) (v := .ref vr) (C := RX7) (T := TX7) (N := 9) hx hb hts in_c_vsend2_X7 hown hK hP 0 rfl rfl 4 (by decide) (hts (.fieldLink RX7 16 "OwnedPlaces$Moves" "rows" "[I") (wm_c_vsend2 4 rfl)) (fun _ h9 => h9) rfl dX7_send_79 ?_
              refine lv_iload_n hx hb dX7_send_82 rfl (lv_at hl 3 rfl) ?_
              refine lv_iload hx hb dX7_send_83 (lv_at hl 2 rfl) ?_
              refine lv_iadd hx hb dX7_send_85 ?_
              refine lv_topi (fun f_9 ef_9 => ?_)
              obtain rfl : f_9 = nI (lb * 40 + i) := ef_9.trans (nI_add _ _)
              refine lv_iload hx hb dX7_send_86 (lv_at hl 1 rfl) ?_
              refine va_iast hx hb hK hP hD hS 3 0 rfl rfl (vp_in_nI (by omega) (by decide)) dX7_send_88 (fun H locs hP hD hS => ?_)
              have hP : va_P (dC, dI) vwCl [(mv, .inr (7, [.ref y, .ref c0, .ref f0, .ref vs, .ref vr, .ref vc, .int vir, .int vag, .int vfi])), (f0, .inr (2, [.int ytk, .int ybd, .int (nI ylv), .ref fl0, .int (nI ypr), .ref fl1, .int yac, .int yrs, .int yrl, .int (nI yva), .ref fv0, .ref fv1, .ref fv2, .ref fv3, .ref fv4, .ref fv5, .int ycl, .int ycf, .int yct, .int ylf, .int ylt, .int ybo])), (vs, .inl (kI, 40, .inl st)), (vr, .inl (kI, 44000, .inl (upd r1 (nI (lb * 40 + i) : Int32).toNatClampNeg f_6))), (vc, .inl (kZ, 1100, .inl rc))] H := hP
              have hD : va_D A [(mv, .inr (7, [.ref y, .ref c0, .ref f0, .ref vs, .ref vr, .ref vc, .int vir, .int vag, .int vfi])), (f0, .inr (2, [.int ytk, .int ybd, .int (nI ylv), .ref fl0, .int (nI ypr), .ref fl1, .int yac, .int yrs, .int yrl, .int (nI yva), .ref fv0, .ref fv1, .ref fv2, .ref fv3, .ref fv4, .ref fv5, .int ycl, .int ycf, .int yct, .int ylf, .int ylt, .int ybo])), (vs, .inl (kI, 40, .inl st)), (vr, .inl (kI, 44000, .inl (upd r1 (nI (lb * 40 + i) : Int32).toNatClampNeg f_6))), (vc, .inl (kZ, 1100, .inl rc))] := hD
              obtain ⟨r8, er8⟩ : ∃ zZ : Nat → Int32, zZ = upd r1 (nI (lb * 40 + i) : Int32).toNatClampNeg f_6 := ⟨_, rfl⟩
              rw [← er8] at hP hD
              have hr8 : sdR lb (i + 1) st fr r8 := by rw [er8, nI_clamp (by omega), hf9]; exact sdR_S hb2
              obtain ⟨x_10, ex_10⟩ : ∃ yY : Int32, yY = (nI i) + 1 := ⟨_, rfl⟩
              refine lv_iinc (v := x_10) (lv' := [(4, .int x_10), (2, .int 0), (5, .int f_6), (3, .int (nI (lb * 40))), (0, .ref mv), (1, .int (nI lb))]) hx hb dX7_send_89 hl (k := 2) rfl (by rw [ex_10]; rfl) (by decide) rfl (fun ls hl => ?_)
              obtain rfl : x_10 = nI (i + 1) := by rw [ex_10]; exact nI_1 i
              have hl : lv_has ls 6 [(4, .int (nI (i + 1))), (2, .int 0), (5, .int f_6), (3, .int (nI (lb * 40))), (0, .ref mv), (1, .int (nI lb))] := hl
              refine lv_goto (tgt := 23) hx hb dX7_send_92 (by decide) ?_
              exact ih1 (i + 1) 0 r8 _ _ _ (by omega) (by decide) hr8 (fun _ => ⟨(hb3 hnz0).1, fun v9 hv9 => by rcases Nat.lt_or_ge v9 i with y9 | y9; exact (hb3 hnz0).2 v9 y9; rw [show v9 = i by omega, ← hf9, heq, h3]⟩) (fun y9 => absurd rfl y9) (hP.sub [0, 1, 2, 3, 4] rfl) (hD.sub [0, 1, 2, 3, 4] (by decide) rfl) hS (lv_sub hl [0, 3, 1, 4, 5] rfl)
            · refine lv_iconst (v := 1) hx hb dX7_send_72 (by decide) ?_
              refine lv_goto (tgt := 77) hx hb dX7_send_73 (by decide) ?_
              refine lv_istore_n (lv' := [(2, .int 1), (5, .int f_6), (4, .int (nI i)), (3, .int (nI (lb * 40))), (0, .ref mv), (1, .int (nI lb))]) hx hb dX7_send_77 rfl hl (by decide) rfl (fun ls hl => ?_)
              refine lv_aload_n hx hb dX7_send_78 rfl (lv_at hl 4 rfl) ?_
              refine va_get (D := (dC, dI)) (ci := 7) (v := .ref vr) (C := RX7) (T := TX7) (N := 9) hx hb hts in_c_vsend2_X7 hown hK hP 0 rfl rfl 4 (by decide) (hts (.fieldLink RX7 16 "OwnedPlaces$Moves" "rows" "[I") (wm_c_vsend2 4 rfl)) (fun _ h9 => h9) rfl dX7_send_79 ?_
              refine lv_iload_n hx hb dX7_send_82 rfl (lv_at hl 3 rfl) ?_
              refine lv_iload hx hb dX7_send_83 (lv_at hl 2 rfl) ?_
              refine lv_iadd hx hb dX7_send_85 ?_
              refine lv_topi (fun f_9 ef_9 => ?_)
              obtain rfl : f_9 = nI (lb * 40 + i) := ef_9.trans (nI_add _ _)
              refine lv_iload hx hb dX7_send_86 (lv_at hl 1 rfl) ?_
              refine va_iast hx hb hK hP hD hS 3 0 rfl rfl (vp_in_nI (by omega) (by decide)) dX7_send_88 (fun H locs hP hD hS => ?_)
              have hP : va_P (dC, dI) vwCl [(mv, .inr (7, [.ref y, .ref c0, .ref f0, .ref vs, .ref vr, .ref vc, .int vir, .int vag, .int vfi])), (f0, .inr (2, [.int ytk, .int ybd, .int (nI ylv), .ref fl0, .int (nI ypr), .ref fl1, .int yac, .int yrs, .int yrl, .int (nI yva), .ref fv0, .ref fv1, .ref fv2, .ref fv3, .ref fv4, .ref fv5, .int ycl, .int ycf, .int yct, .int ylf, .int ylt, .int ybo])), (vs, .inl (kI, 40, .inl st)), (vr, .inl (kI, 44000, .inl (upd r1 (nI (lb * 40 + i) : Int32).toNatClampNeg f_6))), (vc, .inl (kZ, 1100, .inl rc))] H := hP
              have hD : va_D A [(mv, .inr (7, [.ref y, .ref c0, .ref f0, .ref vs, .ref vr, .ref vc, .int vir, .int vag, .int vfi])), (f0, .inr (2, [.int ytk, .int ybd, .int (nI ylv), .ref fl0, .int (nI ypr), .ref fl1, .int yac, .int yrs, .int yrl, .int (nI yva), .ref fv0, .ref fv1, .ref fv2, .ref fv3, .ref fv4, .ref fv5, .int ycl, .int ycf, .int yct, .int ylf, .int ylt, .int ybo])), (vs, .inl (kI, 40, .inl st)), (vr, .inl (kI, 44000, .inl (upd r1 (nI (lb * 40 + i) : Int32).toNatClampNeg f_6))), (vc, .inl (kZ, 1100, .inl rc))] := hD
              obtain ⟨r8, er8⟩ : ∃ zZ : Nat → Int32, zZ = upd r1 (nI (lb * 40 + i) : Int32).toNatClampNeg f_6 := ⟨_, rfl⟩
              rw [← er8] at hP hD
              have hr8 : sdR lb (i + 1) st fr r8 := by rw [er8, nI_clamp (by omega), hf9]; exact sdR_S hb2
              obtain ⟨x_10, ex_10⟩ : ∃ yY : Int32, yY = (nI i) + 1 := ⟨_, rfl⟩
              refine lv_iinc (v := x_10) (lv' := [(4, .int x_10), (2, .int 1), (5, .int f_6), (3, .int (nI (lb * 40))), (0, .ref mv), (1, .int (nI lb))]) hx hb dX7_send_89 hl (k := 2) rfl (by rw [ex_10]; rfl) (by decide) rfl (fun ls hl => ?_)
              obtain rfl : x_10 = nI (i + 1) := by rw [ex_10]; exact nI_1 i
              have hl : lv_has ls 6 [(4, .int (nI (i + 1))), (2, .int 1), (5, .int f_6), (3, .int (nI (lb * 40))), (0, .ref mv), (1, .int (nI lb))] := hl
              refine lv_goto (tgt := 23) hx hb dX7_send_92 (by decide) ?_
              exact ih1 (i + 1) 1 r8 _ _ _ (by omega) (by decide) hr8 (fun y9 => absurd y9 (by decide)) (fun _ => Or.inr ⟨i, by omega, fun y9 => heq (by rw [hf9, h3]; exact y9)⟩) (hP.sub [0, 1, 2, 3, 4] rfl) (hD.sub [0, 1, 2, 3, 4] (by decide) rfl) hS (lv_sub hl [0, 3, 1, 4, 5] rfl)
    exact key1 (yva + 1) 0 1 fr _ _ _ (by omega) (by decide) sdR_0 (fun y9 => absurd y9 (by decide)) (fun _ => Or.inl (hr9.symm.trans hne)) (hP.sub [0, 1, 2, 3, 4] rfl) (hD.sub [0, 1, 2, 3, 4] (by decide) rfl) hS (lv_sub hl [0, 1, 2, 3, 4] rfl)
