def wf_c_lsend : List Cond := [.code yX4_send cX4_send 7 (some .boolean), .fieldLink RX4 25 "OwnedPlaces$Loans" "reached" "[Z", .fieldLink RX4 54 "OwnedPlaces$Loans" "function" "LOwnedPlaces$Function;", .fieldLink RX4 157 "OwnedPlaces$Function" "variables" "I", .fieldLink RX4 22 "OwnedPlaces$Loans" "rows" "[J", .fieldLink RX4 18 "OwnedPlaces$Loans" "held" "[J"]
def wp_c_lsend : List Cond := wf_c_lsend ++ (wsX40 ++ (wsX20 ++ []))
theorem in_c_lsend_X4 : ∀ w ∈ wsX40, w ∈ wp_c_lsend := fun w h => List.mem_append_right _ (List.mem_append_left _ h)
theorem in_c_lsend_X2 : ∀ w ∈ wsX20, w ∈ wp_c_lsend := fun w h => List.mem_append_right _ (List.mem_append_right _ (List.mem_append_left _ h))
theorem wg_c_lsend : wf_c_lsend.all goodWord = true := by decide +kernel
theorem wm_c_lsend (k : Nat) {w : Cond} (h : wp_c_lsend[k]? = some w) : w ∈ wp_c_lsend := List.mem_of_getElem? h
set_option maxHeartbeats 4000000 in
set_option maxRecDepth 100000 in
theorem c_lsend (l : Launch) (dC : Nat → ClassId) (dI : Nat → Nat → Nat) (lo0 y e0 lu la lh lr lc lt lp lb0 ln0 : Nat) (lsh : Int64) (vir vag vfi : Int32) (tn : Nat) (c0 : Nat) (f0 fl0 fl1 fv0 fv1 fv2 fv3 fv4 fv5 : Nat) (ytk ybd yac yrs yrl ycl ycf yct ylf ylt ybo : Int32) (ylv ypr yva : Nat) (kI kZ kL : ClassId) (lb : Nat) (hd fr : Nat → Int64) (rc : Nat → Int32) (sz : Nat) (hlb : lb < 1100) (hyv : yva ≤ 40) : Met l yX4_send wp_c_lsend ({ frames := 0, cells := 0, slots := 0, locals := 0 }) (va_Pc [.ref lo0, .int (nI lb)] (fun U => U.heap.size = sz ∧ va_P (dC, dI) vwCl [(lo0, .inr (4, [.ref y, .ref c0, .ref e0, .ref f0, .ref lu, .ref la, .ref lh, .ref lr, .ref lc, .ref lt, .int (nI tn), .ref lp, .ref lb0, .ref ln0, .long lsh, .int vir, .int vag, .int vfi])), (f0, .inr (2, [.int ytk, .int ybd, .int (nI ylv), .ref fl0, .int (nI ypr), .ref fl1, .int yac, .int yrs, .int yrl, .int (nI yva), .ref fv0, .ref fv1, .ref fv2, .ref fv3, .ref fv4, .ref fv5, .int ycl, .int ycf, .int yct, .int ylf, .int ylt, .int ybo])), (lh, .inl (kL, 40, .inr (.inl hd))), (lr, .inl (kL, 44000, .inr (.inl fr))), (lc, .inl (kZ, 1100, .inl rc))] U.heap ∧ va_K (dC, dI) vwCl [(kZ, .boolean), (kL, .long)] U ∧ va_D (fun _ => True) [(lo0, .inr (4, [.ref y, .ref c0, .ref e0, .ref f0, .ref lu, .ref la, .ref lh, .ref lr, .ref lc, .ref lt, .int (nI tn), .ref lp, .ref lb0, .ref ln0, .long lsh, .int vir, .int vag, .int vfi])), (f0, .inr (2, [.int ytk, .int ybd, .int (nI ylv), .ref fl0, .int (nI ypr), .ref fl1, .int yac, .int yrs, .int yrl, .int (nI yva), .ref fv0, .ref fv1, .ref fv2, .ref fv3, .ref fv4, .ref fv5, .int ycl, .int ycf, .int yct, .int ylf, .int ylt, .int ybo])), (lh, .inl (kL, 40, .inr (.inl hd))), (lr, .inl (kL, 44000, .inr (.inl fr))), (lc, .inl (kZ, 1100, .inl rc))])) (va_Qi (fun (r rv : Int32) => r = rv ∧ (rv = 0 ∨ rv = 1)) (fun (rv : Int32) (tS : State) => ∃ (gr : Nat → Int64) (gc : Nat → Int32), (sdL lb yva hd fr gr) ∧ (gc = upd rc lb (vp_nar .boolean 1)) ∧ (rv = 0 → rc lb ≠ 0 ∧ ∀ v9 : Nat, v9 < yva → fr (lb * 40 + v9) ||| hd v9 = fr (lb * 40 + v9)) ∧ (rv ≠ 0 → rc lb = 0 ∨ ∃ v9 : Nat, v9 < yva ∧ fr (lb * 40 + v9) ||| hd v9 ≠ fr (lb * 40 + v9)) ∧ va_P (dC, dI) vwCl [(lo0, .inr (4, [.ref y, .ref c0, .ref e0, .ref f0, .ref lu, .ref la, .ref lh, .ref lr, .ref lc, .ref lt, .int (nI tn), .ref lp, .ref lb0, .ref ln0, .long lsh, .int vir, .int vag, .int vfi])), (f0, .inr (2, [.int ytk, .int ybd, .int (nI ylv), .ref fl0, .int (nI ypr), .ref fl1, .int yac, .int yrs, .int yrl, .int (nI yva), .ref fv0, .ref fv1, .ref fv2, .ref fv3, .ref fv4, .ref fv5, .int ycl, .int ycf, .int yct, .int ylf, .int ylt, .int ybo])), (lh, .inl (kL, 40, .inr (.inl hd))), (lr, .inl (kL, 44000, .inr (.inl gr))), (lc, .inl (kZ, 1100, .inl gc))] tS.heap ∧ va_K (dC, dI) vwCl [(kZ, .boolean), (kL, .long)] tS ∧ va_D (va_A [(lo0, .inr (4, [.ref y, .ref c0, .ref e0, .ref f0, .ref lu, .ref la, .ref lh, .ref lr, .ref lc, .ref lt, .int (nI tn), .ref lp, .ref lb0, .ref ln0, .long lsh, .int vir, .int vag, .int vfi])), (f0, .inr (2, [.int ytk, .int ybd, .int (nI ylv), .ref fl0, .int (nI ypr), .ref fl1, .int yac, .int yrs, .int yrl, .int (nI yva), .ref fv0, .ref fv1, .ref fv2, .ref fv3, .ref fv4, .ref fv5, .int ycl, .int ycf, .int yct, .int ylf, .int ylt, .int ybo])), (lh, .inl (kL, 40, .inr (.inl hd))), (lr, .inl (kL, 44000, .inr (.inl fr))), (lc, .inl (kZ, 1100, .inl rc))] sz) [(lo0, .inr (4, [.ref y, .ref c0, .ref e0, .ref f0, .ref lu, .ref la, .ref lh, .ref lr, .ref lc, .ref lt, .int (nI tn), .ref lp, .ref lb0, .ref ln0, .long lsh, .int vir, .int vag, .int vfi])), (f0, .inr (2, [.int ytk, .int ybd, .int (nI ylv), .ref fl0, .int (nI ypr), .ref fl1, .int yac, .int yrs, .int yrl, .int (nI yva), .ref fv0, .ref fv1, .ref fv2, .ref fv3, .ref fv4, .ref fv5, .int ycl, .int ycf, .int yct, .int ylf, .int ylt, .int ybo])), (lh, .inl (kL, 40, .inr (.inl hd))), (lr, .inl (kL, 44000, .inr (.inl gr))), (lc, .inl (kZ, 1100, .inl gc))]) (va_A [(lo0, .inr (4, [.ref y, .ref c0, .ref e0, .ref f0, .ref lu, .ref la, .ref lh, .ref lr, .ref lc, .ref lt, .int (nI tn), .ref lp, .ref lb0, .ref ln0, .long lsh, .int vir, .int vag, .int vfi])), (f0, .inr (2, [.int ytk, .int ybd, .int (nI ylv), .ref fl0, .int (nI ypr), .ref fl1, .int yac, .int yrs, .int yrl, .int (nI yva), .ref fv0, .ref fv1, .ref fv2, .ref fv3, .ref fv4, .ref fv5, .int ycl, .int ycf, .int yct, .int ylf, .int ylt, .int ybo])), (lh, .inl (kL, 40, .inr (.inl hd))), (lr, .inl (kL, 44000, .inr (.inl fr))), (lc, .inl (kZ, 1100, .inl rc))] sz)) 0 0 (va_A [(lo0, .inr (4, [.ref y, .ref c0, .ref e0, .ref f0, .ref lu, .ref la, .ref lh, .ref lr, .ref lc, .ref lt, .int (nI tn), .ref lp, .ref lb0, .ref ln0, .long lsh, .int vir, .int vag, .int vfi])), (f0, .inr (2, [.int ytk, .int ybd, .int (nI ylv), .ref fl0, .int (nI ypr), .ref fl1, .int yac, .int yrs, .int yrl, .int (nI yva), .ref fv0, .ref fv1, .ref fv2, .ref fv3, .ref fv4, .ref fv5, .int ycl, .int ycf, .int yct, .int ylf, .int ylt, .int ybo])), (lh, .inl (kL, 40, .inr (.inl hd))), (lr, .inl (kL, 44000, .inr (.inl fr))), (lc, .inl (kZ, 1100, .inl rc))] sz) := by
  refine Met.ofW (cc := cX4_send) (maxL := 7) (ret := (some .boolean)) (by decide) rfl ?_
  intro p e s m args below meth c s₁ B hml hv
  obtain ⟨rfl, hsz, hP, hK, hD0⟩ := hv
  have hx := B.exec
  have hb := B.bytes
  have hr := B.returns
  have hts := atoms_spec (ws := wp_c_lsend) B.pre
  have hown : s.vm.findClass RX4 = some m.cls := findClass_of_methodNamed B.named
  have hlocks := B.notSynchronized
  subst hsz
  have hD := hD0.self (sz := s.heap.size)
  generalize hAe : va_A [(lo0, .inr (4, [.ref y, .ref c0, .ref e0, .ref f0, .ref lu, .ref la, .ref lh, .ref lr, .ref lc, .ref lt, .int (nI tn), .ref lp, .ref lb0, .ref ln0, .long lsh, .int vir, .int vag, .int vfi])), (f0, .inr (2, [.int ytk, .int ybd, .int (nI ylv), .ref fl0, .int (nI ypr), .ref fl1, .int yac, .int yrs, .int yrl, .int (nI yva), .ref fv0, .ref fv1, .ref fv2, .ref fv3, .ref fv4, .ref fv5, .int ycl, .int ycf, .int yct, .int ylf, .int ylt, .int ybo])), (lh, .inl (kL, 40, .inr (.inl hd))), (lr, .inl (kL, 44000, .inr (.inl fr))), (lc, .inl (kZ, 1100, .inl rc))] s.heap.size = A at hD ⊢
  have hA : ∀ q : Nat, s.heap.size ≤ q → A q := fun q h => by rw [← hAe]; exact Or.inr h
  have hS : va_S A s.heap s.heap [] := va_S.rf
  have hP : va_P (dC, dI) vwCl [(lo0, .inr (4, [.ref y, .ref c0, .ref e0, .ref f0, .ref lu, .ref la, .ref lh, .ref lr, .ref lc, .ref lt, .int (nI tn), .ref lp, .ref lb0, .ref ln0, .long lsh, .int vir, .int vag, .int vfi])), (f0, .inr (2, [.int ytk, .int ybd, .int (nI ylv), .ref fl0, .int (nI ypr), .ref fl1, .int yac, .int yrs, .int yrl, .int (nI yva), .ref fv0, .ref fv1, .ref fv2, .ref fv3, .ref fv4, .ref fv5, .int ycl, .int ycf, .int yct, .int ylf, .int ylt, .int ybo])), (lh, .inl (kL, 40, .inr (.inl hd))), (lr, .inl (kL, 44000, .inr (.inl fr))), (lc, .inl (kZ, 1100, .inl rc))] s.heap := hP
  have hl := lv_entry ([.ref lo0, .int (nI lb)]) (n := 7) (Nat.le_of_ble_eq_true rfl)
  rw [lg_entry_eq]
  generalize (lg_sl ([.ref lo0, .int (nI lb)]) ++ List.replicate (7 - (lg_sl ([.ref lo0, .int (nI lb)])).length) Slot.unset).toArray = ls at hl ⊢
  have hl : lv_has ls 7 [(0, .ref lo0), (1, .int (nI lb))] := hl
  refine lv_aload_n hx hb dX4_send_0 rfl (lv_at hl 0 rfl) ?_
  refine va_get (D := (dC, dI)) (ci := 4) (v := .ref lc) (C := RX4) (T := TX4) (N := 18) hx hb hts in_c_lsend_X4 hown hK hP 0 rfl rfl 8 (by decide) (hts (.fieldLink RX4 25 "OwnedPlaces$Loans" "reached" "[Z") (wm_c_lsend 1 rfl)) (fun _ h9 => h9) rfl dX4_send_1 ?_
  refine lv_iload_n hx hb dX4_send_4 rfl (lv_at hl 1 rfl) ?_
  refine va_zald hx hb hK hP 4 0 rfl rfl (vp_in_nI hlb (by decide)) dX4_send_5 ?_
  refine lv_topi (fun v_1 ev_1 => ?_)
  have hr9 : v_1 = rc lb := ev_1.trans (by rw [nI_clamp (by omega)])
  refine lv_if_ne (tgt := 13) hx hb dX4_send_6 (by decide) (fun hne => ?_) (fun hne => ?_)
  · refine lv_iconst (v := 0) hx hb dX4_send_13 (by decide) ?_
    refine lv_istore_n (lv' := [(2, .int 0), (0, .ref lo0), (1, .int (nI lb))]) hx hb dX4_send_14 rfl hl (by decide) rfl (fun ls hl => ?_)
    refine lv_iload_n hx hb dX4_send_15 rfl (lv_at hl 2 rfl) ?_
    refine lv_bipush (v := 40) hx hb dX4_send_16 (by decide) ?_
    refine lv_imul hx hb dX4_send_18 ?_
    refine lv_topi (fun f_2 ef_2 => ?_)
    obtain rfl : f_2 = nI (lb * 40) := ef_2.trans (pk_mul lb 40)
    refine lv_istore_n (lv' := [(3, .int (nI (lb * 40))), (2, .int 0), (0, .ref lo0), (1, .int (nI lb))]) hx hb dX4_send_19 rfl hl (by decide) rfl (fun ls hl => ?_)
    refine lv_iconst (v := 0) hx hb dX4_send_20 (by decide) ?_
    refine lv_istore (lv' := [(4, .int 0), (3, .int (nI (lb * 40))), (2, .int 0), (0, .ref lo0), (1, .int (nI lb))]) hx hb dX4_send_21 hl (by decide) rfl (fun ls hl => ?_)
    have hl : lv_has ls 7 [(4, .int (nI 0)), (3, .int (nI (lb * 40))), (2, .int 0), (0, .ref lo0), (1, .int (nI lb))] := hl
    refine W_q (fun Q1 hQ1 => ?_)
    have key1 : ∀ (n1 : Nat) (i : Nat) (nz : Int32) (r1 : Nat → Int64) (H : Heap) (locs : List Loc) (ls : Array Slot), (i + n1 = yva + 1 ∧ i ≤ yva) → (nz = 0 ∨ nz = 1) → (sdL lb i hd fr r1) → (nz = 0 → rc lb ≠ 0 ∧ ∀ v9 : Nat, v9 < i → fr (lb * 40 + v9) ||| hd v9 = fr (lb * 40 + v9)) → (nz ≠ 0 → rc lb = 0 ∨ ∃ v9 : Nat, v9 < i ∧ fr (lb * 40 + v9) ||| hd v9 ≠ fr (lb * 40 + v9)) → va_P (dC, dI) vwCl [(lo0, .inr (4, [.ref y, .ref c0, .ref e0, .ref f0, .ref lu, .ref la, .ref lh, .ref lr, .ref lc, .ref lt, .int (nI tn), .ref lp, .ref lb0, .ref ln0, .long lsh, .int vir, .int vag, .int vfi])), (f0, .inr (2, [.int ytk, .int ybd, .int (nI ylv), .ref fl0, .int (nI ypr), .ref fl1, .int yac, .int yrs, .int yrl, .int (nI yva), .ref fv0, .ref fv1, .ref fv2, .ref fv3, .ref fv4, .ref fv5, .int ycl, .int ycf, .int yct, .int ylf, .int ylt, .int ybo])), (lh, .inl (kL, 40, .inr (.inl hd))), (lr, .inl (kL, 44000, .inr (.inl r1))), (lc, .inl (kZ, 1100, .inl rc))] H → va_D A [(lo0, .inr (4, [.ref y, .ref c0, .ref e0, .ref f0, .ref lu, .ref la, .ref lh, .ref lr, .ref lc, .ref lt, .int (nI tn), .ref lp, .ref lb0, .ref ln0, .long lsh, .int vir, .int vag, .int vfi])), (f0, .inr (2, [.int ytk, .int ybd, .int (nI ylv), .ref fl0, .int (nI ypr), .ref fl1, .int yac, .int yrs, .int yrl, .int (nI yva), .ref fv0, .ref fv1, .ref fv2, .ref fv3, .ref fv4, .ref fv5, .int ycl, .int ycf, .int yct, .int ylf, .int ylt, .int ybo])), (lh, .inl (kL, 40, .inr (.inl hd))), (lr, .inl (kL, 44000, .inr (.inl r1))), (lc, .inl (kZ, 1100, .inl rc))] → va_S A s.heap H locs → lv_has ls 7 [(4, .int (nI i)), (3, .int (nI (lb * 40))), (2, .int nz), (0, .ref lo0), (1, .int (nI lb))] → W p l e (headSpec wp_c_lsend ({ frames := 0, cells := 0, slots := 0, locals := 0 })).room s m ([.ref lo0, .int (nI lb)] : List Value).toArray below meth c H locs 0 0 Q1 (F0 m 23 ls []) := by
      intro n1
      induction n1 with
      | zero => intro i nz r1 H locs ls hb0 hb1 hb2 hb3 hb4; exact absurd hb0 (by omega)
      | succ n1 ih1 =>
        intro i nz r1 H locs ls hb0 hb1 hb2 hb3 hb4 hP hD hS hl
        refine lv_iload hx hb dX4_send_23 (lv_at hl 0 rfl) ?_
        refine lv_aload_n hx hb dX4_send_25 rfl (lv_at hl 3 rfl) ?_
        refine va_get (D := (dC, dI)) (ci := 4) (v := .ref f0) (C := RX4) (T := TX4) (N := 18) hx hb hts in_c_lsend_X4 hown hK hP 0 rfl rfl 3 (by decide) (hts (.fieldLink RX4 54 "OwnedPlaces$Loans" "function" "LOwnedPlaces$Function;") (wm_c_lsend 2 rfl)) (fun _ h9 => h9) rfl dX4_send_26 ?_
        refine va_get (D := (dC, dI)) (ci := 2) (v := .int (nI yva)) (C := RX2) (T := TX2) (N := 22) hx hb hts in_c_lsend_X2 hown hK hP 1 rfl rfl 9 (by decide) (hts (.fieldLink RX4 157 "OwnedPlaces$Function" "variables" "I") (wm_c_lsend 3 rfl)) (fun _ h9 => h9) rfl dX4_send_29 ?_
        refine lv_icmp_ge (tgt := 96) hx hb dX4_send_32 (by decide) (fun hc1 => ?_) (fun hc1 => ?_)
        · have hi9 : i = yva := by have := (nI_leI (a := yva) (b := i) (by omega) (by omega)).mp hc1; omega
          refine lv_aload_n hx hb dX4_send_96 rfl (lv_at hl 3 rfl) ?_
          refine va_get (D := (dC, dI)) (ci := 4) (v := .ref lc) (C := RX4) (T := TX4) (N := 18) hx hb hts in_c_lsend_X4 hown hK hP 0 rfl rfl 8 (by decide) (hts (.fieldLink RX4 25 "OwnedPlaces$Loans" "reached" "[Z") (wm_c_lsend 1 rfl)) (fun _ h9 => h9) rfl dX4_send_97 ?_
          refine lv_iload_n hx hb dX4_send_100 rfl (lv_at hl 4 rfl) ?_
          refine lv_iconst (v := 1) hx hb dX4_send_101 (by decide) ?_
          refine va_zast hx hb hK hP hD hS 4 0 rfl rfl (vp_in_nI hlb (by decide)) dX4_send_102 (fun H locs hP hD hS => ?_)
          have hP : va_P (dC, dI) vwCl [(lo0, .inr (4, [.ref y, .ref c0, .ref e0, .ref f0, .ref lu, .ref la, .ref lh, .ref lr, .ref lc, .ref lt, .int (nI tn), .ref lp, .ref lb0, .ref ln0, .long lsh, .int vir, .int vag, .int vfi])), (f0, .inr (2, [.int ytk, .int ybd, .int (nI ylv), .ref fl0, .int (nI ypr), .ref fl1, .int yac, .int yrs, .int yrl, .int (nI yva), .ref fv0, .ref fv1, .ref fv2, .ref fv3, .ref fv4, .ref fv5, .int ycl, .int ycf, .int yct, .int ylf, .int ylt, .int ybo])), (lh, .inl (kL, 40, .inr (.inl hd))), (lr, .inl (kL, 44000, .inr (.inl r1))), (lc, .inl (kZ, 1100, .inl (upd rc (nI lb : Int32).toNatClampNeg (vp_nar .boolean 1))))] H := hP
          have hD : va_D A [(lo0, .inr (4, [.ref y, .ref c0, .ref e0, .ref f0, .ref lu, .ref la, .ref lh, .ref lr, .ref lc, .ref lt, .int (nI tn), .ref lp, .ref lb0, .ref ln0, .long lsh, .int vir, .int vag, .int vfi])), (f0, .inr (2, [.int ytk, .int ybd, .int (nI ylv), .ref fl0, .int (nI ypr), .ref fl1, .int yac, .int yrs, .int yrl, .int (nI yva), .ref fv0, .ref fv1, .ref fv2, .ref fv3, .ref fv4, .ref fv5, .int ycl, .int ycf, .int yct, .int ylf, .int ylt, .int ybo])), (lh, .inl (kL, 40, .inr (.inl hd))), (lr, .inl (kL, 44000, .inr (.inl r1))), (lc, .inl (kZ, 1100, .inl (upd rc (nI lb : Int32).toNatClampNeg (vp_nar .boolean 1))))] := hD
          obtain ⟨rc8, erc8⟩ : ∃ zZ : Nat → Int32, zZ = upd rc (nI lb : Int32).toNatClampNeg (vp_nar .boolean 1) := ⟨_, rfl⟩
          rw [← erc8] at hP hD
          refine lv_iload_n hx hb dX4_send_103 rfl (lv_at hl 2 rfl) ?_
          have hP9 := hP.sub (ws' := [(lo0, .inr (4, [.ref y, .ref c0, .ref e0, .ref f0, .ref lu, .ref la, .ref lh, .ref lr, .ref lc, .ref lt, .int (nI tn), .ref lp, .ref lb0, .ref ln0, .long lsh, .int vir, .int vag, .int vfi])), (f0, .inr (2, [.int ytk, .int ybd, .int (nI ylv), .ref fl0, .int (nI ypr), .ref fl1, .int yac, .int yrs, .int yrl, .int (nI yva), .ref fv0, .ref fv1, .ref fv2, .ref fv3, .ref fv4, .ref fv5, .int ycl, .int ycf, .int yct, .int ylf, .int ylt, .int ybo])), (lh, .inl (kL, 40, .inr (.inl hd))), (lr, .inl (kL, 44000, .inr (.inl r1))), (lc, .inl (kZ, 1100, .inl rc8))]) [0, 1, 2, 3, 4] rfl
          have hD9 := hD.sub (ws' := [(lo0, .inr (4, [.ref y, .ref c0, .ref e0, .ref f0, .ref lu, .ref la, .ref lh, .ref lr, .ref lc, .ref lt, .int (nI tn), .ref lp, .ref lb0, .ref ln0, .long lsh, .int vir, .int vag, .int vfi])), (f0, .inr (2, [.int ytk, .int ybd, .int (nI ylv), .ref fl0, .int (nI ypr), .ref fl1, .int yac, .int yrs, .int yrl, .int (nI yva), .ref fv0, .ref fv1, .ref fv2, .ref fv3, .ref fv4, .ref fv5, .int ycl, .int ycf, .int yct, .int ylf, .int ylt, .int ybo])), (lh, .inl (kL, 40, .inr (.inl hd))), (lr, .inl (kL, 44000, .inr (.inl r1))), (lc, .inl (kZ, 1100, .inl rc8))]) [0, 1, 2, 3, 4] (by decide) rfl
          have hK9 := hK.sub (tys' := [(kZ, .boolean), (kL, .long)]) [0, 1] rfl
          subst hQ1
          exact W.zret (v := nz) hx hb hr (by rcases hb1 with q | q <;> rw [q] <;> decide) (fun tS ht hW => ⟨⟨nz, nz, rfl, ⟨rfl, hb1⟩, r1, rc8, by rw [← hi9]; exact hb2, by rw [erc8, nI_clamp (by omega)], by rw [← hi9]; exact hb3, by rw [← hi9]; exact hb4, by rw [ht]; exact hP9, va_K.moved hW.alike hK9, hD9⟩, hS.F ht⟩) hS.2.2 dX4_send_104
        · have hi9 : i < yva := by rcases Nat.lt_or_ge i yva with y9 | y9; exact y9; exact absurd (nI_le y9 (by omega)) hc1
          have hr1 : r1 (lb * 40 + i) = fr (lb * 40 + i) := by rw [hb2 _, if_neg (by omega)]
          refine lv_aload_n hx hb dX4_send_35 rfl (lv_at hl 3 rfl) ?_
          refine va_get (D := (dC, dI)) (ci := 4) (v := .ref lr) (C := RX4) (T := TX4) (N := 18) hx hb hts in_c_lsend_X4 hown hK hP 0 rfl rfl 7 (by decide) (hts (.fieldLink RX4 22 "OwnedPlaces$Loans" "rows" "[J") (wm_c_lsend 4 rfl)) (fun _ h9 => h9) rfl dX4_send_36 ?_
          refine lv_iload_n hx hb dX4_send_39 rfl (lv_at hl 1 rfl) ?_
          refine lv_iload hx hb dX4_send_40 (lv_at hl 0 rfl) ?_
          refine lv_iadd hx hb dX4_send_42 ?_
          refine lv_topi (fun f_3 ef_3 => ?_)
          obtain rfl : f_3 = nI (lb * 40 + i) := ef_3.trans (nI_add _ _)
          refine va_lald hx hb hK hP 3 1 rfl rfl (vp_in_nI (by omega) (by decide)) dX4_send_43 ?_
          refine lv_topl (fun v_4 ev_4 => ?_)
          have h1 : v_4 = fr (lb * 40 + i) := ev_4.trans (by rw [nI_clamp (by omega)]; exact hr1)
          refine lv_aload_n hx hb dX4_send_44 rfl (lv_at hl 3 rfl) ?_
          refine va_get (D := (dC, dI)) (ci := 4) (v := .ref lh) (C := RX4) (T := TX4) (N := 18) hx hb hts in_c_lsend_X4 hown hK hP 0 rfl rfl 6 (by decide) (hts (.fieldLink RX4 18 "OwnedPlaces$Loans" "held" "[J") (wm_c_lsend 5 rfl)) (fun _ h9 => h9) rfl dX4_send_45 ?_
          refine lv_iload hx hb dX4_send_48 (lv_at hl 0 rfl) ?_
          refine va_lald hx hb hK hP 2 1 rfl rfl (vp_in_nI (by omega) (by decide)) dX4_send_50 ?_
          refine lv_topl (fun v_5 ev_5 => ?_)
          have h2 : v_5 = hd i := ev_5.trans (by rw [nI_clamp (by omega)])
          refine lv_lor hx hb dX4_send_51 ?_
          refine lv_topl (fun f_6 ef_6 => ?_)
          have hf9 : f_6 = fr (lb * 40 + i) ||| hd i := by rw [ef_6, h1, h2]
          refine lv_lstore (lv' := [(5, .long f_6), (4, .int (nI i)), (3, .int (nI (lb * 40))), (2, .int nz), (0, .ref lo0), (1, .int (nI lb))]) hx hb dX4_send_52 hl (by decide) rfl (fun ls hl => ?_)
          refine lv_iload_n hx hb dX4_send_54 rfl (lv_at hl 3 rfl) ?_
          refine lv_if_ne (tgt := 73) hx hb dX4_send_55 (by decide) (fun hnz => ?_) (fun hnz => ?_)
          · refine lv_iconst (v := 1) hx hb dX4_send_73 (by decide) ?_
            refine lv_goto (tgt := 78) hx hb dX4_send_74 (by decide) ?_
            refine lv_istore_n (lv' := [(2, .int 1), (5, .long f_6), (4, .int (nI i)), (3, .int (nI (lb * 40))), (0, .ref lo0), (1, .int (nI lb))]) hx hb dX4_send_78 rfl hl (by decide) rfl (fun ls hl => ?_)
            refine lv_aload_n hx hb dX4_send_79 rfl (lv_at hl 4 rfl) ?_
            refine va_get (D := (dC, dI)) (ci := 4) (v := .ref lr) (C := RX4) (T := TX4) (N := 18) hx hb hts in_c_lsend_X4 hown hK hP 0 rfl rfl 7 (by decide) (hts (.fieldLink RX4 22 "OwnedPlaces$Loans" "rows" "[J") (wm_c_lsend 4 rfl)) (fun _ h9 => h9) rfl dX4_send_80 ?_
            refine lv_iload_n hx hb dX4_send_83 rfl (lv_at hl 3 rfl) ?_
            refine lv_iload hx hb dX4_send_84 (lv_at hl 2 rfl) ?_
            refine lv_iadd hx hb dX4_send_86 ?_
            refine lv_topi (fun f_7 ef_7 => ?_)
            obtain rfl : f_7 = nI (lb * 40 + i) := ef_7.trans (nI_add _ _)
            refine lv_lload hx hb dX4_send_87 (lv_at hl 1 rfl) ?_
            refine va_last hx hb hK hP hD hS 3 1 rfl rfl (vp_in_nI (by omega) (by decide)) dX4_send_89 (fun H locs hP hD hS => ?_)
            have hP : va_P (dC, dI) vwCl [(lo0, .inr (4, [.ref y, .ref c0, .ref e0, .ref f0, .ref lu, .ref la, .ref lh, .ref lr, .ref lc, .ref lt, .int (nI tn), .ref lp, .ref lb0, .ref ln0, .long lsh, .int vir, .int vag, .int vfi])), (f0, .inr (2, [.int ytk, .int ybd, .int (nI ylv), .ref fl0, .int (nI ypr), .ref fl1, .int yac, .int yrs, .int yrl, .int (nI yva), .ref fv0, .ref fv1, .ref fv2, .ref fv3, .ref fv4, .ref fv5, .int ycl, .int ycf, .int yct, .int ylf, .int ylt, .int ybo])), (lh, .inl (kL, 40, .inr (.inl hd))), (lr, .inl (kL, 44000, .inr (.inl (vp_updL r1 (nI (lb * 40 + i) : Int32).toNatClampNeg f_6)))), (lc, .inl (kZ, 1100, .inl rc))] H := hP
            have hD : va_D A [(lo0, .inr (4, [.ref y, .ref c0, .ref e0, .ref f0, .ref lu, .ref la, .ref lh, .ref lr, .ref lc, .ref lt, .int (nI tn), .ref lp, .ref lb0, .ref ln0, .long lsh, .int vir, .int vag, .int vfi])), (f0, .inr (2, [.int ytk, .int ybd, .int (nI ylv), .ref fl0, .int (nI ypr), .ref fl1, .int yac, .int yrs, .int yrl, .int (nI yva), .ref fv0, .ref fv1, .ref fv2, .ref fv3, .ref fv4, .ref fv5, .int ycl, .int ycf, .int yct, .int ylf, .int ylt, .int ybo])), (lh, .inl (kL, 40, .inr (.inl hd))), (lr, .inl (kL, 44000, .inr (.inl (vp_updL r1 (nI (lb * 40 + i) : Int32).toNatClampNeg f_6)))), (lc, .inl (kZ, 1100, .inl rc))] := hD
            obtain ⟨r8, er8⟩ : ∃ zZ : Nat → Int64, zZ = vp_updL r1 (nI (lb * 40 + i) : Int32).toNatClampNeg f_6 := ⟨_, rfl⟩
            rw [← er8] at hP hD
            have hr8 : sdL lb (i + 1) hd fr r8 := by rw [er8, nI_clamp (by omega), hf9]; exact sdL_S hb2
            obtain ⟨x_8, ex_8⟩ : ∃ yY : Int32, yY = (nI i) + 1 := ⟨_, rfl⟩
            refine lv_iinc (v := x_8) (lv' := [(4, .int x_8), (2, .int 1), (5, .long f_6), (3, .int (nI (lb * 40))), (0, .ref lo0), (1, .int (nI lb))]) hx hb dX4_send_90 hl (k := 2) rfl (by rw [ex_8]; rfl) (by decide) rfl (fun ls hl => ?_)
            obtain rfl : x_8 = nI (i + 1) := by rw [ex_8]; exact nI_1 i
            have hl : lv_has ls 7 [(4, .int (nI (i + 1))), (2, .int 1), (5, .long f_6), (3, .int (nI (lb * 40))), (0, .ref lo0), (1, .int (nI lb))] := hl
            refine lv_goto (tgt := 23) hx hb dX4_send_93 (by decide) ?_
            exact ih1 (i + 1) 1 r8 _ _ _ (by omega) (by decide) hr8 (fun y9 => absurd y9 (by decide)) (fun _ => (hb4 hnz).imp id (fun ⟨v9, y1, y2⟩ => ⟨v9, by omega, y2⟩)) (hP.sub [0, 1, 2, 3, 4] rfl) (hD.sub [0, 1, 2, 3, 4] (by decide) rfl) hS (lv_sub hl [0, 3, 1, 4, 5] rfl)
          · refine lv_lload hx hb dX4_send_58 (lv_at hl 0 rfl) ?_
            refine lv_aload_n hx hb dX4_send_60 rfl (lv_at hl 4 rfl) ?_
            refine va_get (D := (dC, dI)) (ci := 4) (v := .ref lr) (C := RX4) (T := TX4) (N := 18) hx hb hts in_c_lsend_X4 hown hK hP 0 rfl rfl 7 (by decide) (hts (.fieldLink RX4 22 "OwnedPlaces$Loans" "rows" "[J") (wm_c_lsend 4 rfl)) (fun _ h9 => h9) rfl dX4_send_61 ?_
            refine lv_iload_n hx hb dX4_send_64 rfl (lv_at hl 2 rfl) ?_
            refine lv_iload hx hb dX4_send_65 (lv_at hl 1 rfl) ?_
            refine lv_iadd hx hb dX4_send_67 ?_
            refine lv_topi (fun f_7 ef_7 => ?_)
            obtain rfl : f_7 = nI (lb * 40 + i) := ef_7.trans (nI_add _ _)
            refine va_lald hx hb hK hP 3 1 rfl rfl (vp_in_nI (by omega) (by decide)) dX4_send_68 ?_
            refine lv_topl (fun v_8 ev_8 => ?_)
            have h3 : v_8 = fr (lb * 40 + i) := ev_8.trans (by rw [nI_clamp (by omega)]; exact hr1)
            refine W.lcmp hx hb dX4_send_69 ?_
            refine lv_topi (fun f_9 ef_9 => ?_)
            refine lv_if_eq (tgt := 77) hx hb dX4_send_70 (by decide) (fun hcm => ?_) (fun hcm => ?_)
            · have heq : f_6 = v_8 := lgc0.mp (ef_9.symm.trans hcm)
              have hnz0 : nz = 0 := hnz
              refine lv_iconst (v := 0) hx hb dX4_send_77 (by decide) ?_
              refine lv_istore_n (lv' := [(2, .int 0), (5, .long f_6), (4, .int (nI i)), (3, .int (nI (lb * 40))), (0, .ref lo0), (1, .int (nI lb))]) hx hb dX4_send_78 rfl hl (by decide) rfl (fun ls hl => ?_)
              refine lv_aload_n hx hb dX4_send_79 rfl (lv_at hl 4 rfl) ?_
              refine va_get (D := (dC, dI)) (ci := 4) (v := .ref lr) (C := RX4) (T := TX4) (N := 18) hx hb hts in_c_lsend_X4 hown hK hP 0 rfl rfl 7 (by decide) (hts (.fieldLink RX4 22 "OwnedPlaces$Loans" "rows" "[J") (wm_c_lsend 4 rfl)) (fun _ h9 => h9) rfl dX4_send_80 ?_
              refine lv_iload_n hx hb dX4_send_83 rfl (lv_at hl 3 rfl) ?_
              refine lv_iload hx hb dX4_send_84 (lv_at hl 2 rfl) ?_
              refine lv_iadd hx hb dX4_send_86 ?_
              refine lv_topi (fun f_10 ef_10 => ?_)
              obtain rfl : f_10 = nI (lb * 40 + i) := ef_10.trans (nI_add _ _)
              refine lv_lload hx hb dX4_send_87 (lv_at hl 1 rfl) ?_
              refine va_last hx hb hK hP hD hS 3 1 rfl rfl (vp_in_nI (by omega) (by decide)) dX4_send_89 (fun H locs hP hD hS => ?_)
              have hP : va_P (dC, dI) vwCl [(lo0, .inr (4, [.ref y, .ref c0, .ref e0, .ref f0, .ref lu, .ref la, .ref lh, .ref lr, .ref lc, .ref lt, .int (nI tn), .ref lp, .ref lb0, .ref ln0, .long lsh, .int vir, .int vag, .int vfi])), (f0, .inr (2, [.int ytk, .int ybd, .int (nI ylv), .ref fl0, .int (nI ypr), .ref fl1, .int yac, .int yrs, .int yrl, .int (nI yva), .ref fv0, .ref fv1, .ref fv2, .ref fv3, .ref fv4, .ref fv5, .int ycl, .int ycf, .int yct, .int ylf, .int ylt, .int ybo])), (lh, .inl (kL, 40, .inr (.inl hd))), (lr, .inl (kL, 44000, .inr (.inl (vp_updL r1 (nI (lb * 40 + i) : Int32).toNatClampNeg f_6)))), (lc, .inl (kZ, 1100, .inl rc))] H := hP
              have hD : va_D A [(lo0, .inr (4, [.ref y, .ref c0, .ref e0, .ref f0, .ref lu, .ref la, .ref lh, .ref lr, .ref lc, .ref lt, .int (nI tn), .ref lp, .ref lb0, .ref ln0, .long lsh, .int vir, .int vag, .int vfi])), (f0, .inr (2, [.int ytk, .int ybd, .int (nI ylv), .ref fl0, .int (nI ypr), .ref fl1, .int yac, .int yrs, .int yrl, .int (nI yva), .ref fv0, .ref fv1, .ref fv2, .ref fv3, .ref fv4, .ref fv5, .int ycl, .int ycf, .int yct, .int ylf, .int ylt, .int ybo])), (lh, .inl (kL, 40, .inr (.inl hd))), (lr, .inl (kL, 44000, .inr (.inl (vp_updL r1 (nI (lb * 40 + i) : Int32).toNatClampNeg f_6)))), (lc, .inl (kZ, 1100, .inl rc))] := hD
              obtain ⟨r8, er8⟩ : ∃ zZ : Nat → Int64, zZ = vp_updL r1 (nI (lb * 40 + i) : Int32).toNatClampNeg f_6 := ⟨_, rfl⟩
              rw [← er8] at hP hD
              have hr8 : sdL lb (i + 1) hd fr r8 := by rw [er8, nI_clamp (by omega), hf9]; exact sdL_S hb2
              obtain ⟨x_11, ex_11⟩ : ∃ yY : Int32, yY = (nI i) + 1 := ⟨_, rfl⟩
              refine lv_iinc (v := x_11) (lv' := [(4, .int x_11), (2, .int 0), (5, .long f_6), (3, .int (nI (lb * 40))), (0, .ref lo0), (1, .int (nI lb))]) hx hb dX4_send_90 hl (k := 2) rfl (by rw [ex_11]; rfl) (by decide) rfl (fun ls hl => ?_)
              obtain rfl : x_11 = nI (i + 1) := by rw [ex_11]; exact nI_1 i
              have hl : lv_has ls 7 [(4, .int (nI (i + 1))), (2, .int 0), (5, .long f_6), (3, .int (nI (lb * 40))), (0, .ref lo0), (1, .int (nI lb))] := hl
              refine lv_goto (tgt := 23) hx hb dX4_send_93 (by decide) ?_
              exact ih1 (i + 1) 0 r8 _ _ _ (by omega) (by decide) hr8 (fun _ => ⟨(hb3 hnz0).1, fun v9 hv9 => by rcases Nat.lt_or_ge v9 i with y9 | y9; exact (hb3 hnz0).2 v9 y9; rw [show v9 = i by omega, ← hf9, heq, h3]⟩) (fun y9 => absurd rfl y9) (hP.sub [0, 1, 2, 3, 4] rfl) (hD.sub [0, 1, 2, 3, 4] (by decide) rfl) hS (lv_sub hl [0, 3, 1, 4, 5] rfl)
            · have hneq : ¬ f_6 = v_8 := fun q9 => hcm (ef_9.trans (lgc0.mpr q9))
              refine lv_iconst (v := 1) hx hb dX4_send_73 (by decide) ?_
              refine lv_goto (tgt := 78) hx hb dX4_send_74 (by decide) ?_
              refine lv_istore_n (lv' := [(2, .int 1), (5, .long f_6), (4, .int (nI i)), (3, .int (nI (lb * 40))), (0, .ref lo0), (1, .int (nI lb))]) hx hb dX4_send_78 rfl hl (by decide) rfl (fun ls hl => ?_)
              refine lv_aload_n hx hb dX4_send_79 rfl (lv_at hl 4 rfl) ?_
              refine va_get (D := (dC, dI)) (ci := 4) (v := .ref lr) (C := RX4) (T := TX4) (N := 18) hx hb hts in_c_lsend_X4 hown hK hP 0 rfl rfl 7 (by decide) (hts (.fieldLink RX4 22 "OwnedPlaces$Loans" "rows" "[J") (wm_c_lsend 4 rfl)) (fun _ h9 => h9) rfl dX4_send_80 ?_
              refine lv_iload_n hx hb dX4_send_83 rfl (lv_at hl 3 rfl) ?_
              refine lv_iload hx hb dX4_send_84 (lv_at hl 2 rfl) ?_
              refine lv_iadd hx hb dX4_send_86 ?_
              refine lv_topi (fun f_10 ef_10 => ?_)
              obtain rfl : f_10 = nI (lb * 40 + i) := ef_10.trans (nI_add _ _)
              refine lv_lload hx hb dX4_send_87 (lv_at hl 1 rfl) ?_
              refine va_last hx hb hK hP hD hS 3 1 rfl rfl (vp_in_nI (by omega) (by decide)) dX4_send_89 (fun H locs hP hD hS => ?_)
              have hP : va_P (dC, dI) vwCl [(lo0, .inr (4, [.ref y, .ref c0, .ref e0, .ref f0, .ref lu, .ref la, .ref lh, .ref lr, .ref lc, .ref lt, .int (nI tn), .ref lp, .ref lb0, .ref ln0, .long lsh, .int vir, .int vag, .int vfi])), (f0, .inr (2, [.int ytk, .int ybd, .int (nI ylv), .ref fl0, .int (nI ypr), .ref fl1, .int yac, .int yrs, .int yrl, .int (nI yva), .ref fv0, .ref fv1, .ref fv2, .ref fv3, .ref fv4, .ref fv5, .int ycl, .int ycf, .int yct, .int ylf, .int ylt, .int ybo])), (lh, .inl (kL, 40, .inr (.inl hd))), (lr, .inl (kL, 44000, .inr (.inl (vp_updL r1 (nI (lb * 40 + i) : Int32).toNatClampNeg f_6)))), (lc, .inl (kZ, 1100, .inl rc))] H := hP
              have hD : va_D A [(lo0, .inr (4, [.ref y, .ref c0, .ref e0, .ref f0, .ref lu, .ref la, .ref lh, .ref lr, .ref lc, .ref lt, .int (nI tn), .ref lp, .ref lb0, .ref ln0, .long lsh, .int vir, .int vag, .int vfi])), (f0, .inr (2, [.int ytk, .int ybd, .int (nI ylv), .ref fl0, .int (nI ypr), .ref fl1, .int yac, .int yrs, .int yrl, .int (nI yva), .ref fv0, .ref fv1, .ref fv2, .ref fv3, .ref fv4, .ref fv5, .int ycl, .int ycf, .int yct, .int ylf, .int ylt, .int ybo])), (lh, .inl (kL, 40, .inr (.inl hd))), (lr, .inl (kL, 44000, .inr (.inl (vp_updL r1 (nI (lb * 40 + i) : Int32).toNatClampNeg f_6)))), (lc, .inl (kZ, 1100, .inl rc))] := hD
              obtain ⟨r8, er8⟩ : ∃ zZ : Nat → Int64, zZ = vp_updL r1 (nI (lb * 40 + i) : Int32).toNatClampNeg f_6 := ⟨_, rfl⟩
              rw [← er8] at hP hD
              have hr8 : sdL lb (i + 1) hd fr r8 := by rw [er8, nI_clamp (by omega), hf9]; exact sdL_S hb2
              obtain ⟨x_11, ex_11⟩ : ∃ yY : Int32, yY = (nI i) + 1 := ⟨_, rfl⟩
              refine lv_iinc (v := x_11) (lv' := [(4, .int x_11), (2, .int 1), (5, .long f_6), (3, .int (nI (lb * 40))), (0, .ref lo0), (1, .int (nI lb))]) hx hb dX4_send_90 hl (k := 2) rfl (by rw [ex_11]; rfl) (by decide) rfl (fun ls hl => ?_)
              obtain rfl : x_11 = nI (i + 1) := by rw [ex_11]; exact nI_1 i
              have hl : lv_has ls 7 [(4, .int (nI (i + 1))), (2, .int 1), (5, .long f_6), (3, .int (nI (lb * 40))), (0, .ref lo0), (1, .int (nI lb))] := hl
              refine lv_goto (tgt := 23) hx hb dX4_send_93 (by decide) ?_
              exact ih1 (i + 1) 1 r8 _ _ _ (by omega) (by decide) hr8 (fun y9 => absurd y9 (by decide)) (fun _ => Or.inr ⟨i, by omega, fun y9 => hneq (by rw [hf9, h3]; exact y9)⟩) (hP.sub [0, 1, 2, 3, 4] rfl) (hD.sub [0, 1, 2, 3, 4] (by decide) rfl) hS (lv_sub hl [0, 3, 1, 4, 5] rfl)
    exact key1 (yva + 1) 0 0 fr _ _ _ (by omega) (by decide) sdL_0 (fun _ => ⟨fun y9 => hne (hr9.trans y9), fun v9 hv9 => absurd hv9 (by omega)⟩) (fun y9 => absurd rfl y9) (hP.sub [0, 1, 2, 3, 4] rfl) (hD.sub [0, 1, 2, 3, 4] (by decide) rfl) hS (lv_sub hl [0, 1, 2, 3, 4] rfl)
  · refine lv_iconst (v := 1) hx hb dX4_send_9 (by decide) ?_
    refine lv_goto (tgt := 14) hx hb dX4_send_10 (by decide) ?_
    refine lv_istore_n (lv' := [(2, .int 1), (0, .ref lo0), (1, .int (nI lb))]) hx hb dX4_send_14 rfl hl (by decide) rfl (fun ls hl => ?_)
    refine lv_iload_n hx hb dX4_send_15 rfl (lv_at hl 2 rfl) ?_
    refine lv_bipush (v := 40) hx hb dX4_send_16 (by decide) ?_
    refine lv_imul hx hb dX4_send_18 ?_
    refine lv_topi (fun f_2 ef_2 => ?_)
    obtain rfl : f_2 = nI (lb * 40) := ef_2.trans (pk_mul lb 40)
    refine lv_istore_n (lv' := [(3, .int (nI (lb * 40))), (2, .int 1), (0, .ref lo0), (1, .int (nI lb))]) hx hb dX4_send_19 rfl hl (by decide) rfl (fun ls hl => ?_)
    refine lv_iconst (v := 0) hx hb dX4_send_20 (by decide) ?_
    refine lv_istore (lv' := [(4, .int 0), (3, .int (nI (lb * 40))), (2, .int 1), (0, .ref lo0), (1, .int (nI lb))]) hx hb dX4_send_21 hl (by decide) rfl (fun ls hl => ?_)
    have hl : lv_has ls 7 [(4, .int (nI 0)), (3, .int (nI (lb * 40))), (2, .int 1), (0, .ref lo0), (1, .int (nI lb))] := hl
    refine W_q (fun Q1 hQ1 => ?_)
    have key1 : ∀ (n1 : Nat) (i : Nat) (nz : Int32) (r1 : Nat → Int64) (H : Heap) (locs : List Loc) (ls : Array Slot), (i + n1 = yva + 1 ∧ i ≤ yva) → (nz = 0 ∨ nz = 1) → (sdL lb i hd fr r1) → (nz = 0 → rc lb ≠ 0 ∧ ∀ v9 : Nat, v9 < i → fr (lb * 40 + v9) ||| hd v9 = fr (lb * 40 + v9)) → (nz ≠ 0 → rc lb = 0 ∨ ∃ v9 : Nat, v9 < i ∧ fr (lb * 40 + v9) ||| hd v9 ≠ fr (lb * 40 + v9)) → va_P (dC, dI) vwCl [(lo0, .inr (4, [.ref y, .ref c0, .ref e0, .ref f0, .ref lu, .ref la, .ref lh, .ref lr, .ref lc, .ref lt, .int (nI tn), .ref lp, .ref lb0, .ref ln0, .long lsh, .int vir, .int vag, .int vfi])), (f0, .inr (2, [.int ytk, .int ybd, .int (nI ylv), .ref fl0, .int (nI ypr), .ref fl1, .int yac, .int yrs, .int yrl, .int (nI yva), .ref fv0, .ref fv1, .ref fv2, .ref fv3, .ref fv4, .ref fv5, .int ycl, .int ycf, .int yct, .int ylf, .int ylt, .int ybo])), (lh, .inl (kL, 40, .inr (.inl hd))), (lr, .inl (kL, 44000, .inr (.inl r1))), (lc, .inl (kZ, 1100, .inl rc))] H → va_D A [(lo0, .inr (4, [.ref y, .ref c0, .ref e0, .ref f0, .ref lu, .ref la, .ref lh, .ref lr, .ref lc, .ref lt, .int (nI tn), .ref lp, .ref lb0, .ref ln0, .long lsh, .int vir, .int vag, .int vfi])), (f0, .inr (2, [.int ytk, .int ybd, .int (nI ylv), .ref fl0, .int (nI ypr), .ref fl1, .int yac, .int yrs, .int yrl, .int (nI yva), .ref fv0, .ref fv1, .ref fv2, .ref fv3, .ref fv4, .ref fv5, .int ycl, .int ycf, .int yct, .int ylf, .int ylt, .int ybo])), (lh, .inl (kL, 40, .inr (.inl hd))), (lr, .inl (kL, 44000, .inr (.inl r1))), (lc, .inl (kZ, 1100, .inl rc))] → va_S A s.heap H locs → lv_has ls 7 [(4, .int (nI i)), (3, .int (nI (lb * 40))), (2, .int nz), (0, .ref lo0), (1, .int (nI lb))] → W p l e (headSpec wp_c_lsend ({ frames := 0, cells := 0, slots := 0, locals := 0 })).room s m ([.ref lo0, .int (nI lb)] : List Value).toArray below meth c H locs 0 0 Q1 (F0 m 23 ls []) := by
      intro n1
      induction n1 with
      | zero => intro i nz r1 H locs ls hb0 hb1 hb2 hb3 hb4; exact absurd hb0 (by omega)
      | succ n1 ih1 =>
        intro i nz r1 H locs ls hb0 hb1 hb2 hb3 hb4 hP hD hS hl
        refine lv_iload hx hb dX4_send_23 (lv_at hl 0 rfl) ?_
        refine lv_aload_n hx hb dX4_send_25 rfl (lv_at hl 3 rfl) ?_
        refine va_get (D := (dC, dI)) (ci := 4) (v := .ref f0) (C := RX4) (T := TX4) (N := 18) hx hb hts in_c_lsend_X4 hown hK hP 0 rfl rfl 3 (by decide) (hts (.fieldLink RX4 54 "OwnedPlaces$Loans" "function" "LOwnedPlaces$Function;") (wm_c_lsend 2 rfl)) (fun _ h9 => h9) rfl dX4_send_26 ?_
        refine va_get (D := (dC, dI)) (ci := 2) (v := .int (nI yva)) (C := RX2) (T := TX2) (N := 22) hx hb hts in_c_lsend_X2 hown hK hP 1 rfl rfl 9 (by decide) (hts (.fieldLink RX4 157 "OwnedPlaces$Function" "variables" "I") (wm_c_lsend 3 rfl)) (fun _ h9 => h9) rfl dX4_send_29 ?_
        refine lv_icmp_ge (tgt := 96) hx hb dX4_send_32 (by decide) (fun hc1 => ?_) (fun hc1 => ?_)
        · have hi9 : i = yva := by have := (nI_leI (a := yva) (b := i) (by omega) (by omega)).mp hc1; omega
          refine lv_aload_n hx hb dX4_send_96 rfl (lv_at hl 3 rfl) ?_
          refine va_get (D := (dC, dI)) (ci := 4) (v := .ref lc) (C := RX4) (T := TX4) (N := 18) hx hb hts in_c_lsend_X4 hown hK hP 0 rfl rfl 8 (by decide) (hts (.fieldLink RX4 25 "OwnedPlaces$Loans" "reached" "[Z") (wm_c_lsend 1 rfl)) (fun _ h9 => h9) rfl dX4_send_97 ?_
          refine lv_iload_n hx hb dX4_send_100 rfl (lv_at hl 4 rfl) ?_
          refine lv_iconst (v := 1) hx hb dX4_send_101 (by decide) ?_
          refine va_zast hx hb hK hP hD hS 4 0 rfl rfl (vp_in_nI hlb (by decide)) dX4_send_102 (fun H locs hP hD hS => ?_)
          have hP : va_P (dC, dI) vwCl [(lo0, .inr (4, [.ref y, .ref c0, .ref e0, .ref f0, .ref lu, .ref la, .ref lh, .ref lr, .ref lc, .ref lt, .int (nI tn), .ref lp, .ref lb0, .ref ln0, .long lsh, .int vir, .int vag, .int vfi])), (f0, .inr (2, [.int ytk, .int ybd, .int (nI ylv), .ref fl0, .int (nI ypr), .ref fl1, .int yac, .int yrs, .int yrl, .int (nI yva), .ref fv0, .ref fv1, .ref fv2, .ref fv3, .ref fv4, .ref fv5, .int ycl, .int ycf, .int yct, .int ylf, .int ylt, .int ybo])), (lh, .inl (kL, 40, .inr (.inl hd))), (lr, .inl (kL, 44000, .inr (.inl r1))), (lc, .inl (kZ, 1100, .inl (upd rc (nI lb : Int32).toNatClampNeg (vp_nar .boolean 1))))] H := hP
          have hD : va_D A [(lo0, .inr (4, [.ref y, .ref c0, .ref e0, .ref f0, .ref lu, .ref la, .ref lh, .ref lr, .ref lc, .ref lt, .int (nI tn), .ref lp, .ref lb0, .ref ln0, .long lsh, .int vir, .int vag, .int vfi])), (f0, .inr (2, [.int ytk, .int ybd, .int (nI ylv), .ref fl0, .int (nI ypr), .ref fl1, .int yac, .int yrs, .int yrl, .int (nI yva), .ref fv0, .ref fv1, .ref fv2, .ref fv3, .ref fv4, .ref fv5, .int ycl, .int ycf, .int yct, .int ylf, .int ylt, .int ybo])), (lh, .inl (kL, 40, .inr (.inl hd))), (lr, .inl (kL, 44000, .inr (.inl r1))), (lc, .inl (kZ, 1100, .inl (upd rc (nI lb : Int32).toNatClampNeg (vp_nar .boolean 1))))] := hD
          obtain ⟨rc8, erc8⟩ : ∃ zZ : Nat → Int32, zZ = upd rc (nI lb : Int32).toNatClampNeg (vp_nar .boolean 1) := ⟨_, rfl⟩
          rw [← erc8] at hP hD
          refine lv_iload_n hx hb dX4_send_103 rfl (lv_at hl 2 rfl) ?_
          have hP9 := hP.sub (ws' := [(lo0, .inr (4, [.ref y, .ref c0, .ref e0, .ref f0, .ref lu, .ref la, .ref lh, .ref lr, .ref lc, .ref lt, .int (nI tn), .ref lp, .ref lb0, .ref ln0, .long lsh, .int vir, .int vag, .int vfi])), (f0, .inr (2, [.int ytk, .int ybd, .int (nI ylv), .ref fl0, .int (nI ypr), .ref fl1, .int yac, .int yrs, .int yrl, .int (nI yva), .ref fv0, .ref fv1, .ref fv2, .ref fv3, .ref fv4, .ref fv5, .int ycl, .int ycf, .int yct, .int ylf, .int ylt, .int ybo])), (lh, .inl (kL, 40, .inr (.inl hd))), (lr, .inl (kL, 44000, .inr (.inl r1))), (lc, .inl (kZ, 1100, .inl rc8))]) [0, 1, 2, 3, 4] rfl
          have hD9 := hD.sub (ws' := [(lo0, .inr (4, [.ref y, .ref c0, .ref e0, .ref f0, .ref lu, .ref la, .ref lh, .ref lr, .ref lc, .ref lt, .int (nI tn), .ref lp, .ref lb0, .ref ln0, .long lsh, .int vir, .int vag, .int vfi])), (f0, .inr (2, [.int ytk, .int ybd, .int (nI ylv), .ref fl0, .int (nI ypr), .ref fl1, .int yac, .int yrs, .int yrl, .int (nI yva), .ref fv0, .ref fv1, .ref fv2, .ref fv3, .ref fv4, .ref fv5, .int ycl, .int ycf, .int yct, .int ylf, .int ylt, .int ybo])), (lh, .inl (kL, 40, .inr (.inl hd))), (lr, .inl (kL, 44000, .inr (.inl r1))), (lc, .inl (kZ, 1100, .inl rc8))]) [0, 1, 2, 3, 4] (by decide) rfl
          have hK9 := hK.sub (tys' := [(kZ, .boolean), (kL, .long)]) [0, 1] rfl
          subst hQ1
          exact W.zret (v := nz) hx hb hr (by rcases hb1 with q | q <;> rw [q] <;> decide) (fun tS ht hW => ⟨⟨nz, nz, rfl, ⟨rfl, hb1⟩, r1, rc8, by rw [← hi9]; exact hb2, by rw [erc8, nI_clamp (by omega)], by rw [← hi9]; exact hb3, by rw [← hi9]; exact hb4, by rw [ht]; exact hP9, va_K.moved hW.alike hK9, hD9⟩, hS.F ht⟩) hS.2.2 dX4_send_104
        · have hi9 : i < yva := by rcases Nat.lt_or_ge i yva with y9 | y9; exact y9; exact absurd (nI_le y9 (by omega)) hc1
          have hr1 : r1 (lb * 40 + i) = fr (lb * 40 + i) := by rw [hb2 _, if_neg (by omega)]
          refine lv_aload_n hx hb dX4_send_35 rfl (lv_at hl 3 rfl) ?_
          refine va_get (D := (dC, dI)) (ci := 4) (v := .ref lr) (C := RX4) (T := TX4) (N := 18) hx hb hts in_c_lsend_X4 hown hK hP 0 rfl rfl 7 (by decide) (hts (.fieldLink RX4 22 "OwnedPlaces$Loans" "rows" "[J") (wm_c_lsend 4 rfl)) (fun _ h9 => h9) rfl dX4_send_36 ?_
          refine lv_iload_n hx hb dX4_send_39 rfl (lv_at hl 1 rfl) ?_
          refine lv_iload hx hb dX4_send_40 (lv_at hl 0 rfl) ?_
          refine lv_iadd hx hb dX4_send_42 ?_
          refine lv_topi (fun f_3 ef_3 => ?_)
          obtain rfl : f_3 = nI (lb * 40 + i) := ef_3.trans (nI_add _ _)
          refine va_lald hx hb hK hP 3 1 rfl rfl (vp_in_nI (by omega) (by decide)) dX4_send_43 ?_
          refine lv_topl (fun v_4 ev_4 => ?_)
          have h1 : v_4 = fr (lb * 40 + i) := ev_4.trans (by rw [nI_clamp (by omega)]; exact hr1)
          refine lv_aload_n hx hb dX4_send_44 rfl (lv_at hl 3 rfl) ?_
          refine va_get (D := (dC, dI)) (ci := 4) (v := .ref lh) (C := RX4) (T := TX4) (N := 18) hx hb hts in_c_lsend_X4 hown hK hP 0 rfl rfl 6 (by decide) (hts (.fieldLink RX4 18 "OwnedPlaces$Loans" "held" "[J") (wm_c_lsend 5 rfl)) (fun _ h9 => h9) rfl dX4_send_45 ?_
          refine lv_iload hx hb dX4_send_48 (lv_at hl 0 rfl) ?_
          refine va_lald hx hb hK hP 2 1 rfl rfl (vp_in_nI (by omega) (by decide)) dX4_send_50 ?_
          refine lv_topl (fun v_5 ev_5 => ?_)
          have h2 : v_5 = hd i := ev_5.trans (by rw [nI_clamp (by omega)])
          refine lv_lor hx hb dX4_send_51 ?_
          refine lv_topl (fun f_6 ef_6 => ?_)
          have hf9 : f_6 = fr (lb * 40 + i) ||| hd i := by rw [ef_6, h1, h2]
          refine lv_lstore (lv' := [(5, .long f_6), (4, .int (nI i)), (3, .int (nI (lb * 40))), (2, .int nz), (0, .ref lo0), (1, .int (nI lb))]) hx hb dX4_send_52 hl (by decide) rfl (fun ls hl => ?_)
          refine lv_iload_n hx hb dX4_send_54 rfl (lv_at hl 3 rfl) ?_
          refine lv_if_ne (tgt := 73) hx hb dX4_send_55 (by decide) (fun hnz => ?_) (fun hnz => ?_)
          · refine lv_iconst (v := 1) hx hb dX4_send_73 (by decide) ?_
            refine lv_goto (tgt := 78) hx hb dX4_send_74 (by decide) ?_
            refine lv_istore_n (lv' := [(2, .int 1), (5, .long f_6), (4, .int (nI i)), (3, .int (nI (lb * 40))), (0, .ref lo0), (1, .int (nI lb))]) hx hb dX4_send_78 rfl hl (by decide) rfl (fun ls hl => ?_)
            refine lv_aload_n hx hb dX4_send_79 rfl (lv_at hl 4 rfl) ?_
            refine va_get (D := (dC, dI)) (ci := 4) (v := .ref lr) (C := RX4) (T := TX4) (N := 18) hx hb hts in_c_lsend_X4 hown hK hP 0 rfl rfl 7 (by decide) (hts (.fieldLink RX4 22 "OwnedPlaces$Loans" "rows" "[J") (wm_c_lsend 4 rfl)) (fun _ h9 => h9) rfl dX4_send_80 ?_
            refine lv_iload_n hx hb dX4_send_83 rfl (lv_at hl 3 rfl) ?_
            refine lv_iload hx hb dX4_send_84 (lv_at hl 2 rfl) ?_
            refine lv_iadd hx hb dX4_send_86 ?_
            refine lv_topi (fun f_7 ef_7 => ?_)
            obtain rfl : f_7 = nI (lb * 40 + i) := ef_7.trans (nI_add _ _)
            refine lv_lload hx hb dX4_send_87 (lv_at hl 1 rfl) ?_
            refine va_last hx hb hK hP hD hS 3 1 rfl rfl (vp_in_nI (by omega) (by decide)) dX4_send_89 (fun H locs hP hD hS => ?_)
            have hP : va_P (dC, dI) vwCl [(lo0, .inr (4, [.ref y, .ref c0, .ref e0, .ref f0, .ref lu, .ref la, .ref lh, .ref lr, .ref lc, .ref lt, .int (nI tn), .ref lp, .ref lb0, .ref ln0, .long lsh, .int vir, .int vag, .int vfi])), (f0, .inr (2, [.int ytk, .int ybd, .int (nI ylv), .ref fl0, .int (nI ypr), .ref fl1, .int yac, .int yrs, .int yrl, .int (nI yva), .ref fv0, .ref fv1, .ref fv2, .ref fv3, .ref fv4, .ref fv5, .int ycl, .int ycf, .int yct, .int ylf, .int ylt, .int ybo])), (lh, .inl (kL, 40, .inr (.inl hd))), (lr, .inl (kL, 44000, .inr (.inl (vp_updL r1 (nI (lb * 40 + i) : Int32).toNatClampNeg f_6)))), (lc, .inl (kZ, 1100, .inl rc))] H := hP
            have hD : va_D A [(lo0, .inr (4, [.ref y, .ref c0, .ref e0, .ref f0, .ref lu, .ref la, .ref lh, .ref lr, .ref lc, .ref lt, .int (nI tn), .ref lp, .ref lb0, .ref ln0, .long lsh, .int vir, .int vag, .int vfi])), (f0, .inr (2, [.int ytk, .int ybd, .int (nI ylv), .ref fl0, .int (nI ypr), .ref fl1, .int yac, .int yrs, .int yrl, .int (nI yva), .ref fv0, .ref fv1, .ref fv2, .ref fv3, .ref fv4, .ref fv5, .int ycl, .int ycf, .int yct, .int ylf, .int ylt, .int ybo])), (lh, .inl (kL, 40, .inr (.inl hd))), (lr, .inl (kL, 44000, .inr (.inl (vp_updL r1 (nI (lb * 40 + i) : Int32).toNatClampNeg f_6)))), (lc, .inl (kZ, 1100, .inl rc))] := hD
            obtain ⟨r8, er8⟩ : ∃ zZ : Nat → Int64, zZ = vp_updL r1 (nI (lb * 40 + i) : Int32).toNatClampNeg f_6 := ⟨_, rfl⟩
            rw [← er8] at hP hD
            have hr8 : sdL lb (i + 1) hd fr r8 := by rw [er8, nI_clamp (by omega), hf9]; exact sdL_S hb2
            obtain ⟨x_8, ex_8⟩ : ∃ yY : Int32, yY = (nI i) + 1 := ⟨_, rfl⟩
            refine lv_iinc (v := x_8) (lv' := [(4, .int x_8), (2, .int 1), (5, .long f_6), (3, .int (nI (lb * 40))), (0, .ref lo0), (1, .int (nI lb))]) hx hb dX4_send_90 hl (k := 2) rfl (by rw [ex_8]; rfl) (by decide) rfl (fun ls hl => ?_)
            obtain rfl : x_8 = nI (i + 1) := by rw [ex_8]; exact nI_1 i
            have hl : lv_has ls 7 [(4, .int (nI (i + 1))), (2, .int 1), (5, .long f_6), (3, .int (nI (lb * 40))), (0, .ref lo0), (1, .int (nI lb))] := hl
            refine lv_goto (tgt := 23) hx hb dX4_send_93 (by decide) ?_
            exact ih1 (i + 1) 1 r8 _ _ _ (by omega) (by decide) hr8 (fun y9 => absurd y9 (by decide)) (fun _ => (hb4 hnz).imp id (fun ⟨v9, y1, y2⟩ => ⟨v9, by omega, y2⟩)) (hP.sub [0, 1, 2, 3, 4] rfl) (hD.sub [0, 1, 2, 3, 4] (by decide) rfl) hS (lv_sub hl [0, 3, 1, 4, 5] rfl)
          · refine lv_lload hx hb dX4_send_58 (lv_at hl 0 rfl) ?_
            refine lv_aload_n hx hb dX4_send_60 rfl (lv_at hl 4 rfl) ?_
            refine va_get (D := (dC, dI)) (ci := 4) (v := .ref lr) (C := RX4) (T := TX4) (N := 18) hx hb hts in_c_lsend_X4 hown hK hP 0 rfl rfl 7 (by decide) (hts (.fieldLink RX4 22 "OwnedPlaces$Loans" "rows" "[J") (wm_c_lsend 4 rfl)) (fun _ h9 => h9) rfl dX4_send_61 ?_
            refine lv_iload_n hx hb dX4_send_64 rfl (lv_at hl 2 rfl) ?_
            refine lv_iload hx hb dX4_send_65 (lv_at hl 1 rfl) ?_
            refine lv_iadd hx hb dX4_send_67 ?_
            refine lv_topi (fun f_7 ef_7 => ?_)
            obtain rfl : f_7 = nI (lb * 40 + i) := ef_7.trans (nI_add _ _)
            refine va_lald hx hb hK hP 3 1 rfl rfl (vp_in_nI (by omega) (by decide)) dX4_send_68 ?_
            refine lv_topl (fun v_8 ev_8 => ?_)
            have h3 : v_8 = fr (lb * 40 + i) := ev_8.trans (by rw [nI_clamp (by omega)]; exact hr1)
            refine W.lcmp hx hb dX4_send_69 ?_
            refine lv_topi (fun f_9 ef_9 => ?_)
            refine lv_if_eq (tgt := 77) hx hb dX4_send_70 (by decide) (fun hcm => ?_) (fun hcm => ?_)
            · have heq : f_6 = v_8 := lgc0.mp (ef_9.symm.trans hcm)
              have hnz0 : nz = 0 := hnz
              refine lv_iconst (v := 0) hx hb dX4_send_77 (by decide) ?_
              refine lv_istore_n (lv' := [(2, .int 0), (5, .long f_6), (4, .int (nI i)), (3, .int (nI (lb * 40))), (0, .ref lo0), (1, .int (nI lb))]) hx hb dX4_send_78 rfl hl (by decide) rfl (fun ls hl => ?_)
              refine lv_aload_n hx hb dX4_send_79 rfl (lv_at hl 4 rfl) ?_
              refine va_get (D := (dC, dI)) (ci := 4) (v := .ref lr) (C := RX4) (T := TX4) (N := 18) hx hb hts in_c_lsend_X4 hown hK hP 0 rfl rfl 7 (by decide) (hts (.fieldLink RX4 22 "OwnedPlaces$Loans" "rows" "[J") (wm_c_lsend 4 rfl)) (fun _ h9 => h9) rfl dX4_send_80 ?_
              refine lv_iload_n hx hb dX4_send_83 rfl (lv_at hl 3 rfl) ?_
              refine lv_iload hx hb dX4_send_84 (lv_at hl 2 rfl) ?_
              refine lv_iadd hx hb dX4_send_86 ?_
              refine lv_topi (fun f_10 ef_10 => ?_)
              obtain rfl : f_10 = nI (lb * 40 + i) := ef_10.trans (nI_add _ _)
              refine lv_lload hx hb dX4_send_87 (lv_at hl 1 rfl) ?_
              refine va_last hx hb hK hP hD hS 3 1 rfl rfl (vp_in_nI (by omega) (by decide)) dX4_send_89 (fun H locs hP hD hS => ?_)
              have hP : va_P (dC, dI) vwCl [(lo0, .inr (4, [.ref y, .ref c0, .ref e0, .ref f0, .ref lu, .ref la, .ref lh, .ref lr, .ref lc, .ref lt, .int (nI tn), .ref lp, .ref lb0, .ref ln0, .long lsh, .int vir, .int vag, .int vfi])), (f0, .inr (2, [.int ytk, .int ybd, .int (nI ylv), .ref fl0, .int (nI ypr), .ref fl1, .int yac, .int yrs, .int yrl, .int (nI yva), .ref fv0, .ref fv1, .ref fv2, .ref fv3, .ref fv4, .ref fv5, .int ycl, .int ycf, .int yct, .int ylf, .int ylt, .int ybo])), (lh, .inl (kL, 40, .inr (.inl hd))), (lr, .inl (kL, 44000, .inr (.inl (vp_updL r1 (nI (lb * 40 + i) : Int32).toNatClampNeg f_6)))), (lc, .inl (kZ, 1100, .inl rc))] H := hP
              have hD : va_D A [(lo0, .inr (4, [.ref y, .ref c0, .ref e0, .ref f0, .ref lu, .ref la, .ref lh, .ref lr, .ref lc, .ref lt, .int (nI tn), .ref lp, .ref lb0, .ref ln0, .long lsh, .int vir, .int vag, .int vfi])), (f0, .inr (2, [.int ytk, .int ybd, .int (nI ylv), .ref fl0, .int (nI ypr), .ref fl1, .int yac, .int yrs, .int yrl, .int (nI yva), .ref fv0, .ref fv1, .ref fv2, .ref fv3, .ref fv4, .ref fv5, .int ycl, .int ycf, .int yct, .int ylf, .int ylt, .int ybo])), (lh, .inl (kL, 40, .inr (.inl hd))), (lr, .inl (kL, 44000, .inr (.inl (vp_updL r1 (nI (lb * 40 + i) : Int32).toNatClampNeg f_6)))), (lc, .inl (kZ, 1100, .inl rc))] := hD
              obtain ⟨r8, er8⟩ : ∃ zZ : Nat → Int64, zZ = vp_updL r1 (nI (lb * 40 + i) : Int32).toNatClampNeg f_6 := ⟨_, rfl⟩
              rw [← er8] at hP hD
              have hr8 : sdL lb (i + 1) hd fr r8 := by rw [er8, nI_clamp (by omega), hf9]; exact sdL_S hb2
              obtain ⟨x_11, ex_11⟩ : ∃ yY : Int32, yY = (nI i) + 1 := ⟨_, rfl⟩
              refine lv_iinc (v := x_11) (lv' := [(4, .int x_11), (2, .int 0), (5, .long f_6), (3, .int (nI (lb * 40))), (0, .ref lo0), (1, .int (nI lb))]) hx hb dX4_send_90 hl (k := 2) rfl (by rw [ex_11]; rfl) (by decide) rfl (fun ls hl => ?_)
              obtain rfl : x_11 = nI (i + 1) := by rw [ex_11]; exact nI_1 i
              have hl : lv_has ls 7 [(4, .int (nI (i + 1))), (2, .int 0), (5, .long f_6), (3, .int (nI (lb * 40))), (0, .ref lo0), (1, .int (nI lb))] := hl
              refine lv_goto (tgt := 23) hx hb dX4_send_93 (by decide) ?_
              exact ih1 (i + 1) 0 r8 _ _ _ (by omega) (by decide) hr8 (fun _ => ⟨(hb3 hnz0).1, fun v9 hv9 => by rcases Nat.lt_or_ge v9 i with y9 | y9; exact (hb3 hnz0).2 v9 y9; rw [show v9 = i by omega, ← hf9, heq, h3]⟩) (fun y9 => absurd rfl y9) (hP.sub [0, 1, 2, 3, 4] rfl) (hD.sub [0, 1, 2, 3, 4] (by decide) rfl) hS (lv_sub hl [0, 3, 1, 4, 5] rfl)
            · have hneq : ¬ f_6 = v_8 := fun q9 => hcm (ef_9.trans (lgc0.mpr q9))
              refine lv_iconst (v := 1) hx hb dX4_send_73 (by decide) ?_
              refine lv_goto (tgt := 78) hx hb dX4_send_74 (by decide) ?_
              refine lv_istore_n (lv' := [(2, .int 1), (5, .long f_6), (4, .int (nI i)), (3, .int (nI (lb * 40))), (0, .ref lo0), (1, .int (nI lb))]) hx hb dX4_send_78 rfl hl (by decide) rfl (fun ls hl => ?_)
              refine lv_aload_n hx hb dX4_send_79 rfl (lv_at hl 4 rfl) ?_
              refine va_get (D := (dC, dI)) (ci := 4) (v := .ref lr) (C := RX4) (T := TX4) (N := 18) hx hb hts in_c_lsend_X4 hown hK hP 0 rfl rfl 7 (by decide) (hts (.fieldLink RX4 22 "OwnedPlaces$Loans" "rows" "[J") (wm_c_lsend 4 rfl)) (fun _ h9 => h9) rfl dX4_send_80 ?_
              refine lv_iload_n hx hb dX4_send_83 rfl (lv_at hl 3 rfl) ?_
              refine lv_iload hx hb dX4_send_84 (lv_at hl 2 rfl) ?_
              refine lv_iadd hx hb dX4_send_86 ?_
              refine lv_topi (fun f_10 ef_10 => ?_)
              obtain rfl : f_10 = nI (lb * 40 + i) := ef_10.trans (nI_add _ _)
              refine lv_lload hx hb dX4_send_87 (lv_at hl 1 rfl) ?_
              refine va_last hx hb hK hP hD hS 3 1 rfl rfl (vp_in_nI (by omega) (by decide)) dX4_send_89 (fun H locs hP hD hS => ?_)
              have hP : va_P (dC, dI) vwCl [(lo0, .inr (4, [.ref y, .ref c0, .ref e0, .ref f0, .ref lu, .ref la, .ref lh, .ref lr, .ref lc, .ref lt, .int (nI tn), .ref lp, .ref lb0, .ref ln0, .long lsh, .int vir, .int vag, .int vfi])), (f0, .inr (2, [.int ytk, .int ybd, .int (nI ylv), .ref fl0, .int (nI ypr), .ref fl1, .int yac, .int yrs, .int yrl, .int (nI yva), .ref fv0, .ref fv1, .ref fv2, .ref fv3, .ref fv4, .ref fv5, .int ycl, .int ycf, .int yct, .int ylf, .int ylt, .int ybo])), (lh, .inl (kL, 40, .inr (.inl hd))), (lr, .inl (kL, 44000, .inr (.inl (vp_updL r1 (nI (lb * 40 + i) : Int32).toNatClampNeg f_6)))), (lc, .inl (kZ, 1100, .inl rc))] H := hP
              have hD : va_D A [(lo0, .inr (4, [.ref y, .ref c0, .ref e0, .ref f0, .ref lu, .ref la, .ref lh, .ref lr, .ref lc, .ref lt, .int (nI tn), .ref lp, .ref lb0, .ref ln0, .long lsh, .int vir, .int vag, .int vfi])), (f0, .inr (2, [.int ytk, .int ybd, .int (nI ylv), .ref fl0, .int (nI ypr), .ref fl1, .int yac, .int yrs, .int yrl, .int (nI yva), .ref fv0, .ref fv1, .ref fv2, .ref fv3, .ref fv4, .ref fv5, .int ycl, .int ycf, .int yct, .int ylf, .int ylt, .int ybo])), (lh, .inl (kL, 40, .inr (.inl hd))), (lr, .inl (kL, 44000, .inr (.inl (vp_updL r1 (nI (lb * 40 + i) : Int32).toNatClampNeg f_6)))), (lc, .inl (kZ, 1100, .inl rc))] := hD
              obtain ⟨r8, er8⟩ : ∃ zZ : Nat → Int64, zZ = vp_updL r1 (nI (lb * 40 + i) : Int32).toNatClampNeg f_6 := ⟨_, rfl⟩
              rw [← er8] at hP hD
              have hr8 : sdL lb (i + 1) hd fr r8 := by rw [er8, nI_clamp (by omega), hf9]; exact sdL_S hb2
              obtain ⟨x_11, ex_11⟩ : ∃ yY : Int32, yY = (nI i) + 1 := ⟨_, rfl⟩
              refine lv_iinc (v := x_11) (lv' := [(4, .int x_11), (2, .int 1), (5, .long f_6), (3, .int (nI (lb * 40))), (0, .ref lo0), (1, .int (nI lb))]) hx hb dX4_send_90 hl (k := 2) rfl (by rw [ex_11]; rfl) (by decide) rfl (fun ls hl => ?_)
              obtain rfl : x_11 = nI (i + 1) := by rw [ex_11]; exact nI_1 i
              have hl : lv_has ls 7 [(4, .int (nI (i + 1))), (2, .int 1), (5, .long f_6), (3, .int (nI (lb * 40))), (0, .ref lo0), (1, .int (nI lb))] := hl
              refine lv_goto (tgt := 23) hx hb dX4_send_93 (by decide) ?_
              exact ih1 (i + 1) 1 r8 _ _ _ (by omega) (by decide) hr8 (fun y9 => absurd y9 (by decide)) (fun _ => Or.inr ⟨i, by omega, fun y9 => hneq (by rw [hf9, h3]; exact y9)⟩) (hP.sub [0, 1, 2, 3, 4] rfl) (hD.sub [0, 1, 2, 3, 4] (by decide) rfl) hS (lv_sub hl [0, 3, 1, 4, 5] rfl)
    exact key1 (yva + 1) 0 1 fr _ _ _ (by omega) (by decide) sdL_0 (fun y9 => absurd y9 (by decide)) (fun _ => Or.inl (hr9.symm.trans hne)) (hP.sub [0, 1, 2, 3, 4] rfl) (hD.sub [0, 1, 2, 3, 4] (by decide) rfl) hS (lv_sub hl [0, 1, 2, 3, 4] rfl)
def wf_c_ljoin : List Cond := [.code yX4_join cX4_join 4 none, .fieldLink RX4 25 "OwnedPlaces$Loans" "reached" "[Z", .fieldLink RX4 54 "OwnedPlaces$Loans" "function" "LOwnedPlaces$Function;", .fieldLink RX4 157 "OwnedPlaces$Function" "variables" "I", .fieldLink RX4 151 "OwnedPlaces$Loans" "isReached" "Z", .fieldLink RX4 18 "OwnedPlaces$Loans" "held" "[J", .fieldLink RX4 22 "OwnedPlaces$Loans" "rows" "[J"]
def wp_c_ljoin : List Cond := wf_c_ljoin ++ (wsX40 ++ (wsX20 ++ []))
theorem in_c_ljoin_X4 : ∀ w ∈ wsX40, w ∈ wp_c_ljoin := fun w h => List.mem_append_right _ (List.mem_append_left _ h)
theorem in_c_ljoin_X2 : ∀ w ∈ wsX20, w ∈ wp_c_ljoin := fun w h => List.mem_append_right _ (List.mem_append_right _ (List.mem_append_left _ h))
theorem wg_c_ljoin : wf_c_ljoin.all goodWord = true := by decide +kernel
theorem wm_c_ljoin (k : Nat) {w : Cond} (h : wp_c_ljoin[k]? = some w) : w ∈ wp_c_ljoin := List.mem_of_getElem? h
set_option maxHeartbeats 4000000 in
set_option maxRecDepth 100000 in
theorem c_ljoin (l : Launch) (dC : Nat → ClassId) (dI : Nat → Nat → Nat) (lo0 y e0 lu la lh lr lc lt lp lb0 ln0 : Nat) (lsh : Int64) (vir vag vfi : Int32) (tn : Nat) (c0 : Nat) (f0 fl0 fl1 fv0 fv1 fv2 fv3 fv4 fv5 : Nat) (ytk ybd yac yrs yrl ycl ycf yct ylf ylt ybo : Int32) (ylv ypr yva : Nat) (kI kZ kL : ClassId) (lb : Nat) (hd fr : Nat → Int64) (rc : Nat → Int32) (sz : Nat) (hlb : lb < 1100) (hyv : yva ≤ 40) : Met l yX4_join wp_c_ljoin ({ frames := 0, cells := 0, slots := 0, locals := 0 }) (va_Pc [.ref lo0, .int (nI lb)] (fun U => U.heap.size = sz ∧ va_P (dC, dI) vwCl [(lo0, .inr (4, [.ref y, .ref c0, .ref e0, .ref f0, .ref lu, .ref la, .ref lh, .ref lr, .ref lc, .ref lt, .int (nI tn), .ref lp, .ref lb0, .ref ln0, .long lsh, .int vir, .int vag, .int vfi])), (f0, .inr (2, [.int ytk, .int ybd, .int (nI ylv), .ref fl0, .int (nI ypr), .ref fl1, .int yac, .int yrs, .int yrl, .int (nI yva), .ref fv0, .ref fv1, .ref fv2, .ref fv3, .ref fv4, .ref fv5, .int ycl, .int ycf, .int yct, .int ylf, .int ylt, .int ybo])), (lh, .inl (kL, 40, .inr (.inl hd))), (lr, .inl (kL, 44000, .inr (.inl fr))), (lc, .inl (kZ, 1100, .inl rc))] U.heap ∧ va_K (dC, dI) vwCl [(kZ, .boolean), (kL, .long)] U ∧ va_D (fun _ => True) [(lo0, .inr (4, [.ref y, .ref c0, .ref e0, .ref f0, .ref lu, .ref la, .ref lh, .ref lr, .ref lc, .ref lt, .int (nI tn), .ref lp, .ref lb0, .ref ln0, .long lsh, .int vir, .int vag, .int vfi])), (f0, .inr (2, [.int ytk, .int ybd, .int (nI ylv), .ref fl0, .int (nI ypr), .ref fl1, .int yac, .int yrs, .int yrl, .int (nI yva), .ref fv0, .ref fv1, .ref fv2, .ref fv3, .ref fv4, .ref fv5, .int ycl, .int ycf, .int yct, .int ylf, .int ylt, .int ybo])), (lh, .inl (kL, 40, .inr (.inl hd))), (lr, .inl (kL, 44000, .inr (.inl fr))), (lc, .inl (kZ, 1100, .inl rc))])) (va_Qv (fun _ : Unit => True) (fun (_ : Unit) (tS : State) => ∃ (gs : Nat → Int64) (ir2 : Int32), ((rc lb = 0 ∧ gs = hd ∧ ir2 = vir) ∨ (rc lb ≠ 0 ∧ jnL lb yva vir fr hd gs ∧ ir2 = 1)) ∧ va_P (dC, dI) vwCl [(lo0, .inr (4, [.ref y, .ref c0, .ref e0, .ref f0, .ref lu, .ref la, .ref lh, .ref lr, .ref lc, .ref lt, .int (nI tn), .ref lp, .ref lb0, .ref ln0, .long lsh, .int ir2, .int vag, .int vfi])), (f0, .inr (2, [.int ytk, .int ybd, .int (nI ylv), .ref fl0, .int (nI ypr), .ref fl1, .int yac, .int yrs, .int yrl, .int (nI yva), .ref fv0, .ref fv1, .ref fv2, .ref fv3, .ref fv4, .ref fv5, .int ycl, .int ycf, .int yct, .int ylf, .int ylt, .int ybo])), (lh, .inl (kL, 40, .inr (.inl gs))), (lr, .inl (kL, 44000, .inr (.inl fr))), (lc, .inl (kZ, 1100, .inl rc))] tS.heap ∧ va_K (dC, dI) vwCl [(kZ, .boolean), (kL, .long)] tS ∧ va_D (va_A [(lo0, .inr (4, [.ref y, .ref c0, .ref e0, .ref f0, .ref lu, .ref la, .ref lh, .ref lr, .ref lc, .ref lt, .int (nI tn), .ref lp, .ref lb0, .ref ln0, .long lsh, .int vir, .int vag, .int vfi])), (f0, .inr (2, [.int ytk, .int ybd, .int (nI ylv), .ref fl0, .int (nI ypr), .ref fl1, .int yac, .int yrs, .int yrl, .int (nI yva), .ref fv0, .ref fv1, .ref fv2, .ref fv3, .ref fv4, .ref fv5, .int ycl, .int ycf, .int yct, .int ylf, .int ylt, .int ybo])), (lh, .inl (kL, 40, .inr (.inl hd))), (lr, .inl (kL, 44000, .inr (.inl fr))), (lc, .inl (kZ, 1100, .inl rc))] sz) [(lo0, .inr (4, [.ref y, .ref c0, .ref e0, .ref f0, .ref lu, .ref la, .ref lh, .ref lr, .ref lc, .ref lt, .int (nI tn), .ref lp, .ref lb0, .ref ln0, .long lsh, .int ir2, .int vag, .int vfi])), (f0, .inr (2, [.int ytk, .int ybd, .int (nI ylv), .ref fl0, .int (nI ypr), .ref fl1, .int yac, .int yrs, .int yrl, .int (nI yva), .ref fv0, .ref fv1, .ref fv2, .ref fv3, .ref fv4, .ref fv5, .int ycl, .int ycf, .int yct, .int ylf, .int ylt, .int ybo])), (lh, .inl (kL, 40, .inr (.inl gs))), (lr, .inl (kL, 44000, .inr (.inl fr))), (lc, .inl (kZ, 1100, .inl rc))]) (va_A [(lo0, .inr (4, [.ref y, .ref c0, .ref e0, .ref f0, .ref lu, .ref la, .ref lh, .ref lr, .ref lc, .ref lt, .int (nI tn), .ref lp, .ref lb0, .ref ln0, .long lsh, .int vir, .int vag, .int vfi])), (f0, .inr (2, [.int ytk, .int ybd, .int (nI ylv), .ref fl0, .int (nI ypr), .ref fl1, .int yac, .int yrs, .int yrl, .int (nI yva), .ref fv0, .ref fv1, .ref fv2, .ref fv3, .ref fv4, .ref fv5, .int ycl, .int ycf, .int yct, .int ylf, .int ylt, .int ybo])), (lh, .inl (kL, 40, .inr (.inl hd))), (lr, .inl (kL, 44000, .inr (.inl fr))), (lc, .inl (kZ, 1100, .inl rc))] sz)) 0 0 (va_A [(lo0, .inr (4, [.ref y, .ref c0, .ref e0, .ref f0, .ref lu, .ref la, .ref lh, .ref lr, .ref lc, .ref lt, .int (nI tn), .ref lp, .ref lb0, .ref ln0, .long lsh, .int vir, .int vag, .int vfi])), (f0, .inr (2, [.int ytk, .int ybd, .int (nI ylv), .ref fl0, .int (nI ypr), .ref fl1, .int yac, .int yrs, .int yrl, .int (nI yva), .ref fv0, .ref fv1, .ref fv2, .ref fv3, .ref fv4, .ref fv5, .int ycl, .int ycf, .int yct, .int ylf, .int ylt, .int ybo])), (lh, .inl (kL, 40, .inr (.inl hd))), (lr, .inl (kL, 44000, .inr (.inl fr))), (lc, .inl (kZ, 1100, .inl rc))] sz) := by
  refine Met.ofW (cc := cX4_join) (maxL := 4) (ret := none) (by decide) rfl ?_
  intro p e s m args below meth c s₁ B hml hv
  obtain ⟨rfl, hsz, hP, hK, hD0⟩ := hv
  have hx := B.exec
  have hb := B.bytes
  have hr := B.returns
  have hts := atoms_spec (ws := wp_c_ljoin) B.pre
  have hown : s.vm.findClass RX4 = some m.cls := findClass_of_methodNamed B.named
  have hlocks := B.notSynchronized
  subst hsz
  have hD := hD0.self (sz := s.heap.size)
  generalize hAe : va_A [(lo0, .inr (4, [.ref y, .ref c0, .ref e0, .ref f0, .ref lu, .ref la, .ref lh, .ref lr, .ref lc, .ref lt, .int (nI tn), .ref lp, .ref lb0, .ref ln0, .long lsh, .int vir, .int vag, .int vfi])), (f0, .inr (2, [.int ytk, .int ybd, .int (nI ylv), .ref fl0, .int (nI ypr), .ref fl1, .int yac, .int yrs, .int yrl, .int (nI yva), .ref fv0, .ref fv1, .ref fv2, .ref fv3, .ref fv4, .ref fv5, .int ycl, .int ycf, .int yct, .int ylf, .int ylt, .int ybo])), (lh, .inl (kL, 40, .inr (.inl hd))), (lr, .inl (kL, 44000, .inr (.inl fr))), (lc, .inl (kZ, 1100, .inl rc))] s.heap.size = A at hD ⊢
  have hA : ∀ q : Nat, s.heap.size ≤ q → A q := fun q h => by rw [← hAe]; exact Or.inr h
  have hS : va_S A s.heap s.heap [] := va_S.rf
  have hP : va_P (dC, dI) vwCl [(lo0, .inr (4, [.ref y, .ref c0, .ref e0, .ref f0, .ref lu, .ref la, .ref lh, .ref lr, .ref lc, .ref lt, .int (nI tn), .ref lp, .ref lb0, .ref ln0, .long lsh, .int vir, .int vag, .int vfi])), (f0, .inr (2, [.int ytk, .int ybd, .int (nI ylv), .ref fl0, .int (nI ypr), .ref fl1, .int yac, .int yrs, .int yrl, .int (nI yva), .ref fv0, .ref fv1, .ref fv2, .ref fv3, .ref fv4, .ref fv5, .int ycl, .int ycf, .int yct, .int ylf, .int ylt, .int ybo])), (lh, .inl (kL, 40, .inr (.inl hd))), (lr, .inl (kL, 44000, .inr (.inl fr))), (lc, .inl (kZ, 1100, .inl rc))] s.heap := hP
  have hl := lv_entry ([.ref lo0, .int (nI lb)]) (n := 4) (Nat.le_of_ble_eq_true rfl)
  rw [lg_entry_eq]
  generalize (lg_sl ([.ref lo0, .int (nI lb)]) ++ List.replicate (4 - (lg_sl ([.ref lo0, .int (nI lb)])).length) Slot.unset).toArray = ls at hl ⊢
  have hl : lv_has ls 4 [(0, .ref lo0), (1, .int (nI lb))] := hl
  refine lv_aload_n hx hb dX4_join_0 rfl (lv_at hl 0 rfl) ?_
  refine va_get (D := (dC, dI)) (ci := 4) (v := .ref lc) (C := RX4) (T := TX4) (N := 18) hx hb hts in_c_ljoin_X4 hown hK hP 0 rfl rfl 8 (by decide) (hts (.fieldLink RX4 25 "OwnedPlaces$Loans" "reached" "[Z") (wm_c_ljoin 1 rfl)) (fun _ h9 => h9) rfl dX4_join_1 ?_
  refine lv_iload_n hx hb dX4_join_4 rfl (lv_at hl 1 rfl) ?_
  refine va_zald hx hb hK hP 4 0 rfl rfl (vp_in_nI hlb (by decide)) dX4_join_5 ?_
  refine lv_topi (fun v_1 ev_1 => ?_)
  have hr9 : v_1 = rc lb := ev_1.trans (by rw [nI_clamp (by omega)])
  refine lv_if_ne (tgt := 10) hx hb dX4_join_6 (by decide) (fun hne => ?_) (fun hne => ?_)
  · refine lv_iload_n hx hb dX4_join_10 rfl (lv_at hl 1 rfl) ?_
    refine lv_bipush (v := 40) hx hb dX4_join_11 (by decide) ?_
    refine lv_imul hx hb dX4_join_13 ?_
    refine lv_topi (fun f_2 ef_2 => ?_)
    obtain rfl : f_2 = nI (lb * 40) := ef_2.trans (pk_mul lb 40)
    refine lv_istore_n (lv' := [(2, .int (nI (lb * 40))), (0, .ref lo0), (1, .int (nI lb))]) hx hb dX4_join_14 rfl hl (by decide) rfl (fun ls hl => ?_)
    refine lv_iconst (v := 0) hx hb dX4_join_15 (by decide) ?_
    refine lv_istore_n (lv' := [(3, .int 0), (2, .int (nI (lb * 40))), (0, .ref lo0), (1, .int (nI lb))]) hx hb dX4_join_16 rfl hl (by decide) rfl (fun ls hl => ?_)
    have hl : lv_has ls 4 [(3, .int (nI 0)), (2, .int (nI (lb * 40))), (0, .ref lo0), (1, .int (nI lb))] := hl
    refine W_q (fun Q1 hQ1 => ?_)
    have key1 : ∀ (n1 : Nat) (i : Nat) (s1 : Nat → Int64) (H : Heap) (locs : List Loc) (ls : Array Slot), (i + n1 = yva + 1 ∧ i ≤ yva) → (jnL lb i vir fr hd s1) → va_P (dC, dI) vwCl [(lo0, .inr (4, [.ref y, .ref c0, .ref e0, .ref f0, .ref lu, .ref la, .ref lh, .ref lr, .ref lc, .ref lt, .int (nI tn), .ref lp, .ref lb0, .ref ln0, .long lsh, .int vir, .int vag, .int vfi])), (f0, .inr (2, [.int ytk, .int ybd, .int (nI ylv), .ref fl0, .int (nI ypr), .ref fl1, .int yac, .int yrs, .int yrl, .int (nI yva), .ref fv0, .ref fv1, .ref fv2, .ref fv3, .ref fv4, .ref fv5, .int ycl, .int ycf, .int yct, .int ylf, .int ylt, .int ybo])), (lh, .inl (kL, 40, .inr (.inl s1))), (lr, .inl (kL, 44000, .inr (.inl fr))), (lc, .inl (kZ, 1100, .inl rc))] H → va_D A [(lo0, .inr (4, [.ref y, .ref c0, .ref e0, .ref f0, .ref lu, .ref la, .ref lh, .ref lr, .ref lc, .ref lt, .int (nI tn), .ref lp, .ref lb0, .ref ln0, .long lsh, .int vir, .int vag, .int vfi])), (f0, .inr (2, [.int ytk, .int ybd, .int (nI ylv), .ref fl0, .int (nI ypr), .ref fl1, .int yac, .int yrs, .int yrl, .int (nI yva), .ref fv0, .ref fv1, .ref fv2, .ref fv3, .ref fv4, .ref fv5, .int ycl, .int ycf, .int yct, .int ylf, .int ylt, .int ybo])), (lh, .inl (kL, 40, .inr (.inl s1))), (lr, .inl (kL, 44000, .inr (.inl fr))), (lc, .inl (kZ, 1100, .inl rc))] → va_S A s.heap H locs → lv_has ls 4 [(3, .int (nI i)), (2, .int (nI (lb * 40))), (0, .ref lo0), (1, .int (nI lb))] → W p l e (headSpec wp_c_ljoin ({ frames := 0, cells := 0, slots := 0, locals := 0 })).room s m ([.ref lo0, .int (nI lb)] : List Value).toArray below meth c H locs 0 0 Q1 (F0 m 17 ls []) := by
      intro n1
      induction n1 with
      | zero => intro i s1 H locs ls hb0 hb1; exact absurd hb0 (by omega)
      | succ n1 ih1 =>
        intro i s1 H locs ls hb0 hb1 hP hD hS hl
        refine lv_iload_n hx hb dX4_join_17 rfl (lv_at hl 0 rfl) ?_
        refine lv_aload_n hx hb dX4_join_18 rfl (lv_at hl 2 rfl) ?_
        refine va_get (D := (dC, dI)) (ci := 4) (v := .ref f0) (C := RX4) (T := TX4) (N := 18) hx hb hts in_c_ljoin_X4 hown hK hP 0 rfl rfl 3 (by decide) (hts (.fieldLink RX4 54 "OwnedPlaces$Loans" "function" "LOwnedPlaces$Function;") (wm_c_ljoin 2 rfl)) (fun _ h9 => h9) rfl dX4_join_19 ?_
        refine va_get (D := (dC, dI)) (ci := 2) (v := .int (nI yva)) (C := RX2) (T := TX2) (N := 22) hx hb hts in_c_ljoin_X2 hown hK hP 1 rfl rfl 9 (by decide) (hts (.fieldLink RX4 157 "OwnedPlaces$Function" "variables" "I") (wm_c_ljoin 3 rfl)) (fun _ h9 => h9) rfl dX4_join_22 ?_
        refine lv_icmp_ge (tgt := 73) hx hb dX4_join_25 (by decide) (fun hc1 => ?_) (fun hc1 => ?_)
        · have hi9 : i = yva := by have := (nI_leI (a := yva) (b := i) (by omega) (by omega)).mp hc1; omega
          refine lv_aload_n hx hb dX4_join_73 rfl (lv_at hl 2 rfl) ?_
          refine lv_iconst (v := 1) hx hb dX4_join_74 (by decide) ?_
          refine va_put (D := (dC, dI)) (ci := 4) (v := .int 1) (ty := .boolean) (C := RX4) (T := TX4) (N := 18) hx hb hts in_c_ljoin_X4 tyX4 tyX4_ok nmX4 hown hK hP hD hS 0 rfl rfl 15 (by decide) (hts (.fieldLink RX4 151 "OwnedPlaces$Loans" "isReached" "Z") (wm_c_ljoin 4 rfl)) (fun _ h9 => h9) rfl (by decide +kernel) (by decide) (by decide) (Nat.le_of_ble_eq_true rfl) dX4_join_75 (fun H locs hP hD hS => ?_)
          have hP : va_P (dC, dI) vwCl [(lo0, .inr (4, [.ref y, .ref c0, .ref e0, .ref f0, .ref lu, .ref la, .ref lh, .ref lr, .ref lc, .ref lt, .int (nI tn), .ref lp, .ref lb0, .ref ln0, .long lsh, .int 1, .int vag, .int vfi])), (f0, .inr (2, [.int ytk, .int ybd, .int (nI ylv), .ref fl0, .int (nI ypr), .ref fl1, .int yac, .int yrs, .int yrl, .int (nI yva), .ref fv0, .ref fv1, .ref fv2, .ref fv3, .ref fv4, .ref fv5, .int ycl, .int ycf, .int yct, .int ylf, .int ylt, .int ybo])), (lh, .inl (kL, 40, .inr (.inl s1))), (lr, .inl (kL, 44000, .inr (.inl fr))), (lc, .inl (kZ, 1100, .inl rc))] H := hP
          have hD : va_D A [(lo0, .inr (4, [.ref y, .ref c0, .ref e0, .ref f0, .ref lu, .ref la, .ref lh, .ref lr, .ref lc, .ref lt, .int (nI tn), .ref lp, .ref lb0, .ref ln0, .long lsh, .int 1, .int vag, .int vfi])), (f0, .inr (2, [.int ytk, .int ybd, .int (nI ylv), .ref fl0, .int (nI ypr), .ref fl1, .int yac, .int yrs, .int yrl, .int (nI yva), .ref fv0, .ref fv1, .ref fv2, .ref fv3, .ref fv4, .ref fv5, .int ycl, .int ycf, .int yct, .int ylf, .int ylt, .int ybo])), (lh, .inl (kL, 40, .inr (.inl s1))), (lr, .inl (kL, 44000, .inr (.inl fr))), (lc, .inl (kZ, 1100, .inl rc))] := hD
          have hP9 := hP.sub (ws' := [(lo0, .inr (4, [.ref y, .ref c0, .ref e0, .ref f0, .ref lu, .ref la, .ref lh, .ref lr, .ref lc, .ref lt, .int (nI tn), .ref lp, .ref lb0, .ref ln0, .long lsh, .int 1, .int vag, .int vfi])), (f0, .inr (2, [.int ytk, .int ybd, .int (nI ylv), .ref fl0, .int (nI ypr), .ref fl1, .int yac, .int yrs, .int yrl, .int (nI yva), .ref fv0, .ref fv1, .ref fv2, .ref fv3, .ref fv4, .ref fv5, .int ycl, .int ycf, .int yct, .int ylf, .int ylt, .int ybo])), (lh, .inl (kL, 40, .inr (.inl s1))), (lr, .inl (kL, 44000, .inr (.inl fr))), (lc, .inl (kZ, 1100, .inl rc))]) [0, 1, 2, 3, 4] rfl
          have hD9 := hD.sub (ws' := [(lo0, .inr (4, [.ref y, .ref c0, .ref e0, .ref f0, .ref lu, .ref la, .ref lh, .ref lr, .ref lc, .ref lt, .int (nI tn), .ref lp, .ref lb0, .ref ln0, .long lsh, .int 1, .int vag, .int vfi])), (f0, .inr (2, [.int ytk, .int ybd, .int (nI ylv), .ref fl0, .int (nI ypr), .ref fl1, .int yac, .int yrs, .int yrl, .int (nI yva), .ref fv0, .ref fv1, .ref fv2, .ref fv3, .ref fv4, .ref fv5, .int ycl, .int ycf, .int yct, .int ylf, .int ylt, .int ybo])), (lh, .inl (kL, 40, .inr (.inl s1))), (lr, .inl (kL, 44000, .inr (.inl fr))), (lc, .inl (kZ, 1100, .inl rc))]) [0, 1, 2, 3, 4] (by decide) rfl
          have hK9 := hK.sub (tys' := [(kZ, .boolean), (kL, .long)]) [0, 1] rfl
          subst hQ1
          exact W.vret hx hb hr (fun tS ht hW => ⟨⟨(), rfl, trivial, s1, 1, Or.inr ⟨fun y9 => hne (hr9.trans y9), by rw [← hi9]; exact hb1, rfl⟩, by rw [ht]; exact hP9, va_K.moved hW.alike hK9, hD9⟩, hS.F ht⟩) hS.2.2 dX4_join_78
        · have hi9 : i < yva := by rcases Nat.lt_or_ge i yva with y9 | y9; exact y9; exact absurd (nI_le y9 (by omega)) hc1
          refine lv_aload_n hx hb dX4_join_28 rfl (lv_at hl 2 rfl) ?_
          refine va_get (D := (dC, dI)) (ci := 4) (v := .ref lh) (C := RX4) (T := TX4) (N := 18) hx hb hts in_c_ljoin_X4 hown hK hP 0 rfl rfl 6 (by decide) (hts (.fieldLink RX4 18 "OwnedPlaces$Loans" "held" "[J") (wm_c_ljoin 5 rfl)) (fun _ h9 => h9) rfl dX4_join_29 ?_
          refine lv_iload_n hx hb dX4_join_32 rfl (lv_at hl 0 rfl) ?_
          refine lv_aload_n hx hb dX4_join_33 rfl (lv_at hl 2 rfl) ?_
          refine va_get (D := (dC, dI)) (ci := 4) (v := .int vir) (C := RX4) (T := TX4) (N := 18) hx hb hts in_c_ljoin_X4 hown hK hP 0 rfl rfl 15 (by decide) (hts (.fieldLink RX4 151 "OwnedPlaces$Loans" "isReached" "Z") (wm_c_ljoin 4 rfl)) (fun _ h9 => h9) rfl dX4_join_34 ?_
          refine lv_if_eq (tgt := 58) hx hb dX4_join_37 (by decide) (fun hir => ?_) (fun hir => ?_)
          · refine lv_aload_n hx hb dX4_join_58 rfl (lv_at hl 2 rfl) ?_
            refine va_get (D := (dC, dI)) (ci := 4) (v := .ref lr) (C := RX4) (T := TX4) (N := 18) hx hb hts in_c_ljoin_X4 hown hK hP 0 rfl rfl 7 (by decide) (hts (.fieldLink RX4 22 "OwnedPlaces$Loans" "rows" "[J") (wm_c_ljoin 6 rfl)) (fun _ h9 => h9) rfl dX4_join_59 ?_
            refine lv_iload_n hx hb dX4_join_62 rfl (lv_at hl 1 rfl) ?_
            refine lv_iload_n hx hb dX4_join_63 rfl (lv_at hl 0 rfl) ?_
            refine lv_iadd hx hb dX4_join_64 ?_
            refine lv_topi (fun f_3 ef_3 => ?_)
            obtain rfl : f_3 = nI (lb * 40 + i) := ef_3.trans (nI_add _ _)
            refine va_lald hx hb hK hP 3 1 rfl rfl (vp_in_nI (by omega) (by decide)) dX4_join_65 ?_
            refine lv_topl (fun v_4 ev_4 => ?_)
            have h1 : v_4 = fr (lb * 40 + i) := ev_4.trans (by rw [nI_clamp (by omega)])
            refine va_last hx hb hK hP hD hS 2 1 rfl rfl (vp_in_nI (by omega) (by decide)) dX4_join_66 (fun H locs hP hD hS => ?_)
            have hP : va_P (dC, dI) vwCl [(lo0, .inr (4, [.ref y, .ref c0, .ref e0, .ref f0, .ref lu, .ref la, .ref lh, .ref lr, .ref lc, .ref lt, .int (nI tn), .ref lp, .ref lb0, .ref ln0, .long lsh, .int vir, .int vag, .int vfi])), (f0, .inr (2, [.int ytk, .int ybd, .int (nI ylv), .ref fl0, .int (nI ypr), .ref fl1, .int yac, .int yrs, .int yrl, .int (nI yva), .ref fv0, .ref fv1, .ref fv2, .ref fv3, .ref fv4, .ref fv5, .int ycl, .int ycf, .int yct, .int ylf, .int ylt, .int ybo])), (lh, .inl (kL, 40, .inr (.inl (vp_updL s1 (nI i : Int32).toNatClampNeg v_4)))), (lr, .inl (kL, 44000, .inr (.inl fr))), (lc, .inl (kZ, 1100, .inl rc))] H := hP
            have hD : va_D A [(lo0, .inr (4, [.ref y, .ref c0, .ref e0, .ref f0, .ref lu, .ref la, .ref lh, .ref lr, .ref lc, .ref lt, .int (nI tn), .ref lp, .ref lb0, .ref ln0, .long lsh, .int vir, .int vag, .int vfi])), (f0, .inr (2, [.int ytk, .int ybd, .int (nI ylv), .ref fl0, .int (nI ypr), .ref fl1, .int yac, .int yrs, .int yrl, .int (nI yva), .ref fv0, .ref fv1, .ref fv2, .ref fv3, .ref fv4, .ref fv5, .int ycl, .int ycf, .int yct, .int ylf, .int ylt, .int ybo])), (lh, .inl (kL, 40, .inr (.inl (vp_updL s1 (nI i : Int32).toNatClampNeg v_4)))), (lr, .inl (kL, 44000, .inr (.inl fr))), (lc, .inl (kZ, 1100, .inl rc))] := hD
            obtain ⟨s8, es8⟩ : ∃ zZ : Nat → Int64, zZ = vp_updL s1 (nI i : Int32).toNatClampNeg v_4 := ⟨_, rfl⟩
            rw [← es8] at hP hD
            have hs8 : jnL lb (i + 1) vir fr hd s8 := by rw [es8, nI_clamp (by omega)]; exact jnL_S hb1 (by rw [if_pos hir]; exact h1)
            obtain ⟨x_5, ex_5⟩ : ∃ yY : Int32, yY = (nI i) + 1 := ⟨_, rfl⟩
            refine lv_iinc (v := x_5) (lv' := [(3, .int x_5), (2, .int (nI (lb * 40))), (0, .ref lo0), (1, .int (nI lb))]) hx hb dX4_join_67 hl (k := 0) rfl (by rw [ex_5]; rfl) (by decide) rfl (fun ls hl => ?_)
            obtain rfl : x_5 = nI (i + 1) := by rw [ex_5]; exact nI_1 i
            have hl : lv_has ls 4 [(3, .int (nI (i + 1))), (2, .int (nI (lb * 40))), (0, .ref lo0), (1, .int (nI lb))] := hl
            refine lv_goto (tgt := 17) hx hb dX4_join_70 (by decide) ?_
            exact ih1 (i + 1) s8 _ _ _ (by omega) hs8 (hP.sub [0, 1, 2, 3, 4] rfl) (hD.sub [0, 1, 2, 3, 4] (by decide) rfl) hS (lv_sub hl [0, 1, 2, 3] rfl)
          · refine lv_aload_n hx hb dX4_join_40 rfl (lv_at hl 2 rfl) ?_
            refine va_get (D := (dC, dI)) (ci := 4) (v := .ref lh) (C := RX4) (T := TX4) (N := 18) hx hb hts in_c_ljoin_X4 hown hK hP 0 rfl rfl 6 (by decide) (hts (.fieldLink RX4 18 "OwnedPlaces$Loans" "held" "[J") (wm_c_ljoin 5 rfl)) (fun _ h9 => h9) rfl dX4_join_41 ?_
            refine lv_iload_n hx hb dX4_join_44 rfl (lv_at hl 0 rfl) ?_
            refine va_lald hx hb hK hP 2 1 rfl rfl (vp_in_nI (by omega) (by decide)) dX4_join_45 ?_
            refine lv_topl (fun v_3 ev_3 => ?_)
            have h1 : v_3 = hd i := ev_3.trans (by rw [nI_clamp (by omega), hb1 i, if_neg (by omega)])
            refine lv_aload_n hx hb dX4_join_46 rfl (lv_at hl 2 rfl) ?_
            refine va_get (D := (dC, dI)) (ci := 4) (v := .ref lr) (C := RX4) (T := TX4) (N := 18) hx hb hts in_c_ljoin_X4 hown hK hP 0 rfl rfl 7 (by decide) (hts (.fieldLink RX4 22 "OwnedPlaces$Loans" "rows" "[J") (wm_c_ljoin 6 rfl)) (fun _ h9 => h9) rfl dX4_join_47 ?_
            refine lv_iload_n hx hb dX4_join_50 rfl (lv_at hl 1 rfl) ?_
            refine lv_iload_n hx hb dX4_join_51 rfl (lv_at hl 0 rfl) ?_
            refine lv_iadd hx hb dX4_join_52 ?_
            refine lv_topi (fun f_4 ef_4 => ?_)
            obtain rfl : f_4 = nI (lb * 40 + i) := ef_4.trans (nI_add _ _)
            refine va_lald hx hb hK hP 3 1 rfl rfl (vp_in_nI (by omega) (by decide)) dX4_join_53 ?_
            refine lv_topl (fun v_5 ev_5 => ?_)
            have h2 : v_5 = fr (lb * 40 + i) := ev_5.trans (by rw [nI_clamp (by omega)])
            refine lv_lor hx hb dX4_join_54 ?_
            refine lv_topl (fun f_6 ef_6 => ?_)
            have hf9 : f_6 = hd i ||| fr (lb * 40 + i) := by rw [ef_6, h1, h2]
            refine lv_goto (tgt := 66) hx hb dX4_join_55 (by decide) ?_
            refine va_last hx hb hK hP hD hS 2 1 rfl rfl (vp_in_nI (by omega) (by decide)) dX4_join_66 (fun H locs hP hD hS => ?_)
            have hP : va_P (dC, dI) vwCl [(lo0, .inr (4, [.ref y, .ref c0, .ref e0, .ref f0, .ref lu, .ref la, .ref lh, .ref lr, .ref lc, .ref lt, .int (nI tn), .ref lp, .ref lb0, .ref ln0, .long lsh, .int vir, .int vag, .int vfi])), (f0, .inr (2, [.int ytk, .int ybd, .int (nI ylv), .ref fl0, .int (nI ypr), .ref fl1, .int yac, .int yrs, .int yrl, .int (nI yva), .ref fv0, .ref fv1, .ref fv2, .ref fv3, .ref fv4, .ref fv5, .int ycl, .int ycf, .int yct, .int ylf, .int ylt, .int ybo])), (lh, .inl (kL, 40, .inr (.inl (vp_updL s1 (nI i : Int32).toNatClampNeg f_6)))), (lr, .inl (kL, 44000, .inr (.inl fr))), (lc, .inl (kZ, 1100, .inl rc))] H := hP
            have hD : va_D A [(lo0, .inr (4, [.ref y, .ref c0, .ref e0, .ref f0, .ref lu, .ref la, .ref lh, .ref lr, .ref lc, .ref lt, .int (nI tn), .ref lp, .ref lb0, .ref ln0, .long lsh, .int vir, .int vag, .int vfi])), (f0, .inr (2, [.int ytk, .int ybd, .int (nI ylv), .ref fl0, .int (nI ypr), .ref fl1, .int yac, .int yrs, .int yrl, .int (nI yva), .ref fv0, .ref fv1, .ref fv2, .ref fv3, .ref fv4, .ref fv5, .int ycl, .int ycf, .int yct, .int ylf, .int ylt, .int ybo])), (lh, .inl (kL, 40, .inr (.inl (vp_updL s1 (nI i : Int32).toNatClampNeg f_6)))), (lr, .inl (kL, 44000, .inr (.inl fr))), (lc, .inl (kZ, 1100, .inl rc))] := hD
            obtain ⟨s8, es8⟩ : ∃ zZ : Nat → Int64, zZ = vp_updL s1 (nI i : Int32).toNatClampNeg f_6 := ⟨_, rfl⟩
            rw [← es8] at hP hD
            have hs8 : jnL lb (i + 1) vir fr hd s8 := by rw [es8, nI_clamp (by omega)]; exact jnL_S hb1 (by rw [if_neg hir]; exact hf9)
            obtain ⟨x_7, ex_7⟩ : ∃ yY : Int32, yY = (nI i) + 1 := ⟨_, rfl⟩
            refine lv_iinc (v := x_7) (lv' := [(3, .int x_7), (2, .int (nI (lb * 40))), (0, .ref lo0), (1, .int (nI lb))]) hx hb dX4_join_67 hl (k := 0) rfl (by rw [ex_7]; rfl) (by decide) rfl (fun ls hl => ?_)
            obtain rfl : x_7 = nI (i + 1) := by rw [ex_7]; exact nI_1 i
            have hl : lv_has ls 4 [(3, .int (nI (i + 1))), (2, .int (nI (lb * 40))), (0, .ref lo0), (1, .int (nI lb))] := hl
            refine lv_goto (tgt := 17) hx hb dX4_join_70 (by decide) ?_
            exact ih1 (i + 1) s8 _ _ _ (by omega) hs8 (hP.sub [0, 1, 2, 3, 4] rfl) (hD.sub [0, 1, 2, 3, 4] (by decide) rfl) hS (lv_sub hl [0, 1, 2, 3] rfl)
    exact key1 (yva + 1) 0 hd _ _ _ (by omega) (fun j => (if_neg (by omega)).symm) (hP.sub [0, 1, 2, 3, 4] rfl) (hD.sub [0, 1, 2, 3, 4] (by decide) rfl) hS (lv_sub hl [0, 1, 2, 3] rfl)
  · have hP9 := hP.sub (ws' := [(lo0, .inr (4, [.ref y, .ref c0, .ref e0, .ref f0, .ref lu, .ref la, .ref lh, .ref lr, .ref lc, .ref lt, .int (nI tn), .ref lp, .ref lb0, .ref ln0, .long lsh, .int vir, .int vag, .int vfi])), (f0, .inr (2, [.int ytk, .int ybd, .int (nI ylv), .ref fl0, .int (nI ypr), .ref fl1, .int yac, .int yrs, .int yrl, .int (nI yva), .ref fv0, .ref fv1, .ref fv2, .ref fv3, .ref fv4, .ref fv5, .int ycl, .int ycf, .int yct, .int ylf, .int ylt, .int ybo])), (lh, .inl (kL, 40, .inr (.inl hd))), (lr, .inl (kL, 44000, .inr (.inl fr))), (lc, .inl (kZ, 1100, .inl rc))]) [0, 1, 2, 3, 4] rfl
    have hD9 := hD.sub (ws' := [(lo0, .inr (4, [.ref y, .ref c0, .ref e0, .ref f0, .ref lu, .ref la, .ref lh, .ref lr, .ref lc, .ref lt, .int (nI tn), .ref lp, .ref lb0, .ref ln0, .long lsh, .int vir, .int vag, .int vfi])), (f0, .inr (2, [.int ytk, .int ybd, .int (nI ylv), .ref fl0, .int (nI ypr), .ref fl1, .int yac, .int yrs, .int yrl, .int (nI yva), .ref fv0, .ref fv1, .ref fv2, .ref fv3, .ref fv4, .ref fv5, .int ycl, .int ycf, .int yct, .int ylf, .int ylt, .int ybo])), (lh, .inl (kL, 40, .inr (.inl hd))), (lr, .inl (kL, 44000, .inr (.inl fr))), (lc, .inl (kZ, 1100, .inl rc))]) [0, 1, 2, 3, 4] (by decide) rfl
    have hK9 := hK.sub (tys' := [(kZ, .boolean), (kL, .long)]) [0, 1] rfl
    exact W.vret hx hb hr (fun tS ht hW => ⟨⟨(), rfl, trivial, hd, vir, Or.inl ⟨hr9.symm.trans hne, rfl, rfl⟩, by rw [ht]; exact hP9, va_K.moved hW.alike hK9, hD9⟩, hS.F ht⟩) hS.2.2 dX4_join_9
