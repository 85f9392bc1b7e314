-- b0.loans.lean.txt
section
def orT (f : Nat → Int64) : Nat → Int64
  | 0 => 0
  | n + 1 => orT f n ||| f n
/-- whether the bit v stands in ub, as the code asks -/
def usB (ub : Int64) (v : Nat) : Int32 := lg_cmp ((((ub : Int64).toUInt64 >>> ((nI v : Int32).toInt64.toUInt64 &&& Int64.toUInt64 63)).toInt64) &&& 1) 1
/-- what the variables that are still used hold, and x -/
def orV (ub : Int64) (hd : Nat → Int64) (x : Int64) : Nat → Int64
  | 0 => x
  | n + 1 => if usB ub n = 0 then orV ub hd x n ||| hd n else orV ub hd x n
def wf_c_alive : List Cond := [.code yX4_aliveBehind cX4_aliveBehind 5 (some .long), .fieldLink RX4 154 "OwnedPlaces$Loans" "tempTotal" "I", .fieldLink RX4 29 "OwnedPlaces$Loans" "temps" "[J", .fieldLink RX4 54 "OwnedPlaces$Loans" "function" "LOwnedPlaces$Function;", .fieldLink RX4 157 "OwnedPlaces$Function" "variables" "I", .fieldLink RX4 9 "OwnedPlaces$Loans" "usedBehind" "[J", .fieldLink RX4 18 "OwnedPlaces$Loans" "held" "[J"]
def wp_c_alive : List Cond := wf_c_alive ++ (wsX40 ++ (wsX20 ++ []))
theorem in_c_alive_X4 : ∀ w ∈ wsX40, w ∈ wp_c_alive := fun w h => List.mem_append_right _ (List.mem_append_left _ h)
theorem in_c_alive_X2 : ∀ w ∈ wsX20, w ∈ wp_c_alive := fun w h => List.mem_append_right _ (List.mem_append_right _ (List.mem_append_left _ h))
theorem wg_c_alive : wf_c_alive.all goodWord = true := by decide +kernel
theorem wm_c_alive (k : Nat) {w : Cond} (h : wp_c_alive[k]? = some w) : w ∈ wp_c_alive := List.mem_of_getElem? h
set_option maxHeartbeats 4000000 in
set_option maxRecDepth 100000 in
theorem c_alive (l : Launch) (dC : Nat → ClassId) (dI : Nat → Nat → Nat) (lo0 y c0 e0 lu la lh lr lc lt lp lb0 ln0 : Nat) (lsh : Int64) (vir vag vfi : Int32) (tn : Nat) (kL : ClassId) (ft ub hd : Nat → Int64) (f0 fl0 fl1 fv0 fv1 fv2 fv3 fv4 fv5 : Nat) (ytk ybd yac yrs yrl ycl ycf yct ylf ylt ybo : Int32) (ylv ypr yva : Nat) (ii : Nat) (sz : Nat) (htn : tn ≤ 512) (hii : ii < 6000) (hyv : yva ≤ 40) : Met l yX4_aliveBehind wp_c_alive ({ frames := 0, cells := 0, slots := 0, locals := 0 }) (va_Pc [.ref lo0, .int (nI ii)] (fun U => U.heap.size = sz ∧ va_P (dC, dI) vwCl [(lo0, .inr (4, [.ref y, .ref c0, .ref e0, .ref f0, .ref lu, .ref la, .ref lh, .ref lr, .ref lc, .ref lt, .int (nI tn), .ref lp, .ref lb0, .ref ln0, .long lsh, .int vir, .int vag, .int vfi])), (f0, .inr (2, [.int ytk, .int ybd, .int (nI ylv), .ref fl0, .int (nI ypr), .ref fl1, .int yac, .int yrs, .int yrl, .int (nI yva), .ref fv0, .ref fv1, .ref fv2, .ref fv3, .ref fv4, .ref fv5, .int ycl, .int ycf, .int yct, .int ylf, .int ylt, .int ybo])), (lt, .inl (kL, 512, .inr (.inl ft))), (lu, .inl (kL, 6000, .inr (.inl ub))), (lh, .inl (kL, 40, .inr (.inl hd)))] U.heap ∧ va_K (dC, dI) vwCl [(kL, .long)] U ∧ va_D (fun _ => True) [(lo0, .inr (4, [.ref y, .ref c0, .ref e0, .ref f0, .ref lu, .ref la, .ref lh, .ref lr, .ref lc, .ref lt, .int (nI tn), .ref lp, .ref lb0, .ref ln0, .long lsh, .int vir, .int vag, .int vfi])), (f0, .inr (2, [.int ytk, .int ybd, .int (nI ylv), .ref fl0, .int (nI ypr), .ref fl1, .int yac, .int yrs, .int yrl, .int (nI yva), .ref fv0, .ref fv1, .ref fv2, .ref fv3, .ref fv4, .ref fv5, .int ycl, .int ycf, .int yct, .int ylf, .int ylt, .int ybo])), (lt, .inl (kL, 512, .inr (.inl ft))), (lu, .inl (kL, 6000, .inr (.inl ub))), (lh, .inl (kL, 40, .inr (.inl hd)))])) (va_Ql (fun (r : Int64) (_ : Unit) => r = orV (ub ii) hd (orT ft tn) yva) (fun (_ : Unit) (tS : State) => va_P (dC, dI) vwCl [(lo0, .inr (4, [.ref y, .ref c0, .ref e0, .ref f0, .ref lu, .ref la, .ref lh, .ref lr, .ref lc, .ref lt, .int (nI tn), .ref lp, .ref lb0, .ref ln0, .long lsh, .int vir, .int vag, .int vfi])), (f0, .inr (2, [.int ytk, .int ybd, .int (nI ylv), .ref fl0, .int (nI ypr), .ref fl1, .int yac, .int yrs, .int yrl, .int (nI yva), .ref fv0, .ref fv1, .ref fv2, .ref fv3, .ref fv4, .ref fv5, .int ycl, .int ycf, .int yct, .int ylf, .int ylt, .int ybo])), (lt, .inl (kL, 512, .inr (.inl ft))), (lu, .inl (kL, 6000, .inr (.inl ub))), (lh, .inl (kL, 40, .inr (.inl hd)))] tS.heap ∧ va_K (dC, dI) vwCl [(kL, .long)] tS ∧ va_D (va_A [(lo0, .inr (4, [.ref y, .ref c0, .ref e0, .ref f0, .ref lu, .ref la, .ref lh, .ref lr, .ref lc, .ref lt, .int (nI tn), .ref lp, .ref lb0, .ref ln0, .long lsh, .int vir, .int vag, .int vfi])), (f0, .inr (2, [.int ytk, .int ybd, .int (nI ylv), .ref fl0, .int (nI ypr), .ref fl1, .int yac, .int yrs, .int yrl, .int (nI yva), .ref fv0, .ref fv1, .ref fv2, .ref fv3, .ref fv4, .ref fv5, .int ycl, .int ycf, .int yct, .int ylf, .int ylt, .int ybo])), (lt, .inl (kL, 512, .inr (.inl ft))), (lu, .inl (kL, 6000, .inr (.inl ub))), (lh, .inl (kL, 40, .inr (.inl hd)))] sz) [(lo0, .inr (4, [.ref y, .ref c0, .ref e0, .ref f0, .ref lu, .ref la, .ref lh, .ref lr, .ref lc, .ref lt, .int (nI tn), .ref lp, .ref lb0, .ref ln0, .long lsh, .int vir, .int vag, .int vfi])), (f0, .inr (2, [.int ytk, .int ybd, .int (nI ylv), .ref fl0, .int (nI ypr), .ref fl1, .int yac, .int yrs, .int yrl, .int (nI yva), .ref fv0, .ref fv1, .ref fv2, .ref fv3, .ref fv4, .ref fv5, .int ycl, .int ycf, .int yct, .int ylf, .int ylt, .int ybo])), (lt, .inl (kL, 512, .inr (.inl ft))), (lu, .inl (kL, 6000, .inr (.inl ub))), (lh, .inl (kL, 40, .inr (.inl hd)))]) (va_A [(lo0, .inr (4, [.ref y, .ref c0, .ref e0, .ref f0, .ref lu, .ref la, .ref lh, .ref lr, .ref lc, .ref lt, .int (nI tn), .ref lp, .ref lb0, .ref ln0, .long lsh, .int vir, .int vag, .int vfi])), (f0, .inr (2, [.int ytk, .int ybd, .int (nI ylv), .ref fl0, .int (nI ypr), .ref fl1, .int yac, .int yrs, .int yrl, .int (nI yva), .ref fv0, .ref fv1, .ref fv2, .ref fv3, .ref fv4, .ref fv5, .int ycl, .int ycf, .int yct, .int ylf, .int ylt, .int ybo])), (lt, .inl (kL, 512, .inr (.inl ft))), (lu, .inl (kL, 6000, .inr (.inl ub))), (lh, .inl (kL, 40, .inr (.inl hd)))] sz)) 0 0 (va_A [(lo0, .inr (4, [.ref y, .ref c0, .ref e0, .ref f0, .ref lu, .ref la, .ref lh, .ref lr, .ref lc, .ref lt, .int (nI tn), .ref lp, .ref lb0, .ref ln0, .long lsh, .int vir, .int vag, .int vfi])), (f0, .inr (2, [.int ytk, .int ybd, .int (nI ylv), .ref fl0, .int (nI ypr), .ref fl1, .int yac, .int yrs, .int yrl, .int (nI yva), .ref fv0, .ref fv1, .ref fv2, .ref fv3, .ref fv4, .ref fv5, .int ycl, .int ycf, .int yct, .int ylf, .int ylt, .int ybo])), (lt, .inl (kL, 512, .inr (.inl ft))), (lu, .inl (kL, 6000, .inr (.inl ub))), (lh, .inl (kL, 40, .inr (.inl hd)))] sz) := by
  refine Met.ofW (cc := cX4_aliveBehind) (maxL := 5) (ret := (some .long)) (by decide) rfl ?_
  intro p e s m args below meth c s₁ B hml hv
  obtain ⟨rfl, hsz, hP, hK, hD0⟩ := hv
  have hx := B.exec
  have hb := B.bytes
  have hr := B.returns
  have hts := atoms_spec (ws := wp_c_alive) B.pre
  have hown : s.vm.findClass RX4 = some m.cls := findClass_of_methodNamed B.named
  have hlocks := B.notSynchronized
  subst hsz
  have hD := hD0.self (sz := s.heap.size)
  generalize hAe : va_A [(lo0, .inr (4, [.ref y, .ref c0, .ref e0, .ref f0, .ref lu, .ref la, .ref lh, .ref lr, .ref lc, .ref lt, .int (nI tn), .ref lp, .ref lb0, .ref ln0, .long lsh, .int vir, .int vag, .int vfi])), (f0, .inr (2, [.int ytk, .int ybd, .int (nI ylv), .ref fl0, .int (nI ypr), .ref fl1, .int yac, .int yrs, .int yrl, .int (nI yva), .ref fv0, .ref fv1, .ref fv2, .ref fv3, .ref fv4, .ref fv5, .int ycl, .int ycf, .int yct, .int ylf, .int ylt, .int ybo])), (lt, .inl (kL, 512, .inr (.inl ft))), (lu, .inl (kL, 6000, .inr (.inl ub))), (lh, .inl (kL, 40, .inr (.inl hd)))] s.heap.size = A at hD ⊢
  have hA : ∀ q : Nat, s.heap.size ≤ q → A q := fun q h => by rw [← hAe]; exact Or.inr h
  have hS : va_S A s.heap s.heap [] := va_S.rf
  have hP : va_P (dC, dI) vwCl [(lo0, .inr (4, [.ref y, .ref c0, .ref e0, .ref f0, .ref lu, .ref la, .ref lh, .ref lr, .ref lc, .ref lt, .int (nI tn), .ref lp, .ref lb0, .ref ln0, .long lsh, .int vir, .int vag, .int vfi])), (f0, .inr (2, [.int ytk, .int ybd, .int (nI ylv), .ref fl0, .int (nI ypr), .ref fl1, .int yac, .int yrs, .int yrl, .int (nI yva), .ref fv0, .ref fv1, .ref fv2, .ref fv3, .ref fv4, .ref fv5, .int ycl, .int ycf, .int yct, .int ylf, .int ylt, .int ybo])), (lt, .inl (kL, 512, .inr (.inl ft))), (lu, .inl (kL, 6000, .inr (.inl ub))), (lh, .inl (kL, 40, .inr (.inl hd)))] s.heap := hP
  have hl := lv_entry ([.ref lo0, .int (nI ii)]) (n := 5) (Nat.le_of_ble_eq_true rfl)
  rw [lg_entry_eq]
  generalize (lg_sl ([.ref lo0, .int (nI ii)]) ++ List.replicate (5 - (lg_sl ([.ref lo0, .int (nI ii)])).length) Slot.unset).toArray = ls at hl ⊢
  have hl : lv_has ls 5 [(0, .ref lo0), (1, .int (nI ii))] := hl
  refine lv_lconst (v := 0) hx hb dX4_aliveBehind_0 (by decide) ?_
  refine lv_lstore_n (lv' := [(2, .long 0), (0, .ref lo0), (1, .int (nI ii))]) hx hb dX4_aliveBehind_1 rfl hl (by decide) rfl (fun ls hl => ?_)
  refine lv_iconst (v := 0) hx hb dX4_aliveBehind_2 (by decide) ?_
  refine lv_istore (lv' := [(4, .int 0), (2, .long 0), (0, .ref lo0), (1, .int (nI ii))]) hx hb dX4_aliveBehind_3 hl (by decide) rfl (fun ls hl => ?_)
  have hl : lv_has ls 5 [(4, .int (nI 0)), (2, .long 0), (0, .ref lo0), (1, .int (nI ii))] := hl
  refine W_q (fun Q1 hQ1 => ?_)
  have key1 : ∀ (n1 : Nat) (i : Nat) (xx : Int64) (H : Heap) (locs : List Loc) (ls : Array Slot), (i + n1 = tn + 1 ∧ i ≤ tn) → (xx = orT ft i) → va_P (dC, dI) vwCl [(lo0, .inr (4, [.ref y, .ref c0, .ref e0, .ref f0, .ref lu, .ref la, .ref lh, .ref lr, .ref lc, .ref lt, .int (nI tn), .ref lp, .ref lb0, .ref ln0, .long lsh, .int vir, .int vag, .int vfi])), (f0, .inr (2, [.int ytk, .int ybd, .int (nI ylv), .ref fl0, .int (nI ypr), .ref fl1, .int yac, .int yrs, .int yrl, .int (nI yva), .ref fv0, .ref fv1, .ref fv2, .ref fv3, .ref fv4, .ref fv5, .int ycl, .int ycf, .int yct, .int ylf, .int ylt, .int ybo])), (lt, .inl (kL, 512, .inr (.inl ft))), (lu, .inl (kL, 6000, .inr (.inl ub))), (lh, .inl (kL, 40, .inr (.inl hd)))] H → va_D A [(lo0, .inr (4, [.ref y, .ref c0, .ref e0, .ref f0, .ref lu, .ref la, .ref lh, .ref lr, .ref lc, .ref lt, .int (nI tn), .ref lp, .ref lb0, .ref ln0, .long lsh, .int vir, .int vag, .int vfi])), (f0, .inr (2, [.int ytk, .int ybd, .int (nI ylv), .ref fl0, .int (nI ypr), .ref fl1, .int yac, .int yrs, .int yrl, .int (nI yva), .ref fv0, .ref fv1, .ref fv2, .ref fv3, .ref fv4, .ref fv5, .int ycl, .int ycf, .int yct, .int ylf, .int ylt, .int ybo])), (lt, .inl (kL, 512, .inr (.inl ft))), (lu, .inl (kL, 6000, .inr (.inl ub))), (lh, .inl (kL, 40, .inr (.inl hd)))] → va_S A s.heap H locs → lv_has ls 5 [(4, .int (nI i)), (2, .long xx), (0, .ref lo0), (1, .int (nI ii))] → W p l e (headSpec wp_c_alive ({ frames := 0, cells := 0, slots := 0, locals := 0 })).room s m ([.ref lo0, .int (nI ii)] : List Value).toArray below meth c H locs 0 0 Q1 (F0 m 5 ls []) := by
    intro n1
    induction n1 with
    | zero => intro i xx H locs ls hb0 hb1; exact absurd hb0 (by omega)
    | succ n1 ih1 =>
      intro i xx H locs ls hb0 hb1 hP hD hS hl
      refine lv_iload hx hb dX4_aliveBehind_5 (lv_at hl 0 rfl) ?_
      refine lv_aload_n hx hb dX4_aliveBehind_7 rfl (lv_at hl 2 rfl) ?_
      refine va_get (D := (dC, dI)) (ci := 4) (v := .int (nI tn)) (C := RX4) (T := TX4) (N := 18) hx hb hts in_c_alive_X4 hown hK hP 0 rfl rfl 10 (by decide) (hts (.fieldLink RX4 154 "OwnedPlaces$Loans" "tempTotal" "I") (wm_c_alive 1 rfl)) (fun _ h9 => h9) rfl dX4_aliveBehind_8 ?_
      refine lv_icmp_ge (tgt := 30) hx hb dX4_aliveBehind_11 (by decide) (fun hc1 => ?_) (fun hc1 => ?_)
      · have hi9 : i = tn := by have := (nI_leI (a := tn) (b := i) (by omega) (by omega)).mp hc1; omega
        rw [hi9] at hb1
        refine lv_iconst (v := 0) hx hb dX4_aliveBehind_30 (by decide) ?_
        refine lv_istore (lv' := [(4, .int 0), (2, .long xx), (0, .ref lo0), (1, .int (nI ii))]) hx hb dX4_aliveBehind_31 hl (by decide) rfl (fun ls hl => ?_)
        have hl : lv_has ls 5 [(4, .int (nI 0)), (2, .long xx), (0, .ref lo0), (1, .int (nI ii))] := hl
        refine W_q (fun Q2 hQ2 => ?_)
        have key2 : ∀ (n2 : Nat) (k : Nat) (zz : Int64) (H : Heap) (locs : List Loc) (ls : Array Slot), (k + n2 = yva + 1 ∧ k ≤ yva) → (zz = orV (ub ii) hd (orT ft tn) k) → va_P (dC, dI) vwCl [(lo0, .inr (4, [.ref y, .ref c0, .ref e0, .ref f0, .ref lu, .ref la, .ref lh, .ref lr, .ref lc, .ref lt, .int (nI tn), .ref lp, .ref lb0, .ref ln0, .long lsh, .int vir, .int vag, .int vfi])), (f0, .inr (2, [.int ytk, .int ybd, .int (nI ylv), .ref fl0, .int (nI ypr), .ref fl1, .int yac, .int yrs, .int yrl, .int (nI yva), .ref fv0, .ref fv1, .ref fv2, .ref fv3, .ref fv4, .ref fv5, .int ycl, .int ycf, .int yct, .int ylf, .int ylt, .int ybo])), (lt, .inl (kL, 512, .inr (.inl ft))), (lu, .inl (kL, 6000, .inr (.inl ub))), (lh, .inl (kL, 40, .inr (.inl hd)))] H → va_D A [(lo0, .inr (4, [.ref y, .ref c0, .ref e0, .ref f0, .ref lu, .ref la, .ref lh, .ref lr, .ref lc, .ref lt, .int (nI tn), .ref lp, .ref lb0, .ref ln0, .long lsh, .int vir, .int vag, .int vfi])), (f0, .inr (2, [.int ytk, .int ybd, .int (nI ylv), .ref fl0, .int (nI ypr), .ref fl1, .int yac, .int yrs, .int yrl, .int (nI yva), .ref fv0, .ref fv1, .ref fv2, .ref fv3, .ref fv4, .ref fv5, .int ycl, .int ycf, .int yct, .int ylf, .int ylt, .int ybo])), (lt, .inl (kL, 512, .inr (.inl ft))), (lu, .inl (kL, 6000, .inr (.inl ub))), (lh, .inl (kL, 40, .inr (.inl hd)))] → va_S A s.heap H locs → lv_has ls 5 [(4, .int (nI k)), (2, .long zz), (0, .ref lo0), (1, .int (nI ii))] → W p l e (headSpec wp_c_alive ({ frames := 0, cells := 0, slots := 0, locals := 0 })).room s m ([.ref lo0, .int (nI ii)] : List Value).toArray below meth c H locs 0 0 Q2 (F0 m 33 ls []) := by
          intro n2
          induction n2 with
          | zero => intro k zz H locs ls hc0 hc1; exact absurd hc0 (by omega)
          | succ n2 ih2 =>
            intro k zz H locs ls hc0 hc1 hP hD hS hl
            refine lv_iload hx hb dX4_aliveBehind_33 (lv_at hl 0 rfl) ?_
            refine lv_aload_n hx hb dX4_aliveBehind_35 rfl (lv_at hl 2 rfl) ?_
            refine va_get (D := (dC, dI)) (ci := 4) (v := .ref f0) (C := RX4) (T := TX4) (N := 18) hx hb hts in_c_alive_X4 hown hK hP 0 rfl rfl 3 (by decide) (hts (.fieldLink RX4 54 "OwnedPlaces$Loans" "function" "LOwnedPlaces$Function;") (wm_c_alive 3 rfl)) (fun _ h9 => h9) rfl dX4_aliveBehind_36 ?_
            refine va_get (D := (dC, dI)) (ci := 2) (v := .int (nI yva)) (C := RX2) (T := TX2) (N := 22) hx hb hts in_c_alive_X2 hown hK hP 1 rfl rfl 9 (by decide) (hts (.fieldLink RX4 157 "OwnedPlaces$Function" "variables" "I") (wm_c_alive 4 rfl)) (fun _ h9 => h9) rfl dX4_aliveBehind_39 ?_
            refine lv_icmp_ge (tgt := 77) hx hb dX4_aliveBehind_42 (by decide) (fun hc9 => ?_) (fun hc9 => ?_)
            · have hk9 : k = yva := by have := (nI_leI (a := yva) (b := k) (by omega) (by omega)).mp hc9; omega
              refine lv_lload_n hx hb dX4_aliveBehind_77 rfl (lv_at hl 1 rfl) ?_
              have hP9 := hP.sub (ws' := [(lo0, .inr (4, [.ref y, .ref c0, .ref e0, .ref f0, .ref lu, .ref la, .ref lh, .ref lr, .ref lc, .ref lt, .int (nI tn), .ref lp, .ref lb0, .ref ln0, .long lsh, .int vir, .int vag, .int vfi])), (f0, .inr (2, [.int ytk, .int ybd, .int (nI ylv), .ref fl0, .int (nI ypr), .ref fl1, .int yac, .int yrs, .int yrl, .int (nI yva), .ref fv0, .ref fv1, .ref fv2, .ref fv3, .ref fv4, .ref fv5, .int ycl, .int ycf, .int yct, .int ylf, .int ylt, .int ybo])), (lt, .inl (kL, 512, .inr (.inl ft))), (lu, .inl (kL, 6000, .inr (.inl ub))), (lh, .inl (kL, 40, .inr (.inl hd)))]) [0, 1, 2, 3, 4] rfl
              have hD9 := hD.sub (ws' := [(lo0, .inr (4, [.ref y, .ref c0, .ref e0, .ref f0, .ref lu, .ref la, .ref lh, .ref lr, .ref lc, .ref lt, .int (nI tn), .ref lp, .ref lb0, .ref ln0, .long lsh, .int vir, .int vag, .int vfi])), (f0, .inr (2, [.int ytk, .int ybd, .int (nI ylv), .ref fl0, .int (nI ypr), .ref fl1, .int yac, .int yrs, .int yrl, .int (nI yva), .ref fv0, .ref fv1, .ref fv2, .ref fv3, .ref fv4, .ref fv5, .int ycl, .int ycf, .int yct, .int ylf, .int ylt, .int ybo])), (lt, .inl (kL, 512, .inr (.inl ft))), (lu, .inl (kL, 6000, .inr (.inl ub))), (lh, .inl (kL, 40, .inr (.inl hd)))]) [0, 1, 2, 3, 4] (by decide) rfl
              have hK9 := hK.sub (tys' := [(kL, .long)]) [0] rfl
              subst hQ2
              subst hQ1
              exact W.lret (v := zz) hx hb hr (fun tS ht hW => ⟨⟨zz, (), rfl, (by rw [← hk9]; exact hc1), by rw [ht]; exact hP9, va_K.moved hW.alike hK9, hD9⟩, hS.F ht⟩) hS.2.2 dX4_aliveBehind_78
            · have hk9 : k < yva := by rcases Nat.lt_or_ge k yva with y9 | y9; exact y9; exact absurd (nI_le y9 (by omega)) hc9
              refine lv_aload_n hx hb dX4_aliveBehind_45 rfl (lv_at hl 2 rfl) ?_
              refine va_get (D := (dC, dI)) (ci := 4) (v := .ref lu) (C := RX4) (T := TX4) (N := 18) hx hb hts in_c_alive_X4 hown hK hP 0 rfl rfl 4 (by decide) (hts (.fieldLink RX4 9 "OwnedPlaces$Loans" "usedBehind" "[J") (wm_c_alive 5 rfl)) (fun _ h9 => h9) rfl dX4_aliveBehind_46 ?_
              refine lv_iload_n hx hb dX4_aliveBehind_49 rfl (lv_at hl 3 rfl) ?_
              refine va_lald hx hb hK hP 3 0 rfl rfl (vp_in_nI hii (by decide)) dX4_aliveBehind_50 ?_
              refine lv_topl (fun v_1 ev_1 => ?_)
              obtain rfl : v_1 = ub ii := ev_1.trans (by rw [nI_clamp (by omega)])
              refine lv_iload hx hb dX4_aliveBehind_51 (lv_at hl 0 rfl) ?_
              obtain ⟨f_2, ef_2⟩ : ∃ yY : Int64, yY = ((ub ii : Int64).toUInt64 >>> ((nI k : Int32).toInt64.toUInt64 &&& Int64.toUInt64 63)).toInt64 := ⟨_, rfl⟩
              refine lv_lushr (v := f_2) hx hb dX4_aliveBehind_53 ef_2.symm ?_
              refine lv_lconst (v := 1) hx hb dX4_aliveBehind_54 (by decide) ?_
              refine lv_land hx hb dX4_aliveBehind_55 ?_
              refine lv_topl (fun f_3 ef_3 => ?_)
              refine lv_lconst (v := 1) hx hb dX4_aliveBehind_56 (by decide) ?_
              refine W.lcmp hx hb dX4_aliveBehind_57 ?_
              refine lv_topi (fun f_4 ef_4 => ?_)
              have hB9 : f_4 = usB (ub ii) k := by rw [ef_4, ef_3, ef_2]; rfl
              refine lv_if_ne (tgt := 71) hx hb dX4_aliveBehind_58 (by decide) (fun hne => ?_) (fun hne => ?_)
              · have hz9 : zz = orV (ub ii) hd (orT ft tn) (k + 1) := by show zz = if usB (ub ii) k = 0 then _ else _; rw [if_neg (fun q => hne (hB9.trans q))]; exact hc1
                obtain ⟨x_5, ex_5⟩ : ∃ yY : Int32, yY = (nI k) + 1 := ⟨_, rfl⟩
                refine lv_iinc (v := x_5) (lv' := [(4, .int x_5), (2, .long zz), (0, .ref lo0), (1, .int (nI ii))]) hx hb dX4_aliveBehind_71 hl (k := 0) rfl (by rw [ex_5]; rfl) (by decide) rfl (fun ls hl => ?_)
                obtain rfl : x_5 = nI (k + 1) := by rw [ex_5]; exact nI_1 k
                have hl : lv_has ls 5 [(4, .int (nI (k + 1))), (2, .long zz), (0, .ref lo0), (1, .int (nI ii))] := hl
                refine lv_goto (tgt := 33) hx hb dX4_aliveBehind_74 (by decide) ?_
                exact ih2 (k + 1) zz _ _ _ (by omega) hz9 (hP.sub [0, 1, 2, 3, 4] rfl) (hD.sub [0, 1, 2, 3, 4] (by decide) rfl) hS (lv_sub hl [0, 1, 2, 3] rfl)
              · refine lv_lload_n hx hb dX4_aliveBehind_61 rfl (lv_at hl 1 rfl) ?_
                refine lv_aload_n hx hb dX4_aliveBehind_62 rfl (lv_at hl 2 rfl) ?_
                refine va_get (D := (dC, dI)) (ci := 4) (v := .ref lh) (C := RX4) (T := TX4) (N := 18) hx hb hts in_c_alive_X4 hown hK hP 0 rfl rfl 6 (by decide) (hts (.fieldLink RX4 18 "OwnedPlaces$Loans" "held" "[J") (wm_c_alive 6 rfl)) (fun _ h9 => h9) rfl dX4_aliveBehind_63 ?_
                refine lv_iload hx hb dX4_aliveBehind_66 (lv_at hl 0 rfl) ?_
                refine va_lald hx hb hK hP 4 0 rfl rfl (vp_in_nI (by omega) (by decide)) dX4_aliveBehind_68 ?_
                refine lv_topl (fun v_5 ev_5 => ?_)
                have h1 : v_5 = hd k := ev_5.trans (by rw [nI_clamp (by omega)])
                refine lv_lor hx hb dX4_aliveBehind_69 ?_
                refine lv_topl (fun f_6 ef_6 => ?_)
                have hz9 : f_6 = orV (ub ii) hd (orT ft tn) (k + 1) := by show _ = if usB (ub ii) k = 0 then _ else _; rw [if_pos (hB9.symm.trans hne), ef_6, h1, hc1]
                refine lv_lstore_n (lv' := [(2, .long f_6), (4, .int (nI k)), (0, .ref lo0), (1, .int (nI ii))]) hx hb dX4_aliveBehind_70 rfl hl (by decide) rfl (fun ls hl => ?_)
                obtain ⟨x_7, ex_7⟩ : ∃ yY : Int32, yY = (nI k) + 1 := ⟨_, rfl⟩
                refine lv_iinc (v := x_7) (lv' := [(4, .int x_7), (2, .long f_6), (0, .ref lo0), (1, .int (nI ii))]) hx hb dX4_aliveBehind_71 hl (k := 1) rfl (by rw [ex_7]; rfl) (by decide) rfl (fun ls hl => ?_)
                obtain rfl : x_7 = nI (k + 1) := by rw [ex_7]; exact nI_1 k
                have hl : lv_has ls 5 [(4, .int (nI (k + 1))), (2, .long f_6), (0, .ref lo0), (1, .int (nI ii))] := hl
                refine lv_goto (tgt := 33) hx hb dX4_aliveBehind_74 (by decide) ?_
                exact ih2 (k + 1) f_6 _ _ _ (by omega) hz9 (hP.sub [0, 1, 2, 3, 4] rfl) (hD.sub [0, 1, 2, 3, 4] (by decide) rfl) hS (lv_sub hl [0, 1, 2, 3] rfl)
        exact key2 (yva + 1) 0 xx _ _ _ (by omega) hb1 (hP.sub [0, 1, 2, 3, 4] rfl) (hD.sub [0, 1, 2, 3, 4] (by decide) rfl) hS (lv_sub hl [0, 1, 2, 3] rfl)
      · have hi9 : i < tn := by rcases Nat.lt_or_ge i tn with y9 | y9; exact y9; exact absurd (nI_le y9 (by omega)) hc1
        refine lv_lload_n hx hb dX4_aliveBehind_14 rfl (lv_at hl 1 rfl) ?_
        refine lv_aload_n hx hb dX4_aliveBehind_15 rfl (lv_at hl 2 rfl) ?_
        refine va_get (D := (dC, dI)) (ci := 4) (v := .ref lt) (C := RX4) (T := TX4) (N := 18) hx hb hts in_c_alive_X4 hown hK hP 0 rfl rfl 9 (by decide) (hts (.fieldLink RX4 29 "OwnedPlaces$Loans" "temps" "[J") (wm_c_alive 2 rfl)) (fun _ h9 => h9) rfl dX4_aliveBehind_16 ?_
        refine lv_iload hx hb dX4_aliveBehind_19 (lv_at hl 0 rfl) ?_
        refine va_lald hx hb hK hP 2 0 rfl rfl (vp_in_nI (by omega) (by decide)) dX4_aliveBehind_21 ?_
        refine lv_topl (fun v_1 ev_1 => ?_)
        have h1 : v_1 = ft i := ev_1.trans (by rw [nI_clamp (by omega)])
        refine lv_lor hx hb dX4_aliveBehind_22 ?_
        refine lv_topl (fun f_2 ef_2 => ?_)
        have hf9 : f_2 = orT ft (i + 1) := by rw [ef_2, h1, hb1]; rfl
        refine lv_lstore_n (lv' := [(2, .long f_2), (4, .int (nI i)), (0, .ref lo0), (1, .int (nI ii))]) hx hb dX4_aliveBehind_23 rfl hl (by decide) rfl (fun ls hl => ?_)
        obtain ⟨x_3, ex_3⟩ : ∃ yY : Int32, yY = (nI i) + 1 := ⟨_, rfl⟩
        refine lv_iinc (v := x_3) (lv' := [(4, .int x_3), (2, .long f_2), (0, .ref lo0), (1, .int (nI ii))]) hx hb dX4_aliveBehind_24 hl (k := 1) rfl (by rw [ex_3]; rfl) (by decide) rfl (fun ls hl => ?_)
        obtain rfl : x_3 = nI (i + 1) := by rw [ex_3]; exact nI_1 i
        have hl : lv_has ls 5 [(4, .int (nI (i + 1))), (2, .long f_2), (0, .ref lo0), (1, .int (nI ii))] := hl
        refine lv_goto (tgt := 5) hx hb dX4_aliveBehind_27 (by decide) ?_
        exact ih1 (i + 1) f_2 _ _ _ (by omega) hf9 (hP.sub [0, 1, 2, 3, 4] rfl) (hD.sub [0, 1, 2, 3, 4] (by decide) rfl) hS (lv_sub hl [0, 1, 2, 3] rfl)
  exact key1 (tn + 1) 0 0 _ _ _ (by omega) rfl (hP.sub [0, 1, 2, 3, 4] rfl) (hD.sub [0, 1, 2, 3, 4] (by decide) rfl) hS (lv_sub hl [0, 1, 2, 3] rfl)
end
-- b1.loans.lean.txt
section
/-- what tells two places of one variable apart; 0: one lies on the other's way -/
def ovB (l1 l2 p1 p2 : Int32) : Int32 := (p1 ^^^ p2) &&& (((1 : Int32) <<< ((4 * (if l2 < l1 then l2 else l1)) &&& 31)) - 1)
def wf_c_overlap : List Cond := [.code yX4_overlap cX4_overlap 5 (some .boolean), .fieldLink RX4 46 "OwnedPlaces$Loans" "code" "LOwnedPlaces$Code;", .fieldLink RX4 139 "OwnedPlaces$Code" "placeLength" "[I", .methodLink RX4 246 Lib.Math.min.name, .static Lib.Math.min.name, .initialized "java/lang/Math", .code Lib.Math.min.name Lib.Math.min.code 2 (some .int), .fieldLink RX4 252 "OwnedPlaces$Code" "placePath" "[I"]
def wp_c_overlap : List Cond := wf_c_overlap ++ (wsX40 ++ (wsX00 ++ []))
theorem in_c_overlap_X4 : ∀ w ∈ wsX40, w ∈ wp_c_overlap := fun w h => List.mem_append_right _ (List.mem_append_left _ h)
theorem in_c_overlap_X0 : ∀ w ∈ wsX00, w ∈ wp_c_overlap := fun w h => List.mem_append_right _ (List.mem_append_right _ (List.mem_append_left _ h))
theorem wg_c_overlap : wf_c_overlap.all goodWord = true := by decide +kernel
theorem wm_c_overlap (k : Nat) {w : Cond} (h : wp_c_overlap[k]? = some w) : w ∈ wp_c_overlap := List.mem_of_getElem? h
set_option maxHeartbeats 4000000 in
set_option maxRecDepth 100000 in
theorem c_overlap (l : Launch) (dC : Nat → ClassId) (dI : Nat → Nat → Nat) (lo0 y e0 f0 lu la lh lr lc lt lp lb0 ln0 : Nat) (lsh : Int64) (vir vag vfi : Int32) (tn : Nat) (c0 co ca cb c3 cw cl cpv cpp cpl cpr cpt cpw cpc car : Nat) (ct cb9 cp9 ca9 : Nat) (kI : ClassId) (pa pb : Nat) (fpl fpp : Nat → Int32) (sz : Nat) (hpa : pa < 3002) (hpb : pb < 3002) : Met l yX4_overlap wp_c_overlap ({ frames := 1, cells := 0, slots := 0, locals := 13 }) (va_Pc [.ref lo0, .int (nI pa), .int (nI pb)] (fun U => U.heap.size = sz ∧ va_P (dC, dI) vwCl [(lo0, .inr (4, [.ref y, .ref c0, .ref e0, .ref f0, .ref lu, .ref la, .ref lh, .ref lr, .ref lc, .ref lt, .int (nI tn), .ref lp, .ref lb0, .ref ln0, .long lsh, .int vir, .int vag, .int vfi])), (c0, .inr (0, [.ref co, .ref ca, .ref cb, .ref c3, .ref cw, .int (nI ct), .ref cl, .int (nI cb9), .ref cpv, .ref cpp, .ref cpl, .ref cpr, .ref cpt, .ref cpw, .ref cpc, .int (nI cp9), .ref car, .int (nI ca9)])), (cpl, .inl (kI, 3002, .inl fpl)), (cpp, .inl (kI, 3002, .inl fpp))] U.heap ∧ va_K (dC, dI) vwCl [(kI, .int)] U ∧ va_D (fun _ => True) [(lo0, .inr (4, [.ref y, .ref c0, .ref e0, .ref f0, .ref lu, .ref la, .ref lh, .ref lr, .ref lc, .ref lt, .int (nI tn), .ref lp, .ref lb0, .ref ln0, .long lsh, .int vir, .int vag, .int vfi])), (c0, .inr (0, [.ref co, .ref ca, .ref cb, .ref c3, .ref cw, .int (nI ct), .ref cl, .int (nI cb9), .ref cpv, .ref cpp, .ref cpl, .ref cpr, .ref cpt, .ref cpw, .ref cpc, .int (nI cp9), .ref car, .int (nI ca9)])), (cpl, .inl (kI, 3002, .inl fpl)), (cpp, .inl (kI, 3002, .inl fpp))])) (va_Qi (fun (r : Int32) (_ : Unit) => (r = 1 ∧ ovB (fpl pa) (fpl pb) (fpp pa) (fpp pb) = 0) ∨ (r = 0 ∧ ovB (fpl pa) (fpl pb) (fpp pa) (fpp pb) ≠ 0)) (fun (_ : Unit) (tS : State) => va_P (dC, dI) vwCl [(lo0, .inr (4, [.ref y, .ref c0, .ref e0, .ref f0, .ref lu, .ref la, .ref lh, .ref lr, .ref lc, .ref lt, .int (nI tn), .ref lp, .ref lb0, .ref ln0, .long lsh, .int vir, .int vag, .int vfi])), (c0, .inr (0, [.ref co, .ref ca, .ref cb, .ref c3, .ref cw, .int (nI ct), .ref cl, .int (nI cb9), .ref cpv, .ref cpp, .ref cpl, .ref cpr, .ref cpt, .ref cpw, .ref cpc, .int (nI cp9), .ref car, .int (nI ca9)])), (cpl, .inl (kI, 3002, .inl fpl)), (cpp, .inl (kI, 3002, .inl fpp))] tS.heap ∧ va_K (dC, dI) vwCl [(kI, .int)] tS ∧ va_D (va_A [(lo0, .inr (4, [.ref y, .ref c0, .ref e0, .ref f0, .ref lu, .ref la, .ref lh, .ref lr, .ref lc, .ref lt, .int (nI tn), .ref lp, .ref lb0, .ref ln0, .long lsh, .int vir, .int vag, .int vfi])), (c0, .inr (0, [.ref co, .ref ca, .ref cb, .ref c3, .ref cw, .int (nI ct), .ref cl, .int (nI cb9), .ref cpv, .ref cpp, .ref cpl, .ref cpr, .ref cpt, .ref cpw, .ref cpc, .int (nI cp9), .ref car, .int (nI ca9)])), (cpl, .inl (kI, 3002, .inl fpl)), (cpp, .inl (kI, 3002, .inl fpp))] sz) [(lo0, .inr (4, [.ref y, .ref c0, .ref e0, .ref f0, .ref lu, .ref la, .ref lh, .ref lr, .ref lc, .ref lt, .int (nI tn), .ref lp, .ref lb0, .ref ln0, .long lsh, .int vir, .int vag, .int vfi])), (c0, .inr (0, [.ref co, .ref ca, .ref cb, .ref c3, .ref cw, .int (nI ct), .ref cl, .int (nI cb9), .ref cpv, .ref cpp, .ref cpl, .ref cpr, .ref cpt, .ref cpw, .ref cpc, .int (nI cp9), .ref car, .int (nI ca9)])), (cpl, .inl (kI, 3002, .inl fpl)), (cpp, .inl (kI, 3002, .inl fpp))]) (va_A [(lo0, .inr (4, [.ref y, .ref c0, .ref e0, .ref f0, .ref lu, .ref la, .ref lh, .ref lr, .ref lc, .ref lt, .int (nI tn), .ref lp, .ref lb0, .ref ln0, .long lsh, .int vir, .int vag, .int vfi])), (c0, .inr (0, [.ref co, .ref ca, .ref cb, .ref c3, .ref cw, .int (nI ct), .ref cl, .int (nI cb9), .ref cpv, .ref cpp, .ref cpl, .ref cpr, .ref cpt, .ref cpw, .ref cpc, .int (nI cp9), .ref car, .int (nI ca9)])), (cpl, .inl (kI, 3002, .inl fpl)), (cpp, .inl (kI, 3002, .inl fpp))] sz)) 0 0 (va_A [(lo0, .inr (4, [.ref y, .ref c0, .ref e0, .ref f0, .ref lu, .ref la, .ref lh, .ref lr, .ref lc, .ref lt, .int (nI tn), .ref lp, .ref lb0, .ref ln0, .long lsh, .int vir, .int vag, .int vfi])), (c0, .inr (0, [.ref co, .ref ca, .ref cb, .ref c3, .ref cw, .int (nI ct), .ref cl, .int (nI cb9), .ref cpv, .ref cpp, .ref cpl, .ref cpr, .ref cpt, .ref cpw, .ref cpc, .int (nI cp9), .ref car, .int (nI ca9)])), (cpl, .inl (kI, 3002, .inl fpl)), (cpp, .inl (kI, 3002, .inl fpp))] sz) := by
  refine Met.ofW (cc := cX4_overlap) (maxL := 5) (ret := (some .boolean)) (by decide) rfl ?_
  intro p e s m args below meth c s₁ B hml hv
  obtain ⟨rfl, hsz, hP, hK, hD0⟩ := hv
  have hx := B.exec
  have hb := B.bytes
  have hr := B.returns
  have hts := atoms_spec (ws := wp_c_overlap) B.pre
  have hown : s.vm.findClass RX4 = some m.cls := findClass_of_methodNamed B.named
  have hlocks := B.notSynchronized
  subst hsz
  have hD := hD0.self (sz := s.heap.size)
  generalize hAe : va_A [(lo0, .inr (4, [.ref y, .ref c0, .ref e0, .ref f0, .ref lu, .ref la, .ref lh, .ref lr, .ref lc, .ref lt, .int (nI tn), .ref lp, .ref lb0, .ref ln0, .long lsh, .int vir, .int vag, .int vfi])), (c0, .inr (0, [.ref co, .ref ca, .ref cb, .ref c3, .ref cw, .int (nI ct), .ref cl, .int (nI cb9), .ref cpv, .ref cpp, .ref cpl, .ref cpr, .ref cpt, .ref cpw, .ref cpc, .int (nI cp9), .ref car, .int (nI ca9)])), (cpl, .inl (kI, 3002, .inl fpl)), (cpp, .inl (kI, 3002, .inl fpp))] s.heap.size = A at hD ⊢
  have hA : ∀ q : Nat, s.heap.size ≤ q → A q := fun q h => by rw [← hAe]; exact Or.inr h
  have hS : va_S A s.heap s.heap [] := va_S.rf
  have hP : va_P (dC, dI) vwCl [(lo0, .inr (4, [.ref y, .ref c0, .ref e0, .ref f0, .ref lu, .ref la, .ref lh, .ref lr, .ref lc, .ref lt, .int (nI tn), .ref lp, .ref lb0, .ref ln0, .long lsh, .int vir, .int vag, .int vfi])), (c0, .inr (0, [.ref co, .ref ca, .ref cb, .ref c3, .ref cw, .int (nI ct), .ref cl, .int (nI cb9), .ref cpv, .ref cpp, .ref cpl, .ref cpr, .ref cpt, .ref cpw, .ref cpc, .int (nI cp9), .ref car, .int (nI ca9)])), (cpl, .inl (kI, 3002, .inl fpl)), (cpp, .inl (kI, 3002, .inl fpp))] s.heap := hP
  have hl := lv_entry ([.ref lo0, .int (nI pa), .int (nI pb)]) (n := 5) (Nat.le_of_ble_eq_true rfl)
  rw [lg_entry_eq]
  generalize (lg_sl ([.ref lo0, .int (nI pa), .int (nI pb)]) ++ List.replicate (5 - (lg_sl ([.ref lo0, .int (nI pa), .int (nI pb)])).length) Slot.unset).toArray = ls at hl ⊢
  have hl : lv_has ls 5 [(0, .ref lo0), (1, .int (nI pa)), (2, .int (nI pb))] := hl
  refine lv_aload_n hx hb dX4_overlap_0 rfl (lv_at hl 0 rfl) ?_
  refine va_get (D := (dC, dI)) (ci := 4) (v := .ref c0) (C := RX4) (T := TX4) (N := 18) hx hb hts in_c_overlap_X4 hown hK hP 0 rfl rfl 1 (by decide) (hts (.fieldLink RX4 46 "OwnedPlaces$Loans" "code" "LOwnedPlaces$Code;") (wm_c_overlap 1 rfl)) (fun _ h9 => h9) rfl dX4_overlap_1 ?_
  refine va_get (D := (dC, dI)) (ci := 0) (v := .ref cpl) (C := RX0) (T := TX0) (N := 18) hx hb hts in_c_overlap_X0 hown hK hP 1 rfl rfl 10 (by decide) (hts (.fieldLink RX4 139 "OwnedPlaces$Code" "placeLength" "[I") (wm_c_overlap 2 rfl)) (fun _ h9 => h9) rfl dX4_overlap_4 ?_
  refine lv_iload_n hx hb dX4_overlap_7 rfl (lv_at hl 1 rfl) ?_
  refine va_iald hx hb hK hP 2 0 rfl rfl (vp_in_nI hpa (by decide)) dX4_overlap_8 ?_
  refine lv_topi (fun v_1 ev_1 => ?_)
  obtain rfl : v_1 = fpl pa := ev_1.trans (by rw [nI_clamp (by omega)])
  refine lv_aload_n hx hb dX4_overlap_9 rfl (lv_at hl 0 rfl) ?_
  refine va_get (D := (dC, dI)) (ci := 4) (v := .ref c0) (C := RX4) (T := TX4) (N := 18) hx hb hts in_c_overlap_X4 hown hK hP 0 rfl rfl 1 (by decide) (hts (.fieldLink RX4 46 "OwnedPlaces$Loans" "code" "LOwnedPlaces$Code;") (wm_c_overlap 1 rfl)) (fun _ h9 => h9) rfl dX4_overlap_10 ?_
  refine va_get (D := (dC, dI)) (ci := 0) (v := .ref cpl) (C := RX0) (T := TX0) (N := 18) hx hb hts in_c_overlap_X0 hown hK hP 1 rfl rfl 10 (by decide) (hts (.fieldLink RX4 139 "OwnedPlaces$Code" "placeLength" "[I") (wm_c_overlap 2 rfl)) (fun _ h9 => h9) rfl dX4_overlap_13 ?_
  refine lv_iload_n hx hb dX4_overlap_16 rfl (lv_at hl 2 rfl) ?_
  refine va_iald hx hb hK hP 2 0 rfl rfl (vp_in_nI hpb (by decide)) dX4_overlap_17 ?_
  refine lv_topi (fun v_2 ev_2 => ?_)
  obtain rfl : v_2 = fpl pb := ev_2.trans (by rw [nI_clamp (by omega)])
  refine va_mmin hx hb (by rw [hml]; exact hl.1.symm) hown (hts (.methodLink RX4 246 Lib.Math.min.name) (wm_c_overlap 3 rfl)) (hts (.static Lib.Math.min.name) (wm_c_overlap 4 rfl)) (hts (.initialized "java/lang/Math") (wm_c_overlap 5 rfl)) (hts (.code Lib.Math.min.name Lib.Math.min.code 2 (some .int)) (wm_c_overlap 6 rfl)) (Nat.le_of_ble_eq_true rfl) (Nat.le_of_ble_eq_true rfl) (Nat.zero_le _) (Nat.zero_le _) dX4_overlap_18 ?_
  refine lv_topi (fun f_3 ef_3 => ?_)
  refine lv_istore_n (lv' := [(3, .int f_3), (0, .ref lo0), (1, .int (nI pa)), (2, .int (nI pb))]) hx hb dX4_overlap_21 rfl hl (by decide) rfl (fun ls hl => ?_)
  refine lv_iconst (v := 1) hx hb dX4_overlap_22 (by decide) ?_
  refine lv_iconst (v := 4) hx hb dX4_overlap_23 (by decide) ?_
  refine lv_iload_n hx hb dX4_overlap_24 rfl (lv_at hl 0 rfl) ?_
  refine lv_imul hx hb dX4_overlap_25 ?_
  refine lv_topi (fun f_4 ef_4 => ?_)
  refine lv_ishl hx hb dX4_overlap_26 ?_
  refine lv_topi (fun f_5 ef_5 => ?_)
  refine lv_iconst (v := 1) hx hb dX4_overlap_27 (by decide) ?_
  refine lv_isub hx hb dX4_overlap_28 ?_
  refine lv_topi (fun f_6 ef_6 => ?_)
  refine lv_istore (lv' := [(4, .int f_6), (3, .int f_3), (0, .ref lo0), (1, .int (nI pa)), (2, .int (nI pb))]) hx hb dX4_overlap_29 hl (by decide) rfl (fun ls hl => ?_)
  refine lv_aload_n hx hb dX4_overlap_31 rfl (lv_at hl 2 rfl) ?_
  refine va_get (D := (dC, dI)) (ci := 4) (v := .ref c0) (C := RX4) (T := TX4) (N := 18) hx hb hts in_c_overlap_X4 hown hK hP 0 rfl rfl 1 (by decide) (hts (.fieldLink RX4 46 "OwnedPlaces$Loans" "code" "LOwnedPlaces$Code;") (wm_c_overlap 1 rfl)) (fun _ h9 => h9) rfl dX4_overlap_32 ?_
  refine va_get (D := (dC, dI)) (ci := 0) (v := .ref cpp) (C := RX0) (T := TX0) (N := 18) hx hb hts in_c_overlap_X0 hown hK hP 1 rfl rfl 9 (by decide) (hts (.fieldLink RX4 252 "OwnedPlaces$Code" "placePath" "[I") (wm_c_overlap 7 rfl)) (fun _ h9 => h9) rfl dX4_overlap_35 ?_
  refine lv_iload_n hx hb dX4_overlap_38 rfl (lv_at hl 3 rfl) ?_
  refine va_iald hx hb hK hP 3 0 rfl rfl (vp_in_nI hpa (by decide)) dX4_overlap_39 ?_
  refine lv_topi (fun v_7 ev_7 => ?_)
  obtain rfl : v_7 = fpp pa := ev_7.trans (by rw [nI_clamp (by omega)])
  refine lv_aload_n hx hb dX4_overlap_40 rfl (lv_at hl 2 rfl) ?_
  refine va_get (D := (dC, dI)) (ci := 4) (v := .ref c0) (C := RX4) (T := TX4) (N := 18) hx hb hts in_c_overlap_X4 hown hK hP 0 rfl rfl 1 (by decide) (hts (.fieldLink RX4 46 "OwnedPlaces$Loans" "code" "LOwnedPlaces$Code;") (wm_c_overlap 1 rfl)) (fun _ h9 => h9) rfl dX4_overlap_41 ?_
  refine va_get (D := (dC, dI)) (ci := 0) (v := .ref cpp) (C := RX0) (T := TX0) (N := 18) hx hb hts in_c_overlap_X0 hown hK hP 1 rfl rfl 9 (by decide) (hts (.fieldLink RX4 252 "OwnedPlaces$Code" "placePath" "[I") (wm_c_overlap 7 rfl)) (fun _ h9 => h9) rfl dX4_overlap_44 ?_
  refine lv_iload_n hx hb dX4_overlap_47 rfl (lv_at hl 4 rfl) ?_
  refine va_iald hx hb hK hP 3 0 rfl rfl (vp_in_nI hpb (by decide)) dX4_overlap_48 ?_
  refine lv_topi (fun v_8 ev_8 => ?_)
  obtain rfl : v_8 = fpp pb := ev_8.trans (by rw [nI_clamp (by omega)])
  refine lv_ixor hx hb dX4_overlap_49 ?_
  refine lv_topi (fun f_9 ef_9 => ?_)
  refine lv_iload hx hb dX4_overlap_50 (lv_at hl 0 rfl) ?_
  refine lv_iand hx hb dX4_overlap_52 ?_
  refine lv_topi (fun f_10 ef_10 => ?_)
  have hO : f_10 = ovB (fpl pa) (fpl pb) (fpp pa) (fpp pb) := by rw [ef_10, ef_9, ef_6, ef_5, ef_4, ef_3]; rfl
  refine lv_if_ne (tgt := 60) hx hb dX4_overlap_53 (by decide) (fun hne => ?_) (fun hne => ?_)
  · refine lv_iconst (v := 0) hx hb dX4_overlap_60 (by decide) ?_
    have hP9 := hP.sub (ws' := [(lo0, .inr (4, [.ref y, .ref c0, .ref e0, .ref f0, .ref lu, .ref la, .ref lh, .ref lr, .ref lc, .ref lt, .int (nI tn), .ref lp, .ref lb0, .ref ln0, .long lsh, .int vir, .int vag, .int vfi])), (c0, .inr (0, [.ref co, .ref ca, .ref cb, .ref c3, .ref cw, .int (nI ct), .ref cl, .int (nI cb9), .ref cpv, .ref cpp, .ref cpl, .ref cpr, .ref cpt, .ref cpw, .ref cpc, .int (nI cp9), .ref car, .int (nI ca9)])), (cpl, .inl (kI, 3002, .inl fpl)), (cpp, .inl (kI, 3002, .inl fpp))]) [0, 1, 2, 3] rfl
    have hD9 := hD.sub (ws' := [(lo0, .inr (4, [.ref y, .ref c0, .ref e0, .ref f0, .ref lu, .ref la, .ref lh, .ref lr, .ref lc, .ref lt, .int (nI tn), .ref lp, .ref lb0, .ref ln0, .long lsh, .int vir, .int vag, .int vfi])), (c0, .inr (0, [.ref co, .ref ca, .ref cb, .ref c3, .ref cw, .int (nI ct), .ref cl, .int (nI cb9), .ref cpv, .ref cpp, .ref cpl, .ref cpr, .ref cpt, .ref cpw, .ref cpc, .int (nI cp9), .ref car, .int (nI ca9)])), (cpl, .inl (kI, 3002, .inl fpl)), (cpp, .inl (kI, 3002, .inl fpp))]) [0, 1, 2, 3] (by decide) rfl
    have hK9 := hK.sub (tys' := [(kI, .int)]) [0] rfl
    exact W.zret (v := 0) hx hb hr (by decide) (fun tS ht hW => ⟨⟨0, (), rfl, (Or.inr ⟨rfl, fun q => hne (hO.trans q)⟩), by rw [ht]; exact hP9, va_K.moved hW.alike hK9, hD9⟩, hS.F ht⟩) hS.2.2 dX4_overlap_61
  · refine lv_iconst (v := 1) hx hb dX4_overlap_56 (by decide) ?_
    refine lv_goto (tgt := 61) hx hb dX4_overlap_57 (by decide) ?_
    have hP9 := hP.sub (ws' := [(lo0, .inr (4, [.ref y, .ref c0, .ref e0, .ref f0, .ref lu, .ref la, .ref lh, .ref lr, .ref lc, .ref lt, .int (nI tn), .ref lp, .ref lb0, .ref ln0, .long lsh, .int vir, .int vag, .int vfi])), (c0, .inr (0, [.ref co, .ref ca, .ref cb, .ref c3, .ref cw, .int (nI ct), .ref cl, .int (nI cb9), .ref cpv, .ref cpp, .ref cpl, .ref cpr, .ref cpt, .ref cpw, .ref cpc, .int (nI cp9), .ref car, .int (nI ca9)])), (cpl, .inl (kI, 3002, .inl fpl)), (cpp, .inl (kI, 3002, .inl fpp))]) [0, 1, 2, 3] rfl
    have hD9 := hD.sub (ws' := [(lo0, .inr (4, [.ref y, .ref c0, .ref e0, .ref f0, .ref lu, .ref la, .ref lh, .ref lr, .ref lc, .ref lt, .int (nI tn), .ref lp, .ref lb0, .ref ln0, .long lsh, .int vir, .int vag, .int vfi])), (c0, .inr (0, [.ref co, .ref ca, .ref cb, .ref c3, .ref cw, .int (nI ct), .ref cl, .int (nI cb9), .ref cpv, .ref cpp, .ref cpl, .ref cpr, .ref cpt, .ref cpw, .ref cpc, .int (nI cp9), .ref car, .int (nI ca9)])), (cpl, .inl (kI, 3002, .inl fpl)), (cpp, .inl (kI, 3002, .inl fpp))]) [0, 1, 2, 3] (by decide) rfl
    have hK9 := hK.sub (tys' := [(kI, .int)]) [0] rfl
    exact W.zret (v := 1) hx hb hr (by decide) (fun tS ht hW => ⟨⟨1, (), rfl, (Or.inl ⟨rfl, hO.symm.trans hne⟩), by rw [ht]; exact hP9, va_K.moved hW.alike hK9, hD9⟩, hS.F ht⟩) hS.2.2 dX4_overlap_61
end
