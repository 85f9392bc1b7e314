/-- k loans are taken off tn temps, and told together -/
def popF (ft : Nat → Int64) : Nat → Nat → Int64 → Nat × Int64
  | 0, tn, x => (tn, x)
  | _ + 1, 0, x => (0, x)
  | k + 1, tn + 1, x => popF ft k tn (x ||| ft tn)
theorem popF_0 {ft : Nat → Int64} {x : Int64} : ∀ k : Nat, popF ft k 0 x = (0, x)
  | 0 => rfl
  | _ + 1 => rfl
def wf_c_ltell : List Cond := [.code yX4_tell cX4_tell 2 none, .fieldLink RX4 58 "OwnedPlaces$Loans" "first" "I"]
def wp_c_ltell : List Cond := wf_c_ltell ++ (wsX40 ++ [])
theorem in_c_ltell_X4 : ∀ w ∈ wsX40, w ∈ wp_c_ltell := fun w h => List.mem_append_right _ (List.mem_append_left _ h)
theorem wg_c_ltell : wf_c_ltell.all goodWord = true := by decide +kernel
theorem wm_c_ltell (k : Nat) {w : Cond} (h : wp_c_ltell[k]? = some w) : w ∈ wp_c_ltell := List.mem_of_getElem? h
set_option maxHeartbeats 4000000 in
set_option maxRecDepth 100000 in
theorem c_ltell (l : Launch) (dC : Nat → ClassId) (dI : Nat → Nat → Nat) (lo0 y c0 e0 f0 lu la lh lr lc lt lp lb0 ln0 : Nat) (lsh : Int64) (vir vag vfi : Int32) (tn : Nat) (kL : ClassId) (ft : Nat → Int64) (x1 : Int32) (sz : Nat) : Met l yX4_tell wp_c_ltell ({ frames := 0, cells := 0, slots := 0, locals := 0 }) (va_Pc [.ref lo0, .int x1] (fun U => U.heap.size = sz ∧ va_P (dC, dI) vwCl [(lo0, .inr (4, [.ref y, .ref c0, .ref e0, .ref f0, .ref lu, .ref la, .ref lh, .ref lr, .ref lc, .ref lt, .int (nI tn), .ref lp, .ref lb0, .ref ln0, .long lsh, .int vir, .int vag, .int vfi]))] U.heap ∧ va_K (dC, dI) vwCl [] U ∧ va_D (fun _ => True) [(lo0, .inr (4, [.ref y, .ref c0, .ref e0, .ref f0, .ref lu, .ref la, .ref lh, .ref lr, .ref lc, .ref lt, .int (nI tn), .ref lp, .ref lb0, .ref ln0, .long lsh, .int vir, .int vag, .int vfi]))])) (va_Qv (fun _ : Unit => True) (fun (_ : Unit) (tS : State) => ∃ (fi2 : Int32), (fi2 = tlF vfi x1) ∧ va_P (dC, dI) vwCl [(lo0, .inr (4, [.ref y, .ref c0, .ref e0, .ref f0, .ref lu, .ref la, .ref lh, .ref lr, .ref lc, .ref lt, .int (nI tn), .ref lp, .ref lb0, .ref ln0, .long lsh, .int vir, .int vag, .int fi2]))] tS.heap ∧ va_K (dC, dI) vwCl [] tS ∧ va_D (va_A [(lo0, .inr (4, [.ref y, .ref c0, .ref e0, .ref f0, .ref lu, .ref la, .ref lh, .ref lr, .ref lc, .ref lt, .int (nI tn), .ref lp, .ref lb0, .ref ln0, .long lsh, .int vir, .int vag, .int vfi]))] sz) [(lo0, .inr (4, [.ref y, .ref c0, .ref e0, .ref f0, .ref lu, .ref la, .ref lh, .ref lr, .ref lc, .ref lt, .int (nI tn), .ref lp, .ref lb0, .ref ln0, .long lsh, .int vir, .int vag, .int fi2]))]) (va_A [(lo0, .inr (4, [.ref y, .ref c0, .ref e0, .ref f0, .ref lu, .ref la, .ref lh, .ref lr, .ref lc, .ref lt, .int (nI tn), .ref lp, .ref lb0, .ref ln0, .long lsh, .int vir, .int vag, .int vfi]))] sz)) 0 0 (va_A [(lo0, .inr (4, [.ref y, .ref c0, .ref e0, .ref f0, .ref lu, .ref la, .ref lh, .ref lr, .ref lc, .ref lt, .int (nI tn), .ref lp, .ref lb0, .ref ln0, .long lsh, .int vir, .int vag, .int vfi]))] sz) := by
  refine Met.ofW (cc := cX4_tell) (maxL := 2) (ret := none) (by decide) rfl ?_
  intro p e s m args below meth c s₁ B hml hv
  obtain ⟨rfl, hsz, hP, hK, hD0⟩ := hv
  have hx := B.exec
  have hb := B.bytes
  have hr := B.returns
  have hts := atoms_spec (ws := wp_c_ltell) B.pre
  have hown : s.vm.findClass RX4 = some m.cls := findClass_of_methodNamed B.named
  have hlocks := B.notSynchronized
  subst hsz
  have hD := hD0.self (sz := s.heap.size)
  generalize hAe : va_A [(lo0, .inr (4, [.ref y, .ref c0, .ref e0, .ref f0, .ref lu, .ref la, .ref lh, .ref lr, .ref lc, .ref lt, .int (nI tn), .ref lp, .ref lb0, .ref ln0, .long lsh, .int vir, .int vag, .int vfi]))] s.heap.size = A at hD ⊢
  have hA : ∀ q : Nat, s.heap.size ≤ q → A q := fun q h => by rw [← hAe]; exact Or.inr h
  have hS : va_S A s.heap s.heap [] := va_S.rf
  have hP : va_P (dC, dI) vwCl [(lo0, .inr (4, [.ref y, .ref c0, .ref e0, .ref f0, .ref lu, .ref la, .ref lh, .ref lr, .ref lc, .ref lt, .int (nI tn), .ref lp, .ref lb0, .ref ln0, .long lsh, .int vir, .int vag, .int vfi]))] s.heap := hP
  have hl := lv_entry ([.ref lo0, .int x1]) (n := 2) (Nat.le_of_ble_eq_true rfl)
  rw [lg_entry_eq]
  generalize (lg_sl ([.ref lo0, .int x1]) ++ List.replicate (2 - (lg_sl ([.ref lo0, .int x1])).length) Slot.unset).toArray = ls at hl ⊢
  have hl : lv_has ls 2 [(0, .ref lo0), (1, .int x1)] := hl
  refine lv_aload_n hx hb dX4_tell_0 rfl (lv_at hl 0 rfl) ?_
  refine va_get (D := (dC, dI)) (ci := 4) (v := .int vfi) (C := RX4) (T := TX4) (N := 18) hx hb hts in_c_ltell_X4 hown hK hP 0 rfl rfl 17 (by decide) (hts (.fieldLink RX4 58 "OwnedPlaces$Loans" "first" "I") (wm_c_ltell 1 rfl)) (fun _ h9 => h9) rfl dX4_tell_1 ?_
  refine lv_if_lt (tgt := 15) hx hb dX4_tell_4 (by decide) (fun hlt => ?_) (fun hlt => ?_)
  · refine lv_aload_n hx hb dX4_tell_15 rfl (lv_at hl 0 rfl) ?_
    refine lv_iload_n hx hb dX4_tell_16 rfl (lv_at hl 1 rfl) ?_
    refine va_put (D := (dC, dI)) (ci := 4) (v := .int x1) (ty := .int) (C := RX4) (T := TX4) (N := 18) hx hb hts in_c_ltell_X4 tyX4 tyX4_ok nmX4 hown hK hP hD hS 0 rfl rfl 17 (by decide) (hts (.fieldLink RX4 58 "OwnedPlaces$Loans" "first" "I") (wm_c_ltell 1 rfl)) (fun _ h9 => h9) rfl (by decide +kernel) rfl rfl (Nat.le_of_ble_eq_true rfl) dX4_tell_17 (fun H locs hP hD hS => ?_)
    have hP : va_P (dC, dI) vwCl [(lo0, .inr (4, [.ref y, .ref c0, .ref e0, .ref f0, .ref lu, .ref la, .ref lh, .ref lr, .ref lc, .ref lt, .int (nI tn), .ref lp, .ref lb0, .ref ln0, .long lsh, .int vir, .int vag, .int x1]))] H := hP
    have hD : va_D A [(lo0, .inr (4, [.ref y, .ref c0, .ref e0, .ref f0, .ref lu, .ref la, .ref lh, .ref lr, .ref lc, .ref lt, .int (nI tn), .ref lp, .ref lb0, .ref ln0, .long lsh, .int vir, .int vag, .int x1]))] := hD
    have hP9 := hP.sub (ws' := [(lo0, .inr (4, [.ref y, .ref c0, .ref e0, .ref f0, .ref lu, .ref la, .ref lh, .ref lr, .ref lc, .ref lt, .int (nI tn), .ref lp, .ref lb0, .ref ln0, .long lsh, .int vir, .int vag, .int x1]))]) [0] rfl
    have hD9 := hD.sub (ws' := [(lo0, .inr (4, [.ref y, .ref c0, .ref e0, .ref f0, .ref lu, .ref la, .ref lh, .ref lr, .ref lc, .ref lt, .int (nI tn), .ref lp, .ref lb0, .ref ln0, .long lsh, .int vir, .int vag, .int x1]))]) [0] (by decide) rfl
    have hK9 := hK.sub (tys' := []) [] rfl
    exact W.vret hx hb hr (fun tS ht hW => ⟨⟨(), rfl, trivial, x1, (if_pos hlt).symm, by rw [ht]; exact hP9, va_K.moved hW.alike hK9, hD9⟩, hS.F ht⟩) hS.2.2 dX4_tell_20
  · refine lv_iload_n hx hb dX4_tell_7 rfl (lv_at hl 1 rfl) ?_
    refine lv_aload_n hx hb dX4_tell_8 rfl (lv_at hl 0 rfl) ?_
    refine va_get (D := (dC, dI)) (ci := 4) (v := .int vfi) (C := RX4) (T := TX4) (N := 18) hx hb hts in_c_ltell_X4 hown hK hP 0 rfl rfl 17 (by decide) (hts (.fieldLink RX4 58 "OwnedPlaces$Loans" "first" "I") (wm_c_ltell 1 rfl)) (fun _ h9 => h9) rfl dX4_tell_9 ?_
    refine lv_icmp_ge (tgt := 20) hx hb dX4_tell_12 (by decide) (fun hge => ?_) (fun hge => ?_)
    · have hP9 := hP.sub (ws' := [(lo0, .inr (4, [.ref y, .ref c0, .ref e0, .ref f0, .ref lu, .ref la, .ref lh, .ref lr, .ref lc, .ref lt, .int (nI tn), .ref lp, .ref lb0, .ref ln0, .long lsh, .int vir, .int vag, .int vfi]))]) [0] rfl
      have hD9 := hD.sub (ws' := [(lo0, .inr (4, [.ref y, .ref c0, .ref e0, .ref f0, .ref lu, .ref la, .ref lh, .ref lr, .ref lc, .ref lt, .int (nI tn), .ref lp, .ref lb0, .ref ln0, .long lsh, .int vir, .int vag, .int vfi]))]) [0] (by decide) rfl
      have hK9 := hK.sub (tys' := []) [] rfl
      exact W.vret hx hb hr (fun tS ht hW => ⟨⟨(), rfl, trivial, vfi, by unfold tlF; rw [if_neg hlt, if_neg (Int32.not_lt.mpr hge)], by rw [ht]; exact hP9, va_K.moved hW.alike hK9, hD9⟩, hS.F ht⟩) hS.2.2 dX4_tell_20
    · refine lv_aload_n hx hb dX4_tell_15 rfl (lv_at hl 0 rfl) ?_
      refine lv_iload_n hx hb dX4_tell_16 rfl (lv_at hl 1 rfl) ?_
      refine va_put (D := (dC, dI)) (ci := 4) (v := .int x1) (ty := .int) (C := RX4) (T := TX4) (N := 18) hx hb hts in_c_ltell_X4 tyX4 tyX4_ok nmX4 hown hK hP hD hS 0 rfl rfl 17 (by decide) (hts (.fieldLink RX4 58 "OwnedPlaces$Loans" "first" "I") (wm_c_ltell 1 rfl)) (fun _ h9 => h9) rfl (by decide +kernel) rfl rfl (Nat.le_of_ble_eq_true rfl) dX4_tell_17 (fun H locs hP hD hS => ?_)
      have hP : va_P (dC, dI) vwCl [(lo0, .inr (4, [.ref y, .ref c0, .ref e0, .ref f0, .ref lu, .ref la, .ref lh, .ref lr, .ref lc, .ref lt, .int (nI tn), .ref lp, .ref lb0, .ref ln0, .long lsh, .int vir, .int vag, .int x1]))] H := hP
      have hD : va_D A [(lo0, .inr (4, [.ref y, .ref c0, .ref e0, .ref f0, .ref lu, .ref la, .ref lh, .ref lr, .ref lc, .ref lt, .int (nI tn), .ref lp, .ref lb0, .ref ln0, .long lsh, .int vir, .int vag, .int x1]))] := hD
      have hP9 := hP.sub (ws' := [(lo0, .inr (4, [.ref y, .ref c0, .ref e0, .ref f0, .ref lu, .ref la, .ref lh, .ref lr, .ref lc, .ref lt, .int (nI tn), .ref lp, .ref lb0, .ref ln0, .long lsh, .int vir, .int vag, .int x1]))]) [0] rfl
      have hD9 := hD.sub (ws' := [(lo0, .inr (4, [.ref y, .ref c0, .ref e0, .ref f0, .ref lu, .ref la, .ref lh, .ref lr, .ref lc, .ref lt, .int (nI tn), .ref lp, .ref lb0, .ref ln0, .long lsh, .int vir, .int vag, .int x1]))]) [0] (by decide) rfl
      have hK9 := hK.sub (tys' := []) [] rfl
      exact W.vret hx hb hr (fun tS ht hW => ⟨⟨(), rfl, trivial, x1, by unfold tlF; rw [if_neg hlt, if_pos (Int32.not_le.mp hge)], by rw [ht]; exact hP9, va_K.moved hW.alike hK9, hD9⟩, hS.F ht⟩) hS.2.2 dX4_tell_20
def wf_c_lpush : List Cond := [.code yX4_push cX4_push 3 none, .fieldLink RX4 154 "OwnedPlaces$Loans" "tempTotal" "I", .fieldLink RX4 29 "OwnedPlaces$Loans" "temps" "[J"]
def wp_c_lpush : List Cond := wf_c_lpush ++ (wsX40 ++ [])
theorem in_c_lpush_X4 : ∀ w ∈ wsX40, w ∈ wp_c_lpush := fun w h => List.mem_append_right _ (List.mem_append_left _ h)
theorem wg_c_lpush : wf_c_lpush.all goodWord = true := by decide +kernel
theorem wm_c_lpush (k : Nat) {w : Cond} (h : wp_c_lpush[k]? = some w) : w ∈ wp_c_lpush := List.mem_of_getElem? h
set_option maxHeartbeats 4000000 in
set_option maxRecDepth 100000 in
theorem c_lpush (l : Launch) (dC : Nat → ClassId) (dI : Nat → Nat → Nat) (lo0 y c0 e0 f0 lu la lh lr lc lt lp lb0 ln0 : Nat) (lsh : Int64) (vir vag vfi : Int32) (tn : Nat) (kL : ClassId) (ft : Nat → Int64) (xl : Int64) (sz : Nat) (htn : tn ≤ 512) : Met l yX4_push wp_c_lpush ({ frames := 0, cells := 0, slots := 0, locals := 0 }) (va_Pc [.ref lo0, .long xl] (fun U => U.heap.size = sz ∧ va_P (dC, dI) vwCl [(lo0, .inr (4, [.ref y, .ref c0, .ref e0, .ref f0, .ref lu, .ref la, .ref lh, .ref lr, .ref lc, .ref lt, .int (nI tn), .ref lp, .ref lb0, .ref ln0, .long lsh, .int vir, .int vag, .int vfi])), (lt, .inl (kL, 512, .inr (.inl ft)))] U.heap ∧ va_K (dC, dI) vwCl [(kL, .long)] U ∧ va_D (fun _ => True) [(lo0, .inr (4, [.ref y, .ref c0, .ref e0, .ref f0, .ref lu, .ref la, .ref lh, .ref lr, .ref lc, .ref lt, .int (nI tn), .ref lp, .ref lb0, .ref ln0, .long lsh, .int vir, .int vag, .int vfi])), (lt, .inl (kL, 512, .inr (.inl ft)))])) (va_Qv (fun _ : Unit => True) (fun (_ : Unit) (tS : State) => ∃ (tn2 : Nat) (gt : Nat → Int64), ((tn < 512 ∧ tn2 = tn + 1 ∧ gt = vp_updL ft tn xl) ∨ (tn = 512 ∧ tn2 = tn ∧ gt = ft)) ∧ va_P (dC, dI) vwCl [(lo0, .inr (4, [.ref y, .ref c0, .ref e0, .ref f0, .ref lu, .ref la, .ref lh, .ref lr, .ref lc, .ref lt, .int (nI tn2), .ref lp, .ref lb0, .ref ln0, .long lsh, .int vir, .int vag, .int vfi])), (lt, .inl (kL, 512, .inr (.inl gt)))] tS.heap ∧ va_K (dC, dI) vwCl [(kL, .long)] tS ∧ va_D (va_A [(lo0, .inr (4, [.ref y, .ref c0, .ref e0, .ref f0, .ref lu, .ref la, .ref lh, .ref lr, .ref lc, .ref lt, .int (nI tn), .ref lp, .ref lb0, .ref ln0, .long lsh, .int vir, .int vag, .int vfi])), (lt, .inl (kL, 512, .inr (.inl ft)))] sz) [(lo0, .inr (4, [.ref y, .ref c0, .ref e0, .ref f0, .ref lu, .ref la, .ref lh, .ref lr, .ref lc, .ref lt, .int (nI tn2), .ref lp, .ref lb0, .ref ln0, .long lsh, .int vir, .int vag, .int vfi])), (lt, .inl (kL, 512, .inr (.inl gt)))]) (va_A [(lo0, .inr (4, [.ref y, .ref c0, .ref e0, .ref f0, .ref lu, .ref la, .ref lh, .ref lr, .ref lc, .ref lt, .int (nI tn), .ref lp, .ref lb0, .ref ln0, .long lsh, .int vir, .int vag, .int vfi])), (lt, .inl (kL, 512, .inr (.inl ft)))] sz)) 0 0 (va_A [(lo0, .inr (4, [.ref y, .ref c0, .ref e0, .ref f0, .ref lu, .ref la, .ref lh, .ref lr, .ref lc, .ref lt, .int (nI tn), .ref lp, .ref lb0, .ref ln0, .long lsh, .int vir, .int vag, .int vfi])), (lt, .inl (kL, 512, .inr (.inl ft)))] sz) := by
  refine Met.ofW (cc := cX4_push) (maxL := 3) (ret := none) (by decide) rfl ?_
  intro p e s m args below meth c s₁ B hml hv
  obtain ⟨rfl, hsz, hP, hK, hD0⟩ := hv
  have hx := B.exec
  have hb := B.bytes
  have hr := B.returns
  have hts := atoms_spec (ws := wp_c_lpush) B.pre
  have hown : s.vm.findClass RX4 = some m.cls := findClass_of_methodNamed B.named
  have hlocks := B.notSynchronized
  subst hsz
  have hD := hD0.self (sz := s.heap.size)
  generalize hAe : va_A [(lo0, .inr (4, [.ref y, .ref c0, .ref e0, .ref f0, .ref lu, .ref la, .ref lh, .ref lr, .ref lc, .ref lt, .int (nI tn), .ref lp, .ref lb0, .ref ln0, .long lsh, .int vir, .int vag, .int vfi])), (lt, .inl (kL, 512, .inr (.inl ft)))] s.heap.size = A at hD ⊢
  have hA : ∀ q : Nat, s.heap.size ≤ q → A q := fun q h => by rw [← hAe]; exact Or.inr h
  have hS : va_S A s.heap s.heap [] := va_S.rf
  have hP : va_P (dC, dI) vwCl [(lo0, .inr (4, [.ref y, .ref c0, .ref e0, .ref f0, .ref lu, .ref la, .ref lh, .ref lr, .ref lc, .ref lt, .int (nI tn), .ref lp, .ref lb0, .ref ln0, .long lsh, .int vir, .int vag, .int vfi])), (lt, .inl (kL, 512, .inr (.inl ft)))] s.heap := hP
  have hl := lv_entry ([.ref lo0, .long xl]) (n := 3) (Nat.le_of_ble_eq_true rfl)
  rw [lg_entry_eq]
  generalize (lg_sl ([.ref lo0, .long xl]) ++ List.replicate (3 - (lg_sl ([.ref lo0, .long xl])).length) Slot.unset).toArray = ls at hl ⊢
  have hl : lv_has ls 3 [(0, .ref lo0), (1, .long xl)] := hl
  refine lv_aload_n hx hb dX4_push_0 rfl (lv_at hl 0 rfl) ?_
  refine va_get (D := (dC, dI)) (ci := 4) (v := .int (nI tn)) (C := RX4) (T := TX4) (N := 18) hx hb hts in_c_lpush_X4 hown hK hP 0 rfl rfl 10 (by decide) (hts (.fieldLink RX4 154 "OwnedPlaces$Loans" "tempTotal" "I") (wm_c_lpush 1 rfl)) (fun _ h9 => h9) rfl dX4_push_1 ?_
  refine lv_sipush (v := 512) hx hb dX4_push_4 (by decide) ?_
  refine lv_icmp_ge (tgt := 30) hx hb dX4_push_7 (by decide) (fun hge => ?_) (fun hge => ?_)
  · have h512 : tn = 512 := by have := (nI_leI (a := 512) (b := tn) (by decide) (by omega)).mp hge; omega
    have hP9 := hP.sub (ws' := [(lo0, .inr (4, [.ref y, .ref c0, .ref e0, .ref f0, .ref lu, .ref la, .ref lh, .ref lr, .ref lc, .ref lt, .int (nI tn), .ref lp, .ref lb0, .ref ln0, .long lsh, .int vir, .int vag, .int vfi])), (lt, .inl (kL, 512, .inr (.inl ft)))]) [0, 1] rfl
    have hD9 := hD.sub (ws' := [(lo0, .inr (4, [.ref y, .ref c0, .ref e0, .ref f0, .ref lu, .ref la, .ref lh, .ref lr, .ref lc, .ref lt, .int (nI tn), .ref lp, .ref lb0, .ref ln0, .long lsh, .int vir, .int vag, .int vfi])), (lt, .inl (kL, 512, .inr (.inl ft)))]) [0, 1] (by decide) rfl
    have hK9 := hK.sub (tys' := [(kL, .long)]) [0] rfl
    exact W.vret hx hb hr (fun tS ht hW => ⟨⟨(), rfl, trivial, tn, ft, Or.inr ⟨h512, rfl, rfl⟩, by rw [ht]; exact hP9, va_K.moved hW.alike hK9, hD9⟩, hS.F ht⟩) hS.2.2 dX4_push_30
  · have hlt9 : tn < 512 := by rcases Nat.lt_or_ge tn 512 with y9 | y9; exact y9; exact absurd (nI_le (a := 512) y9 (by omega)) hge
    refine lv_aload_n hx hb dX4_push_10 rfl (lv_at hl 0 rfl) ?_
    refine va_get (D := (dC, dI)) (ci := 4) (v := .ref lt) (C := RX4) (T := TX4) (N := 18) hx hb hts in_c_lpush_X4 hown hK hP 0 rfl rfl 9 (by decide) (hts (.fieldLink RX4 29 "OwnedPlaces$Loans" "temps" "[J") (wm_c_lpush 2 rfl)) (fun _ h9 => h9) rfl dX4_push_11 ?_
    refine lv_aload_n hx hb dX4_push_14 rfl (lv_at hl 0 rfl) ?_
    refine va_get (D := (dC, dI)) (ci := 4) (v := .int (nI tn)) (C := RX4) (T := TX4) (N := 18) hx hb hts in_c_lpush_X4 hown hK hP 0 rfl rfl 10 (by decide) (hts (.fieldLink RX4 154 "OwnedPlaces$Loans" "tempTotal" "I") (wm_c_lpush 1 rfl)) (fun _ h9 => h9) rfl dX4_push_15 ?_
    refine lv_lload_n hx hb dX4_push_18 rfl (lv_at hl 1 rfl) ?_
    refine va_last hx hb hK hP hD hS 1 0 rfl rfl (vp_in_nI hlt9 (by decide)) dX4_push_19 (fun H locs hP hD hS => ?_)
    have hP : va_P (dC, dI) vwCl [(lo0, .inr (4, [.ref y, .ref c0, .ref e0, .ref f0, .ref lu, .ref la, .ref lh, .ref lr, .ref lc, .ref lt, .int (nI tn), .ref lp, .ref lb0, .ref ln0, .long lsh, .int vir, .int vag, .int vfi])), (lt, .inl (kL, 512, .inr (.inl (vp_updL ft (nI tn : Int32).toNatClampNeg xl))))] H := hP
    have hD : va_D A [(lo0, .inr (4, [.ref y, .ref c0, .ref e0, .ref f0, .ref lu, .ref la, .ref lh, .ref lr, .ref lc, .ref lt, .int (nI tn), .ref lp, .ref lb0, .ref ln0, .long lsh, .int vir, .int vag, .int vfi])), (lt, .inl (kL, 512, .inr (.inl (vp_updL ft (nI tn : Int32).toNatClampNeg xl))))] := hD
    obtain ⟨g8, eg8⟩ : ∃ zZ : Nat → Int64, zZ = vp_updL ft (nI tn : Int32).toNatClampNeg xl := ⟨_, rfl⟩
    rw [← eg8] at hP hD
    refine lv_aload_n hx hb dX4_push_20 rfl (lv_at hl 0 rfl) ?_
    refine lv_dup hx hb dX4_push_21 rfl ?_
    refine va_get (D := (dC, dI)) (ci := 4) (v := .int (nI tn)) (C := RX4) (T := TX4) (N := 18) hx hb hts in_c_lpush_X4 hown hK hP 0 rfl rfl 10 (by decide) (hts (.fieldLink RX4 154 "OwnedPlaces$Loans" "tempTotal" "I") (wm_c_lpush 1 rfl)) (fun _ h9 => h9) rfl dX4_push_22 ?_
    refine lv_iconst (v := 1) hx hb dX4_push_25 (by decide) ?_
    refine lv_iadd hx hb dX4_push_26 ?_
    refine lv_topi (fun f_1 ef_1 => ?_)
    obtain rfl : f_1 = nI (tn + 1) := ef_1.trans (nI_1 _)
    refine va_put (D := (dC, dI)) (ci := 4) (v := .int (nI (tn + 1))) (ty := .int) (C := RX4) (T := TX4) (N := 18) hx hb hts in_c_lpush_X4 tyX4 tyX4_ok nmX4 hown hK hP hD hS 0 rfl rfl 10 (by decide) (hts (.fieldLink RX4 154 "OwnedPlaces$Loans" "tempTotal" "I") (wm_c_lpush 1 rfl)) (fun _ h9 => h9) rfl (by decide +kernel) rfl rfl (Nat.le_of_ble_eq_true rfl) dX4_push_27 (fun H locs hP hD hS => ?_)
    have hP : va_P (dC, dI) vwCl [(lo0, .inr (4, [.ref y, .ref c0, .ref e0, .ref f0, .ref lu, .ref la, .ref lh, .ref lr, .ref lc, .ref lt, .int (nI (tn + 1)), .ref lp, .ref lb0, .ref ln0, .long lsh, .int vir, .int vag, .int vfi])), (lt, .inl (kL, 512, .inr (.inl g8)))] H := hP
    have hD : va_D A [(lo0, .inr (4, [.ref y, .ref c0, .ref e0, .ref f0, .ref lu, .ref la, .ref lh, .ref lr, .ref lc, .ref lt, .int (nI (tn + 1)), .ref lp, .ref lb0, .ref ln0, .long lsh, .int vir, .int vag, .int vfi])), (lt, .inl (kL, 512, .inr (.inl g8)))] := hD
    have hP9 := hP.sub (ws' := [(lo0, .inr (4, [.ref y, .ref c0, .ref e0, .ref f0, .ref lu, .ref la, .ref lh, .ref lr, .ref lc, .ref lt, .int (nI (tn + 1)), .ref lp, .ref lb0, .ref ln0, .long lsh, .int vir, .int vag, .int vfi])), (lt, .inl (kL, 512, .inr (.inl g8)))]) [0, 1] rfl
    have hD9 := hD.sub (ws' := [(lo0, .inr (4, [.ref y, .ref c0, .ref e0, .ref f0, .ref lu, .ref la, .ref lh, .ref lr, .ref lc, .ref lt, .int (nI (tn + 1)), .ref lp, .ref lb0, .ref ln0, .long lsh, .int vir, .int vag, .int vfi])), (lt, .inl (kL, 512, .inr (.inl g8)))]) [0, 1] (by decide) rfl
    have hK9 := hK.sub (tys' := [(kL, .long)]) [0] rfl
    exact W.vret hx hb hr (fun tS ht hW => ⟨⟨(), rfl, trivial, tn + 1, g8, Or.inl ⟨hlt9, rfl, by rw [eg8, nI_clamp (by omega)]⟩, by rw [ht]; exact hP9, va_K.moved hW.alike hK9, hD9⟩, hS.F ht⟩) hS.2.2 dX4_push_30
def wf_c_lpop : List Cond := [.code yX4_pop cX4_pop 5 (some .long), .fieldLink RX4 154 "OwnedPlaces$Loans" "tempTotal" "I", .fieldLink RX4 29 "OwnedPlaces$Loans" "temps" "[J"]
def wp_c_lpop : List Cond := wf_c_lpop ++ (wsX40 ++ [])
theorem in_c_lpop_X4 : ∀ w ∈ wsX40, w ∈ wp_c_lpop := fun w h => List.mem_append_right _ (List.mem_append_left _ h)
theorem wg_c_lpop : wf_c_lpop.all goodWord = true := by decide +kernel
theorem wm_c_lpop (k : Nat) {w : Cond} (h : wp_c_lpop[k]? = some w) : w ∈ wp_c_lpop := List.mem_of_getElem? h
set_option maxHeartbeats 4000000 in
set_option maxRecDepth 100000 in
theorem c_lpop (l : Launch) (dC : Nat → ClassId) (dI : Nat → Nat → Nat) (lo0 y c0 e0 f0 lu la lh lr lc lt lp lb0 ln0 : Nat) (lsh : Int64) (vir vag vfi : Int32) (tn : Nat) (kL : ClassId) (ft : Nat → Int64) (k9 : Nat) (sz : Nat) (htn : tn ≤ 512) (hk9 : k9 ≤ 12) : Met l yX4_pop wp_c_lpop ({ frames := 0, cells := 0, slots := 0, locals := 0 }) (va_Pc [.ref lo0, .int (nI k9)] (fun U => U.heap.size = sz ∧ va_P (dC, dI) vwCl [(lo0, .inr (4, [.ref y, .ref c0, .ref e0, .ref f0, .ref lu, .ref la, .ref lh, .ref lr, .ref lc, .ref lt, .int (nI tn), .ref lp, .ref lb0, .ref ln0, .long lsh, .int vir, .int vag, .int vfi])), (lt, .inl (kL, 512, .inr (.inl ft)))] U.heap ∧ va_K (dC, dI) vwCl [(kL, .long)] U ∧ va_D (fun _ => True) [(lo0, .inr (4, [.ref y, .ref c0, .ref e0, .ref f0, .ref lu, .ref la, .ref lh, .ref lr, .ref lc, .ref lt, .int (nI tn), .ref lp, .ref lb0, .ref ln0, .long lsh, .int vir, .int vag, .int vfi])), (lt, .inl (kL, 512, .inr (.inl ft)))])) (va_Ql (fun (r : Int64) (tn2 : Nat) => (tn2, r) = popF ft k9 tn 0) (fun (tn2 : Nat) (tS : State) => va_P (dC, dI) vwCl [(lo0, .inr (4, [.ref y, .ref c0, .ref e0, .ref f0, .ref lu, .ref la, .ref lh, .ref lr, .ref lc, .ref lt, .int (nI tn2), .ref lp, .ref lb0, .ref ln0, .long lsh, .int vir, .int vag, .int vfi])), (lt, .inl (kL, 512, .inr (.inl ft)))] tS.heap ∧ va_K (dC, dI) vwCl [(kL, .long)] tS ∧ va_D (va_A [(lo0, .inr (4, [.ref y, .ref c0, .ref e0, .ref f0, .ref lu, .ref la, .ref lh, .ref lr, .ref lc, .ref lt, .int (nI tn), .ref lp, .ref lb0, .ref ln0, .long lsh, .int vir, .int vag, .int vfi])), (lt, .inl (kL, 512, .inr (.inl ft)))] sz) [(lo0, .inr (4, [.ref y, .ref c0, .ref e0, .ref f0, .ref lu, .ref la, .ref lh, .ref lr, .ref lc, .ref lt, .int (nI tn2), .ref lp, .ref lb0, .ref ln0, .long lsh, .int vir, .int vag, .int vfi])), (lt, .inl (kL, 512, .inr (.inl ft)))]) (va_A [(lo0, .inr (4, [.ref y, .ref c0, .ref e0, .ref f0, .ref lu, .ref la, .ref lh, .ref lr, .ref lc, .ref lt, .int (nI tn), .ref lp, .ref lb0, .ref ln0, .long lsh, .int vir, .int vag, .int vfi])), (lt, .inl (kL, 512, .inr (.inl ft)))] sz)) 0 0 (va_A [(lo0, .inr (4, [.ref y, .ref c0, .ref e0, .ref f0, .ref lu, .ref la, .ref lh, .ref lr, .ref lc, .ref lt, .int (nI tn), .ref lp, .ref lb0, .ref ln0, .long lsh, .int vir, .int vag, .int vfi])), (lt, .inl (kL, 512, .inr (.inl ft)))] sz) := by
  refine Met.ofW (cc := cX4_pop) (maxL := 5) (ret := (some .long)) (by decide) rfl ?_
  intro p e s m args below meth c s₁ B hml hv
  obtain ⟨rfl, hsz, hP, hK, hD0⟩ := hv
  have hx := B.exec
  have hb := B.bytes
  have hr := B.returns
  have hts := atoms_spec (ws := wp_c_lpop) B.pre
  have hown : s.vm.findClass RX4 = some m.cls := findClass_of_methodNamed B.named
  have hlocks := B.notSynchronized
  subst hsz
  have hD := hD0.self (sz := s.heap.size)
  generalize hAe : va_A [(lo0, .inr (4, [.ref y, .ref c0, .ref e0, .ref f0, .ref lu, .ref la, .ref lh, .ref lr, .ref lc, .ref lt, .int (nI tn), .ref lp, .ref lb0, .ref ln0, .long lsh, .int vir, .int vag, .int vfi])), (lt, .inl (kL, 512, .inr (.inl ft)))] s.heap.size = A at hD ⊢
  have hA : ∀ q : Nat, s.heap.size ≤ q → A q := fun q h => by rw [← hAe]; exact Or.inr h
  have hS : va_S A s.heap s.heap [] := va_S.rf
  have hP : va_P (dC, dI) vwCl [(lo0, .inr (4, [.ref y, .ref c0, .ref e0, .ref f0, .ref lu, .ref la, .ref lh, .ref lr, .ref lc, .ref lt, .int (nI tn), .ref lp, .ref lb0, .ref ln0, .long lsh, .int vir, .int vag, .int vfi])), (lt, .inl (kL, 512, .inr (.inl ft)))] s.heap := hP
  have hl := lv_entry ([.ref lo0, .int (nI k9)]) (n := 5) (Nat.le_of_ble_eq_true rfl)
  rw [lg_entry_eq]
  generalize (lg_sl ([.ref lo0, .int (nI k9)]) ++ List.replicate (5 - (lg_sl ([.ref lo0, .int (nI k9)])).length) Slot.unset).toArray = ls at hl ⊢
  have hl : lv_has ls 5 [(0, .ref lo0), (1, .int (nI k9))] := hl
  refine lv_lconst (v := 0) hx hb dX4_pop_0 (by decide) ?_
  refine lv_lstore_n (lv' := [(2, .long 0), (0, .ref lo0), (1, .int (nI k9))]) hx hb dX4_pop_1 rfl hl (by decide) rfl (fun ls hl => ?_)
  refine lv_iconst (v := 0) hx hb dX4_pop_2 (by decide) ?_
  refine lv_istore (lv' := [(4, .int 0), (2, .long 0), (0, .ref lo0), (1, .int (nI k9))]) hx hb dX4_pop_3 hl (by decide) rfl (fun ls hl => ?_)
  have hl : lv_has ls 5 [(4, .int (nI 0)), (2, .long 0), (0, .ref lo0), (1, .int (nI k9))] := hl
  refine W_q (fun Q1 hQ1 => ?_)
  have key1 : ∀ (n1 : Nat) (i t1 : Nat) (xx : Int64) (H : Heap) (locs : List Loc) (ls : Array Slot), (i + n1 = k9 + 1 ∧ i ≤ k9) → (t1 ≤ 512) → (popF ft (k9 - i) t1 xx = popF ft k9 tn 0) → va_P (dC, dI) vwCl [(lo0, .inr (4, [.ref y, .ref c0, .ref e0, .ref f0, .ref lu, .ref la, .ref lh, .ref lr, .ref lc, .ref lt, .int (nI t1), .ref lp, .ref lb0, .ref ln0, .long lsh, .int vir, .int vag, .int vfi])), (lt, .inl (kL, 512, .inr (.inl ft)))] H → va_D A [(lo0, .inr (4, [.ref y, .ref c0, .ref e0, .ref f0, .ref lu, .ref la, .ref lh, .ref lr, .ref lc, .ref lt, .int (nI t1), .ref lp, .ref lb0, .ref ln0, .long lsh, .int vir, .int vag, .int vfi])), (lt, .inl (kL, 512, .inr (.inl ft)))] → va_S A s.heap H locs → lv_has ls 5 [(4, .int (nI i)), (2, .long xx), (0, .ref lo0), (1, .int (nI k9))] → W p l e (headSpec wp_c_lpop ({ frames := 0, cells := 0, slots := 0, locals := 0 })).room s m ([.ref lo0, .int (nI k9)] : List Value).toArray below meth c H locs 0 0 Q1 (F0 m 5 ls []) := by
    intro n1
    induction n1 with
    | zero => intro i t1 xx H locs ls hb0 hb1 hb2; exact absurd hb0 (by omega)
    | succ n1 ih1 =>
      intro i t1 xx H locs ls hb0 hb1 hb2 hP hD hS hl
      refine lv_iload hx hb dX4_pop_5 (lv_at hl 0 rfl) ?_
      refine lv_iload_n hx hb dX4_pop_7 rfl (lv_at hl 3 rfl) ?_
      refine lv_icmp_ge (tgt := 46) hx hb dX4_pop_8 (by decide) (fun hc1 => ?_) (fun hc1 => ?_)
      · have hi9 : i = k9 := by have := (nI_leI (a := k9) (b := i) (by omega) (by omega)).mp hc1; omega
        refine lv_lload_n hx hb dX4_pop_46 rfl (lv_at hl 1 rfl) ?_
        have hP9 := hP.sub (ws' := [(lo0, .inr (4, [.ref y, .ref c0, .ref e0, .ref f0, .ref lu, .ref la, .ref lh, .ref lr, .ref lc, .ref lt, .int (nI t1), .ref lp, .ref lb0, .ref ln0, .long lsh, .int vir, .int vag, .int vfi])), (lt, .inl (kL, 512, .inr (.inl ft)))]) [0, 1] rfl
        have hD9 := hD.sub (ws' := [(lo0, .inr (4, [.ref y, .ref c0, .ref e0, .ref f0, .ref lu, .ref la, .ref lh, .ref lr, .ref lc, .ref lt, .int (nI t1), .ref lp, .ref lb0, .ref ln0, .long lsh, .int vir, .int vag, .int vfi])), (lt, .inl (kL, 512, .inr (.inl ft)))]) [0, 1] (by decide) rfl
        have hK9 := hK.sub (tys' := [(kL, .long)]) [0] rfl
        subst hQ1
        exact W.lret (v := xx) hx hb hr (fun tS ht hW => ⟨⟨xx, t1, rfl, (by rw [hi9, Nat.sub_self] at hb2; exact hb2), by rw [ht]; exact hP9, va_K.moved hW.alike hK9, hD9⟩, hS.F ht⟩) hS.2.2 dX4_pop_47
      · have hi9 : i < k9 := by rcases Nat.lt_or_ge i k9 with y9 | y9; exact y9; exact absurd (nI_le y9 (by omega)) hc1
        refine lv_aload_n hx hb dX4_pop_11 rfl (lv_at hl 2 rfl) ?_
        refine va_get (D := (dC, dI)) (ci := 4) (v := .int (nI t1)) (C := RX4) (T := TX4) (N := 18) hx hb hts in_c_lpop_X4 hown hK hP 0 rfl rfl 10 (by decide) (hts (.fieldLink RX4 154 "OwnedPlaces$Loans" "tempTotal" "I") (wm_c_lpop 1 rfl)) (fun _ h9 => h9) rfl dX4_pop_12 ?_
        refine lv_if_le (tgt := 46) hx hb dX4_pop_15 (by decide) (fun hle => ?_) (fun hle => ?_)
        · have ht0 : t1 = 0 := by rcases Nat.eq_zero_or_pos t1 with y9 | y9; exact y9; exact absurd (nI_lt (a := 0) y9 (by omega)) (Int32.not_lt.mpr hle)
          refine lv_lload_n hx hb dX4_pop_46 rfl (lv_at hl 1 rfl) ?_
          have hP9 := hP.sub (ws' := [(lo0, .inr (4, [.ref y, .ref c0, .ref e0, .ref f0, .ref lu, .ref la, .ref lh, .ref lr, .ref lc, .ref lt, .int (nI t1), .ref lp, .ref lb0, .ref ln0, .long lsh, .int vir, .int vag, .int vfi])), (lt, .inl (kL, 512, .inr (.inl ft)))]) [0, 1] rfl
          have hD9 := hD.sub (ws' := [(lo0, .inr (4, [.ref y, .ref c0, .ref e0, .ref f0, .ref lu, .ref la, .ref lh, .ref lr, .ref lc, .ref lt, .int (nI t1), .ref lp, .ref lb0, .ref ln0, .long lsh, .int vir, .int vag, .int vfi])), (lt, .inl (kL, 512, .inr (.inl ft)))]) [0, 1] (by decide) rfl
          have hK9 := hK.sub (tys' := [(kL, .long)]) [0] rfl
          subst hQ1
          exact W.lret (v := xx) hx hb hr (fun tS ht hW => ⟨⟨xx, t1, rfl, (by rw [ht0] at hb2 ⊢; rw [popF_0] at hb2; exact hb2), by rw [ht]; exact hP9, va_K.moved hW.alike hK9, hD9⟩, hS.F ht⟩) hS.2.2 dX4_pop_47
        · obtain ⟨t2, rfl⟩ : ∃ t2, t1 = t2 + 1 := ⟨t1 - 1, by
            rcases Nat.eq_zero_or_pos t1 with y9 | y9
            · exact absurd (by rw [y9]; decide) hle
            · omega⟩
          have hP : va_P (dC, dI) vwCl [(lo0, .inr (4, [.ref y, .ref c0, .ref e0, .ref f0, .ref lu, .ref la, .ref lh, .ref lr, .ref lc, .ref lt, .int (nI (t2 + 1)), .ref lp, .ref lb0, .ref ln0, .long lsh, .int vir, .int vag, .int vfi])), (lt, .inl (kL, 512, .inr (.inl ft)))] H := hP
          have hD : va_D A [(lo0, .inr (4, [.ref y, .ref c0, .ref e0, .ref f0, .ref lu, .ref la, .ref lh, .ref lr, .ref lc, .ref lt, .int (nI (t2 + 1)), .ref lp, .ref lb0, .ref ln0, .long lsh, .int vir, .int vag, .int vfi])), (lt, .inl (kL, 512, .inr (.inl ft)))] := hD
          refine lv_aload_n hx hb dX4_pop_18 rfl (lv_at hl 2 rfl) ?_
          refine lv_dup hx hb dX4_pop_19 rfl ?_
          refine va_get (D := (dC, dI)) (ci := 4) (v := .int (nI (t2 + 1))) (C := RX4) (T := TX4) (N := 18) hx hb hts in_c_lpop_X4 hown hK hP 0 rfl rfl 10 (by decide) (hts (.fieldLink RX4 154 "OwnedPlaces$Loans" "tempTotal" "I") (wm_c_lpop 1 rfl)) (fun _ h9 => h9) rfl dX4_pop_20 ?_
          refine lv_iconst (v := 1) hx hb dX4_pop_23 (by decide) ?_
          refine lv_isub hx hb dX4_pop_24 ?_
          refine lv_topi (fun f_1 ef_1 => ?_)
          obtain rfl : f_1 = nI t2 := ef_1.trans (nI_pred t2)
          refine va_put (D := (dC, dI)) (ci := 4) (v := .int (nI t2)) (ty := .int) (C := RX4) (T := TX4) (N := 18) hx hb hts in_c_lpop_X4 tyX4 tyX4_ok nmX4 hown hK hP hD hS 0 rfl rfl 10 (by decide) (hts (.fieldLink RX4 154 "OwnedPlaces$Loans" "tempTotal" "I") (wm_c_lpop 1 rfl)) (fun _ h9 => h9) rfl (by decide +kernel) rfl rfl (Nat.le_of_ble_eq_true rfl) dX4_pop_25 (fun H locs hP hD hS => ?_)
          have hP : va_P (dC, dI) vwCl [(lo0, .inr (4, [.ref y, .ref c0, .ref e0, .ref f0, .ref lu, .ref la, .ref lh, .ref lr, .ref lc, .ref lt, .int (nI t2), .ref lp, .ref lb0, .ref ln0, .long lsh, .int vir, .int vag, .int vfi])), (lt, .inl (kL, 512, .inr (.inl ft)))] H := hP
          have hD : va_D A [(lo0, .inr (4, [.ref y, .ref c0, .ref e0, .ref f0, .ref lu, .ref la, .ref lh, .ref lr, .ref lc, .ref lt, .int (nI t2), .ref lp, .ref lb0, .ref ln0, .long lsh, .int vir, .int vag, .int vfi])), (lt, .inl (kL, 512, .inr (.inl ft)))] := hD
          refine lv_lload_n hx hb dX4_pop_28 rfl (lv_at hl 1 rfl) ?_
          refine lv_aload_n hx hb dX4_pop_29 rfl (lv_at hl 2 rfl) ?_
          refine va_get (D := (dC, dI)) (ci := 4) (v := .ref lt) (C := RX4) (T := TX4) (N := 18) hx hb hts in_c_lpop_X4 hown hK hP 0 rfl rfl 9 (by decide) (hts (.fieldLink RX4 29 "OwnedPlaces$Loans" "temps" "[J") (wm_c_lpop 2 rfl)) (fun _ h9 => h9) rfl dX4_pop_30 ?_
          refine lv_aload_n hx hb dX4_pop_33 rfl (lv_at hl 2 rfl) ?_
          refine va_get (D := (dC, dI)) (ci := 4) (v := .int (nI t2)) (C := RX4) (T := TX4) (N := 18) hx hb hts in_c_lpop_X4 hown hK hP 0 rfl rfl 10 (by decide) (hts (.fieldLink RX4 154 "OwnedPlaces$Loans" "tempTotal" "I") (wm_c_lpop 1 rfl)) (fun _ h9 => h9) rfl dX4_pop_34 ?_
          refine va_lald hx hb hK hP 1 0 rfl rfl (vp_in_nI (by omega) (by decide)) dX4_pop_37 ?_
          refine lv_topl (fun v_2 ev_2 => ?_)
          have h1 : v_2 = ft t2 := ev_2.trans (by rw [nI_clamp (by omega)])
          refine lv_lor hx hb dX4_pop_38 ?_
          refine lv_topl (fun f_3 ef_3 => ?_)
          have hf9 : f_3 = xx ||| ft t2 := by rw [ef_3, h1]
          refine lv_lstore_n (lv' := [(2, .long f_3), (4, .int (nI i)), (0, .ref lo0), (1, .int (nI k9))]) hx hb dX4_pop_39 rfl hl (by decide) rfl (fun ls hl => ?_)
          obtain ⟨x_4, ex_4⟩ : ∃ yY : Int32, yY = (nI i) + 1 := ⟨_, rfl⟩
          refine lv_iinc (v := x_4) (lv' := [(4, .int x_4), (2, .long f_3), (0, .ref lo0), (1, .int (nI k9))]) hx hb dX4_pop_40 hl (k := 1) rfl (by rw [ex_4]; rfl) (by decide) rfl (fun ls hl => ?_)
          obtain rfl : x_4 = nI (i + 1) := by rw [ex_4]; exact nI_1 i
          have hl : lv_has ls 5 [(4, .int (nI (i + 1))), (2, .long f_3), (0, .ref lo0), (1, .int (nI k9))] := hl
          refine lv_goto (tgt := 5) hx hb dX4_pop_43 (by decide) ?_
          exact ih1 (i + 1) t2 f_3 _ _ _ (by omega) (by omega) (by
            rw [← hb2, hf9]
            obtain ⟨d9, hd9⟩ : ∃ d9, k9 - i = d9 + 1 := ⟨k9 - i - 1, by omega⟩
            rw [hd9, show k9 - (i + 1) = d9 by omega]; rfl) (hP.sub [0, 1] rfl) (hD.sub [0, 1] (by decide) rfl) hS (lv_sub hl [0, 1, 2, 3] rfl)
  exact key1 (k9 + 1) 0 tn 0 _ _ _ (by omega) htn rfl (hP.sub [0, 1] rfl) (hD.sub [0, 1] (by decide) rfl) hS (lv_sub hl [0, 1, 2, 3] rfl)
def wf_c_outer : List Cond := [.code yX4_outerLoan cX4_outerLoan 1 (some .long)]
def wp_c_outer : List Cond := wf_c_outer ++ []
theorem wg_c_outer : wf_c_outer.all goodWord = true := by decide +kernel
theorem wm_c_outer (k : Nat) {w : Cond} (h : wp_c_outer[k]? = some w) : w ∈ wp_c_outer := List.mem_of_getElem? h
set_option maxHeartbeats 4000000 in
set_option maxRecDepth 100000 in
theorem c_outer (l : Launch) (dC : Nat → ClassId) (dI : Nat → Nat → Nat) (li : Int32) (sz : Nat) : Met l yX4_outerLoan wp_c_outer ({ frames := 0, cells := 0, slots := 0, locals := 0 }) (va_Pc [.int li] (fun U => U.heap.size = sz ∧ va_P (dC, dI) vwCl [] U.heap ∧ va_K (dC, dI) vwCl [] U ∧ va_D (fun _ => True) [])) (va_Ql (fun (r : Int64) (_ : Unit) => r = (1 : Int64) <<< ((if li < 0 then (62 : Int32) else 54 + li).toInt64 &&& 63)) (fun (_ : Unit) (tS : State) => va_P (dC, dI) vwCl [] tS.heap ∧ va_K (dC, dI) vwCl [] tS ∧ va_D (va_A [] sz) []) (va_A [] sz)) 0 0 (va_A [] sz) := by
  refine Met.ofW (cc := cX4_outerLoan) (maxL := 1) (ret := (some .long)) (by decide) rfl ?_
  intro p e s m args below meth c s₁ B hml hv
  obtain ⟨rfl, hsz, hP, hK, hD0⟩ := hv
  have hx := B.exec
  have hb := B.bytes
  have hr := B.returns
  have hts := atoms_spec (ws := wp_c_outer) B.pre
  have hown : s.vm.findClass RX4 = some m.cls := findClass_of_methodNamed B.named
  have hlocks := B.notSynchronized
  subst hsz
  have hD := hD0.self (sz := s.heap.size)
  generalize hAe : va_A [] s.heap.size = A at hD ⊢
  have hA : ∀ q : Nat, s.heap.size ≤ q → A q := fun q h => by rw [← hAe]; exact Or.inr h
  have hS : va_S A s.heap s.heap [] := va_S.rf
  have hP : va_P (dC, dI) vwCl [] s.heap := hP
  have hl := lv_entry ([.int li]) (n := 1) (Nat.le_of_ble_eq_true rfl)
  rw [lg_entry_eq]
  generalize (lg_sl ([.int li]) ++ List.replicate (1 - (lg_sl ([.int li])).length) Slot.unset).toArray = ls at hl ⊢
  have hl : lv_has ls 1 [(0, .int li)] := hl
  refine lv_lconst (v := 1) hx hb dX4_outerLoan_0 (by decide) ?_
  refine lv_iload_n hx hb dX4_outerLoan_1 rfl (lv_at hl 0 rfl) ?_
  refine lv_if_ge (tgt := 10) hx hb dX4_outerLoan_2 (by decide) (fun hge => ?_) (fun hge => ?_)
  · refine lv_bipush (v := 54) hx hb dX4_outerLoan_10 (by decide) ?_
    refine lv_iload_n hx hb dX4_outerLoan_12 rfl (lv_at hl 0 rfl) ?_
    refine lv_iadd hx hb dX4_outerLoan_13 ?_
    refine lv_topi (fun f_1 ef_1 => ?_)
    obtain ⟨f_2, ef_2⟩ : ∃ yY : Int64, yY = (1 : Int64) <<< ((f_1 : Int32).toInt64 &&& 63) := ⟨_, rfl⟩
    refine lv_lshl (v := f_2) hx hb dX4_outerLoan_14 ef_2.symm ?_
    have hP9 := hP.sub (ws' := []) [] rfl
    have hD9 := hD.sub (ws' := []) [] (by decide) rfl
    have hK9 := hK.sub (tys' := []) [] rfl
    exact W.lret (v := f_2) hx hb hr (fun tS ht hW => ⟨⟨f_2, (), rfl, (by rw [if_neg (Int32.not_lt.mpr hge), ← ef_1]; exact ef_2), by rw [ht]; exact hP9, va_K.moved hW.alike hK9, hD9⟩, hS.F ht⟩) hS.2.2 dX4_outerLoan_15
  · refine lv_bipush (v := 62) hx hb dX4_outerLoan_5 (by decide) ?_
    refine lv_goto (tgt := 14) hx hb dX4_outerLoan_7 (by decide) ?_
    refine lv_lshl (v := 4611686018427387904) hx hb dX4_outerLoan_14 (by decide) ?_
    have hP9 := hP.sub (ws' := []) [] rfl
    have hD9 := hD.sub (ws' := []) [] (by decide) rfl
    have hK9 := hK.sub (tys' := []) [] rfl
    exact W.lret (v := 4611686018427387904) hx hb hr (fun tS ht hW => ⟨⟨4611686018427387904, (), rfl, (by rw [if_pos (Int32.not_le.mp hge)]; rfl), by rw [ht]; exact hP9, va_K.moved hW.alike hK9, hD9⟩, hS.F ht⟩) hS.2.2 dX4_outerLoan_15
