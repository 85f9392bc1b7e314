def wf_c_copyOfL : List Cond := [.code yJ7_copyOf_c38d5 cJ7_copyOf_c38d5 3 (some (.array .long)), .arrayClass .long, .methodLink RJ7 304 Lib.Math.min.name, .static Lib.Math.min.name, .initialized "java/lang/Math", .code Lib.Math.min.name Lib.Math.min.code 2 (some .int), .methodLink RJ7 150 arraycopyName, .native arraycopyName, .static arraycopyName, .initialized "java/lang/System"]
def wp_c_copyOfL : List Cond := wf_c_copyOfL ++ []
theorem wg_c_copyOfL : wf_c_copyOfL.all goodWord = true := by decide +kernel
theorem wm_c_copyOfL (k : Nat) {w : Cond} (h : wp_c_copyOfL[k]? = some w) : w ∈ wp_c_copyOfL := List.mem_of_getElem? h
set_option maxHeartbeats 4000000 in
set_option maxRecDepth 100000 in
theorem c_copyOfL (l : Launch) (dC : Nat → ClassId) (dI : Nat → Nat → Nat) (mc mln n9 : Nat) (kL : ClassId) (fc : Nat → Int64) (sz : Nat) (hmln : mln ≤ 1000000) (hn9 : mln < n9 ∧ n9 ≤ 1000000) : Met l yJ7_copyOf_c38d5 wp_c_copyOfL ({ frames := 1, cells := 1, slots := n9, locals := 64 }) (va_Pc [.ref mc, .int (nI n9)] (fun U => U.heap.size = sz ∧ va_P (dC, dI) vwCl [(mc, .inl (kL, mln, .inr (.inl fc)))] U.heap ∧ va_K (dC, dI) vwCl [(kL, .long)] U ∧ va_D (fun _ => True) [(mc, .inl (kL, mln, .inr (.inl fc)))])) (va_Qr (fun _ : Unit => True) (fun (_ : Unit) (rA : Nat) (tS : State) => ∃ (gc : Nat → Int64), (∀ j : Nat, j < mln → gc j = fc j) ∧ va_P (dC, dI) vwCl [(rA, .inl (kL, n9, .inr (.inl gc)))] tS.heap ∧ va_K (dC, dI) vwCl [(kL, .long)] tS ∧ va_D (va_A [(mc, .inl (kL, mln, .inr (.inl fc)))] sz) [(rA, .inl (kL, n9, .inr (.inl gc)))]) (va_A [(mc, .inl (kL, mln, .inr (.inl fc)))] sz)) 1 n9 (va_A [(mc, .inl (kL, mln, .inr (.inl fc)))] sz) := by
  refine Met.ofW (cc := cJ7_copyOf_c38d5) (maxL := 3) (ret := (some (.array .long))) (by decide) rfl ?_
  intro p e s m args below meth c s₁ B hml hv
  obtain ⟨rfl, hsz, hP, hK, hD0⟩ := hv
  have hx := B.exec
  have hb := B.bytes
  have hr := B.returns
  have hts := atoms_spec (ws := wp_c_copyOfL) B.pre
  have hown : s.vm.findClass RJ7 = some m.cls := findClass_of_methodNamed B.named
  have hlocks := B.notSynchronized
  subst hsz
  have hD := hD0.self (sz := s.heap.size)
  generalize hAe : va_A [(mc, .inl (kL, mln, .inr (.inl fc)))] s.heap.size = A at hD ⊢
  have hA : ∀ q : Nat, s.heap.size ≤ q → A q := fun q h => by rw [← hAe]; exact Or.inr h
  have hS : va_S A s.heap s.heap [] := va_S.rf
  have hP : va_P (dC, dI) vwCl [(mc, .inl (kL, mln, .inr (.inl fc)))] s.heap := hP
  have hl := lv_entry ([.ref mc, .int (nI n9)]) (n := 3) (Nat.le_of_ble_eq_true rfl)
  rw [lg_entry_eq]
  generalize (lg_sl ([.ref mc, .int (nI n9)]) ++ List.replicate (3 - (lg_sl ([.ref mc, .int (nI n9)])).length) Slot.unset).toArray = ls at hl ⊢
  have hl : lv_has ls 3 [(0, .ref mc), (1, .int (nI n9))] := hl
  refine lv_iload_n hx hb dJ7_copyOf_c38d5_0 rfl (lv_at hl 1 rfl) ?_
  refine lv_aload_n hx hb dJ7_copyOf_c38d5_1 rfl (lv_at hl 0 rfl) ?_
  refine va_alen (v := nI mln) hx hb hK hP 0 0 rfl rfl rfl dJ7_copyOf_c38d5_2 ?_
  refine lv_icmp_ne (tgt := 14) hx hb dJ7_copyOf_c38d5_3 (by decide) (fun _ => ?_) (fun c_1 => absurd c_1 (fun y9 => absurd ((nI_eq (a := n9) (b := mln) (by omega) (by omega)).mp y9) (by omega)))
  refine lv_iload_n hx hb dJ7_copyOf_c38d5_14 rfl (lv_at hl 1 rfl) ?_
  refine va_newa (atype := .long) (a0 := (n9, .inr (.inl (fun _ => 0)))) (ty := .long) hx hb (hts (.arrayClass .long) (wm_c_copyOfL 1 rfl)) rfl hK hP hD hS hA (fun _ => rfl) (nI_pos (by omega)) (nI_clamp (by omega)) (show n9 * 8 ≤ 536870912 by omega) (show 0 + 1 ≤ 1 by omega) (show 0 + n9 ≤ n9 by omega) dJ7_copyOf_c38d5_15 (fun q_2 k_3 H hK hP hD hS => ?_)
  have hP : va_P (dC, dI) vwCl [(mc, .inl (kL, mln, .inr (.inl fc))), (q_2, .inl (k_3, n9, .inr (.inl (fun _ => 0))))] H := hP
  have hD : va_D A [(mc, .inl (kL, mln, .inr (.inl fc))), (q_2, .inl (k_3, n9, .inr (.inl (fun _ => 0))))] := hD
  have hK : va_K (dC, dI) vwCl [(kL, .long), (k_3, .long)] s := hK
  obtain rfl : kL = k_3 := kEq_long hK 0 1 rfl rfl
  have hK := hK.sub (tys' := [(kL, .long)]) [0] rfl
  have hP : va_P (dC, dI) vwCl [(mc, .inl (kL, mln, .inr (.inl fc))), (q_2, .inl (kL, n9, .inr (.inl (fun _ => 0))))] H := hP
  have hD : va_D A [(mc, .inl (kL, mln, .inr (.inl fc))), (q_2, .inl (kL, n9, .inr (.inl (fun _ => 0))))] := hD
  refine W.widen (k := 1) (n := n9) (by omega) (by omega) ?_
  refine lv_astore_n (lv' := [(2, .ref q_2), (0, .ref mc), (1, .int (nI n9))]) hx hb dJ7_copyOf_c38d5_17 rfl hl (by decide) rfl (fun ls hl => ?_)
  refine lv_aload_n hx hb dJ7_copyOf_c38d5_18 rfl (lv_at hl 1 rfl) ?_
  refine lv_iconst (v := 0) hx hb dJ7_copyOf_c38d5_19 (by decide) ?_
  refine lv_aload_n hx hb dJ7_copyOf_c38d5_20 rfl (lv_at hl 0 rfl) ?_
  refine lv_iconst (v := 0) hx hb dJ7_copyOf_c38d5_21 (by decide) ?_
  refine lv_aload_n hx hb dJ7_copyOf_c38d5_22 rfl (lv_at hl 1 rfl) ?_
  refine va_alen (v := nI mln) hx hb hK hP 0 0 rfl rfl rfl dJ7_copyOf_c38d5_23 ?_
  refine lv_iload_n hx hb dJ7_copyOf_c38d5_24 rfl (lv_at hl 2 rfl) ?_
  refine va_mmin hx hb (by rw [hml]; exact hl.1.symm) hown (hts (.methodLink RJ7 304 Lib.Math.min.name) (wm_c_copyOfL 2 rfl)) (hts (.static Lib.Math.min.name) (wm_c_copyOfL 3 rfl)) (hts (.initialized "java/lang/Math") (wm_c_copyOfL 4 rfl)) (hts (.code Lib.Math.min.name Lib.Math.min.code 2 (some .int)) (wm_c_copyOfL 5 rfl)) (Nat.le_of_ble_eq_true rfl) (Nat.le_of_ble_eq_true rfl) (show 1 ≤ 1 by omega) (show n9 ≤ n9 by omega) dJ7_copyOf_c38d5_25 ?_
  refine lv_topi (fun f_4 ef_4 => ?_)
  obtain rfl : f_4 = nI mln := (min_nI (a := mln) (b := n9) (by omega) (by omega) ef_4).trans (by rw [Nat.min_eq_left (by omega)])
  refine va_copyl (ty := .long) hx hb (by rw [hml]; exact hl.1.symm) hown (hts (.methodLink RJ7 150 arraycopyName) (wm_c_copyOfL 6 rfl)) (hts (.native arraycopyName) (wm_c_copyOfL 7 rfl)) (hts (.static arraycopyName) (wm_c_copyOfL 8 rfl)) (hts (.initialized "java/lang/System") (wm_c_copyOfL 9 rfl)) hK hP hD hS 0 1 0 0 rfl rfl rfl rfl rfl (by decide) (by decide) (nI_pos (by omega)) (by rw [nI_clamp (by omega), show Int32.toNatClampNeg 0 = 0 by decide]; omega) (by rw [nI_clamp (by omega), show Int32.toNatClampNeg 0 = 0 by decide]; omega) (fun _ _ => rfl) (Nat.le_of_ble_eq_true rfl) (Nat.le_of_ble_eq_true rfl) dJ7_copyOf_c38d5_28 (fun H locs hP hD hS => ?_)
  have hP : va_P (dC, dI) vwCl [(mc, .inl (kL, mln, .inr (.inl fc))), (q_2, .inl (kL, n9, .inr (.inl (va_cpy fc (fun _ => 0) (0 : Int32).toNatClampNeg (0 : Int32).toNatClampNeg (nI mln : Int32).toNatClampNeg))))] H := hP
  have hD : va_D A [(mc, .inl (kL, mln, .inr (.inl fc))), (q_2, .inl (kL, n9, .inr (.inl (va_cpy fc (fun _ => 0) (0 : Int32).toNatClampNeg (0 : Int32).toNatClampNeg (nI mln : Int32).toNatClampNeg))))] := hD
  obtain ⟨gc1, egc1⟩ : ∃ zZ : Nat → Int64, zZ = va_cpy fc (fun _ => 0) (0 : Int32).toNatClampNeg (0 : Int32).toNatClampNeg (nI mln : Int32).toNatClampNeg := ⟨_, rfl⟩
  rw [← egc1] at hP hD
  refine lv_aload_n hx hb dJ7_copyOf_c38d5_31 rfl (lv_at hl 0 rfl) ?_
  have hP9 := hP.sub (ws' := [(q_2, .inl (kL, n9, .inr (.inl gc1)))]) [1] rfl
  have hD9 := hD.sub (ws' := [(q_2, .inl (kL, n9, .inr (.inl gc1)))]) [1] (by decide) rfl
  have hK9 := hK.sub (tys' := [(kL, .long)]) [0] rfl
  refine W.widen (k := 1) (n := n9) (by omega) (by omega) ?_
  exact W.aret hx hb hr (Or.inr ⟨_, rfl⟩) (Or.inr ⟨q_2, rfl⟩) (fun tS ht hW => ⟨⟨(), q_2, rfl, trivial, gc1, fun j hj => by rw [egc1, nI_clamp (by omega)]; show (if 0 ≤ j ∧ j < 0 + mln then fc (0 + (j - 0)) else 0) = fc j; rw [if_pos (by omega), Nat.zero_add, Nat.sub_zero], by rw [ht]; exact hP9, va_K.moved hW.alike hK9, hD9⟩, hS.F ht⟩) hS.2.2 dJ7_copyOf_c38d5_32
def wf_c_mroom0 : List Cond := [.code yX6_makeRoom cX6_makeRoom 2 none, .fieldLink RX6 33 "OwnedPlaces$Memory" "cells" "[J"]
def wp_c_mroom0 : List Cond := wf_c_mroom0 ++ (wsX60 ++ [])
theorem in_c_mroom0_X6 : ∀ w ∈ wsX60, w ∈ wp_c_mroom0 := fun w h => List.mem_append_right _ (List.mem_append_left _ h)
theorem wg_c_mroom0 : wf_c_mroom0.all goodWord = true := by decide +kernel
theorem wm_c_mroom0 (k : Nat) {w : Cond} (h : wp_c_mroom0[k]? = some w) : w ∈ wp_c_mroom0 := List.mem_of_getElem? h
set_option maxHeartbeats 4000000 in
set_option maxRecDepth 100000 in
theorem c_mroom0 (l : Launch) (dC : Nat → ClassId) (dI : Nat → Nat → Nat) (me wq mc mt md0 md1 md2 mh : Nat) (mlo miu mmo mdt : Int32) (y y0 y1 y2 y3 y4 y5 y6 y7 y8 y9 y10 y11 y12 y13 : Nat) (yt yp : Nat) (kI kZ kB kL : ClassId) (ft : Nat → Int32) (mln n9 : Nat) (fc : Nat → Int64) (sz : Nat) (hmln : mln ≤ 1000000) (hn9 : n9 ≤ mln) : Met l yX6_makeRoom wp_c_mroom0 ({ frames := 0, cells := 0, slots := 0, locals := 0 }) (va_Pc [.ref me, .int (nI n9)] (fun U => U.heap.size = sz ∧ va_P (dC, dI) vwCl [(me, .inr (6, [.ref y, .ref wq, .int (nI mh), .ref mc, .ref mt, .int mlo, .int miu, .int mmo, .ref md0, .ref md1, .ref md2, .int mdt])), (mc, .inl (kL, mln, .inr (.inl fc)))] U.heap ∧ va_K (dC, dI) vwCl [(kL, .long)] U ∧ va_D (fun _ => True) [(me, .inr (6, [.ref y, .ref wq, .int (nI mh), .ref mc, .ref mt, .int mlo, .int miu, .int mmo, .ref md0, .ref md1, .ref md2, .int mdt])), (mc, .inl (kL, mln, .inr (.inl fc)))])) (va_Qv (fun _ : Unit => True) (fun (_ : Unit) (tS : State) => va_P (dC, dI) vwCl [(me, .inr (6, [.ref y, .ref wq, .int (nI mh), .ref mc, .ref mt, .int mlo, .int miu, .int mmo, .ref md0, .ref md1, .ref md2, .int mdt])), (mc, .inl (kL, mln, .inr (.inl fc)))] tS.heap ∧ va_K (dC, dI) vwCl [(kL, .long)] tS ∧ va_D (va_A [(me, .inr (6, [.ref y, .ref wq, .int (nI mh), .ref mc, .ref mt, .int mlo, .int miu, .int mmo, .ref md0, .ref md1, .ref md2, .int mdt])), (mc, .inl (kL, mln, .inr (.inl fc)))] sz) [(me, .inr (6, [.ref y, .ref wq, .int (nI mh), .ref mc, .ref mt, .int mlo, .int miu, .int mmo, .ref md0, .ref md1, .ref md2, .int mdt])), (mc, .inl (kL, mln, .inr (.inl fc)))]) (va_A [(me, .inr (6, [.ref y, .ref wq, .int (nI mh), .ref mc, .ref mt, .int mlo, .int miu, .int mmo, .ref md0, .ref md1, .ref md2, .int mdt])), (mc, .inl (kL, mln, .inr (.inl fc)))] sz)) 0 0 (va_A [(me, .inr (6, [.ref y, .ref wq, .int (nI mh), .ref mc, .ref mt, .int mlo, .int miu, .int mmo, .ref md0, .ref md1, .ref md2, .int mdt])), (mc, .inl (kL, mln, .inr (.inl fc)))] sz) := by
  refine Met.ofW (cc := cX6_makeRoom) (maxL := 2) (ret := none) (by decide) rfl ?_
  intro p e s m args below meth c s₁ B hml hv
  obtain ⟨rfl, hsz, hP, hK, hD0⟩ := hv
  have hx := B.exec
  have hb := B.bytes
  have hr := B.returns
  have hts := atoms_spec (ws := wp_c_mroom0) B.pre
  have hown : s.vm.findClass RX6 = some m.cls := findClass_of_methodNamed B.named
  have hlocks := B.notSynchronized
  subst hsz
  have hD := hD0.self (sz := s.heap.size)
  generalize hAe : va_A [(me, .inr (6, [.ref y, .ref wq, .int (nI mh), .ref mc, .ref mt, .int mlo, .int miu, .int mmo, .ref md0, .ref md1, .ref md2, .int mdt])), (mc, .inl (kL, mln, .inr (.inl fc)))] s.heap.size = A at hD ⊢
  have hA : ∀ q : Nat, s.heap.size ≤ q → A q := fun q h => by rw [← hAe]; exact Or.inr h
  have hS : va_S A s.heap s.heap [] := va_S.rf
  have hP : va_P (dC, dI) vwCl [(me, .inr (6, [.ref y, .ref wq, .int (nI mh), .ref mc, .ref mt, .int mlo, .int miu, .int mmo, .ref md0, .ref md1, .ref md2, .int mdt])), (mc, .inl (kL, mln, .inr (.inl fc)))] s.heap := hP
  have hl := lv_entry ([.ref me, .int (nI n9)]) (n := 2) (Nat.le_of_ble_eq_true rfl)
  rw [lg_entry_eq]
  generalize (lg_sl ([.ref me, .int (nI n9)]) ++ List.replicate (2 - (lg_sl ([.ref me, .int (nI n9)])).length) Slot.unset).toArray = ls at hl ⊢
  have hl : lv_has ls 2 [(0, .ref me), (1, .int (nI n9))] := hl
  refine lv_iload_n hx hb dX6_makeRoom_0 rfl (lv_at hl 1 rfl) ?_
  refine lv_aload_n hx hb dX6_makeRoom_1 rfl (lv_at hl 0 rfl) ?_
  refine va_get (D := (dC, dI)) (ci := 6) (v := .ref mc) (C := RX6) (T := TX6) (N := 12) hx hb hts in_c_mroom0_X6 hown hK hP 0 rfl rfl 3 (by decide) (hts (.fieldLink RX6 33 "OwnedPlaces$Memory" "cells" "[J") (wm_c_mroom0 1 rfl)) (fun _ h9 => h9) rfl dX6_makeRoom_2 ?_
  refine va_alen (v := nI mln) hx hb hK hP 1 0 rfl rfl rfl dX6_makeRoom_5 ?_
  refine lv_icmp_le (tgt := 31) hx hb dX6_makeRoom_6 (by decide) (fun _ => ?_) (fun c_1 => absurd (nI_le (a := n9) (b := mln) (by omega) (by omega)) c_1)
  have hP9 := hP.sub (ws' := [(me, .inr (6, [.ref y, .ref wq, .int (nI mh), .ref mc, .ref mt, .int mlo, .int miu, .int mmo, .ref md0, .ref md1, .ref md2, .int mdt])), (mc, .inl (kL, mln, .inr (.inl fc)))]) [0, 1] rfl
  have hD9 := hD.sub (ws' := [(me, .inr (6, [.ref y, .ref wq, .int (nI mh), .ref mc, .ref mt, .int mlo, .int miu, .int mmo, .ref md0, .ref md1, .ref md2, .int mdt])), (mc, .inl (kL, mln, .inr (.inl fc)))]) [0, 1] (by decide) rfl
  have hK9 := hK.sub (tys' := [(kL, .long)]) [0] rfl
  exact W.vret hx hb hr (fun tS ht hW => ⟨⟨(), rfl, trivial, by rw [ht]; exact hP9, va_K.moved hW.alike hK9, hD9⟩, hS.F ht⟩) hS.2.2 dX6_makeRoom_31
def wf_c_mroom1 : List Cond := [.code yX6_makeRoom cX6_makeRoom 2 none, .fieldLink RX6 33 "OwnedPlaces$Memory" "cells" "[J", .methodLink RX6 56 Lib.Math.max.name, .static Lib.Math.max.name, .initialized "java/lang/Math", .code Lib.Math.max.name Lib.Math.max.code 2 (some .int), .code yJ7_copyOf_c38d5 cJ7_copyOf_c38d5 3 (some (.array .long)), .arrayClass .long, .methodLink RJ7 304 Lib.Math.min.name, .static Lib.Math.min.name, .code Lib.Math.min.name Lib.Math.min.code 2 (some .int), .methodLink RJ7 150 arraycopyName, .native arraycopyName, .static arraycopyName, .initialized "java/lang/System", .methodLink RX6 62 yJ7_copyOf_c38d5, .static yJ7_copyOf_c38d5, .initialized RJ7]
def wp_c_mroom1 : List Cond := wf_c_mroom1 ++ (wsX60 ++ [])
theorem in_c_mroom1_X6 : ∀ w ∈ wsX60, w ∈ wp_c_mroom1 := fun w h => List.mem_append_right _ (List.mem_append_left _ h)
theorem wg_c_mroom1 : wf_c_mroom1.all goodWord = true := by decide +kernel
theorem wm_c_mroom1 (k : Nat) {w : Cond} (h : wp_c_mroom1[k]? = some w) : w ∈ wp_c_mroom1 := List.mem_of_getElem? h
set_option maxRecDepth 20000 in
theorem g_c_mroom1_c_copyOfL_25 : GoodIn wp_c_mroom1 (va_wsS RX6 62 yJ7_copyOf_c38d5 wp_c_copyOfL) := goodIn_app (goodIn_f [.methodLink RX6 62 yJ7_copyOf_c38d5, .static yJ7_copyOf_c38d5, .initialized RJ7] [15, 16, 17] rfl (by decide +kernel)) (goodIn_app (goodIn_f (wf_c_copyOfL) [6, 7, 8, 9, 4, 10, 11, 12, 13, 14] rfl wg_c_copyOfL) (goodIn_n))
set_option maxHeartbeats 4000000 in
set_option maxRecDepth 100000 in
theorem c_mroom1 (l : Launch) (dC : Nat → ClassId) (dI : Nat → Nat → Nat) (me wq mc mt md0 md1 md2 mh : Nat) (mlo miu mmo mdt : Int32) (y y0 y1 y2 y3 y4 y5 y6 y7 y8 y9 y10 y11 y12 y13 : Nat) (yt yp : Nat) (kI kZ kB kL : ClassId) (ft : Nat → Int32) (mln n9 : Nat) (fc : Nat → Int64) (m9 : Nat) (sz : Nat) (hmln : mln ≤ 1000000) (hn9 : mln < n9) (hm9 : m9 = max n9 (2 * mln) ∧ m9 ≤ 1000000) : Met l yX6_makeRoom wp_c_mroom1 ({ frames := 2, cells := 1, slots := m9, locals := 86 }) (va_Pc [.ref me, .int (nI n9)] (fun U => U.heap.size = sz ∧ va_P (dC, dI) vwCl [(me, .inr (6, [.ref y, .ref wq, .int (nI mh), .ref mc, .ref mt, .int mlo, .int miu, .int mmo, .ref md0, .ref md1, .ref md2, .int mdt])), (mc, .inl (kL, mln, .inr (.inl fc)))] U.heap ∧ va_K (dC, dI) vwCl [(kL, .long)] U ∧ va_D (fun _ => True) [(me, .inr (6, [.ref y, .ref wq, .int (nI mh), .ref mc, .ref mt, .int mlo, .int miu, .int mmo, .ref md0, .ref md1, .ref md2, .int mdt])), (mc, .inl (kL, mln, .inr (.inl fc)))])) (va_Qv (fun _ : Unit => True) (fun (_ : Unit) (tS : State) => ∃ (mc2 : Nat) (gc : Nat → Int64), (∀ j : Nat, j < mln → gc j = fc j) ∧ va_P (dC, dI) vwCl [(me, .inr (6, [.ref y, .ref wq, .int (nI mh), .ref mc2, .ref mt, .int mlo, .int miu, .int mmo, .ref md0, .ref md1, .ref md2, .int mdt])), (mc2, .inl (kL, m9, .inr (.inl gc)))] tS.heap ∧ va_K (dC, dI) vwCl [(kL, .long)] tS ∧ va_D (va_A [(me, .inr (6, [.ref y, .ref wq, .int (nI mh), .ref mc, .ref mt, .int mlo, .int miu, .int mmo, .ref md0, .ref md1, .ref md2, .int mdt])), (mc, .inl (kL, mln, .inr (.inl fc)))] sz) [(me, .inr (6, [.ref y, .ref wq, .int (nI mh), .ref mc2, .ref mt, .int mlo, .int miu, .int mmo, .ref md0, .ref md1, .ref md2, .int mdt])), (mc2, .inl (kL, m9, .inr (.inl gc)))]) (va_A [(me, .inr (6, [.ref y, .ref wq, .int (nI mh), .ref mc, .ref mt, .int mlo, .int miu, .int mmo, .ref md0, .ref md1, .ref md2, .int mdt])), (mc, .inl (kL, mln, .inr (.inl fc)))] sz)) 1 m9 (va_A [(me, .inr (6, [.ref y, .ref wq, .int (nI mh), .ref mc, .ref mt, .int mlo, .int miu, .int mmo, .ref md0, .ref md1, .ref md2, .int mdt])), (mc, .inl (kL, mln, .inr (.inl fc)))] sz) := by
  refine Met.ofW (cc := cX6_makeRoom) (maxL := 2) (ret := none) (by decide) rfl ?_
  intro p e s m args below meth c s₁ B hml hv
  obtain ⟨rfl, hsz, hP, hK, hD0⟩ := hv
  have hx := B.exec
  have hb := B.bytes
  have hr := B.returns
  have hts := atoms_spec (ws := wp_c_mroom1) B.pre
  have hown : s.vm.findClass RX6 = some m.cls := findClass_of_methodNamed B.named
  have hlocks := B.notSynchronized
  subst hsz
  have hD := hD0.self (sz := s.heap.size)
  generalize hAe : va_A [(me, .inr (6, [.ref y, .ref wq, .int (nI mh), .ref mc, .ref mt, .int mlo, .int miu, .int mmo, .ref md0, .ref md1, .ref md2, .int mdt])), (mc, .inl (kL, mln, .inr (.inl fc)))] s.heap.size = A at hD ⊢
  have hA : ∀ q : Nat, s.heap.size ≤ q → A q := fun q h => by rw [← hAe]; exact Or.inr h
  have hS : va_S A s.heap s.heap [] := va_S.rf
  have hP : va_P (dC, dI) vwCl [(me, .inr (6, [.ref y, .ref wq, .int (nI mh), .ref mc, .ref mt, .int mlo, .int miu, .int mmo, .ref md0, .ref md1, .ref md2, .int mdt])), (mc, .inl (kL, mln, .inr (.inl fc)))] s.heap := hP
  have hl := lv_entry ([.ref me, .int (nI n9)]) (n := 2) (Nat.le_of_ble_eq_true rfl)
  rw [lg_entry_eq]
  generalize (lg_sl ([.ref me, .int (nI n9)]) ++ List.replicate (2 - (lg_sl ([.ref me, .int (nI n9)])).length) Slot.unset).toArray = ls at hl ⊢
  have hl : lv_has ls 2 [(0, .ref me), (1, .int (nI n9))] := hl
  refine lv_iload_n hx hb dX6_makeRoom_0 rfl (lv_at hl 1 rfl) ?_
  refine lv_aload_n hx hb dX6_makeRoom_1 rfl (lv_at hl 0 rfl) ?_
  refine va_get (D := (dC, dI)) (ci := 6) (v := .ref mc) (C := RX6) (T := TX6) (N := 12) hx hb hts in_c_mroom1_X6 hown hK hP 0 rfl rfl 3 (by decide) (hts (.fieldLink RX6 33 "OwnedPlaces$Memory" "cells" "[J") (wm_c_mroom1 1 rfl)) (fun _ h9 => h9) rfl dX6_makeRoom_2 ?_
  refine va_alen (v := nI mln) hx hb hK hP 1 0 rfl rfl rfl dX6_makeRoom_5 ?_
  refine lv_icmp_le (tgt := 31) hx hb dX6_makeRoom_6 (by decide) (fun c_1 => absurd c_1 (fun y9 => absurd ((nI_leI (a := n9) (b := mln) (by omega) (by omega)).mp y9) (by omega))) (fun _ => ?_)
  refine lv_aload_n hx hb dX6_makeRoom_9 rfl (lv_at hl 0 rfl) ?_
  refine lv_aload_n hx hb dX6_makeRoom_10 rfl (lv_at hl 0 rfl) ?_
  refine va_get (D := (dC, dI)) (ci := 6) (v := .ref mc) (C := RX6) (T := TX6) (N := 12) hx hb hts in_c_mroom1_X6 hown hK hP 0 rfl rfl 3 (by decide) (hts (.fieldLink RX6 33 "OwnedPlaces$Memory" "cells" "[J") (wm_c_mroom1 1 rfl)) (fun _ h9 => h9) rfl dX6_makeRoom_11 ?_
  refine lv_iload_n hx hb dX6_makeRoom_14 rfl (lv_at hl 1 rfl) ?_
  refine lv_iconst (v := 2) hx hb dX6_makeRoom_15 (by decide) ?_
  refine lv_aload_n hx hb dX6_makeRoom_16 rfl (lv_at hl 0 rfl) ?_
  refine va_get (D := (dC, dI)) (ci := 6) (v := .ref mc) (C := RX6) (T := TX6) (N := 12) hx hb hts in_c_mroom1_X6 hown hK hP 0 rfl rfl 3 (by decide) (hts (.fieldLink RX6 33 "OwnedPlaces$Memory" "cells" "[J") (wm_c_mroom1 1 rfl)) (fun _ h9 => h9) rfl dX6_makeRoom_17 ?_
  refine va_alen (v := nI mln) hx hb hK hP 1 0 rfl rfl rfl dX6_makeRoom_20 ?_
  refine lv_imul hx hb dX6_makeRoom_21 ?_
  refine lv_topi (fun f_2 ef_2 => ?_)
  obtain rfl : f_2 = nI (2 * mln) := ef_2.trans (pk_mul 2 mln)
  refine va_mmax hx hb (by rw [hml]; exact hl.1.symm) hown (hts (.methodLink RX6 56 Lib.Math.max.name) (wm_c_mroom1 2 rfl)) (hts (.static Lib.Math.max.name) (wm_c_mroom1 3 rfl)) (hts (.initialized "java/lang/Math") (wm_c_mroom1 4 rfl)) (hts (.code Lib.Math.max.name Lib.Math.max.code 2 (some .int)) (wm_c_mroom1 5 rfl)) (Nat.le_of_ble_eq_true rfl) (Nat.le_of_ble_eq_true rfl) (Nat.zero_le _) (Nat.zero_le _) dX6_makeRoom_22 ?_
  refine lv_topi (fun f_3 ef_3 => ?_)
  obtain rfl : f_3 = nI m9 := (max_nI (a := n9) (b := 2 * mln) (by omega) (by omega) ef_3).trans (by rw [hm9.1])
  have hPc := hP.sub (ws' := [(mc, .inl (kL, mln, .inr (.inl fc)))]) [1] rfl
  have hDc := hD.sub (ws' := [(mc, .inl (kL, mln, .inr (.inl fc)))]) [1] (by decide) rfl
  have hKc := hK.sub (tys' := [(kL, .long)]) [0] rfl
  have hFc := va_free (wc := [(mc, .inl (kL, mln, .inr (.inl fc)))]) hD hS hA [1] rfl
  refine va_callr (va_runS (As := [.ref mc, .int (nI m9)]) (rest := [.ref me]) ⟨hx, hb, hml, hown, hts⟩ (c_copyOfL l dC dI mc mln m9 kL fc s.heap.size hmln (⟨by omega, by omega⟩)) (va_cwS 2 hts g_c_mroom1_c_copyOfL_25 rfl rfl rfl (by decide +kernel) ⟨Nat.le_of_ble_eq_true rfl, Nat.le_of_ble_eq_true rfl⟩) ⟨fun a U g mk q => by obtain ⟨q0, q1, qP, qK, qD⟩ := q; exact ⟨q0, q1, qP, va_K.moved (u := U) (U := U.calling g mk a) (Vm.Alike.refl U.vm) qK, qD⟩, fun U hU hW => ⟨rfl, by rw [hU], by rw [hU]; exact hPc, va_K.moved hW.alike hKc, hDc.weaken (fun _ _ _ _ => trivial)⟩⟩ rfl rfl hl.1 rfl (lv_room (Nat.le_of_ble_eq_true rfl)) dX6_makeRoom_25 ⟨(show 0 + 1 ≤ 1 by omega), (show 0 + m9 ≤ m9 by omega)⟩) hS (fun q _ h => hFc q h) hFc (fun u r_4 tS H1 locs ht hvm hw hB hz1 hk1 hS => ?_)
  obtain ⟨gc8, hf4_0, hP1, hK1, hD1⟩ := hB
  rw [ht] at hP1
  have hK1 := va_K.moved hvm.symm hK1
  obtain ⟨hP, hD⟩ := va_join (wr := [(me, .inr (6, [.ref y, .ref wq, .int (nI mh), .ref mc, .ref mt, .int mlo, .int miu, .int mmo, .ref md0, .ref md1, .ref md2, .int mdt]))]) (w1 := [(r_4, .inl (kL, m9, .inr (.inl gc8)))]) hP hD [1] [0] rfl rfl (by decide) (by decide) hk1 hFc hP1 hD1
  have hK := hK.app hK1
  generalize H1 = H at hP hS ⊢
  have hP : va_P (dC, dI) vwCl [(me, .inr (6, [.ref y, .ref wq, .int (nI mh), .ref mc, .ref mt, .int mlo, .int miu, .int mmo, .ref md0, .ref md1, .ref md2, .int mdt])), (r_4, .inl (kL, m9, .inr (.inl gc8)))] H := hP
  have hD : va_D A [(me, .inr (6, [.ref y, .ref wq, .int (nI mh), .ref mc, .ref mt, .int mlo, .int miu, .int mmo, .ref md0, .ref md1, .ref md2, .int mdt])), (r_4, .inl (kL, m9, .inr (.inl gc8)))] := hD
  have hK : va_K (dC, dI) vwCl [(kL, .long), (kL, .long)] s := hK
  have hK := hK.sub (tys' := [(kL, .long)]) [0] rfl
  have hP : va_P (dC, dI) vwCl [(me, .inr (6, [.ref y, .ref wq, .int (nI mh), .ref mc, .ref mt, .int mlo, .int miu, .int mmo, .ref md0, .ref md1, .ref md2, .int mdt])), (r_4, .inl (kL, m9, .inr (.inl gc8)))] H := hP
  have hD : va_D A [(me, .inr (6, [.ref y, .ref wq, .int (nI mh), .ref mc, .ref mt, .int mlo, .int miu, .int mmo, .ref md0, .ref md1, .ref md2, .int mdt])), (r_4, .inl (kL, m9, .inr (.inl gc8)))] := hD
  refine W.widen (k := 1) (n := m9) (by omega) (by omega) ?_
  refine va_put (D := (dC, dI)) (ci := 6) (v := .ref r_4) (ty := (.array .long)) (C := RX6) (T := TX6) (N := 12) hx hb hts in_c_mroom1_X6 tyX6 tyX6_ok nmX6 hown hK hP hD hS 0 rfl rfl 3 (by decide) (hts (.fieldLink RX6 33 "OwnedPlaces$Memory" "cells" "[J") (wm_c_mroom1 1 rfl)) (fun _ h9 => h9) rfl (by decide +kernel) rfl rfl (Nat.le_of_ble_eq_true rfl) dX6_makeRoom_28 (fun H locs hP hD hS => ?_)
  have hP : va_P (dC, dI) vwCl [(me, .inr (6, [.ref y, .ref wq, .int (nI mh), .ref r_4, .ref mt, .int mlo, .int miu, .int mmo, .ref md0, .ref md1, .ref md2, .int mdt])), (r_4, .inl (kL, m9, .inr (.inl gc8)))] H := hP
  have hD : va_D A [(me, .inr (6, [.ref y, .ref wq, .int (nI mh), .ref r_4, .ref mt, .int mlo, .int miu, .int mmo, .ref md0, .ref md1, .ref md2, .int mdt])), (r_4, .inl (kL, m9, .inr (.inl gc8)))] := hD
  have hP9 := hP.sub (ws' := [(me, .inr (6, [.ref y, .ref wq, .int (nI mh), .ref r_4, .ref mt, .int mlo, .int miu, .int mmo, .ref md0, .ref md1, .ref md2, .int mdt])), (r_4, .inl (kL, m9, .inr (.inl gc8)))]) [0, 1] rfl
  have hD9 := hD.sub (ws' := [(me, .inr (6, [.ref y, .ref wq, .int (nI mh), .ref r_4, .ref mt, .int mlo, .int miu, .int mmo, .ref md0, .ref md1, .ref md2, .int mdt])), (r_4, .inl (kL, m9, .inr (.inl gc8)))]) [0, 1] (by decide) rfl
  have hK9 := hK.sub (tys' := [(kL, .long)]) [0] rfl
  refine W.widen (k := 1) (n := m9) (by omega) (by omega) ?_
  exact W.vret hx hb hr (fun tS ht hW => ⟨⟨(), rfl, trivial, r_4, gc8, hf4_0, by rw [ht]; exact hP9, va_K.moved hW.alike hK9, hD9⟩, hS.F ht⟩) hS.2.2 dX6_makeRoom_31
