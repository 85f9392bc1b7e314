section LW6
theorem lw_gt {L i : Nat} (hL : L ≤ 385) (hi : i ≤ 1000) (h : ¬ nI L - 6 < nI i) : i + 6 ≤ L := by
  have h1 := Int32.le_iff_toInt_le.mp (Int32.not_lt.mp h)
  have e1 : (nI L - 6).toInt = (L : Int) - 6 := pk_sub_toInt (a := L) (b := 6) (by omega) (by decide)
  have e2 := pk_sub_toInt (a := i) (b := 0) (by omega) (by decide)
  rw [pk_sub (Nat.zero_le _), Nat.sub_zero] at e2
  rw [e1, e2] at h1
  omega
theorem s52_fd {K : Ky} {J : Nat → Prop} {S S2 : Sg} (a : FD9 J S S2) (h : s52 K S) : s52 K S2 := fun u hu => by
  rw [a.2.2.2.1, a.2.2.2.2.2.1, a.2.2.2.2.2.2.1]; exact h u hu
/-- the reference between two calls, its picture taken anew at this heap -/
theorem rfK_rp {D : va_G} {A : Nat → Prop} {kc : Nat → ClassId} {m9 ln : Nat} {mr : Nat → Nat} {S : Sg} {H H1 : Heap} {V : va_W} (hR : rfK kc m9 mr ln S H) (hz : H.size ≤ H1.size) (hP : va_P D vwCl (V ++ rfW kc m9 mr S) H1) (hD : va_D A (V ++ rfW kc m9 mr S)) : ∃ S2 : Sg, rfK kc m9 mr ln S2 H1 ∧ va_P D vwCl (V ++ rfW kc m9 mr S2) H1 ∧ va_D A (V ++ rfW kc m9 mr S2) := by
  obtain ⟨r1, r2, r3, r4, r5, r6⟩ := hR
  obtain ⟨a, b⟩ := rfW_rp (K := (kc, 0, 0)) (z := H1.size) r1 r2 hP hD
  obtain ⟨c, d⟩ := rp9_ms (z := H1.size) r2 (by rw [← r5]; exact hz)
  exact ⟨rp9 (kc, 0, 0) S H1.size, ⟨r1, c, d, r4, rfl, rfl⟩, a, b⟩
end LW6
theorem lw_mfeed {p : Program} {l : Launch} {e : Env} {s : State} {m : MethodId} {args : Array Value} {below : List Frame} {meth : Method} {c : Code} {H : Heap} {locs : List Loc} {cells slots : Nat} {Q : State → Prop} {ls : Array Slot} {st : List Value} {D : va_G} {A : Nat → Prop} {kc : Nat → ClassId} {m9 ln : Nat} {mr : Nat → Nat} {S : Sg} {V : va_W} {lv : List (Nat × Value)} (x1 x2 x3 x4 x5 : Int32) (F : CallFix p m c cL_law 4 s args lw_tbl RL) (hKt : va_K D vwCl (TY kc) s) (hns : nsM s) (hnw : nwA s) (hR : rfK kc m9 mr ln S H) (hP : va_P D vwCl (V ++ rfW kc m9 mr S) H) (hD : va_D A (V ++ rfW kc m9 mr S)) (hS : va_S A s.heap H locs) (hA : ∀ q : Nat, s.heap.size ≤ q → A q) (hl : lv_has ls 4 lv) (hct : (st.map fun v => v.category).sum ≤ 8) (hc1 : cells ≤ 600000) (hc2 : slots ≤ 7302250) (hln : ln + 20 ≤ 3000) (k : ∀ (S1 : Sg) (H1 : Heap) (locs1 : List Loc), rfK kc m9 mr (ln + 20) S1 H1 → H1.size = H.size → slN H1 ≤ slN H → va_P D vwCl (V ++ rfW kc m9 mr S1) H1 → va_D A (V ++ rfW kc m9 mr S1) → va_S A s.heap H1 locs1 → W p l e room_1 s m args below meth c H1 locs1 cells slots Q (F0 m 138 ls (.int 1 :: st))) : W p l e room_1 s m args below meth c H locs cells slots Q (F0 m 135 ls (.int x5 :: .int x4 :: .int x3 :: .int x2 :: .int x1 :: .ref m9 :: st)) := by
  obtain ⟨r1, r2, r3, r4, r5, r6⟩ := hR
  have hM : mS (kc, Zz S, 0) S := mS_k r2 rfl
  obtain ⟨Sf, rf, hf, hq⟩ := fed9_ (K := (kc, Zz S, 0)) (a := x1) (b := x2) (c := x3) (d := x4) (e := x5) r4 hln
  obtain ⟨rfl, hq1, hq2⟩ := hq
  have hM2 : mS (kc, 0, 0) Sf := hq1.ms r2 (r2.1.eq (hq1.1 83 (by unfold J1; decide)) (hq1.1 84 (by unfold J1; decide))) (by obtain ⟨c9, e1, e2⟩ := r2.2.1; exact ⟨c9, e1, (hq1.1 86 (by unfold J1; decide)).trans e2⟩) (by unfold J1; decide)
  have hz : Zz Sf = Zz S := hq1.2.2.2.2.2.2.2.1
  have hn : Zn Sf = Zn S := hq1.2.2.2.2.2.2.2.2
  refine lw_ct (K := (kc, Zz S, 0)) (n := 5) (frc := 2) (loc := 42) (As := [.int x1, .int x2, .int x3, .int x4, .int x5]) (Sf := Sf) (rv := some (.int 1)) F hKt hns hnw r1 hP hD hS hA r5 (Nat.le_refl _) (by rw [r6]; exact Nat.le_refl _) hl (k_X23_feed l D (kc, Zz S, 0) m9 mr S Sf x1 x2 x3 x4 x5 _ hf) gm_feed (by decide +kernel) rfl ⟨Nat.le_of_ble_eq_true rfl, Nat.le_of_ble_eq_true rfl⟩ hct dL_law_135 (by show cells + (Zz S - Zz S) ≤ 600000; omega) (by show slots + (0 - Zn S) ≤ 7302250; omega) (fun H1 locs1 a b d f g => ?_)
  refine W.widen (k := cells) (n := slots) (by show cells + (Zz S - Zz S) ≤ cells; omega) (by show slots + (0 - Zn S) ≤ slots; omega) ?_
  exact k Sf H1 locs1 ⟨r1, hM2, s52_fd hq1 r3, hq2, f, by rw [hn]; exact r6⟩ (by rw [f, hz, r5]) (by omega) a b d
theorem lw_minput {p : Program} {l : Launch} {e : Env} {s : State} {m : MethodId} {args : Array Value} {below : List Frame} {meth : Method} {c : Code} {H : Heap} {locs : List Loc} {cells slots : Nat} {Q : State → Prop} {ls : Array Slot} {st : List Value} {D : va_G} {A : Nat → Prop} {kc : Nat → ClassId} {m9 ln : Nat} {mr : Nat → Nat} {S : Sg} {V : va_W} {lv : List (Nat × Value)} (x1 : Int64) (F : CallFix p m c cL_law 4 s args lw_tbl RL) (hKt : va_K D vwCl (TY kc) s) (hns : nsM s) (hnw : nwA s) (hR : rfK kc m9 mr ln S H) (hP : va_P D vwCl (V ++ rfW kc m9 mr S) H) (hD : va_D A (V ++ rfW kc m9 mr S)) (hS : va_S A s.heap H locs) (hA : ∀ q : Nat, s.heap.size ≤ q → A q) (hl : lv_has ls 4 lv) (hct : (st.map fun v => v.category).sum ≤ 8) (hc1 : cells ≤ 600000) (hc2 : slots ≤ 7302250) (k : ∀ (S1 : Sg) (H1 : Heap) (locs1 : List Loc) (rf : Int32), rfK kc m9 mr (ln) S1 H1 → H1.size = H.size → slN H1 ≤ slN H → va_P D vwCl (V ++ rfW kc m9 mr S1) H1 → va_D A (V ++ rfW kc m9 mr S1) → va_S A s.heap H1 locs1 → W p l e room_1 s m args below meth c H1 locs1 cells slots Q (F0 m 192 ls (.int rf :: st))) : W p l e room_1 s m args below meth c H locs cells slots Q (F0 m 189 ls (.long x1 :: .ref m9 :: st)) := by
  obtain ⟨r1, r2, r3, r4, r5, r6⟩ := hR
  have hM : mS (kc, Zz S, 0) S := mS_k r2 rfl
  obtain ⟨Sf, rf, hf, hq⟩ := inp9_ (K := (kc, Zz S, 0)) (v := x1) hM
  obtain ⟨hq1, hq3⟩ := hq
  have hM2 : mS (kc, 0, 0) Sf := mS_k hq3 rfl
  have hq2 : Zi Sf 1 = nI ln := (hq1.1 1 (by unfold J86; decide)).trans r4
  have hz : Zz Sf = Zz S := hq1.2.2.2.2.2.2.2.1
  have hn : Zn Sf = Zn S := hq1.2.2.2.2.2.2.2.2
  refine lw_ct (K := (kc, Zz S, 0)) (n := 1) (frc := 1) (loc := 20) (As := [.long x1]) (Sf := Sf) (rv := some (.int rf)) F hKt hns hnw r1 hP hD hS hA r5 (Nat.le_refl _) (by rw [r6]; exact Nat.le_refl _) hl (k_X23_input l D (kc, Zz S, 0) m9 mr S Sf x1 _ hf) gm_input (by decide +kernel) rfl ⟨Nat.le_of_ble_eq_true rfl, Nat.le_of_ble_eq_true rfl⟩ hct dL_law_189 (by show cells + (Zz S - Zz S) ≤ 600000; omega) (by show slots + (0 - Zn S) ≤ 7302250; omega) (fun H1 locs1 a b d f g => ?_)
  refine W.widen (k := cells) (n := slots) (by show cells + (Zz S - Zz S) ≤ cells; omega) (by show slots + (0 - Zn S) ≤ slots; omega) ?_
  exact k Sf H1 locs1 rf ⟨r1, hM2, s52_fd hq1 r3, hq2, f, by rw [hn]; exact r6⟩ (by rw [f, hz, r5]) (by omega) a b d
theorem lw_mplace_ {p : Program} {l : Launch} {e : Env} {s : State} {m : MethodId} {args : Array Value} {below : List Frame} {meth : Method} {c : Code} {H : Heap} {locs : List Loc} {cells slots : Nat} {Q : State → Prop} {ls : Array Slot} {st : List Value} {D : va_G} {A : Nat → Prop} {kc : Nat → ClassId} {m9 ln : Nat} {mr : Nat → Nat} {S : Sg} {V : va_W} {lv : List (Nat × Value)}  (F : CallFix p m c cL_law 4 s args lw_tbl RL) (hKt : va_K D vwCl (TY kc) s) (hns : nsM s) (hnw : nwA s) (hR : rfK kc m9 mr ln S H) (hP : va_P D vwCl (V ++ rfW kc m9 mr S) H) (hD : va_D A (V ++ rfW kc m9 mr S)) (hS : va_S A s.heap H locs) (hA : ∀ q : Nat, s.heap.size ≤ q → A q) (hl : lv_has ls 4 lv) (hct : (st.map fun v => v.category).sum ≤ 8) (hc1 : cells ≤ 600000) (hc2 : slots ≤ 7302250) (k : ∀ (S1 : Sg) (H1 : Heap) (locs1 : List Loc) (rf : Int32), rfK kc m9 mr (ln) S1 H1 → H1.size = H.size → slN H1 ≤ slN H → va_P D vwCl (V ++ rfW kc m9 mr S1) H1 → va_D A (V ++ rfW kc m9 mr S1) → va_S A s.heap H1 locs1 → W p l e room_1 s m args below meth c H1 locs1 cells slots Q (F0 m 238 ls (.int rf :: st))) : W p l e room_1 s m args below meth c H locs cells slots Q (F0 m 235 ls (.ref m9 :: st)) := by
  obtain ⟨r1, r2, r3, r4, r5, r6⟩ := hR
  have hM : mS (kc, Zz S, 0) S := mS_k r2 rfl
  obtain ⟨Sf, rf, hf, hq⟩ := plc9_ (K := (kc, Zz S, 0)) hM
  subst hq
  have hq1 : FD9 J1 Sf Sf := FD9.rf
  have hM2 : mS (kc, 0, 0) Sf := r2
  have hq2 : Zi Sf 1 = nI ln := r4
  have hz : Zz Sf = Zz Sf := hq1.2.2.2.2.2.2.2.1
  have hn : Zn Sf = Zn Sf := hq1.2.2.2.2.2.2.2.2
  refine lw_ct (K := (kc, Zz Sf, 0)) (n := 0) (frc := 1) (loc := 20) (As := []) (Sf := Sf) (rv := some (.int rf)) F hKt hns hnw r1 hP hD hS hA r5 (Nat.le_refl _) (by rw [r6]; exact Nat.le_refl _) hl (k_X23_place_ l D (kc, Zz Sf, 0) m9 mr Sf Sf  _ hf) gm_place_ (by decide +kernel) rfl ⟨Nat.le_of_ble_eq_true rfl, Nat.le_of_ble_eq_true rfl⟩ hct dL_law_235 (by show cells + (Zz Sf - Zz Sf) ≤ 600000; omega) (by show slots + (0 - Zn Sf) ≤ 7302250; omega) (fun H1 locs1 a b d f g => ?_)
  refine W.widen (k := cells) (n := slots) (by show cells + (Zz Sf - Zz Sf) ≤ cells; omega) (by show slots + (0 - Zn Sf) ≤ slots; omega) ?_
  exact k Sf H1 locs1 rf ⟨r1, hM2, s52_fd hq1 r3, hq2, f, by rw [hn]; exact r6⟩ (by rw [f, hz, r5]) (by omega) a b d
theorem lw_mfetch {p : Program} {l : Launch} {e : Env} {s : State} {m : MethodId} {args : Array Value} {below : List Frame} {meth : Method} {c : Code} {H : Heap} {locs : List Loc} {cells slots : Nat} {Q : State → Prop} {ls : Array Slot} {st : List Value} {D : va_G} {A : Nat → Prop} {kc : Nat → ClassId} {m9 ln : Nat} {mr : Nat → Nat} {S : Sg} {V : va_W} {lv : List (Nat × Value)}  (F : CallFix p m c cL_law 4 s args lw_tbl RL) (hKt : va_K D vwCl (TY kc) s) (hns : nsM s) (hnw : nwA s) (hR : rfK kc m9 mr ln S H) (hP : va_P D vwCl (V ++ rfW kc m9 mr S) H) (hD : va_D A (V ++ rfW kc m9 mr S)) (hS : va_S A s.heap H locs) (hA : ∀ q : Nat, s.heap.size ≤ q → A q) (hl : lv_has ls 4 lv) (hct : (st.map fun v => v.category).sum ≤ 8) (hc1 : cells ≤ 600000) (hc2 : slots ≤ 7302250) (k : ∀ (S1 : Sg) (H1 : Heap) (locs1 : List Loc) (rf : Int64), rfK kc m9 mr (ln) S1 H1 → H1.size = H.size → slN H1 ≤ slN H → va_P D vwCl (V ++ rfW kc m9 mr S1) H1 → va_D A (V ++ rfW kc m9 mr S1) → va_S A s.heap H1 locs1 → W p l e room_1 s m args below meth c H1 locs1 cells slots Q (F0 m 251 ls (.long rf :: st))) : W p l e room_1 s m args below meth c H locs cells slots Q (F0 m 248 ls (.ref m9 :: st)) := by
  obtain ⟨r1, r2, r3, r4, r5, r6⟩ := hR
  have hM : mS (kc, Zz S, 0) S := mS_k r2 rfl
  obtain ⟨Sf, rf, hf, hq⟩ := fet9_ (K := (kc, Zz S, 0)) hM
  obtain ⟨hq1, hq3⟩ := hq
  have hM2 : mS (kc, 0, 0) Sf := mS_k hq3 rfl
  have hq2 : Zi Sf 1 = nI ln := (hq1.1 1 (by unfold J83; decide)).trans r4
  have hz : Zz Sf = Zz S := hq1.2.2.2.2.2.2.2.1
  have hn : Zn Sf = Zn S := hq1.2.2.2.2.2.2.2.2
  refine lw_ct (K := (kc, Zz S, 0)) (n := 0) (frc := 1) (loc := 20) (As := []) (Sf := Sf) (rv := some (.long rf)) F hKt hns hnw r1 hP hD hS hA r5 (Nat.le_refl _) (by rw [r6]; exact Nat.le_refl _) hl (k_X23_fetch l D (kc, Zz S, 0) m9 mr S Sf  _ hf) gm_fetch (by decide +kernel) rfl ⟨Nat.le_of_ble_eq_true rfl, Nat.le_of_ble_eq_true rfl⟩ hct dL_law_248 (by show cells + (Zz S - Zz S) ≤ 600000; omega) (by show slots + (0 - Zn S) ≤ 7302250; omega) (fun H1 locs1 a b d f g => ?_)
  refine W.widen (k := cells) (n := slots) (by show cells + (Zz S - Zz S) ≤ cells; omega) (by show slots + (0 - Zn S) ≤ slots; omega) ?_
  exact k Sf H1 locs1 rf ⟨r1, hM2, s52_fd hq1 r3, hq2, f, by rw [hn]; exact r6⟩ (by rw [f, hz, r5]) (by omega) a b d
theorem lw_mcount {p : Program} {l : Launch} {e : Env} {s : State} {m : MethodId} {args : Array Value} {below : List Frame} {meth : Method} {c : Code} {H : Heap} {locs : List Loc} {cells slots : Nat} {Q : State → Prop} {ls : Array Slot} {st : List Value} {D : va_G} {A : Nat → Prop} {kc : Nat → ClassId} {m9 ln : Nat} {mr : Nat → Nat} {S : Sg} {V : va_W} {lv : List (Nat × Value)} (x1 : Int32) (F : CallFix p m c cL_law 4 s args lw_tbl RL) (hKt : va_K D vwCl (TY kc) s) (hns : nsM s) (hnw : nwA s) (hR : rfK kc m9 mr ln S H) (hP : va_P D vwCl (V ++ rfW kc m9 mr S) H) (hD : va_D A (V ++ rfW kc m9 mr S)) (hS : va_S A s.heap H locs) (hA : ∀ q : Nat, s.heap.size ≤ q → A q) (hl : lv_has ls 4 lv) (hct : (st.map fun v => v.category).sum ≤ 8) (hc1 : cells ≤ 600000) (hc2 : slots ≤ 7302250) (k : ∀ (S1 : Sg) (H1 : Heap) (locs1 : List Loc) (rf : Int32), rfK kc m9 mr (ln) S1 H1 → H1.size = H.size → slN H1 ≤ slN H → va_P D vwCl (V ++ rfW kc m9 mr S1) H1 → va_D A (V ++ rfW kc m9 mr S1) → va_S A s.heap H1 locs1 → W p l e room_1 s m args below meth c H1 locs1 cells slots Q (F0 m 274 ls (.int rf :: st))) : W p l e room_1 s m args below meth c H locs cells slots Q (F0 m 271 ls (.int x1 :: .ref m9 :: st)) := by
  obtain ⟨r1, r2, r3, r4, r5, r6⟩ := hR
  have hM : mS (kc, Zz S, 0) S := mS_k r2 rfl
  obtain ⟨Sf, rf, hf, hq⟩ := cnt9_ (K := (kc, Zz S, 0)) (S := S) (x := x1)
  subst hq
  have hq1 : FD9 J1 Sf Sf := FD9.rf
  have hM2 : mS (kc, 0, 0) Sf := r2
  have hq2 : Zi Sf 1 = nI ln := r4
  have hz : Zz Sf = Zz Sf := hq1.2.2.2.2.2.2.2.1
  have hn : Zn Sf = Zn Sf := hq1.2.2.2.2.2.2.2.2
  refine lw_ct (K := (kc, Zz Sf, 0)) (n := 1) (frc := 1) (loc := 20) (As := [.int x1]) (Sf := Sf) (rv := some (.int rf)) F hKt hns hnw r1 hP hD hS hA r5 (Nat.le_refl _) (by rw [r6]; exact Nat.le_refl _) hl (k_X23_count l D (kc, Zz Sf, 0) m9 mr Sf Sf x1 _ hf) gm_count (by decide +kernel) rfl ⟨Nat.le_of_ble_eq_true rfl, Nat.le_of_ble_eq_true rfl⟩ hct dL_law_271 (by show cells + (Zz Sf - Zz Sf) ≤ 600000; omega) (by show slots + (0 - Zn Sf) ≤ 7302250; omega) (fun H1 locs1 a b d f g => ?_)
  refine W.widen (k := cells) (n := slots) (by show cells + (Zz Sf - Zz Sf) ≤ cells; omega) (by show slots + (0 - Zn Sf) ≤ slots; omega) ?_
  exact k Sf H1 locs1 rf ⟨r1, hM2, s52_fd hq1 r3, hq2, f, by rw [hn]; exact r6⟩ (by rw [f, hz, r5]) (by omega) a b d
theorem lw_mrun {p : Program} {l : Launch} {e : Env} {s : State} {m : MethodId} {args : Array Value} {below : List Frame} {meth : Method} {c : Code} {H : Heap} {locs : List Loc} {cells slots : Nat} {Q : State → Prop} {ls : Array Slot} {st : List Value} {D : va_G} {A : Nat → Prop} {kc : Nat → ClassId} {m9 ln : Nat} {mr : Nat → Nat} {S : Sg} {V : va_W} {lv : List (Nat × Value)} (n0 fu0 : Int32) {t0 t1 t2 t3 : Nat} (F : CallFix p m c cL_law 4 s args lw_tbl RL) (hKt : va_K D vwCl (TY kc) s) (hns : nsM s) (hnw : nwA s) (hR : rfK kc m9 mr ln S H) (hP : va_P D vwCl (V ++ rfW kc m9 mr S) H) (hD : va_D A (V ++ rfW kc m9 mr S)) (hS : va_S A s.heap H locs) (hA : ∀ q : Nat, s.heap.size ≤ q → A q) (hl : lv_has ls 4 lv) (hct : (st.map fun v => v.category).sum ≤ 8) (hc1 : cells ≤ 600000) (hc2 : slots ≤ 7302250) (hst : stA t0 t1 t2 t3 A s s.heap) (hk : ∀ i j : Nat, i < 14 → j < 14 → i ≠ j → kc i ≠ kc j) (hln : ln ≤ 1300) (hc3 : cells + 60000 ≤ 600000) (hc4 : slots + 600000 ≤ 7302250) (k : ∀ (S1 : Sg) (H1 : Heap) (locs1 : List Loc) (v : Int32) (l2 dn ds : Nat), rfK kc m9 mr l2 S1 H1 → l2 ≤ ln → dn + 110 * l2 ≤ 110 * ln + 30 → ds + 490 * l2 ≤ 490 * ln + 220 → H1.size ≤ H.size + dn → slN H1 ≤ slN H + ds → va_P D vwCl (V ++ rfW kc m9 mr S1) H1 → va_D A (V ++ rfW kc m9 mr S1) → va_S A s.heap H1 locs1 → W p l e room_1 s m args below meth c H1 locs1 600000 7302250 Q (F0 m 225 ls (.int v :: st))) : W p l e room_1 s m args below meth c H locs cells slots Q (F0 m 222 ls (.int fu0 :: .int n0 :: .ref m9 :: st)) := by
  obtain ⟨r1, r2, r3, r4, r5, r6⟩ := hR
  refine lw_run (K := (kc, Zz S + (600000 - cells), 7302250 - slots)) F hKt hns hnw hst hk r1 (mS_k r2 rfl) (s52_k r3 rfl) r4 hln hP hD hS hA r5 (by show Zz S + 60000 ≤ Zz S + (600000 - cells); omega) (by show Zn S + 600000 ≤ 7302250 - slots; omega) hl gm_run ⟨Nat.le_of_ble_eq_true rfl, Nat.le_of_ble_eq_true rfl⟩ hct dL_law_222 (by show cells + (Zz S + (600000 - cells) - Zz S) ≤ 600000; omega) (by show slots + (7302250 - slots - Zn S) ≤ 7302250; omega) (fun Sf v l2 H1 locs1 q1 q2 q3 q4 q5 a b d f g => ?_)
  refine W.widen (k := 600000) (n := 7302250) (by show cells + (Zz S + (600000 - cells) - Zz S) ≤ 600000; omega) (by show slots + (7302250 - slots - Zn S) ≤ 7302250; omega) ?_
  have hM2 : mS (kc, 0, 0) Sf := mS_k q1 rfl
  obtain ⟨a2, b2⟩ := rfW_rp (K := (kc, 0, 0)) (z := H1.size) r1 hM2 a b
  obtain ⟨c2, d2⟩ := rp9_ms (z := H1.size) hM2 (by rw [f]; exact Nat.le_refl _)
  exact k (rp9 (kc, 0, 0) Sf H1.size) H1 locs1 v l2 (Zz Sf - Zz S) (Zn Sf - Zn S) ⟨r1, c2, d2, q2, rfl, rfl⟩ q3 (by omega) (by omega) (by omega) g a2 b2 d
