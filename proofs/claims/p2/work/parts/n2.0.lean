section LW2
variable {p : Program} {l : Launch} {e : Env} {R : Room} {s : State} {m : MethodId} {args : Array Value} {below : List Frame} {meth : Method} {c : Code} {H : Heap} {locs : List Loc} {cells slots : Nat} {Q : State → Prop} {cc : ByteArray} {nL pc : Nat} {ls : Array Slot} {st : List Value} {Ts : List Cond} {own : String}
variable {D : va_G} {A : Nat → Prop} {K : Ky} {m9 : Nat} {mr : Nat → Nat} {S : Sg} {V : va_W} {lv : List (Nat × Value)}
/-- behind a call of the reference: the class's world is as it was -/
theorem lw_aft {Φ : Sg → Option Value → Prop} {Qa : State → Outcome → State → Prop} {av : Array Value} {st0 : List Value} (hP : va_P D vwCl (V ++ rfW K.1 m9 mr S) H) (hD : va_D A (V ++ rfW K.1 m9 mr S)) (hS : va_S A s.heap H locs) (hA : ∀ q : Nat, s.heap.size ≤ q → A q) (hz : H.size = Zz S)
  (hr : va_Run p l e R s m args below meth c H locs cells slots (K.2.1 - Zz S) (K.2.2 - Zn S) (F0 m pc ls st0) st Qa (AA K m9 mr S)) (hQ : ∀ (s1 : State) (o : Outcome) (t : State), Qa s1 o t → ∃ (Sf : Sg) (rv : Option Value), Φ Sf rv ∧ QC D K m9 mr S Sf rv av s1 o t)
  (k : ∀ (Sf : Sg) (rv : Option Value) (H1 : Heap) (locs1 : List Loc), Φ Sf rv → va_P D vwCl (V ++ rfW K.1 m9 mr Sf) H1 → va_D A (V ++ rfW K.1 m9 mr Sf) → va_S A s.heap H1 locs1 → H1.size = Zz Sf → slN H1 ≤ slN H + (Zn Sf - Zn S) → W p l e R s m args below meth c H1 locs1 (cells + (K.2.1 - Zz S)) (slots + (K.2.2 - Zn S)) Q (F0 m (pc + 3) ls (rv.toList ++ st))) : W p l e R s m args below meth c H locs cells slots Q (F0 m pc ls st0) := by
  intro T hT X
  obtain ⟨v, st₀, t, T', L, h0, X', hL, e1, e2, hq, st'⟩ := hr T hT X
  obtain ⟨Sf, rv, hΦ, hv, hP2, hn2, hz2, hk⟩ := hQ _ _ _ hq
  cases hv
  rw [h0] at hP2 hz2 hk hn2
  have hAe : AA K m9 mr S = va_A (rfW K.1 m9 mr S) H.size := by unfold AA; rw [hz]; rfl
  have hAA : ∀ q : Nat, AA K m9 mr S q → A q := fun q hq => by
    rcases hq with ⟨i, x, hi⟩ | hq
    · exact hD.tl.2 i _ hi
    · exact hA q (Nat.le_trans hS.1 (by rw [hz]; exact hq))
  obtain ⟨j1, j2⟩ := va_joinL (va_swP hP) (va_swD hD) (fun q h1 h2 => hk q h1 (by rw [hAe]; exact h2)) (fun q h => hAA q (by rw [hAe]; exact h)) hP2.1 (by rw [← hAe]; exact hP2.2.1)
  have hS1 : va_S A s.heap t.heap (locs ++ L) := ⟨Nat.le_trans hS.1 hz2, fun q h1 h2 => by rw [hk q (Nat.lt_of_lt_of_le h1 hS.1) (fun z => h2 (hAA q z))]; exact hS.2.1 q h1 h2, fun q hq => by
      rcases List.mem_append.mp hq with h | h
      · exact hS.2.2 q h
      · exact hAA _ (hL q h)⟩
  obtain ⟨t2, a1, b1⟩ := k Sf v t.heap (locs ++ L) hΦ (va_swP j1) (va_swD j2) hS1 hP2.2.2.2.1 hn2 T' e1 X'
  exact ⟨t2, st' t2 a1, b1⟩
theorem lw_PI (hP : va_P D vwCl (V ++ rfW K.1 m9 mr S) H) (hD : va_D A (V ++ rfW K.1 m9 mr S)) (hz : H.size = Zz S) (h1 : Zz S ≤ K.2.1) (h2 : Zn S ≤ K.2.2) (hi : ∀ r ∈ rwL, ∀ r2 ∈ rwL, mr r = mr r2 → r = r2) : PI D (fun _ => True) K m9 mr H S S H [] := ⟨hP.tl, hD.tl.weaken (fun _ _ _ _ => trivial), va_S.rf, hz, Nat.le_refl _, fun _ q => q, fun q a b => absurd b (by rw [← hz]; omega), ⟨h1, h2⟩, hi⟩
theorem lw_m9 (hP : va_P D vwCl (V ++ rfW K.1 m9 mr S) H) : va_P D vwCl [(m9, .inr (23, mO mr S))] H := by
  have := va_P.st (f := []) (L := LL m9 mr S) (F := FF K.1 m9 mr S) hP.tl (a := m9) LLm rfl
  rwa [FF_m] at this
/-- a call of one of its methods -/
theorem lw_ct {y : MethodName} {yc : ByteArray} {mL n idx frc loc : Nat} {rt : Option FieldType} {As : List Value} {Sf : Sg} {rv : Option Value} (F : CallFix p m c cc nL s args Ts own) (hKt : va_K D vwCl (TY K.1) s) (hns : nsM s) (hnw : nwA s) (hi : ∀ r ∈ rwL, ∀ r2 ∈ rwL, mr r = mr r2 → r = r2)
  (hP : va_P D vwCl (V ++ rfW K.1 m9 mr S) H) (hD : va_D A (V ++ rfW K.1 m9 mr S)) (hS : va_S A s.heap H locs) (hA : ∀ q : Nat, s.heap.size ≤ q → A q) (hz : H.size = Zz S) (h1 : Zz S ≤ K.2.1) (h2 : Zn S ≤ K.2.2) (hl : lv_has ls nL lv)
  (hM : CT l D K m9 mr y (Cond.code y yc mL rt) frc loc S Sf (.ref m9 :: As) rv) (hg : GoodIn Ts (wsV own idx RX23 y (Cond.code y yc mL rt :: wR))) (hds : y.cls = RX23 ∧ y.cls ≠ "java/lang/invoke/MethodHandle" ∧ y.cls ≠ "java/lang/invoke/VarHandle" ∧ (parseMethodDescriptor y.desc).map (fun d => d.parameters.length) = some n) (hn : As.length = n) (hrm : frc + 1 ≤ R.frames ∧ 8 + (mL + 11) + loc ≤ R.locals) (hct : (st.map fun v => v.category).sum ≤ 8) (hd : decode cc pc = .ok (.invokevirtual idx, 3)) (hc1 : cells + (K.2.1 - Zz S) ≤ R.cells) (hc2 : slots + (K.2.2 - Zn S) ≤ R.slots)
  (k : ∀ (H1 : Heap) (locs1 : List Loc), va_P D vwCl (V ++ rfW K.1 m9 mr Sf) H1 → va_D A (V ++ rfW K.1 m9 mr Sf) → va_S A s.heap H1 locs1 → H1.size = Zz Sf → slN H1 ≤ slN H + (Zn Sf - Zn S) → W p l e R s m args below meth c H1 locs1 (cells + (K.2.1 - Zz S)) (slots + (K.2.2 - Zn S)) Q (F0 m (pc + 3) ls (rv.toList ++ st))) : W p l e R s m args below meth c H locs cells slots Q (F0 m pc ls (As.reverse ++ .ref m9 :: st)) := by
  refine lw_aft (Φ := fun a b => a = Sf ∧ b = rv) hP hD hS hA hz (va_runV (As := As) (rest := st) F hM (cwV n F.2.2.2.2 hg rfl rfl rfl hds hrm) ⟨fun a U g mk q => by obtain ⟨q0, qP, qK, q1, q2⟩ := q; exact ⟨q0, qP, va_K.moved (u := U) (U := U.calling g mk a) (Vm.Alike.refl U.vm) qK, nsM.same (u := U) (U := U.calling g mk a) rfl q1, nwA.moved (u := U) (U := U.calling g mk a) (Vm.Alike.refl U.vm) q2⟩, va_recv hKt (lw_m9 hP) (ci := 23) (q0 := 0) rfl rfl, fun U hU hW => ⟨rfl, by rw [hU]; exact lw_PI hP hD hz h1 h2 hi, va_K.moved hW.alike hKt, nsM.warm hW hns, nwA.moved hW.alike hnw⟩⟩ rfl hn hl.1 rfl (lv_room hct) hd ⟨hc1, hc2⟩) (fun s1 o t q => ⟨Sf, rv, ⟨rfl, rfl⟩, q⟩) (fun Sf2 rv2 H1 locs1 hq a b d f g => ?_)
  obtain ⟨rfl, rfl⟩ := hq
  exact k H1 locs1 a b d f g
/-- a call of its run -/
theorem lw_run {ln idx t0 t1 t2 t3 : Nat} {n fu : Int32} (F : CallFix p m c cc nL s args Ts own) (hKt : va_K D vwCl (TY K.1) s) (hns : nsM s) (hnw : nwA s) (hst : stA t0 t1 t2 t3 A s s.heap) (hk : ∀ i j : Nat, i < 14 → j < 14 → i ≠ j → K.1 i ≠ K.1 j) (hi : ∀ r ∈ rwL, ∀ r2 ∈ rwL, mr r = mr r2 → r = r2) (hM : mS K S) (h52 : s52 K S) (hln : Zi S 1 = nI ln) (hln2 : ln ≤ 1300)
  (hP : va_P D vwCl (V ++ rfW K.1 m9 mr S) H) (hD : va_D A (V ++ rfW K.1 m9 mr S)) (hS : va_S A s.heap H locs) (hA : ∀ q : Nat, s.heap.size ≤ q → A q) (hz : H.size = Zz S) (h1 : Zz S + 60000 ≤ K.2.1) (h2 : Zn S + 600000 ≤ K.2.2) (hl : lv_has ls nL lv)
  (hg : GoodIn Ts (wsV own idx RX23 yX23_run wRun)) (hrm : 1840 + 1 ≤ R.frames ∧ 8 + (3 + 11) + 44100 ≤ R.locals) (hct : (st.map fun v => v.category).sum ≤ 8) (hd : decode cc pc = .ok (.invokevirtual idx, 3)) (hc1 : cells + (K.2.1 - Zz S) ≤ R.cells) (hc2 : slots + (K.2.2 - Zn S) ≤ R.slots)
  (k : ∀ (Sf : Sg) (v : Int32) (l2 : Nat) (H1 : Heap) (locs1 : List Loc), mS K Sf → Zi Sf 1 = nI l2 → l2 ≤ ln → Zz Sf + 110 * l2 ≤ Zz S + 110 * ln + 30 → Zn Sf + 490 * l2 ≤ Zn S + 490 * ln + 220 → va_P D vwCl (V ++ rfW K.1 m9 mr Sf) H1 → va_D A (V ++ rfW K.1 m9 mr Sf) → va_S A s.heap H1 locs1 → H1.size = Zz Sf → slN H1 ≤ slN H + (Zn Sf - Zn S) → W p l e R s m args below meth c H1 locs1 (cells + (K.2.1 - Zz S)) (slots + (K.2.2 - Zn S)) Q (F0 m (pc + 3) ls (.int v :: st))) : W p l e R s m args below meth c H locs cells slots Q (F0 m pc ls (.int fu :: .int n :: .ref m9 :: st)) := by
  have hAe : AA K m9 mr S = va_A (rfW K.1 m9 mr S) H.size := by unfold AA; rw [hz]; rfl
  have hAA : ∀ q : Nat, AA K m9 mr S q → A q := fun q hq => by
    rcases hq with ⟨i, x, hi⟩ | hq
    · exact hD.tl.2 i _ hi
    · exact hA q (Nat.le_trans hS.1 (by rw [hz]; exact hq))
  refine lw_aft (Φ := PhR K S ln) hP hD hS hA hz (va_runV (As := [.int n, .int fu]) (rest := st) F (k_mrun (l := l) (D := D) (m9 := m9) (mr := mr) (t0 := t0) (t1 := t1) (t2 := t2) (t3 := t3) (n := n) (fu := fu) hk hM h52 hln hln2 h1 h2) (cwV 2 F.2.2.2.2 hg rfl rfl rfl (by decide +kernel) hrm) ⟨fun a U g mk q => by obtain ⟨q0, qP, qK, q1, q2, q3⟩ := q; exact ⟨q0, qP, va_K.moved (u := U) (U := U.calling g mk a) (Vm.Alike.refl U.vm) qK, nsM.same (u := U) (U := U.calling g mk a) rfl q1, nwA.moved (u := U) (U := U.calling g mk a) (Vm.Alike.refl U.vm) q2, stA.moved (u := U) (U := U.calling g mk a) (Vm.Alike.refl U.vm) q3⟩, va_recv hKt (lw_m9 hP) (ci := 23) (q0 := 0) rfl rfl, fun U hU hW => ⟨rfl, by rw [hU]; exact lw_PI hP hD hz (by omega) (by omega) hi, va_K.moved hW.alike hKt, nsM.warm hW hns, nwA.moved hW.alike hnw, by rw [hU]; exact ((hst.kept hS.2.1).moved hW.alike).narrow hAA⟩⟩ rfl rfl hl.1 rfl (lv_room hct) hd ⟨hc1, hc2⟩) (fun s1 o t q => q) (fun Sf rv H1 locs1 hq a b d f g => ?_)
  obtain ⟨v, rfl, q1, l2, q2, q3, q4, q5⟩ := hq
  exact k Sf v l2 H1 locs1 q1 q2 q3 q4 q5 a b d f g
end LW2
