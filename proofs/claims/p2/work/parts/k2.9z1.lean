section XR0
/-- the world in part changed -/
theorem PI.part {D : va_G} {A : Nat → Prop} {K : Ky} {m9 : Nat} {mr : Nat → Nat} {H0 H H1 : Heap} {S0 S S2 : Sg} {locs locs1 : List Loc} {six six2 : va_W} (hP : PI D A K m9 mr H0 S0 S H locs) (hP1 : va_P D vwCl six2 H1) (hk : ∀ q : Nat, q < H.size → ¬ va_A six H.size q → H1[q]? = H[q]?) (hS1 : va_S A H0 H1 locs1) (hz : H1.size = H.size) (hL : ZL S2 = ZL S) (hF : ∀ a ∈ LL m9 mr S, (a, FF K.1 m9 mr S2 a) ∈ six2 ∨ (FF K.1 m9 mr S2 a = FF K.1 m9 mr S a ∧ ∀ q ∈ six, q.1 ≠ a)) (e1 : Zz S2 = Zz S) (e2 : Zn S2 = Zn S) : PI D A K m9 mr H0 S0 S2 H1 locs1 := by
  have hL2 : LL m9 mr S2 = LL m9 mr S := by unfold LL; rw [hL]
  refine ⟨fun k q hq => ?_, sT_D (by rw [hL2]; exact sT_nd hP.2.1) (fun a ha => sT_A hP.2.1 (by rw [← hL2]; exact ha)), hS1, by rw [hz, e1]; exact hP.2.2.2.1, by rw [e2]; exact hP.2.2.2.2.1, by rw [hL]; exact hP.2.2.2.2.2.1, by rw [hL, e1]; exact hP.2.2.2.2.2.2.1, by rw [e1, e2]; exact hP.2.2.2.2.2.2.2.1, hP.2.2.2.2.2.2.2.2⟩
  obtain ⟨a, ha, rfl⟩ := List.mem_map.mp (List.mem_of_getElem? hq)
  rw [hL2] at ha
  rcases hF a ha with h | ⟨h, h2⟩
  · obtain ⟨j, hj⟩ := List.mem_iff_getElem?.mp h
    exact hP1 j _ hj
  · rw [h]
    obtain ⟨j, hj⟩ := List.mem_iff_getElem?.mp (sT_mem (F := FF K.1 m9 mr S) ha)
    have h9 := hP.1 j _ hj
    refine h9.kept (hk a h9.lt (fun w => ?_))
    rcases w with ⟨i, x, hi⟩ | w
    · exact h2 _ (List.mem_of_getElem? hi) rfl
    · have := h9.lt
      have this : a < H.size := this
      omega
theorem FF_r {kc : Nat → ClassId} {m9 : Nat} {mr : Nat → Nat} {S : Sg} (hi : ∀ r ∈ rwL, ∀ r2 ∈ rwL, mr r = mr r2 → r = r2) {r : Nat} (hr : r ∈ rwL) (hn : mr r ≠ m9) : FF kc m9 mr S (mr r) = rwc kc S r := by
  unfold FF
  rw [if_neg hn, fd_some hi hr]
theorem FF_l {kc : Nat → ClassId} {m9 : Nat} {mr : Nat → Nat} {S : Sg} {a : Nat} (hn : a ≠ m9) (h : ∀ r ∈ rwL, mr r ≠ a) : FF kc m9 mr S a = ZF S a := by
  unfold FF
  rw [if_neg hn, fd_none h]
/-- the tokens were read -/
def scS (S : Sg) (gk ga ge : Nat → Int32) (gn : Nat → Int64) (T : Nat) : Sg := Ui (Ul (Ur (Ur (Ur S 5 gk) 6 ga) 7 ge) 8 gn) 9 (nI T)
theorem scS_i {S : Sg} {gk ga ge : Nat → Int32} {gn : Nat → Int64} {T j : Nat} (h : j ≠ 9) : Zi (scS S gk ga ge gn T) j = Zi S j := if_neg h
def sxA (K : Ky) (m9 : Nat) (mr : Nat → Nat) (S : Sg) : va_W := [(m9, .inr (23, mO mr S)), (mr 0, rwc K.1 S 0), (mr 5, rwc K.1 S 5), (mr 6, rwc K.1 S 6), (mr 7, rwc K.1 S 7), (mr 8, rwc K.1 S 8)]
def wScan (own : String) : List Cond := wsV own 1173 RX23 yX23_scan wp_c_rscan
variable {p : Program} {l : Launch} {e : Env} {R : Room} {s : State} {m : MethodId} {args : Array Value} {below : List Frame} {meth : Method} {c : Code} {Q : State → Prop} {D : va_G} {A : Nat → Prop} {K : Ky} {m9 : Nat} {mr : Nat → Nat} {own mn : String} {cc : ByteArray} {nL : Nat} {Ts : List Cond} {ret : Option FieldType} {fr lo : Nat} {S0 Sf : Sg} {rv : Option Value}
variable {S : Sg} {pc : Nat} {lv : List (Nat × Value)} {st : List Value}
set_option maxRecDepth 20000 in
theorem mO_mA {S : Sg} : mO mr S = mA mr (Zi S) (va_rf (Zf S)) (Zi S 1) (Zi S 2) (Zi S 3) (Zi S 4) (Zi S 9) (Zi S 10) (Zi S 12) (Zi S 13) (Zi S 14) (Zi S 15) (Zi S 16) (Zi S 17) := rfl
/-- scan -/
theorem x_scan (C : CX p l e R s m args below meth c Q D A K m9 mr own mn cc nL Ts ret fr lo S0 Sf rv) {zs t0 t1 t2 t3 : Nat} (hzs : zs ≤ 3000) (h2 : Zi S 2 = nI zs) (hst : stA t0 t1 t2 t3 A s s.heap) (hg : GoodIn Ts (wScan own)) (hrm : 3 + 1 ≤ fr ∧ 8 + (4 + 11) + 71 ≤ lo) (hct : (st.map fun v => v.category).sum ≤ 8) (hd : decode cc pc = .ok (.invokevirtual 1173, 3)) (k : ∀ (T : Nat) (gk ga ge : Nat → Int32) (gn : Nat → Int64), tkF gk ga ge T zs → WX p l e R s m args below meth c Q D A K m9 mr nL S0 (scS S gk ga ge gn T) (pc + 3) lv st) : WX p l e R s m args below meth c Q D A K m9 mr nL S0 S pc lv (.ref m9 :: st) := fun H locs ls hP hl => by
  obtain ⟨r1, r2, r3, r4⟩ := C.rm
  have h7 := hP.2.2.2.2.1; have h6 := hP.2.2.1.1; have hz := C.z; have h5 := hP.2.2.2.1; have h8 := hP.2.2.2.2.2.2.2.1
  have hmem : ∀ q ∈ sxA K m9 mr S, q ∈ sT (LL m9 mr S) (FF K.1 m9 mr S) := fun q hq => by
    have hr : ∀ r ∈ rwL, (mr r, rwc K.1 S r) ∈ sT (LL m9 mr S) (FF K.1 m9 mr S) := fun r hr => by
      have := sT_mem (F := FF K.1 m9 mr S) (LLr (m9 := m9) (mr := mr) (S := S) hr)
      rwa [hP.FFr hr] at this
    unfold sxA at hq
    simp only [List.mem_cons, List.not_mem_nil, or_false] at hq
    rcases hq with rfl | rfl | rfl | rfl | rfl | rfl
    · have := sT_mem (F := FF K.1 m9 mr S) (LLm (m9 := m9) (mr := mr) (S := S))
      rwa [FF_m] at this
    · exact hr 0 (by decide)
    · exact hr 5 (by decide)
    · exact hr 6 (by decide)
    · exact hr 7 (by decide)
    · exact hr 8 (by decide)
  have hPc : va_P D vwCl (sxA K m9 mr S) H := hP.1.turn hmem
  have hi := hP.2.2.2.2.2.2.2.2
  have hne : ∀ r ∈ rwL, ∀ r2 ∈ rwL, r ≠ r2 → mr r ≠ mr r2 := fun r a r2 b q w => q (hi r a r2 b w)
  have hn9 : ∀ r ∈ rwL, mr r ≠ m9 := fun r hr => hP.n9 hr
  have hnd : ((sxA K m9 mr S).map (fun q => q.1)).Nodup := by
    show [m9, mr 0, mr 5, mr 6, mr 7, mr 8].Nodup
    have q : ∀ r ∈ rwL, m9 ≠ mr r := fun r hr w => hn9 r hr w.symm
    simp only [List.nodup_cons, List.mem_cons, List.not_mem_nil, or_false, not_or, List.nodup_nil, and_true, not_false_eq_true]
    exact ⟨⟨q 0 (by decide), q 5 (by decide), q 6 (by decide), q 7 (by decide), q 8 (by decide)⟩, ⟨hne 0 (by decide) 5 (by decide) (by decide), hne 0 (by decide) 6 (by decide) (by decide), hne 0 (by decide) 7 (by decide) (by decide), hne 0 (by decide) 8 (by decide) (by decide)⟩, ⟨hne 5 (by decide) 6 (by decide) (by decide), hne 5 (by decide) 7 (by decide) (by decide), hne 5 (by decide) 8 (by decide) (by decide)⟩, ⟨hne 6 (by decide) 7 (by decide) (by decide), hne 6 (by decide) 8 (by decide) (by decide)⟩, hne 7 (by decide) 8 (by decide) (by decide)⟩
  have hDc : va_D (fun _ => True) (sxA K m9 mr S) := by
    refine ⟨fun i j p q hp hq e => ?_, fun _ _ _ => trivial⟩
    have e1 : ((sxA K m9 mr S).map (fun q => q.1))[i]? = some p.1 := by rw [List.getElem?_map, hp]; rfl
    have e2 : ((sxA K m9 mr S).map (fun q => q.1))[j]? = some p.1 := by rw [List.getElem?_map, hq, e]; rfl
    have hlt := (List.getElem?_eq_some_iff.mp e1).1
    exact (List.getElem?_inj hlt hnd).mp (e1.trans e2.symm)
  have hKc : va_K D vwCl [(K.1 0, .int), (K.1 1, .long)] s := C.kk.sub (tys' := [(K.1 0, .int), (K.1 1, .long)]) [0, 1] rfl
  have hFc : ∀ q : Nat, va_A (sxA K m9 mr S) H.size q → A q := fun q hq => by
    rcases hq with ⟨i, x, hx⟩ | hq
    · have := hmem _ (List.mem_of_getElem? hx)
      obtain ⟨j, hj⟩ := List.mem_iff_getElem?.mp this
      exact hP.2.1.2 j _ hj
    · exact C.A9 q (Nat.le_trans h6 hq)
  have hPc' : va_P (D.1, D.2) vwCl [(m9, .inr (23, mA mr (Zi S) (va_rf (Zf S)) (Zi S 1) (nI zs) (Zi S 3) (Zi S 4) (Zi S 9) (Zi S 10) (Zi S 12) (Zi S 13) (Zi S 14) (Zi S 15) (Zi S 16) (Zi S 17))), (mr 0, .inl (K.1 0, 3000, .inl (Zr S 0))), (mr 5, .inl (K.1 0, 3002, .inl (Zr S 5))), (mr 6, .inl (K.1 0, 3002, .inl (Zr S 6))), (mr 7, .inl (K.1 0, 3002, .inl (Zr S 7))), (mr 8, .inl (K.1 1, 3002, .inr (.inl (Zl S 8))))] H := by
    have := hPc
    unfold sxA at this
    rw [mO_mA, h2] at this
    exact this
  have eS : ([(m9, .inr (23, mA mr (Zi S) (va_rf (Zf S)) (Zi S 1) (nI zs) (Zi S 3) (Zi S 4) (Zi S 9) (Zi S 10) (Zi S 12) (Zi S 13) (Zi S 14) (Zi S 15) (Zi S 16) (Zi S 17))), (mr 0, .inl (K.1 0, 3000, .inl (Zr S 0))), (mr 5, .inl (K.1 0, 3002, .inl (Zr S 5))), (mr 6, .inl (K.1 0, 3002, .inl (Zr S 6))), (mr 7, .inl (K.1 0, 3002, .inl (Zr S 7))), (mr 8, .inl (K.1 1, 3002, .inr (.inl (Zl S 8))))] : va_W) = sxA K m9 mr S := by
    unfold sxA
    rw [mO_mA, h2]; rfl
  have hM := c_rscan l D.1 D.2 m9 mr (Zi S) (va_rf (Zf S)) (Zi S 1) (Zi S 3) (Zi S 4) (Zi S 10) (Zi S 12) (Zi S 13) (Zi S 14) (Zi S 15) (Zi S 16) (Zi S 17) zs (K.1 0) (K.1 1) (Zr S 0) (Zr S 5) (Zr S 6) (Zr S 7) (Zl S 8) (Zi S 9) t0 t1 t2 t3 H.size hzs
  rw [eS] at hM
  have hst1 : ∀ U : State, U.heap = H → s.WarmedH U.vm → stA t0 t1 t2 t3 (va_A (sxA K m9 mr S) H.size) U U.heap := fun U hU hW => by rw [hU]; exact ((hst.kept hP.2.2.1.2.1).moved hW.alike).narrow hFc
  refine va_callv (va_runV (As := []) (rest := st) C.1 hM (cwV 0 C.1.2.2.2.2 hg rfl rfl rfl (by decide +kernel) ⟨by rw [r3]; exact hrm.1, by rw [r4]; exact hrm.2⟩) ⟨fun a U g mk q => by obtain ⟨q0, q1, qP, qK, qD, qx0⟩ := q; exact ⟨q0, q1, qP, va_K.moved (u := U) (U := U.calling g mk a) (Vm.Alike.refl U.vm) qK, qD, stA.moved (u := U) (U := U.calling g mk a) (Vm.Alike.refl U.vm) qx0⟩, va_recv hKc hPc (ci := 23) (q0 := 0) rfl rfl, fun U hU hW => ⟨rfl, by rw [hU], by rw [hU]; exact hPc, va_K.moved hW.alike hKc, hDc, hst1 U hU hW⟩⟩ rfl rfl hl.1 rfl (lv_room hct) hd ⟨by rw [r1]; omega, by rw [r2]; omega⟩) hP.2.2.1 (fun q _ h => hFc q h) hFc (fun u tS H1 locs1 ht hvm hw hB hz1 hk1 hS => ?_)
  obtain ⟨T, gk, ga, ge, gn, hT, hP1, _⟩ := hB
  rw [ht] at hP1
  refine W.grow (fun hg0 hg1 => ?_)
  have hzz : H1.size = H.size := by omega
  have hN : PI D A K m9 mr s.heap S0 (scS S gk ga ge gn T) H1 locs1 := by
    refine hP.part (six := sxA K m9 mr S) (six2 := sxA K m9 mr (scS S gk ga ge gn T)) ?_ hk1 hS hzz rfl (fun a ha => ?_) rfl rfl
    · have : sxA K m9 mr (scS S gk ga ge gn T) = [(m9, .inr (23, mA mr (Zi S) (va_rf (Zf S)) (Zi S 1) (nI zs) (Zi S 3) (Zi S 4) (nI T) (Zi S 10) (Zi S 12) (Zi S 13) (Zi S 14) (Zi S 15) (Zi S 16) (Zi S 17))), (mr 0, .inl (K.1 0, 3000, .inl (Zr S 0))), (mr 5, .inl (K.1 0, 3002, .inl gk)), (mr 6, .inl (K.1 0, 3002, .inl ga)), (mr 7, .inl (K.1 0, 3002, .inl ge)), (mr 8, .inl (K.1 1, 3002, .inr (.inl gn)))] := by
        rw [← h2]; rfl
      rw [this]; exact hP1
    · have hin : ∀ q ∈ sxA K m9 mr (scS S gk ga ge gn T), q ∈ sxA K m9 mr (scS S gk ga ge gn T) := fun q h => h
      rcases List.mem_cons.mp ha with rfl | ha
      · left; rw [FF_m]; exact List.mem_cons_self
      rcases List.mem_append.mp ha with ha | ha
      · obtain ⟨r, hr, rfl⟩ := List.mem_map.mp ha
        rw [FF_r hi hr (hn9 r hr), FF_r hi hr (hn9 r hr)]
        by_cases c0 : r = 0 ∨ r = 5 ∨ r = 6 ∨ r = 7 ∨ r = 8
        · left
          unfold sxA
          rcases c0 with rfl | rfl | rfl | rfl | rfl <;> simp
        · right
          have f1 : r ≠ 5 := fun w => c0 (by omega)
          have f2 : r ≠ 6 := fun w => c0 (by omega)
          have f3 : r ≠ 7 := fun w => c0 (by omega)
          have f4 : r ≠ 8 := fun w => c0 (by omega)
          have f0 : r ≠ 0 := fun w => c0 (by omega)
          refine ⟨?_, fun q hq => ?_⟩
          · have e1 : Zr (scS S gk ga ge gn T) r = Zr S r := (va_up_ne _ _ f3).trans ((va_up_ne _ _ f2).trans (va_up_ne _ _ f1))
            have e2 : Zl (scS S gk ga ge gn T) r = Zl S r := va_up_ne _ _ f4
            have e3 : Zq (scS S gk ga ge gn T) r = Zq S r := rfl
            unfold rwc
            rw [e1, e2, e3]
          · unfold sxA at hq
            simp only [List.mem_cons, List.not_mem_nil, or_false] at hq
            rcases hq with rfl | rfl | rfl | rfl | rfl | rfl
            · exact fun w => hn9 r hr w.symm
            · exact hne 0 (by decide) r hr (Ne.symm f0)
            · exact hne 5 (by decide) r hr (Ne.symm f1)
            · exact hne 6 (by decide) r hr (Ne.symm f2)
            · exact hne 7 (by decide) r hr (Ne.symm f3)
            · exact hne 8 (by decide) r hr (Ne.symm f4)
      · right
        have a9 : a ≠ m9 := hP.m9L ha
        have ar : ∀ r ∈ rwL, mr r ≠ a := fun r hr => hP.nrL ha hr
        refine ⟨by rw [FF_l a9 ar, FF_l a9 ar]; rfl, fun q hq => ?_⟩
        unfold sxA at hq
        simp only [List.mem_cons, List.not_mem_nil, or_false] at hq
        rcases hq with rfl | rfl | rfl | rfl | rfl | rfl
        · exact fun w => a9 w.symm
        · exact ar 0 (by decide)
        · exact ar 5 (by decide)
        · exact ar 6 (by decide)
        · exact ar 7 (by decide)
        · exact ar 8 (by decide)
  refine W.tight (k := Zz (scS S gk ga ge gn T) - Zz S0) (n := Zn (scS S gk ga ge gn T) - Zn S0) ?_ ?_ (k T gk ga ge gn hT H1 locs1 ls hN hl)
  · show H1.size ≤ s.heap.size + (Zz S - Zz S0); omega
  · show slN H1 ≤ slN s.heap + (Zn S - Zn S0); omega
end XR0
