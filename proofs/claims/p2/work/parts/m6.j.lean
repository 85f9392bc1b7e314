section PS113
/-- how run ends -/
def PhR (K : Ky) (S0 : Sg) (ln : Nat) (Sf : Sg) (rv : Option Value) : Prop := ∃ v : Int32, rv = some (.int v) ∧ mS K Sf ∧ ∃ l2 : Nat, Zi Sf 1 = nI l2 ∧ l2 ≤ ln ∧ Zz Sf + 110 * l2 ≤ Zz S0 + 110 * ln + 30 ∧ Zn Sf + 490 * l2 ≤ Zn S0 + 490 * ln + 220
def wRun : List Cond := Cond.code yX23_run cX23_run 3 (some .int) :: (wScan RX23 ++ wR)
theorem gd_Scan {T : List Cond} (h : ∀ w ∈ wScan RX23, w ∈ T) : GoodIn T (wScan RX23) := goodIn_app (goodIn_sub (fun w hw => h w (List.mem_append_left _ hw)) (by decide +kernel)) (goodIn_app (goodIn_sub (fun w hw => h w (List.mem_append_right _ (List.mem_append_left _ hw))) wg_c_rscan) (goodIn_app (goodIn_sub (fun w hw => h w (List.mem_append_right _ (List.mem_append_right _ (List.mem_append_left _ hw)))) gd_X23) goodIn_n))
theorem gd_Run {T : List Cond} (h : ∀ w ∈ wRun, w ∈ T) : GoodIn T wRun := fun w hw => by
  have h1 : ([Cond.code yX23_run cX23_run 3 (some .int)] : List Cond).all goodWord = true := by decide +kernel
  rcases List.mem_cons.mp hw with e | hw2
  · rw [e]
    exact ⟨h _ List.mem_cons_self, good_of_word (List.all_eq_true.mp h1 _ List.mem_cons_self)⟩
  · rcases List.mem_append.mp hw2 with hw3 | hw3
    · exact gd_Scan (fun w hw => h w (List.mem_cons_of_mem _ (List.mem_append_left _ hw))) w hw3
    · exact ⟨h w hw, (gd_R w hw3).2⟩
theorem k_mrun {l : Launch} {D : va_G} {K : Ky} {m9 : Nat} {mr : Nat → Nat} {S0 : Sg} {ln t0 t1 t2 t3 : Nat} {n fu : Int32} (hk : ∀ i j : Nat, i < 14 → j < 14 → i ≠ j → K.1 i ≠ K.1 j) (hS : mS K S0) (h52 : s52 K S0) (h1 : Zi S0 1 = nI ln) (hln : ln ≤ 1300) (r1 : Zz S0 + 60000 ≤ K.2.1) (r2 : Zn S0 + 600000 ≤ K.2.2) : Met l yX23_run wRun { frames := 1840, cells := K.2.1 - Zz S0, slots := K.2.2 - Zn S0, locals := 44100 } (va_Pc [.ref m9, .int n, .int fu] (fun U => PI D (fun _ => True) K m9 mr U.heap S0 S0 U.heap [] ∧ va_K D vwCl (TY K.1) U ∧ nsM U ∧ nwA U ∧ stA t0 t1 t2 t3 (AA K m9 mr S0) U U.heap)) (QCP D K m9 mr S0 (PhR K S0 ln)) (K.2.1 - Zz S0) (K.2.2 - Zn S0) (AA K m9 mr S0) := by
  refine Met.ofW (cc := cX23_run) (maxL := 3) (ret := some .int) (by decide) rfl ?_
  intro p e s m args below meth c s₁ B hml hv
  obtain ⟨rfl, hP, hK, hns, hnw, hst⟩ := hv
  have hz : Zz S0 = s.heap.size := hP.2.2.2.1.symm
  have hl := lv_entry [.ref m9, .int n, .int fu] (n := 3) (Nat.le_of_ble_eq_true rfl)
  rw [lg_entry_eq]
  generalize (lg_sl [.ref m9, .int n, .int fu] ++ List.replicate (3 - (lg_sl [.ref m9, .int n, .int fu]).length) Slot.unset).toArray = ls at hl ⊢
  have hl : lv_has ls 3 [(0, .ref m9), (1, .int n), (2, .int fu)] := hl
  have CXm : ∀ (Sf : Sg) (rv : Option Value), PhR K S0 ln Sf rv → CX p l e (headSpec wRun ({ frames := 1840, cells := K.2.1 - Zz S0, slots := K.2.2 - Zn S0, locals := 44100 } : Room)).room s m ([.ref m9, .int n, .int fu] : List Value).toArray below meth c (MQ below (QCP D K m9 mr S0 (PhR K S0 ln)) ([.ref m9, .int n, .int fu] : List Value).toArray s (K.2.1 - Zz S0) (K.2.2 - Zn S0) (AA K m9 mr S0)) D (AA K m9 mr S0) K m9 mr RX23 "run" cX23_run 3 wRun (some .int) 1840 44100 S0 Sf rv := fun Sf rv h =>
    ⟨⟨B.exec, B.bytes, hml, findClass_of_methodNamed B.named, atoms_spec (ws := wRun) B.pre⟩, fun w h => List.mem_cons_of_mem _ (List.mem_append_right _ h), hK, hns, hnw, fun q h => Or.inr (by rw [hz]; exact h), ⟨rfl, rfl, rfl, rfl⟩, B.returns, ⟨B.notSynchronized, (name_of_methodNamed B.named B.method).1⟩, hz, rfl, _, h, rfl⟩
  have h0 : PhR K S0 ln S0 (some (.int (-1))) := ⟨-1, rfl, hS, ln, h1, Nat.le_refl _, by omega, by omega⟩
  obtain ⟨S8, e8⟩ : ∃ S8 : Sg, S8 = Ui (Ui (Ui (Ui (Ui (Ui (Ui S0 2 n) 1 0) 3 0) 4 (-1)) 70 fu) 68 0) 69 0 := ⟨_, rfl⟩
  let V : Sg → Option (Sg × Int32) := fun S => @ite _ (S = S8 ∧ ¬ n < 0 ∧ ¬ Zi S0 1 < n ∧ ¬ fu < 0 ∧ fu ≤ 20000) (Classical.propDecidable _) (some (S0, -1)) none
  have hf : f_runP K V S0 n fu = some (S0, -1) := by
    unfold f_runP f_runP_23
    by_cases a1 : n < 0
    · rw [if_pos a1]
    by_cases a2 : Zi S0 1 < n
    · rw [if_neg a1, if_pos a2]
    by_cases a3 : fu < 0
    · rw [if_neg a1, if_neg a2, if_pos a3]
    by_cases a4 : fu ≤ 20000
    · rw [if_neg a1, if_neg a2, if_neg a3, if_pos a4]
      show V (Ui (Ui (Ui (Ui (Ui (Ui (Ui S0 2 n) 1 0) 3 0) 4 (-1)) 70 fu) 68 0) 69 0) = _
      rw [← e8]
      exact if_pos ⟨rfl, a1, a2, a3, a4⟩
    · rw [if_neg a1, if_neg a2, if_neg a3, if_neg a4]
  have h9 := k_runP (V := V) (S0 := S0) (x1 := n) (x2 := fu) (CXm S0 _ h0) (fun S hVS => ?_) hf s.heap [] ls ⟨hP.1, hP.2.1.self, va_S.rf, hP.2.2.2⟩ hl
  · rw [Nat.sub_self, Nat.sub_self] at h9
    exact h9
  · by_cases cc : S = S8 ∧ ¬ n < 0 ∧ ¬ Zi S0 1 < n ∧ ¬ fu < 0 ∧ fu ≤ 20000
    · obtain ⟨rfl, a1, a2, a3, a4⟩ := cc
      rw [h1] at a2
      obtain ⟨zs, hzs, en⟩ := i32_le a1 (show ln < 2 ^ 31 by omega) a2
      obtain ⟨fuN, hfu, ef⟩ := i32_le (k := 20000) a3 (by decide) (Int32.not_lt.mpr a4)
      have zi : ∀ j : Nat, j ≠ 2 → j ≠ 1 → j ≠ 3 → j ≠ 4 → j ≠ 70 → j ≠ 68 → j ≠ 69 → Zi S j = Zi S0 j := fun j b1 b2 b3 b4 b5 b6 b7 => by
        rw [e8, Zi_n b7, Zi_n b6, Zi_n b5, Zi_n b4, Zi_n b3, Zi_n b2, Zi_n b1]
      have z2 : Zi S 2 = nI zs := by rw [e8, ← en]; rfl
      have z1 : Zi S 1 = 0 := by rw [e8]; rfl
      have z70 : Zi S 70 = nI fuN := by rw [e8, ← ef]; rfl
      have zr : Zz S = Zz S0 ∧ Zn S = Zn S0 ∧ ZL S = ZL S0 ∧ ZF S = ZF S0 ∧ Zq S = Zq S0 := by rw [e8]; exact ⟨rfl, rfl, rfl, rfl, rfl⟩
      refine x_scan (CXm S0 _ h0) (zs := zs) (t0 := t0) (t1 := t1) (t2 := t2) (t3 := t3) (by omega) z2 hst (gd_Scan (fun w hw => List.mem_cons_of_mem _ (List.mem_append_left _ hw))) ⟨by decide, by decide⟩ (Nat.le_of_ble_eq_true rfl) eX23_run_61 (fun T gk ga ge gn hT => ?_)
      obtain ⟨w1, ⟨c, c1, c2⟩, ⟨h, d1, d2⟩, w4, w5⟩ := hS
      have hS8 : mS K (scS S gk ga ge gn T) := ⟨w1.eq ((scS_i (by decide)).trans (zi 83 (by decide) (by decide) (by decide) (by decide) (by decide) (by decide) (by decide))) ((scS_i (by decide)).trans (zi 84 (by decide) (by decide) (by decide) (by decide) (by decide) (by decide) (by decide))), ⟨c, c1, ((scS_i (by decide)).trans (zi 86 (by decide) (by decide) (by decide) (by decide) (by decide) (by decide) (by decide))).trans c2⟩, ⟨h, d1, ((scS_i (by decide)).trans (zi 66 (by decide) (by decide) (by decide) (by decide) (by decide) (by decide) (by decide))).trans d2⟩, fun u hu => by
        show Zq S 51 u = none ∨ ∃ (a : Nat) (f : Nat → Int32), Zq S 51 u = some a ∧ a ∈ ZL S ∧ ZF S a = _ ∧ _
        rw [zr.2.2.1, zr.2.2.2.1, zr.2.2.2.2]; exact w4 u hu, fun a ha => by
        have ha : a ∈ ZL S := ha
        show a < Zz S
        rw [zr.2.2.1] at ha; rw [zr.1]; exact w5 a ha⟩
      have h528 : s52 K (scS S gk ga ge gn T) := fun u hu => by
        show Zq S 51 u = none ∨ ∃ (a : Nat) (f : Nat → Int32), Zq S 51 u = some a ∧ a ∈ ZL S ∧ ZF S a = _ ∧ _
        rw [zr.2.2.1, zr.2.2.2.1, zr.2.2.2.2]; exact h52 u hu
      have zz8 : Zz (scS S gk ga ge gn T) = Zz S0 := zr.1
      have zn8 : Zn (scS S gk ga ge gn T) = Zn S0 := zr.2.1
      obtain ⟨S2, r, hrun, hE1, hE2, hE3, hE4⟩ := run64_ (S1 := scS S gk ga ge gn T) (T := T) (zs := zs) (fu := fuN) hk hT (by omega) rfl hS8 h528 ((scS_i (by decide)).trans z70) hfu (by rw [zz8]; exact r1) (by rw [zn8]; exact r2)
      exact k_run64 (Nat.le_of_ble_eq_true rfl) (Nat.le_of_ble_eq_true rfl) (CXm S2 _ ⟨r, rfl, hE1, 0, hE2.trans ((scS_i (by decide)).trans z1), Nat.zero_le _, by omega, by omega⟩) hrun
    · have hVS : @ite _ (S = S8 ∧ ¬ n < 0 ∧ ¬ Zi S0 1 < n ∧ ¬ fu < 0 ∧ fu ≤ 20000) (Classical.propDecidable _) (some (S0, (-1 : Int32))) none = some (S0, -1) := hVS
      rw [if_neg cc] at hVS
      cases hVS
end PS113
