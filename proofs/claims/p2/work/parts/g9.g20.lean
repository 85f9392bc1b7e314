set_option maxHeartbeats 4000000 in
set_option maxRecDepth 100000 in
theorem c_mgo20 (l : Launch) (dC : Nat → ClassId) (dI : Nat → Nat → Nat) (vfn : Value) (mx c0 y e0 me nq0 wq mk0 mk1 mk2 mk3 mc mt md0 md1 md2 mh mln : Nat) (xfa xru xne xba xca xfb mlo miu mmo mdt : Int32) (kL : ClassId) (tp : Nat) (fc : Nat → Int64) (co ca cb c3 cw cl cpv cpp cpl cpr cpt cpw cpc car : Nat) (ct cb9 cp9 ca9 : Nat) (kI : ClassId) (ii fu : Nat) (F : tF) (ft ff : Nat → Int32) (QA : qaT) (sz : Nat) (hmln : mln ≤ 1000000) (hfu : fu ≤ 20000) (hst : stG F mln QA) (hQ : QA ii ft fc tp ff) (hop : F 0 ii = nI 20) : Met l yX5_go wp_c_mgo ({ frames := 2, cells := 0, slots := 0, locals := 41 }) (va_Pc [.ref mx, .int (nI ii)] (fun U => U.heap.size = sz ∧ va_P (dC, dI) vwCl [(mx, .inr (5, [.ref c0, .ref y, .ref e0, .ref me, .ref nq0, .ref wq, .int (nI fu), .int xfa, .int xru, .int (nI (ii + 1)), .int xba, .int (nI tp), .int xca, vfn, .ref mk0, .ref mk1, .ref mk2, .ref mk3, .int xfb])), (me, .inr (6, [.ref y, .ref wq, .int (nI mh), .ref mc, .ref mt, .int mlo, .int miu, .int mmo, .ref md0, .ref md1, .ref md2, .int mdt])), (mc, .inl (kL, mln, .inr (.inl fc))), (c0, .inr (0, [.ref co, .ref ca, .ref cb, .ref c3, .ref cw, .int (nI ct), .ref cl, .int (nI cb9), .ref cpv, .ref cpp, .ref cpl, .ref cpr, .ref cpt, .ref cpw, .ref cpc, .int (nI cp9), .ref car, .int (nI ca9)])), (co, .inl (kI, 6000, .inl (F 0))), (ca, .inl (kI, 6000, .inl (F 1))), (cb, .inl (kI, 6000, .inl (F 2))), (cl, .inl (kI, 1100, .inl (F 5))), (car, .inl (kI, 3002, .inl (F 13)))] U.heap ∧ va_K (dC, dI) vwCl [(kI, .int), (kL, .long)] U ∧ va_D (fun _ => True) [(mx, .inr (5, [.ref c0, .ref y, .ref e0, .ref me, .ref nq0, .ref wq, .int (nI fu), .int xfa, .int xru, .int (nI (ii + 1)), .int xba, .int (nI tp), .int xca, vfn, .ref mk0, .ref mk1, .ref mk2, .ref mk3, .int xfb])), (me, .inr (6, [.ref y, .ref wq, .int (nI mh), .ref mc, .ref mt, .int mlo, .int miu, .int mmo, .ref md0, .ref md1, .ref md2, .int mdt])), (mc, .inl (kL, mln, .inr (.inl fc))), (c0, .inr (0, [.ref co, .ref ca, .ref cb, .ref c3, .ref cw, .int (nI ct), .ref cl, .int (nI cb9), .ref cpv, .ref cpp, .ref cpl, .ref cpr, .ref cpt, .ref cpw, .ref cpc, .int (nI cp9), .ref car, .int (nI ca9)])), (co, .inl (kI, 6000, .inl (F 0))), (ca, .inl (kI, 6000, .inl (F 1))), (cb, .inl (kI, 6000, .inl (F 2))), (cl, .inl (kI, 1100, .inl (F 5))), (car, .inl (kI, 3002, .inl (F 13)))])) (va_Qv (fun _ : Unit => True) (fun (_ : Unit) (tS : State) => ∃ (tp2 : Nat) (fu2 : Nat) (ne2 : Int32) (fa2 : Int32) (ru2 : Int32), (fu2 ≤ fu) ∧ (ru2 = 0 ∨ (ru2 = xru ∧ ∃ j : Nat, ne2 = nI j ∧ QA j ft fc tp2 ff)) ∧ va_P (dC, dI) vwCl [(mx, .inr (5, [.ref c0, .ref y, .ref e0, .ref me, .ref nq0, .ref wq, .int (nI fu2), .int fa2, .int ru2, .int ne2, .int xba, .int (nI tp2), .int xca, vfn, .ref mk0, .ref mk1, .ref mk2, .ref mk3, .int xfb])), (me, .inr (6, [.ref y, .ref wq, .int (nI mh), .ref mc, .ref mt, .int mlo, .int miu, .int mmo, .ref md0, .ref md1, .ref md2, .int mdt])), (mc, .inl (kL, mln, .inr (.inl fc))), (c0, .inr (0, [.ref co, .ref ca, .ref cb, .ref c3, .ref cw, .int (nI ct), .ref cl, .int (nI cb9), .ref cpv, .ref cpp, .ref cpl, .ref cpr, .ref cpt, .ref cpw, .ref cpc, .int (nI cp9), .ref car, .int (nI ca9)])), (co, .inl (kI, 6000, .inl (F 0))), (ca, .inl (kI, 6000, .inl (F 1))), (cb, .inl (kI, 6000, .inl (F 2))), (cl, .inl (kI, 1100, .inl (F 5))), (car, .inl (kI, 3002, .inl (F 13)))] tS.heap ∧ va_K (dC, dI) vwCl [(kI, .int), (kL, .long)] tS ∧ va_D (va_A [(mx, .inr (5, [.ref c0, .ref y, .ref e0, .ref me, .ref nq0, .ref wq, .int (nI fu), .int xfa, .int xru, .int (nI (ii + 1)), .int xba, .int (nI tp), .int xca, vfn, .ref mk0, .ref mk1, .ref mk2, .ref mk3, .int xfb])), (me, .inr (6, [.ref y, .ref wq, .int (nI mh), .ref mc, .ref mt, .int mlo, .int miu, .int mmo, .ref md0, .ref md1, .ref md2, .int mdt])), (mc, .inl (kL, mln, .inr (.inl fc))), (c0, .inr (0, [.ref co, .ref ca, .ref cb, .ref c3, .ref cw, .int (nI ct), .ref cl, .int (nI cb9), .ref cpv, .ref cpp, .ref cpl, .ref cpr, .ref cpt, .ref cpw, .ref cpc, .int (nI cp9), .ref car, .int (nI ca9)])), (co, .inl (kI, 6000, .inl (F 0))), (ca, .inl (kI, 6000, .inl (F 1))), (cb, .inl (kI, 6000, .inl (F 2))), (cl, .inl (kI, 1100, .inl (F 5))), (car, .inl (kI, 3002, .inl (F 13)))] sz) [(mx, .inr (5, [.ref c0, .ref y, .ref e0, .ref me, .ref nq0, .ref wq, .int (nI fu2), .int fa2, .int ru2, .int ne2, .int xba, .int (nI tp2), .int xca, vfn, .ref mk0, .ref mk1, .ref mk2, .ref mk3, .int xfb])), (me, .inr (6, [.ref y, .ref wq, .int (nI mh), .ref mc, .ref mt, .int mlo, .int miu, .int mmo, .ref md0, .ref md1, .ref md2, .int mdt])), (mc, .inl (kL, mln, .inr (.inl fc))), (c0, .inr (0, [.ref co, .ref ca, .ref cb, .ref c3, .ref cw, .int (nI ct), .ref cl, .int (nI cb9), .ref cpv, .ref cpp, .ref cpl, .ref cpr, .ref cpt, .ref cpw, .ref cpc, .int (nI cp9), .ref car, .int (nI ca9)])), (co, .inl (kI, 6000, .inl (F 0))), (ca, .inl (kI, 6000, .inl (F 1))), (cb, .inl (kI, 6000, .inl (F 2))), (cl, .inl (kI, 1100, .inl (F 5))), (car, .inl (kI, 3002, .inl (F 13)))]) (va_A [(mx, .inr (5, [.ref c0, .ref y, .ref e0, .ref me, .ref nq0, .ref wq, .int (nI fu), .int xfa, .int xru, .int (nI (ii + 1)), .int xba, .int (nI tp), .int xca, vfn, .ref mk0, .ref mk1, .ref mk2, .ref mk3, .int xfb])), (me, .inr (6, [.ref y, .ref wq, .int (nI mh), .ref mc, .ref mt, .int mlo, .int miu, .int mmo, .ref md0, .ref md1, .ref md2, .int mdt])), (mc, .inl (kL, mln, .inr (.inl fc))), (c0, .inr (0, [.ref co, .ref ca, .ref cb, .ref c3, .ref cw, .int (nI ct), .ref cl, .int (nI cb9), .ref cpv, .ref cpp, .ref cpl, .ref cpr, .ref cpt, .ref cpw, .ref cpc, .int (nI cp9), .ref car, .int (nI ca9)])), (co, .inl (kI, 6000, .inl (F 0))), (ca, .inl (kI, 6000, .inl (F 1))), (cb, .inl (kI, 6000, .inl (F 2))), (cl, .inl (kI, 1100, .inl (F 5))), (car, .inl (kI, 3002, .inl (F 13)))] sz)) 0 0 (va_A [(mx, .inr (5, [.ref c0, .ref y, .ref e0, .ref me, .ref nq0, .ref wq, .int (nI fu), .int xfa, .int xru, .int (nI (ii + 1)), .int xba, .int (nI tp), .int xca, vfn, .ref mk0, .ref mk1, .ref mk2, .ref mk3, .int xfb])), (me, .inr (6, [.ref y, .ref wq, .int (nI mh), .ref mc, .ref mt, .int mlo, .int miu, .int mmo, .ref md0, .ref md1, .ref md2, .int mdt])), (mc, .inl (kL, mln, .inr (.inl fc))), (c0, .inr (0, [.ref co, .ref ca, .ref cb, .ref c3, .ref cw, .int (nI ct), .ref cl, .int (nI cb9), .ref cpv, .ref cpp, .ref cpl, .ref cpr, .ref cpt, .ref cpw, .ref cpc, .int (nI cp9), .ref car, .int (nI ca9)])), (co, .inl (kI, 6000, .inl (F 0))), (ca, .inl (kI, 6000, .inl (F 1))), (cb, .inl (kI, 6000, .inl (F 2))), (cl, .inl (kI, 1100, .inl (F 5))), (car, .inl (kI, 3002, .inl (F 13)))] sz) := by
  refine Met.ofW (cc := cX5_go) (maxL := 7) (ret := none) (by decide) rfl ?_
  intro p e s m args below meth c s₁ B hml hv
  obtain ⟨rfl, hsz, hP, hK, hD0⟩ := hv
  have hx := B.exec
  have hb := B.bytes
  have hr := B.returns
  have hts := atoms_spec (ws := wp_c_mgo) B.pre
  have hown : s.vm.findClass RX5 = some m.cls := findClass_of_methodNamed B.named
  have hlocks := B.notSynchronized
  subst hsz
  have hD := hD0.self (sz := s.heap.size)
  generalize hAe : va_A [(mx, .inr (5, [.ref c0, .ref y, .ref e0, .ref me, .ref nq0, .ref wq, .int (nI fu), .int xfa, .int xru, .int (nI (ii + 1)), .int xba, .int (nI tp), .int xca, vfn, .ref mk0, .ref mk1, .ref mk2, .ref mk3, .int xfb])), (me, .inr (6, [.ref y, .ref wq, .int (nI mh), .ref mc, .ref mt, .int mlo, .int miu, .int mmo, .ref md0, .ref md1, .ref md2, .int mdt])), (mc, .inl (kL, mln, .inr (.inl fc))), (c0, .inr (0, [.ref co, .ref ca, .ref cb, .ref c3, .ref cw, .int (nI ct), .ref cl, .int (nI cb9), .ref cpv, .ref cpp, .ref cpl, .ref cpr, .ref cpt, .ref cpw, .ref cpc, .int (nI cp9), .ref car, .int (nI ca9)])), (co, .inl (kI, 6000, .inl (F 0))), (ca, .inl (kI, 6000, .inl (F 1))), (cb, .inl (kI, 6000, .inl (F 2))), (cl, .inl (kI, 1100, .inl (F 5))), (car, .inl (kI, 3002, .inl (F 13)))] s.heap.size = A at hD ⊢
  have hA : ∀ q : Nat, s.heap.size ≤ q → A q := fun q h => by rw [← hAe]; exact Or.inr h
  have hS : va_S A s.heap s.heap [] := va_S.rf
  have hP : va_P (dC, dI) vwCl [(mx, .inr (5, [.ref c0, .ref y, .ref e0, .ref me, .ref nq0, .ref wq, .int (nI fu), .int xfa, .int xru, .int (nI (ii + 1)), .int xba, .int (nI tp), .int xca, vfn, .ref mk0, .ref mk1, .ref mk2, .ref mk3, .int xfb])), (me, .inr (6, [.ref y, .ref wq, .int (nI mh), .ref mc, .ref mt, .int mlo, .int miu, .int mmo, .ref md0, .ref md1, .ref md2, .int mdt])), (mc, .inl (kL, mln, .inr (.inl fc))), (c0, .inr (0, [.ref co, .ref ca, .ref cb, .ref c3, .ref cw, .int (nI ct), .ref cl, .int (nI cb9), .ref cpv, .ref cpp, .ref cpl, .ref cpr, .ref cpt, .ref cpw, .ref cpc, .int (nI cp9), .ref car, .int (nI ca9)])), (co, .inl (kI, 6000, .inl (F 0))), (ca, .inl (kI, 6000, .inl (F 1))), (cb, .inl (kI, 6000, .inl (F 2))), (cl, .inl (kI, 1100, .inl (F 5))), (car, .inl (kI, 3002, .inl (F 13)))] s.heap := hP
  have hl := lv_entry ([.ref mx, .int (nI ii)]) (n := 7) (Nat.le_of_ble_eq_true rfl)
  rw [lg_entry_eq]
  generalize (lg_sl ([.ref mx, .int (nI ii)]) ++ List.replicate (7 - (lg_sl ([.ref mx, .int (nI ii)])).length) Slot.unset).toArray = ls at hl ⊢
  have hl : lv_has ls 7 [(0, .ref mx), (1, .int (nI ii))] := hl
  obtain ⟨⟨hi6, hroom⟩, hrest⟩ := hst ii tp ft ff fc hQ
  obtain ⟨tc, gg, l9, j9, he1, htc, he13, hl9, he5, hsz, hq⟩ := hrest.2.2.2.2 (hop)
  refine lv_aload_n hx hb dX5_go_0 rfl (lv_at hl 0 rfl) ?_
  refine va_get (D := (dC, dI)) (ci := 5) (v := .ref me) (C := RX5) (T := TX5) (N := 19) hx hb hts in_c_mgo_X5 hown hK hP 0 rfl rfl 3 (by decide) (hts (.fieldLink RX5 39 "OwnedPlaces$Machine" "memory" "LOwnedPlaces$Memory;") (wm_c_mgo 1 rfl)) (fun _ h9 => h9) rfl dX5_go_1 ?_
  refine va_get (D := (dC, dI)) (ci := 6) (v := .ref mc) (C := RX6) (T := TX6) (N := 12) hx hb hts in_c_mgo_X6 hown hK hP 1 rfl rfl 3 (by decide) (hts (.fieldLink RX5 98 "OwnedPlaces$Memory" "cells" "[J") (wm_c_mgo 2 rfl)) (fun _ h9 => h9) rfl dX5_go_4 ?_
  refine lv_astore_n (lv' := [(2, .ref mc), (0, .ref mx), (1, .int (nI ii))]) hx hb dX5_go_7 rfl hl (by decide) rfl (fun ls hl => ?_)
  refine lv_aload_n hx hb dX5_go_8 rfl (lv_at hl 1 rfl) ?_
  refine va_get (D := (dC, dI)) (ci := 5) (v := .ref c0) (C := RX5) (T := TX5) (N := 19) hx hb hts in_c_mgo_X5 hown hK hP 0 rfl rfl 0 (by decide) (hts (.fieldLink RX5 27 "OwnedPlaces$Machine" "code" "LOwnedPlaces$Code;") (wm_c_mgo 3 rfl)) (fun _ h9 => h9) rfl dX5_go_9 ?_
  refine va_get (D := (dC, dI)) (ci := 0) (v := .ref ca) (C := RX0) (T := TX0) (N := 18) hx hb hts in_c_mgo_X0 hown hK hP 3 rfl rfl 1 (by decide) (hts (.fieldLink RX5 121 "OwnedPlaces$Code" "a" "[I") (wm_c_mgo 4 rfl)) (fun _ h9 => h9) rfl dX5_go_12 ?_
  refine lv_iload_n hx hb dX5_go_15 rfl (lv_at hl 2 rfl) ?_
  refine va_iald hx hb hK hP 5 0 rfl rfl (vp_in_nI hi6 (by decide)) dX5_go_16 ?_
  refine lv_topi (fun v_1 ev_1 => ?_)
  obtain rfl : v_1 = nI tc := ev_1.trans (by rw [nI_clamp (by omega)]; exact he1)
  refine lv_istore_n (lv' := [(3, .int (nI tc)), (2, .ref mc), (0, .ref mx), (1, .int (nI ii))]) hx hb dX5_go_17 rfl hl (by decide) rfl (fun ls hl => ?_)
  refine lv_aload_n hx hb dX5_go_18 rfl (lv_at hl 2 rfl) ?_
  refine va_get (D := (dC, dI)) (ci := 5) (v := .ref c0) (C := RX5) (T := TX5) (N := 19) hx hb hts in_c_mgo_X5 hown hK hP 0 rfl rfl 0 (by decide) (hts (.fieldLink RX5 27 "OwnedPlaces$Machine" "code" "LOwnedPlaces$Code;") (wm_c_mgo 3 rfl)) (fun _ h9 => h9) rfl dX5_go_19 ?_
  refine va_get (D := (dC, dI)) (ci := 0) (v := .ref co) (C := RX0) (T := TX0) (N := 18) hx hb hts in_c_mgo_X0 hown hK hP 3 rfl rfl 0 (by decide) (hts (.fieldLink RX5 84 "OwnedPlaces$Code" "op" "[I") (wm_c_mgo 5 rfl)) (fun _ h9 => h9) rfl dX5_go_22 ?_
  refine lv_iload_n hx hb dX5_go_25 rfl (lv_at hl 3 rfl) ?_
  refine va_iald hx hb hK hP 4 0 rfl rfl (vp_in_nI hi6 (by decide)) dX5_go_26 ?_
  refine lv_topi (fun v_2 ev_2 => ?_)
  obtain rfl : v_2 = nI 20 := ev_2.trans (by rw [nI_clamp (by omega)]; exact hop)
  refine lv_tableIn (off := 159) (tgt := 186) hx hb dX5_go_27 (by decide) (by decide) (by decide) (by decide) ?_
  refine lv_aload_n hx hb dX5_go_186 rfl (lv_at hl 2 rfl) ?_
  refine va_get (D := (dC, dI)) (ci := 5) (v := .ref c0) (C := RX5) (T := TX5) (N := 19) hx hb hts in_c_mgo_X5 hown hK hP 0 rfl rfl 0 (by decide) (hts (.fieldLink RX5 27 "OwnedPlaces$Machine" "code" "LOwnedPlaces$Code;") (wm_c_mgo 3 rfl)) (fun _ h9 => h9) rfl dX5_go_187 ?_
  refine va_get (D := (dC, dI)) (ci := 0) (v := .ref cb) (C := RX0) (T := TX0) (N := 18) hx hb hts in_c_mgo_X0 hown hK hP 3 rfl rfl 2 (by decide) (hts (.fieldLink RX5 124 "OwnedPlaces$Code" "b" "[I") (wm_c_mgo 25 rfl)) (fun _ h9 => h9) rfl dX5_go_190 ?_
  refine lv_iload_n hx hb dX5_go_193 rfl (lv_at hl 3 rfl) ?_
  have hne9 := hsz
  rcases hsz with ⟨z8, hz1, hz2, hz3, hz4, hz5⟩ | ⟨hz1, hz2, ad9, hz3, hz4, hz5⟩
  · refine va_iald hx hb hK hP 6 0 rfl rfl (vp_in_nI hi6 (by decide)) dX5_go_194 ?_
    refine lv_topi (fun v_3 ev_3 => ?_)
    obtain rfl : v_3 = nI z8 := ev_3.trans (by rw [nI_clamp (by omega)]; exact hz1)
    refine lv_istore (lv' := [(4, .int (nI z8)), (3, .int (nI tc)), (2, .ref mc), (0, .ref mx), (1, .int (nI ii))]) hx hb dX5_go_195 hl (by decide) rfl (fun ls hl => ?_)
    refine lv_iload hx hb dX5_go_197 (lv_at hl 0 rfl) ?_
    refine lv_if_ne (tgt := 216) hx hb dX5_go_199 (by decide) (fun _ => ?_) (fun c_4 => absurd c_4 (nI_ne0 (by omega) (by omega)))
    refine lv_aload_n hx hb dX5_go_216 rfl (lv_at hl 2 rfl) ?_
    refine lv_aload_n hx hb dX5_go_217 rfl (lv_at hl 3 rfl) ?_
    refine va_get (D := (dC, dI)) (ci := 5) (v := .int (nI tp)) (C := RX5) (T := TX5) (N := 19) hx hb hts in_c_mgo_X5 hown hK hP 0 rfl rfl 11 (by decide) (hts (.fieldLink RX5 73 "OwnedPlaces$Machine" "top" "I") (wm_c_mgo 20 rfl)) (fun _ h9 => h9) rfl dX5_go_218 ?_
    refine lv_iload hx hb dX5_go_221 (lv_at hl 0 rfl) ?_
    refine lv_isub hx hb dX5_go_223 ?_
    refine lv_topi (fun f_5 ef_5 => ?_)
    obtain rfl : f_5 = nI (tp - z8) := ef_5.trans (pk_sub (a := tp) (b := z8) (by omega))
    refine va_lald hx hb hK hP 2 1 rfl rfl (vp_in_nI (by omega) (by omega)) dX5_go_224 ?_
    refine lv_topl (fun v_6 ev_6 => ?_)
    have hv : v_6 = fc (tp - z8) := ev_6.trans (by rw [nI_clamp (by omega)])
    refine lv_lstore (lv' := [(5, .long v_6), (4, .int (nI z8)), (3, .int (nI tc)), (2, .ref mc), (0, .ref mx), (1, .int (nI ii))]) hx hb dX5_go_225 hl (by decide) rfl (fun ls hl => ?_)
    refine lv_aload_n hx hb dX5_go_227 rfl (lv_at hl 4 rfl) ?_
    refine lv_aload_n hx hb dX5_go_228 rfl (lv_at hl 4 rfl) ?_
    refine va_get (D := (dC, dI)) (ci := 5) (v := .ref c0) (C := RX5) (T := TX5) (N := 19) hx hb hts in_c_mgo_X5 hown hK hP 0 rfl rfl 0 (by decide) (hts (.fieldLink RX5 27 "OwnedPlaces$Machine" "code" "LOwnedPlaces$Code;") (wm_c_mgo 3 rfl)) (fun _ h9 => h9) rfl dX5_go_229 ?_
    refine va_get (D := (dC, dI)) (ci := 0) (v := .ref cl) (C := RX0) (T := TX0) (N := 18) hx hb hts in_c_mgo_X0 hown hK hP 3 rfl rfl 6 (by decide) (hts (.fieldLink RX5 204 "OwnedPlaces$Code" "labelAt" "[I") (wm_c_mgo 18 rfl)) (fun _ h9 => h9) rfl dX5_go_232 ?_
    refine lv_aload_n hx hb dX5_go_235 rfl (lv_at hl 4 rfl) ?_
    refine va_get (D := (dC, dI)) (ci := 5) (v := .ref c0) (C := RX5) (T := TX5) (N := 19) hx hb hts in_c_mgo_X5 hown hK hP 0 rfl rfl 0 (by decide) (hts (.fieldLink RX5 27 "OwnedPlaces$Machine" "code" "LOwnedPlaces$Code;") (wm_c_mgo 3 rfl)) (fun _ h9 => h9) rfl dX5_go_236 ?_
    refine va_get (D := (dC, dI)) (ci := 0) (v := .ref car) (C := RX0) (T := TX0) (N := 18) hx hb hts in_c_mgo_X0 hown hK hP 3 rfl rfl 16 (by decide) (hts (.fieldLink RX5 217 "OwnedPlaces$Code" "armLabels" "[I") (wm_c_mgo 26 rfl)) (fun _ h9 => h9) rfl dX5_go_239 ?_
    refine lv_iload_n hx hb dX5_go_242 rfl (lv_at hl 2 rfl) ?_
    refine lv_lload hx hb dX5_go_243 (lv_at hl 0 rfl) ?_
    obtain ⟨f_7, ef_7⟩ : ∃ yY : Int32, yY = (v_6 : Int64).toInt32 := ⟨_, rfl⟩
    refine lv_l2i (v := f_7) hx hb dX5_go_245 ef_7.symm ?_
    obtain rfl : f_7 = nI gg := ef_7.trans (by rw [hv]; assumption)
    refine lv_iadd hx hb dX5_go_246 ?_
    refine lv_topi (fun f_8 ef_8 => ?_)
    obtain rfl : f_8 = nI (tc + gg) := ef_8.trans (nI_add _ _)
    refine va_iald hx hb hK hP 8 0 rfl rfl (vp_in_nI htc (by decide)) dX5_go_247 ?_
    refine lv_topi (fun v_9 ev_9 => ?_)
    obtain rfl : v_9 = nI l9 := ev_9.trans (by rw [nI_clamp (by omega)]; exact he13)
    refine va_iald hx hb hK hP 7 0 rfl rfl (vp_in_nI hl9 (by decide)) dX5_go_248 ?_
    refine lv_topi (fun v_10 ev_10 => ?_)
    obtain rfl : v_10 = nI j9 := ev_10.trans (by rw [nI_clamp (by omega)]; exact he5)
    refine va_put (D := (dC, dI)) (ci := 5) (v := .int (nI j9)) (ty := .int) (C := RX5) (T := TX5) (N := 19) hx hb hts in_c_mgo_X5 tyX5 tyX5_ok nmX5 hown hK hP hD hS 0 rfl rfl 9 (by decide) (hts (.fieldLink RX5 81 "OwnedPlaces$Machine" "next" "I") (wm_c_mgo 19 rfl)) (fun _ h9 => h9) rfl (by decide +kernel) rfl rfl (Nat.le_of_ble_eq_true rfl) dX5_go_249 (fun H locs hP hD hS => ?_)
    have hP : va_P (dC, dI) vwCl [(mx, .inr (5, [.ref c0, .ref y, .ref e0, .ref me, .ref nq0, .ref wq, .int (nI fu), .int xfa, .int xru, .int (nI j9), .int xba, .int (nI tp), .int xca, vfn, .ref mk0, .ref mk1, .ref mk2, .ref mk3, .int xfb])), (me, .inr (6, [.ref y, .ref wq, .int (nI mh), .ref mc, .ref mt, .int mlo, .int miu, .int mmo, .ref md0, .ref md1, .ref md2, .int mdt])), (mc, .inl (kL, mln, .inr (.inl fc))), (c0, .inr (0, [.ref co, .ref ca, .ref cb, .ref c3, .ref cw, .int (nI ct), .ref cl, .int (nI cb9), .ref cpv, .ref cpp, .ref cpl, .ref cpr, .ref cpt, .ref cpw, .ref cpc, .int (nI cp9), .ref car, .int (nI ca9)])), (co, .inl (kI, 6000, .inl (F 0))), (ca, .inl (kI, 6000, .inl (F 1))), (cb, .inl (kI, 6000, .inl (F 2))), (cl, .inl (kI, 1100, .inl (F 5))), (car, .inl (kI, 3002, .inl (F 13)))] H := hP
    have hD : va_D A [(mx, .inr (5, [.ref c0, .ref y, .ref e0, .ref me, .ref nq0, .ref wq, .int (nI fu), .int xfa, .int xru, .int (nI j9), .int xba, .int (nI tp), .int xca, vfn, .ref mk0, .ref mk1, .ref mk2, .ref mk3, .int xfb])), (me, .inr (6, [.ref y, .ref wq, .int (nI mh), .ref mc, .ref mt, .int mlo, .int miu, .int mmo, .ref md0, .ref md1, .ref md2, .int mdt])), (mc, .inl (kL, mln, .inr (.inl fc))), (c0, .inr (0, [.ref co, .ref ca, .ref cb, .ref c3, .ref cw, .int (nI ct), .ref cl, .int (nI cb9), .ref cpv, .ref cpp, .ref cpl, .ref cpr, .ref cpt, .ref cpw, .ref cpc, .int (nI cp9), .ref car, .int (nI ca9)])), (co, .inl (kI, 6000, .inl (F 0))), (ca, .inl (kI, 6000, .inl (F 1))), (cb, .inl (kI, 6000, .inl (F 2))), (cl, .inl (kI, 1100, .inl (F 5))), (car, .inl (kI, 3002, .inl (F 13)))] := hD
    refine lv_goto (tgt := 255) hx hb dX5_go_252 (by decide) ?_
    have hP9 := hP.sub (ws' := [(mx, .inr (5, [.ref c0, .ref y, .ref e0, .ref me, .ref nq0, .ref wq, .int (nI fu), .int xfa, .int xru, .int (nI j9), .int xba, .int (nI tp), .int xca, vfn, .ref mk0, .ref mk1, .ref mk2, .ref mk3, .int xfb])), (me, .inr (6, [.ref y, .ref wq, .int (nI mh), .ref mc, .ref mt, .int mlo, .int miu, .int mmo, .ref md0, .ref md1, .ref md2, .int mdt])), (mc, .inl (kL, mln, .inr (.inl fc))), (c0, .inr (0, [.ref co, .ref ca, .ref cb, .ref c3, .ref cw, .int (nI ct), .ref cl, .int (nI cb9), .ref cpv, .ref cpp, .ref cpl, .ref cpr, .ref cpt, .ref cpw, .ref cpc, .int (nI cp9), .ref car, .int (nI ca9)])), (co, .inl (kI, 6000, .inl (F 0))), (ca, .inl (kI, 6000, .inl (F 1))), (cb, .inl (kI, 6000, .inl (F 2))), (cl, .inl (kI, 1100, .inl (F 5))), (car, .inl (kI, 3002, .inl (F 13)))]) [0, 1, 2, 3, 4, 5, 6, 7, 8] rfl
    have hD9 := hD.sub (ws' := [(mx, .inr (5, [.ref c0, .ref y, .ref e0, .ref me, .ref nq0, .ref wq, .int (nI fu), .int xfa, .int xru, .int (nI j9), .int xba, .int (nI tp), .int xca, vfn, .ref mk0, .ref mk1, .ref mk2, .ref mk3, .int xfb])), (me, .inr (6, [.ref y, .ref wq, .int (nI mh), .ref mc, .ref mt, .int mlo, .int miu, .int mmo, .ref md0, .ref md1, .ref md2, .int mdt])), (mc, .inl (kL, mln, .inr (.inl fc))), (c0, .inr (0, [.ref co, .ref ca, .ref cb, .ref c3, .ref cw, .int (nI ct), .ref cl, .int (nI cb9), .ref cpv, .ref cpp, .ref cpl, .ref cpr, .ref cpt, .ref cpw, .ref cpc, .int (nI cp9), .ref car, .int (nI ca9)])), (co, .inl (kI, 6000, .inl (F 0))), (ca, .inl (kI, 6000, .inl (F 1))), (cb, .inl (kI, 6000, .inl (F 2))), (cl, .inl (kI, 1100, .inl (F 5))), (car, .inl (kI, 3002, .inl (F 13)))]) [0, 1, 2, 3, 4, 5, 6, 7, 8] (by decide) rfl
    have hK9 := hK.sub (tys' := [(kI, .int), (kL, .long)]) [0, 1] rfl
    exact W.vret hx hb hr (fun tS ht hW => ⟨⟨(), rfl, trivial, tp, fu, nI j9, xfa, xru, Nat.le_refl _, Or.inr ⟨rfl, j9, rfl, hq⟩, by rw [ht]; exact hP9, va_K.moved hW.alike hK9, hD9⟩, hS.F ht⟩) hS.2.2 dX5_go_255
  · refine va_iald hx hb hK hP 6 0 rfl rfl (vp_in_nI hi6 (by decide)) dX5_go_194 ?_
    refine lv_topi (fun v_3 ev_3 => ?_)
    obtain rfl : v_3 = nI 0 := ev_3.trans (by rw [nI_clamp (by omega)]; exact hz1)
    refine lv_istore (lv' := [(4, .int (nI 0)), (3, .int (nI tc)), (2, .ref mc), (0, .ref mx), (1, .int (nI ii))]) hx hb dX5_go_195 hl (by decide) rfl (fun ls hl => ?_)
    refine lv_iload hx hb dX5_go_197 (lv_at hl 0 rfl) ?_
    refine lv_if_ne (tgt := 216) hx hb dX5_go_199 (by decide) (fun c_4 => absurd c_4 (fun y9 => y9 rfl)) (fun _ => ?_)
    refine lv_aload_n hx hb dX5_go_202 rfl (lv_at hl 2 rfl) ?_
    refine lv_aload_n hx hb dX5_go_203 rfl (lv_at hl 2 rfl) ?_
    refine lv_aload_n hx hb dX5_go_204 rfl (lv_at hl 3 rfl) ?_
    refine va_get (D := (dC, dI)) (ci := 5) (v := .int (nI tp)) (C := RX5) (T := TX5) (N := 19) hx hb hts in_c_mgo_X5 hown hK hP 0 rfl rfl 11 (by decide) (hts (.fieldLink RX5 73 "OwnedPlaces$Machine" "top" "I") (wm_c_mgo 20 rfl)) (fun _ h9 => h9) rfl dX5_go_205 ?_
    refine lv_iconst (v := 1) hx hb dX5_go_208 (by decide) ?_
    refine lv_isub hx hb dX5_go_209 ?_
    refine lv_topi (fun f_5 ef_5 => ?_)
    obtain rfl : f_5 = nI (tp - 1) := ef_5.trans (pk_sub (a := tp) (b := 1) (by omega))
    refine va_lald hx hb hK hP 2 1 rfl rfl (vp_in_nI (by omega) (by omega)) dX5_go_210 ?_
    refine lv_topl (fun v_6 ev_6 => ?_)
    have hv0 : v_6 = fc (tp - 1) := ev_6.trans (by rw [nI_clamp (by omega)])
    obtain ⟨f_7, ef_7⟩ : ∃ yY : Int32, yY = (v_6 : Int64).toInt32 := ⟨_, rfl⟩
    refine lv_l2i (v := f_7) hx hb dX5_go_211 ef_7.symm ?_
    obtain rfl : f_7 = nI ad9 := ef_7.trans (by rw [hv0]; exact hz3)
    refine va_lald hx hb hK hP 2 1 rfl rfl (vp_in_nI hz4 (by omega)) dX5_go_212 ?_
    refine lv_topl (fun v_8 ev_8 => ?_)
    have hv : v_8 = fc ad9 := ev_8.trans (by rw [nI_clamp (by omega)])
    refine lv_goto (tgt := 225) hx hb dX5_go_213 (by decide) ?_
    refine lv_lstore (lv' := [(5, .long v_8), (4, .int (nI 0)), (3, .int (nI tc)), (2, .ref mc), (0, .ref mx), (1, .int (nI ii))]) hx hb dX5_go_225 hl (by decide) rfl (fun ls hl => ?_)
    refine lv_aload_n hx hb dX5_go_227 rfl (lv_at hl 4 rfl) ?_
    refine lv_aload_n hx hb dX5_go_228 rfl (lv_at hl 4 rfl) ?_
    refine va_get (D := (dC, dI)) (ci := 5) (v := .ref c0) (C := RX5) (T := TX5) (N := 19) hx hb hts in_c_mgo_X5 hown hK hP 0 rfl rfl 0 (by decide) (hts (.fieldLink RX5 27 "OwnedPlaces$Machine" "code" "LOwnedPlaces$Code;") (wm_c_mgo 3 rfl)) (fun _ h9 => h9) rfl dX5_go_229 ?_
    refine va_get (D := (dC, dI)) (ci := 0) (v := .ref cl) (C := RX0) (T := TX0) (N := 18) hx hb hts in_c_mgo_X0 hown hK hP 3 rfl rfl 6 (by decide) (hts (.fieldLink RX5 204 "OwnedPlaces$Code" "labelAt" "[I") (wm_c_mgo 18 rfl)) (fun _ h9 => h9) rfl dX5_go_232 ?_
    refine lv_aload_n hx hb dX5_go_235 rfl (lv_at hl 4 rfl) ?_
    refine va_get (D := (dC, dI)) (ci := 5) (v := .ref c0) (C := RX5) (T := TX5) (N := 19) hx hb hts in_c_mgo_X5 hown hK hP 0 rfl rfl 0 (by decide) (hts (.fieldLink RX5 27 "OwnedPlaces$Machine" "code" "LOwnedPlaces$Code;") (wm_c_mgo 3 rfl)) (fun _ h9 => h9) rfl dX5_go_236 ?_
    refine va_get (D := (dC, dI)) (ci := 0) (v := .ref car) (C := RX0) (T := TX0) (N := 18) hx hb hts in_c_mgo_X0 hown hK hP 3 rfl rfl 16 (by decide) (hts (.fieldLink RX5 217 "OwnedPlaces$Code" "armLabels" "[I") (wm_c_mgo 26 rfl)) (fun _ h9 => h9) rfl dX5_go_239 ?_
    refine lv_iload_n hx hb dX5_go_242 rfl (lv_at hl 2 rfl) ?_
    refine lv_lload hx hb dX5_go_243 (lv_at hl 0 rfl) ?_
    obtain ⟨f_9, ef_9⟩ : ∃ yY : Int32, yY = (v_8 : Int64).toInt32 := ⟨_, rfl⟩
    refine lv_l2i (v := f_9) hx hb dX5_go_245 ef_9.symm ?_
    obtain rfl : f_9 = nI gg := ef_9.trans (by rw [hv]; assumption)
    refine lv_iadd hx hb dX5_go_246 ?_
    refine lv_topi (fun f_10 ef_10 => ?_)
    obtain rfl : f_10 = nI (tc + gg) := ef_10.trans (nI_add _ _)
    refine va_iald hx hb hK hP 8 0 rfl rfl (vp_in_nI htc (by decide)) dX5_go_247 ?_
    refine lv_topi (fun v_11 ev_11 => ?_)
    obtain rfl : v_11 = nI l9 := ev_11.trans (by rw [nI_clamp (by omega)]; exact he13)
    refine va_iald hx hb hK hP 7 0 rfl rfl (vp_in_nI hl9 (by decide)) dX5_go_248 ?_
    refine lv_topi (fun v_12 ev_12 => ?_)
    obtain rfl : v_12 = nI j9 := ev_12.trans (by rw [nI_clamp (by omega)]; exact he5)
    refine va_put (D := (dC, dI)) (ci := 5) (v := .int (nI j9)) (ty := .int) (C := RX5) (T := TX5) (N := 19) hx hb hts in_c_mgo_X5 tyX5 tyX5_ok nmX5 hown hK hP hD hS 0 rfl rfl 9 (by decide) (hts (.fieldLink RX5 81 "OwnedPlaces$Machine" "next" "I") (wm_c_mgo 19 rfl)) (fun _ h9 => h9) rfl (by decide +kernel) rfl rfl (Nat.le_of_ble_eq_true rfl) dX5_go_249 (fun H locs hP hD hS => ?_)
    have hP : va_P (dC, dI) vwCl [(mx, .inr (5, [.ref c0, .ref y, .ref e0, .ref me, .ref nq0, .ref wq, .int (nI fu), .int xfa, .int xru, .int (nI j9), .int xba, .int (nI tp), .int xca, vfn, .ref mk0, .ref mk1, .ref mk2, .ref mk3, .int xfb])), (me, .inr (6, [.ref y, .ref wq, .int (nI mh), .ref mc, .ref mt, .int mlo, .int miu, .int mmo, .ref md0, .ref md1, .ref md2, .int mdt])), (mc, .inl (kL, mln, .inr (.inl fc))), (c0, .inr (0, [.ref co, .ref ca, .ref cb, .ref c3, .ref cw, .int (nI ct), .ref cl, .int (nI cb9), .ref cpv, .ref cpp, .ref cpl, .ref cpr, .ref cpt, .ref cpw, .ref cpc, .int (nI cp9), .ref car, .int (nI ca9)])), (co, .inl (kI, 6000, .inl (F 0))), (ca, .inl (kI, 6000, .inl (F 1))), (cb, .inl (kI, 6000, .inl (F 2))), (cl, .inl (kI, 1100, .inl (F 5))), (car, .inl (kI, 3002, .inl (F 13)))] H := hP
    have hD : va_D A [(mx, .inr (5, [.ref c0, .ref y, .ref e0, .ref me, .ref nq0, .ref wq, .int (nI fu), .int xfa, .int xru, .int (nI j9), .int xba, .int (nI tp), .int xca, vfn, .ref mk0, .ref mk1, .ref mk2, .ref mk3, .int xfb])), (me, .inr (6, [.ref y, .ref wq, .int (nI mh), .ref mc, .ref mt, .int mlo, .int miu, .int mmo, .ref md0, .ref md1, .ref md2, .int mdt])), (mc, .inl (kL, mln, .inr (.inl fc))), (c0, .inr (0, [.ref co, .ref ca, .ref cb, .ref c3, .ref cw, .int (nI ct), .ref cl, .int (nI cb9), .ref cpv, .ref cpp, .ref cpl, .ref cpr, .ref cpt, .ref cpw, .ref cpc, .int (nI cp9), .ref car, .int (nI ca9)])), (co, .inl (kI, 6000, .inl (F 0))), (ca, .inl (kI, 6000, .inl (F 1))), (cb, .inl (kI, 6000, .inl (F 2))), (cl, .inl (kI, 1100, .inl (F 5))), (car, .inl (kI, 3002, .inl (F 13)))] := hD
    refine lv_goto (tgt := 255) hx hb dX5_go_252 (by decide) ?_
    have hP9 := hP.sub (ws' := [(mx, .inr (5, [.ref c0, .ref y, .ref e0, .ref me, .ref nq0, .ref wq, .int (nI fu), .int xfa, .int xru, .int (nI j9), .int xba, .int (nI tp), .int xca, vfn, .ref mk0, .ref mk1, .ref mk2, .ref mk3, .int xfb])), (me, .inr (6, [.ref y, .ref wq, .int (nI mh), .ref mc, .ref mt, .int mlo, .int miu, .int mmo, .ref md0, .ref md1, .ref md2, .int mdt])), (mc, .inl (kL, mln, .inr (.inl fc))), (c0, .inr (0, [.ref co, .ref ca, .ref cb, .ref c3, .ref cw, .int (nI ct), .ref cl, .int (nI cb9), .ref cpv, .ref cpp, .ref cpl, .ref cpr, .ref cpt, .ref cpw, .ref cpc, .int (nI cp9), .ref car, .int (nI ca9)])), (co, .inl (kI, 6000, .inl (F 0))), (ca, .inl (kI, 6000, .inl (F 1))), (cb, .inl (kI, 6000, .inl (F 2))), (cl, .inl (kI, 1100, .inl (F 5))), (car, .inl (kI, 3002, .inl (F 13)))]) [0, 1, 2, 3, 4, 5, 6, 7, 8] rfl
    have hD9 := hD.sub (ws' := [(mx, .inr (5, [.ref c0, .ref y, .ref e0, .ref me, .ref nq0, .ref wq, .int (nI fu), .int xfa, .int xru, .int (nI j9), .int xba, .int (nI tp), .int xca, vfn, .ref mk0, .ref mk1, .ref mk2, .ref mk3, .int xfb])), (me, .inr (6, [.ref y, .ref wq, .int (nI mh), .ref mc, .ref mt, .int mlo, .int miu, .int mmo, .ref md0, .ref md1, .ref md2, .int mdt])), (mc, .inl (kL, mln, .inr (.inl fc))), (c0, .inr (0, [.ref co, .ref ca, .ref cb, .ref c3, .ref cw, .int (nI ct), .ref cl, .int (nI cb9), .ref cpv, .ref cpp, .ref cpl, .ref cpr, .ref cpt, .ref cpw, .ref cpc, .int (nI cp9), .ref car, .int (nI ca9)])), (co, .inl (kI, 6000, .inl (F 0))), (ca, .inl (kI, 6000, .inl (F 1))), (cb, .inl (kI, 6000, .inl (F 2))), (cl, .inl (kI, 1100, .inl (F 5))), (car, .inl (kI, 3002, .inl (F 13)))]) [0, 1, 2, 3, 4, 5, 6, 7, 8] (by decide) rfl
    have hK9 := hK.sub (tys' := [(kI, .int), (kL, .long)]) [0, 1] rfl
    exact W.vret hx hb hr (fun tS ht hW => ⟨⟨(), rfl, trivial, tp, fu, nI j9, xfa, xru, Nat.le_refl _, Or.inr ⟨rfl, j9, rfl, hq⟩, by rw [ht]; exact hP9, va_K.moved hW.alike hK9, hD9⟩, hS.F ht⟩) hS.2.2 dX5_go_255
