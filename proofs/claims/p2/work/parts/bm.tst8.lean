/-- bit g of sn -/
def bS (sn : Int32) (g : Nat) : Prop := (sn >>> (nI g &&& 31)) &&& 1 = 1
theorem i32_dist {x y z : Int32} : (x ||| y) &&& z = (x &&& z) ||| (y &&& z) := by
  rw [← Int32.toBitVec_inj, Int32.toBitVec_and, Int32.toBitVec_or, Int32.toBitVec_or, Int32.toBitVec_and, Int32.toBitVec_and]
  exact BitVec.and_or_distrib_right
theorem i32_and1 (x : Int32) : x &&& 1 = 0 ∨ x &&& 1 = 1 := by
  have h : (x &&& 1).toBitVec = BitVec.setWidth 32 (BitVec.ofBool (x.toBitVec.getLsbD 0)) := by
    rw [Int32.toBitVec_and]; exact BitVec.and_one_eq_setWidth_ofBool_getLsbD
  cases h2 : x.toBitVec.getLsbD 0 with
  | false => left; rw [← Int32.toBitVec_inj, h, h2]; rfl
  | true => right; rw [← Int32.toBitVec_inj, h, h2]; rfl
theorem bS_0 : ∀ g : Nat, g < 12 → ¬ bS 0 g := by unfold bS; decide +kernel
theorem bS_all : ∀ n : Nat, n < 13 → ∀ g : Nat, g < n → bS (((1 : Int32) <<< (nI n &&& 31)) - 1) g := by unfold bS; decide +kernel
theorem bS_1 : ∀ a : Nat, a < 12 → ∀ b : Nat, b < 12 → (((1 : Int32) <<< (nI a &&& 31)) >>> (nI b &&& 31)) &&& 1 = if b = a then 1 else 0 := by decide +kernel
theorem bS_or {sn : Int32} {a b : Nat} (ha : a < 12) (hb : b < 12) : bS (sn ||| ((1 : Int32) <<< (nI a &&& 31))) b ↔ b = a ∨ bS sn b := by
  unfold bS
  rw [Int32.shiftRight_or, i32_dist, bS_1 a ha b hb]
  by_cases e : b = a
  · rw [if_pos e]
    rcases i32_and1 (sn >>> (nI b &&& 31)) with h | h <;> rw [h]
    · exact ⟨fun _ => Or.inl e, fun _ => by decide⟩
    · exact ⟨fun _ => Or.inl e, fun _ => by decide⟩
  · rw [if_neg e, Int32.or_zero]
    exact ⟨Or.inr, fun h => h.elim (fun z => absurd z e) id⟩
/-- the value that is matched, as an arm has it: q = 0: the value itself, j parts of which are gone; q = 1, 2: a reference of loan m -/
def mE (q row m j : Nat) : tE := if q = 0 then (4, row, j) else (q + 4, row, m + 64 * j)
theorem wl_mE {q row m j : Nat} {s : List tE} (hq : q = 0 ∨ q = 1 ∨ q = 2) (hs : wl s = 0) : wl (mE q row m j :: s) = 0 := by
  show wl s + (if (mE q row m j).1 = 8 ∨ (mE q row m j).1 = 4 ∨ (mE q row m j).1 = 5 ∨ (mE q row m j).1 = 6 then 0 else 1) = 0
  rw [hs, if_pos]
  unfold mE
  rcases hq with rfl | rfl | rfl
  · exact Or.inr (Or.inl rfl)
  · exact Or.inr (Or.inr (Or.inl rfl))
  · exact Or.inr (Or.inr (Or.inr rfl))
/-- ahead of the arms -/
def sE (q sh m : Nat) : tE := if q = 0 then (0, 4 + sh, 0) else (q, 4 + sh, m)
theorem mE_r {q row m j : Nat} (h : q ≠ 0) : mE q row m j = (q + 4, row, m + 64 * j) := if_neg h
theorem vl_m {x : tE} {v : Nat} {O : List tE} (h : vl O = 0) : vl (x :: (8, v, 0) :: O) ≤ 211 := by
  have h1 := vl_any (x := x) (s := (8, v, 0) :: O)
  rw [vl_8] at h1
  omega
theorem vl_n {x : tE} {O : List tE} (h : vl O = 0) : vl (x :: O) ≤ 211 := by
  have h1 := vl_any (x := x) (s := O)
  omega
/-- a stack's rest below which variables from n on are not in scope -/
def oB (n : Nat) (O : List tE) : Prop := vl O = 0 ∧ ∀ x : tE, x ∈ O → ∀ w : Nat, x = (8, w, 0) → w < n
theorem oB_sc {F : tF} {n a b : Nat} {O : List tE} (h : scI F n a b O) : oB n O := by
  refine ⟨scI_vl h, fun x hx w e => ?_⟩
  obtain ⟨v, f, g, e2, hv, -⟩ := h x hx
  rw [e2] at e
  injection e with e3 e4
  injection e4 with e5 e6
  omega
/-- BIND: variable v takes part j -/
def tBd (X : tF) (G : Nat → Nat → Nat) (rs q row m j v : Nat) : tR := fun F a b => b = a + 1 ∧ ∀ (J : Int32 → List tE → Prop) (O : List tE), oB v O → sg F X G rs J a b (some (mE q row m j :: O)) (some (mE q row m (j + 1) :: (8, v, 0) :: O))
/-- a part of a value -/
theorem l_bindv {yp lo rs sh g j n m T z : Nat} {X : tF} {G : Nat → Nat → Nat} {na mu : Int32} {s w x t : tgS} (hI : tI yp X s) (hD : tDe s w na mu (nI (s.1 0))) (hS : tSe w x (s.1 4) T z) (hz : s.2 22 T = nI z ∧ z ≤ 17) (hA : tAd x t 29 (nI (s.1 4)) (X 3 ((sh * 12 + g) * 12 + j)) (x.2 22 (4 + sh)) (-1)) (h4 : s.1 4 < 40) (hc : s.1 0 < 6000) (hsh : sh < yp) (hK : s.2 20 (4 + sh) = 3) (hg : g < 12) (hn : X 1 (sh * 12 + g) = nI n) (hj : j < n) (hn12 : n ≤ 12) (hT : X 2 ((sh * 12 + g) * 12 + j) = nI T) (hV : tyV yp (s.1 7) (s.2 20) T) : tI yp X t ∧ nwI (s.1 4) t [(8, s.1 4, 0)] ∧ tOK lo 1 0 0 0 1 s t (tBd X G rs 0 (sh * 12 + g) m j (s.1 4)) := by
  have t4 : t.1 4 = s.1 4 + 1 := by rw [hA.1 4 (by decide), hS.2.1 4 (by decide), hD.1]
  have w7 := hD.2.1 7 (by decide); have w0 := hD.2.1 0 (by decide); have x0 := hS.2.1 0 (by decide)
  have hu9 : w.2 15 (s.1 4) = -1 := by rw [hD.2.2.2.2.1, pk_us]
  have hx0 : x.1 0 < 6000 := by omega
  have hIw := tI_de hI hD
  have hIx := tI_se hIw hS (by rw [hD.1]; omega) hu9 (by rw [w7, hD.2.2.1 20 (by decide)]; exact hV) (by rw [hD.2.2.1 22 (by decide)]; exact hz.1) hz.2 (by rw [hD.1]; omega)
  have hIt := tI_ad hIx hA hx0 (by unfold isL; decide)
  have hT7 : T < s.1 7 := hV.2
  have hT34 : 34 ≤ s.1 7 := hI.1.1
  have hT30 : s.1 7 ≤ 3040 := hI.1.2.1
  have hyp : yp ≤ 30 := hI.1.2.2.1
  have t18 : t.2 18 (s.1 4) = nI (x.1 0) := by rw [hA.2.1 18 (by decide), hS.2.2.1 18 (by decide) (by decide), hD.2.2.2.2.2.2.2.1, pk_us, x0, w0]
  have t19 : t.2 19 (s.1 4) = 1073741824 := by rw [hA.2.1 19 (by decide), hS.2.2.1 19 (by decide) (by decide), hD.2.2.2.2.2.2.2.2, pk_us]
  have t15 : t.2 15 (s.1 4) = nI T := by rw [hA.2.1 15 (by decide), hS.2.2.2.1, pk_us]
  have t0 : t.1 0 = x.1 0 + 1 := (insA_lt hA.2.2.1 hx0).1
  have t7 : t.1 7 = s.1 7 := by rw [hA.1 7 (by decide), hS.2.1 7 (by decide), w7]
  have t20 : t.2 20 = s.2 20 := by rw [hA.2.1 20 (by decide), hS.2.2.1 20 (by decide) (by decide), hD.2.2.1 20 (by decide)]
  have t22 : t.2 22 = x.2 22 := hA.2.1 22 (by decide)
  have h3 := tOK_nc (tOK_de (lo := lo) hD) (tOK_se (lo := lo) hS hu9)
  refine ⟨hIt, ⟨fun x9 hx9 => ?_, nwC_1 (by omega)⟩, tOK_sq h3 (tOK_ad (lo := lo) hA hx0 (by unfold isL; decide)) (by omega) (fun F hF g1 g2 => ?_)⟩
  · rw [List.mem_singleton] at hx9
    exact ⟨s.1 4, x.1 0, hx9, Nat.le_refl _, by omega, t19, t18, by omega⟩
  · have g1 : x.1 0 = s.1 0 := g1
    obtain ⟨b1, k0, k1, k2, k3, -⟩ := g2
    refine ⟨by omega, fun J O hO => ?_⟩
    rw [b1, ← g1]
    obtain ⟨f1', f2', f3', -⟩ := hF.2.2.2.2 (s.1 4) (by omega)
    have f15 : F 15 (s.1 4) = nI T := by rw [(f1' (by rw [t15]; exact nI_ne1 (by omega))).1, t15]
    have f20 : F 20 (4 + sh) = 3 := by rw [hF.2.2.2.1 20 (by decide) (by decide) (4 + sh) (by omega), t20]; exact hK
    have f22 : F 22 (4 + sh) = x.2 22 (4 + sh) := by rw [hF.2.2.2.1 22 (by decide) (by decide) (4 + sh) (by omega), t22]
    exact sg_one (o := 29) k0 ⟨s.1 4, k1, h4⟩ (vl_n hO.1) (vs (vl_m hO.1)) (fun k hk9 => ⟨s.1 4, sh, g, j, n, T, O, h4, k1, by omega, f20, hg, hn, hj, hn12, hT, f15, f3'.trans t18, fun x9 hx9 e9 => absurd (hO.2 x9 hx9 _ e9) (Nat.lt_irrefl _), k2, k3.trans f22.symm, rfl, hk9⟩)
/-- a reference to a part -/
theorem l_bindr {yp lo rs sh g j n u ri b q : Nat} {X : tF} {G : Nat → Nat → Nat} {na mu kd : Int32} {s w y x t : tgS} (hI : tI yp X s) (hD : tDe s w na mu (nI (s.1 0))) (hM : tMk kd u ri w y) (hkd : (q = 1 ∧ kd = 5) ∨ (q = 2 ∧ kd = 6)) (hS : tSe y x (s.1 4) ri 1) (hA : tAd x t 30 (nI (s.1 4)) (X 3 ((sh * 12 + g) * 12 + j)) (nI b) (-1)) (h4 : s.1 4 < 40) (hc : s.1 0 < 6000) (hc7 : s.1 7 < 3040) (hb : b < 54) (hsh : sh < yp) (hK : s.2 20 (4 + sh) = 3) (hg : g < 12) (hn : X 1 (sh * 12 + g) = nI n) (hj : j < n) (hn12 : n ≤ 12) (hT : X 2 ((sh * 12 + g) * 12 + j) = nI u) (hN : tyN yp (s.2 20) u) (hu : u < s.1 7) : tI yp X t ∧ nwI (s.1 4) t [(8, s.1 4, 0)] ∧ tOK lo 1 0 0 0 1 s t (tBd X G rs q (sh * 12 + g) (b + 1) j (s.1 4)) := by
  have w7 := hD.2.1 7 (by decide); have w0 := hD.2.1 0 (by decide); have w20 := hD.2.2.1 20 (by decide)
  have hIw := tI_de hI hD
  have hNw : tyN yp (w.2 20) u := by rw [w20]; exact hN
  have hIy := tI_mk hIw hM hNw (by omega) (by omega)
  obtain ⟨o2, hty, hr34, hr7, hrk⟩ := tOK_mk (lo := lo) hM hIw.1 hNw (by omega) (by omega)
  have y4 := hM.1 4 (by decide); have y0 := hM.1 0 (by decide)
  have hu9 : y.2 15 (s.1 4) = -1 := by rw [hM.2.1 15 (by decide), hD.2.2.2.2.1, pk_us]
  have hz1 : y.2 22 ri = nI 1 := (hIy.1.2.2.2.2.2.2.2.1 ri hr34 hr7).2.1
  have hkk : kd = 5 ∨ kd = 6 := hkd.imp (fun z => z.2) (fun z => z.2)
  have hIx := tI_se hIy hS (by rw [y4, hD.1]; omega) hu9 ⟨Or.inr ⟨hr34, by rw [hrk]; exact hkk⟩, hr7⟩ hz1 (by decide) (by rw [y4, hD.1]; omega)
  have x0 := hS.2.1 0 (by decide)
  have hx0 : x.1 0 < 6000 := by omega
  have hIt := tI_ad hIx hA hx0 (by unfold isL; decide)
  have hT34 : 34 ≤ s.1 7 := hI.1.1
  have hyp : yp ≤ 30 := hI.1.2.2.1
  have t4 : t.1 4 = s.1 4 + 1 := by rw [hA.1 4 (by decide), hS.2.1 4 (by decide), y4, hD.1]
  have t18 : t.2 18 (s.1 4) = nI (x.1 0) := by rw [hA.2.1 18 (by decide), hS.2.2.1 18 (by decide) (by decide), hM.2.1 18 (by decide), hD.2.2.2.2.2.2.2.1, pk_us, x0, y0, w0]
  have t19 : t.2 19 (s.1 4) = 1073741824 := by rw [hA.2.1 19 (by decide), hS.2.2.1 19 (by decide) (by decide), hM.2.1 19 (by decide), hD.2.2.2.2.2.2.2.2, pk_us]
  have t15 : t.2 15 (s.1 4) = nI ri := by rw [hA.2.1 15 (by decide), hS.2.2.2.1, pk_us]
  have t0 : t.1 0 = x.1 0 + 1 := (insA_lt hA.2.2.1 hx0).1
  have t7 : t.1 7 = y.1 7 := by rw [hA.1 7 (by decide), hS.2.1 7 (by decide)]
  have hy7 := o2.1.1 7 (by decide)
  have hri : ri < 3040 := hM.2.2.2.1
  have t20 : t.2 20 = y.2 20 := by rw [hA.2.1 20 (by decide), hS.2.2.1 20 (by decide) (by decide)]
  have y20 : y.2 20 (4 + sh) = 3 := by rw [o2.1.2.2.2.2.1 20 (by decide) (by decide) (4 + sh) (by omega), w20]; exact hK
  have K := tOK_seq (tOK_seq (tOK_seq (tOK_de (lo := lo) hD) o2) (tOK_se (lo := lo) hS hu9)) (tOK_ad (lo := lo) hA hx0 (by unfold isL; decide))
  refine ⟨hIt, ⟨fun x9 hx9 => ?_, nwC_1 (by omega)⟩, tOK_mn K (Nat.le_refl _) (by omega) (fun F hF hz => ?_)⟩
  · rw [List.mem_singleton] at hx9
    exact ⟨s.1 4, x.1 0, hx9, Nat.le_refl _, by omega, t19, t18, by omega⟩
  · obtain ⟨m3, -, -, ⟨m2, -, -, ⟨m1, -, -, e1, e2, f20, f21⟩, e3⟩, b1, k0, k1, k2, k3, -⟩ := hz
    have e1 : m1 = s.1 0 := e1
    have e3 : m3 = m2 := e3
    have em : m3 = s.1 0 := by omega
    rw [em] at b1 k0 k1 k2 k3
    refine ⟨b1, fun J O hO => ?_⟩
    rw [b1]
    obtain ⟨f1', f2', f3', -⟩ := hF.2.2.2.2 (s.1 4) (by omega)
    have f15 : F 15 (s.1 4) = nI ri := by rw [(f1' (by rw [t15]; exact nI_ne1 (by omega))).1, t15]
    have f18 : F 18 (s.1 4) = nI (s.1 0) := by rw [f3', t18, show x.1 0 = s.1 0 by omega]
    have g20 : F 20 (4 + sh) = 3 := by rw [hF.2.2.2.1 20 (by decide) (by decide) (4 + sh) (by omega), t20]; exact y20
    have hq0 : q ≠ 0 := by rcases hkd with z | z <;> omega
    have hNf : tNf F ri = (q, cN (X 2 ((sh * 12 + g) * 12 + j)), 0) := by
      rw [hT, cN_nI (by omega)]
      rcases hkd with ⟨z1, z2⟩ | ⟨z1, z2⟩
      · rw [tNf_5 (by omega) (f20.trans z2) f21 (by omega), z1]
      · rw [tNf_6 (by omega) (f20.trans z2) f21 (by omega), z1]
    rw [mE_r hq0, mE_r hq0]
    exact sg_one (o := 30) k0 ⟨s.1 4, b, k1, h4, k3, hb⟩ (vl_n hO.1) (vs (vl_m hO.1)) (fun k hk9 => ⟨s.1 4, sh, g, j, n, ri, b, q, O, h4, k1, by omega, g20, hg, hn, hj, hn12, by rcases hkd with z | z <;> omega, f15, hri, hNf, f18, fun x9 hx9 e9 => absurd (hO.2 x9 hx9 _ e9) (Nat.lt_irrefl _), k2, k3, hb, rfl, hk9⟩)
theorem tnwA_vl {fi : Nat} {t : tgS} : ∀ {N : List tE}, tnwA fi t N → vl N = 0
  | [], _ => rfl
  | x :: N, h => by
    obtain ⟨v, f, e, -⟩ := h x (List.mem_cons_self ..)
    have h2 := tnwA_vl (N := N) (fun y hy => h y (List.mem_cons_of_mem _ hy))
    rw [e, vl_8, h2]
/-- j parts are bound: N: their variables -/
def tBi (yp : Nat) (X : tF) (G : Nat → Nat → Nat) (rs q row m j : Nat) (s t : tgS) : Prop := tI yp X t ∧ tJ t ∧ t.1 4 = s.1 4 + j ∧ t.1 5 = s.1 5 ∧ t.1 0 = s.1 0 + j ∧ t.1 1 = s.1 1 ∧ t.1 2 = s.1 2 ∧ t.1 3 = s.1 3 ∧ ∃ N : List tE, nwI (s.1 4) t N ∧ tOK (s.1 1) j 0 0 0 j s t (fun F a b => ∀ (J : Int32 → List tE → Prop) (O : List tE), oB (s.1 4) O → sg F X G rs J a b (some (mE q row m 0 :: O)) (some (mE q row m j :: (N ++ O))))
theorem tBi_0 {yp rs q row m : Nat} {X : tF} {G : Nat → Nat → Nat} {s : tgS} (hI : tI yp X s) (hJ : tJ s) : tBi yp X G rs q row m 0 s s := ⟨hI, hJ, rfl, rfl, rfl, rfl, rfl, rfl, [], nwI_0 (Nat.le_refl _), tOK_mn tOK_rf (Nat.le_refl _) (by omega) (fun F hF y J O hO => sg_nil (vs (vl_n hO.1)))⟩
theorem tBi_S {yp rs q row m j : Nat} {X : tF} {G : Nat → Nat → Nat} {s t u : tgS} (h : tBi yp X G rs q row m j s t) (hI : tI yp X u) (hJ : tJ u) (hN : nwI (t.1 4) u [(8, t.1 4, 0)]) (ho : tOK (s.1 1) 1 0 0 0 1 t u (tBd X G rs q row m j (t.1 4))) (hu : u.1 4 = t.1 4 + 1 ∧ u.1 5 = t.1 5 ∧ u.1 0 = t.1 0 + 1 ∧ u.1 1 = t.1 1 ∧ u.1 2 = t.1 2 ∧ u.1 3 = t.1 3) : tBi yp X G rs q row m (j + 1) s u := by
  obtain ⟨a1, a2, a3, a4, a5, a6, a7, a8, N, a9, a10⟩ := h
  refine ⟨hI, hJ, by omega, by omega, by omega, by omega, by omega, by omega, (8, t.1 4, 0) :: N, ?_, tOK_sq a10 ho (by omega) (fun F hF y1 y2 J O hO => ?_)⟩
  · exact ⟨tnwA_app (M := [(8, t.1 4, 0)]) (tnwA_le hN.1 (by omega)) (tnwA_x a9.1 ho.1 ho.2.1.2), nwC_cat (M := N) (N := [(8, t.1 4, 0)]) a9.2 hN.2 ho.1 ho.2.1.2⟩
  · have hv := tnwA_vl a9.1
    have hv2 : oB (t.1 4) (N ++ O) := by
      refine ⟨by rw [vl_app, hv]; have := hO.1; omega, fun x9 hx9 w9 e9 => ?_⟩
      rcases List.mem_append.mp hx9 with z9 | z9
      · obtain ⟨v9, f9, e8, g1, g2, -⟩ := a9.1 x9 z9
        rw [e8] at e9
        injection e9 with e3 e4
        injection e4 with e5 e6
        omega
      · have := hO.2 x9 z9 w9 e9
        omega
    exact sg_app (y1 J O hO) (y2.2 J (N ++ O) hv2) (a10.1.1 0 (by decide)) (ho.1.1 0 (by decide))
/-- an arm, behind its label -/
def tAm (X : tF) (G : Nat → Nat → Nat) (rs n q row m : Nat) (r : Int32) : tR := fun F a b => ∀ (J : Int32 → List tE → Prop) (O : List tE), scJ F n a b O → sg F X G rs J a b (some (mE q row m 0 :: O)) (if r = 1 then none else some O)
def tArm (yp : Nat) (X : tF) (G : Nat → Nat → Nat) (rs tt nw q nw2 b v mq row m : Nat) (ft ft2 : Int32) (s t : tgS) (r : Int32) (qt2 qv2 ql2 : Nat) (qp2 qm2 : Int32) : Prop := tSb0 tt nw2 b v ft2 s t r qt2 qv2 ql2 qp2 qm2 ∧ (ft2 = 0 → ft = 0 ∧ nw2 = q ∧ tI yp X t ∧ tOK (s.1 1) (2 * (q - nw) - 4) (2 * (cL X q - cL X nw) - 2) (q - nw) (2 * (q - nw) - 4) (q - nw) s t (tAm X G rs (s.1 4) mq row m r) ∧ nwC (s.1 4) t [])
/-- its binds, POP, its block -/
theorem l_marm {yp rs tt nw B q n2 b v j mq sh g m : Nat} {X : tF} {G : Nat → Nat → Nat} {ft f2 x1 r : Int32} {s t w y : tgS} {qt qv ql : Nat} {qp qm : Int32} (h : tBi yp X G rs mq (sh * 12 + g) m j s t) (hA : tAd t w 31 x1 0 0 (-1)) (hb : tBs 3 yp X G rs tt B q n2 b v (s.1 4) ft f2 w y r qt qv ql qp qm) (hx1 : x1 = if mq = 0 then s.2 22 (4 + sh) else 1) (hmq : mq = 0 ∨ mq = 1 ∨ mq = 2) (hsh : sh < yp) (hg : g < 12) (hX : X 1 (sh * 12 + g) = nI j) (hp : nw + j + 2 ≤ B ∧ B + 2 ≤ q) (hcl : cL X nw + 1 ≤ cL X B) (hc0 : s.1 0 + j < 6000) (hf : ft = 0) (hI : tI yp X s) : tArm yp X G rs tt nw q n2 b (j + v) mq (sh * 12 + g) m ft f2 s y r qt qv ql qp qm := by
  obtain ⟨a1, a2, a3, a4, a5, a6, a7, a8, N, a9, a10⟩ := h
  obtain ⟨⟨b1, b2, b3, b4, b5, b6, b7⟩, h5⟩ := hb
  have w4 := hA.1 4 (by decide); have w5 := hA.1 5 (by decide)
  refine ⟨⟨b1, b2, b3, b4, by omega, by omega, b7⟩, fun z => ?_⟩
  obtain ⟨c1, c2, c3, c4⟩ := h5 z
  have ht0 : t.1 0 < 6000 := by omega
  have oA := tOK_ad (lo := s.1 1) hA ht0 (by unfold isL; decide)
  have hNw : nwI (s.1 4) w N := ⟨tnwA_x a9.1 oA.1 oA.2.1.2, nwC_x a9.2 oA.1 oA.2.1.2 (by omega)⟩
  have c5 := c4.1 N hNw
  have w1 := hA.1 1 (by decide)
  have cl2 := cL_le (X := X) (show B ≤ q by omega)
  have w0 : w.1 0 = t.1 0 + 1 := (insA_lt hA.2.2.1 ht0).1
  have k1 := tOKb_of (fi := s.1 4) a10 (Nat.le_refl _)
  have k2 := tOKb_of (fi := s.1 4) oA (by omega)
  have c5 : tOKb (s.1 4) (s.1 1) (2 * (q - B) - 3) (2 * (cL X q - cL X B)) (q - B) (2 * (q - B)) (q - B) w y (tBm X G rs (s.1 4) N r) := by
    have e : w.1 1 = s.1 1 := by omega
    rw [← e]; exact c5
  have k3 := tOKb_sq (k0 := j + 1) (k1 := 0) (k2 := 0) (k3 := 0) (k7 := j) (R := tSq (fun F a b => ∀ (J : Int32 → List tE → Prop) (O : List tE), oB (s.1 4) O → sg F X G rs J a b (some (mE mq (sh * 12 + g) m 0 :: O)) (some (mE mq (sh * 12 + g) m j :: (N ++ O)))) (tIn 31 x1 0 0 (-1))) k1 k2 (by omega) (fun F hF y1 y2 => ⟨t.1 0, a10.1.1 0 (by decide), oA.1.1 0 (by decide), y1, y2⟩)
  refine ⟨c1, c2, c3, tOKb_ok (tOKb_sq k3 c5 (by omega) (fun F hF y1 y2 J O hO => ?_)), c4.2⟩
  obtain ⟨m1, m2, m3, y3, z1, g0, g1, -⟩ := y1
  have hv := scI_vl hO.1
  have hvN := tnwA_vl a9.1
  have hvNO : vl (N ++ O) = 0 := by rw [vl_app, hvN]; omega
  have x1' := y3 J O (oB_sc hO.1)
  have hFt := hF.2.2.2
  have hxs : tXt s y := tXt_tr a10.1 (tXt_tr oA.1 c5.1)
  have hT34 : 34 ≤ s.1 7 := hI.1.1
  have hyp : yp ≤ 30 := hI.1.2.2.1
  have f22 : F 22 (4 + sh) = s.2 22 (4 + sh) := (tFu_dn hFt hxs).1 22 (by decide) (by decide) (4 + sh) (by omega)
  have hpop : sg F X G rs J m1 (w.1 0) (some (mE mq (sh * 12 + g) m j :: (N ++ O))) (some (N ++ O)) := by
    rw [z1]
    refine sg_one (o := 31) g0 (show (31 : Nat) < 33 by decide) (vl_n hvNO) (vs (by omega)) (fun k hk9 => ?_)
    by_cases e : mq = 0
    · rw [if_pos e] at hx1
      refine ⟨sh * 12 + g, 4, j, N ++ O, ?_, Or.inl ⟨rfl, sh, g, by omega, hg, rfl, hX, ?_⟩, hk9⟩
      · unfold mE; rw [if_pos e]
      · rw [g1, hx1, f22]
    · rw [if_neg e] at hx1
      exact ⟨sh * 12 + g, mq + 4, m + 64 * j, N ++ O, by rw [mE_r e], Or.inr ⟨by omega, by rw [g1, hx1]⟩, hk9⟩
  have x3 := y2 J O (scJ_sub hO (Nat.le_trans m2 m3) (Nat.le_refl _))
  exact sg_app (sg_app x1' hpop m2 m3) x3 (Nat.le_trans m2 m3) (c5.1.1 0 (by decide))
/-- newArms -/
def tNa (s t : tgS) (z : Nat) : Prop := t.2 = s.2 ∧ t.1 3 = min (s.1 3 + z) 2990 ∧ ∀ k : Nat, k ≠ 3 → t.1 k = s.1 k
theorem tJ_na {s t : tgS} {z : Nat} (h : tJ s) (ha : tNa s t z) : tJ t := by
  obtain ⟨a1, a2, a3⟩ := ha
  unfold tJ at *
  rw [a1, a3 0 (by decide), a3 1 (by decide), a3 2 (by decide), a3 4 (by decide), a3 5 (by decide), a3 7 (by decide)]
  exact ⟨h.1, h.2.1, h.2.2.1, by omega, h.2.2.2.2⟩
theorem tI_na {yp z : Nat} {X : tF} {s t : tgS} (h : tI yp X s) (ha : tNa s t z) : tI yp X t := by
  obtain ⟨a1, a2, a3⟩ := ha
  refine tI_of h (by unfold tTy; rw [a1, a3 7 (by decide)]) (a3 4 (by decide)) (by rw [a1]) (a3 6 (by decide)) (by rw [a1]) ?_ (brI_same h.2.2.2.2.2 (a3 0 (by decide)) (Nat.le_of_eq (a3 5 (by decide)).symm) (a3 8 (by decide)) (by rw [a1]) (by rw [a1]) (a3 4 (by decide)) (by rw [a1]))
  unfold lbI
  rw [a1, a3 0 (by decide), a3 1 (by decide)]
  exact h.2.1
theorem tOK_na {lo z : Nat} {s t : tgS} (h : tNa s t z) (hz : s.1 3 + z ≤ 2990) : tOK lo 0 0 0 z 0 s t (fun _ a b => b = a) := by
  obtain ⟨e, a2, a3⟩ := h
  refine ⟨⟨fun k hk => ?_, fun k hk i hi => by rw [e], fun k h1 h2 i hi => by rw [e], fun i hi => by rw [e], fun k h1 h2 i hi => by rw [e], fun v hv => ⟨by rw [e], by rw [e], by rw [e], fun _ => ⟨by rw [e], by rw [e]⟩, Or.inl (by rw [e])⟩⟩, ⟨fun i h1 h2 h3 => absurd h2 (by rw [a3 0 (by decide)]; omega), fun v _ => by rw [e]⟩, ⟨by rw [a3 0 (by decide)]; omega, by rw [a3 1 (by decide)]; omega, by rw [a3 2 (by decide)]; omega, by omega, by rw [a3 7 (by decide)]; omega⟩, fun F hF => a3 0 (by decide)⟩
  by_cases q : k = 3
  · subst q; omega
  · rw [a3 k q]; exact Nat.le_refl _
/-- an arm's label is kept -/
def tArl (s t : tgS) (i L : Nat) : Prop := t.1 = s.1 ∧ (∀ k : Nat, k ≠ 13 → t.2 k = s.2 k) ∧ t.2 13 = upd (s.2 13) i (nI L)
theorem tJ_al {s t : tgS} {i L : Nat} (h : tJ s) (ha : tArl s t i L) : tJ t := by
  obtain ⟨a1, a2, a3⟩ := ha
  unfold tJ at *
  rw [a1, a2 15 (by decide), a2 16 (by decide), a2 21 (by decide), a2 22 (by decide), a2 24 (by decide), a2 25 (by decide), a2 26 (by decide)]
  exact h
theorem tI_al {yp i L : Nat} {X : tF} {s t : tgS} (h : tI yp X s) (ha : tArl s t i L) : tI yp X t := by
  obtain ⟨a1, a2, a3⟩ := ha
  refine tI_of h (by unfold tTy; rw [a1, a2 20 (by decide), a2 21 (by decide), a2 22 (by decide), a2 23 (by decide), a2 24 (by decide), a2 25 (by decide), a2 26 (by decide)]) (by rw [a1]) (a2 15 (by decide)) (by rw [a1]) (a2 17 (by decide)) ?_ (brI_same h.2.2.2.2.2 (by rw [a1]) (Nat.le_of_eq (by rw [a1])) (by rw [a1]) (a2 0 (by decide)) (a2 2 (by decide)) (by rw [a1]) (a2 19 (by decide)))
  unfold lbI
  rw [a1, a2 0 (by decide), a2 1 (by decide), a2 5 (by decide)]
  exact h.2.1
theorem lbU_al {s t : tgS} {i L M : Nat} (h : lbU s M) (ha : tArl s t i L) : lbU t M := by
  obtain ⟨a1, a2, a3⟩ := ha
  unfold lbU
  rw [a1, a2 0 (by decide), a2 1 (by decide)]
  exact h
/-- t is s and more, but for labels of arms from n on -/
def tXn (n : Nat) (s t : tgS) : Prop := (∀ k : Nat, k < 9 → s.1 k ≤ t.1 k) ∧ (∀ k : Nat, k < 5 → ∀ i : Nat, i < s.1 0 → t.2 k i = s.2 k i) ∧ (∀ k : Nat, 6 ≤ k → k < 13 → ∀ i : Nat, i < s.1 2 → t.2 k i = s.2 k i) ∧ (∀ i : Nat, i < n → t.2 13 i = s.2 13 i) ∧ (∀ k : Nat, 20 ≤ k → k < 24 → ∀ i : Nat, i < s.1 7 → t.2 k i = s.2 k i) ∧ ∀ v : Nat, v < s.1 4 → tXv s t v
theorem tXn_of {n : Nat} {s t : tgS} (h : tXt s t) (hn : n ≤ s.1 3) : tXn n s t := ⟨h.1, h.2.1, h.2.2.1, fun i hi => h.2.2.2.1 i (by omega), h.2.2.2.2.1, h.2.2.2.2.2⟩
theorem tXn_al {n i L : Nat} {s t : tgS} (ha : tArl s t i L) (hn : n ≤ i) : tXn n s t := by
  obtain ⟨a1, a2, a3⟩ := ha
  exact ⟨fun k hk => by rw [a1]; exact Nat.le_refl _, fun k hk j hj => by rw [a2 k (by omega)], fun k h1 h2 j hj => by rw [a2 k (by omega)], fun j hj => by rw [a3]; exact pk_un (by omega), fun k h1 h2 j hj => by rw [a2 k (by omega)], fun v hv => ⟨by rw [a2 14 (by decide)], by rw [a2 16 (by decide)], by rw [a2 18 (by decide)], fun _ => ⟨by rw [a2 15 (by decide)], by rw [a2 17 (by decide)]⟩, Or.inl (by rw [a2 19 (by decide)])⟩⟩
theorem tXn_tr {n : Nat} {s u t : tgS} (h1 : tXn n s u) (h2 : tXn n u t) : tXn n s t := by
  obtain ⟨a1, a2, a3, a4, a5, a6⟩ := h1
  obtain ⟨b1, b2, b3, b4, b5, b6⟩ := h2
  have c0 := a1 0 (by decide); have c2 := a1 2 (by decide); have c3 := a1 3 (by decide); have c4 := a1 4 (by decide); have c7 := a1 7 (by decide)
  refine ⟨fun k hk => Nat.le_trans (a1 k hk) (b1 k hk), fun k hk i hi => (b2 k hk i (by omega)).trans (a2 k hk i hi), fun k h h' i hi => (b3 k h h' i (by omega)).trans (a3 k h h' i hi), fun i hi => (b4 i hi).trans (a4 i hi), fun k h h' i hi => (b5 k h h' i (by omega)).trans (a5 k h h' i hi), fun v hv => ?_⟩
  obtain ⟨d1, d2, d3, d4, d5⟩ := a6 v hv
  obtain ⟨e1, e2, e3, e4, e5⟩ := b6 v (by omega)
  refine ⟨e1.trans d1, e2.trans d2, e3.trans d3, fun h => ?_, ?_⟩
  · obtain ⟨f1, f2⟩ := d4 h
    obtain ⟨g1, g2⟩ := e4 (by rw [f1]; exact h)
    exact ⟨g1.trans f1, g2.trans f2⟩
  · rcases e5 with e5 | ⟨e5, e, e6, e7, e8⟩
    · rcases d5 with d5 | ⟨d5, e, d6, d7, d8⟩
      · exact Or.inl (e5.trans d5)
      · exact Or.inr ⟨d5, e, e5.trans d6, d7, d8⟩
    · rcases d5 with d5 | ⟨d5, e', d6, d7, d8⟩
      · exact Or.inr ⟨d5.symm.trans e5, e, e6, by omega, e8⟩
      · exact absurd (d6.symm.trans e5) (open_ne d8)
theorem tFu_dnn {n : Nat} {s t : tgS} {F : tF} (h : tFu t F) (hx : tXn n s t) : tFu s F := by
  obtain ⟨a1, a2, a3, a4, a5, a6⟩ := hx
  obtain ⟨h1, h2⟩ := h
  have c0 := a1 0 (by decide); have c4 := a1 4 (by decide); have c7 := a1 7 (by decide)
  refine ⟨fun k h h' i hi => (h1 k h h' i (by omega)).trans (a5 k h h' i hi), fun v hv => ?_⟩
  obtain ⟨d1, d2, d3, d4, d5⟩ := a6 v hv
  obtain ⟨e1, e2, e3, e4, e5⟩ := h2 v (by omega)
  refine ⟨fun h => ?_, e2.trans d2, e3.trans d3, fun h => ?_, fun h => ?_⟩
  · obtain ⟨f1, f2⟩ := d4 h
    obtain ⟨g1, g2⟩ := e1 (by rw [f1]; exact h)
    exact ⟨g1.trans f1, g2.trans f2⟩
  · rcases d5 with d5 | ⟨d5, -⟩
    · exact (e4 (by rw [d5]; exact h)).trans d5
    · exact absurd d5 h
  · rcases d5 with d5 | ⟨-, e, d6, d7, d8⟩
    · obtain ⟨e, g1, g2, g3⟩ := e5 (d5.trans h)
      exact ⟨e, g1, by omega, g3⟩
    · exact ⟨e, (e4 (by rw [d6]; exact open_ne d8)).trans d6, d7, Nat.le_of_lt d8⟩
/-- F agrees with what came, but for labels of arms that are not in sn -/
def tAgm (tb tot : Nat) (sn : Int32) (s t : tgS) (F : tF) : Prop := (∀ k : Nat, k < 5 → ∀ i : Nat, s.1 0 ≤ i → i < t.1 0 → F k i = t.2 k i) ∧ (∀ k : Nat, 6 ≤ k → k < 13 → ∀ i : Nat, s.1 2 ≤ i → i < t.1 2 → F k i = t.2 k i) ∧ (∀ i : Nat, s.1 3 ≤ i → i < t.1 3 → (∀ g : Nat, g < tot → i = tb + g → bS sn g) → F 13 i = t.2 13 i) ∧ tFu t F
/-- arms of a match so far: sn: those that are there; table tb of tot -/
def tOKm (tb tot : Nat) (sn : Int32) (lo n0 n1 n2 n3 n7 : Nat) (s t : tgS) (R : tR) : Prop := tXt s t ∧ ((∀ i : Nat, s.1 0 ≤ i → i < t.1 0 → isL (t.2 0 i) → ∃ L : Nat, lo ≤ L ∧ L < t.1 1 ∧ t.2 1 i = nI L) ∧ tOp s t) ∧ (t.1 0 ≤ s.1 0 + n0 ∧ 2 * t.1 1 ≤ 2 * s.1 1 + n1 ∧ t.1 2 ≤ s.1 2 + n2 ∧ t.1 3 ≤ s.1 3 + n3 ∧ t.1 7 ≤ s.1 7 + n7) ∧ (s.1 3 ≤ tb ∧ tb + tot ≤ t.1 3 ∧ (∀ g : Nat, g < tot → bS sn g → ∃ L : Nat, t.2 13 (tb + g) = nI L ∧ L < 1100) ∧ nwC (s.1 4) t []) ∧ ∀ F : tF, tAgm tb tot sn s t F → R F (s.1 0) (t.1 0)
/-- SWITCH and arms so far: z: whether all of them return -/
def tMm (X : tF) (G : Nat → Nat → Nat) (rs n q sh m tb tot Le : Nat) (sn z : Int32) : tR := fun F a b => a < b ∧ ((∀ g : Nat, g < tot → ∃ L : Nat, F 13 (tb + g) = nI L ∧ L < 1100) → ∀ (J : Int32 → List tE → Prop) (O : List tE), scJ F n a b O → sg F X G rs (fun M st => J M st ∨ (∃ g : Nat, g < tot ∧ ¬ bS sn g ∧ M = F 13 (tb + g) ∧ st = mE q (sh * 12 + g) m 0 :: O) ∨ (z ≠ 1 ∧ M = nI Le ∧ st = O)) a b (some (sE q sh m :: O)) none)
/-- the SWITCH -/
theorem l_msw {yp rs q sh m tot Le : Nat} {X : tF} {G : Nat → Nat → Nat} {x2 : Int32} {s s1 s2 s3 : tgS} (h1 : tNa s s1 tot) (h2 : tNl s1 s2 Le) (h3 : tAd s2 s3 20 (nI (s.1 3)) x2 (nI tot) (-1)) (hI : tI yp X s) (hx2 : x2 = if q = 0 then s.2 22 (4 + sh) else 0) (hq : q = 0 ∨ q = 1 ∨ q = 2) (hsh : sh < yp) (hK : s.2 20 (4 + sh) = 3) (hn : X 0 sh = nI tot) (h12 : tot ≤ 12) (h0 : s.1 0 < 6000) (hl1 : s.1 1 < 1100) (h29 : s.1 3 ≤ 2978) : tI yp X s3 ∧ lbU s3 Le ∧ Le = s.1 1 ∧ s3.1 1 = s.1 1 + 1 ∧ s3.1 3 = s.1 3 + tot ∧ s3.1 0 = s.1 0 + 1 ∧ s3.1 4 = s.1 4 ∧ s3.1 5 = s.1 5 ∧ s3.1 7 = s.1 7 ∧ s3.1 2 = s.1 2 ∧ tOKm (s.1 3) tot 0 (s.1 1) 1 2 0 tot 0 s s3 (tMm X G rs (s.1 4) q sh m (s.1 3) tot Le 0 1) := by
  have i1 := tI_na hI h1
  have o1 := tOK_na (lo := s.1 1) h1 (by omega)
  have s11 : s1.1 1 = s.1 1 := h1.2.2 1 (by decide)
  obtain ⟨o2, q2, m2⟩ := nl_x (lo := s.1 1) h2 (by omega)
  have u2 := (tNl_up h2 (by omega)).1
  have i2 := tI_up i1 u2 (Or.inr (Or.inl rfl))
  have hU2 : lbU s2 Le := by rw [q2]; exact lbU_new i1.2.1 u2 (by omega)
  have s10 : s1.1 0 = s.1 0 := h1.2.2 0 (by decide)
  have s20 : s2.1 0 = s1.1 0 := h2.2.1 0 (by decide)
  have hc : s2.1 0 < 6000 := by omega
  have o3 := tOK_ad (lo := s.1 1) h3 hc (by unfold isL; decide)
  have i3 := tI_ad i2 h3 hc (by unfold isL; decide)
  have hU3 : lbU s3 Le := lbU_x (lo := Le + 1) hU2 (tOK_ad (lo := Le + 1) h3 hc (by unfold isL; decide)) (by omega) (by rw [h3.1 1 (by decide)]; omega)
  have s33 : s3.1 3 = s.1 3 + tot := by
    have e1 := h3.1 3 (by decide); have e2 := h2.2.1 3 (by decide); have e3 := h1.2.1
    omega
  have s30 : s3.1 0 = s2.1 0 + 1 := (insA_lt h3.2.2.1 hc).1
  have K := tOK_seq (tOK_seq o1 o2) o3
  have hT34 : 34 ≤ s.1 7 := hI.1.1
  have hyp : yp ≤ 30 := hI.1.2.2.1
  refine ⟨i3, hU3, by omega, by rw [h3.1 1 (by decide)]; omega, s33, by omega, by rw [h3.1 4 (by decide), h2.2.1 4 (by decide), h1.2.2 4 (by decide)], by rw [h3.1 5 (by decide), h2.2.1 5 (by decide), h1.2.2 5 (by decide)], by rw [h3.1 7 (by decide), h2.2.1 7 (by decide), h1.2.2 7 (by decide)], by rw [h3.1 2 (by decide), h2.2.1 2 (by decide), h1.2.2 2 (by decide)], K.1, K.2.1, ?_, ⟨Nat.le_refl _, by omega, fun g hg hb => absurd hb (bS_0 g (by omega)), nwC_0 (by rw [h3.1 4 (by decide), h2.2.1 4 (by decide), h1.2.2 4 (by decide)]; exact Nat.le_refl _)⟩, fun F hF => ⟨by omega, fun hall J O hO => ?_⟩⟩
  · have := K.2.2.1
    omega
  have g0 : F 0 (s.1 0) = nI 20 := by
    rw [hF.1 0 (by decide) (s.1 0) (Nat.le_refl _) (by omega), (insA_lt h3.2.2.1 hc).2, show s.1 0 = s2.1 0 by omega, pk_us]; rfl
  have g1 : F 1 (s.1 0) = nI (s.1 3) := by
    rw [hF.1 1 (by decide) (s.1 0) (Nat.le_refl _) (by omega), (insA_lt h3.2.2.2.1 hc).2, show s.1 0 = s2.1 0 by omega, pk_us]
  have g2 : F 2 (s.1 0) = x2 := by
    rw [hF.1 2 (by decide) (s.1 0) (Nat.le_refl _) (by omega), (insA_lt h3.2.2.2.2.1 hc).2, show s.1 0 = s2.1 0 by omega, pk_us]
  have g3 : F 3 (s.1 0) = nI tot := by
    rw [hF.1 3 (by decide) (s.1 0) (Nat.le_refl _) (by omega), (insA_lt h3.2.2.2.2.2.1 hc).2, show s.1 0 = s2.1 0 by omega, pk_us]
  have hFs : tFu s F := tFu_dn hF.2.2.2 K.1
  have f20 : F 20 (4 + sh) = 3 := (hFs.1 20 (by decide) (by decide) (4 + sh) (by omega)).trans hK
  have f22 : F 22 (4 + sh) = s.2 22 (4 + sh) := hFs.1 22 (by decide) (by decide) (4 + sh) (by omega)
  have hv := scI_vl hO.1
  rw [show s3.1 0 = s.1 0 + 1 by omega]
  refine sg_one (o := 20) g0 ⟨s.1 3, tot, g1, g3, h12, by omega, hall⟩ (vl_n (by omega)) (fun r9 hr9 => absurd hr9 (by simp)) (fun k hk9 => ⟨sh, tot, s.1 3, O, by omega, f20, hn, h12, g1, by omega, ⟨g3, hv⟩, ?_⟩)
  by_cases e : q = 0
  · rw [if_pos e] at hx2
    refine Or.inl ⟨by unfold sE; rw [if_pos e], by rw [g2, hx2, f22], fun g hg => Or.inr (Or.inl ⟨g, hg, bS_0 g (by omega), rfl, ?_⟩)⟩
    unfold mE; rw [if_pos e]
  · rw [if_neg e] at hx2
    refine Or.inr ⟨q, m, by omega, by unfold sE; rw [if_neg e], by rw [g2, hx2], fun g hg => Or.inr (Or.inl ⟨g, hg, bS_0 g (by omega), rfl, ?_⟩)⟩
    simp only [mE, if_neg e, Nat.mul_zero, Nat.add_zero]
