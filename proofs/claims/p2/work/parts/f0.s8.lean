section
variable {y : qY} {z : qZ} {vt vo : Nat → Nat → Nat} {vc : Nat → Nat} {tb : Nat → lTb} {hp : Nat} {tk tk2 : Nat → Prop} {c c2 : Nat → Int} {f : Nat} {x : Nat → kFm} {rt ra : Nat × Nat → Nat} {V : Nat × Nat → qV} {fb : Nat → Nat} {top : Nat} {fil fil2 : Nat → Nat → Nat → Prop} {v T o : Nat} {ρ σ : lLc} {os : List Nat}
/-- a variable's cells are no other's -/
theorem kVarAp (hy : kYs y z vt vo vc) (hJ : kJ y vt tb f x rt V) (hL : kL y z vt vo vc hp tk c f x rt ra V fb top fil) (hv4 : v < 40) (hvt0 : vt (x f).1 v ≠ 0) {r : Nat × Nat} {π : lLc} {w : Nat × Nat} (hw : V r π = some w) (hr : r ≠ (f, v)) : ra r + z.1 (rt r) ≤ fb f + vo (x f).1 v ∨ fb f + vo (x f).1 v + z.1 (vt (x f).1 v) ≤ ra r := by
  obtain ⟨j, u⟩ := r
  have ht := kTop hy.1 hy.2.1 hy.2.2.1 hJ hL hw
  obtain ⟨k0, k1, k2⟩ := kLo hy.1 hy.2.1 hy.2.2.1 hJ hL hw
  by_cases e : j = f
  · subst e
    by_cases u4 : u < 40
    · obtain ⟨a1, a2, a3, a4⟩ := k1 u4
      have h8 := hL.2.2.2.2.2.2.2.2.1 j u π w u4 hw
      have := hy.2.2.1.2 (x j).1 u v u4 hv4 (fun q => hr (by rw [q])) h8 hvt0
      rw [a1, a2]
      omega
    · obtain ⟨a1, a2⟩ := k2 (by omega)
      have := hy.2.2.1.1 (x j).1 v hv4 hvt0
      exact Or.inr (by omega)
  · have := ht.2.2.1 e
    exact Or.inl (by omega)
/-- a variable comes into scope -/
theorem kS_set (hy : kYs y z vt vo vc) (hJ : kJ y vt tb f x rt V) (hL : kL y z vt vo vc hp tk c f x rt ra V fb top fil) (hn : (x f).2.2.1 = 0) (hno : ∀ r m : Nat, (5, r, m) ∉ (x f).2.1 ∧ (6, r, m) ∉ (x f).2.1) (hv4 : v < 40) (hvS : (8, v, 0) ∉ (x f).2.1) {W : qV} {ro : Option lLc} {hd : Nat → Prop} {al2 : Nat → Prop} {lo2 : Nat → lLc → Prop} (hW : qOk y (vt (x f).1 v) W) (hW0 : ∀ (π : lLc) (w : Nat × Nat), W π = some w → vt (x f).1 v ≠ 0) (hal : ∀ u : Nat, u ≠ v → al2 u → kal (x f) u) (hlo : ∀ (w : Nat) (π : lLc), w ≠ v → ¬ lo2 w π → ¬ klo (x f) w π) (hlv : ∀ (π : lLc) (t : Nat), qM π → qW y (vt (x f).1 v) π t → ¬ lo2 v π → qQ y W π t) (hro : (ro = none ∧ ∀ w : Nat × Nat, W [] = some w → y.1 w.1 ≠ 5 ∧ y.1 w.1 ≠ 6) ∨ ∃ a : lLc, ro = some a ∧ lOk f (tb (x f).1) (kAn (x f)) hd (y.1 (vt (x f).1 v) = 6) a ∧ (∀ u : Nat, ((u < 40 ∧ al2 u) ∨ (40 ≤ u ∧ u < 40 + wl (x f).2.1)) → u ≠ v → lMt (tb (x f).1) (kfr y rt f (x f)) v hd (y.1 (vt (x f).1 v) = 6) a u) ∧ qTg y rt V a (y.2.1 (vt (x f).1 v)) ∧ (y.1 (vt (x f).1 v) = 5 ∨ y.1 (vt (x f).1 v) = 6) ∧ c2 (fb f + vo (x f).1 v) = (qAd y z c rt ra a : Int)) (q : qMm y z hp tk c2 (qRt rt (f, v) (vt (x f).1 v)) (qRt ra (f, v) (fb f + vo (x f).1 v)) (qUp V (f, v) W)) (hc : ∀ (r : Nat × Nat) (π : lLc) (w : Nat × Nat), V r π = some w → c2 (qA y z c (rt r) (ra r) π) = c (qA y z c (rt r) (ra r) π)) (hf1 : ∀ j w : Nat, (j, w) ≠ (f, v) → fil2 j w = fil j w) (hf2 : ∀ (π : lLc) (t : Nat), qM π → qW y (vt (x f).1 v) π t → y.1 t ≠ 2 → fil2 f v (qA y z c2 (vt (x f).1 v) 0 π) → ∃ w : Nat × Nat, W π = some w) : kS y z vt vo vc tb hp tk c2 f (kUx x f ((x f).1, (8, v, 0) :: (x f).2.1, 0, lUp (kR (x f)) v ro, lUp (kH (x f)) v hd, al2, lo2, kAn (x f))) fb top fil2 := by
  have hw := hL
  obtain ⟨l0, l1, l2, l3, l4, l5, l6, l7, l8, l9⟩ := hL
  have hf := Nat.le_refl f
  have ne : ∀ j u : Nat, j ≠ f ∨ 40 ≤ u → ((j, u) : Nat × Nat) ≠ (f, v) := fun j u h q => by
    injection q with q1 q2
    rcases h with h | h
    · exact h q1
    · omega
  have nev : ∀ u : Nat, u ≠ v → ((f, u) : Nat × Nat) ≠ (f, v) := fun u h q => h (by injection q)
  have j := kJ_set (al2 := al2) (lo2 := lo2) (hd := hd) (ro := ro) (S2 := (8, v, 0) :: (x f).2.1) hy.2.2.2.2 hJ hn hv4 hno (Or.inl ⟨rfl, hvS⟩) hW hal hlo hlv (by
    rcases hro with g | ⟨a, g1, g2, g3, g4, g5, -⟩
    · exact Or.inl g
    · exact Or.inr ⟨a, g1, g2, g3, g4, g5⟩)
  have hno2 : ∀ π : lLc, V (f, v) π = none := fun π => by
    cases e : V (f, v) π with
    | none => rfl
    | some w =>
      obtain ⟨-, q, -⟩ := hJ.2.2.2.2.2.1 f v π w e
      rcases q with ⟨-, q⟩ | ⟨q1, q2⟩ | ⟨q, -⟩ | ⟨r, m, i, -, q, -⟩
      · exact absurd q hvS
      · omega
      · omega
      · omega
  have adr : ∀ (a : lLc) (U : Nat), qTg y rt V a U → qAd y z c2 (qRt rt (f, v) (vt (x f).1 v)) (qRt ra (f, v) (fb f + vo (x f).1 v)) a = qAd y z c rt ra a := fun a U ht => kTg_top hJ (fun j u u4 hp1 => by
    have : ((j, u) : Nat × Nat) ≠ (f, v) := fun q => by
      obtain ⟨s, w, hs⟩ := hp1
      rw [q, hno2] at hs; simp at hs
    exact ⟨qRt_ne this, qRt_ne this⟩) hc ht
  refine ⟨_, _, _, j, kL_var hJ hw hn (fun j u h => ⟨qRt_ne (ne j u h), qRt_ne (ne j u h), qUp_ne (ne j u h)⟩) (fun u hu => lUp_ne (by omega)) ⟨[(8, v, 0)], fun e he => ⟨v, List.mem_singleton.mp he⟩, Or.inr rfl⟩ hno q (fun j u w _ hw9 => hc (j, u) [] w hw9) (fun j u a hj hu ha _ => adr a _ (hJ.2.2.1 j hj u a hu ha).2) (fun u a u4 hu ha hw9 => ?_) (fun w w4 hwS => ?_) (fun j hj => funext fun w => hf1 j w (fun q => hj (by injection q))) (fun w w4 hwS π t hm1 hq hk hfl => ?_) (fun u π w u4 hw9 => ?_)⟩
  · by_cases e : u = v
    · subst e
      rw [lUp_eq] at ha
      rcases hro with ⟨g, -⟩ | ⟨a2, g1, -, -, g4, -, g6⟩
      · rw [g] at ha; simp at ha
      · rw [g1] at ha
        injection ha with ha
        subst ha
        rw [qRt_eq, adr _ _ g4]
        exact g6
    · rw [lUp_ne e] at ha
      obtain ⟨w, hw9⟩ := hw9
      rw [qUp_ne (nev u e)] at hw9
      have hu2 : kA (x f) u := Or.inl ⟨u4, hal u e hu⟩
      rw [qRt_ne (nev u e), adr a _ (hJ.2.2.1 f hf u a hu2 ha).2, ← l1 f hf u a (Or.inl hu2) ha ⟨w, hw9⟩]
      exact hc (f, u) [] w hw9
  · by_cases e : w = v
    · rw [e, qRt_eq]
    · rw [qRt_ne (nev w e)]
      exact l3 f hf w w4 ((List.mem_cons.mp hwS).resolve_left (fun q => e (by injection q with _ q; injection q)))
  · by_cases e : w = v
    · subst e
      rw [qUp_eq]
      exact hf2 π t hm1 hq hk hfl
    · rw [qUp_ne (nev w e)]
      rw [hf1 f w (nev w e)] at hfl
      have := l7 f hf w w4 ((List.mem_cons.mp hwS).resolve_left (fun q => e (by injection q with _ q; injection q))) π t hm1 hq hk
      refine this ?_
      have e2 := qA_sh (z := z) (c := c2) (c2 := c) (a := 0) (b := 0) hq (qN_M hm1)
      rw [show qA y z c (vt (x f).1 w) 0 π = qA y z c2 (vt (x f).1 w) 0 π by omega]
      exact hfl
  · by_cases e : u = v
    · subst e
      rw [qUp_eq] at hw9
      exact hW0 π w hw9
    · rw [qUp_ne (nev u e)] at hw9
      exact l8 f u π w u4 hw9
/-- the cells of a value that goes from the top into a variable -/
theorem qMm_let (hy : kYs y z vt vo vc) (hJ : kJ y vt tb f x rt V) (hL : kL y z vt vo vc hp tk c f x rt ra V fb top fil) {e : tE} {S : List tE} (hS : (x f).2.1 = e :: S) (he : kNm e) (hl : wl S < 211) (hv4 : v < 40) (hvS : (8, v, 0) ∉ S) (hvt0 : vt (x f).1 v ≠ 0) (hrt : rt (f, 40 + wl S) = vt (x f).1 v) (hra : ra (f, 40 + wl S) = fb f + vc (x f).1 + khs z S) (hc1 : ∀ i : Nat, i < z.1 (vt (x f).1 v) → c2 (fb f + vo (x f).1 v + i) = c (fb f + vc (x f).1 + khs z S + i)) (hc2 : ∀ k : Nat, ¬ (fb f + vo (x f).1 v ≤ k ∧ k < fb f + vo (x f).1 v + z.1 (vt (x f).1 v)) → c2 k = c k) : qMm y z hp tk c2 (qRt rt (f, v) (vt (x f).1 v)) (qRt ra (f, v) (fb f + vo (x f).1 v)) (qUp (kCl V f (wl S)) (f, v) (V (f, 40 + wl S))) ∧ (∀ (r : Nat × Nat) (π : lLc) (w : Nat × Nat), kCl V f (wl S) r π = some w → c2 (qA y z c (rt r) (ra r) π) = c (qA y z c (rt r) (ra r) π)) ∧ ∀ π : lLc, V (f, v) π = none := by
  have hno2 : ∀ π : lLc, V (f, v) π = none := fun π => by
    cases e9 : V (f, v) π with
    | none => rfl
    | some w =>
      obtain ⟨-, q, -⟩ := hJ.2.2.2.2.2.1 f v π w e9
      rcases q with ⟨-, q⟩ | ⟨q1, q2⟩ | ⟨q, -⟩ | ⟨r, m, i, -, q, -⟩
      · rw [hS] at q
        rcases List.mem_cons.mp q with q | q
        · exact absurd (Or.inl (by rw [← q])) he
        · exact absurd q hvS
      · omega
      · omega
      · omega
  have ht := kTopF hL
  have hnd : ((f, 40 + wl S) : Nat × Nat) ≠ (f, v) := fun q => by injection q with _ q; omega
  have q0 : qMm y z hp tk c (qRt rt (f, v) (vt (x f).1 v)) (qRt ra (f, v) (fb f + vo (x f).1 v)) V := qMm_em hL.1 (fun r => by
    by_cases e9 : r = (f, v)
    · subst e9; exact Or.inl hno2
    · exact Or.inr ⟨qRt_ne e9, qRt_ne e9⟩)
  have hrv : ∀ (r : Nat × Nat) (π : lLc) (w : Nat × Nat), V r π = some w → r ≠ (f, v) := fun r π w hw q => by
    rw [q, hno2] at hw; simp at hw
  have ap : ∀ (r : Nat × Nat) (π : lLc) (w : Nat × Nat), V r π = some w → ¬ (fb f + vo (x f).1 v ≤ qA y z c (rt r) (ra r) π ∧ qA y z c (rt r) (ra r) π < fb f + vo (x f).1 v + z.1 (vt (x f).1 v)) := fun r π w hw => qFresh hy.1 hL.1 (by omega) hw (kVarAp hy hJ hL hv4 hvt0 hw (hrv r π w hw))
  refine ⟨?_, fun r π w hw => hc2 _ (ap r π w (kCl_le hw).1), hno2⟩
  have q := qMv (c2 := c2) hy.1 q0 (s := (f, 40 + wl S)) (d := (f, v)) (σ := []) (ρ := []) (T1 := vt (x f).1 v) (Vs := fun _ => none) hnd (by rw [qRt_ne hnd]; exact hrt.symm) (by rw [qRt_eq]; rfl) qOk_none (fun π w hw => by simp at hw) (by
      rw [qRt_eq, qG_nil, ← hrt]; exact hL.1.1 _) (fun ρ1 j ρ2 e9 => by simp at e9) (fun r π w hw _ _ => by
      have hr := hrv r π w hw
      rw [qRt_eq, qRt_eq, qRt_ne hr, qRt_ne hr]
      exact ap r π w hw) (by rw [qRt_eq, qRt_eq]; exact hc2) (by
      rw [qRt_eq, qRt_eq, qRt_ne hnd, qRt_ne hnd, hra]; exact hc1) (by rw [qRt_eq]; omega) (fun r π w hr hw => by
      rw [qRt_eq, qRt_eq, qRt_ne hr, qRt_ne hr]
      by_cases e9 : r = (f, 40 + wl S)
      · rw [e9, qUp_eq] at hw; simp at hw
      · rw [qUp_ne e9] at hw
        exact kVarAp hy hJ hL hv4 hvt0 hw hr)
  have ev : qUp (kCl V f (wl S)) (f, v) (V (f, 40 + wl S)) = qUp (qUp V (f, 40 + wl S) (fun _ => none)) (f, v) (qG (V (f, v)) [] (qS (V (f, 40 + wl S)) [])) := funext fun r => by
    by_cases e9 : r = (f, v)
    · rw [e9, qUp_eq, qUp_eq, qG_nil]; rfl
    · rw [qUp_ne e9, qUp_ne e9]
      have := congrFun (kCl_one hJ (W := fun _ => none) hS he) r
      by_cases e8 : r = (f, 40 + wl S)
      · rw [e8, qUp_eq]
        exact kCl_ze ⟨rfl, Nat.le_refl _, by show 40 + wl S < 300; omega⟩
      · rw [qUp_ne e8]
        rw [qUp_ne e8, qUp_ne e8] at this
        exact this
  rw [ev]; exact q
/-- LET of a value that is no reference -/
theorem kS_let (hy : kYs y z vt vo vc) (h : kS y z vt vo vc tb hp tk c f x fb top fil) {m : Nat} {S : List tE} (hS : (x f).2.1 = (0, T, m) :: S) (hn : (x f).2.2.1 = 0) (hno : ∀ r m : Nat, (5, r, m) ∉ S ∧ (6, r, m) ∉ S) (hT : T ≠ 0) (hvt : vt (x f).1 v = T) (hv4 : v < 40) (hvS : (8, v, 0) ∉ S) {al2 : Nat → Prop} {lo2 : Nat → lLc → Prop} (hal : ∀ u : Nat, u ≠ v → al2 u → kal (x f) u) (hlo : ∀ (w : Nat) (π : lLc), w ≠ v → ¬ lo2 w π → ¬ klo (x f) w π) (hc1 : ∀ i : Nat, i < z.1 T → c2 (fb f + vo (x f).1 v + i) = c (fb f + vc (x f).1 + khs z S + i)) (hc2 : ∀ k : Nat, ¬ (fb f + vo (x f).1 v ≤ k ∧ k < fb f + vo (x f).1 v + z.1 T) → c2 k = c k) (hf1 : ∀ j w : Nat, (j, w) ≠ (f, v) → fil2 j w = fil j w) : kS y z vt vo vc tb hp tk c2 f (kUx x f ((x f).1, (8, v, 0) :: S, 0, lUp (kR (x f)) v none, kH (x f), al2, lo2, kAn (x f))) fb (fb f + vc (x f).1 + khs z S) fil2 := by
  obtain ⟨rt, ra, V, hJ, hL⟩ := h
  have hf := Nat.le_refl f
  have hk0 : kNm (0, T, m) := by unfold kNm; simp
  have hK := hJ.2.2.2.2.1 f hf
  rw [hS] at hK
  obtain ⟨⟨k1, k2, k3, k4, k5⟩, -⟩ := hK
  obtain ⟨r1, r2⟩ := k4 hT
  have hA := hL.2.2.1 f hf
  rw [hS] at hA
  have a1 : ra (f, 40 + wl S) = fb f + vc (x f).1 + khs z S := hA.1 hT
  have wS : wl (x f).2.1 = wl S + 1 := by rw [hS, wl_n hk0]
  have wB := hJ.2.2.2.2.2.2.2.2 f hf
  subst hvt
  obtain ⟨q, hc, -⟩ := qMm_let (c2 := c2) hy hJ hL hS hk0 (by omega) hv4 hvS hT r1 a1 hc1 hc2
  have hE1 : ∀ e : tE, e ∈ [(0, vt (x f).1 v, m)] → kNm e := fun e he => by rw [List.mem_singleton.mp he]; exact hk0
  have j1 := kJ_pop hJ (E := [(0, vt (x f).1 v, m)]) (S := S) hS hE1 hn
  have l1 := kL_pop hJ hL (E := [(0, vt (x f).1 v, m)]) (S := S) hS hE1 hn (qMm_cl hL.1)
  generalize hx1 : kUx x f ((x f).1, S, 0, kR (x f), kH (x f), kal (x f), klo (x f), kAn (x f)) = x1 at j1 l1
  have e1 : x1 f = ((x f).1, S, 0, kR (x f), kH (x f), kal (x f), klo (x f), kAn (x f)) := by rw [← hx1, kUx_eq]
  have hWk : qOk y (vt (x f).1 v) (V (f, 40 + wl S)) := by rw [← r1]; exact hL.1.1 _
  have r := kS_set (c2 := c2) (fil2 := fil2) (v := v) (W := V (f, 40 + wl S)) (ro := none) (hd := kH (x1 f) v) (al2 := al2) (lo2 := lo2) hy j1 l1 (by rw [e1]) (by rw [e1]; exact hno) hv4 (by rw [e1]; exact hvS) (by rw [e1]; exact hWk) (fun _ _ _ => by rw [e1]; exact hT) (by rw [e1]; exact hal) (by rw [e1]; exact hlo) (by
    rw [e1]
    intro π t g1 g2 _
    exact r2 π t g1 g2) (Or.inl ⟨rfl, fun w hw => by
    obtain ⟨a, b⟩ := w
    have e9 : a = vt (x f).1 v := (hWk.1 [] a b hw).1
    show y.1 a ≠ 5 ∧ y.1 a ≠ 6
    rw [e9]; exact ⟨k2, k3⟩⟩) (by rw [e1]; exact q) hc hf1 (by
    rw [e1]
    intro π t g1 g2 g3 _
    exact (r2 π t g1 g2).1 g3)
  rw [lUp_self, e1, ← hx1, kUx2] at r
  exact r
/-- LET of a reference -/
theorem kS_letR (hy : kYs y z vt vo vc) (h : kS y z vt vo vc tb hp tk c f x fb top fil) {k U m : Nat} {S : List tE} (hS : (x f).2.1 = (k, U, m) :: S) (hn : (x f).2.2.1 = 0) (hno : ∀ r m : Nat, (5, r, m) ∉ S ∧ (6, r, m) ∉ S) (hU : U < 10000) (hkt : (k = 1 ∧ vt (x f).1 v = 10000 + 2 * U) ∨ (k = 2 ∧ vt (x f).1 v = 10001 + 2 * U)) (hv4 : v < 40) (hvS : (8, v, 0) ∉ S) {al2 : Nat → Prop} {lo2 : Nat → lLc → Prop} (hal : ∀ u : Nat, u ≠ v → al2 u → kal (x f) u) (hlo : ∀ (w : Nat) (π : lLc), w ≠ v → ¬ lo2 w π → ¬ klo (x f) w π) (hc1 : c2 (fb f + vo (x f).1 v) = c (fb f + vc (x f).1 + khs z S)) (hc2 : ∀ k : Nat, k ≠ fb f + vo (x f).1 v → c2 k = c k) (hf1 : ∀ j w : Nat, (j, w) ≠ (f, v) → fil2 j w = fil j w) : ∃ a : lLc, kS y z vt vo vc tb hp tk c2 f (kUx x f ((x f).1, (8, v, 0) :: S, 0, lUp (kR (x f)) v (some a), lUp (kH (x f)) v (kH (x f) (40 + wl S)), al2, lo2, kAn (x f))) fb (fb f + vc (x f).1 + khs z S) fil2 := by
  obtain ⟨rt, ra, V, hJ, hL⟩ := h
  have hf := Nat.le_refl f
  have hcr := hy.2.2.2.1 U hU
  have hk0 : kNm (k, U, m) := by
    rcases hkt with ⟨rfl, -⟩ | ⟨rfl, -⟩ <;> (unfold kNm; simp)
  have hK := hJ.2.2.2.2.1 f hf
  rw [hS] at hK
  have hK1 : rt (f, 40 + wl S) = vt (x f).1 v ∧ ∃ w : Nat × Nat, V (f, 40 + wl S) [] = some w := by
    rcases hkt with ⟨rfl, e⟩ | ⟨rfl, e⟩
    · rw [e]; exact hK.1
    · rw [e]; exact hK.1
  obtain ⟨r1, ⟨t9, g9⟩, r2⟩ := hK1
  have h56 : (y.1 (vt (x f).1 v) = 5 ∨ y.1 (vt (x f).1 v) = 6) ∧ y.2.1 (vt (x f).1 v) = U ∧ vt (x f).1 v ≠ 0 ∧ z.1 (vt (x f).1 v) = 1 := by
    rcases hkt with ⟨-, e⟩ | ⟨-, e⟩
    · rw [e]; exact ⟨Or.inl hcr.1, hcr.2.1, by omega, (hy.2.1.2 U).1⟩
    · rw [e]; exact ⟨Or.inr hcr.2.2.1, hcr.2.2.2, by omega, (hy.2.1.2 U).2⟩
  obtain ⟨h56, eU, hv0, hz1⟩ := h56
  have hA := hL.2.2.1 f hf
  rw [hS] at hA
  have a1 : ra (f, 40 + wl S) = fb f + vc (x f).1 + khs z S := by
    rcases hkt with ⟨rfl, -⟩ | ⟨rfl, -⟩
    · exact hA.1
    · exact hA.1
  have wS : wl (x f).2.1 = wl S + 1 := by rw [hS, wl_n hk0]
  have wB := hJ.2.2.2.2.2.2.2.2 f hf
  have hWk : qOk y (vt (x f).1 v) (V (f, 40 + wl S)) := by rw [← r1]; exact hL.1.1 _
  have e9 : t9 = vt (x f).1 v := (hWk.1 [] t9 g9 r2).1
  have hks : kA (x f) (40 + wl S) := Or.inr ⟨by omega, by omega⟩
  obtain ⟨a, ea⟩ := hJ.2.2.2.1 f hf (40 + wl S) t9 g9 r2 (by rw [e9]; exact h56) hks
  obtain ⟨-, htg⟩ := hJ.2.2.1 f hf (40 + wl S) a hks ea
  rw [r1, eU] at htg
  have hla := hL.2.1 f hf (40 + wl S) a (Or.inl hks) ea ⟨_, r2⟩
  obtain ⟨q, hc, hno2⟩ := qMm_let (c2 := c2) hy hJ hL hS hk0 (by omega) hv4 hvS hv0 r1 a1 (by
    rw [hz1]
    intro i hi
    obtain rfl : i = 0 := by omega
    exact hc1) (by
    rw [hz1]
    intro k hk
    exact hc2 k (by omega))
  have hE1 : ∀ e : tE, e ∈ [(k, U, m)] → kNm e := fun e he => by rw [List.mem_singleton.mp he]; exact hk0
  have j1 := kJ_pop hJ (E := [(k, U, m)]) (S := S) hS hE1 hn
  have l1 := kL_pop hJ hL (E := [(k, U, m)]) (S := S) hS hE1 hn (qMm_cl hL.1)
  generalize hx1 : kUx x f ((x f).1, S, 0, kR (x f), kH (x f), kal (x f), klo (x f), kAn (x f)) = x1 at j1 l1
  have e1 : x1 f = ((x f).1, S, 0, kR (x f), kH (x f), kal (x f), klo (x f), kAn (x f)) := by rw [← hx1, kUx_eq]
  obtain ⟨b1, b2⟩ := lBw_pop (A2 := fun u => ((u < 40 ∧ al2 u) ∨ (40 ≤ u ∧ u < 40 + wl S)) ∧ u ≠ v) (t := v) (un := y.1 (vt (x f).1 v) = 6) (hd := kH (x f) (40 + wl S)) (hJ.2.1.1 f hf) (fun u hu => by
    obtain ⟨hu, hne⟩ := hu
    rcases hu with ⟨g1, g2⟩ | ⟨g1, g2⟩
    · exact ⟨Or.inl ⟨g1, hal u hne g2⟩, by omega⟩
    · exact ⟨Or.inr ⟨g1, by omega⟩, by omega⟩) (by omega) hks ea (fun q => by show y.1 (rt (f, 40 + wl S)) = 6; rw [r1]; exact q) (fun l q => q) (lP_rf a)
  have fullW : ∀ (π : lLc) (t : Nat), qM π → qW y (vt (x f).1 v) π t → π = [] ∧ t = vt (x f).1 v := fun π t g1 g2 => by
    cases π with
    | nil => exact ⟨rfl, g2⟩
    | cons s π =>
      obtain ⟨q, i⟩ := s
      obtain ⟨g3, g4⟩ := qM_cons.mp g1
      obtain rfl : q = 0 := g3
      rcases h56 with h | h
      · exact absurd (h.symm.trans g2.1) (by decide)
      · exact absurd (h.symm.trans g2.1) (by decide)
  have r := kS_set (c2 := c2) (fil2 := fil2) (v := v) (W := V (f, 40 + wl S)) (ro := some a) (hd := kH (x f) (40 + wl S)) (al2 := al2) (lo2 := lo2) hy j1 l1 (by rw [e1]) (by rw [e1]; exact hno) hv4 (by rw [e1]; exact hvS) (by rw [e1]; exact hWk) (fun _ _ _ => by rw [e1]; exact hv0) (by rw [e1]; exact hal) (by rw [e1]; exact hlo) (by
    rw [e1]
    intro π t g1 g2 _
    obtain ⟨rfl, rfl⟩ := fullW π t g1 g2
    refine ⟨fun _ => ⟨_, r2⟩, fun q => ?_⟩
    rcases h56 with h | h
    · exact absurd (h.symm.trans q) (by decide)
    · exact absurd (h.symm.trans q) (by decide)) (Or.inr ⟨a, rfl, by rw [e1]; exact b1, by
      rw [e1]
      exact fun u hu hne => b2 u ⟨hu, hne⟩, by
      rw [e1]
      show qTg y rt (kCl V f (wl S)) a (y.2.1 (vt (x f).1 v))
      rw [eU]
      refine qTg_eq htg (fun r π _ _ hr => ⟨kCl_ge (fun g => ?_), rfl⟩)
      omega, by rw [e1]; exact h56, by
      rw [e1]
      show c2 (fb f + vo (x f).1 v) = _
      rw [hc1, ← a1]
      exact hla⟩) (by rw [e1]; exact q) hc hf1 (by
    rw [e1]
    intro π t g1 g2 g3 _
    obtain ⟨rfl, rfl⟩ := fullW π t g1 g2
    exact ⟨_, r2⟩)
  rw [e1, ← hx1, kUx2] at r
  exact ⟨a, r⟩
/-- LET without a value -/
theorem kS_let0 (hy : kYs y z vt vo vc) (h : kS y z vt vo vc tb hp tk c f x fb top fil) (hn : (x f).2.2.1 = 0) (hno : ∀ r m : Nat, (5, r, m) ∉ (x f).2.1 ∧ (6, r, m) ∉ (x f).2.1) (hv4 : v < 40) (hvS : (8, v, 0) ∉ (x f).2.1) {al2 : Nat → Prop} {lo2 : Nat → lLc → Prop} (hal : ∀ u : Nat, u ≠ v → al2 u → kal (x f) u) (hlo : ∀ (w : Nat) (π : lLc), w ≠ v → ¬ lo2 w π → ¬ klo (x f) w π) (hlv : ∀ (π : lLc) (t : Nat), qM π → qW y (vt (x f).1 v) π t → lo2 v π) (hf1 : ∀ j w : Nat, (j, w) ≠ (f, v) → fil2 j w = fil j w) (hf2 : ∀ k : Nat, ¬ fil2 f v k) : kS y z vt vo vc tb hp tk c f (kUx x f ((x f).1, (8, v, 0) :: (x f).2.1, 0, lUp (kR (x f)) v none, kH (x f), al2, lo2, kAn (x f))) fb top fil2 := by
  obtain ⟨rt, ra, V, hJ, hL⟩ := h
  have hf := Nat.le_refl f
  have hno2 : ∀ π : lLc, V (f, v) π = none := fun π => by
    cases e : V (f, v) π with
    | none => rfl
    | some w =>
      obtain ⟨-, q, -⟩ := hJ.2.2.2.2.2.1 f v π w e
      rcases q with ⟨-, q⟩ | ⟨q1, q2⟩ | ⟨q, -⟩ | ⟨r, m, i, -, q, -⟩
      · exact absurd q hvS
      · omega
      · omega
      · omega
  have ev : qUp V (f, v) (fun _ => none) = V := funext fun r => by
    by_cases e : r = (f, v)
    · subst e; rw [qUp_eq]; exact funext fun π => (hno2 π).symm
    · rw [qUp_ne e]
  have r := kS_set (c2 := c) (fil2 := fil2) (v := v) (W := fun _ => none) (ro := none) (hd := kH (x f) v) (al2 := al2) (lo2 := lo2) hy hJ hL hn hno hv4 hvS qOk_none (fun _ _ q => by simp at q) hal hlo (fun π t g1 g2 g3 => absurd (hlv π t g1 g2) g3) (Or.inl ⟨rfl, fun w hw => by simp at hw⟩) (by
    rw [ev]
    refine qMm_em hL.1 (fun r => ?_)
    by_cases e : r = (f, v)
    · subst e; exact Or.inl hno2
    · exact Or.inr ⟨qRt_ne e, qRt_ne e⟩) (fun _ _ _ _ => rfl) hf1 (fun _ _ _ _ _ q => absurd q (hf2 _))
  rw [lUp_self] at r
  exact r
end
