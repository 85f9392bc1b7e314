-- f0.s8.lean.txt
section
section
variable {y : qY} {z : qZ} {vt vo : Nat → Nat → Nat} {vc : Nat → Nat} {tb : Nat → lTb} {hp : Nat} {tk tk2 : Nat → Prop} {c c2 : Nat → Int} {f : Nat} {x : Nat → kFm} {rt ra : Nat × Nat → Nat} {V : Nat × Nat → qV} {fb : Nat → Nat} {top : Nat} {fil fil2 : Nat → Nat → Nat → Prop} {v T o : Nat} {ρ σ : lLc} {os : List Nat}
/-- a variable's cells are no other's -/
theorem kVarAp (hy : kYs y z vt vo vc) (hJ : kJ y vt tb f x rt V) (hL : kL y z vt vo vc hp tk c f x rt ra V fb top fil) (hv4 : v < 40) (hvt0 : vt (x f).1 v ≠ 0) {r : Nat × Nat} {π : lLc} {w : Nat × Nat} (hw : V r π = some w) (hr : r ≠ (f, v)) : ra r + z.1 (rt r) ≤ fb f + vo (x f).1 v ∨ fb f + vo (x f).1 v + z.1 (vt (x f).1 v) ≤ ra r := by
  obtain ⟨j, u⟩ := r
  have ht := kTop hy.1 hy.2.1 hy.2.2.1 hJ hL hw
  obtain ⟨k0, k1, k2⟩ := kLo hy.1 hy.2.1 hy.2.2.1 hJ hL hw
  by_cases e : j = f
  · subst e
    by_cases u4 : u < 40
    · obtain ⟨a1, a2, a3, a4⟩ := k1 u4
      have h8 := hL.2.2.2.2.2.2.2.2.1 j u π w u4 hw
      have := hy.2.2.1.2 (x j).1 u v u4 hv4 (fun q => hr (by rw [q])) h8 hvt0
      rw [a1, a2]
      omega
    · obtain ⟨a1, a2⟩ := k2 (by omega)
      have := hy.2.2.1.1 (x j).1 v hv4 hvt0
      exact Or.inr (by omega)
  · have := ht.2.2.1 e
    exact Or.inl (by omega)
/-- a variable comes into scope -/
theorem kS_set (hy : kYs y z vt vo vc) (hJ : kJ y vt tb f x rt V) (hL : kL y z vt vo vc hp tk c f x rt ra V fb top fil) (hn : (x f).2.2.1 = 0) (hno : ∀ r m : Nat, (5, r, m) ∉ (x f).2.1 ∧ (6, r, m) ∉ (x f).2.1) (hv4 : v < 40) (hvS : (8, v, 0) ∉ (x f).2.1) {W : qV} {ro : Option lLc} {hd : Nat → Prop} {al2 : Nat → Prop} {lo2 : Nat → lLc → Prop} (hW : qOk y (vt (x f).1 v) W) (hW0 : ∀ (π : lLc) (w : Nat × Nat), W π = some w → vt (x f).1 v ≠ 0) (hal : ∀ u : Nat, u ≠ v → al2 u → kal (x f) u) (hlo : ∀ (w : Nat) (π : lLc), w ≠ v → ¬ lo2 w π → ¬ klo (x f) w π) (hlv : ∀ (π : lLc) (t : Nat), qM π → qW y (vt (x f).1 v) π t → ¬ lo2 v π → qQ y W π t) (hro : (ro = none ∧ ∀ w : Nat × Nat, W [] = some w → y.1 w.1 ≠ 5 ∧ y.1 w.1 ≠ 6) ∨ ∃ a : lLc, ro = some a ∧ lOk f (tb (x f).1) (kAn (x f)) hd (y.1 (vt (x f).1 v) = 6) a ∧ (∀ u : Nat, ((u < 40 ∧ al2 u) ∨ (40 ≤ u ∧ u < 40 + wl (x f).2.1)) → u ≠ v → lMt (tb (x f).1) (kfr y rt f (x f)) v hd (y.1 (vt (x f).1 v) = 6) a u) ∧ qTg y rt V a (y.2.1 (vt (x f).1 v)) ∧ (y.1 (vt (x f).1 v) = 5 ∨ y.1 (vt (x f).1 v) = 6) ∧ c2 (fb f + vo (x f).1 v) = (qAd y z c rt ra a : Int)) (q : qMm y z hp tk c2 (qRt rt (f, v) (vt (x f).1 v)) (qRt ra (f, v) (fb f + vo (x f).1 v)) (qUp V (f, v) W)) (hc : ∀ (r : Nat × Nat) (π : lLc) (w : Nat × Nat), V r π = some w → c2 (qA y z c (rt r) (ra r) π) = c (qA y z c (rt r) (ra r) π)) (hf1 : ∀ j w : Nat, (j, w) ≠ (f, v) → fil2 j w = fil j w) (hf2 : ∀ (π : lLc) (t : Nat), qM π → qW y (vt (x f).1 v) π t → y.1 t ≠ 2 → fil2 f v (qA y z c2 (vt (x f).1 v) 0 π) → ∃ w : Nat × Nat, W π = some w) : kS y z vt vo vc tb hp tk c2 f (kUx x f ((x f).1, (8, v, 0) :: (x f).2.1, 0, lUp (kR (x f)) v ro, lUp (kH (x f)) v hd, al2, lo2, kAn (x f))) fb top fil2 := by
  have hw := hL
  obtain ⟨l0, l1, l2, l3, l4, l5, l6, l7, l8, l9⟩ := hL
  have hf := Nat.le_refl f
  have ne : ∀ j u : Nat, j ≠ f ∨ 40 ≤ u → ((j, u) : Nat × Nat) ≠ (f, v) := fun j u h q => by
    injection q with q1 q2
    rcases h with h | h
    · exact h q1
    · omega
  have nev : ∀ u : Nat, u ≠ v → ((f, u) : Nat × Nat) ≠ (f, v) := fun u h q => h (by injection q)
  have j := kJ_set (al2 := al2) (lo2 := lo2) (hd := hd) (ro := ro) (S2 := (8, v, 0) :: (x f).2.1) hy.2.2.2.2 hJ hn hv4 hno (Or.inl ⟨rfl, hvS⟩) hW hal hlo hlv (by
    rcases hro with g | ⟨a, g1, g2, g3, g4, g5, -⟩
    · exact Or.inl g
    · exact Or.inr ⟨a, g1, g2, g3, g4, g5⟩)
  have hno2 : ∀ π : lLc, V (f, v) π = none := fun π => by
    cases e : V (f, v) π with
    | none => rfl
    | some w =>
      obtain ⟨-, q, -⟩ := hJ.2.2.2.2.2.1 f v π w e
      rcases q with ⟨-, q⟩ | ⟨q1, q2⟩ | ⟨q, -⟩ | ⟨r, m, i, -, q, -⟩
      · exact absurd q hvS
      · omega
      · omega
      · omega
  have adr : ∀ (a : lLc) (U : Nat), qTg y rt V a U → qAd y z c2 (qRt rt (f, v) (vt (x f).1 v)) (qRt ra (f, v) (fb f + vo (x f).1 v)) a = qAd y z c rt ra a := fun a U ht => kTg_top hJ (fun j u u4 hp1 => by
    have : ((j, u) : Nat × Nat) ≠ (f, v) := fun q => by
      obtain ⟨s, w, hs⟩ := hp1
      rw [q, hno2] at hs; simp at hs
    exact ⟨qRt_ne this, qRt_ne this⟩) hc ht
  refine ⟨_, _, _, j, kL_var hJ hw hn (fun j u h => ⟨qRt_ne (ne j u h), qRt_ne (ne j u h), qUp_ne (ne j u h)⟩) (fun u hu => lUp_ne (by omega)) ⟨[(8, v, 0)], fun e he => ⟨v, List.mem_singleton.mp he⟩, Or.inr rfl⟩ hno q (fun j u w _ hw9 => hc (j, u) [] w hw9) (fun j u a hj hu ha _ => adr a _ (hJ.2.2.1 j hj u a hu ha).2) (fun u a u4 hu ha hw9 => ?_) (fun w w4 hwS => ?_) (fun j hj => funext fun w => hf1 j w (fun q => hj (by injection q))) (fun w w4 hwS π t hm1 hq hk hfl => ?_) (fun u π w u4 hw9 => ?_)⟩
  · by_cases e : u = v
    · subst e
      rw [lUp_eq] at ha
      rcases hro with ⟨g, -⟩ | ⟨a2, g1, -, -, g4, -, g6⟩
      · rw [g] at ha; simp at ha
      · rw [g1] at ha
        injection ha with ha
        subst ha
        rw [qRt_eq, adr _ _ g4]
        exact g6
    · rw [lUp_ne e] at ha
      obtain ⟨w, hw9⟩ := hw9
      rw [qUp_ne (nev u e)] at hw9
      have hu2 : kA (x f) u := Or.inl ⟨u4, hal u e hu⟩
      rw [qRt_ne (nev u e), adr a _ (hJ.2.2.1 f hf u a hu2 ha).2, ← l1 f hf u a (Or.inl hu2) ha ⟨w, hw9⟩]
      exact hc (f, u) [] w hw9
  · by_cases e : w = v
    · rw [e, qRt_eq]
    · rw [qRt_ne (nev w e)]
      exact l3 f hf w w4 ((List.mem_cons.mp hwS).resolve_left (fun q => e (by injection q with _ q; injection q)))
  · by_cases e : w = v
    · subst e
      rw [qUp_eq]
      exact hf2 π t hm1 hq hk hfl
    · rw [qUp_ne (nev w e)]
      rw [hf1 f w (nev w e)] at hfl
      have := l7 f hf w w4 ((List.mem_cons.mp hwS).resolve_left (fun q => e (by injection q with _ q; injection q))) π t hm1 hq hk
      refine this ?_
      have e2 := qA_sh (z := z) (c := c2) (c2 := c) (a := 0) (b := 0) hq (qN_M hm1)
      rw [show qA y z c (vt (x f).1 w) 0 π = qA y z c2 (vt (x f).1 w) 0 π by omega]
      exact hfl
  · by_cases e : u = v
    · subst e
      rw [qUp_eq] at hw9
      exact hW0 π w hw9
    · rw [qUp_ne (nev u e)] at hw9
      exact l8 f u π w u4 hw9
/-- the cells of a value that goes from the top into a variable -/
theorem qMm_let (hy : kYs y z vt vo vc) (hJ : kJ y vt tb f x rt V) (hL : kL y z vt vo vc hp tk c f x rt ra V fb top fil) {e : tE} {S : List tE} (hS : (x f).2.1 = e :: S) (he : kNm e) (hl : wl S < 211) (hv4 : v < 40) (hvS : (8, v, 0) ∉ S) (hvt0 : vt (x f).1 v ≠ 0) (hrt : rt (f, 40 + wl S) = vt (x f).1 v) (hra : ra (f, 40 + wl S) = fb f + vc (x f).1 + khs z S) (hc1 : ∀ i : Nat, i < z.1 (vt (x f).1 v) → c2 (fb f + vo (x f).1 v + i) = c (fb f + vc (x f).1 + khs z S + i)) (hc2 : ∀ k : Nat, ¬ (fb f + vo (x f).1 v ≤ k ∧ k < fb f + vo (x f).1 v + z.1 (vt (x f).1 v)) → c2 k = c k) : qMm y z hp tk c2 (qRt rt (f, v) (vt (x f).1 v)) (qRt ra (f, v) (fb f + vo (x f).1 v)) (qUp (kCl V f (wl S)) (f, v) (V (f, 40 + wl S))) ∧ (∀ (r : Nat × Nat) (π : lLc) (w : Nat × Nat), kCl V f (wl S) r π = some w → c2 (qA y z c (rt r) (ra r) π) = c (qA y z c (rt r) (ra r) π)) ∧ ∀ π : lLc, V (f, v) π = none := by
  have hno2 : ∀ π : lLc, V (f, v) π = none := fun π => by
    cases e9 : V (f, v) π with
    | none => rfl
    | some w =>
      obtain ⟨-, q, -⟩ := hJ.2.2.2.2.2.1 f v π w e9
      rcases q with ⟨-, q⟩ | ⟨q1, q2⟩ | ⟨q, -⟩ | ⟨r, m, i, -, q, -⟩
      · rw [hS] at q
        rcases List.mem_cons.mp q with q | q
        · exact absurd (Or.inl (by rw [← q])) he
        · exact absurd q hvS
      · omega
      · omega
      · omega
  have ht := kTopF hL
  have hnd : ((f, 40 + wl S) : Nat × Nat) ≠ (f, v) := fun q => by injection q with _ q; omega
  have q0 : qMm y z hp tk c (qRt rt (f, v) (vt (x f).1 v)) (qRt ra (f, v) (fb f + vo (x f).1 v)) V := qMm_em hL.1 (fun r => by
    by_cases e9 : r = (f, v)
    · subst e9; exact Or.inl hno2
    · exact Or.inr ⟨qRt_ne e9, qRt_ne e9⟩)
  have hrv : ∀ (r : Nat × Nat) (π : lLc) (w : Nat × Nat), V r π = some w → r ≠ (f, v) := fun r π w hw q => by
    rw [q, hno2] at hw; simp at hw
  have ap : ∀ (r : Nat × Nat) (π : lLc) (w : Nat × Nat), V r π = some w → ¬ (fb f + vo (x f).1 v ≤ qA y z c (rt r) (ra r) π ∧ qA y z c (rt r) (ra r) π < fb f + vo (x f).1 v + z.1 (vt (x f).1 v)) := fun r π w hw => qFresh hy.1 hL.1 (by omega) hw (kVarAp hy hJ hL hv4 hvt0 hw (hrv r π w hw))
  refine ⟨?_, fun r π w hw => hc2 _ (ap r π w (kCl_le hw).1), hno2⟩
  have q := qMv (c2 := c2) hy.1 q0 (s := (f, 40 + wl S)) (d := (f, v)) (σ := []) (ρ := []) (T1 := vt (x f).1 v) (Vs := fun _ => none) hnd (by rw [qRt_ne hnd]; exact hrt.symm) (by rw [qRt_eq]; rfl) qOk_none (fun π w hw => by simp at hw) (by
      rw [qRt_eq, qG_nil, ← hrt]; exact hL.1.1 _) (fun ρ1 j ρ2 e9 => by simp at e9) (fun r π w hw _ _ => by
      have hr := hrv r π w hw
      rw [qRt_eq, qRt_eq, qRt_ne hr, qRt_ne hr]
      exact ap r π w hw) (by rw [qRt_eq, qRt_eq]; exact hc2) (by
      rw [qRt_eq, qRt_eq, qRt_ne hnd, qRt_ne hnd, hra]; exact hc1) (by rw [qRt_eq]; omega) (fun r π w hr hw => by
      rw [qRt_eq, qRt_eq, qRt_ne hr, qRt_ne hr]
      by_cases e9 : r = (f, 40 + wl S)
      · rw [e9, qUp_eq] at hw; simp at hw
      · rw [qUp_ne e9] at hw
        exact kVarAp hy hJ hL hv4 hvt0 hw hr)
  have ev : qUp (kCl V f (wl S)) (f, v) (V (f, 40 + wl S)) = qUp (qUp V (f, 40 + wl S) (fun _ => none)) (f, v) (qG (V (f, v)) [] (qS (V (f, 40 + wl S)) [])) := funext fun r => by
    by_cases e9 : r = (f, v)
    · rw [e9, qUp_eq, qUp_eq, qG_nil]; rfl
    · rw [qUp_ne e9, qUp_ne e9]
      have := congrFun (kCl_one hJ (W := fun _ => none) hS he) r
      by_cases e8 : r = (f, 40 + wl S)
      · rw [e8, qUp_eq]
        exact kCl_ze ⟨rfl, Nat.le_refl _, by show 40 + wl S < 300; omega⟩
      · rw [qUp_ne e8]
        rw [qUp_ne e8, qUp_ne e8] at this
        exact this
  rw [ev]; exact q
/-- LET of a value that is no reference -/
theorem kS_let (hy : kYs y z vt vo vc) (h : kS y z vt vo vc tb hp tk c f x fb top fil) {m : Nat} {S : List tE} (hS : (x f).2.1 = (0, T, m) :: S) (hn : (x f).2.2.1 = 0) (hno : ∀ r m : Nat, (5, r, m) ∉ S ∧ (6, r, m) ∉ S) (hT : T ≠ 0) (hvt : vt (x f).1 v = T) (hv4 : v < 40) (hvS : (8, v, 0) ∉ S) {al2 : Nat → Prop} {lo2 : Nat → lLc → Prop} (hal : ∀ u : Nat, u ≠ v → al2 u → kal (x f) u) (hlo : ∀ (w : Nat) (π : lLc), w ≠ v → ¬ lo2 w π → ¬ klo (x f) w π) (hc1 : ∀ i : Nat, i < z.1 T → c2 (fb f + vo (x f).1 v + i) = c (fb f + vc (x f).1 + khs z S + i)) (hc2 : ∀ k : Nat, ¬ (fb f + vo (x f).1 v ≤ k ∧ k < fb f + vo (x f).1 v + z.1 T) → c2 k = c k) (hf1 : ∀ j w : Nat, (j, w) ≠ (f, v) → fil2 j w = fil j w) : kS y z vt vo vc tb hp tk c2 f (kUx x f ((x f).1, (8, v, 0) :: S, 0, lUp (kR (x f)) v none, kH (x f), al2, lo2, kAn (x f))) fb (fb f + vc (x f).1 + khs z S) fil2 := by
  obtain ⟨rt, ra, V, hJ, hL⟩ := h
  have hf := Nat.le_refl f
  have hk0 : kNm (0, T, m) := by unfold kNm; simp
  have hK := hJ.2.2.2.2.1 f hf
  rw [hS] at hK
  obtain ⟨⟨k1, k2, k3, k4, k5⟩, -⟩ := hK
  obtain ⟨r1, r2⟩ := k4 hT
  have hA := hL.2.2.1 f hf
  rw [hS] at hA
  have a1 : ra (f, 40 + wl S) = fb f + vc (x f).1 + khs z S := hA.1 hT
  have wS : wl (x f).2.1 = wl S + 1 := by rw [hS, wl_n hk0]
  have wB := hJ.2.2.2.2.2.2.2.2 f hf
  subst hvt
  obtain ⟨q, hc, -⟩ := qMm_let (c2 := c2) hy hJ hL hS hk0 (by omega) hv4 hvS hT r1 a1 hc1 hc2
  have hE1 : ∀ e : tE, e ∈ [(0, vt (x f).1 v, m)] → kNm e := fun e he => by rw [List.mem_singleton.mp he]; exact hk0
  have j1 := kJ_pop hJ (E := [(0, vt (x f).1 v, m)]) (S := S) hS hE1 hn
  have l1 := kL_pop hJ hL (E := [(0, vt (x f).1 v, m)]) (S := S) hS hE1 hn (qMm_cl hL.1)
  generalize hx1 : kUx x f ((x f).1, S, 0, kR (x f), kH (x f), kal (x f), klo (x f), kAn (x f)) = x1 at j1 l1
  have e1 : x1 f = ((x f).1, S, 0, kR (x f), kH (x f), kal (x f), klo (x f), kAn (x f)) := by rw [← hx1, kUx_eq]
  have hWk : qOk y (vt (x f).1 v) (V (f, 40 + wl S)) := by rw [← r1]; exact hL.1.1 _
  have r := kS_set (c2 := c2) (fil2 := fil2) (v := v) (W := V (f, 40 + wl S)) (ro := none) (hd := kH (x1 f) v) (al2 := al2) (lo2 := lo2) hy j1 l1 (by rw [e1]) (by rw [e1]; exact hno) hv4 (by rw [e1]; exact hvS) (by rw [e1]; exact hWk) (fun _ _ _ => by rw [e1]; exact hT) (by rw [e1]; exact hal) (by rw [e1]; exact hlo) (by
    rw [e1]
    intro π t g1 g2 _
    exact r2 π t g1 g2) (Or.inl ⟨rfl, fun w hw => by
    obtain ⟨a, b⟩ := w
    have e9 : a = vt (x f).1 v := (hWk.1 [] a b hw).1
    show y.1 a ≠ 5 ∧ y.1 a ≠ 6
    rw [e9]; exact ⟨k2, k3⟩⟩) (by rw [e1]; exact q) hc hf1 (by
    rw [e1]
    intro π t g1 g2 g3 _
    exact (r2 π t g1 g2).1 g3)
  rw [lUp_self, e1, ← hx1, kUx2] at r
  exact r
/-- LET of a reference -/
theorem kS_letR (hy : kYs y z vt vo vc) (h : kS y z vt vo vc tb hp tk c f x fb top fil) {k U m : Nat} {S : List tE} (hS : (x f).2.1 = (k, U, m) :: S) (hn : (x f).2.2.1 = 0) (hno : ∀ r m : Nat, (5, r, m) ∉ S ∧ (6, r, m) ∉ S) (hU : U < 10000) (hkt : (k = 1 ∧ vt (x f).1 v = 10000 + 2 * U) ∨ (k = 2 ∧ vt (x f).1 v = 10001 + 2 * U)) (hv4 : v < 40) (hvS : (8, v, 0) ∉ S) {al2 : Nat → Prop} {lo2 : Nat → lLc → Prop} (hal : ∀ u : Nat, u ≠ v → al2 u → kal (x f) u) (hlo : ∀ (w : Nat) (π : lLc), w ≠ v → ¬ lo2 w π → ¬ klo (x f) w π) (hc1 : c2 (fb f + vo (x f).1 v) = c (fb f + vc (x f).1 + khs z S)) (hc2 : ∀ k : Nat, k ≠ fb f + vo (x f).1 v → c2 k = c k) (hf1 : ∀ j w : Nat, (j, w) ≠ (f, v) → fil2 j w = fil j w) : ∃ a : lLc, kS y z vt vo vc tb hp tk c2 f (kUx x f ((x f).1, (8, v, 0) :: S, 0, lUp (kR (x f)) v (some a), lUp (kH (x f)) v (kH (x f) (40 + wl S)), al2, lo2, kAn (x f))) fb (fb f + vc (x f).1 + khs z S) fil2 := by
  obtain ⟨rt, ra, V, hJ, hL⟩ := h
  have hf := Nat.le_refl f
  have hcr := hy.2.2.2.1 U hU
  have hk0 : kNm (k, U, m) := by
    rcases hkt with ⟨rfl, -⟩ | ⟨rfl, -⟩ <;> (unfold kNm; simp)
  have hK := hJ.2.2.2.2.1 f hf
  rw [hS] at hK
  have hK1 : rt (f, 40 + wl S) = vt (x f).1 v ∧ ∃ w : Nat × Nat, V (f, 40 + wl S) [] = some w := by
    rcases hkt with ⟨rfl, e⟩ | ⟨rfl, e⟩
    · rw [e]; exact hK.1
    · rw [e]; exact hK.1
  obtain ⟨r1, ⟨t9, g9⟩, r2⟩ := hK1
  have h56 : (y.1 (vt (x f).1 v) = 5 ∨ y.1 (vt (x f).1 v) = 6) ∧ y.2.1 (vt (x f).1 v) = U ∧ vt (x f).1 v ≠ 0 ∧ z.1 (vt (x f).1 v) = 1 := by
    rcases hkt with ⟨-, e⟩ | ⟨-, e⟩
    · rw [e]; exact ⟨Or.inl hcr.1, hcr.2.1, by omega, (hy.2.1.2 U).1⟩
    · rw [e]; exact ⟨Or.inr hcr.2.2.1, hcr.2.2.2, by omega, (hy.2.1.2 U).2⟩
  obtain ⟨h56, eU, hv0, hz1⟩ := h56
  have hA := hL.2.2.1 f hf
  rw [hS] at hA
  have a1 : ra (f, 40 + wl S) = fb f + vc (x f).1 + khs z S := by
    rcases hkt with ⟨rfl, -⟩ | ⟨rfl, -⟩
    · exact hA.1
    · exact hA.1
  have wS : wl (x f).2.1 = wl S + 1 := by rw [hS, wl_n hk0]
  have wB := hJ.2.2.2.2.2.2.2.2 f hf
  have hWk : qOk y (vt (x f).1 v) (V (f, 40 + wl S)) := by rw [← r1]; exact hL.1.1 _
  have e9 : t9 = vt (x f).1 v := (hWk.1 [] t9 g9 r2).1
  have hks : kA (x f) (40 + wl S) := Or.inr ⟨by omega, by omega⟩
  obtain ⟨a, ea⟩ := hJ.2.2.2.1 f hf (40 + wl S) t9 g9 r2 (by rw [e9]; exact h56) hks
  obtain ⟨-, htg⟩ := hJ.2.2.1 f hf (40 + wl S) a hks ea
  rw [r1, eU] at htg
  have hla := hL.2.1 f hf (40 + wl S) a (Or.inl hks) ea ⟨_, r2⟩
  obtain ⟨q, hc, hno2⟩ := qMm_let (c2 := c2) hy hJ hL hS hk0 (by omega) hv4 hvS hv0 r1 a1 (by
    rw [hz1]
    intro i hi
    obtain rfl : i = 0 := by omega
    exact hc1) (by
    rw [hz1]
    intro k hk
    exact hc2 k (by omega))
  have hE1 : ∀ e : tE, e ∈ [(k, U, m)] → kNm e := fun e he => by rw [List.mem_singleton.mp he]; exact hk0
  have j1 := kJ_pop hJ (E := [(k, U, m)]) (S := S) hS hE1 hn
  have l1 := kL_pop hJ hL (E := [(k, U, m)]) (S := S) hS hE1 hn (qMm_cl hL.1)
  generalize hx1 : kUx x f ((x f).1, S, 0, kR (x f), kH (x f), kal (x f), klo (x f), kAn (x f)) = x1 at j1 l1
  have e1 : x1 f = ((x f).1, S, 0, kR (x f), kH (x f), kal (x f), klo (x f), kAn (x f)) := by rw [← hx1, kUx_eq]
  obtain ⟨b1, b2⟩ := lBw_pop (A2 := fun u => ((u < 40 ∧ al2 u) ∨ (40 ≤ u ∧ u < 40 + wl S)) ∧ u ≠ v) (t := v) (un := y.1 (vt (x f).1 v) = 6) (hd := kH (x f) (40 + wl S)) (hJ.2.1.1 f hf) (fun u hu => by
    obtain ⟨hu, hne⟩ := hu
    rcases hu with ⟨g1, g2⟩ | ⟨g1, g2⟩
    · exact ⟨Or.inl ⟨g1, hal u hne g2⟩, by omega⟩
    · exact ⟨Or.inr ⟨g1, by omega⟩, by omega⟩) (by omega) hks ea (fun q => by show y.1 (rt (f, 40 + wl S)) = 6; rw [r1]; exact q) (fun l q => q) (lP_rf a)
  have fullW : ∀ (π : lLc) (t : Nat), qM π → qW y (vt (x f).1 v) π t → π = [] ∧ t = vt (x f).1 v := fun π t g1 g2 => by
    cases π with
    | nil => exact ⟨rfl, g2⟩
    | cons s π =>
      obtain ⟨q, i⟩ := s
      obtain ⟨g3, g4⟩ := qM_cons.mp g1
      obtain rfl : q = 0 := g3
      rcases h56 with h | h
      · exact absurd (h.symm.trans g2.1) (by decide)
      · exact absurd (h.symm.trans g2.1) (by decide)
  have r := kS_set (c2 := c2) (fil2 := fil2) (v := v) (W := V (f, 40 + wl S)) (ro := some a) (hd := kH (x f) (40 + wl S)) (al2 := al2) (lo2 := lo2) hy j1 l1 (by rw [e1]) (by rw [e1]; exact hno) hv4 (by rw [e1]; exact hvS) (by rw [e1]; exact hWk) (fun _ _ _ => by rw [e1]; exact hv0) (by rw [e1]; exact hal) (by rw [e1]; exact hlo) (by
    rw [e1]
    intro π t g1 g2 _
    obtain ⟨rfl, rfl⟩ := fullW π t g1 g2
    refine ⟨fun _ => ⟨_, r2⟩, fun q => ?_⟩
    rcases h56 with h | h
    · exact absurd (h.symm.trans q) (by decide)
    · exact absurd (h.symm.trans q) (by decide)) (Or.inr ⟨a, rfl, by rw [e1]; exact b1, by
      rw [e1]
      exact fun u hu hne => b2 u ⟨hu, hne⟩, by
      rw [e1]
      show qTg y rt (kCl V f (wl S)) a (y.2.1 (vt (x f).1 v))
      rw [eU]
      refine qTg_eq htg (fun r π _ _ hr => ⟨kCl_ge (fun g => ?_), rfl⟩)
      omega, by rw [e1]; exact h56, by
      rw [e1]
      show c2 (fb f + vo (x f).1 v) = _
      rw [hc1, ← a1]
      exact hla⟩) (by rw [e1]; exact q) hc hf1 (by
    rw [e1]
    intro π t g1 g2 g3 _
    obtain ⟨rfl, rfl⟩ := fullW π t g1 g2
    exact ⟨_, r2⟩)
  rw [e1, ← hx1, kUx2] at r
  exact ⟨a, r⟩
/-- LET without a value -/
theorem kS_let0 (hy : kYs y z vt vo vc) (h : kS y z vt vo vc tb hp tk c f x fb top fil) (hn : (x f).2.2.1 = 0) (hno : ∀ r m : Nat, (5, r, m) ∉ (x f).2.1 ∧ (6, r, m) ∉ (x f).2.1) (hv4 : v < 40) (hvS : (8, v, 0) ∉ (x f).2.1) {al2 : Nat → Prop} {lo2 : Nat → lLc → Prop} (hal : ∀ u : Nat, u ≠ v → al2 u → kal (x f) u) (hlo : ∀ (w : Nat) (π : lLc), w ≠ v → ¬ lo2 w π → ¬ klo (x f) w π) (hlv : ∀ (π : lLc) (t : Nat), qM π → qW y (vt (x f).1 v) π t → lo2 v π) (hf1 : ∀ j w : Nat, (j, w) ≠ (f, v) → fil2 j w = fil j w) (hf2 : ∀ k : Nat, ¬ fil2 f v k) : kS y z vt vo vc tb hp tk c f (kUx x f ((x f).1, (8, v, 0) :: (x f).2.1, 0, lUp (kR (x f)) v none, kH (x f), al2, lo2, kAn (x f))) fb top fil2 := by
  obtain ⟨rt, ra, V, hJ, hL⟩ := h
  have hf := Nat.le_refl f
  have hno2 : ∀ π : lLc, V (f, v) π = none := fun π => by
    cases e : V (f, v) π with
    | none => rfl
    | some w =>
      obtain ⟨-, q, -⟩ := hJ.2.2.2.2.2.1 f v π w e
      rcases q with ⟨-, q⟩ | ⟨q1, q2⟩ | ⟨q, -⟩ | ⟨r, m, i, -, q, -⟩
      · exact absurd q hvS
      · omega
      · omega
      · omega
  have ev : qUp V (f, v) (fun _ => none) = V := funext fun r => by
    by_cases e : r = (f, v)
    · subst e; rw [qUp_eq]; exact funext fun π => (hno2 π).symm
    · rw [qUp_ne e]
  have r := kS_set (c2 := c) (fil2 := fil2) (v := v) (W := fun _ => none) (ro := none) (hd := kH (x f) v) (al2 := al2) (lo2 := lo2) hy hJ hL hn hno hv4 hvS qOk_none (fun _ _ q => by simp at q) hal hlo (fun π t g1 g2 g3 => absurd (hlv π t g1 g2) g3) (Or.inl ⟨rfl, fun w hw => by simp at hw⟩) (by
    rw [ev]
    refine qMm_em hL.1 (fun r => ?_)
    by_cases e : r = (f, v)
    · subst e; exact Or.inl hno2
    · exact Or.inr ⟨qRt_ne e, qRt_ne e⟩) (fun _ _ _ _ => rfl) hf1 (fun _ _ _ _ _ q => absurd q (hf2 _))
  rw [lUp_self] at r
  exact r
end
end
-- f0.s9.lean.txt
section
section
variable {y : qY} {z : qZ} {vt vo : Nat → Nat → Nat} {vc : Nat → Nat} {tb : Nat → lTb} {hp : Nat} {tk tk2 : Nat → Prop} {c c2 : Nat → Int} {f : Nat} {x : Nat → kFm} {rt ra : Nat × Nat → Nat} {V : Nat × Nat → qV} {fb : Nat → Nat} {top : Nat} {fil fil2 : Nat → Nat → Nat → Prop} {v T o : Nat} {ρ σ : lLc} {os : List Nat}
theorem kNoV (hJ : kJ y vt tb f x rt V) (hv4 : v < 40) (hvS : (8, v, 0) ∉ (x f).2.1) (π : lLc) : V (f, v) π = none := by
  cases e9 : V (f, v) π with
  | none => rfl
  | some w =>
    obtain ⟨-, q, -⟩ := hJ.2.2.2.2.2.1 f v π w e9
    rcases q with ⟨-, q⟩ | ⟨q1, q2⟩ | ⟨q, -⟩ | ⟨r, m, i, -, q, -⟩
    · exact absurd q hvS
    · omega
    · omega
    · omega
/-- a root goes into a variable that comes into scope -/
theorem qMm_mvv (hy : kYs y z vt vo vc) (hJ : kJ y vt tb f x rt V) (hL : kL y z vt vo vc hp tk c f x rt ra V fb top fil) (hv4 : v < 40) (hvS : (8, v, 0) ∉ (x f).2.1) (hvt0 : vt (x f).1 v ≠ 0) {s : Nat × Nat} (hs : s ≠ (f, v)) (hrt : rt s = vt (x f).1 v) (hc1 : ∀ i : Nat, i < z.1 (vt (x f).1 v) → c2 (fb f + vo (x f).1 v + i) = c (ra s + i)) (hc2 : ∀ k : Nat, ¬ (fb f + vo (x f).1 v ≤ k ∧ k < fb f + vo (x f).1 v + z.1 (vt (x f).1 v)) → c2 k = c k) : qMm y z hp tk c2 (qRt rt (f, v) (vt (x f).1 v)) (qRt ra (f, v) (fb f + vo (x f).1 v)) (qUp (qUp V s (fun _ => none)) (f, v) (V s)) ∧ ∀ (r : Nat × Nat) (π : lLc) (w : Nat × Nat), V r π = some w → c2 (qA y z c (rt r) (ra r) π) = c (qA y z c (rt r) (ra r) π) := by
  have hno2 := kNoV hJ hv4 hvS
  have ht := kTopF hL
  have q0 : qMm y z hp tk c (qRt rt (f, v) (vt (x f).1 v)) (qRt ra (f, v) (fb f + vo (x f).1 v)) V := qMm_em hL.1 (fun r => by
    by_cases e9 : r = (f, v)
    · subst e9; exact Or.inl hno2
    · exact Or.inr ⟨qRt_ne e9, qRt_ne e9⟩)
  have hrv : ∀ (r : Nat × Nat) (π : lLc) (w : Nat × Nat), V r π = some w → r ≠ (f, v) := fun r π w hw q => by
    rw [q, hno2] at hw; simp at hw
  have ap : ∀ (r : Nat × Nat) (π : lLc) (w : Nat × Nat), V r π = some w → ¬ (fb f + vo (x f).1 v ≤ qA y z c (rt r) (ra r) π ∧ qA y z c (rt r) (ra r) π < fb f + vo (x f).1 v + z.1 (vt (x f).1 v)) := fun r π w hw => qFresh hy.1 hL.1 (by omega) hw (kVarAp hy hJ hL hv4 hvt0 hw (hrv r π w hw))
  refine ⟨?_, fun r π w hw => hc2 _ (ap r π w hw)⟩
  have q := qMv (c2 := c2) hy.1 q0 (s := s) (d := (f, v)) (σ := []) (ρ := []) (T1 := vt (x f).1 v) (Vs := fun _ => none) hs (by rw [qRt_ne hs]; exact hrt.symm) (by rw [qRt_eq]; rfl) qOk_none (fun π w hw => by simp at hw) (by
      rw [qRt_eq, qG_nil, ← hrt]; exact hL.1.1 _) (fun ρ1 j ρ2 e9 => by simp at e9) (fun r π w hw _ _ => by
      have hr := hrv r π w hw
      rw [qRt_eq, qRt_eq, qRt_ne hr, qRt_ne hr]
      exact ap r π w hw) (by rw [qRt_eq, qRt_eq]; exact hc2) (by
      rw [qRt_eq, qRt_eq, qRt_ne hs, qRt_ne hs]; exact hc1) (by rw [qRt_eq]; omega) (fun r π w hr hw => by
      rw [qRt_eq, qRt_eq, qRt_ne hr, qRt_ne hr]
      by_cases e9 : r = s
      · rw [e9, qUp_eq] at hw; simp at hw
      · rw [qUp_ne e9] at hw
        exact kVarAp hy hJ hL hv4 hvt0 hw hr)
  rw [qG_nil] at q
  exact q
/-- a part of a matched value goes into its variable -/
theorem kS_bind (hy : kYs y z vt vo vc) (h : kS y z vt vo vc tb hp tk c f x fb top fil) {r : List tE} {r0 m : Nat} (hS : (x f).2.1 = (4, r0, m) :: r) (hn : (x f).2.2.1 = 0) (hmt : ∀ e : tE, e ∈ r → ¬ (e.1 = 4 ∨ e.1 = 5 ∨ e.1 = 6)) (hv4 : v < 40) (hvS : (8, v, 0) ∉ r) (hm : m < y.2.2.2.1 (4 + r0 / 12) (r0 % 12)) (hvt : vt (x f).1 v = y.2.2.2.2 (4 + r0 / 12) (r0 % 12) m) (hvt0 : vt (x f).1 v ≠ 0) (hnr : y.1 (vt (x f).1 v) ≠ 5 ∧ y.1 (vt (x f).1 v) ≠ 6) {al2 : Nat → Prop} {lo2 : Nat → lLc → Prop} (hal : ∀ u : Nat, u ≠ v → al2 u → kal (x f) u) (hlo : ∀ (w : Nat) (π : lLc), w ≠ v → ¬ lo2 w π → ¬ klo (x f) w π) (hc1 : ∀ i : Nat, i < z.1 (vt (x f).1 v) → c2 (fb f + vo (x f).1 v + i) = c (fb f + vc (x f).1 + khs z r + z.2 (4 + r0 / 12) (r0 % 12) m + i)) (hc2 : ∀ k : Nat, ¬ (fb f + vo (x f).1 v ≤ k ∧ k < fb f + vo (x f).1 v + z.1 (vt (x f).1 v)) → c2 k = c k) (hf1 : ∀ j w : Nat, (j, w) ≠ (f, v) → fil2 j w = fil j w) : kS y z vt vo vc tb hp tk c2 f (kUx x f ((x f).1, (4, r0, m + 1) :: (8, v, 0) :: r, 0, lUp (kR (x f)) v none, kH (x f), al2, lo2, kAn (x f))) fb top fil2 := by
  obtain ⟨rt, ra, V, hJ, hL⟩ := h
  have hf := Nat.le_refl f
  have hK := hJ.2.2.2.2.1 f hf
  rw [hS] at hK
  obtain ⟨r1, r2⟩ := hK.1 m (Nat.le_refl _) hm
  have hA := hL.2.2.1 f hf
  rw [hS] at hA
  have a1 : ra (f, 400 + m) = fb f + vc (x f).1 + khs z r + z.2 (4 + r0 / 12) (r0 % 12) m := hA.1 m (Nat.le_refl _) hm
  have hvS2 : (8, v, 0) ∉ (x f).2.1 := fun q => by
    rw [hS] at q
    rcases List.mem_cons.mp q with q | q
    · injection q with q; exact absurd q (by decide)
    · exact hvS q
  have hs : ((f, 400 + m) : Nat × Nat) ≠ (f, v) := fun q => by injection q with _ q; omega
  obtain ⟨q, hc⟩ := qMm_mvv (c2 := c2) hy hJ hL hv4 hvS2 hvt0 hs (r1.trans hvt.symm) (by rw [a1]; exact hc1) hc2
  have j := kJ_bind (hd := kH (x f) v) (al2 := al2) (lo2 := lo2) hJ hn hS hmt hv4 hvS hm hvt hnr hal hlo
  have l := kL_bnd (c2 := c2) (fil2 := fil2) (ro := none) (hd := kH (x f) v) (al2 := al2) (lo2 := lo2) (m2 := m + 1) (V2 := qUp (qUp V (f, 400 + m) (fun _ => none)) (f, v) (V (f, 400 + m))) hJ hL hn (Or.inl rfl) hS hmt (by omega) hv4 hvS hal q (fun j u g1 g2 => by rw [qUp_ne g1, qUp_ne (g2 rfl)]) (fun π _ => by rw [qUp_ne hs, qUp_eq]) (by rw [qUp_eq, hvt]; exact r2) hvt0 hc (fun a q => by simp at q) hf1
  rw [lUp_self] at j l
  exact ⟨_, _, _, j, l⟩
/-- a reference to a part of what a matched reference leads to -/
theorem kS_bindR (hy : kYs y z vt vo vc) (h : kS y z vt vo vc tb hp tk c f x fb top fil) {r : List tE} {r0 q m : Nat} (hq : q = 5 ∨ q = 6) (hS : (x f).2.1 = (q, r0, m) :: r) (hn : (x f).2.2.1 = 0) (hmt : ∀ e : tE, e ∈ r → ¬ (e.1 = 4 ∨ e.1 = 5 ∨ e.1 = 6)) (hv4 : v < 40) (hvS : (8, v, 0) ∉ r) (hk3 : y.1 (4 + r0 / 12) = 3) (hm : m / 64 < y.2.2.2.1 (4 + r0 / 12) (r0 % 12)) (ht9 : y.2.2.2.2 (4 + r0 / 12) (r0 % 12) (m / 64) < 10000) (hvt : vt (x f).1 v = 9995 + q + 2 * y.2.2.2.2 (4 + r0 / 12) (r0 % 12) (m / 64)) {al2 : Nat → Prop} {lo2 : Nat → lLc → Prop} {hd : Nat → Prop} (hal : ∀ u : Nat, u ≠ v → al2 u → kal (x f) u) (hlo : ∀ (w : Nat) (π : lLc), w ≠ v → ¬ lo2 w π → ¬ klo (x f) w π) (hd1 : ∀ l : Nat, kH (x f) 300 l → hd l) (hc1 : c2 (fb f + vo (x f).1 v) = c (fb f + vc (x f).1 + khs z r) + (z.2 (4 + r0 / 12) (r0 % 12) (m / 64) : Nat)) (hc2 : ∀ k : Nat, k ≠ fb f + vo (x f).1 v → c2 k = c k) (hf1 : ∀ j w : Nat, (j, w) ≠ (f, v) → fil2 j w = fil j w) : (∃ a : lLc, kS y z vt vo vc tb hp tk c2 f (kUx x f ((x f).1, (q, r0, m + 64) :: (8, v, 0) :: r, 0, lUp (kR (x f)) v (some a), lUp (kH (x f)) v hd, al2, lo2, kAn (x f))) fb top fil2) := by
  obtain ⟨rt, ra, V, hJ, hL⟩ := h
  have hf := Nat.le_refl f
  obtain ⟨a0, π0, b1, b2, b3, b4, j⟩ := kJ_bindR (hd := hd) (al2 := al2) (lo2 := lo2) hy.2.2.2.1 hJ hn ht9 hq hS hmt hv4 hvS hk3 hm hvt hal hlo hd1
  have hcr := hy.2.2.2.1 _ ht9
  have h56 : (y.1 (vt (x f).1 v) = 5 ∨ y.1 (vt (x f).1 v) = 6) ∧ y.2.1 (vt (x f).1 v) = y.2.2.2.2 (4 + r0 / 12) (r0 % 12) (m / 64) ∧ vt (x f).1 v ≠ 0 ∧ z.1 (vt (x f).1 v) = 1 := by
    rcases hq with rfl | rfl
    · rw [hvt, show 9995 + 5 + 2 * y.2.2.2.2 (4 + r0 / 12) (r0 % 12) (m / 64) = 10000 + 2 * y.2.2.2.2 (4 + r0 / 12) (r0 % 12) (m / 64) by omega]
      exact ⟨Or.inl hcr.1, hcr.2.1, by omega, (hy.2.1.2 _).1⟩
    · rw [hvt, show 9995 + 6 + 2 * y.2.2.2.2 (4 + r0 / 12) (r0 % 12) (m / 64) = 10001 + 2 * y.2.2.2.2 (4 + r0 / 12) (r0 % 12) (m / 64) by omega]
      exact ⟨Or.inr hcr.2.2.1, hcr.2.2.2, by omega, (hy.2.1.2 _).2⟩
  obtain ⟨h56, eU, hv0, hz1⟩ := h56
  have hK := hJ.2.2.2.2.1 f hf
  rw [hS] at hK
  have hw3 : ∃ w : Nat × Nat, V (f, 300) [] = some w := by
    rcases hq with rfl | rfl
    · exact hK.1.2
    · exact hK.1.2
  have hA := hL.2.2.1 f hf
  rw [hS] at hA
  have a1 : ra (f, 300) = fb f + vc (x f).1 + khs z r := by
    rcases hq with rfl | rfl
    · exact hA.1
    · exact hA.1
  have hla := hL.2.1 f hf 300 _ (Or.inr rfl) b1 hw3
  have hvS2 : (8, v, 0) ∉ (x f).2.1 := fun g => by
    rw [hS] at g
    rcases List.mem_cons.mp g with g | g
    · injection g with g; rcases hq with e | e <;> omega
    · exact hvS g
  have hno2 := kNoV hJ hv4 hvS2
  have ht := kTopF hL
  have hrv : ∀ (r : Nat × Nat) (π : lLc) (w : Nat × Nat), V r π = some w → r ≠ (f, v) := fun r π w hw q => by
    rw [q, hno2] at hw; simp at hw
  have hc : ∀ (r : Nat × Nat) (π : lLc) (w : Nat × Nat), V r π = some w → c2 (qA y z c (rt r) (ra r) π) = c (qA y z c (rt r) (ra r) π) := fun r π w hw => hc2 _ (fun e => by
    have := qFresh (n := 1) (a := fb f + vo (x f).1 v) hy.1 hL.1 (by omega) hw (by rw [← hz1]; exact kVarAp hy hJ hL hv4 hv0 hw (hrv r π w hw))
    omega)
  have q0 : qMm y z hp tk c2 (qRt rt (f, v) (vt (x f).1 v)) (qRt ra (f, v) (fb f + vo (x f).1 v)) V := qMm_em (qMm_c hL.1 hc) (fun r => by
    by_cases e9 : r = (f, v)
    · subst e9; exact Or.inl hno2
    · exact Or.inr ⟨qRt_ne e9, qRt_ne e9⟩)
  have q1 := qMm_pl q0 (d := (f, v)) (by rw [qRt_eq]; rcases h56 with a | a <;> rw [a] <;> decide) (by rw [qRt_eq]; rcases h56 with a | a <;> rw [a] <;> decide) (by rw [qRt_eq]; rcases h56 with a | a <;> rw [a] <;> decide) (by rw [qRt_eq]; omega) (fun r π w hr hw => by
    rw [qRt_eq, qRt_eq, qRt_ne hr, qRt_ne hr]
    exact kVarAp hy hJ hL hv4 hv0 hw hr)
  rw [qRt_eq] at q1
  have hlf : qFu y (vt (x f).1 v) (qL (vt (x f).1 v)) := qFu_L (by rcases h56 with a | a <;> rw [a] <;> decide) (by rcases h56 with a | a <;> rw [a] <;> decide) (by rcases h56 with a | a <;> rw [a] <;> decide)
  have l := kL_bnd (c2 := c2) (fil2 := fil2) (ro := some (a0 :: (π0 ++ [(r0 % 12 + 2, m / 64)]))) (hd := hd) (al2 := al2) (lo2 := lo2) (m2 := m + 64) (V2 := qUp V (f, v) (qL (vt (x f).1 v))) hJ hL hn (Or.inr hq) hS hmt (by omega) hv4 hvS hal q1 (fun j u g1 _ => qUp_ne g1) (fun π g => by rcases hq with e | e <;> omega) (by rw [qUp_eq]; exact hlf.2) hv0 hc (fun a g => by
    injection g with g
    subst g
    obtain ⟨g1, g2, g3, g4, g5⟩ := (hL.1.1 a0).1 π0 _ _ b2
    have w1 : qW y (4 + r0 / 12) [(r0 % 12 + 2, m / 64)] (y.2.2.2.2 (4 + r0 / 12) (r0 % 12) (m / 64)) := ⟨hk3, g3 hk3, hm, rfl⟩
    rw [eU]
    refine ⟨⟨a0, _, rfl, b3, qW_app b4 w1, g5 hk3 _ hm⟩, ?_⟩
    rw [hc1, ← a1, hla]
    show (qA y z c (rt a0) (ra a0) π0 : Int) + (z.2 (4 + r0 / 12) (r0 % 12) (m / 64) : Nat) = ((qA y z c (rt a0) (ra a0) (π0 ++ [(r0 % 12 + 2, m / 64)]) : Nat) : Int)
    rw [qA_app b4]
    show _ = ((qA y z c (rt a0) (ra a0) π0 + z.2 (4 + r0 / 12) (r0 % 12) (m / 64) : Nat) : Int)
    omega) hf1
  exact ⟨_, _, _, _, j, l⟩
theorem kS_popM (h : kS y z vt vo vc tb hp tk c f x fb top fil) {e : tE} {r : List tE} (hn : (x f).2.2.1 = 0) (hS : (x f).2.1 = e :: r) (he : e.1 = 4 ∨ e.1 = 5 ∨ e.1 = 6) (hmt : ∀ e : tE, e ∈ r → ¬ (e.1 = 4 ∨ e.1 = 5 ∨ e.1 = 6)) : kS y z vt vo vc tb hp tk c f (kUx x f ((x f).1, r, 0, kR (x f), kH (x f), kal (x f), klo (x f), kAn (x f))) fb (fb f + vc (x f).1 + khs z r) fil := by
  obtain ⟨rt, ra, V, hJ, hL⟩ := h
  exact ⟨_, _, _, kJ_popM hJ hn hS he hmt, kL_popM hJ hL hn hS he hmt⟩
theorem kS_sw0 (hy : kYs y z vt vo vc) (h : kS y z vt vo vc tb hp tk c f x fb top fil) {r : List tE} {sh m : Nat} (hn : (x f).2.2.1 = 0) (hS : (x f).2.1 = (0, 4 + sh, m) :: r) (hmt : ∀ e : tE, e ∈ r → ¬ (e.1 = 4 ∨ e.1 = 5 ∨ e.1 = 6)) (hk : y.1 (4 + sh) = 3) (h12 : y.2.2.1 (4 + sh) ≤ 12) : ∃ g : Nat, g < y.2.2.1 (4 + sh) ∧ c (fb f + vc (x f).1 + khs z r) = (g : Int) ∧ kS y z vt vo vc tb hp tk c f (kUx x f ((x f).1, (4, sh * 12 + g, 0) :: r, 0, kR (x f), kH (x f), kal (x f), klo (x f), kAn (x f))) fb top fil := by
  obtain ⟨rt, ra, V, hJ, hL⟩ := h
  have hf := Nat.le_refl f
  have hK := hJ.2.2.2.2.1 f hf
  rw [hS] at hK
  obtain ⟨⟨k1, k2, k3, k4, k5⟩, -⟩ := hK
  obtain ⟨r1, r2⟩ := k4 (by omega)
  have hA := hL.2.2.1 f hf
  rw [hS] at hA
  have a1 : ra (f, 40 + wl r) = fb f + vc (x f).1 + khs z r := hA.1 (by omega)
  obtain ⟨⟨t, g⟩, e⟩ := (r2 [] _ qM_nil rfl).1 (by rw [hk]; decide)
  have e : V (f, 40 + wl r) [] = some (t, g) := e
  obtain ⟨g1, g2, g3, -⟩ := (hL.1.1 (f, 40 + wl r)).1 [] t g e
  have et : t = 4 + sh := by rw [← r1]; exact g1
  subst et
  have hg := g3 hk
  have hcg := (hL.1.2.1 (f, 40 + wl r) [] _ g e).1 hk
  have hcg : c (ra (f, 40 + wl r)) = (g : Int) := hcg
  rw [a1] at hcg
  exact ⟨g, hg, hcg, _, _, _, kJ_sw0 hJ hn hS hmt (by omega) hk e, kL_sw0 hy hJ hL hn hS hmt (by omega) hk e⟩
theorem kS_sw1 (hy : kYs y z vt vo vc) (h : kS y z vt vo vc tb hp tk c f x fb top fil) {r : List tE} {sh q m : Nat} {hd : Nat → Prop} (hn : (x f).2.2.1 = 0) (hs9 : 4 + sh < 10000) (hq : q = 1 ∨ q = 2) (hS : (x f).2.1 = (q, 4 + sh, m) :: r) (hmt : ∀ e : tE, e ∈ r → ¬ (e.1 = 4 ∨ e.1 = 5 ∨ e.1 = 6)) (hk : y.1 (4 + sh) = 3) (h12 : y.2.2.1 (4 + sh) ≤ 12) (hm : m < 64) (hd1 : ∀ l : Nat, kH (x f) (40 + wl r) l → hd l) : ∃ (g ad : Nat) (a : lLc), g < y.2.2.1 (4 + sh) ∧ c (fb f + vc (x f).1 + khs z r) = (ad : Int) ∧ ad < top ∧ c ad = (g : Int) ∧ kS y z vt vo vc tb hp tk c f (kUx x f ((x f).1, (q + 4, sh * 12 + g, m) :: r, 0, lUp (kR (x f)) 300 (some a), lUp (kH (x f)) 300 hd, kal (x f), klo (x f), kAn (x f))) fb top fil := by
  obtain ⟨rt, ra, V, hJ, hL⟩ := h
  have hf := Nat.le_refl f
  have hcr := hy.2.2.2.1 _ hs9
  have hk0 : kNm (q, 4 + sh, m) := by
    rcases hq with rfl | rfl <;> (unfold kNm; simp)
  have hK := hJ.2.2.2.2.1 f hf
  rw [hS] at hK
  have hK1 : (y.1 (rt (f, 40 + wl r)) = 5 ∨ y.1 (rt (f, 40 + wl r)) = 6) ∧ y.2.1 (rt (f, 40 + wl r)) = 4 + sh ∧ ∃ w : Nat × Nat, V (f, 40 + wl r) [] = some w := by
    rcases hq with rfl | rfl
    · obtain ⟨e1, e2⟩ := hK.1
      rw [e1]; exact ⟨Or.inl hcr.1, hcr.2.1, e2⟩
    · obtain ⟨e1, e2⟩ := hK.1
      rw [e1]; exact ⟨Or.inr hcr.2.2.1, hcr.2.2.2, e2⟩
  obtain ⟨h56, eU, ⟨t9, g9⟩, r2⟩ := hK1
  have hA := hL.2.2.1 f hf
  rw [hS] at hA
  have a1 : ra (f, 40 + wl r) = fb f + vc (x f).1 + khs z r := by
    rcases hq with rfl | rfl
    · exact hA.1
    · exact hA.1
  have wS : wl (x f).2.1 = wl r + 1 := by rw [hS, wl_n hk0]
  have hks : kA (x f) (40 + wl r) := Or.inr ⟨by omega, by omega⟩
  have e9 : t9 = rt (f, 40 + wl r) := ((hL.1.1 _).1 [] t9 g9 r2).1
  obtain ⟨a, ea⟩ := hJ.2.2.2.1 f hf (40 + wl r) t9 g9 r2 (by rw [e9]; exact h56) hks
  obtain ⟨-, d, π, rfl, d1, d2, d3⟩ := hJ.2.2.1 f hf (40 + wl r) a hks ea
  rw [eU] at d2 d3
  have hla := hL.2.1 f hf (40 + wl r) _ (Or.inl hks) ea ⟨_, r2⟩
  obtain ⟨⟨t, g⟩, e⟩ := (d3 [] _ qM_nil rfl).1 (by rw [hk]; decide)
  rw [List.append_nil] at e
  obtain ⟨g1, g2, g3, -⟩ := (hL.1.1 d).1 π t g e
  obtain rfl := qW_det g1 d2
  have hg := g3 hk
  have hcg := (hL.1.2.1 d π _ g e).1 hk
  refine ⟨g, qA y z c (rt d) (ra d) π, d :: π, hg, by rw [← a1]; exact hla, kLt hy hJ hL e, hcg, _, _, _, kJ_sw1 hy.2.2.2.1 hJ hn hs9 hq hS hmt (by omega) hm ea e hd1, kL_sw1 hJ hL hn hq hS hmt ea⟩
end
end
-- f0.sa.lean.txt
section
theorem ibit_shr (p : Int32) {k i : Nat} (h : k + i < 32) : ibit (p >>> (nI k &&& 31)) i = ibit p (k + i) := by
  unfold ibit
  rw [Int32.toBitVec_shiftRight, BitVec.sshiftRight_eq', sh5 k (by omega), BitVec.getLsbD_sshiftRight, if_pos h, decide_eq_false (by omega), Bool.not_false, Bool.true_and]
/-- what a drop may rely on: P: what is dropped (type, where, which cells), B: cells that may become free -/
def drC (y : qY) (z : qZ) (c : Nat → Int) (hp top : Nat) (P : Nat → Nat → Int32 → Prop) (B : Nat → Prop) : Prop := ∀ (t a : Nat) (p : Int32), P t a p →
  (y.1 t ≠ 2 → ibit p 0 = true → a < top) ∧
  (y.1 t = 2 → ∀ i : Nat, i < y.2.2.2.1 t 0 → P (y.2.2.2.2 t 0 i) (a + z.2 t 0 i) (p >>> (nI (z.2 t 0 i) &&& 31))) ∧
  (y.1 t = 3 → ibit p 0 = true → ∃ g : Nat, c a = (g : Int) ∧ g < y.2.2.1 t ∧ ∀ (i : Nat) (p2 : Int32), i < y.2.2.2.1 t g → P (y.2.2.2.2 t g i) (a + z.2 t g i) p2) ∧
  (y.1 t = 4 → ibit p 0 = true → ∃ b : Nat, c a = (b : Int) ∧ b + z.1 (y.2.1 t) ≤ hp ∧ (∀ k : Nat, b ≤ k → k < b + z.1 (y.2.1 t) → B k) ∧ ∀ p2 : Int32, P (y.2.1 t) b p2)
def dPF (y : qY) (z : qZ) (c : Nat → Int) (rt ra : Nat × Nat → Nat) (V : Nat × Nat → qV) (DS : Nat × Nat → lLc → Prop) (t a : Nat) (p : Int32) : Prop := ∃ (r : Nat × Nat) (π : lLc), DS r π ∧ qW y (rt r) π t ∧ a = qA y z c (rt r) (ra r) π ∧ ∀ (ρ : lLc) (s : Nat), qM ρ → qW y t ρ s → y.1 s ≠ 2 → ibit p (qA y z (fun _ => 0) t 0 ρ) = true → ∃ w : Nat × Nat, V r (π ++ ρ) = some w
def drB (y : qY) (z : qZ) (c : Nat → Int) (rt ra : Nat × Nat → Nat) (V : Nat × Nat → qV) (DS : Nat × Nat → lLc → Prop) (k : Nat) : Prop := ∃ (r : Nat × Nat) (π : lLc) (t g b : Nat), DS r π ∧ V r π = some (t, g) ∧ y.1 t = 4 ∧ c (qA y z c (rt r) (ra r) π) = (b : Int) ∧ b ≤ k ∧ k < b + z.1 (y.2.1 t)
section
variable {y : qY} {z : qZ} {vt vo : Nat → Nat → Nat} {vc : Nat → Nat} {tb : Nat → lTb} {hp : Nat} {tk tk2 : Nat → Prop} {c c2 : Nat → Int} {f : Nat} {x : Nat → kFm} {rt ra : Nat × Nat → Nat} {V V2 : Nat × Nat → qV} {fb : Nat → Nat} {top : Nat} {fil fil2 : Nat → Nat → Nat → Prop} {v T o : Nat} {ρ σ : lLc} {os : List Nat} {DS : Nat × Nat → lLc → Prop}
theorem dP_full {r : Nat × Nat} {π : lLc} {t : Nat} {p : Int32} (h1 : DS r π) (h2 : qW y (rt r) π t) (h3 : qF y (V r) π t) : dPF y z c rt ra V DS t (qA y z c (rt r) (ra r) π) p := ⟨r, π, h1, h2, rfl, fun ρ s g1 g2 g3 _ => (h3 ρ s g1 g2).1 g3⟩
theorem dr_ok (hz : qLy y z) (hz16 : ∀ t : Nat, z.1 t ≤ 16) (hm : qMm y z hp tk c rt ra V) (hlt : ∀ (r : Nat × Nat) (π : lLc) (w : Nat × Nat), V r π = some w → qA y z c (rt r) (ra r) π < top) (hDS : ∀ (r : Nat × Nat) (π σ : lLc), DS r π → DS r (π ++ σ)) : drC y z c hp top (dPF y z c rt ra V DS) (drB y z c rt ra V DS) := fun t a p hP => by
  obtain ⟨r, π, d1, d2, rfl, d3⟩ := hP
  have leaf : y.1 t ≠ 2 → ibit p 0 = true → ∃ g : Nat, V r π = some (t, g) := fun k2 hb => by
    obtain ⟨⟨t1, g⟩, e⟩ := d3 [] t qM_nil rfl k2 hb
    rw [List.append_nil] at e
    obtain rfl := qW_det ((hm.1 r).1 π t1 g e).1 d2
    exact ⟨g, e⟩
  refine ⟨fun k2 hb => ?_, fun k2 i hi => ?_, fun k3 hb => ?_, fun k4 hb => ?_⟩
  · obtain ⟨g, e⟩ := leaf k2 hb
    exact hlt r π _ e
  · have w1 : qW y t [(0, i)] (y.2.2.2.2 t 0 i) := ⟨k2, hi, rfl⟩
    refine ⟨r, π ++ [(0, i)], hDS r π _ d1, qW_app d2 w1, ?_, fun ρ s g1 g2 g3 hb => ?_⟩
    · rw [qA_app d2]; rfl
    · have i1 := qA_in (c := fun _ => 0) (a := 0) hz g2 (qN_M g1)
      have i2 := hz.2.1 t i k2 hi
      have i3 := hz16 t
      have i4 := hz.1 s
      have e := d3 ((0, i) :: ρ) s (qM_cons.mpr ⟨rfl, g1⟩) ⟨k2, hi, g2⟩ g3 (by
        rw [ibit_shr p (by omega)] at hb
        have e5 := qA_sh (z := z) (c := fun _ => 0) (c2 := fun _ => 0) (a := 0 + z.2 t 0 i) (b := 0) g2 (qN_M g1)
        show ibit p (qA y z (fun _ => 0) (y.2.2.2.2 t 0 i) (0 + z.2 t 0 i) ρ) = true
        rw [show qA y z (fun _ => 0) (y.2.2.2.2 t 0 i) (0 + z.2 t 0 i) ρ = z.2 t 0 i + qA y z (fun _ => 0) (y.2.2.2.2 t 0 i) 0 ρ by omega]
        exact hb)
      rw [List.append_assoc]
      exact e
  · obtain ⟨g, e⟩ := leaf (by rw [k3]; decide) hb
    obtain ⟨-, -, g3, -, g5⟩ := (hm.1 r).1 π t g e
    refine ⟨g, (hm.2.1 r π t g e).1 k3, g3 k3, fun i p2 hi => ?_⟩
    have w1 : qW y t [(g + 2, i)] (y.2.2.2.2 t g i) := ⟨k3, g3 k3, hi, rfl⟩
    have q := dP_full (p := p2) (z := z) (c := c) (ra := ra) (hDS r π [(g + 2, i)] d1) (qW_app d2 w1) (g5 k3 i hi)
    rw [qA_app d2] at q
    exact q
  · obtain ⟨g, e⟩ := leaf (by rw [k4]; decide) hb
    obtain ⟨-, -, -, g4, -⟩ := (hm.1 r).1 π t g e
    obtain ⟨b, b1, b2, b3⟩ := (hm.2.1 r π t g e).2 k4
    refine ⟨b, b1, b2, fun k g1 g2 => ⟨r, π, t, g, b, d1, e, k4, b1, g1, g2⟩, fun p2 => ?_⟩
    have w1 : qW y t [(1, 0)] (y.2.1 t) := ⟨rfl, k4, rfl⟩
    have q := dP_full (p := p2) (z := z) (c := c) (ra := ra) (hDS r π [(1, 0)] d1) (qW_app d2 w1) (g4 k4)
    rw [qA_app d2] at q
    have q : dPF y z c rt ra V DS (y.2.1 t) (c (qA y z c (rt r) (ra r) π)).toNat p2 := q
    rw [b1, Int.toNat_natCast] at q
    exact q
/-- blocks of what isn't dropped stay taken -/
theorem dr_tk (hm : qMm y z hp tk c rt ra V) (htk : ∀ k : Nat, tk k → ¬ drB y z c rt ra V DS k → tk2 k) {r : Nat × Nat} {π : lLc} {t g b : Nat} (he : V r π = some (t, g)) (k4 : y.1 t = 4) (hd : ¬ DS r π) (hb : c (qA y z c (rt r) (ra r) π) = (b : Int)) : ∀ k : Nat, b ≤ k → k < b + z.1 (y.2.1 t) → tk2 k := fun k h1 h2 => by
  obtain ⟨b9, b1, b2, b3⟩ := (hm.2.1 r π t g he).2 k4
  rw [hb] at b1
  have b1 : b = b9 := by omega
  subst b1
  refine htk k (b3 k h1 h2) (fun q => ?_)
  obtain ⟨r0, π0, t0, g0, b0, q1, q2, q3, q4, q5, q6⟩ := q
  have := hm.2.2.1 r π t g r0 π0 t0 g0 b b0 he q2 k4 q3 (fun e => by
    injection e with e1 e2
    rw [e1, e2] at hd
    exact hd q1) hb q4
  omega
theorem qMm_subT (h : qMm y z hp tk c rt ra V) (h1 : ∀ r : Nat × Nat, qOk y (rt r) (V2 r)) (h2 : ∀ (r : Nat × Nat) (π : lLc) (w : Nat × Nat), V2 r π = some w → V r π = some w) (hT : ∀ (r : Nat × Nat) (π : lLc) (t g b : Nat), V2 r π = some (t, g) → y.1 t = 4 → c (qA y z c (rt r) (ra r) π) = (b : Int) → ∀ k : Nat, b ≤ k → k < b + z.1 (y.2.1 t) → tk2 k) : qMm y z hp tk2 c rt ra V2 := by
  have q := qMm_sub h h1 h2
  obtain ⟨m1, m2, m3, m4, m5⟩ := q
  refine ⟨m1, fun r π t g hv => ?_, m3, m4, m5⟩
  obtain ⟨q1, q2⟩ := m2 r π t g hv
  refine ⟨q1, fun k4 => ?_⟩
  obtain ⟨b, b1, b2, -⟩ := q2 k4
  exact ⟨b, b1, b2, hT r π t g b hv k4 b1⟩
/-- variables go out of scope -/
theorem kS_scp (hy : kYs y z vt vo vc) (hz16 : ∀ t : Nat, z.1 t ≤ 16) (h : kS y z vt vo vc tb hp tk c f x fb top fil) {v0 v1 : Nat} {O S2 : List tE} {al2 : Nat → Prop} {lo2 : Nat → lLc → Prop} (hn : (x f).2.2.1 = 0) (hv4 : v1 ≤ 40) (hmt : ∀ r m : Nat, (5, r, m) ∉ (x f).2.1 ∧ (6, r, m) ∉ (x f).2.1) (hS : (x f).2.1 = O ++ S2) (hO : ∀ e : tE, e ∈ O → ∃ v : Nat, e = (8, v, 0) ∧ v0 ≤ v ∧ v < v1) (hS2 : ∀ v : Nat, v0 ≤ v → v < v1 → (8, v, 0) ∉ S2) (hal : ∀ u : Nat, u < v0 ∨ v1 ≤ u → al2 u → kal (x f) u) (hlo : ∀ (w : Nat) (π : lLc), (8, w, 0) ∈ S2 → ¬ lo2 w π → ¬ klo (x f) w π) (hck : ∀ u l : Nat, ((u < 40 ∧ al2 u) ∨ (40 ≤ u ∧ u < 40 + wl (x f).2.1)) → (u < v0 ∨ v1 ≤ u) → kH (x f) u l → ¬ (tb (x f).1).2.2.2.1 l → v0 ≤ (tb (x f).1).1 l → (tb (x f).1).1 l < v1 → (tb (x f).1).2.2.2.2 ((tb (x f).1).1 l)) : ∃ (P : Nat → Nat → Int32 → Prop) (B : Nat → Prop), drC y z c hp top P B ∧ (∀ (v : Nat) (p : Int32), v0 ≤ v → v < v1 → (8, v, 0) ∈ (x f).2.1 → (∀ k : Nat, k < 16 → ibit p k = true → fil f v k) → P (vt (x f).1 v) (fb f + vo (x f).1 v) p) ∧ ∀ (tk2 : Nat → Prop) (fil2 : Nat → Nat → Nat → Prop), (∀ k : Nat, tk k → ¬ B k → tk2 k) → (∀ j w : Nat, ¬ (j = f ∧ v0 ≤ w ∧ w < v1) → fil2 j w = fil j w) → kS y z vt vo vc tb hp tk2 c f (kUx x f ((x f).1, S2, 0, (fun u => if v0 ≤ u ∧ u < v1 then none else kR (x f) u), kH (x f), al2, lo2, kAn (x f))) fb top fil2 := by
  obtain ⟨rt, ra, V, hJ, hL⟩ := h
  have hf := Nat.le_refl f
  have hw := hL
  obtain ⟨l0, l1, l2, l3, l4, l5, l6, l7, l8, l9⟩ := hL
  have hsub : ∀ e : tE, e ∈ S2 → e ∈ (x f).2.1 := fun e he => by rw [hS]; exact List.mem_append_right _ he
  refine ⟨dPF y z c rt ra V (fun r _ => r.1 = f ∧ v0 ≤ r.2 ∧ r.2 < v1), drB y z c rt ra V (fun r _ => r.1 = f ∧ v0 ≤ r.2 ∧ r.2 < v1), dr_ok hy.1 hz16 l0 (fun r π w => kLt hy hJ hw) (fun r π σ q => q), fun v p g1 g2 g3 g4 => ?_, fun tk2 fil2 htk hfl => ?_⟩
  · obtain ⟨r1, r2⟩ := hJ.2.2.2.2.2.2.1 f hf v (by omega) g3
    refine ⟨(f, v), [], ⟨rfl, g1, g2⟩, r1.symm, (l3 f hf v (by omega) g3).symm, fun ρ s q1 q2 q3 q4 => ?_⟩
    have i1 := qA_in (c := fun _ => 0) (a := 0) hy.1 q2 (qN_M q1)
    have i2 := hz16 (vt (x f).1 v)
    have i3 := hy.1.1 s
    have i4 := qA_sh (z := z) (c := c) (c2 := fun _ => 0) (a := 0) (b := 0) q2 (qN_M q1)
    refine l7 f hf v (by omega) g3 ρ s q1 q2 q3 ?_
    rw [show qA y z c (vt (x f).1 v) 0 ρ = qA y z (fun _ => 0) (vt (x f).1 v) 0 ρ by omega]
    exact g4 _ (by omega) q4
  · have iv := hJ.2.1.1 f hf
    have hA2 : ∀ u : Nat, ((u < 40 ∧ al2 u) ∨ (40 ≤ u ∧ u < 40 + wl (x f).2.1)) → (u < v0 ∨ v1 ≤ u) → kA (x f) u := fun u hu ho => by
      rcases hu with ⟨a, b⟩ | ⟨a, b⟩
      · exact Or.inl ⟨a, hal u ho b⟩
      · exact Or.inr ⟨a, by omega⟩
    have j := kJ_scp (H2 := kH (x f)) (al2 := al2) (lo2 := lo2) hJ hn hv4 hmt hS hO hS2 hal (fun _ _ _ q => q) hlo (fun u b hu ho hb v π q1 q2 e => by
      have hk := iv.1 u b (hA2 u hu ho) hb
      rcases hk with ⟨l, a1, a2, a3, a4, -⟩ | ⟨o, e2, q, a1, a2, a3, a4, a5, a6⟩
      · obtain ⟨s, a4⟩ := a4
        rw [e] at a4
        have a4 : (f, v) :: π = (f, (tb (x f).1).1 l) :: ((tb (x f).1).2.1 l ++ s) := a4
        injection a4 with a4 _
        injection a4 with _ a4
        exact a3 (hck u l hu ho a2 a1 (by omega) (by omega))
      · obtain ⟨j, w, r, rfl, a6⟩ := a6
        obtain ⟨s, a4⟩ := a4
        rw [e] at a4
        have a4 : (f, v) :: π = (j, w) :: (r ++ s) := a4
        injection a4 with a4 _
        injection a4 with a4 _
        omega)
    have hin : ∀ u : Nat, u < 40 → (8, u, 0) ∈ S2 → u < v0 ∨ v1 ≤ u := fun u _ hu => by
      rcases Nat.lt_or_ge u v0 with q | q
      · exact Or.inl q
      · rcases Nat.lt_or_ge u v1 with q2 | q2
        · exact absurd hu (hS2 u q q2)
        · exact Or.inr q2
    have cv : ∀ (r : Nat × Nat) (π : lLc) (w : Nat × Nat), kCv V f v0 v1 r π = some w → V r π = some w ∧ ¬ (r.1 = f ∧ v0 ≤ r.2 ∧ r.2 < v1) := fun r π w hw9 => by
      unfold kCv at hw9
      by_cases e : r.1 = f ∧ v0 ≤ r.2 ∧ r.2 < v1
      · rw [if_pos e] at hw9; simp at hw9
      · rw [if_neg e] at hw9; exact ⟨hw9, e⟩
    have q : qMm y z hp tk2 c rt ra (kCv V f v0 v1) := qMm_subT l0 (fun r => by
      unfold kCv
      by_cases e : r.1 = f ∧ v0 ≤ r.2 ∧ r.2 < v1
      · rw [if_pos e]; exact qOk_none
      · rw [if_neg e]; exact l0.1 r) (fun r π w hw9 => (cv r π w hw9).1) (fun r π t g b hv k4 hb => dr_tk l0 htk (cv r π _ hv).1 k4 (cv r π _ hv).2 hb)
    refine ⟨_, _, _, j, kL_var (R2 := fun u => if v0 ≤ u ∧ u < v1 then none else kR (x f) u) (S2 := S2) hJ hw hn (fun j u g => ⟨rfl, rfl, kCv_out (by omega)⟩) (fun u hu => if_neg (by omega)) ⟨O, fun e he => by obtain ⟨v, e1, -⟩ := hO e he; exact ⟨v, e1⟩, Or.inl hS⟩ hmt q (fun _ _ _ _ _ => rfl) (fun _ _ _ _ _ _ _ => rfl) (fun u a u4 hu ha hw9 => ?_) (fun w w4 hwS => l3 f hf w w4 (hsub _ hwS)) (fun j hj => funext fun w => hfl j w (fun q => hj q.1)) (fun w w4 hwS π t hm1 hq hk hfl9 => ?_) (fun u π w u4 hw9 => l8 f u π w u4 (cv _ _ _ hw9).1)⟩
    · by_cases e : v0 ≤ u ∧ u < v1
      · have ha : (if v0 ≤ u ∧ u < v1 then none else kR (x f) u) = some a := ha
        rw [if_pos e] at ha; simp at ha
      · have ha : (if v0 ≤ u ∧ u < v1 then none else kR (x f) u) = some a := ha
        rw [if_neg e] at ha
        obtain ⟨w, hw9⟩ := hw9
        exact l1 f hf u a (Or.inl (Or.inl ⟨u4, hal u (by omega) hu⟩)) ha ⟨w, (cv _ _ _ hw9).1⟩
    · have ho := hin w w4 hwS
      rw [kCv_out (by omega)]
      rw [hfl f w (by omega)] at hfl9
      exact l7 f hf w w4 (hsub _ hwS) π t hm1 hq hk hfl9
/-- the value on top is dropped -/
theorem kS_drp (hy : kYs y z vt vo vc) (hz16 : ∀ t : Nat, z.1 t ≤ 16) (h : kS y z vt vo vc tb hp tk c f x fb top fil) {m : Nat} {S : List tE} (hS : (x f).2.1 = (0, T, m) :: S) (hn : (x f).2.2.1 = 0) (hT : T ≠ 0) : ∃ (P : Nat → Nat → Int32 → Prop) (B : Nat → Prop), drC y z c hp top P B ∧ (∀ p : Int32, P T (fb f + vc (x f).1 + khs z S) p) ∧ ∀ tk2 : Nat → Prop, (∀ k : Nat, tk k → ¬ B k → tk2 k) → kS y z vt vo vc tb hp tk2 c f (kUx x f ((x f).1, S, 0, kR (x f), kH (x f), kal (x f), klo (x f), kAn (x f))) fb (fb f + vc (x f).1 + khs z S) fil := by
  obtain ⟨rt, ra, V, hJ, hL⟩ := h
  have hf := Nat.le_refl f
  have hk0 : kNm (0, T, m) := by unfold kNm; simp
  have hK := hJ.2.2.2.2.1 f hf
  rw [hS] at hK
  obtain ⟨⟨k1, k2, k3, k4, k5⟩, -⟩ := hK
  obtain ⟨r1, r2⟩ := k4 hT
  have hA := hL.2.2.1 f hf
  rw [hS] at hA
  have a1 : ra (f, 40 + wl S) = fb f + vc (x f).1 + khs z S := hA.1 hT
  have wS : wl (x f).2.1 = wl S + 1 := by rw [hS, wl_n hk0]
  have wB := hJ.2.2.2.2.2.2.2.2 f hf
  refine ⟨dPF y z c rt ra V (fun r _ => r = (f, 40 + wl S)), drB y z c rt ra V (fun r _ => r = (f, 40 + wl S)), dr_ok hy.1 hz16 hL.1 (fun r π w => kLt hy hJ hL) (fun r π σ q => q), fun p => ?_, fun tk2 htk => ?_⟩
  · have q := dP_full (p := p) (z := z) (c := c) (rt := rt) (ra := ra) (V := V) (DS := fun r _ => r = (f, 40 + wl S)) (r := (f, 40 + wl S)) (π := []) rfl (by rw [r1]; rfl) r2
    rw [← a1]
    exact q
  · have hE1 : ∀ e : tE, e ∈ [(0, T, m)] → kNm e := fun e he => by rw [List.mem_singleton.mp he]; exact hk0
    refine ⟨_, _, _, kJ_pop hJ (E := [(0, T, m)]) (S := S) hS hE1 hn, kL_pop hJ hL (E := [(0, T, m)]) (S := S) hS hE1 hn (qMm_subT hL.1 (qMm_cl hL.1).1 (fun r π w hw => (kCl_le hw).1) (fun r π t g b hv k4 hb => dr_tk hL.1 htk (kCl_le hv).1 k4 (fun e => (kCl_le hv).2 (by rw [e]; exact ⟨rfl, Nat.le_refl _, by show 40 + wl S < 300; omega⟩)) hb))⟩
end
end
-- f0.sb.lean.txt
section
section
variable {y : qY} {z : qZ} {vt vo : Nat → Nat → Nat} {vc : Nat → Nat} {tb : Nat → lTb} {hp : Nat} {tk tk2 : Nat → Prop} {c c2 : Nat → Int} {f : Nat} {x : Nat → kFm} {rt ra : Nat × Nat → Nat} {V V2 : Nat × Nat → qV} {fb : Nat → Nat} {top : Nat} {fil fil2 : Nat → Nat → Nat → Prop} {v T o : Nat} {ρ σ : lLc} {os : List Nat}
/-- the value on top goes to (d, π), what was there is dropped -/
theorem qMm_asg (hy : kYs y z vt vo vc) (hJ : kJ y vt tb f x rt V) (hL : kL y z vt vo vc hp tk c f x rt ra V fb top fil) {S : List tE} {m : Nat} (hS : (x f).2.1 = (0, T, m) :: S) (hT : T ≠ 0) {d : Nat × Nat} {π : lLc} (hd4 : d.2 < 40) (hw : qW y (rt d) π T) (hVd : qOk y (rt d) (qG (V d) π (V (f, 40 + wl S)))) (hpar : ∀ (ρ1 : lLc) (j : Nat) (ρ2 : lLc), π = ρ1 ++ (1, j) :: ρ2 → ∃ w : Nat × Nat, V d ρ1 = some w) (e1 : ∀ (r : Nat × Nat) (τ : lLc) (w : Nat × Nat), V r τ = some w → ¬ (r = d ∧ lP π τ) → ¬ (qA y z c (rt d) (ra d) π ≤ qA y z c (rt r) (ra r) τ ∧ qA y z c (rt r) (ra r) τ < qA y z c (rt d) (ra d) π + z.1 T)) (e4 : hp ≤ ra d) (e5 : ∀ (r : Nat × Nat) (τ : lLc) (w : Nat × Nat), r ≠ d → V r τ = some w → ra r + z.1 (rt r) ≤ ra d ∨ ra d + z.1 (rt d) ≤ ra r) (hc1 : ∀ i : Nat, i < z.1 T → c2 (qA y z c (rt d) (ra d) π + i) = c (fb f + vc (x f).1 + khs z S + i)) (hc2 : ∀ k : Nat, ¬ (qA y z c (rt d) (ra d) π ≤ k ∧ k < qA y z c (rt d) (ra d) π + z.1 T) → c2 k = c k) (htk : ∀ k : Nat, tk k → ¬ drB y z c rt ra V (fun r τ => r = d ∧ lP π τ) k → tk2 k) : qMm y z hp tk2 c2 rt ra (qUp (kCl V f (wl S)) d (qG (V d) π (V (f, 40 + wl S)))) ∧ rt (f, 40 + wl S) = T ∧ qF y (V (f, 40 + wl S)) [] T ∧ y.1 T ≠ 5 ∧ y.1 T ≠ 6 := by
  have hf := Nat.le_refl f
  have hk0 : kNm (0, T, m) := by unfold kNm; simp
  have hK := hJ.2.2.2.2.1 f hf
  rw [hS] at hK
  obtain ⟨⟨k1, k2, k3, k4, k5⟩, -⟩ := hK
  obtain ⟨r1, r2⟩ := k4 hT
  have hA := hL.2.2.1 f hf
  rw [hS] at hA
  have a1 : ra (f, 40 + wl S) = fb f + vc (x f).1 + khs z S := hA.1 hT
  have wS : wl (x f).2.1 = wl S + 1 := by rw [hS, wl_n hk0]
  have wB := hJ.2.2.2.2.2.2.2.2 f hf
  have hsd : ((f, 40 + wl S) : Nat × Nat) ≠ d := fun q => by rw [← q] at hd4; have hd4 : 40 + wl S < 40 := hd4; omega
  refine ⟨?_, r1, r2, k2, k3⟩
  have q := qMvT (tk2 := tk2) (c2 := c2) hy.1 hL.1 (s := (f, 40 + wl S)) (d := d) (σ := []) (ρ := π) (T1 := T) (Vs := fun _ => none) hsd r1.symm hw qOk_none (fun _ _ q => by simp at q) hVd hpar (fun r τ w g1 g2 _ => e1 r τ w g1 g2) hc2 (by
    intro i hi
    rw [hc1 i hi]
    show c _ = c (ra (f, 40 + wl S) + i)
    rw [a1]) e4 (fun r τ w hr hw9 => by
    by_cases e9 : r = (f, 40 + wl S)
    · rw [e9, qUp_eq] at hw9; simp at hw9
    · rw [qUp_ne e9] at hw9
      exact e5 r τ w hr hw9) (fun r0 π0 t g b hv0 k4 _ hd hb => dr_tk hL.1 htk hv0 k4 (fun q => hd q.1 q.2) hb)
  have ev : qUp (kCl V f (wl S)) d (qG (V d) π (V (f, 40 + wl S))) = qUp (qUp V (f, 40 + wl S) (fun _ => none)) d (qG (V d) π (qS (V (f, 40 + wl S)) [])) := funext fun r => by
    by_cases e9 : r = d
    · rw [e9, qUp_eq, qUp_eq]; rfl
    · rw [qUp_ne e9, qUp_ne e9]
      have := congrFun (kCl_one hJ (W := fun _ => none) hS hk0) r
      by_cases e8 : r = (f, 40 + wl S)
      · rw [e8, qUp_eq]
        exact kCl_ze ⟨rfl, Nat.le_refl _, by show 40 + wl S < 300; omega⟩
      · rw [qUp_ne e8]
        rw [qUp_ne e8, qUp_ne e8] at this
        exact this
  rw [ev]; exact q
/-- a value is put into a place of a variable that is reached without a star -/
theorem kS_as1 (hy : kYs y z vt vo vc) (hz16 : ∀ t : Nat, z.1 t ≤ 16) (h : kS y z vt vo vc tb hp tk c f x fb top fil) {S : List tE} {m : Nat} (hS : (x f).2.1 = (0, T, m) :: S) (hn : (x f).2.2.1 = 0) (hno : ∀ r m : Nat, (5, r, m) ∉ S ∧ (6, r, m) ∉ S) (hT : T ≠ 0) (hv4 : v < 40) (hvS : (8, v, 0) ∈ S) (hvt0 : vt (x f).1 v ≠ 0) (hw : qW y (vt (x f).1 v) ρ T) (hm : qM ρ) {al2 : Nat → Prop} {lo2 : Nat → lLc → Prop} (hal : ∀ u : Nat, al2 u → kal (x f) u) (hlo : ∀ (w : Nat) (π : lLc), ¬ lo2 w π → ¬ klo (x f) w π ∨ (w = v ∧ lCmp π ρ)) (hk : lCk (tb (x f).1) (kH (x f)) (fun u => (u < 40 ∧ al2 u) ∨ (40 ≤ u ∧ u < 40 + wl S)) v ρ False) : ∃ (P : Nat → Nat → Int32 → Prop) (B : Nat → Prop), drC y z c hp top P B ∧ (∀ p : Int32, (∀ k : Nat, k < 16 → ibit p k = true → fil f v (qA y z (fun _ => 0) (vt (x f).1 v) 0 ρ + k)) → P T (fb f + vo (x f).1 v + qA y z (fun _ => 0) (vt (x f).1 v) 0 ρ) p) ∧ ∀ (tk2 : Nat → Prop) (c2 : Nat → Int) (fil2 : Nat → Nat → Nat → Prop), (∀ k : Nat, tk k → ¬ B k → tk2 k) → (∀ i : Nat, i < z.1 T → c2 (fb f + vo (x f).1 v + qA y z (fun _ => 0) (vt (x f).1 v) 0 ρ + i) = c (fb f + vc (x f).1 + khs z S + i)) → (∀ k : Nat, ¬ (fb f + vo (x f).1 v + qA y z (fun _ => 0) (vt (x f).1 v) 0 ρ ≤ k ∧ k < fb f + vo (x f).1 v + qA y z (fun _ => 0) (vt (x f).1 v) 0 ρ + z.1 T) → c2 k = c k) → (∀ j w : Nat, (j, w) ≠ (f, v) → fil2 j w = fil j w) → (∀ k : Nat, fil2 f v k → fil f v k ∨ (qA y z (fun _ => 0) (vt (x f).1 v) 0 ρ ≤ k ∧ k < qA y z (fun _ => 0) (vt (x f).1 v) 0 ρ + z.1 T)) → kS y z vt vo vc tb hp tk2 c2 f (kUx x f ((x f).1, S, 0, kR (x f), kH (x f), al2, lo2, kAn (x f))) fb (fb f + vc (x f).1 + khs z S) fil2 := by
  obtain ⟨rt, ra, V, hJ, hL⟩ := h
  have hf := Nat.le_refl f
  have hk0 : kNm (0, T, m) := by unfold kNm; simp
  have hvS1 : (8, v, 0) ∈ (x f).2.1 := by rw [hS]; exact List.mem_cons_of_mem _ hvS
  obtain ⟨r1, r2⟩ := hJ.2.2.2.2.2.2.1 f hf v hv4 hvS1
  have hra : ra (f, v) = fb f + vo (x f).1 v := hL.2.2.2.1 f hf v hv4 hvS1
  have eA : qA y z c (rt (f, v)) (ra (f, v)) ρ = fb f + vo (x f).1 v + qA y z (fun _ => 0) (vt (x f).1 v) 0 ρ := by
    have := qA_sh (z := z) (c := c) (c2 := fun _ => 0) (a := ra (f, v)) (b := 0) hw (qN_M hm)
    rw [r1, hra] at *
    omega
  have hw2 : qW y (rt (f, v)) ρ T := by rw [r1]; exact hw
  have ht := kTopF hL
  have iin := qA_in (c := fun _ => 0) (a := 0) hy.1 hw (qN_M hm)
  have wS : wl (x f).2.1 = wl S + 1 := by rw [hS, wl_n hk0]
  have wB := hJ.2.2.2.2.2.2.2.2 f hf
  have iv := hJ.2.1.1 f hf
  refine ⟨dPF y z c rt ra V (fun r τ => r = (f, v) ∧ lP ρ τ), drB y z c rt ra V (fun r τ => r = (f, v) ∧ lP ρ τ), dr_ok hy.1 hz16 hL.1 (fun r π w => kLt hy hJ hL) (fun r π σ q => ⟨q.1, lP_tr q.2 (lP_app _ _)⟩), fun p g4 => ?_, fun tk2 c2 fil2 htk hc1 hc2 hf1 hf2 => ?_⟩
  · refine ⟨(f, v), ρ, ⟨rfl, lP_rf ρ⟩, hw2, eA.symm, fun τ s q1 q2 q3 q4 => ?_⟩
    have i1 := qA_in (c := fun _ => 0) (a := 0) hy.1 q2 (qN_M q1)
    have i2 := hz16 T
    have i3 := hy.1.1 s
    have m2 : qM (ρ ++ τ) := qM_app.mpr ⟨hm, q1⟩
    have i4 := qA_sh (z := z) (c := c) (c2 := fun _ => 0) (a := 0) (b := 0) (qW_app hw q2) (qN_M m2)
    have i5 := qA_sh (z := z) (c := fun _ => 0) (c2 := fun _ => 0) (a := qA y z (fun _ => 0) (vt (x f).1 v) 0 ρ) (b := 0) q2 (qN_M q1)
    refine hL.2.2.2.2.2.2.2.1 f hf v hv4 hvS1 (ρ ++ τ) s m2 (qW_app hw q2) q3 ?_
    have e9 : qA y z (fun _ => 0) (vt (x f).1 v) 0 (ρ ++ τ) = qA y z (fun _ => 0) (vt (x f).1 v) 0 ρ + qA y z (fun _ => 0) T 0 τ := by
      rw [qA_app hw]; omega
    rw [show qA y z c (vt (x f).1 v) 0 (ρ ++ τ) = qA y z (fun _ => 0) (vt (x f).1 v) 0 ρ + qA y z (fun _ => 0) T 0 τ by omega]
    exact g4 _ (by omega) q4
  · have ap : ∀ (r : Nat × Nat) (τ : lLc) (w : Nat × Nat), V r τ = some w → ¬ (r = (f, v) ∧ lP ρ τ) → ¬ (qA y z c (rt (f, v)) (ra (f, v)) ρ ≤ qA y z c (rt r) (ra r) τ ∧ qA y z c (rt r) (ra r) τ < qA y z c (rt (f, v)) (ra (f, v)) ρ + z.1 T) := fun r τ w hw9 hn9 => by
      by_cases e9 : r = (f, v)
      · subst e9
        obtain ⟨t9, g9⟩ := w
        obtain ⟨w1, w2, -⟩ := (hL.1.1 _).1 τ t9 g9 hw9
        rcases qN_last τ with nπ | ⟨π1, i, π2, rfl, nπ⟩
        · refine qA_ap (c := c) (a := ra (f, v)) hy.1 hw2 w1 (qN_M hm) nπ (fun q => hn9 ⟨rfl, q⟩) w2 (fun κ ρ1 π1 g1 j1 g2 j2 q _ => ?_)
          have := hm (g1 + 2, j1) (by rw [q]; exact List.mem_append_right _ (List.mem_cons_self ..))
          exact absurd this (by show ¬ (g1 + 2 = 0); omega)
        · have := qEndH hy.1 hL.1 w1 nπ (qPl_of hw9)
          have := hy.1.1 t9
          rw [eA]
          omega
      · have := qFresh (n := z.1 (vt (x f).1 v)) (a := fb f + vo (x f).1 v) hy.1 hL.1 (by omega) hw9 (kVarAp hy hJ hL hv4 hvt0 hw9 e9)
        rw [eA]
        omega
    have hsW : qOk y T (V (f, 40 + wl S)) := by
      have hK := hJ.2.2.2.2.1 f hf
      rw [hS] at hK
      obtain ⟨⟨k1, k2, k3, k4, k5⟩, -⟩ := hK
      rw [← (k4 hT).1]; exact hL.1.1 _
    obtain ⟨q, s1, s2, s3, s4⟩ := qMm_asg (c2 := c2) (tk2 := tk2) hy hJ hL hS hT hv4 hw2 (qOk_Gm (hL.1.1 _) hw2 hm hsW) (fun ρ1 j ρ2 e => by
      have := hm (1, j) (by rw [e]; exact List.mem_append_right _ (List.mem_cons_self ..))
      exact absurd this (by show ¬ ((1 : Nat) = 0); decide)) ap (by omega) (fun r τ w hr hw9 => by
      rw [hra, r1]; exact kVarAp hy hJ hL hv4 hvt0 hw9 hr) (by rw [eA]; exact hc1) (by rw [eA]; exact hc2) htk
    have hE1 : ∀ e : tE, e ∈ [(0, T, m)] → kNm e := fun e he => by rw [List.mem_singleton.mp he]; exact hk0
    have j1 := kJ_pop hJ (E := [(0, T, m)]) (S := S) hS hE1 hn
    have l1 := kL_pop hJ hL (E := [(0, T, m)]) (S := S) hS hE1 hn (qMm_cl hL.1)
    generalize hx1 : kUx x f ((x f).1, S, 0, kR (x f), kH (x f), kal (x f), klo (x f), kAn (x f)) = x1 at j1 l1
    have e1 : x1 f = ((x f).1, S, 0, kR (x f), kH (x f), kal (x f), klo (x f), kAn (x f)) := by rw [← hx1, kUx_eq]
    have xo : ∀ j : Nat, j ≠ f → x1 j = x j := fun j hj => by rw [← hx1, kUx_ne hj]
    have hcv : kCl V f (wl S) (f, v) = V (f, v) := kCl_ge (fun g => by have := g.2.1; have : 40 + wl S ≤ v := this; omega)
    have hcmp : ∀ (u : Nat) (b : lLc), ((u < 40 ∧ al2 u) ∨ (40 ≤ u ∧ u < 40 + wl S)) → kR (x f) u = some b → ¬ lCmp b ((f, v) :: ρ) := fun u b hu hb hcm => by
      refine (lAc_var iv (fun u hu => ?_) hk hu hb hcm).1
      rcases hu with ⟨a, b⟩ | ⟨a, b⟩
      · exact Or.inl ⟨a, hal u b⟩
      · exact Or.inr ⟨a, by omega⟩
    have j2 := kJ_as1 (v := v) (T1 := T) (ρ := ρ) (W := V (f, 40 + wl S)) (al2 := al2) (lo2 := lo2) j1 (by rw [e1]) hv4 (by rw [e1]; exact hvS) (by rw [e1]; exact hno) hm (by rw [e1]; exact hw) ⟨hsW, s2⟩ ⟨s3, s4⟩ (by rw [e1]; exact hal) (by rw [e1]; exact hlo) (by
      rw [e1]
      intro u b hu hb hcm
      exact absurd hcm (hcmp u b hu hb))
    have tgA : ∀ (a : lLc) (U : Nat), qTg y rt (kCl V f (wl S)) a U → ¬ lP ((f, v) :: ρ) a → qAd y z c2 rt ra a = qAd y z c rt ra a := fun a U htg hnl => qAd_pl j1.1 htg (fun _ _ _ => ⟨rfl, rfl⟩) (fun r π π1 w ea hw9 hp1 hne => hc2 _ (by
      rw [← eA]
      refine ap r π1 w (kCl_le hw9).1 (fun g => hnl ?_)
      rw [ea, g.1]
      exact lP_consI (lP_tr g.2 hp1)))
    have fr : ∀ (j u : Nat) (a : lLc), j ≤ f → kA (x1 j) u → kR (x1 j) u = some a → (j = f → (u < 40 ∧ al2 u) ∨ (40 ≤ u ∧ u < 40 + wl S)) → ¬ lP ((f, v) :: ρ) a := fun j u a hj hu ha hjf hlp => by
      by_cases e : j = f
      · subst e
        rw [e1] at ha
        exact hcmp u a (hjf rfl) ha (Or.inr hlp)
      · obtain ⟨j2, w, r, e8, e9⟩ := lIv_fr (j1.2.1.1 j hj) hu ha
        rw [e8] at hlp
        obtain ⟨e7, -⟩ := lP_cons hlp
        injection e7 with e7 _
        omega
    have l2 := kL_var (c2 := c2) (tk2 := tk2) (rt2 := rt) (ra2 := ra) (V2 := qUp (kCl V f (wl S)) (f, v) (qG (V (f, v)) ρ (V (f, 40 + wl S)))) (S2 := (x1 f).2.1) (R2 := kR (x1 f)) (H2 := kH (x1 f)) (al2 := al2) (lo2 := lo2) (fil2 := fil2) j1 l1 (by rw [e1]) (fun j u g => ⟨rfl, rfl, qUp_ne (fun q => by injection q with q1 q2; omega)⟩) (fun _ _ => rfl) ⟨[], fun e he => by simp at he, Or.inl rfl⟩ (by rw [e1]; exact hno) q (fun j u w g hw9 => hc2 _ (by
      rw [← eA]
      exact ap (j, u) [] w (kCl_le hw9).1 (fun q => by have := q.1; injection this with q1 q2; omega))) (fun j u a hj hu ha g => tgA a _ (j1.2.2.1 j hj u a hu ha).2 (fr j u a hj hu ha (fun e => by
      subst e
      have g := g rfl
      rcases hu with hu | hu
      · omega
      · rw [e1] at hu; exact Or.inr hu))) (fun u a u4 hu ha hw9 => by
      obtain ⟨w, hw9⟩ := hw9
      have hu2 : kA (x1 f) u := Or.inl ⟨u4, by rw [e1]; exact hal u hu⟩
      have hw8 : ∃ w : Nat × Nat, kCl V f (wl S) (f, u) [] = some w := by
        by_cases e : u = v
        · obtain ⟨h56, -⟩ := j1.2.2.1 f hf u a hu2 ha
          rw [e, qUp_eq] at hw9
          rw [e, hcv]
          by_cases c9 : lP ρ []
          · obtain ⟨s, c9⟩ := c9
            have : ρ = [] := by
              cases ρ with
              | nil => rfl
              | cons _ _ => simp at c9
            subst this
            rw [e, r1, show vt (x f).1 v = T from (show T = vt (x f).1 v from hw).symm] at h56
            exact absurd h56 (by rintro (q | q); exact s3 q; exact s4 q)
          · rw [qG_out c9] at hw9; exact ⟨w, hw9⟩
        · rw [qUp_ne (fun q => e (by injection q))] at hw9; exact ⟨w, hw9⟩
      obtain ⟨w8, hw8⟩ := hw8
      rw [tgA a _ (j1.2.2.1 f hf u a hu2 ha).2 (fr f u a hf hu2 ha (fun _ => Or.inl ⟨u4, hu⟩)), ← l1.2.1 f hf u a (Or.inl hu2) ha ⟨w8, hw8⟩]
      refine hc2 _ ?_
      rw [← eA]
      refine ap (f, u) [] w8 (kCl_le hw8).1 (fun q => ?_)
      obtain ⟨q1, q2⟩ := q
      injection q1 with _ q1
      obtain ⟨h56, -⟩ := j1.2.2.1 f hf u a hu2 ha
      have : ρ = [] := by
        obtain ⟨s, q2⟩ := q2
        cases ρ with
        | nil => rfl
        | cons _ _ => simp at q2
      subst this
      rw [q1, r1, show vt (x f).1 v = T from (show T = vt (x f).1 v from hw).symm] at h56
      exact absurd h56 (by rintro (q | q); exact s3 q; exact s4 q)) (fun w w4 hwS => l1.2.2.2.1 f hf w w4 hwS) (fun j hj => funext fun w => hf1 j w (fun q => hj (by injection q))) (fun w w4 hwS π t hm1 hq9 hk9 hfl9 => by
      rw [e1] at hq9 hfl9
      have hq9 : qW y (vt (x f).1 w) π t := hq9
      have hfl9 : fil2 f w (qA y z c2 (vt (x f).1 w) 0 π) := hfl9
      have i4 := qA_sh (z := z) (c := c2) (c2 := c) (a := 0) (b := 0) hq9 (qN_M hm1)
      have i5 := qA_sh (z := z) (c := c2) (c2 := fun _ => 0) (a := 0) (b := 0) hq9 (qN_M hm1)
      by_cases e : w = v
      · subst e
        rw [qUp_eq]
        by_cases c9 : lP ρ π
        · obtain ⟨τ, rfl⟩ := c9
          rw [qG_in]
          obtain ⟨T9, v1, v2⟩ := qW_cut hq9
          obtain rfl := qW_det hw v1
          exact (s2 τ t (qM_app.mp hm1).2 v2).1 hk9
        · rw [qG_out c9, ← hcv]
          rcases hf2 _ hfl9 with g | g
          · refine l1.2.2.2.2.2.2.2.1 f hf w w4 hwS π t hm1 (by rw [e1]; exact hq9) hk9 ?_
            rw [e1]
            show fil f w (qA y z c (vt (x f).1 w) 0 π)
            rw [show qA y z c (vt (x f).1 w) 0 π = qA y z c2 (vt (x f).1 w) 0 π by omega]
            exact g
          · refine absurd ?_ (qA_ap (c := fun _ => 0) (a := 0) hy.1 hw hq9 (qN_M hm) (qN_M hm1) c9 hk9 (fun κ ρ1 π1 g1 j1 g2 j2 q _ => ?_))
            · rw [show qA y z (fun _ => 0) (vt (x f).1 w) 0 π = qA y z c2 (vt (x f).1 w) 0 π by omega]
              exact g
            · have := hm (g1 + 2, j1) (by rw [q]; exact List.mem_append_right _ (List.mem_cons_self ..))
              exact absurd this (by show ¬ (g1 + 2 = 0); omega)
      · rw [qUp_ne (fun q => e (by injection q))]
        rw [hf1 f w (fun q => e (by injection q))] at hfl9
        refine l1.2.2.2.2.2.2.2.1 f hf w w4 hwS π t hm1 (by rw [e1]; exact hq9) hk9 ?_
        rw [e1]
        show fil f w (qA y z c (vt (x f).1 w) 0 π)
        rw [show qA y z c (vt (x f).1 w) 0 π = qA y z c2 (vt (x f).1 w) 0 π by omega]
        exact hfl9) (fun u π w u4 hw9 => by
      by_cases e : u = v
      · rw [e1, e]; exact hvt0
      · rw [qUp_ne (fun q => e (by injection q))] at hw9
        exact l1.2.2.2.2.2.2.2.2.1 f u π w u4 hw9)
    rw [hcv] at j2
    rw [e1, ← hx1, kUx2] at j2 l2
    exact ⟨_, _, _, j2, l2⟩
end
end
-- f0.sc.lean.txt
section
section
variable {y : qY} {z : qZ} {vt vo : Nat → Nat → Nat} {vc : Nat → Nat} {tb : Nat → lTb} {hp : Nat} {tk tk2 : Nat → Prop} {c c2 : Nat → Int} {f : Nat} {x : Nat → kFm} {rt ra : Nat × Nat → Nat} {V V2 : Nat × Nat → qV} {fb : Nat → Nat} {top : Nat} {fil fil2 : Nat → Nat → Nat → Prop} {v T o : Nat} {ρ σ : lLc} {os : List Nat}
/-- a value is put into a place behind a star -/
theorem kS_as2 (hy : kYs y z vt vo vc) (hz16 : ∀ t : Nat, z.1 t ≤ 16) (h : kS y z vt vo vc tb hp tk c f x fb top fil) {S : List tE} {m : Nat} (hS : (x f).2.1 = (0, T, m) :: S) (hn : (x f).2.2.1 = 0) (hno : ∀ r m : Nat, (5, r, m) ∉ S ∧ (6, r, m) ∉ S) (hT : T ≠ 0) (hv4 : v < 40) (hvS : (8, v, 0) ∈ S) (hw : plW y z (vt (x f).1 v) T ρ os o) (hfu : fuL y (klo (x f)) v ρ T) (hkv : (y.1 (vt (x f).1 v) = 5 ∨ y.1 (vt (x f).1 v) = 6) → kal (x f) v ∧ y.1 (vt (x f).1 v) = 6) (htop : top < 2 ^ 31) {al2 : Nat → Prop} {lo2 : Nat → lLc → Prop} (hal : ∀ u : Nat, al2 u → kal (x f) u) (hlo : ∀ (w : Nat) (π : lLc), klo (x f) w π → lo2 w π) (hk : lCk (tb (x f).1) (kH (x f)) (fun u => (u < 40 ∧ al2 u) ∨ (40 ≤ u ∧ u < 40 + wl S)) v ρ False) : ∃ (P : Nat → Nat → Int32 → Prop) (B : Nat → Prop), drC y z c hp top P B ∧ (∀ p : Int32, P T (rA c (fb f + vo (x f).1 v) os o) p) ∧ ∀ (tk2 : Nat → Prop) (c2 : Nat → Int), (∀ k : Nat, tk k → ¬ B k → tk2 k) → (∀ i : Nat, i < z.1 T → c2 (rA c (fb f + vo (x f).1 v) os o + i) = c (fb f + vc (x f).1 + khs z S + i)) → (∀ k : Nat, ¬ (rA c (fb f + vo (x f).1 v) os o ≤ k ∧ k < rA c (fb f + vo (x f).1 v) os o + z.1 T) → c2 k = c k) → kS y z vt vo vc tb hp tk2 c2 f (kUx x f ((x f).1, S, 0, kR (x f), kH (x f), al2, lo2, kAn (x f))) fb (fb f + vc (x f).1 + khs z S) fil := by
  obtain ⟨rt, ra, V, hJ, hL⟩ := h
  have hf := Nat.le_refl f
  have hk0 : kNm (0, T, m) := by unfold kNm; simp
  have hvS1 : (8, v, 0) ∈ (x f).2.1 := by rw [hS]; exact List.mem_cons_of_mem _ hvS
  obtain ⟨d, π, d1, d2, d3, d4, d5, d6, d7⟩ := pl_loc hy hJ hL hv4 hvS1 hw hfu (fun q => (hkv q).1) htop
  have wS : wl (x f).2.1 = wl S + 1 := by rw [hS, wl_n hk0]
  have wB := hJ.2.2.2.2.2.2.2.2 f hf
  have iv := hJ.2.1.1 f hf
  refine ⟨dPF y z c rt ra V (fun r τ => r = d ∧ lP π τ), drB y z c rt ra V (fun r τ => r = d ∧ lP π τ), dr_ok hy.1 hz16 hL.1 (fun r π w => kLt hy hJ hL) (fun r π σ q => ⟨q.1, lP_tr q.2 (lP_app _ _)⟩), fun p => ?_, fun tk2 c2 htk hc1 hc2 => ?_⟩
  · rw [← d4]
    exact dP_full (DS := fun r τ => r = d ∧ lP π τ) ⟨rfl, lP_rf π⟩ d2 d3
  · rw [← d4] at hc1 hc2
    obtain ⟨σ0, w0, hpl⟩ := qF_pl d3
    have ap : ∀ (r : Nat × Nat) (τ : lLc) (w : Nat × Nat), V r τ = some w → ¬ (r = d ∧ lP π τ) → ¬ (qA y z c (rt d) (ra d) π ≤ qA y z c (rt r) (ra r) τ ∧ qA y z c (rt r) (ra r) τ < qA y z c (rt d) (ra d) π + z.1 T) := fun r τ w hw9 hn9 => by
      obtain ⟨t9, g9⟩ := w
      exact qOwn hy.1 hL.1 hpl d2 hw9 (fun q => hn9 ⟨q.1.symm, q.2⟩)
    have hsW : qOk y T (V (f, 40 + wl S)) ∧ qF y (V (f, 40 + wl S)) [] T := by
      have hK := hJ.2.2.2.2.1 f hf
      rw [hS] at hK
      obtain ⟨⟨k1, k2, k3, k4, k5⟩, -⟩ := hK
      refine ⟨?_, (k4 hT).2⟩
      rw [← (k4 hT).1]; exact hL.1.1 _
    obtain ⟨q, s1, s2, s3, s4⟩ := qMm_asg (c2 := c2) (tk2 := tk2) hy hJ hL hS hT d1 d2 (qOk_G (hL.1.1 _) d2 ⟨σ0, w0, hpl⟩ hsW) (fun ρ1 j ρ2 e => by
      subst e
      exact qPl_par (hL.1.1 d) (qF_pl d3)) ap (hL.1.2.2.2.1 d _ _ hpl) (fun r τ w hr hw9 => hL.1.2.2.2.2 r d τ _ w w0 hr hw9 hpl) hc1 hc2 htk
    -- less is looked at
    have J0 := kJ_wk2 (H2 := kH (x f)) (al2 := fun u => al2 u ∨ (u = v ∧ kal (x f) v)) (lo2 := klo (x f)) hJ hn (fun _ _ _ _ _ q => q) (fun u q => q.elim (hal u) (fun q => by rw [q.1]; exact q.2)) (fun _ _ _ _ q => q)
    have L0 := kL_wk (H2 := kH (x f)) (al2 := fun u => al2 u ∨ (u = v ∧ kal (x f) v)) (lo2 := klo (x f)) hJ hL hn (fun u q => q.elim (hal u) (fun q => by rw [q.1]; exact q.2))
    generalize hx0 : kUx x f ((x f).1, (x f).2.1, 0, kR (x f), kH (x f), (fun u => al2 u ∨ (u = v ∧ kal (x f) v)), klo (x f), kAn (x f)) = x0 at J0 L0
    have e0 : x0 f = ((x f).1, (x f).2.1, 0, kR (x f), kH (x f), (fun u => al2 u ∨ (u = v ∧ kal (x f) v)), klo (x f), kAn (x f)) := by rw [← hx0, kUx_eq]
    have hE1 : ∀ e : tE, e ∈ [(0, T, m)] → kNm e := fun e he => by rw [List.mem_singleton.mp he]; exact hk0
    have hS0 : (x0 f).2.1 = [(0, T, m)] ++ S := by rw [e0]; exact hS
    have j1 := kJ_pop J0 hS0 hE1 (by rw [e0])
    have l1 := kL_pop J0 L0 hS0 hE1 (by rw [e0]) (qMm_cl hL.1)
    generalize hx1 : kUx x0 f ((x0 f).1, S, 0, kR (x0 f), kH (x0 f), kal (x0 f), klo (x0 f), kAn (x0 f)) = x1 at j1 l1
    have e1 : x1 f = ((x f).1, S, 0, kR (x f), kH (x f), (fun u => al2 u ∨ (u = v ∧ kal (x f) v)), klo (x f), kAn (x f)) := by
      rw [← hx1, kUx_eq, e0]; rfl
    have xo : ∀ j : Nat, j ≠ f → x1 j = x j := fun j hj => by rw [← hx1, kUx_ne hj, ← hx0, kUx_ne hj]
    have hcv : kCl V f (wl S) d = V d := kCl_ge (fun g => by have := g.2.1; omega)
    have ha : ∀ (j u : Nat) (b : lLc), j ≤ f → kA (x1 j) u → kR (x1 j) u = some b → lCmp b (d :: π) → lP b (d :: π) := fun j u b hj hu hb hcm => by
      by_cases e : j = f
      · subst e
        rw [e1] at hu hb
        have hb : kR (x j) u = some b := hb
        have hA2 : ∀ u : Nat, ((u < 40 ∧ al2 u) ∨ (40 ≤ u ∧ u < 40 + wl S)) → kA (x j) u := fun u hu => by
          rcases hu with ⟨a, b⟩ | ⟨a, b⟩
          · exact Or.inl ⟨a, hal u b⟩
          · exact Or.inr ⟨a, by omega⟩
        have hu2 : ((u < 40 ∧ al2 u) ∨ (40 ≤ u ∧ u < 40 + wl S)) ∨ (u = v ∧ kal (x j) v) := by
          rcases hu with ⟨a, b⟩ | ⟨a, b⟩
          · rcases b with b | b
            · exact Or.inl (Or.inl ⟨a, b⟩)
            · exact Or.inr b
          · exact Or.inl (Or.inr ⟨a, b⟩)
        rcases d7 with ⟨rfl, rfl, n5, n6⟩ | ⟨π0, ρ2, g1, rfl, rfl, h56, g2⟩
        · rcases hu2 with hu2 | ⟨rfl, hu2⟩
          · exact absurd (lAc_var iv hA2 hk hu2 hb hcm).1 id
          · obtain ⟨h56, -⟩ := hJ.2.2.1 j hf u b (Or.inl ⟨hv4, hu2⟩) hb
            rw [(hJ.2.2.2.2.2.2.1 j hf u hv4 hvS1).1] at h56
            exact absurd h56 (by rintro (q | q); exact n5 q; exact n6 q)
        · by_cases euv : u = v
          · rw [euv, g1] at hb
            injection hb with hb
            rw [← hb]
            exact lP_app (d :: π0) ρ2
          · rcases hu2 with hu2 | ⟨q, -⟩
            · have hun : y.1 (rt (j, v)) = 6 := by rw [(hJ.2.2.2.2.2.2.1 j hf v hv4 hvS1).1]; exact (hkv h56).2
              rcases lAc_ref iv hA2 (Or.inl ⟨hv4, (hkv h56).1⟩) g1 hk hu2 euv hb (Or.inr hun) hcm with q | q
              · exact absurd q.1 id
              · exact lP_tr (lRt_up q) (lP_app (d :: π0) ρ2)
            · exact absurd q euv
      · rw [xo j e] at hu hb
        rcases d7 with ⟨rfl, rfl, n5, n6⟩ | ⟨π0, ρ2, g1, rfl, rfl, h56, g2⟩
        · obtain ⟨j2, w, r, e8, e9⟩ := lIv_fr (hJ.2.1.1 j hj) hu hb
          rw [e8] at hcm
          obtain ⟨e7, -⟩ := lCmp_cons hcm
          injection e7 with e7 _
          omega
        · have hun : y.1 (rt (f, v)) = 6 := by rw [(hJ.2.2.2.2.2.2.1 f hf v hv4 hvS1).1]; exact (hkv h56).2
          have := kUp hJ.2.1 (r := v) (b := d :: π0) (Or.inl ⟨hv4, (hkv h56).1⟩) g1 hun (j := j) (by omega) hu hb (lCmp_sym (lCmp_pre (lP_app (d :: π0) ρ2) (lCmp_sym hcm)))
          exact lP_tr this (lP_app (d :: π0) ρ2)
    have j2 := kJ_as2 j1 d1 (by rw [e1]; exact hno) d2 (by rw [hcv]; exact d3) hsW ⟨s3, s4⟩ ha
    have l2 := kL_as2 (tk2 := tk2) (c2 := c2) j1 l1 d1 (by rw [e1]; exact hno) d2 (by rw [hcv]; exact d3) hsW ⟨s3, s4⟩ ha (by rw [hcv]; exact q) (fun r τ w hw9 hn9 => hc2 _ (ap r τ w (kCl_le hw9).1 hn9))
    have j3 := kJ_wk2 (H2 := kH (x f)) (al2 := al2) (lo2 := lo2) j2 (by rw [e1]) (by rw [e1]; exact fun _ _ _ _ _ q => q) (by rw [e1]; exact fun u q => Or.inl q) (by rw [e1]; exact fun w π _ _ q => hlo w π q)
    have l3 := kL_wk (H2 := kH (x f)) (al2 := al2) (lo2 := lo2) j2 l2 (by rw [e1]) (by rw [e1]; exact fun u q => Or.inl q)
    have ex : kUx x1 f ((x1 f).1, (x1 f).2.1, 0, kR (x1 f), kH (x f), al2, lo2, kAn (x1 f)) = kUx x f ((x f).1, S, 0, kR (x f), kH (x f), al2, lo2, kAn (x f)) := by
      rw [e1, ← hx1, kUx2, ← hx0, kUx2]; rfl
    rw [ex] at j3 l3
    rw [show (x0 f).1 = (x f).1 by rw [e0]] at l3
    exact ⟨_, _, _, j3, l3⟩
/-- a reference is put into its variable anew -/
theorem kS_asR (hy : kYs y z vt vo vc) (h : kS y z vt vo vc tb hp tk c f x fb top fil) {k U m : Nat} {S : List tE} (hS : (x f).2.1 = (k, U, m) :: S) (hn : (x f).2.2.1 = 0) (hno : ∀ r m : Nat, (5, r, m) ∉ S ∧ (6, r, m) ∉ S) (hU : U < 10000) (hkt : (k = 1 ∧ vt (x f).1 v = 10000 + 2 * U) ∨ (k = 2 ∧ vt (x f).1 v = 10001 + 2 * U)) (hv4 : v < 40) (hvS : (8, v, 0) ∈ S) {al2 : Nat → Prop} {lo2 : Nat → lLc → Prop} (hal : ∀ u : Nat, u ≠ v → al2 u → kal (x f) u) (hlo : ∀ (w : Nat) (π : lLc), w ≠ v → ¬ lo2 w π → ¬ klo (x f) w π) (hc1 : c2 (fb f + vo (x f).1 v) = c (fb f + vc (x f).1 + khs z S)) (hc2 : ∀ k : Nat, k ≠ fb f + vo (x f).1 v → c2 k = c k) (hf1 : ∀ j w : Nat, (j, w) ≠ (f, v) → fil2 j w = fil j w) : ∃ a : lLc, kS y z vt vo vc tb hp tk c2 f (kUx x f ((x f).1, S, 0, lUp (kR (x f)) v (some a), lUp (kH (x f)) v (kH (x f) (40 + wl S)), al2, lo2, kAn (x f))) fb (fb f + vc (x f).1 + khs z S) fil2 := by
  obtain ⟨rt, ra, V, hJ, hL⟩ := h
  have hf := Nat.le_refl f
  have hcr := hy.2.2.2.1 U hU
  have hk0 : kNm (k, U, m) := by
    rcases hkt with ⟨rfl, -⟩ | ⟨rfl, -⟩ <;> (unfold kNm; simp)
  have hvS1 : (8, v, 0) ∈ (x f).2.1 := by rw [hS]; exact List.mem_cons_of_mem _ hvS
  have rv1 := (hJ.2.2.2.2.2.2.1 f hf v hv4 hvS1).1
  have hrv : ra (f, v) = fb f + vo (x f).1 v := hL.2.2.2.1 f hf v hv4 hvS1
  have hK := hJ.2.2.2.2.1 f hf
  rw [hS] at hK
  have hK1 : rt (f, 40 + wl S) = vt (x f).1 v ∧ ∃ w : Nat × Nat, V (f, 40 + wl S) [] = some w := by
    rcases hkt with ⟨rfl, e⟩ | ⟨rfl, e⟩
    · rw [e]; exact hK.1
    · rw [e]; exact hK.1
  obtain ⟨r1, ⟨t9, g9⟩, r2⟩ := hK1
  have h56 : (y.1 (vt (x f).1 v) = 5 ∨ y.1 (vt (x f).1 v) = 6) ∧ y.2.1 (vt (x f).1 v) = U ∧ vt (x f).1 v ≠ 0 ∧ z.1 (vt (x f).1 v) = 1 := by
    rcases hkt with ⟨-, e⟩ | ⟨-, e⟩
    · rw [e]; exact ⟨Or.inl hcr.1, hcr.2.1, by omega, (hy.2.1.2 U).1⟩
    · rw [e]; exact ⟨Or.inr hcr.2.2.1, hcr.2.2.2, by omega, (hy.2.1.2 U).2⟩
  obtain ⟨h56, eU, hv0, hz1⟩ := h56
  have hA := hL.2.2.1 f hf
  rw [hS] at hA
  have a1 : ra (f, 40 + wl S) = fb f + vc (x f).1 + khs z S := by
    rcases hkt with ⟨rfl, -⟩ | ⟨rfl, -⟩
    · exact hA.1
    · exact hA.1
  have wS : wl (x f).2.1 = wl S + 1 := by rw [hS, wl_n hk0]
  have wB := hJ.2.2.2.2.2.2.2.2 f hf
  have ht := kTopF hL
  have hWk : qOk y (vt (x f).1 v) (V (f, 40 + wl S)) := by rw [← r1]; exact hL.1.1 _
  have e9 : t9 = vt (x f).1 v := (hWk.1 [] t9 g9 r2).1
  have hks : kA (x f) (40 + wl S) := Or.inr ⟨by omega, by omega⟩
  obtain ⟨a, ea⟩ := hJ.2.2.2.1 f hf (40 + wl S) t9 g9 r2 (by rw [e9]; exact h56) hks
  obtain ⟨-, htg⟩ := hJ.2.2.1 f hf (40 + wl S) a hks ea
  rw [r1, eU] at htg
  have hla := hL.2.1 f hf (40 + wl S) a (Or.inl hks) ea ⟨_, r2⟩
  have ap : ∀ (r : Nat × Nat) (π : lLc) (w : Nat × Nat), V r π = some w → r ≠ (f, v) → qA y z c (rt r) (ra r) π ≠ fb f + vo (x f).1 v := fun r π w hw hr e => by
    have := qFresh (n := 1) (a := fb f + vo (x f).1 v) hy.1 hL.1 (by omega) hw (by rw [← hz1]; exact kVarAp hy hJ hL hv4 hv0 hw hr)
    omega
  have hsd : ((f, 40 + wl S) : Nat × Nat) ≠ (f, v) := fun q => by injection q with _ q; omega
  have fullW : ∀ (π : lLc) (t : Nat), qW y (vt (x f).1 v) π t → π = [] ∧ t = vt (x f).1 v := fun π t g2 => by
    cases π with
    | nil => exact ⟨rfl, g2⟩
    | cons s π =>
      obtain ⟨q, i⟩ := s
      match q, g2 with
      | 0, g2 => exact absurd g2.1 (by rcases h56 with h | h <;> rw [h] <;> decide)
      | 1, g2 => exact absurd g2.2.1 (by rcases h56 with h | h <;> rw [h] <;> decide)
      | g + 2, g2 => exact absurd g2.1 (by rcases h56 with h | h <;> rw [h] <;> decide)
  have q := qMv (c2 := c2) hy.1 hL.1 (s := (f, 40 + wl S)) (d := (f, v)) (σ := []) (ρ := []) (T1 := vt (x f).1 v) (Vs := fun _ => none) hsd r1.symm rv1.symm qOk_none (fun π w hw => by simp at hw) (by
      rw [qG_nil, rv1]; exact hWk) (fun ρ1 j ρ2 e9 => by simp at e9) (fun r π w hw hn9 _ => by
      have hr : r ≠ (f, v) := fun e => hn9 ⟨e, π, rfl⟩
      show ¬ (ra (f, v) ≤ _ ∧ _ < ra (f, v) + _)
      rw [hrv, hz1]
      have := ap r π w hw hr
      omega) (by
      show ∀ k : Nat, ¬ (ra (f, v) ≤ k ∧ k < ra (f, v) + _) → _
      rw [hrv, hz1]
      intro k hk
      exact hc2 k (by omega)) (by
      rw [hz1]
      intro i hi
      obtain rfl : i = 0 := by omega
      show c2 (ra (f, v) + 0) = c (ra (f, 40 + wl S) + 0)
      rw [Nat.add_zero, Nat.add_zero, hrv, a1]
      exact hc1) (by rw [hrv]; omega) (fun r π w hr hw => by
      rw [hrv, rv1]
      by_cases e9 : r = (f, 40 + wl S)
      · rw [e9, qUp_eq] at hw; simp at hw
      · rw [qUp_ne e9] at hw
        exact kVarAp hy hJ hL hv4 hv0 hw hr)
  have ev : qUp (kCl V f (wl S)) (f, v) (V (f, 40 + wl S)) = qUp (qUp V (f, 40 + wl S) (fun _ => none)) (f, v) (qG (V (f, v)) [] (qS (V (f, 40 + wl S)) [])) := funext fun r => by
    by_cases e9 : r = (f, v)
    · rw [e9, qUp_eq, qUp_eq, qG_nil]; rfl
    · rw [qUp_ne e9, qUp_ne e9]
      have := congrFun (kCl_one hJ (W := fun _ => none) hS hk0) r
      by_cases e8 : r = (f, 40 + wl S)
      · rw [e8, qUp_eq]
        exact kCl_ze ⟨rfl, Nat.le_refl _, by show 40 + wl S < 300; omega⟩
      · rw [qUp_ne e8]
        rw [qUp_ne e8, qUp_ne e8] at this
        exact this
  rw [← ev] at q
  have hE1 : ∀ e : tE, e ∈ [(k, U, m)] → kNm e := fun e he => by rw [List.mem_singleton.mp he]; exact hk0
  have j1 := kJ_pop hJ (E := [(k, U, m)]) (S := S) hS hE1 hn
  have l1 := kL_pop hJ hL (E := [(k, U, m)]) (S := S) hS hE1 hn (qMm_cl hL.1)
  generalize hx1 : kUx x f ((x f).1, S, 0, kR (x f), kH (x f), kal (x f), klo (x f), kAn (x f)) = x1 at j1 l1
  have e1 : x1 f = ((x f).1, S, 0, kR (x f), kH (x f), kal (x f), klo (x f), kAn (x f)) := by rw [← hx1, kUx_eq]
  obtain ⟨b1, b2⟩ := lBw_pop (A2 := fun u => ((u < 40 ∧ al2 u) ∨ (40 ≤ u ∧ u < 40 + wl S)) ∧ u ≠ v) (t := v) (un := y.1 (vt (x f).1 v) = 6) (hd := kH (x f) (40 + wl S)) (hJ.2.1.1 f hf) (fun u hu => by
    obtain ⟨hu, hne⟩ := hu
    rcases hu with ⟨g1, g2⟩ | ⟨g1, g2⟩
    · exact ⟨Or.inl ⟨g1, hal u hne g2⟩, by omega⟩
    · exact ⟨Or.inr ⟨g1, by omega⟩, by omega⟩) (by omega) hks ea (fun q => by show y.1 (rt (f, 40 + wl S)) = 6; rw [r1]; exact q) (fun l q => q) (lP_rf a)
  have htg2 : qTg y rt (kCl V f (wl S)) a U := qTg_eq htg (fun r π _ _ hr => ⟨kCl_ge (fun g => by omega), rfl⟩)
  have j2 := kJ_set (v := v) (S2 := S) (W := V (f, 40 + wl S)) (ro := some a) (hd := kH (x f) (40 + wl S)) (al2 := al2) (lo2 := lo2) hy.2.2.2.2 j1 (by rw [e1]) hv4 (by rw [e1]; exact hno) (Or.inr ⟨by rw [e1], by rw [e1]; exact hvS, by rw [e1]; exact h56⟩) (by rw [e1]; exact hWk) (by rw [e1]; exact hal) (by rw [e1]; exact hlo) (by
    rw [e1]
    intro π t g1 g2 _
    obtain ⟨rfl, rfl⟩ := fullW π t g2
    exact ⟨fun _ => ⟨_, r2⟩, fun q => absurd q (by rcases h56 with h | h <;> rw [h] <;> decide)⟩) (Or.inr ⟨a, rfl, by rw [e1]; exact b1, by
      rw [e1]
      exact fun u hu hne => b2 u ⟨hu, hne⟩, by
      rw [e1]
      show qTg y rt (kCl V f (wl S)) a (y.2.1 (vt (x f).1 v))
      rw [eU]
      exact htg2, by rw [e1]; exact h56⟩)
  have noV : ∀ (b : lLc) (W9 : Nat × Nat → qV) (T9 : Nat), qTg y rt W9 b T9 → y.1 T9 ≠ 5 → y.1 T9 ≠ 6 → ∀ (r : Nat × Nat) (π : lLc), b = r :: π → r ≠ (f, v) := fun b W9 T9 hb n5 n6 r π e er => by
    obtain ⟨r3, π3, e3, -, w3, -⟩ := hb
    rw [e] at e3
    injection e3 with e3 e4
    rw [← e3, er, rv1] at w3
    obtain ⟨-, e5⟩ := fullW π3 T9 w3
    rw [e5] at n5 n6
    exact h56.elim n5 n6
  have adr : ∀ (b : lLc) (T9 : Nat), qTg y rt (kCl V f (wl S)) b T9 → y.1 T9 ≠ 5 → y.1 T9 ≠ 6 → qAd y z c2 rt ra b = qAd y z c rt ra b := fun b T9 hb n5 n6 => qAd_pl j1.1 hb (fun _ _ _ => ⟨rfl, rfl⟩) (fun r π π1 w eb hw9 _ _ => hc2 _ (ap r π1 w (kCl_le hw9).1 (noV b _ T9 hb n5 n6 r π eb)))
  have tgn : ∀ (j u : Nat) (b : lLc), j ≤ f → kA (x1 j) u → kR (x1 j) u = some b → qAd y z c2 rt ra b = qAd y z c rt ra b := fun j u b hj hu hb => by
    obtain ⟨g1, g2⟩ := j1.2.2.1 j hj u b hu hb
    obtain ⟨n5, n6⟩ := hy.2.2.2.2 _ g1
    exact adr b _ g2 n5 n6
  rw [e1] at j2
  have j2 : kJ y vt tb f (kUx x1 f ((x f).1, S, 0, lUp (kR (x f)) v (some a), lUp (kH (x f)) v (kH (x f) (40 + wl S)), al2, lo2, kAn (x f))) (qRt rt (f, v) (vt (x f).1 v)) (qUp (kCl V f (wl S)) (f, v) (V (f, 40 + wl S))) := j2
  rw [qRt_id rv1] at j2
  have l2 := kL_var (c2 := c2) (tk2 := tk) (rt2 := rt) (ra2 := ra) (V2 := qUp (kCl V f (wl S)) (f, v) (V (f, 40 + wl S))) (S2 := (x1 f).2.1) (R2 := lUp (kR (x1 f)) v (some a)) (H2 := lUp (kH (x f)) v (kH (x f) (40 + wl S))) (al2 := al2) (lo2 := lo2) (fil2 := fil2) j1 l1 (by rw [e1]) (fun j u g => ⟨rfl, rfl, qUp_ne (fun q => by injection q with q1 q2; omega)⟩) (fun u hu => lUp_ne (by omega)) ⟨[], fun e he => by simp at he, Or.inl rfl⟩ (by rw [e1]; exact hno) q (fun j u w g hw9 => hc2 _ (ap (j, u) [] w (kCl_le hw9).1 (fun q => by injection q with q1 q2; omega))) (fun j u b hj hu hb _ => tgn j u b hj hu hb) (fun u b u4 hu hb hw9 => by
    by_cases e : u = v
    · rw [e] at hb ⊢
      rw [lUp_eq] at hb
      injection hb with hb
      rw [← hb]
      obtain ⟨n5, n6⟩ := hy.2.2.2.2 _ h56
      rw [eU] at n5 n6
      rw [adr a U htg2 n5 n6, hrv, hc1, ← a1]
      exact hla
    · rw [lUp_ne e] at hb
      obtain ⟨w, hw9⟩ := hw9
      rw [qUp_ne (fun q => e (by injection q))] at hw9
      have hu2 : kA (x1 f) u := Or.inl ⟨u4, by rw [e1]; exact hal u e hu⟩
      rw [tgn f u b hf hu2 hb, ← l1.2.1 f hf u b (Or.inl hu2) hb ⟨w, hw9⟩]
      exact hc2 _ (ap (f, u) [] w (kCl_le hw9).1 (fun q => e (by injection q)))) (fun w w4 hwS => l1.2.2.2.1 f hf w w4 hwS) (fun j hj => funext fun w => hf1 j w (fun q => hj (by injection q))) (fun w w4 hwS π t hm1 hq9 hk9 hfl9 => by
    rw [e1] at hq9 hfl9
    have hq9 : qW y (vt (x f).1 w) π t := hq9
    have hfl9 : fil2 f w (qA y z c2 (vt (x f).1 w) 0 π) := hfl9
    have i4 := qA_sh (z := z) (c := c2) (c2 := c) (a := 0) (b := 0) hq9 (qN_M hm1)
    by_cases e : w = v
    · subst e
      rw [qUp_eq]
      obtain ⟨rfl, rfl⟩ := fullW π t hq9
      exact ⟨_, r2⟩
    · rw [qUp_ne (fun q => e (by injection q))]
      rw [hf1 f w (fun q => e (by injection q))] at hfl9
      refine l1.2.2.2.2.2.2.2.1 f hf w w4 hwS π t hm1 (by rw [e1]; exact hq9) hk9 ?_
      rw [e1]
      show fil f w (qA y z c (vt (x f).1 w) 0 π)
      rw [show qA y z c (vt (x f).1 w) 0 π = qA y z c2 (vt (x f).1 w) 0 π by omega]
      exact hfl9) (fun u π w u4 hw9 => by
    by_cases e : u = v
    · rw [e1, e]; exact hv0
    · rw [qUp_ne (fun q => e (by injection q))] at hw9
      exact l1.2.2.2.2.2.2.2.2.1 f u π w u4 hw9)
  rw [e1] at l2
  have l2 : kL y z vt vo vc hp tk c2 f (kUx x1 f ((x f).1, S, 0, lUp (kR (x f)) v (some a), lUp (kH (x f)) v (kH (x f) (40 + wl S)), al2, lo2, kAn (x f))) rt ra (qUp (kCl V f (wl S)) (f, v) (V (f, 40 + wl S))) fb (fb f + vc (x f).1 + khs z S) fil2 := l2
  rw [← hx1, kUx2] at j2 l2
  exact ⟨a, _, _, _, j2, l2⟩
end
end
