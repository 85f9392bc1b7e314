section
variable {y : qY} {z : qZ} {vt vo : Nat → Nat → Nat} {vc : Nat → Nat} {tb : Nat → lTb} {hp : Nat} {tk tk2 : Nat → Prop} {c c2 : Nat → Int} {f : Nat} {x : Nat → kFm} {rt ra : Nat × Nat → Nat} {V V2 : Nat × Nat → qV} {fb : Nat → Nat} {top : Nat} {fil fil2 : Nat → Nat → Nat → Prop} {v T o : Nat} {ρ σ : lLc} {os : List Nat}
/-- return of a reference -/
theorem kS_retR (hy : kYs y z vt vo vc) (hz16 : ∀ t : Nat, z.1 t ≤ 16) (h : kS y z vt vo vc tb hp tk c (f + 1) x fb top fil) {k U m t n : Nat} {ou : Nat → Nat} {O : List tE} (hS : (x (f + 1)).2.1 = (k, U, m) :: O) (hO : ∀ a : tE, a ∈ O → ∃ v : Nat, a = (8, v, 0)) (hl : wl (x f).2.1 < 211) (hU : U < 10000) (hkt : (k = 1 ∧ t = 10000 + 2 * U) ∨ (k = 2 ∧ t = 10001 + 2 * U)) (hxn : (x f).2.2.1 = n) (hAn : kAn (x (f + 1)) = kAo y (vt (x (f + 1)).1) (kR (x f)) (wl (x f).2.1) n ou) (hx1 : (x (f + 1)).2.2.1 = 0) {al2 : Nat → Prop} {lo2 : Nat → lLc → Prop} {hd : Nat → Prop} (hal : ∀ u : Nat, al2 u → kal (x f) u) (hlo : ∀ (w : Nat) (π : lLc), ¬ lo2 w π → ¬ klo (x f) w π) (hck : ∀ l : Nat, kH (x (f + 1)) 40 l → ¬ (tb (x (f + 1)).1).2.2.2.1 l → (8, (tb (x (f + 1)).1).1 l, 0) ∈ O → (tb (x (f + 1)).1).2.2.2.2 ((tb (x (f + 1)).1).1 l)) (hcl : ∀ i : Nat, i < n → kH (x (f + 1)) 40 (ou i) → ∀ l : Nat, kH (x f) (40 + wl (x f).2.1 + i) l → hd l) : ∃ (P : Nat → Nat → Int32 → Prop) (B : Nat → Prop), drC y z c hp top P B ∧ (∀ (v : Nat) (p : Int32), v < 40 → (8, v, 0) ∈ (x (f + 1)).2.1 → (∀ k : Nat, k < 16 → ibit p k = true → fil (f + 1) v k) → P (vt (x (f + 1)).1 v) (fb (f + 1) + vo (x (f + 1)).1 v) p) ∧ ∀ (tk2 : Nat → Prop) (c2 : Nat → Int) (fil2 : Nat → Nat → Nat → Prop), (∀ k : Nat, tk k → ¬ B k → tk2 k) → c2 (fb (f + 1)) = c (fb (f + 1) + vc (x (f + 1)).1) → (∀ k : Nat, k ≠ fb (f + 1) → c2 k = c k) → (∀ j : Nat, j ≤ f → fil2 j = fil j) → ∃ a : lLc, kS y z vt vo vc tb hp tk2 c2 f (kUx x f ((x f).1, (k, U, 0) :: (x f).2.1, 0, lUp (kR (x f)) (40 + wl (x f).2.1) (some a), lUp (kH (x f)) (40 + wl (x f).2.1) hd, al2, lo2, kAn (x f))) fb (fb (f + 1) + 1) fil2 := by
  obtain ⟨rt, ra, V, hJ, hL⟩ := h
  have hf := Nat.le_refl (f + 1)
  have hcr := hy.2.2.2.1 U hU
  have hk0 : kNm (k, U, m) := by
    rcases hkt with ⟨rfl, -⟩ | ⟨rfl, -⟩ <;> (unfold kNm; simp)
  have hk1 : kNm (k, U, 0) := by
    rcases hkt with ⟨rfl, -⟩ | ⟨rfl, -⟩ <;> (unfold kNm; simp)
  have wO : wl O = 0 := wl_8 hO
  have wS : wl (x (f + 1)).2.1 = 1 := by rw [hS, wl_n hk0, wO]
  have h56 : (y.1 t = 5 ∨ y.1 t = 6) ∧ y.2.1 t = U ∧ z.1 t = 1 := by
    rcases hkt with ⟨-, e⟩ | ⟨-, e⟩
    · rw [e]; exact ⟨Or.inl hcr.1, hcr.2.1, (hy.2.1.2 U).1⟩
    · rw [e]; exact ⟨Or.inr hcr.2.2.1, hcr.2.2.2, (hy.2.1.2 U).2⟩
  obtain ⟨h56, eU, hz1⟩ := h56
  have hK := hJ.2.2.2.2.1 (f + 1) hf
  rw [hS] at hK
  have hK1 : rt (f + 1, 40) = t ∧ ∃ w : Nat × Nat, V (f + 1, 40) [] = some w := by
    have q := hK.1
    rw [wO] at q
    rcases hkt with ⟨rfl, e⟩ | ⟨rfl, e⟩
    · rw [e]; exact q
    · rw [e]; exact q
  obtain ⟨r1, ⟨t9, g9⟩, r2⟩ := hK1
  have hA := hL.2.2.1 (f + 1) hf
  rw [hS] at hA
  have a1 : ra (f + 1, 40) = fb (f + 1) + vc (x (f + 1)).1 := by
    have q := hA.1
    rw [wO, khs_8 hO] at q
    rcases hkt with ⟨rfl, -⟩ | ⟨rfl, -⟩
    · exact q
    · exact q
  have hWk : qOk y t (V (f + 1, 40)) := by rw [← r1]; exact hL.1.1 _
  have e9 : t9 = t := (hWk.1 [] t9 g9 r2).1
  have hks : kA (x (f + 1)) 40 := Or.inr ⟨by omega, by omega⟩
  obtain ⟨a, ea⟩ := hJ.2.2.2.1 (f + 1) hf 40 t9 g9 r2 (by rw [e9]; exact h56) hks
  obtain ⟨-, htg⟩ := hJ.2.2.1 (f + 1) hf 40 a hks ea
  have htg : qTg y rt V a (y.2.1 (rt (f + 1, 40))) := htg
  rw [r1] at htg
  have hla := hL.2.1 (f + 1) hf 40 a (Or.inl hks) ea ⟨_, r2⟩
  obtain ⟨p1, p2⟩ := kS_vdr hy hz16 hJ hL
  refine ⟨_, _, p1, p2, fun tk2 c2 fil2 htk hc1 hc2 hfl => ?_⟩
  obtain ⟨q, hc⟩ := qMm_ret (tk2 := tk2) (c2 := c2) hy hJ hL hS hk0 hO hl r1 a1 htk (by
    rw [hz1]
    intro i hi
    obtain rfl : i = 0 := by omega
    exact hc1) (by
    rw [hz1]
    intro k hk
    exact hc2 k (by omega))
  have ok := (hJ.2.1.1 (f + 1) hf).1 40 a hks ea
  have key : ∃ (i : Nat) (e : lLc) (q : Nat), i < n ∧ kH (x (f + 1)) 40 (ou i) ∧ kR (x f) (40 + wl (x f).2.1 + i) = some e ∧ lP e a ∧ (y.1 t = 6 → y.1 (rt (f, 40 + wl (x f).2.1 + i)) = 6) ∧ lUn (f + 1) e := by
    rcases ok with ⟨l, n1, n2, n3, n4, n5⟩ | ⟨o, e, q, o1, o2, o3, o4, o5, o6⟩
    · exfalso
      obtain ⟨s, n4⟩ := n4
      obtain ⟨d, π, e1, d1, d2, d3⟩ := htg
      rw [n4] at e1
      have e1 : (f + 1, (tb (x (f + 1)).1).1 l) :: ((tb (x (f + 1)).1).2.1 l ++ s) = d :: π := e1
      injection e1 with e1 e2
      obtain ⟨σ, w, hw⟩ := qF_pl d3
      rw [← e1] at hw d1
      obtain ⟨-, kr, -⟩ := hJ.2.2.2.2.2.1 (f + 1) _ _ w hw
      have d1 : (tb (x (f + 1)).1).1 l < 40 := d1
      have hin : (8, (tb (x (f + 1)).1).1 l, 0) ∈ (x (f + 1)).2.1 := by
        rcases kr with ⟨-, kr⟩ | ⟨k1, k2⟩ | ⟨k1, -⟩ | ⟨r, m, i, -, k1, -⟩
        · exact kr
        · omega
        · omega
        · omega
      rw [hS] at hin
      rcases List.mem_cons.mp hin with g | g
      · exact hk0 (Or.inl (by rw [← g]))
      · exact n3 (hck l n2 n1 g)
    · have o3' := o3
      have o3' : kAn (x (f + 1)) o e q := o3'
      rw [hAn] at o3'
      obtain ⟨i, i1, i2, i3, i4⟩ := o3'
      refine ⟨i, e, q, i1, by rw [← i2]; exact o2, i3, o4, fun h6 => ?_, o6⟩
      have q1 : q = 1 := o5 (by show y.1 (rt (f + 1, 40)) = 6; rw [r1]; exact h6)
      obtain ⟨t', t40, tA, tR, tU⟩ := hJ.2.1.2.2 f (by omega) o e q o3
      have tU := tU q1
      by_cases et : t' = 40 + wl (x f).2.1 + i
      · rw [← et]; exact tU
      · exfalso
        have twA : (kfr y rt f (x f)).2.1 (40 + wl (x f).2.1 + i) := Or.inr ⟨by omega, by omega⟩
        rcases (hJ.2.1.1 f (by omega)).2 t' (40 + wl (x f).2.1 + i) e e et tA twA tR i3 (Or.inl tU) (Or.inl (lP_rf e)) with g | g
        · have := g.1; omega
        · have := g.1; omega
  obtain ⟨i, e, q9, i1, i2, i3, i4, i5, i6⟩ := key
  have hbw := lBw_res (A2 := fun u => (u < 40 ∧ al2 u) ∨ (40 ≤ u ∧ u < 40 + wl (x f).2.1)) (t := 40 + wl (x f).2.1) (w := 40 + wl (x f).2.1 + i) (c := a) (un := y.1 t = 6) (hd := hd) (hJ.2.1.1 f (by omega)) (fun u hu => by
    rcases hu with ⟨g1, g2⟩ | ⟨g1, g2⟩
    · exact ⟨Or.inl ⟨g1, hal u g2⟩, by omega⟩
    · exact ⟨Or.inr ⟨g1, by omega⟩, by omega⟩) (by omega) (Or.inr ⟨by omega, by omega⟩) i3 i5 (hcl i i1 i2) i4
  obtain ⟨b1, b2⟩ := hbw
  have lnew := lIv_new (A2 := fun u => (u < 40 ∧ al2 u) ∨ (40 ≤ u ∧ u < 40 + wl (x f).2.1)) (t := 40 + wl (x f).2.1) (a := a) (hd := hd) (un := y.1 t = 6) (hJ.2.1.1 f (by omega)) (fun u hu _ => by
    rcases hu with ⟨g1, g2⟩ | ⟨g1, g2⟩
    · exact Or.inl ⟨g1, hal u g2⟩
    · exact Or.inr ⟨g1, by omega⟩) b1 (fun u hu _ => b2 u hu)
  have lv : lIv f (tb (x f).1) (kAn (x f)) (kfr y (qRt rt (f, 40 + wl (x f).2.1) t) f ((x f).1, (k, U, 0) :: (x f).2.1, 0, lUp (kR (x f)) (40 + wl (x f).2.1) (some a), lUp (kH (x f)) (40 + wl (x f).2.1) hd, al2, lo2, kAn (x f))) := by
    refine lIv_mono2 lnew (fun u b hu hb => ⟨?_, hb⟩) (fun u b l hu hb hl => hl) (fun u b hu hb => ?_)
    · rcases hu with ⟨g1, g2⟩ | ⟨g1, g2⟩
      · exact Or.inl (Or.inl ⟨g1, g2⟩)
      · have g2 : u < 40 + wl ((k, U, 0) :: (x f).2.1) + 0 := g2
        rw [wl_n hk1] at g2
        by_cases e8 : u = 40 + wl (x f).2.1
        · exact Or.inr e8
        · exact Or.inl (Or.inr ⟨g1, by omega⟩)
    · show y.1 (qRt rt (f, 40 + wl (x f).2.1) t (f, u)) = 6 ↔ lUp (fun u => y.1 (rt (f, u)) = 6) (40 + wl (x f).2.1) (y.1 t = 6) u
      by_cases e8 : u = 40 + wl (x f).2.1
      · rw [e8, qRt_eq, lUp_eq]
      · rw [qRt_ne (fun q => e8 (by injection q)), lUp_ne e8]
  have hlow : ∃ (j v : Nat) (s : lLc), a = (j, v) :: s ∧ j ≤ f := by
    obtain ⟨j, v, r, e1, e2⟩ := i6
    obtain ⟨s, e3⟩ := i4
    refine ⟨j, v, r ++ s, ?_, by omega⟩
    rw [e3, e1]; rfl
  have j := kJ_ret (e := (k, U, 0)) (t := t) (W := V (f + 1, 40)) (ro := some a) (hd := hd) (al2 := al2) (lo2 := lo2) hJ hk1 hl hal hlo hWk (fun g => by simp at g) lv (fun b g => by
    injection g with g
    rw [← g]
    exact ⟨h56, htg, hlow⟩) (by
    rcases hkt with ⟨rfl, e8⟩ | ⟨rfl, e8⟩
    · exact ⟨by rw [qRt_eq]; exact e8, by rw [kRv_eq]; exact ⟨_, r2⟩⟩
    · exact ⟨by rw [qRt_eq]; exact e8, by rw [kRv_eq]; exact ⟨_, r2⟩⟩)
  have l := kL_ret (tk2 := tk2) (c2 := c2) (e := (k, U, 0)) (t := t) (W := V (f + 1, 40)) (ro := some a) (hd := hd) (al2 := al2) (lo2 := lo2) hJ hL hk1 hal q hc (by
    rcases hkt with ⟨rfl, -⟩ | ⟨rfl, -⟩
    · exact qRt_eq
    · exact qRt_eq) (fun b g => by
    injection g with g
    rw [← g]
    exact ⟨htg, hlow, by rw [hc1, ← a1]; exact hla⟩)
  have ek : kes z (k, U, 0) = 1 := by
    rcases hkt with ⟨rfl, -⟩ | ⟨rfl, -⟩ <;> rfl
  rw [ek] at l
  exact ⟨a, _, _, _, j, kL_fil l hfl⟩
/-- the top frame's variables, at the end of main -/
theorem kS_end (hy : kYs y z vt vo vc) (hz16 : ∀ t : Nat, z.1 t ≤ 16) (h : kS y z vt vo vc tb hp tk c f x fb top fil) : ∃ (P : Nat → Nat → Int32 → Prop) (B : Nat → Prop), drC y z c hp top P B ∧ ∀ (v : Nat) (p : Int32), v < 40 → (8, v, 0) ∈ (x f).2.1 → (∀ k : Nat, k < 16 → ibit p k = true → fil f v k) → P (vt (x f).1 v) (fb f + vo (x f).1 v) p := by
  obtain ⟨rt, ra, V, hJ, hL⟩ := h
  obtain ⟨p1, p2⟩ := kS_vdr hy hz16 hJ hL
  exact ⟨_, _, p1, p2⟩
/-- main begins -/
theorem kS_ini {g : Nat} {H : Nat → Nat → Prop} {al : Nat → Prop} {lo : Nat → lLc → Prop} (hx : x 0 = (g, [], 0, (fun _ => none), H, al, lo, fun _ _ _ => False)) : kS y z vt vo vc tb hp tk c 0 x (fun _ => hp) (hp + vc g) fil := by
  refine ⟨fun _ => 0, fun _ => 0, fun _ _ => none, ⟨fun _ => qOk_none, ⟨fun j hj => ?_, fun o e q => ?_, fun j hj => absurd hj (by omega)⟩, fun j hj u a _ ha => ?_, fun j hj u t g hv => by simp at hv, fun j hj => ?_, fun j u π w hw => by simp at hw, fun j hj v v4 hv => ?_, fun j hj r m => ?_, fun j hj => ?_⟩, ?_⟩
  · obtain rfl : j = 0 := by omega
    refine ⟨fun u a _ ha => ?_, fun u w a b _ _ _ ha => ?_⟩
    · have ha : kR (x 0) u = some a := ha
      rw [hx] at ha
      exact absurd ha (by show ¬ ((none : Option lLc) = some a); simp)
    · have ha : kR (x 0) u = some a := ha
      rw [hx] at ha
      exact absurd ha (by show ¬ ((none : Option lLc) = some a); simp)
  · show ¬ kAn (x 0) o e q
    rw [hx]; exact id
  · obtain rfl : j = 0 := by omega
    rw [hx] at ha
    exact absurd ha (by show ¬ ((none : Option lLc) = some a); simp)
  · obtain rfl : j = 0 := by omega
    rw [hx]; exact trivial
  · obtain rfl : j = 0 := by omega
    rw [hx] at hv
    exact absurd hv (by show ¬ (_ ∈ ([] : List tE)); simp)
  · obtain rfl : j = 0 := by omega
    rw [hx]
    exact ⟨fun q => absurd q (by show ¬ (_ ∈ ([] : List tE)); simp), fun q => absurd q (by show ¬ (_ ∈ ([] : List tE)); simp)⟩
  · obtain rfl : j = 0 := by omega
    rw [hx]; show wl [] ≤ 211; decide
  · refine ⟨⟨fun _ => qOk_none, fun r π t g hv => by simp at hv, fun r π t g r2 π2 t2 g2 b b2 hv => by simp at hv, fun r π w hv => by simp at hv, fun r r2 π π2 w w2 _ hv => by simp at hv⟩, fun j hj u a _ ha hw => ?_, fun j hj => ?_, fun j hj v v4 hv => ?_, rfl, fun j hj => absurd hj (by omega), ?_, fun j hj v v4 hv => ?_, fun j u π w _ hw => by simp at hw, fun j hj r m hm => ?_⟩
    · obtain ⟨w, hw⟩ := hw
      simp at hw
    · obtain rfl : j = 0 := by omega
      rw [hx]; exact trivial
    · obtain rfl : j = 0 := by omega
      rw [hx] at hv
      exact absurd hv (by show ¬ (_ ∈ ([] : List tE)); simp)
    · show hp + vc g = hp + vc (x 0).1 + khs z (x 0).2.1
      rw [hx]; rfl
    · obtain rfl : j = 0 := by omega
      rw [hx] at hv
      exact absurd hv (by show ¬ (_ ∈ ([] : List tE)); simp)
    · obtain rfl : j = 0 := by omega
      rw [hx] at hm
      exact absurd hm (by show ¬ (_ ∈ ([] : List tE)); simp)
end
