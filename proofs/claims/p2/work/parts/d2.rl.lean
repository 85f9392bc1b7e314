/-- a reference is matched on: q its kind, variant g there -/
theorem kJ_sw1 {y : qY} {vt : Nat → Nat → Nat} {tb : Nat → lTb} {f : Nat} {x : Nat → kFm} {rt : Nat × Nat → Nat} {V : Nat × Nat → qV} (hcr : qCr y) (h : kJ y vt tb f x rt V) {r : List tE} {sh g q m : Nat} {a0 : Nat × Nat} {π0 : lLc} {hd : Nat → Prop} (hn : (x f).2.2.1 = 0) (hs9 : 4 + sh < 10000) (hq : q = 1 ∨ q = 2) (hS : (x f).2.1 = (q, 4 + sh, m) :: r) (hmt : ∀ e : tE, e ∈ r → ¬ (e.1 = 4 ∨ e.1 = 5 ∨ e.1 = 6)) (hg : g < 12) (hm : m < 64) (hR : kR (x f) (40 + wl r) = some (a0 :: π0)) (hv : V a0 π0 = some (4 + sh, g)) (hd1 : ∀ l : Nat, kH (x f) (40 + wl r) l → hd l) : kJ y vt tb f (kUx x f ((x f).1, (q + 4, sh * 12 + g, m) :: r, 0, lUp (kR (x f)) 300 (some (a0 :: π0)), lUp (kH (x f)) 300 hd, kal (x f), klo (x f), kAn (x f))) (qRt rt (f, 300) (rt (f, 40 + wl r))) (qUp (kCl V f (wl r)) (f, 300) (V (f, 40 + wl r))) := by
  have hw := h
  obtain ⟨h0, h1, h2, h3, h4, h5, h6, h7, h8⟩ := h
  have hf := Nat.le_refl f
  obtain ⟨e1, e2⟩ := kR_row (sh := sh) hg
  have hnm : kNm (q, 4 + sh, m) := by
    show ¬ (q = 8 ∨ q = 4 ∨ q = 5 ∨ q = 6)
    omega
  have hwl : wl (x f).2.1 = wl r + 1 := by rw [hS]; exact wl_n hnm
  have hmq : (q + 4, sh * 12 + g, m).1 = 8 ∨ (q + 4, sh * 12 + g, m).1 = 4 ∨ (q + 4, sh * 12 + g, m).1 = 5 ∨ (q + 4, sh * 12 + g, m).1 = 6 := by
    show q + 4 = 8 ∨ q + 4 = 4 ∨ q + 4 = 5 ∨ q + 4 = 6
    omega
  have hwl2 : wl (((q + 4, sh * 12 + g, m) : tE) :: r) = wl r := wl_0 hmq
  have h211 := h8 f hf
  have hk2 := h4 f hf
  rw [hS] at hk2
  have hAt : kA (x f) (40 + wl r) := Or.inr ⟨by omega, by omega⟩
  have hT := h2 f hf _ _ hAt hR
  have hrt : rt (f, 40 + wl r) = 9999 + q + 2 * (4 + sh) ∧ ∃ z : Nat × Nat, V (f, 40 + wl r) [] = some z := by
    have hk3 := hk2.1
    rcases hq with rfl | rfl
    · exact ⟨by have := hk3.1; omega, hk3.2⟩
    · exact ⟨by have := hk3.1; omega, hk3.2⟩
  have hun : (y.1 (rt (f, 40 + wl r)) = 6 ↔ q + 4 = 6) ∧ (y.1 (rt (f, 40 + wl r)) = 5 ∨ y.1 (rt (f, 40 + wl r)) = 6) ∧ y.2.1 (rt (f, 40 + wl r)) = 4 + sh := by
    obtain ⟨c1, c2, c3, c4⟩ := hcr (4 + sh) hs9
    rcases hq with rfl | rfl
    · rw [hrt.1, show 9999 + 1 + 2 * (4 + sh) = 10000 + 2 * (4 + sh) by omega, c1, c2]
      exact ⟨by decide, by decide, rfl⟩
    · rw [hrt.1, show 9999 + 2 + 2 * (4 + sh) = 10001 + 2 * (4 + sh) by omega, c3, c4]
      exact ⟨by decide, by decide, rfl⟩
  have hne : ∀ u : Nat, u ≠ 300 → ((f, u) : Nat × Nat) ≠ (f, 300) := fun u hu q => hu (by injection q)
  have V3 : qUp (kCl V f (wl r)) (f, 300) (V (f, 40 + wl r)) (f, 300) = V (f, 40 + wl r) := qUp_eq
  have Vo : ∀ u : Nat, u ≠ 300 → qUp (kCl V f (wl r)) (f, 300) (V (f, 40 + wl r)) (f, u) = kCl V f (wl r) (f, u) := fun u hu => qUp_ne (hne u hu)
  have Vl : ∀ j u : Nat, u < 40 → qUp (kCl V f (wl r)) (f, 300) (V (f, 40 + wl r)) (j, u) = V (j, u) ∧ qRt rt (f, 300) (rt (f, 40 + wl r)) (j, u) = rt (j, u) := fun j u hu => by
    have : ((j, u) : Nat × Nat) ≠ (f, 300) := fun q => by injection q with q1 q2; omega
    refine ⟨?_, qRt_ne this⟩
    rw [qUp_ne this]
    by_cases c : j = f
    · rw [c]; exact kCl_out (Or.inl (by omega))
    · exact kCl_f c
  have hA : ∀ u : Nat, kA ((x f).1, (q + 4, sh * 12 + g, m) :: r, 0, lUp (kR (x f)) 300 (some (a0 :: π0)), lUp (kH (x f)) 300 hd, kal (x f), klo (x f), kAn (x f)) u → kA (x f) u ∧ u < 40 + wl r := fun u hu => by
    rcases hu with ⟨a, b⟩ | ⟨a, b⟩
    · exact ⟨Or.inl ⟨a, b⟩, by omega⟩
    · have b : u < 40 + wl (((q + 4, sh * 12 + g, m) : tE) :: r) + 0 := b
      exact ⟨Or.inr ⟨a, by omega⟩, by omega⟩
  have hRu : ∀ u : Nat, u < 40 + wl r → lUp (kR (x f)) 300 (some (a0 :: π0)) u = kR (x f) u := fun u hu => lUp_ne (by omega)
  have mem : ∀ e : tE, e.1 ≠ q → e ∈ (x f).2.1 → e ∈ r := fun e he hm => by
    rw [hS] at hm
    rcases List.mem_cons.mp hm with z | z
    · exact absurd (by rw [z]) he
    · exact z
  obtain ⟨r1, π1, ea, ra4, rw1, rf1⟩ := hT.2
  injection ea with ea1 ea2
  subst ea1; subst ea2
  have pm : ∀ k : Nat, k = q + 4 → kPm y (qRt rt (f, 300) (rt (f, 40 + wl r))) (qUp (kCl V f (wl r)) (f, 300) (V (f, 40 + wl r))) f (tb (x f).1) ((x f).1, (q + 4, sh * 12 + g, m) :: r, 0, lUp (kR (x f)) 300 (some (a0 :: π0)), lUp (kH (x f)) 300 hd, kal (x f), klo (x f), kAn (x f)) k (sh * 12 + g) m := fun k hk => by
    subst hk
    refine ⟨a0, π0, (show lUp (kR (x f)) 300 (some (a0 :: π0)) 300 = some (a0 :: π0) from lUp_eq), ra4, ?_, ?_, ?_, fun u b hu hb hqq hc => ?_⟩
    · rw [e1]
      obtain ⟨j, w⟩ := a0
      rw [(Vl j w ra4).2, ← hun.2.2]; exact rw1
    · rw [e1, e2]
      obtain ⟨j, w⟩ := a0
      rw [(Vl j w ra4).1]; exact hv
    · refine lOk_mono (fun l hl => ?_) (fun z => hun.1.mpr z) (lP_rf _) ((h1.1 f hf).1 _ _ hAt hR)
      show lUp (kH (x f)) 300 hd 300 l
      rw [lUp_eq]; exact hd1 l hl
    · obtain ⟨u1, u2⟩ := hA u hu
      have hb : lUp (kR (x f)) 300 (some (a0 :: π0)) u = some b := hb
      rw [hRu u u2] at hb
      rw [qRt_ne (hne u (by omega))] at hqq
      rcases (h1.1 f hf).2 (40 + wl r) u (a0 :: π0) b (by omega) hAt u1 hR hb (hqq.imp hun.1.mpr id) hc with z | z
      · obtain ⟨z0, l, σ, z1, z2, z3, z4, z5, z6⟩ := z
        refine Or.inr ⟨z0, l, σ, z1, ?_, z3, z4, z5, fun z => z6 (hun.1.mpr z)⟩
        show lUp (kH (x f)) 300 hd 300 l
        rw [lUp_eq]; exact hd1 l z2
      · exact absurd z.1 (by omega)
  refine kJ_top hw _ rfl rfl (fun j u hj => ⟨qRt_ne (fun q => hj (by injection q)), by rw [qUp_ne (fun q => hj (by injection q))]; exact kCl_f hj⟩) (fun u => ?_) (lIv_mono2 (h1.1 f hf) (fun u a hu ha => ⟨(hA u hu).1, by have ha : lUp (kR (x f)) 300 (some (a0 :: π0)) u = some a := ha; rw [hRu u (hA u hu).2] at ha; exact ha⟩) (fun u a l hu _ hl => by show lUp (kH (x f)) 300 hd u l; rw [lUp_ne (by have := (hA u hu).2; omega)]; exact hl) (fun u a hu _ => ?_)) (fun u a hu ha => ?_) (fun u t g1 hv1 hk1 hu => ?_) ⟨?_, ?_⟩ (fun u π z hz => ?_) (fun v v4 hv1 => ?_) (fun r1 m1 => ?_) (by show wl (((q + 4, sh * 12 + g, m) : tE) :: r) ≤ 211; omega)
  · by_cases c : u = 300
    · rw [c, V3, qRt_eq]; exact h0 _
    · rw [Vo u c, qRt_ne (hne u c)]
      by_cases c4 : u < 40 + wl r ∨ 300 ≤ u
      · rw [kCl_out c4]; exact h0 _
      · rw [show kCl V f (wl r) (f, u) = fun _ => none from funext (fun π => kCl_in (by omega) (by omega))]; exact qOk_none
  · show y.1 (qRt rt (f, 300) (rt (f, 40 + wl r)) (f, u)) = 6 ↔ y.1 (rt (f, u)) = 6
    rw [qRt_ne (hne u (by have := (hA u hu).2; omega))]
  · obtain ⟨u1, u2⟩ := hA u hu
    have ha : lUp (kR (x f)) 300 (some (a0 :: π0)) u = some a := ha
    rw [hRu u u2] at ha
    have q := h2 f hf u a u1 ha
    unfold qTr
    rw [qRt_ne (hne u (by omega))]
    exact ⟨q.1, qTg_eq q.2 (fun q π _ _ hq => by obtain ⟨j, v⟩ := q; exact Vl j v hq)⟩
  · obtain ⟨u1, u2⟩ := hA u hu
    rw [Vo u (by omega)] at hv1
    show ∃ a : lLc, lUp (kR (x f)) 300 (some (a0 :: π0)) u = some a
    rw [hRu u u2]
    exact h3 f hf u t g1 (kCl_some hv1).2 hk1 u1
  · rcases hq with rfl | rfl
    · show qRt rt (f, 300) (rt (f, 40 + wl r)) (f, 300) = 10000 + 2 * (4 + (sh * 12 + g) / 12) ∧ ∃ z : Nat × Nat, qUp (kCl V f (wl r)) (f, 300) (V (f, 40 + wl r)) (f, 300) [] = some z
      rw [qRt_eq, V3, e1]
      exact ⟨by have := hrt.1; omega, hrt.2⟩
    · show qRt rt (f, 300) (rt (f, 40 + wl r)) (f, 300) = 10001 + 2 * (4 + (sh * 12 + g) / 12) ∧ ∃ z : Nat × Nat, qUp (kCl V f (wl r)) (f, 300) (V (f, 40 + wl r)) (f, 300) [] = some z
      rw [qRt_eq, V3, e1]
      exact ⟨by have := hrt.1; omega, hrt.2⟩
  · refine kK_nm hk2.2 hmt (fun u h1 h2 => ⟨qRt_ne (hne u (by omega)), ?_, hRu u h2⟩)
    rw [Vo u (by omega)]
    exact kCl_out (Or.inl h2)
  · by_cases c : u = 300
    · refine ⟨Or.inr (Or.inr (Or.inl ⟨c, sh * 12 + g, m, ?_⟩)), fun z => by omega⟩
      rcases hq with rfl | rfl
      · exact Or.inl (List.mem_cons_self ..)
      · exact Or.inr (List.mem_cons_self ..)
    · rw [Vo u c] at hz
      rw [qRt_ne (hne u c)]
      obtain ⟨c1, hz⟩ := kCl_some hz
      obtain ⟨-, k1, k2⟩ := h5 f u π z hz
      refine ⟨?_, k2⟩
      rcases k1 with ⟨a, b⟩ | ⟨a, b⟩ | ⟨a, r2, m2, b⟩ | ⟨r2, m2, i, a, b, b2⟩
      · exact Or.inl ⟨a, List.mem_cons_of_mem _ (mem _ (by show (8 : Nat) ≠ q; omega) b)⟩
      · exact Or.inr (Or.inl ⟨a, by show u < 40 + wl (((q + 4, sh * 12 + g, m) : tE) :: r); omega⟩)
      · exact absurd a c
      · exact absurd (Or.inl rfl) (hmt _ (mem _ (by show (4 : Nat) ≠ q; omega) a))
  · have hv2 : (8, v, 0) ∈ (x f).2.1 := by
      rcases List.mem_cons.mp hv1 with z | z
      · injection z with q1 q2; omega
      · rw [hS]; exact List.mem_cons_of_mem _ z
    rw [(Vl f v v4).1, (Vl f v v4).2]
    exact h6 f hf v v4 hv2
  · refine ⟨fun z => ?_, fun z => ?_⟩
    · rcases List.mem_cons.mp z with z | z
      · injection z with q1 q2
        injection q2 with q3 q4
        rw [q3, q4]
        exact pm 5 q1
      · exact absurd (Or.inr (Or.inl rfl)) (hmt _ z)
    · rcases List.mem_cons.mp z with z | z
      · injection z with q1 q2
        injection q2 with q3 q4
        rw [q3, q4]
        exact pm 6 q1
      · exact absurd (Or.inr (Or.inr rfl)) (hmt _ z)
theorem lP_split {a : lLc} {c d : Nat × Nat} {s t : lLc} (h : lCmp (a ++ c :: s) (a ++ d :: t)) : c = d := (lCmp_cons (lCmp_shift h)).1
/-- part j of the place that is matched on is lent to variable v -/
theorem kJ_bindR {y : qY} {vt : Nat → Nat → Nat} {tb : Nat → lTb} {f : Nat} {x : Nat → kFm} {rt : Nat × Nat → Nat} {V : Nat × Nat → qV} (hcr : qCr y) (h : kJ y vt tb f x rt V) {r : List tE} {r0 q m v : Nat} {hd : Nat → Prop} {al2 : Nat → Prop} {lo2 : Nat → lLc → Prop} (hn : (x f).2.2.1 = 0) (ht9 : y.2.2.2.2 (4 + r0 / 12) (r0 % 12) (m / 64) < 10000) (hq : q = 5 ∨ q = 6) (hS : (x f).2.1 = (q, r0, m) :: r) (hmt : ∀ e : tE, e ∈ r → ¬ (e.1 = 4 ∨ e.1 = 5 ∨ e.1 = 6)) (hv4 : v < 40) (hvS : (8, v, 0) ∉ r) (hk3 : y.1 (4 + r0 / 12) = 3) (hm : m / 64 < y.2.2.2.1 (4 + r0 / 12) (r0 % 12)) (hvt : vt (x f).1 v = 9995 + q + 2 * y.2.2.2.2 (4 + r0 / 12) (r0 % 12) (m / 64)) (hal : ∀ u : Nat, u ≠ v → al2 u → kal (x f) u) (hlo : ∀ (w : Nat) (π : lLc), w ≠ v → ¬ lo2 w π → ¬ klo (x f) w π) (hd1 : ∀ l : Nat, kH (x f) 300 l → hd l) : ∃ (a0 : Nat × Nat) (π0 : lLc), kR (x f) 300 = some (a0 :: π0) ∧ V a0 π0 = some (4 + r0 / 12, r0 % 12) ∧ a0.2 < 40 ∧ qW y (rt a0) π0 (4 + r0 / 12) ∧ kJ y vt tb f (kUx x f ((x f).1, (q, r0, m + 64) :: (8, v, 0) :: r, 0, lUp (kR (x f)) v (some (a0 :: (π0 ++ [(r0 % 12 + 2, m / 64)]))), lUp (kH (x f)) v hd, al2, lo2, kAn (x f))) (qRt rt (f, v) (vt (x f).1 v)) (qUp V (f, v) (qL (vt (x f).1 v))) := by
  have hw := h
  obtain ⟨h0, h1, h2, h3, h4, h5, h6, h7, h8⟩ := h
  have hf := Nat.le_refl f
  have hpm : kPm y rt V f (tb (x f).1) (x f) q r0 m := by
    rcases hq with rfl | rfl
    · exact ((h7 f hf r0 m).1 (by rw [hS]; exact List.mem_cons_self ..)).2
    · exact ((h7 f hf r0 m).2 (by rw [hS]; exact List.mem_cons_self ..)).2
  obtain ⟨a0, π0, p1, p2, p3, p4, p5, p6⟩ := hpm
  refine ⟨a0, π0, p1, p4, p2, p3, ?_⟩
  have hmq : ∀ m2 : Nat, (q, r0, m2).1 = 8 ∨ (q, r0, m2).1 = 4 ∨ (q, r0, m2).1 = 5 ∨ (q, r0, m2).1 = 6 := fun m2 => by
    show q = 8 ∨ q = 4 ∨ q = 5 ∨ q = 6
    omega
  have hwl : wl (x f).2.1 = wl r := by rw [hS]; exact wl_0 (hmq m)
  have hwl2 : wl (((q, r0, m + 64) : tE) :: (8, v, 0) :: r) = wl r := by rw [wl_0 (hmq _), wl_0 (Or.inl rfl)]
  have h211 := h8 f hf
  have hk2 := h4 f hf
  rw [hS] at hk2
  generalize hc0 : a0 :: (π0 ++ [(r0 % 12 + 2, m / 64)]) = cc
  have hcc : cc = (a0 :: π0) ++ [(r0 % 12 + 2, m / 64)] := by rw [← hc0]; rfl
  have hlc : lP (a0 :: π0) cc := by rw [hcc]; exact lP_app _ _
  obtain ⟨w1, w2, w3, w4, w5⟩ := (h0 a0).1 π0 _ _ p4
  have hgn := w3 hk3
  have hne : ∀ u : Nat, u ≠ v → ((f, u) : Nat × Nat) ≠ (f, v) := fun u hu q => hu (by injection q)
  have hkv : (y.1 (vt (x f).1 v) = 6 ↔ q = 6) ∧ (y.1 (vt (x f).1 v) = 5 ∨ y.1 (vt (x f).1 v) = 6) ∧ y.2.1 (vt (x f).1 v) = y.2.2.2.2 (4 + r0 / 12) (r0 % 12) (m / 64) := by
    obtain ⟨c1, c2, c3, c4⟩ := hcr (y.2.2.2.2 (4 + r0 / 12) (r0 % 12) (m / 64)) ht9
    rcases hq with rfl | rfl
    · rw [hvt, show 9995 + 5 + 2 * y.2.2.2.2 (4 + r0 / 12) (r0 % 12) (m / 64) = 10000 + 2 * y.2.2.2.2 (4 + r0 / 12) (r0 % 12) (m / 64) by omega, c1, c2]
      exact ⟨by decide, by decide, rfl⟩
    · rw [hvt, show 9995 + 6 + 2 * y.2.2.2.2 (4 + r0 / 12) (r0 % 12) (m / 64) = 10001 + 2 * y.2.2.2.2 (4 + r0 / 12) (r0 % 12) (m / 64) by omega, c3, c4]
      exact ⟨by decide, by decide, rfl⟩
  have k2 : y.1 (vt (x f).1 v) ≠ 2 ∧ y.1 (vt (x f).1 v) ≠ 3 ∧ y.1 (vt (x f).1 v) ≠ 4 := by
    rcases hkv.2.1 with q | q <;> rw [q] <;> decide
  have vnone : ∀ (π : lLc) (z : Nat × Nat), V (f, v) π = some z → False := fun π z hz => by
    rcases (h5 f v π z hz).2.1 with ⟨a, b⟩ | ⟨a, b⟩ | ⟨a, b⟩ | ⟨r2, m2, i, a, b, b2⟩
    · rw [hS] at b
      rcases List.mem_cons.mp b with z | z
      · injection z with q1 q2; omega
      · exact hvS z
    · omega
    · omega
    · omega
  have hTg : ∀ (b : lLc) (T : Nat), qTg y rt V b T → qTg y (qRt rt (f, v) (vt (x f).1 v)) (qUp V (f, v) (qL (vt (x f).1 v))) b T := fun b T hb => qTg_eq hb (fun q π e hp hr => by
    have : q ≠ (f, v) := fun z => by
      subst z
      obtain ⟨τ, z, hz⟩ := hp
      exact vnone _ z hz
    exact ⟨qUp_ne this, qRt_ne this⟩)
  have hA : ∀ u : Nat, u ≠ v → kA ((x f).1, (q, r0, m + 64) :: (8, v, 0) :: r, 0, lUp (kR (x f)) v (some cc), lUp (kH (x f)) v hd, al2, lo2, kAn (x f)) u → kA (x f) u ∧ ((u < 40 ∧ al2 u) ∨ (40 ≤ u ∧ u < 40 + wl (x f).2.1)) := fun u c hu => by
    refine ⟨kA_al (x := x f) (by rw [hwl2, hwl]) hn hu (hal u c), ?_⟩
    rcases hu with z | ⟨z1, z2⟩
    · exact Or.inl z
    · exact Or.inr ⟨z1, by have z2 : u < 40 + wl (((q, r0, m + 64) : tE) :: (8, v, 0) :: r) + 0 := z2; omega⟩
  have inv : ∀ (u : Nat) (b : lLc), kA (x f) u → kR (x f) u = some b → (q = 6 ∨ y.1 (rt (f, u)) = 6) → lCmp cc b → u < 40 ∧ ∃ (l : Nat) (σ : lLc), ¬ (tb (x f).1).2.2.2.1 l ∧ kH (x f) 300 l ∧ (tb (x f).1).1 l = u ∧ (tb (x f).1).2.1 l = (1, 0) :: σ ∧ lP (b ++ σ) (a0 :: π0) ∧ (q = 6 → ¬ (tb (x f).1).2.2.1 l) := fun u b hu hb hqq hc => by
    rcases p6 u b hu hb hqq (lCmp_pre hlc hc) with ⟨i, hi, hb2⟩ | z
    · obtain ⟨s, rfl⟩ := hb2
      rw [hcc] at hc
      have hc2 : lCmp ((a0 :: π0) ++ (r0 % 12 + 2, m / 64) :: []) ((a0 :: π0) ++ (r0 % 12 + 2, i) :: s) := by
        have e : a0 :: (π0 ++ [(r0 % 12 + 2, i)]) ++ s = (a0 :: π0) ++ (r0 % 12 + 2, i) :: s := by simp
        rw [← e]; exact hc
      have := lP_split hc2
      injection this with e3 e4
      omega
    · exact z
  have hok : lOk f (tb (x f).1) (kAn (x f)) hd (y.1 (vt (x f).1 v) = 6) cc := lOk_mono hd1 hkv.1.mp hlc p5
  have hlv := lIv_new (t := v) (hd := hd) (un := y.1 (vt (x f).1 v) = 6) (a := cc) (A2 := fun u => ((u < 40 ∧ al2 u) ∨ (40 ≤ u ∧ u < 40 + wl (x f).2.1)) ∧ u ≠ v) (h1.1 f hf) (fun u hu c => by
    rcases hu.1 with ⟨a, b⟩ | ⟨a, b⟩
    · exact Or.inl ⟨a, hal u c b⟩
    · exact Or.inr ⟨a, by omega⟩) hok (fun u hu c b hb hqq hc => by
    obtain ⟨z0, l, σ, z1, z2, z3, z4, z5, z6⟩ := inv u b (by
      rcases hu.1 with ⟨a, b⟩ | ⟨a, b⟩
      · exact Or.inl ⟨a, hal u c b⟩
      · exact Or.inr ⟨a, by omega⟩) hb (hqq.imp hkv.1.mp id) hc
    exact ⟨z0, l, σ, z1, hd1 l z2, z3, z4, lP_tr z5 hlc, fun z => z6 (hkv.1.mp z)⟩)
  have pm : ∀ k : Nat, k = q → kPm y (qRt rt (f, v) (vt (x f).1 v)) (qUp V (f, v) (qL (vt (x f).1 v))) f (tb (x f).1) ((x f).1, (q, r0, m + 64) :: (8, v, 0) :: r, 0, lUp (kR (x f)) v (some cc), lUp (kH (x f)) v hd, al2, lo2, kAn (x f)) k r0 (m + 64) := fun k hk => by
    subst hk
    have ha0 : a0 ≠ (f, v) := fun z => by subst z; exact vnone _ _ p4
    refine ⟨a0, π0, (show lUp (kR (x f)) v (some cc) 300 = some (a0 :: π0) by rw [lUp_ne (by omega)]; exact p1), p2, by rw [qRt_ne ha0]; exact p3, by rw [qUp_ne ha0]; exact p4, ?_, fun u b hu hb hqq hc => ?_⟩
    · refine lOk_mono (fun l hl => ?_) id (lP_rf _) p5
      show lUp (kH (x f)) v hd 300 l
      rw [lUp_ne (by omega)]; exact hl
    · have hb : lUp (kR (x f)) v (some cc) u = some b := hb
      by_cases c : u = v
      · rw [c, lUp_eq] at hb
        obtain rfl := Option.some.inj hb
        exact Or.inl ⟨m / 64, by omega, by rw [← hc0]; exact lP_rf _⟩
      · rw [lUp_ne c] at hb
        rw [qRt_ne (hne u c)] at hqq
        rcases p6 u b (hA u c hu).1 hb hqq hc with ⟨i, hi, z⟩ | ⟨z0, l, σ, z1, z2, z3⟩
        · exact Or.inl ⟨i, by omega, z⟩
        · refine Or.inr ⟨z0, l, σ, z1, ?_, z3⟩
          show lUp (kH (x f)) v hd 300 l
          rw [lUp_ne (by omega)]; exact z2
  refine kJ_top hw _ rfl rfl (fun j u hj => ⟨qRt_ne (fun q => hj (by injection q)), qUp_ne (fun q => hj (by injection q))⟩) (fun u => ?_) (lIv_mono2 hlv (fun u b hu hb => ⟨?_, hb⟩) (fun u b l hu hb hl => hl) (fun u b hu _ => ?_)) (fun u a hu ha => ?_) (fun u t g1 hv1 hk1 hu => ?_) ⟨?_, trivial, ?_⟩ (fun u π z hz => ?_) (fun w w4 hv1 => ?_) (fun r1 m1 => ?_) (by show wl (((q, r0, m + 64) : tE) :: (8, v, 0) :: r) ≤ 211; omega)
  · by_cases c : u = v
    · rw [c, qUp_eq, qRt_eq]; exact (qFu_L k2.1 k2.2.1 k2.2.2).1
    · rw [qUp_ne (hne u c), qRt_ne (hne u c)]; exact h0 _
  · by_cases c : u = v
    · exact Or.inr c
    · exact Or.inl ⟨(hA u c hu).2, c⟩
  · show y.1 (qRt rt (f, v) (vt (x f).1 v) (f, u)) = 6 ↔ lUp (kfr y rt f (x f)).2.2.2 v (y.1 (vt (x f).1 v) = 6) u
    by_cases c : u = v
    · rw [c, qRt_eq, lUp_eq]
    · rw [lUp_ne c, qRt_ne (hne u c)]; exact Iff.rfl
  · have ha : lUp (kR (x f)) v (some cc) u = some a := ha
    unfold qTr
    by_cases c : u = v
    · rw [c, lUp_eq] at ha
      obtain rfl := Option.some.inj ha
      rw [c, qRt_eq]
      refine ⟨hkv.2.1, hTg _ _ ?_⟩
      rw [hkv.2.2]
      exact ⟨a0, π0 ++ [(r0 % 12 + 2, m / 64)], hc0.symm, p2, qW_app p3 (show qW y (4 + r0 / 12) [(r0 % 12 + 2, m / 64)] _ from ⟨hk3, hgn, hm, rfl⟩), w5 hk3 _ hm⟩
    · rw [lUp_ne c] at ha
      rw [qRt_ne (hne u c)]
      have q := h2 f hf u a (hA u c hu).1 ha
      exact ⟨q.1, hTg _ _ q.2⟩
  · show ∃ a : lLc, lUp (kR (x f)) v (some cc) u = some a
    by_cases c : u = v
    · rw [c, lUp_eq]; exact ⟨cc, rfl⟩
    · rw [qUp_ne (hne u c)] at hv1
      rw [lUp_ne c]
      exact h3 f hf u t g1 hv1 hk1 (hA u c hu).1
  · have hk4 := hk2.1
    rcases hq with rfl | rfl
    · show qRt rt (f, v) (vt (x f).1 v) (f, 300) = 10000 + 2 * (4 + r0 / 12) ∧ ∃ z : Nat × Nat, qUp V (f, v) (qL (vt (x f).1 v)) (f, 300) [] = some z
      rw [qRt_ne (hne 300 (by omega)), qUp_ne (hne 300 (by omega))]; exact hk4
    · show qRt rt (f, v) (vt (x f).1 v) (f, 300) = 10001 + 2 * (4 + r0 / 12) ∧ ∃ z : Nat × Nat, qUp V (f, v) (qL (vt (x f).1 v)) (f, 300) [] = some z
      rw [qRt_ne (hne 300 (by omega)), qUp_ne (hne 300 (by omega))]; exact hk4
  · exact kK_nm hk2.2 hmt (fun u h1 h2 => ⟨qRt_ne (hne u (by omega)), qUp_ne (hne u (by omega)), lUp_ne (by omega)⟩)
  · by_cases c : u = v
    · refine ⟨Or.inl ⟨by omega, ?_⟩, fun _ => by rw [c, qRt_eq]⟩
      rw [c]
      exact List.mem_cons_of_mem _ (List.mem_cons_self ..)
    · rw [qRt_ne (hne u c)]
      rw [qUp_ne (hne u c)] at hz
      obtain ⟨-, k1, k2⟩ := h5 f u π z hz
      refine ⟨?_, k2⟩
      rw [hS] at k1
      rcases k1 with ⟨a, b⟩ | ⟨a, b⟩ | ⟨a, r2, m2, b⟩ | ⟨r2, m2, i, a, b, b2⟩
      · rcases List.mem_cons.mp b with z | z
        · injection z with q1 q2; omega
        · exact Or.inl ⟨a, List.mem_cons_of_mem _ (List.mem_cons_of_mem _ z)⟩
      · exact Or.inr (Or.inl ⟨a, by show u < 40 + wl (((q, r0, m + 64) : tE) :: (8, v, 0) :: r); rw [hwl2]; rw [wl_0 (hmq m)] at b; exact b⟩)
      · refine Or.inr (Or.inr (Or.inl ⟨a, r0, m + 64, ?_⟩))
        rcases hq with rfl | rfl
        · exact Or.inl (List.mem_cons_self ..)
        · exact Or.inr (List.mem_cons_self ..)
      · rcases List.mem_cons.mp a with z | z
        · injection z with q1 q2; omega
        · exact absurd (Or.inl rfl) (hmt _ z)
  · by_cases c : w = v
    · subst c
      rw [qUp_eq, qRt_eq]
      refine ⟨rfl, fun π T g1 g2 g3 => ?_⟩
      have := (qFu_L k2.1 k2.2.1 k2.2.2).2 π T g1 g2
      rw [List.nil_append] at this
      exact this
    · rw [qUp_ne (hne w c), qRt_ne (hne w c)]
      have hv2 : (8, w, 0) ∈ (x f).2.1 := by
        rcases List.mem_cons.mp hv1 with z | z
        · injection z with q1 q2; omega
        · rcases List.mem_cons.mp z with z | z
          · injection z with q1 q2
            injection q2 with q3 q4
            exact absurd q3 c
          · rw [hS]; exact List.mem_cons_of_mem _ z
      have z := h6 f hf w w4 hv2
      exact ⟨z.1, fun π T g1 g2 g3 => z.2 π T g1 g2 (hlo w π c g3)⟩
  · have no : ∀ e : tE, e ∈ ((8, v, 0) : tE) :: r → e.1 = 5 ∨ e.1 = 6 → False := fun e he h56 => by
      rcases List.mem_cons.mp he with z | z
      · rw [z] at h56
        exact absurd h56 (by show ¬ ((8 : Nat) = 5 ∨ (8 : Nat) = 6); decide)
      · exact hmt e z (Or.inr h56)
    refine ⟨fun z => ?_, fun z => ?_⟩
    · rcases List.mem_cons.mp z with z | z
      · injection z with q1 q2
        injection q2 with q3 q4
        rw [q3, q4]
        exact pm 5 q1
      · exact (no _ z (Or.inl rfl)).elim
    · rcases List.mem_cons.mp z with z | z
      · injection z with q1 q2
        injection q2 with q3 q4
        rw [q3, q4]
        exact pm 6 q1
      · exact (no _ z (Or.inr rfl)).elim
