-- d2.rh.lean.txt
section
/-- what a call makes of the roots -/
def kCa (V : Nat × Nat → qV) (f w n : Nat) : Nat × Nat → qV := fun q => if q.1 = f + 1 then (if q.2 < n then V (f, 40 + w + q.2) else fun _ => none) else kCl V f w q
def kCt (rt : Nat × Nat → Nat) (vt : Nat → Nat) (f : Nat) : Nat × Nat → Nat := fun q => if q.1 = f + 1 then vt q.2 else rt q
theorem kCa_n {V : Nat × Nat → qV} {f w n i : Nat} (h : i < n) : kCa V f w n (f + 1, i) = V (f, 40 + w + i) := by
  unfold kCa; rw [if_pos rfl]; exact if_pos h
theorem kCa_o {V : Nat × Nat → qV} {f w n i : Nat} (h : ¬ i < n) : kCa V f w n (f + 1, i) = fun _ => none := by
  unfold kCa; rw [if_pos rfl]; exact if_neg h
theorem kCa_f {V : Nat × Nat → qV} {f w n j u : Nat} (h : j ≠ f + 1) : kCa V f w n (j, u) = kCl V f w (j, u) := by
  unfold kCa; exact if_neg h
theorem kCt_n {rt : Nat × Nat → Nat} {vt : Nat → Nat} {f i : Nat} : kCt rt vt f (f + 1, i) = vt i := by
  unfold kCt; exact if_pos rfl
theorem kCt_f {rt : Nat × Nat → Nat} {vt : Nat → Nat} {f j u : Nat} (h : j ≠ f + 1) : kCt rt vt f (j, u) = rt (j, u) := by
  unfold kCt; exact if_neg h
/-- what the outer loans ou of the called function's parameters lead to -/
def kAo (y : qY) (vt : Nat → Nat) (R : Nat → Option lLc) (w n : Nat) (ou : Nat → Nat) : Nat → lLc → Nat → Prop := fun o e q => ∃ i : Nat, i < n ∧ o = ou i ∧ R (40 + w + i) = some e ∧ ((q = 1 ∧ y.1 (vt i) = 6) ∨ (q = 0 ∧ y.1 (vt i) ≠ 6))
theorem kJ_call {y : qY} {vt : Nat → Nat → Nat} {tb : Nat → lTb} {f : Nat} {x : Nat → kFm} {rt : Nat × Nat → Nat} {V : Nat × Nat → qV} (h : kJ y vt tb f x rt V) {g n : Nat} {E r P : List tE} {al2 : Nat → Prop} {lo2 : Nat → lLc → Prop} {H' : Nat → Nat → Prop} {al' : Nat → Prop} {lo' : Nat → lLc → Prop} {ou : Nat → Nat} (hn : (x f).2.2.1 = 0) (hS : (x f).2.1 = E ++ r) (hE : ∀ e : tE, e ∈ E → kNm e) (hEn : wl E = n) (hn12 : n ≤ 12) (hmt : ∀ r m : Nat, (5, r, m) ∉ (x f).2.1 ∧ (6, r, m) ∉ (x f).2.1) (hty : ∀ i : Nat, i < n → rt (f, 40 + wl r + i) = vt g i ∧ qF y (V (f, 40 + wl r + i)) [] (vt g i)) (hal : ∀ u : Nat, al2 u → kal (x f) u) (hlo : ∀ (w : Nat) (π : lLc), ¬ lo2 w π → ¬ klo (x f) w π) (hP : ∀ e : tE, e ∈ P ↔ ∃ v : Nat, e = (8, v, 0) ∧ v < n) (hH : ∀ i : Nat, i < n → H' i (ou i) ∧ (tb g).2.2.2.1 (ou i)) : kJ y vt tb (f + 1) (kUx (kUx x f ((x f).1, r, n, kR (x f), kH (x f), al2, lo2, kAn (x f))) (f + 1) (g, P, 0, (fun i => if i < n then kR (x f) (40 + wl r + i) else none), H', al', lo', kAo y (vt g) (kR (x f)) (wl r) n ou)) (kCt rt (vt g) f) (kCa V f (wl r) n) := by
  obtain ⟨h0, h1, h2, h3, h4, h5, h6, h7, h8⟩ := h
  have hf := Nat.le_refl f
  have hwl : wl (x f).2.1 = wl r + n := by rw [hS, wl_app, hEn]; omega
  have h211 := h8 f hf
  generalize hXf : (((x f).1, r, n, kR (x f), kH (x f), al2, lo2, kAn (x f)) : kFm) = Xf
  generalize hX : ((g, P, 0, (fun i => if i < n then kR (x f) (40 + wl r + i) else none), H', al', lo', kAo y (vt g) (kR (x f)) (wl r) n ou) : kFm) = X
  have xf1 : kUx (kUx x f Xf) (f + 1) X (f + 1) = X := kUx_eq
  have xff : kUx (kUx x f Xf) (f + 1) X f = Xf := by rw [kUx_ne (by omega)]; exact kUx_eq
  have xj : ∀ j : Nat, j < f → kUx (kUx x f Xf) (f + 1) X j = x j := fun j hj => by rw [kUx_ne (by omega), kUx_ne (by omega)]
  have Af : ∀ u : Nat, kA Xf u → kA (x f) u := fun u hu => by
    rw [← hXf] at hu
    rcases hu with ⟨a, b⟩ | ⟨a, b⟩
    · exact Or.inl ⟨a, hal u b⟩
    · have b : u < 40 + wl r + n := b
      exact Or.inr ⟨a, by omega⟩
  have Rf : kR Xf = kR (x f) := by rw [← hXf]; rfl
  have RX : ∀ (u : Nat) (a : lLc), kR X u = some a → u < n ∧ kR (x f) (40 + wl r + u) = some a := fun u a ha => by
    rw [← hX] at ha
    have ha : (if u < n then kR (x f) (40 + wl r + u) else none) = some a := ha
    by_cases c : u < n
    · rw [if_pos c] at ha; exact ⟨c, ha⟩
    · rw [if_neg c] at ha; simp at ha
  have Aa : ∀ u : Nat, u < n → kA (x f) (40 + wl r + u) := fun u hu => Or.inr ⟨by omega, by omega⟩
  have out : ∀ e : tE, e ∈ r → e ∈ (x f).2.1 := fun e he => by rw [hS]; exact List.mem_append_right _ he
  have inn : ∀ e : tE, ¬ kNm e → e ∈ (x f).2.1 → e ∈ r := fun e he hm => by
    rw [hS] at hm
    rcases List.mem_append.mp hm with q | q
    · exact absurd (hE e q) he
    · exact q
  have old : ∀ (j : Nat) (u : Nat), j ≤ f → u < 40 → kCa V f (wl r) n (j, u) = V (j, u) ∧ kCt rt (vt g) f (j, u) = rt (j, u) := fun j u hj hu => by
    refine ⟨?_, kCt_f (by omega)⟩
    rw [kCa_f (by omega)]
    by_cases c : j = f
    · rw [c]; exact kCl_out (Or.inl (by omega))
    · exact kCl_f c
  have tg : ∀ (j u : Nat) (a : lLc) (T : Nat), j ≤ f → kA (x j) u → kR (x j) u = some a → qTg y rt V a T → qTg y (kCt rt (vt g) f) (kCa V f (wl r) n) a T := fun j u a T hj hu ha ht => qTg_eq ht (fun q π e _ hq => by
    obtain ⟨i, v, w, e2, hi⟩ := lIv_fr (h1.1 j hj) hu ha
    rw [e] at e2
    injection e2 with e3 e4
    rw [e3] at hq ⊢
    exact old i v (by omega) hq)
  have frj : ∀ j : Nat, j < f → kfr y (kCt rt (vt g) f) j (x j) = kfr y rt j (x j) := fun j hj => by
    unfold kfr
    have : (fun u => y.1 (kCt rt (vt g) f (j, u)) = 6) = fun u => y.1 (rt (j, u)) = 6 := funext (fun u => by rw [kCt_f (by omega)])
    rw [this]
  have lvf : lIv f (tb (x f).1) (kAn (x f)) (kfr y (kCt rt (vt g) f) f Xf) := by
    refine lIv_mono2 (h1.1 f hf) (fun u a hu ha => ⟨Af u hu, by show kR (x f) u = some a; rw [← Rf]; exact ha⟩) (fun u a l _ _ hl => by show kH Xf u l; rw [← hXf]; exact hl) (fun u a _ _ => ?_)
    show y.1 (kCt rt (vt g) f (f, u)) = 6 ↔ y.1 (rt (f, u)) = 6
    rw [kCt_f (by omega)]
  have AnX : kAn X = kAo y (vt g) (kR (x f)) (wl r) n ou := by rw [← hX]; rfl
  have lvX : lIv (f + 1) (tb g) (kAn X) (kfr y (kCt rt (vt g) f) (f + 1) X) := by
    refine ⟨fun u a hu ha => ?_, fun u w a b hne hu hw ha hb hq hc => ?_⟩
    · obtain ⟨u1, u2⟩ := RX u a ha
      obtain ⟨i, v, s, e, hi⟩ := lIv_fr (h1.1 f hf) (Aa u u1) u2
      refine Or.inr ⟨ou u, a, if y.1 (vt g u) = 6 then 1 else 0, (hH u u1).2, by rw [← hX]; exact (hH u u1).1, ?_, lP_rf a, fun q => ?_, i, v, s, e, by omega⟩
      · rw [AnX]
        refine ⟨u, u1, rfl, u2, ?_⟩
        by_cases c : y.1 (vt g u) = 6
        · rw [if_pos c]; exact Or.inl ⟨rfl, c⟩
        · rw [if_neg c]; exact Or.inr ⟨rfl, c⟩
      · have q : y.1 (kCt rt (vt g) f (f + 1, u)) = 6 := q
        rw [kCt_n] at q
        exact if_pos q
    · obtain ⟨u1, u2⟩ := RX u a ha
      obtain ⟨w1, w2⟩ := RX w b hb
      have hq2 : y.1 (rt (f, 40 + wl r + u)) = 6 ∨ y.1 (rt (f, 40 + wl r + w)) = 6 := by
        have hq : y.1 (kCt rt (vt g) f (f + 1, u)) = 6 ∨ y.1 (kCt rt (vt g) f (f + 1, w)) = 6 := hq
        rw [kCt_n, kCt_n] at hq
        rw [(hty u u1).1, (hty w w1).1]
        exact hq
      rcases (h1.1 f hf).2 (40 + wl r + u) (40 + wl r + w) a b (by omega) (Aa u u1) (Aa w w1) u2 w2 hq2 hc with q | q
      · exact absurd q.1 (by omega)
      · exact absurd q.1 (by omega)
  refine ⟨fun q => ?_, ⟨fun j hj => ?_, fun o e q ho => ?_, fun j hj o e q ho => ?_⟩, fun j hj u a hu ha => ?_, fun j hj u t g1 hv hk hu => ?_, fun j hj => ?_, fun j u π z hz => ?_, fun j hj v v4 hv => ?_, fun j hj r1 m => ?_, fun j hj => ?_⟩
  · obtain ⟨j, u⟩ := q
    by_cases c : j = f + 1
    · subst c
      rw [kCt_n]
      by_cases c2 : u < n
      · rw [kCa_n c2, ← (hty u c2).1]; exact h0 _
      · rw [kCa_o c2]; exact qOk_none
    · rw [kCt_f c, kCa_f c]
      by_cases c3 : j = f
      · subst c3
        by_cases c4 : u < 40 + wl r ∨ 300 ≤ u
        · rw [kCl_out c4]; exact h0 _
        · rw [show kCl V j (wl r) (j, u) = fun _ => none from funext (fun π => kCl_in (by omega) (by omega))]; exact qOk_none
      · rw [kCl_f c3]; exact h0 _
  · show lIv j (tb (kUx (kUx x f Xf) (f + 1) X j).1) (kAn (kUx (kUx x f Xf) (f + 1) X j)) (kfr y (kCt rt (vt g) f) j (kUx (kUx x f Xf) (f + 1) X j))
    by_cases c : j = f + 1
    · subst c
      rw [xf1]
      have : X.1 = g := by rw [← hX]
      rw [this]; exact lvX
    · by_cases c2 : j = f
      · subst c2
        rw [xff]
        have e1 : Xf.1 = (x j).1 := by rw [← hXf]
        have e2 : kAn Xf = kAn (x j) := by rw [← hXf]; rfl
        rw [e1, e2]; exact lvf
      · rw [xj j (by omega), frj j (by omega)]; exact h1.1 j (by omega)
  · have ho : kAn (kUx (kUx x f Xf) (f + 1) X 0) o e q := ho
    by_cases c : 0 = f
    · subst c
      rw [xff, ← hXf] at ho; exact h1.2.1 o e q ho
    · rw [xj 0 (by omega)] at ho; exact h1.2.1 o e q ho
  · have ho : kAn (kUx (kUx x f Xf) (f + 1) X (j + 1)) o e q := ho
    by_cases c : j = f
    · subst c
      rw [xf1, AnX] at ho
      obtain ⟨i, i1, i2, i3, i4⟩ := ho
      refine ⟨40 + wl r + i, by omega, ?_⟩
      show kA (kUx (kUx x j Xf) (j + 1) X j) (40 + wl r + i) ∧ kR (kUx (kUx x j Xf) (j + 1) X j) (40 + wl r + i) = some e ∧ (q = 1 → y.1 (kCt rt (vt g) j (j, 40 + wl r + i)) = 6)
      rw [xff, Rf, kCt_f (by omega), (hty i i1).1]
      refine ⟨by rw [← hXf]; exact Or.inr ⟨by omega, by show 40 + wl r + i < 40 + wl r + n; omega⟩, i3, fun z => ?_⟩
      rcases i4 with i4 | i4
      · exact i4.2
      · omega
    · by_cases c2 : j + 1 = f
      · rw [c2, xff] at ho
        have ho : kAn (x f) o e q := by rw [← hXf] at ho; exact ho
        obtain ⟨t, t1, t2⟩ := h1.2.2 j (by omega) o e q (by rw [← c2] at ho; exact ho)
        refine ⟨t, t1, ?_⟩
        show (kfr y (kCt rt (vt g) f) j (kUx (kUx x f Xf) (f + 1) X j)).2.1 t ∧ (kfr y (kCt rt (vt g) f) j (kUx (kUx x f Xf) (f + 1) X j)).1 t = some e ∧ (q = 1 → (kfr y (kCt rt (vt g) f) j (kUx (kUx x f Xf) (f + 1) X j)).2.2.2 t)
        rw [xj j (by omega), frj j (by omega)]; exact t2
      · rw [xj (j + 1) (by omega)] at ho
        obtain ⟨t, t1, t2⟩ := h1.2.2 j (by omega) o e q ho
        refine ⟨t, t1, ?_⟩
        show (kfr y (kCt rt (vt g) f) j (kUx (kUx x f Xf) (f + 1) X j)).2.1 t ∧ (kfr y (kCt rt (vt g) f) j (kUx (kUx x f Xf) (f + 1) X j)).1 t = some e ∧ (q = 1 → (kfr y (kCt rt (vt g) f) j (kUx (kUx x f Xf) (f + 1) X j)).2.2.2 t)
        rw [xj j (by omega), frj j (by omega)]; exact t2
  · unfold qTr
    by_cases c : j = f + 1
    · subst c
      rw [xf1] at hu ha
      obtain ⟨u1, u2⟩ := RX u a ha
      have q := h2 f hf _ a (Aa u u1) u2
      rw [kCt_n, ← (hty u u1).1]
      exact ⟨q.1, tg f _ a _ hf (Aa u u1) u2 q.2⟩
    · rw [kCt_f c]
      have hux : kA (x j) u ∧ kR (x j) u = some a := by
        by_cases c2 : j = f
        · subst c2
          rw [xff] at hu ha
          exact ⟨Af u hu, by rw [← Rf]; exact ha⟩
        · rw [xj j (by omega)] at hu ha
          exact ⟨hu, ha⟩
      have q := h2 j (by omega) u a hux.1 hux.2
      exact ⟨q.1, tg j u a _ (by omega) hux.1 hux.2 q.2⟩
  · by_cases c : j = f + 1
    · subst c
      rw [xf1]
      by_cases c2 : u < n
      · rw [kCa_n c2] at hv
        obtain ⟨a, ha⟩ := h3 f hf _ t g1 hv hk (Aa u c2)
        refine ⟨a, ?_⟩
        rw [← hX]
        show (if u < n then kR (x f) (40 + wl r + u) else none) = some a
        rw [if_pos c2]; exact ha
      · rw [kCa_o c2] at hv; simp at hv
    · rw [kCa_f c] at hv
      by_cases c2 : j = f
      · subst c2
        rw [xff] at hu ⊢
        rw [Rf]
        exact h3 j hf u t g1 (kCl_some hv).2 hk (Af u hu)
      · rw [xj j (by omega)] at hu ⊢
        rw [kCl_f c2] at hv
        exact h3 j (by omega) u t g1 hv hk hu
  · by_cases c : j = f + 1
    · subst c
      rw [xf1]
      have : X.2.1 = P := by rw [← hX]
      rw [this]
      have gen : ∀ P2 : List tE, (∀ e : tE, e ∈ P2 → e ∈ P) → kK y (kCt rt (vt g) f) (kCa V f (wl r) n) (f + 1) X P2 := fun P2 => by
        induction P2 with
        | nil => exact fun _ => trivial
        | cons e P2 ih =>
          intro hp
          obtain ⟨v, rfl, -⟩ := (hP e).mp (hp e (List.mem_cons_self ..))
          exact ⟨trivial, ih (fun e he => hp e (List.mem_cons_of_mem _ he))⟩
      exact gen P (fun e he => he)
    · by_cases c2 : j = f
      · subst c2
        rw [xff]
        have : Xf.2.1 = r := by rw [← hXf]
        rw [this]
        have hk := h4 j hf
        rw [hS] at hk
        have hk2 : kK y rt V j (x j) r := by
          clear hS hE hEn inn out
          induction E with
          | nil => exact hk
          | cons e E ih => exact ih hk.2
        refine kK_cg hk2 (fun u hu => ⟨kCt_f c, ?_, by rw [Rf]⟩)
        rw [kCa_f c]
        exact kCl_out (hu.imp (fun z => z.2) id)
      · rw [xj j (by omega)]
        refine kK_cg (h4 j (by omega)) (fun u hu => ⟨kCt_f c, ?_, rfl⟩)
        rw [kCa_f c, kCl_f c2]
  · by_cases c : j = f + 1
    · subst c
      rw [xf1]
      by_cases c2 : u < n
      · refine ⟨Nat.le_refl _, Or.inl ⟨by omega, ?_⟩, fun _ => ?_⟩
        · have : X.2.1 = P := by rw [← hX]
          rw [this]
          exact (hP _).mpr ⟨u, rfl, c2⟩
        · rw [kCt_n, ← hX]
      · rw [kCa_o c2] at hz; simp at hz
    · rw [kCa_f c] at hz
      rw [kCt_f c]
      by_cases c2 : j = f
      · subst c2
        obtain ⟨c3, hz⟩ := kCl_some hz
        obtain ⟨k0, k1, k2⟩ := h5 j u π z hz
        rw [xff]
        refine ⟨by omega, ?_, fun q => by rw [k2 q, ← hXf]⟩
        have : Xf.2.1 = r := by rw [← hXf]
        rw [this]
        rcases k1 with ⟨a, b⟩ | ⟨a, b⟩ | ⟨a, r2, m, b⟩ | ⟨r2, m, i, a, b⟩
        · exact Or.inl ⟨a, inn _ (fun q => q (Or.inl rfl)) b⟩
        · exact Or.inr (Or.inl ⟨a, by omega⟩)
        · exact Or.inr (Or.inr (Or.inl ⟨a, r2, m, b.imp (inn _ (fun q => q (Or.inr (Or.inr (Or.inl rfl))))) (inn _ (fun q => q (Or.inr (Or.inr (Or.inr rfl)))))⟩))
        · exact Or.inr (Or.inr (Or.inr ⟨r2, m, i, inn _ (fun q => q (Or.inr (Or.inl rfl))) a, b⟩))
      · rw [kCl_f c2] at hz
        obtain ⟨k0, k1, k2⟩ := h5 j u π z hz
        rw [xj j (by omega)]
        exact ⟨by omega, k1, k2⟩
  · by_cases c : j = f + 1
    · subst c
      rw [xf1] at hv ⊢
      have e1 : X.2.1 = P := by rw [← hX]
      have e2 : X.1 = g := by rw [← hX]
      rw [e1] at hv
      rw [e2, kCt_n]
      obtain ⟨v2, e3, e4⟩ := (hP _).mp hv
      obtain rfl : v = v2 := by injection e3 with q1 q2; injection q2
      refine ⟨rfl, fun π T g1 g2 g3 => ?_⟩
      rw [kCa_n e4]
      have := (hty v e4).2 π T g1 g2
      rw [List.nil_append] at this
      exact this
    · by_cases c2 : j = f
      · subst c2
        rw [xff] at hv ⊢
        have e1 : Xf.2.1 = r := by rw [← hXf]
        have e2 : Xf.1 = (x j).1 := by rw [← hXf]
        rw [e1] at hv
        have q := h6 j hf v v4 (out _ hv)
        rw [e2, (old j v hf v4).2]
        refine ⟨q.1, fun π T g1 g2 g3 => ?_⟩
        rw [(old j v hf v4).1]
        exact q.2 π T g1 g2 (hlo v π (by rw [← hXf] at g3; exact g3))
      · rw [xj j (by omega)] at hv ⊢
        have q := h6 j (by omega) v v4 hv
        rw [(old j v (by omega) v4).1, (old j v (by omega) v4).2]
        exact q
  · by_cases c : j = f + 1
    · subst c
      rw [xf1]
      have e1 : X.2.1 = P := by rw [← hX]
      rw [e1]
      exact ⟨fun z => by obtain ⟨v, e, -⟩ := (hP _).mp z; injection e with q1 q2; exact absurd q1 (by decide), fun z => by obtain ⟨v, e, -⟩ := (hP _).mp z; injection e with q1 q2; exact absurd q1 (by decide)⟩
    · by_cases c2 : j = f
      · subst c2
        rw [xff]
        have e1 : Xf.2.1 = r := by rw [← hXf]
        rw [e1]
        exact ⟨fun z => absurd (out _ z) (hmt r1 m).1, fun z => absurd (out _ z) (hmt r1 m).2⟩
      · rw [xj j (by omega)]
        exact ⟨fun z => absurd ((h7 j (by omega) r1 m).1 z).1 c2, fun z => absurd ((h7 j (by omega) r1 m).2 z).1 c2⟩
  · by_cases c : j = f + 1
    · subst c
      rw [xf1]
      have e1 : X.2.1 = P := by rw [← hX]
      rw [e1]
      have gen : ∀ P2 : List tE, (∀ e : tE, e ∈ P2 → e ∈ P) → wl P2 = 0 := fun P2 => by
        induction P2 with
        | nil => exact fun _ => rfl
        | cons e P2 ih =>
          intro hp
          obtain ⟨v, rfl, -⟩ := (hP e).mp (hp e (List.mem_cons_self ..))
          rw [wl_0 (Or.inl rfl)]
          exact ih (fun e he => hp e (List.mem_cons_of_mem _ he))
      rw [gen P (fun e he => he)]
      exact Nat.zero_le _
    · by_cases c2 : j = f
      · subst c2
        rw [xff]
        have e1 : Xf.2.1 = r := by rw [← hXf]
        rw [e1]; omega
      · rw [xj j (by omega)]; exact h8 j (by omega)
end
-- d2.ri.lean.txt
section
/-- what a return makes of the roots: the value W at (f, u0) -/
def kRv (V : Nat × Nat → qV) (f u0 : Nat) (W : qV) : Nat × Nat → qV := fun q => if q.1 = f + 1 then fun _ => none else if q = (f, u0) then W else V q
theorem kRv_n {V : Nat × Nat → qV} {f u0 u : Nat} {W : qV} : kRv V f u0 W (f + 1, u) = fun _ => none := by
  unfold kRv; exact if_pos rfl
theorem kRv_eq {V : Nat × Nat → qV} {f u0 : Nat} {W : qV} : kRv V f u0 W (f, u0) = W := by
  unfold kRv; rw [if_neg (show ¬ ((f, u0) : Nat × Nat).1 = f + 1 by show ¬ f = f + 1; omega), if_pos rfl]
theorem kRv_ne {V : Nat × Nat → qV} {f u0 j u : Nat} {W : qV} (h1 : j ≠ f + 1) (h2 : (j, u) ≠ (f, u0)) : kRv V f u0 W (j, u) = V (j, u) := by
  unfold kRv; rw [if_neg h1, if_neg h2]
/-- the latest frame f + 1 ends, its value comes to frame f -/
theorem kJ_ret {y : qY} {vt : Nat → Nat → Nat} {tb : Nat → lTb} {f : Nat} {x : Nat → kFm} {rt : Nat × Nat → Nat} {V : Nat × Nat → qV} (h : kJ y vt tb (f + 1) x rt V) {e : tE} {t : Nat} {W : qV} {ro : Option lLc} {hd : Nat → Prop} {al2 : Nat → Prop} {lo2 : Nat → lLc → Prop} (he : kNm e) (hl : wl (x f).2.1 < 211) (hal : ∀ u : Nat, al2 u → kal (x f) u) (hlo : ∀ (w : Nat) (π : lLc), ¬ lo2 w π → ¬ klo (x f) w π) (hW : qOk y t W) (hnr : ro = none → ∀ z : Nat × Nat, W [] = some z → y.1 z.1 ≠ 5 ∧ y.1 z.1 ≠ 6) (lv : lIv f (tb (x f).1) (kAn (x f)) (kfr y (qRt rt (f, 40 + wl (x f).2.1) t) f ((x f).1, e :: (x f).2.1, 0, lUp (kR (x f)) (40 + wl (x f).2.1) ro, lUp (kH (x f)) (40 + wl (x f).2.1) hd, al2, lo2, kAn (x f)))) (hro : ∀ a : lLc, ro = some a → (y.1 t = 5 ∨ y.1 t = 6) ∧ qTg y rt V a (y.2.1 t) ∧ ∃ (j v : Nat) (s : lLc), a = (j, v) :: s ∧ j ≤ f) (hE : kE y (qRt rt (f, 40 + wl (x f).2.1) t) (kRv V f (40 + wl (x f).2.1) W) f ((x f).1, e :: (x f).2.1, 0, lUp (kR (x f)) (40 + wl (x f).2.1) ro, lUp (kH (x f)) (40 + wl (x f).2.1) hd, al2, lo2, kAn (x f)) (wl (x f).2.1) e) : kJ y vt tb f (kUx x f ((x f).1, e :: (x f).2.1, 0, lUp (kR (x f)) (40 + wl (x f).2.1) ro, lUp (kH (x f)) (40 + wl (x f).2.1) hd, al2, lo2, kAn (x f))) (qRt rt (f, 40 + wl (x f).2.1) t) (kRv V f (40 + wl (x f).2.1) W) := by
  obtain ⟨h0, h1, h2, h3, h4, h5, h6, h7, h8⟩ := h
  have hf : f ≤ f + 1 := Nat.le_succ f
  have hwl : wl (e :: (x f).2.1) = wl (x f).2.1 + 1 := wl_n he
  generalize hu0 : 40 + wl (x f).2.1 = u0 at *
  generalize hX : (((x f).1, e :: (x f).2.1, 0, lUp (kR (x f)) u0 ro, lUp (kH (x f)) u0 hd, al2, lo2, kAn (x f)) : kFm) = X at *
  have xff : kUx x f X f = X := kUx_eq
  have xj : ∀ j : Nat, j ≠ f → kUx x f X j = x j := fun j hj => kUx_ne hj
  have e1 : X.1 = (x f).1 := by rw [← hX]
  have e2 : X.2.1 = e :: (x f).2.1 := by rw [← hX]
  have e3 : kAn X = kAn (x f) := by rw [← hX]; rfl
  have RX : ∀ u : Nat, kR X u = lUp (kR (x f)) u0 ro u := fun u => by rw [← hX]; rfl
  have hne : ∀ u : Nat, u ≠ u0 → ((f, u) : Nat × Nat) ≠ (f, u0) := fun u hu q => hu (by injection q)
  have hnj : ∀ j u : Nat, j ≠ f → ((j, u) : Nat × Nat) ≠ (f, u0) := fun j u hj q => hj (by injection q)
  have Af : ∀ u : Nat, u ≠ u0 → kA X u → kA (x f) u := fun u hu h => by
    rw [← hX] at h
    rcases h with ⟨a, b⟩ | ⟨a, b⟩
    · exact Or.inl ⟨a, hal u b⟩
    · have b : u < 40 + wl (e :: (x f).2.1) + 0 := b
      exact Or.inr ⟨a, by omega⟩
  have old : ∀ j u : Nat, j ≤ f → (j, u) ≠ (f, u0) → kRv V f u0 W (j, u) = V (j, u) ∧ qRt rt (f, u0) t (j, u) = rt (j, u) := fun j u hj hu => ⟨kRv_ne (by omega) hu, qRt_ne hu⟩
  have tgo : ∀ (a : lLc) (T : Nat), (∃ (j v : Nat) (s : lLc), a = (j, v) :: s ∧ j ≤ f) → qTg y rt V a T → qTg y (qRt rt (f, u0) t) (kRv V f u0 W) a T := fun a T ⟨j, v, s, ea, hj⟩ ht => qTg_eq ht (fun q π e _ hq => by
    rw [ea] at e
    injection e with e3 e4
    rw [← e3] at hq ⊢
    exact old j v hj (fun z => by injection z with z1 z2; have hq : v < 40 := hq; omega))
  have frj : ∀ j : Nat, j < f → kfr y (qRt rt (f, u0) t) j (x j) = kfr y rt j (x j) := fun j hj => by
    unfold kfr
    have : (fun u => y.1 (qRt rt (f, u0) t (j, u)) = 6) = fun u => y.1 (rt (j, u)) = 6 := funext (fun u => by rw [qRt_ne (hnj j u (by omega))])
    rw [this]
  refine ⟨fun q => ?_, ⟨fun j hj => ?_, fun o e q ho => ?_, fun j hj o e q ho => ?_⟩, fun j hj u a hu ha => ?_, fun j hj u t1 g1 hv hk hu => ?_, fun j hj => ?_, fun j u π z hz => ?_, fun j hj v v4 hv => ?_, fun j hj r1 m => ?_, fun j hj => ?_⟩
  · obtain ⟨j, u⟩ := q
    by_cases c : j = f + 1
    · subst c
      rw [kRv_n]; exact qOk_none
    · by_cases c2 : ((j, u) : Nat × Nat) = (f, u0)
      · rw [c2, kRv_eq, qRt_eq]; exact hW
      · rw [kRv_ne c c2, qRt_ne c2]; exact h0 _
  · show lIv j (tb (kUx x f X j).1) (kAn (kUx x f X j)) (kfr y (qRt rt (f, u0) t) j (kUx x f X j))
    by_cases c : j = f
    · subst c
      rw [xff, e1, e3]; exact lv
    · rw [xj j c, frj j (by omega)]; exact h1.1 j (by omega)
  · have ho : kAn (kUx x f X 0) o e q := ho
    by_cases c : 0 = f
    · subst c
      rw [xff, e3] at ho; exact h1.2.1 o e q ho
    · rw [xj 0 c] at ho; exact h1.2.1 o e q ho
  · have ho : kAn (kUx x f X (j + 1)) o e q := ho
    have ho2 : kAn (x (j + 1)) o e q := by
      by_cases c : j + 1 = f
      · rw [c, xff, e3] at ho
        rw [c]; exact ho
      · rw [xj (j + 1) c] at ho; exact ho
    obtain ⟨t2, t1, t3⟩ := h1.2.2 j (by omega) o e q ho2
    refine ⟨t2, t1, ?_⟩
    show (kfr y (qRt rt (f, u0) t) j (kUx x f X j)).2.1 t2 ∧ (kfr y (qRt rt (f, u0) t) j (kUx x f X j)).1 t2 = some e ∧ (q = 1 → (kfr y (qRt rt (f, u0) t) j (kUx x f X j)).2.2.2 t2)
    rw [xj j (by omega), frj j hj]; exact t3
  · unfold qTr
    by_cases c : j = f
    · subst c
      rw [xff] at hu ha
      rw [RX] at ha
      by_cases c2 : u = u0
      · rw [c2, lUp_eq] at ha
        obtain ⟨k1, k2, k3⟩ := hro a ha
        rw [c2, qRt_eq]
        exact ⟨k1, tgo a _ k3 k2⟩
      · rw [lUp_ne c2] at ha
        rw [qRt_ne (hne u c2)]
        have q := h2 j (by omega) u a (Af u c2 hu) ha
        obtain ⟨i, v, s, ea, hi⟩ := lIv_fr (h1.1 j (by omega)) (Af u c2 hu) ha
        exact ⟨q.1, tgo a _ ⟨i, v, s, ea, by omega⟩ q.2⟩
    · rw [xj j c] at hu ha
      rw [qRt_ne (hnj j u c)]
      have q := h2 j (by omega) u a hu ha
      obtain ⟨i, v, s, ea, hi⟩ := lIv_fr (h1.1 j (by omega)) hu ha
      exact ⟨q.1, tgo a _ ⟨i, v, s, ea, by omega⟩ q.2⟩
  · by_cases c : j = f
    · subst c
      rw [xff] at hu ⊢
      rw [RX]
      by_cases c2 : u = u0
      · rw [c2, kRv_eq] at hv
        rw [c2, lUp_eq]
        cases er : ro with
        | none => exact absurd hk (by obtain ⟨k1, k2⟩ := hnr er _ hv; rintro (z | z); exact k1 z; exact k2 z)
        | some a => exact ⟨a, rfl⟩
      · rw [kRv_ne (by omega) (hne u c2)] at hv
        rw [lUp_ne c2]
        exact h3 j (by omega) u t1 g1 hv hk (Af u c2 hu)
    · rw [xj j c] at hu ⊢
      rw [kRv_ne (by omega) (hnj j u c)] at hv
      exact h3 j (by omega) u t1 g1 hv hk hu
  · by_cases c : j = f
    · subst c
      rw [xff, e2]
      refine ⟨hE, kK_cg (h4 j (by omega)) (fun u hu => ?_)⟩
      have h9 := h8 j (by omega)
      have c2 : u ≠ u0 := by omega
      exact ⟨qRt_ne (hne u c2), kRv_ne (by omega) (hne u c2), by rw [RX, lUp_ne c2]⟩
    · rw [xj j c]
      exact kK_cg (h4 j (by omega)) (fun u hu => ⟨qRt_ne (hnj j u c), kRv_ne (by omega) (hnj j u c), rfl⟩)
  · by_cases c0 : j = f + 1
    · subst c0
      rw [kRv_n] at hz; simp at hz
    · by_cases c : j = f
      · subst c
        rw [xff, e1, e2]
        by_cases c2 : u = u0
        · refine ⟨Nat.le_refl _, Or.inr (Or.inl ⟨by omega, by omega⟩), fun q => by omega⟩
        · rw [kRv_ne c0 (hne u c2)] at hz
          rw [qRt_ne (hne u c2)]
          obtain ⟨k0, k1, k2⟩ := h5 j u π z hz
          refine ⟨Nat.le_refl _, ?_, k2⟩
          rcases k1 with ⟨a, b⟩ | ⟨a, b⟩ | ⟨a, r2, m, b⟩ | ⟨r2, m, i, a, b⟩
          · exact Or.inl ⟨a, List.mem_cons_of_mem _ b⟩
          · exact Or.inr (Or.inl ⟨a, by omega⟩)
          · exact Or.inr (Or.inr (Or.inl ⟨a, r2, m, b.imp (List.mem_cons_of_mem _) (List.mem_cons_of_mem _)⟩))
          · exact Or.inr (Or.inr (Or.inr ⟨r2, m, i, List.mem_cons_of_mem _ a, b⟩))
      · rw [kRv_ne c0 (hnj j u c)] at hz
        rw [xj j c, qRt_ne (hnj j u c)]
        obtain ⟨k0, k1, k2⟩ := h5 j u π z hz
        exact ⟨by omega, k1, k2⟩
  · by_cases c : j = f
    · subst c
      rw [xff] at hv ⊢
      rw [e2] at hv
      rw [e1]
      have hv2 : (8, v, 0) ∈ (x j).2.1 := by
        rcases List.mem_cons.mp hv with q | q
        · exact absurd (Or.inl (by rw [← q])) he
        · exact q
      have q := h6 j (by omega) v v4 hv2
      have hvu : v ≠ u0 := by omega
      rw [qRt_ne (hne v hvu), kRv_ne (by omega) (hne v hvu)]
      refine ⟨q.1, fun π T g1 g2 g3 => q.2 π T g1 g2 (hlo v π (by rw [← hX] at g3; exact g3))⟩
    · rw [xj j c] at hv ⊢
      rw [qRt_ne (hnj j v c), kRv_ne (by omega) (hnj j v c)]
      exact h6 j (by omega) v v4 hv
  · by_cases c : j = f
    · subst c
      rw [xff, e2]
      refine ⟨fun z => ?_, fun z => ?_⟩
      · rcases List.mem_cons.mp z with q | q
        · exact absurd (Or.inr (Or.inr (Or.inl (by rw [← q])))) he
        · have := ((h7 j (by omega) r1 m).1 q).1
          omega
      · rcases List.mem_cons.mp z with q | q
        · exact absurd (Or.inr (Or.inr (Or.inr (by rw [← q])))) he
        · have := ((h7 j (by omega) r1 m).2 q).1
          omega
    · rw [xj j c]
      refine ⟨fun z => ?_, fun z => ?_⟩
      · have := ((h7 j (by omega) r1 m).1 z).1
        omega
      · have := ((h7 j (by omega) r1 m).2 z).1
        omega
  · by_cases c : j = f
    · subst c
      rw [xff, e2]; omega
    · rw [xj j c]; exact h8 j (by omega)
end
-- d2.rj.lean.txt
section
theorem kR_row {sh g : Nat} (h : g < 12) : (sh * 12 + g) / 12 = sh ∧ (sh * 12 + g) % 12 = g := by omega
/-- the roots of a matched value's parts -/
def kSv (V : Nat × Nat → qV) (f w g n : Nat) : Nat × Nat → qV := fun q => if q.1 = f ∧ 400 ≤ q.2 then (if q.2 - 400 < n then qS (V (f, 40 + w)) [(g + 2, q.2 - 400)] else fun _ => none) else kCl V f w q
def kSt (rt : Nat × Nat → Nat) (f : Nat) (pt : Nat → Nat) : Nat × Nat → Nat := fun q => if q.1 = f ∧ 400 ≤ q.2 then pt (q.2 - 400) else rt q
theorem kSv_p {V : Nat × Nat → qV} {f w g n i : Nat} (h : i < n) : kSv V f w g n (f, 400 + i) = qS (V (f, 40 + w)) [(g + 2, i)] := by
  unfold kSv
  rw [if_pos ⟨rfl, Nat.le_add_right _ _⟩]
  have e : 400 + i - 400 = i := by omega
  show (if 400 + i - 400 < n then qS (V (f, 40 + w)) [(g + 2, 400 + i - 400)] else fun _ => none) = _
  rw [e, if_pos h]
theorem kSv_o {V : Nat × Nat → qV} {f w g n u : Nat} (h : 400 + n ≤ u) : kSv V f w g n (f, u) = fun _ => none := by
  unfold kSv
  rw [if_pos ⟨rfl, by show 400 ≤ u; omega⟩]
  show (if u - 400 < n then qS (V (f, 40 + w)) [(g + 2, u - 400)] else fun _ => none) = _
  rw [if_neg (by omega)]
theorem kSv_l {V : Nat × Nat → qV} {f w g n j u : Nat} (h : j ≠ f ∨ u < 400) : kSv V f w g n (j, u) = kCl V f w (j, u) := by
  unfold kSv
  rw [if_neg]
  intro z
  have h1 : j = f := z.1
  have h2 : 400 ≤ u := z.2
  omega
theorem kSt_p {rt : Nat × Nat → Nat} {f i : Nat} {pt : Nat → Nat} : kSt rt f pt (f, 400 + i) = pt i := by
  unfold kSt
  rw [if_pos ⟨rfl, Nat.le_add_right _ _⟩]
  show pt (400 + i - 400) = pt i
  rw [show 400 + i - 400 = i by omega]
theorem kSt_l {rt : Nat × Nat → Nat} {f j u : Nat} {pt : Nat → Nat} (h : j ≠ f ∨ u < 400) : kSt rt f pt (j, u) = rt (j, u) := by
  unfold kSt
  rw [if_neg]
  intro z
  have h1 : j = f := z.1
  have h2 : 400 ≤ u := z.2
  omega
/-- a value is matched on: variant g -/
theorem kJ_sw0 {y : qY} {vt : Nat → Nat → Nat} {tb : Nat → lTb} {f : Nat} {x : Nat → kFm} {rt : Nat × Nat → Nat} {V : Nat × Nat → qV} (h : kJ y vt tb f x rt V) {r : List tE} {sh g m : Nat} (hn : (x f).2.2.1 = 0) (hS : (x f).2.1 = (0, 4 + sh, m) :: r) (hmt : ∀ e : tE, e ∈ r → ¬ (e.1 = 4 ∨ e.1 = 5 ∨ e.1 = 6)) (hg : g < 12) (hk : y.1 (4 + sh) = 3) (hv : V (f, 40 + wl r) [] = some (4 + sh, g)) : kJ y vt tb f (kUx x f ((x f).1, (4, sh * 12 + g, 0) :: r, 0, kR (x f), kH (x f), kal (x f), klo (x f), kAn (x f))) (kSt rt f (y.2.2.2.2 (4 + sh) g)) (kSv V f (wl r) g (y.2.2.2.1 (4 + sh) g)) := by
  have hw := h
  obtain ⟨h0, h1, h2, h3, h4, h5, h6, h7, h8⟩ := h
  have hf := Nat.le_refl f
  obtain ⟨e1, e2⟩ := kR_row (sh := sh) hg
  have hwl : wl (x f).2.1 = wl r + 1 := by rw [hS]; exact wl_n (by show ¬ ((0 : Nat) = 8 ∨ (0 : Nat) = 4 ∨ (0 : Nat) = 5 ∨ (0 : Nat) = 6); decide)
  have hwl2 : wl (((4, sh * 12 + g, 0) : tE) :: r) = wl r := wl_0 (Or.inr (Or.inl rfl))
  have h211 := h8 f hf
  obtain ⟨w1, w2, w3, w4, w5⟩ := (h0 (f, 40 + wl r)).1 [] _ _ hv
  have hrt : rt (f, 40 + wl r) = 4 + sh := (show 4 + sh = rt (f, 40 + wl r) from w1).symm
  have hgn := w3 hk
  have hA : ∀ u : Nat, kA ((x f).1, (4, sh * 12 + g, 0) :: r, 0, kR (x f), kH (x f), kal (x f), klo (x f), kAn (x f)) u → kA (x f) u := fun u hu => by
    rcases hu with ⟨a, b⟩ | ⟨a, b⟩
    · exact Or.inl ⟨a, b⟩
    · have b : u < 40 + wl (((4, sh * 12 + g, 0) : tE) :: r) + 0 := b
      exact Or.inr ⟨a, by omega⟩
  have mem : ∀ e : tE, e.1 ≠ 0 → e ∈ (x f).2.1 → e ∈ r := fun e he hm => by
    rw [hS] at hm
    rcases List.mem_cons.mp hm with q | q
    · exact absurd (by rw [q]) he
    · exact q
  have out : ∀ e : tE, e ∈ r → e ∈ (x f).2.1 := fun e he => by rw [hS]; exact List.mem_cons_of_mem _ he
  have lo4 : ∀ j u : Nat, u < 40 → kSv V f (wl r) g (y.2.2.2.1 (4 + sh) g) (j, u) = V (j, u) ∧ kSt rt f (y.2.2.2.2 (4 + sh) g) (j, u) = rt (j, u) := fun j u hu => by
    refine ⟨?_, kSt_l (Or.inr (by omega))⟩
    rw [kSv_l (Or.inr (by omega))]
    by_cases c : j = f
    · rw [c]; exact kCl_out (Or.inl (by omega))
    · exact kCl_f c
  refine kJ_top hw _ rfl rfl (fun j u hj => ⟨kSt_l (Or.inl hj), by rw [kSv_l (Or.inl hj)]; exact kCl_f hj⟩) (fun u => ?_) (lIv_mono2 (h1.1 f hf) (fun u a hu ha => ⟨hA u hu, ha⟩) (fun u a l _ _ hl => hl) (fun u a hu _ => ?_)) (fun u a hu ha => ?_) (fun u t g1 hv1 hk1 hu => ?_) ⟨?_, ?_⟩ (fun u π z hz => ?_) (fun v v4 hv1 => ?_) (fun r1 m1 => ?_) (by show wl (((4, sh * 12 + g, 0) : tE) :: r) ≤ 211; omega)
  · by_cases c : u < 400
    · rw [kSv_l (Or.inr c), kSt_l (Or.inr c)]
      by_cases c4 : u < 40 + wl r ∨ 300 ≤ u
      · rw [kCl_out c4]; exact h0 _
      · rw [show kCl V f (wl r) (f, u) = fun _ => none from funext (fun π => kCl_in (by omega) (by omega))]; exact qOk_none
    · obtain ⟨i, rfl⟩ : ∃ i : Nat, u = 400 + i := ⟨u - 400, by omega⟩
      by_cases c2 : i < y.2.2.2.1 (4 + sh) g
      · rw [kSv_p c2, kSt_p]
        exact qOk_S (h0 (f, 40 + wl r)) (by rw [hrt]; exact ⟨hk, hgn, c2, rfl⟩)
      · rw [kSv_o (by omega)]; exact qOk_none
  · show y.1 (kSt rt f (y.2.2.2.2 (4 + sh) g) (f, u)) = 6 ↔ y.1 (rt (f, u)) = 6
    rw [kSt_l (Or.inr ?_)]
    rcases hu with ⟨a, b⟩ | ⟨a, b⟩
    · omega
    · have b : u < 40 + wl (((4, sh * 12 + g, 0) : tE) :: r) + 0 := b
      omega
  · have q := h2 f hf u a (hA u hu) ha
    unfold qTr
    rw [kSt_l (Or.inr ?_)]
    · exact ⟨q.1, qTg_eq q.2 (fun q π _ _ hq => by obtain ⟨j, v⟩ := q; exact lo4 j v hq)⟩
    · rcases hu with ⟨a, b⟩ | ⟨a, b⟩
      · omega
      · have b : u < 40 + wl (((4, sh * 12 + g, 0) : tE) :: r) + 0 := b
        omega
  · have u4 : u < 400 := by
      rcases hu with ⟨a, b⟩ | ⟨a, b⟩
      · omega
      · have b : u < 40 + wl (((4, sh * 12 + g, 0) : tE) :: r) + 0 := b
        omega
    rw [kSv_l (Or.inr u4)] at hv1
    exact h3 f hf u t g1 (kCl_some hv1).2 hk1 (hA u hu)
  · show kMt y (kSt rt f (y.2.2.2.2 (4 + sh) g)) (kSv V f (wl r) g (y.2.2.2.1 (4 + sh) g)) f (4 + (sh * 12 + g) / 12) ((sh * 12 + g) % 12) 0
    rw [e1, e2]
    intro i _ hi
    rw [kSt_p, kSv_p hi, qF_S]
    exact ⟨rfl, w5 hk i hi⟩
  · have hk2 := h4 f hf
    rw [hS] at hk2
    have gen : ∀ S2 : List tE, (∀ e : tE, e ∈ S2 → ¬ (e.1 = 4 ∨ e.1 = 5 ∨ e.1 = 6)) → wl S2 ≤ wl r → kK y rt V f (x f) S2 → kK y (kSt rt f (y.2.2.2.2 (4 + sh) g)) (kSv V f (wl r) g (y.2.2.2.1 (4 + sh) g)) f ((x f).1, (4, sh * 12 + g, 0) :: r, 0, kR (x f), kH (x f), kal (x f), klo (x f), kAn (x f)) S2 := fun S2 => by
      induction S2 with
      | nil => exact fun _ _ _ => trivial
      | cons e S2 ih =>
        intro hm hle hkk
        have hle2 : wl S2 ≤ wl r := Nat.le_trans wl_le hle
        refine ⟨?_, ih (fun e he => hm e (List.mem_cons_of_mem _ he)) hle2 hkk.2⟩
        have he := hm e (List.mem_cons_self ..)
        have hk3 := hkk.1
        by_cases c8 : e.1 = 8
        · obtain ⟨k, t, n⟩ := e
          have c8 : k = 8 := c8
          subst c8; trivial
        · have hwe : wl (e :: S2) = wl S2 + 1 := wl_n (by rintro (q | q); exact c8 q; exact he q)
          have ag : kSt rt f (y.2.2.2.2 (4 + sh) g) (f, 40 + wl S2) = rt (f, 40 + wl S2) ∧ kSv V f (wl r) g (y.2.2.2.1 (4 + sh) g) (f, 40 + wl S2) = V (f, 40 + wl S2) := by
            refine ⟨kSt_l (Or.inr (by omega)), ?_⟩
            rw [kSv_l (Or.inr (by omega))]
            exact kCl_out (Or.inl (by omega))
          obtain ⟨k, t, n⟩ := e
          match k, he, c8, hk3 with
          | 0, _, _, hk3 => unfold kE at hk3 ⊢; rw [ag.1, ag.2]; exact hk3
          | 1, _, _, hk3 => unfold kE at hk3 ⊢; rw [ag.1, ag.2]; exact hk3
          | 2, _, _, hk3 => unfold kE at hk3 ⊢; rw [ag.1, ag.2]; exact hk3
          | 3, _, _, hk3 => unfold kE at hk3 ⊢; rw [ag.1, ag.2]; exact hk3
          | 4, he, _, _ => exact absurd (Or.inl rfl) he
          | 5, he, _, _ => exact absurd (Or.inr (Or.inl rfl)) he
          | 6, he, _, _ => exact absurd (Or.inr (Or.inr rfl)) he
          | 7, _, _, hk3 => unfold kE at hk3 ⊢; rw [ag.1, ag.2]; exact hk3
          | 8, _, c8, _ => exact absurd rfl c8
          | k + 9, _, _, hk3 => exact hk3.elim
    exact gen r hmt (Nat.le_refl _) hk2.2
  · by_cases c : u < 400
    · rw [kSv_l (Or.inr c)] at hz
      rw [kSt_l (Or.inr c)]
      obtain ⟨c1, hz⟩ := kCl_some hz
      obtain ⟨-, k1, k2⟩ := h5 f u π z hz
      refine ⟨?_, k2⟩
      rcases k1 with ⟨a, b⟩ | ⟨a, b⟩ | ⟨a, r2, m2, b⟩ | ⟨r2, m2, i, a, b, b2⟩
      · exact Or.inl ⟨a, List.mem_cons_of_mem _ (mem _ (by show (8 : Nat) ≠ 0; decide) b)⟩
      · exact Or.inr (Or.inl ⟨a, by show u < 40 + wl (((4, sh * 12 + g, 0) : tE) :: r); omega⟩)
      · rcases b with b | b
        · exact absurd (Or.inr (Or.inl rfl)) (hmt _ (mem _ (by show (5 : Nat) ≠ 0; decide) b))
        · exact absurd (Or.inr (Or.inr rfl)) (hmt _ (mem _ (by show (6 : Nat) ≠ 0; decide) b))
      · omega
    · obtain ⟨i, rfl⟩ : ∃ i : Nat, u = 400 + i := ⟨u - 400, by omega⟩
      by_cases c2 : i < y.2.2.2.1 (4 + sh) g
      · refine ⟨Or.inr (Or.inr (Or.inr ⟨sh * 12 + g, 0, i, List.mem_cons_self .., rfl, Nat.zero_le _, by rw [e1, e2]; exact c2⟩)), fun q => by omega⟩
      · rw [kSv_o (by omega)] at hz; simp at hz
  · have hv2 : (8, v, 0) ∈ (x f).2.1 := by
      rcases List.mem_cons.mp hv1 with q | q
      · injection q with q1 q2; exact absurd q1 (by decide)
      · exact out _ q
    rw [(lo4 f v v4).1, (lo4 f v v4).2]
    exact h6 f hf v v4 hv2
  · refine ⟨fun z => ?_, fun z => ?_⟩
    · rcases List.mem_cons.mp z with q | q
      · injection q with q1 q2; exact absurd q1 (by decide)
      · exact absurd (Or.inr (Or.inl rfl)) (hmt _ q)
    · rcases List.mem_cons.mp z with q | q
      · injection q with q1 q2; exact absurd q1 (by decide)
      · exact absurd (Or.inr (Or.inr rfl)) (hmt _ q)
end
-- d2.rk.lean.txt
section
theorem kK_nm {y : qY} {rt rt2 : Nat × Nat → Nat} {V V2 : Nat × Nat → qV} {j : Nat} {x x2 : kFm} : ∀ {S : List tE}, kK y rt V j x S → (∀ e : tE, e ∈ S → ¬ (e.1 = 4 ∨ e.1 = 5 ∨ e.1 = 6)) → (∀ u : Nat, 40 ≤ u → u < 40 + wl S → rt2 (j, u) = rt (j, u) ∧ V2 (j, u) = V (j, u) ∧ kR x2 u = kR x u) → kK y rt2 V2 j x2 S
  | [], _, _, _ => trivial
  | e :: S2, hkk, hm, h2 => by
    refine ⟨?_, kK_nm hkk.2 (fun e he => hm e (List.mem_cons_of_mem _ he)) (fun u h1 h3 => h2 u h1 (Nat.lt_of_lt_of_le h3 (Nat.add_le_add_left wl_le 40)))⟩
    have he := hm e (List.mem_cons_self ..)
    have hk3 := hkk.1
    by_cases c8 : e.1 = 8
    · obtain ⟨k, t, n⟩ := e
      have c8 : k = 8 := c8
      subst c8; trivial
    · have hwe : wl (e :: S2) = wl S2 + 1 := wl_n (by rintro (q | q); exact c8 q; exact he q)
      obtain ⟨a1, a2, a3⟩ := h2 (40 + wl S2) (by omega) (by omega)
      obtain ⟨k, t, n⟩ := e
      match k, he, c8, hk3 with
      | 0, _, _, hk3 => unfold kE at hk3 ⊢; rw [a1, a2, a3]; exact hk3
      | 1, _, _, hk3 => unfold kE at hk3 ⊢; rw [a1, a2]; exact hk3
      | 2, _, _, hk3 => unfold kE at hk3 ⊢; rw [a1, a2]; exact hk3
      | 3, _, _, hk3 => unfold kE at hk3 ⊢; rw [a1, a2, a3]; exact hk3
      | 4, he, _, _ => exact absurd (Or.inl rfl) he
      | 5, he, _, _ => exact absurd (Or.inr (Or.inl rfl)) he
      | 6, he, _, _ => exact absurd (Or.inr (Or.inr rfl)) he
      | 7, _, _, hk3 => unfold kE at hk3 ⊢; rw [a1, a2, a3]; exact hk3
      | 8, _, c8, _ => exact absurd rfl c8
      | k + 9, _, _, hk3 => exact hk3.elim
/-- roots from 300 on are cleared -/
def kC3 (V : Nat × Nat → qV) (f : Nat) : Nat × Nat → qV := fun q => if q.1 = f ∧ 300 ≤ q.2 then fun _ => none else V q
theorem kC3_in {V : Nat × Nat → qV} {f u : Nat} (h : 300 ≤ u) : kC3 V f (f, u) = fun _ => none := by
  unfold kC3; exact if_pos ⟨rfl, h⟩
theorem kC3_out {V : Nat × Nat → qV} {f j u : Nat} (h : j ≠ f ∨ u < 300) : kC3 V f (j, u) = V (j, u) := by
  unfold kC3
  refine if_neg (fun z => ?_)
  have h1 : j = f := z.1
  have h2 : 300 ≤ u := z.2
  omega
/-- the matched value is gone -/
theorem kJ_popM {y : qY} {vt : Nat → Nat → Nat} {tb : Nat → lTb} {f : Nat} {x : Nat → kFm} {rt : Nat × Nat → Nat} {V : Nat × Nat → qV} (h : kJ y vt tb f x rt V) {e : tE} {r : List tE} (hn : (x f).2.2.1 = 0) (hS : (x f).2.1 = e :: r) (he : e.1 = 4 ∨ e.1 = 5 ∨ e.1 = 6) (hmt : ∀ e : tE, e ∈ r → ¬ (e.1 = 4 ∨ e.1 = 5 ∨ e.1 = 6)) : kJ y vt tb f (kUx x f ((x f).1, r, 0, kR (x f), kH (x f), kal (x f), klo (x f), kAn (x f))) rt (kC3 V f) := by
  have hw := h
  obtain ⟨h0, h1, h2, h3, h4, h5, h6, h7, h8⟩ := h
  have hf := Nat.le_refl f
  have hwl : wl (x f).2.1 = wl r := by rw [hS]; exact wl_0 (Or.inr he)
  have h211 := h8 f hf
  have hA : ∀ u : Nat, kA ((x f).1, r, 0, kR (x f), kH (x f), kal (x f), klo (x f), kAn (x f)) u → kA (x f) u := fun u hu => kA_al (x := x f) hwl.symm hn hu id
  have lo4 : ∀ j u : Nat, u < 40 → kC3 V f (j, u) = V (j, u) := fun j u hu => kC3_out (Or.inr (by omega))
  refine kJ_top hw _ rfl rfl (fun j u hj => ⟨rfl, kC3_out (Or.inl hj)⟩) (fun u => ?_) (lIv_mono2 (h1.1 f hf) (fun u a hu ha => ⟨hA u hu, ha⟩) (fun u a l _ _ hl => hl) (fun u a hu _ => Iff.rfl)) (fun u a hu ha => ?_) (fun u t g1 hv1 hk1 hu => ?_) ?_ (fun u π z hz => ?_) (fun v v4 hv1 => ?_) (fun r1 m1 => ⟨fun z => absurd (Or.inr (Or.inl rfl)) (hmt _ z), fun z => absurd (Or.inr (Or.inr rfl)) (hmt _ z)⟩) (by show wl r ≤ 211; omega)
  · by_cases c : u < 300
    · rw [kC3_out (Or.inr c)]; exact h0 _
    · rw [kC3_in (by omega)]; exact qOk_none
  · have q := h2 f hf u a (hA u hu) ha
    exact ⟨q.1, qTg_eq q.2 (fun q π _ _ hq => by obtain ⟨j, v⟩ := q; exact ⟨lo4 j v hq, rfl⟩)⟩
  · by_cases c : u < 300
    · rw [kC3_out (Or.inr c)] at hv1
      exact h3 f hf u t g1 hv1 hk1 (hA u hu)
    · rw [kC3_in (by omega)] at hv1; simp at hv1
  · have hk2 := h4 f hf
    rw [hS] at hk2
    exact kK_nm hk2.2 hmt (fun u h1 h2 => ⟨rfl, kC3_out (Or.inr (by have h2 : u < 40 + wl r := h2; omega)), rfl⟩)
  · by_cases c : u < 300
    · rw [kC3_out (Or.inr c)] at hz
      obtain ⟨-, k1, k2⟩ := h5 f u π z hz
      refine ⟨?_, k2⟩
      rcases k1 with ⟨a, b⟩ | ⟨a, b⟩ | ⟨a, b⟩ | ⟨r2, m2, i, a, b, b2⟩
      · rw [hS] at b
        rcases List.mem_cons.mp b with q | q
        · rw [← q] at he
          exact absurd he (by show ¬ ((8 : Nat) = 4 ∨ (8 : Nat) = 5 ∨ (8 : Nat) = 6); decide)
        · exact Or.inl ⟨a, q⟩
      · exact Or.inr (Or.inl ⟨a, by show u < 40 + wl r; omega⟩)
      · omega
      · omega
    · rw [kC3_in (by omega)] at hz; simp at hz
  · rw [lo4 f v v4]
    exact h6 f hf v v4 (by rw [hS]; exact List.mem_cons_of_mem _ hv1)
/-- part m of the matched value goes to variable v -/
theorem kJ_bind {y : qY} {vt : Nat → Nat → Nat} {tb : Nat → lTb} {f : Nat} {x : Nat → kFm} {rt : Nat × Nat → Nat} {V : Nat × Nat → qV} (h : kJ y vt tb f x rt V) {r : List tE} {r0 m v : Nat} {hd : Nat → Prop} {al2 : Nat → Prop} {lo2 : Nat → lLc → Prop} (hn : (x f).2.2.1 = 0) (hS : (x f).2.1 = (4, r0, m) :: r) (hmt : ∀ e : tE, e ∈ r → ¬ (e.1 = 4 ∨ e.1 = 5 ∨ e.1 = 6)) (hv4 : v < 40) (hvS : (8, v, 0) ∉ r) (hm : m < y.2.2.2.1 (4 + r0 / 12) (r0 % 12)) (hvt : vt (x f).1 v = y.2.2.2.2 (4 + r0 / 12) (r0 % 12) m) (hnr : y.1 (vt (x f).1 v) ≠ 5 ∧ y.1 (vt (x f).1 v) ≠ 6) (hal : ∀ u : Nat, u ≠ v → al2 u → kal (x f) u) (hlo : ∀ (w : Nat) (π : lLc), w ≠ v → ¬ lo2 w π → ¬ klo (x f) w π) : kJ y vt tb f (kUx x f ((x f).1, (4, r0, m + 1) :: (8, v, 0) :: r, 0, lUp (kR (x f)) v none, lUp (kH (x f)) v hd, al2, lo2, kAn (x f))) (qRt rt (f, v) (vt (x f).1 v)) (qUp (qUp V (f, 400 + m) (fun _ => none)) (f, v) (V (f, 400 + m))) := by
  have hw := h
  obtain ⟨h0, h1, h2, h3, h4, h5, h6, h7, h8⟩ := h
  have hf := Nat.le_refl f
  have hwl : wl (x f).2.1 = wl r := by rw [hS]; exact wl_0 (Or.inr (Or.inl rfl))
  have hwl2 : wl (((4, r0, m + 1) : tE) :: (8, v, 0) :: r) = wl r := by rw [wl_0 (Or.inr (Or.inl rfl)), wl_0 (Or.inl rfl)]
  have h211 := h8 f hf
  have hk2 := h4 f hf
  rw [hS] at hk2
  have hmt4 : kMt y rt V f (4 + r0 / 12) (r0 % 12) m := hk2.1
  obtain ⟨p1, p2⟩ := hmt4 m (Nat.le_refl _) hm
  have hne : ∀ u : Nat, u ≠ v → ((f, u) : Nat × Nat) ≠ (f, v) := fun u hu q => hu (by injection q)
  have hne4 : ∀ u : Nat, u ≠ 400 + m → ((f, u) : Nat × Nat) ≠ (f, 400 + m) := fun u hu q => hu (by injection q)
  have ou : ∀ u : Nat, u ≠ v → u ≠ 400 + m → qUp (qUp V (f, 400 + m) (fun _ => none)) (f, v) (V (f, 400 + m)) (f, u) = V (f, u) := fun u h1 h2 => by rw [qUp_ne (hne u h1), qUp_ne (hne4 u h2)]
  have oj : ∀ j u : Nat, j ≠ f → qUp (qUp V (f, 400 + m) (fun _ => none)) (f, v) (V (f, 400 + m)) (j, u) = V (j, u) ∧ qRt rt (f, v) (vt (x f).1 v) (j, u) = rt (j, u) := fun j u hj => ⟨by rw [qUp_ne (fun q => hj (by injection q)), qUp_ne (fun q => hj (by injection q))], qRt_ne (fun q => hj (by injection q))⟩
  have ov : qUp (qUp V (f, 400 + m) (fun _ => none)) (f, v) (V (f, 400 + m)) (f, v) = V (f, 400 + m) := qUp_eq
  have om : qUp (qUp V (f, 400 + m) (fun _ => none)) (f, v) (V (f, 400 + m)) (f, 400 + m) = fun _ => none := by rw [qUp_ne (hne _ (by omega))]; exact qUp_eq
  have hR : ∀ (u : Nat) (a : lLc), lUp (kR (x f)) v none u = some a → u ≠ v ∧ kR (x f) u = some a := fun u a ha => by
    by_cases c : u = v
    · rw [c, lUp_eq] at ha; simp at ha
    · rw [lUp_ne c] at ha; exact ⟨c, ha⟩
  have hA : ∀ u : Nat, u ≠ v → kA ((x f).1, (4, r0, m + 1) :: (8, v, 0) :: r, 0, lUp (kR (x f)) v none, lUp (kH (x f)) v hd, al2, lo2, kAn (x f)) u → kA (x f) u := fun u c hu => kA_al (x := x f) (by rw [hwl2, hwl]) hn hu (hal u c)
  have vnone : ∀ (π : lLc) (z : Nat × Nat), V (f, v) π = some z → False := fun π z hz => by
    rcases (h5 f v π z hz).2.1 with ⟨a, b⟩ | ⟨a, b⟩ | ⟨a, b⟩ | ⟨r2, m2, i, a, b, b2⟩
    · rw [hS] at b
      rcases List.mem_cons.mp b with q | q
      · injection q with q1 q2; exact absurd q1 (by decide)
      · exact hvS q
    · omega
    · omega
    · omega
  refine kJ_top hw _ rfl rfl (fun j u hj => ⟨(oj j u hj).2, (oj j u hj).1⟩) (fun u => ?_) (lIv_mono2 (h1.1 f hf) (fun u a hu ha => ⟨hA u (hR u a ha).1 hu, (hR u a ha).2⟩) (fun u a l _ ha hl => by show lUp (kH (x f)) v hd u l; rw [lUp_ne (hR u a ha).1]; exact hl) (fun u a hu ha => ?_)) (fun u a hu ha => ?_) (fun u t g1 hv1 hk1 hu => ?_) ⟨?_, trivial, ?_⟩ (fun u π z hz => ?_) (fun w w4 hv1 => ?_) (fun r1 m1 => ?_) (by show wl (((4, r0, m + 1) : tE) :: (8, v, 0) :: r) ≤ 211; omega)
  · by_cases c : u = v
    · rw [c, ov, qRt_eq, hvt, ← p1]; exact h0 _
    · rw [qRt_ne (hne u c)]
      by_cases c2 : u = 400 + m
      · rw [c2, om]; exact qOk_none
      · rw [ou u c c2]; exact h0 _
  · show y.1 (qRt rt (f, v) (vt (x f).1 v) (f, u)) = 6 ↔ y.1 (rt (f, u)) = 6
    rw [qRt_ne (hne u (hR u a ha).1)]
  · obtain ⟨c, ha⟩ := hR u a ha
    have q := h2 f hf u a (hA u c hu) ha
    unfold qTr
    rw [qRt_ne (hne u c)]
    refine ⟨q.1, qTg_eq q.2 (fun q π _ hp hq => ?_)⟩
    obtain ⟨j, w⟩ := q
    have hq : w < 40 := hq
    by_cases cj : j = f
    · subst cj
      have cw : w ≠ v := fun e => by
        subst e
        obtain ⟨τ, z, hz⟩ := hp
        exact vnone _ z hz
      exact ⟨ou w cw (by omega), qRt_ne (hne w cw)⟩
    · exact oj j w cj
  · by_cases c : u = v
    · rw [c, ov] at hv1
      have := (h0 (f, 400 + m)).1 [] t g1 hv1
      have e : t = rt (f, 400 + m) := this.1
      rw [p1, ← hvt] at e
      rw [e] at hk1
      exact absurd hk1 (by rintro (z | z); exact hnr.1 z; exact hnr.2 z)
    · show ∃ a : lLc, lUp (kR (x f)) v none u = some a
      rw [lUp_ne c]
      by_cases c2 : u = 400 + m
      · rw [c2, om] at hv1; simp at hv1
      · rw [ou u c c2] at hv1
        exact h3 f hf u t g1 hv1 hk1 (hA u c hu)
  · intro i hi1 hi2
    obtain ⟨a1, a2⟩ := hmt4 i (by omega) hi2
    rw [qRt_ne (hne _ (by omega)), ou _ (by omega) (by omega)]
    exact ⟨a1, a2⟩
  · exact kK_nm hk2.2 hmt (fun u h1 h2 => ⟨qRt_ne (hne u (by omega)), ou u (by omega) (by omega), lUp_ne (by omega)⟩)
  · by_cases c : u = v
    · refine ⟨Or.inl ⟨by omega, ?_⟩, fun _ => by rw [c, qRt_eq]⟩
      rw [c]
      exact List.mem_cons_of_mem _ (List.mem_cons_self ..)
    · rw [qRt_ne (hne u c)]
      by_cases c2 : u = 400 + m
      · rw [c2, om] at hz; simp at hz
      · rw [ou u c c2] at hz
        obtain ⟨-, k1, k2⟩ := h5 f u π z hz
        refine ⟨?_, k2⟩
        rw [hS] at k1
        rcases k1 with ⟨a, b⟩ | ⟨a, b⟩ | ⟨a, r2, m2, b⟩ | ⟨r2, m2, i, a, b, b2⟩
        · rcases List.mem_cons.mp b with q | q
          · injection q with q1 q2; exact absurd q1 (by decide)
          · exact Or.inl ⟨a, List.mem_cons_of_mem _ (List.mem_cons_of_mem _ q)⟩
        · exact Or.inr (Or.inl ⟨a, by show u < 40 + wl (((4, r0, m + 1) : tE) :: (8, v, 0) :: r); rw [hwl2]; rw [wl_0 (Or.inr (Or.inl rfl))] at b; exact b⟩)
        · rcases b with b | b
          · rcases List.mem_cons.mp b with q | q
            · injection q with q1 q2; exact absurd q1 (by decide)
            · exact absurd (Or.inr (Or.inl rfl)) (hmt _ q)
          · rcases List.mem_cons.mp b with q | q
            · injection q with q1 q2; exact absurd q1 (by decide)
            · exact absurd (Or.inr (Or.inr rfl)) (hmt _ q)
        · rcases List.mem_cons.mp a with q | q
          · injection q with q1 q2
            injection q2 with q3 q4
            exact Or.inr (Or.inr (Or.inr ⟨r0, m + 1, i, List.mem_cons_self .., b, by omega, by rw [← q3]; exact b2.2⟩))
          · exact absurd (Or.inl rfl) (hmt _ q)
  · by_cases c : w = v
    · subst c
      rw [ov, qRt_eq]
      refine ⟨rfl, fun π T g1 g2 g3 => ?_⟩
      have := p2 π T g1 (by rw [← hvt]; exact g2)
      rw [List.nil_append] at this
      exact this
    · rw [ou w c (by omega), qRt_ne (hne w c)]
      have hv2 : (8, w, 0) ∈ (x f).2.1 := by
        rcases List.mem_cons.mp hv1 with q | q
        · injection q with q1 q2; exact absurd q1 (by decide)
        · rcases List.mem_cons.mp q with q | q
          · injection q with q1 q2
            injection q2 with q3 q4
            exact absurd q3 c
          · rw [hS]; exact List.mem_cons_of_mem _ q
      have q := h6 f hf w w4 hv2
      exact ⟨q.1, fun π T g1 g2 g3 => q.2 π T g1 g2 (hlo w π c g3)⟩
  · have no : ∀ e : tE, e ∈ ((4, r0, m + 1) : tE) :: (8, v, 0) :: r → e.1 = 5 ∨ e.1 = 6 → False := fun e he h56 => by
      rcases List.mem_cons.mp he with q | q
      · rw [q] at h56
        exact absurd h56 (by show ¬ ((4 : Nat) = 5 ∨ (4 : Nat) = 6); decide)
      · rcases List.mem_cons.mp q with q | q
        · rw [q] at h56
          exact absurd h56 (by show ¬ ((8 : Nat) = 5 ∨ (8 : Nat) = 6); decide)
        · exact hmt e q (Or.inr h56)
    exact ⟨fun z => (no _ z (Or.inl rfl)).elim, fun z => (no _ z (Or.inr rfl)).elim⟩
end
-- d2.rl.lean.txt
section
/-- a reference is matched on: q its kind, variant g there -/
theorem kJ_sw1 {y : qY} {vt : Nat → Nat → Nat} {tb : Nat → lTb} {f : Nat} {x : Nat → kFm} {rt : Nat × Nat → Nat} {V : Nat × Nat → qV} (hcr : qCr y) (h : kJ y vt tb f x rt V) {r : List tE} {sh g q m : Nat} {a0 : Nat × Nat} {π0 : lLc} {hd : Nat → Prop} (hn : (x f).2.2.1 = 0) (hs9 : 4 + sh < 10000) (hq : q = 1 ∨ q = 2) (hS : (x f).2.1 = (q, 4 + sh, m) :: r) (hmt : ∀ e : tE, e ∈ r → ¬ (e.1 = 4 ∨ e.1 = 5 ∨ e.1 = 6)) (hg : g < 12) (hm : m < 64) (hR : kR (x f) (40 + wl r) = some (a0 :: π0)) (hv : V a0 π0 = some (4 + sh, g)) (hd1 : ∀ l : Nat, kH (x f) (40 + wl r) l → hd l) : kJ y vt tb f (kUx x f ((x f).1, (q + 4, sh * 12 + g, m) :: r, 0, lUp (kR (x f)) 300 (some (a0 :: π0)), lUp (kH (x f)) 300 hd, kal (x f), klo (x f), kAn (x f))) (qRt rt (f, 300) (rt (f, 40 + wl r))) (qUp (kCl V f (wl r)) (f, 300) (V (f, 40 + wl r))) := by
  have hw := h
  obtain ⟨h0, h1, h2, h3, h4, h5, h6, h7, h8⟩ := h
  have hf := Nat.le_refl f
  obtain ⟨e1, e2⟩ := kR_row (sh := sh) hg
  have hnm : kNm (q, 4 + sh, m) := by
    show ¬ (q = 8 ∨ q = 4 ∨ q = 5 ∨ q = 6)
    omega
  have hwl : wl (x f).2.1 = wl r + 1 := by rw [hS]; exact wl_n hnm
  have hmq : (q + 4, sh * 12 + g, m).1 = 8 ∨ (q + 4, sh * 12 + g, m).1 = 4 ∨ (q + 4, sh * 12 + g, m).1 = 5 ∨ (q + 4, sh * 12 + g, m).1 = 6 := by
    show q + 4 = 8 ∨ q + 4 = 4 ∨ q + 4 = 5 ∨ q + 4 = 6
    omega
  have hwl2 : wl (((q + 4, sh * 12 + g, m) : tE) :: r) = wl r := wl_0 hmq
  have h211 := h8 f hf
  have hk2 := h4 f hf
  rw [hS] at hk2
  have hAt : kA (x f) (40 + wl r) := Or.inr ⟨by omega, by omega⟩
  have hT := h2 f hf _ _ hAt hR
  have hrt : rt (f, 40 + wl r) = 9999 + q + 2 * (4 + sh) ∧ ∃ z : Nat × Nat, V (f, 40 + wl r) [] = some z := by
    have hk3 := hk2.1
    rcases hq with rfl | rfl
    · exact ⟨by have := hk3.1; omega, hk3.2⟩
    · exact ⟨by have := hk3.1; omega, hk3.2⟩
  have hun : (y.1 (rt (f, 40 + wl r)) = 6 ↔ q + 4 = 6) ∧ (y.1 (rt (f, 40 + wl r)) = 5 ∨ y.1 (rt (f, 40 + wl r)) = 6) ∧ y.2.1 (rt (f, 40 + wl r)) = 4 + sh := by
    obtain ⟨c1, c2, c3, c4⟩ := hcr (4 + sh) hs9
    rcases hq with rfl | rfl
    · rw [hrt.1, show 9999 + 1 + 2 * (4 + sh) = 10000 + 2 * (4 + sh) by omega, c1, c2]
      exact ⟨by decide, by decide, rfl⟩
    · rw [hrt.1, show 9999 + 2 + 2 * (4 + sh) = 10001 + 2 * (4 + sh) by omega, c3, c4]
      exact ⟨by decide, by decide, rfl⟩
  have hne : ∀ u : Nat, u ≠ 300 → ((f, u) : Nat × Nat) ≠ (f, 300) := fun u hu q => hu (by injection q)
  have V3 : qUp (kCl V f (wl r)) (f, 300) (V (f, 40 + wl r)) (f, 300) = V (f, 40 + wl r) := qUp_eq
  have Vo : ∀ u : Nat, u ≠ 300 → qUp (kCl V f (wl r)) (f, 300) (V (f, 40 + wl r)) (f, u) = kCl V f (wl r) (f, u) := fun u hu => qUp_ne (hne u hu)
  have Vl : ∀ j u : Nat, u < 40 → qUp (kCl V f (wl r)) (f, 300) (V (f, 40 + wl r)) (j, u) = V (j, u) ∧ qRt rt (f, 300) (rt (f, 40 + wl r)) (j, u) = rt (j, u) := fun j u hu => by
    have : ((j, u) : Nat × Nat) ≠ (f, 300) := fun q => by injection q with q1 q2; omega
    refine ⟨?_, qRt_ne this⟩
    rw [qUp_ne this]
    by_cases c : j = f
    · rw [c]; exact kCl_out (Or.inl (by omega))
    · exact kCl_f c
  have hA : ∀ u : Nat, kA ((x f).1, (q + 4, sh * 12 + g, m) :: r, 0, lUp (kR (x f)) 300 (some (a0 :: π0)), lUp (kH (x f)) 300 hd, kal (x f), klo (x f), kAn (x f)) u → kA (x f) u ∧ u < 40 + wl r := fun u hu => by
    rcases hu with ⟨a, b⟩ | ⟨a, b⟩
    · exact ⟨Or.inl ⟨a, b⟩, by omega⟩
    · have b : u < 40 + wl (((q + 4, sh * 12 + g, m) : tE) :: r) + 0 := b
      exact ⟨Or.inr ⟨a, by omega⟩, by omega⟩
  have hRu : ∀ u : Nat, u < 40 + wl r → lUp (kR (x f)) 300 (some (a0 :: π0)) u = kR (x f) u := fun u hu => lUp_ne (by omega)
  have mem : ∀ e : tE, e.1 ≠ q → e ∈ (x f).2.1 → e ∈ r := fun e he hm => by
    rw [hS] at hm
    rcases List.mem_cons.mp hm with z | z
    · exact absurd (by rw [z]) he
    · exact z
  obtain ⟨r1, π1, ea, ra4, rw1, rf1⟩ := hT.2
  injection ea with ea1 ea2
  subst ea1; subst ea2
  have pm : ∀ k : Nat, k = q + 4 → kPm y (qRt rt (f, 300) (rt (f, 40 + wl r))) (qUp (kCl V f (wl r)) (f, 300) (V (f, 40 + wl r))) f (tb (x f).1) ((x f).1, (q + 4, sh * 12 + g, m) :: r, 0, lUp (kR (x f)) 300 (some (a0 :: π0)), lUp (kH (x f)) 300 hd, kal (x f), klo (x f), kAn (x f)) k (sh * 12 + g) m := fun k hk => by
    subst hk
    refine ⟨a0, π0, (show lUp (kR (x f)) 300 (some (a0 :: π0)) 300 = some (a0 :: π0) from lUp_eq), ra4, ?_, ?_, ?_, fun u b hu hb hqq hc => ?_⟩
    · rw [e1]
      obtain ⟨j, w⟩ := a0
      rw [(Vl j w ra4).2, ← hun.2.2]; exact rw1
    · rw [e1, e2]
      obtain ⟨j, w⟩ := a0
      rw [(Vl j w ra4).1]; exact hv
    · refine lOk_mono (fun l hl => ?_) (fun z => hun.1.mpr z) (lP_rf _) ((h1.1 f hf).1 _ _ hAt hR)
      show lUp (kH (x f)) 300 hd 300 l
      rw [lUp_eq]; exact hd1 l hl
    · obtain ⟨u1, u2⟩ := hA u hu
      have hb : lUp (kR (x f)) 300 (some (a0 :: π0)) u = some b := hb
      rw [hRu u u2] at hb
      rw [qRt_ne (hne u (by omega))] at hqq
      rcases (h1.1 f hf).2 (40 + wl r) u (a0 :: π0) b (by omega) hAt u1 hR hb (hqq.imp hun.1.mpr id) hc with z | z
      · obtain ⟨z0, l, σ, z1, z2, z3, z4, z5, z6⟩ := z
        refine Or.inr ⟨z0, l, σ, z1, ?_, z3, z4, z5, fun z => z6 (hun.1.mpr z)⟩
        show lUp (kH (x f)) 300 hd 300 l
        rw [lUp_eq]; exact hd1 l z2
      · exact absurd z.1 (by omega)
  refine kJ_top hw _ rfl rfl (fun j u hj => ⟨qRt_ne (fun q => hj (by injection q)), by rw [qUp_ne (fun q => hj (by injection q))]; exact kCl_f hj⟩) (fun u => ?_) (lIv_mono2 (h1.1 f hf) (fun u a hu ha => ⟨(hA u hu).1, by have ha : lUp (kR (x f)) 300 (some (a0 :: π0)) u = some a := ha; rw [hRu u (hA u hu).2] at ha; exact ha⟩) (fun u a l hu _ hl => by show lUp (kH (x f)) 300 hd u l; rw [lUp_ne (by have := (hA u hu).2; omega)]; exact hl) (fun u a hu _ => ?_)) (fun u a hu ha => ?_) (fun u t g1 hv1 hk1 hu => ?_) ⟨?_, ?_⟩ (fun u π z hz => ?_) (fun v v4 hv1 => ?_) (fun r1 m1 => ?_) (by show wl (((q + 4, sh * 12 + g, m) : tE) :: r) ≤ 211; omega)
  · by_cases c : u = 300
    · rw [c, V3, qRt_eq]; exact h0 _
    · rw [Vo u c, qRt_ne (hne u c)]
      by_cases c4 : u < 40 + wl r ∨ 300 ≤ u
      · rw [kCl_out c4]; exact h0 _
      · rw [show kCl V f (wl r) (f, u) = fun _ => none from funext (fun π => kCl_in (by omega) (by omega))]; exact qOk_none
  · show y.1 (qRt rt (f, 300) (rt (f, 40 + wl r)) (f, u)) = 6 ↔ y.1 (rt (f, u)) = 6
    rw [qRt_ne (hne u (by have := (hA u hu).2; omega))]
  · obtain ⟨u1, u2⟩ := hA u hu
    have ha : lUp (kR (x f)) 300 (some (a0 :: π0)) u = some a := ha
    rw [hRu u u2] at ha
    have q := h2 f hf u a u1 ha
    unfold qTr
    rw [qRt_ne (hne u (by omega))]
    exact ⟨q.1, qTg_eq q.2 (fun q π _ _ hq => by obtain ⟨j, v⟩ := q; exact Vl j v hq)⟩
  · obtain ⟨u1, u2⟩ := hA u hu
    rw [Vo u (by omega)] at hv1
    show ∃ a : lLc, lUp (kR (x f)) 300 (some (a0 :: π0)) u = some a
    rw [hRu u u2]
    exact h3 f hf u t g1 (kCl_some hv1).2 hk1 u1
  · rcases hq with rfl | rfl
    · show qRt rt (f, 300) (rt (f, 40 + wl r)) (f, 300) = 10000 + 2 * (4 + (sh * 12 + g) / 12) ∧ ∃ z : Nat × Nat, qUp (kCl V f (wl r)) (f, 300) (V (f, 40 + wl r)) (f, 300) [] = some z
      rw [qRt_eq, V3, e1]
      exact ⟨by have := hrt.1; omega, hrt.2⟩
    · show qRt rt (f, 300) (rt (f, 40 + wl r)) (f, 300) = 10001 + 2 * (4 + (sh * 12 + g) / 12) ∧ ∃ z : Nat × Nat, qUp (kCl V f (wl r)) (f, 300) (V (f, 40 + wl r)) (f, 300) [] = some z
      rw [qRt_eq, V3, e1]
      exact ⟨by have := hrt.1; omega, hrt.2⟩
  · refine kK_nm hk2.2 hmt (fun u h1 h2 => ⟨qRt_ne (hne u (by omega)), ?_, hRu u h2⟩)
    rw [Vo u (by omega)]
    exact kCl_out (Or.inl h2)
  · by_cases c : u = 300
    · refine ⟨Or.inr (Or.inr (Or.inl ⟨c, sh * 12 + g, m, ?_⟩)), fun z => by omega⟩
      rcases hq with rfl | rfl
      · exact Or.inl (List.mem_cons_self ..)
      · exact Or.inr (List.mem_cons_self ..)
    · rw [Vo u c] at hz
      rw [qRt_ne (hne u c)]
      obtain ⟨c1, hz⟩ := kCl_some hz
      obtain ⟨-, k1, k2⟩ := h5 f u π z hz
      refine ⟨?_, k2⟩
      rcases k1 with ⟨a, b⟩ | ⟨a, b⟩ | ⟨a, r2, m2, b⟩ | ⟨r2, m2, i, a, b, b2⟩
      · exact Or.inl ⟨a, List.mem_cons_of_mem _ (mem _ (by show (8 : Nat) ≠ q; omega) b)⟩
      · exact Or.inr (Or.inl ⟨a, by show u < 40 + wl (((q + 4, sh * 12 + g, m) : tE) :: r); omega⟩)
      · exact absurd a c
      · exact absurd (Or.inl rfl) (hmt _ (mem _ (by show (4 : Nat) ≠ q; omega) a))
  · have hv2 : (8, v, 0) ∈ (x f).2.1 := by
      rcases List.mem_cons.mp hv1 with z | z
      · injection z with q1 q2; omega
      · rw [hS]; exact List.mem_cons_of_mem _ z
    rw [(Vl f v v4).1, (Vl f v v4).2]
    exact h6 f hf v v4 hv2
  · refine ⟨fun z => ?_, fun z => ?_⟩
    · rcases List.mem_cons.mp z with z | z
      · injection z with q1 q2
        injection q2 with q3 q4
        rw [q3, q4]
        exact pm 5 q1
      · exact absurd (Or.inr (Or.inl rfl)) (hmt _ z)
    · rcases List.mem_cons.mp z with z | z
      · injection z with q1 q2
        injection q2 with q3 q4
        rw [q3, q4]
        exact pm 6 q1
      · exact absurd (Or.inr (Or.inr rfl)) (hmt _ z)
theorem lP_split {a : lLc} {c d : Nat × Nat} {s t : lLc} (h : lCmp (a ++ c :: s) (a ++ d :: t)) : c = d := (lCmp_cons (lCmp_shift h)).1
/-- part j of the place that is matched on is lent to variable v -/
theorem kJ_bindR {y : qY} {vt : Nat → Nat → Nat} {tb : Nat → lTb} {f : Nat} {x : Nat → kFm} {rt : Nat × Nat → Nat} {V : Nat × Nat → qV} (hcr : qCr y) (h : kJ y vt tb f x rt V) {r : List tE} {r0 q m v : Nat} {hd : Nat → Prop} {al2 : Nat → Prop} {lo2 : Nat → lLc → Prop} (hn : (x f).2.2.1 = 0) (ht9 : y.2.2.2.2 (4 + r0 / 12) (r0 % 12) (m / 64) < 10000) (hq : q = 5 ∨ q = 6) (hS : (x f).2.1 = (q, r0, m) :: r) (hmt : ∀ e : tE, e ∈ r → ¬ (e.1 = 4 ∨ e.1 = 5 ∨ e.1 = 6)) (hv4 : v < 40) (hvS : (8, v, 0) ∉ r) (hk3 : y.1 (4 + r0 / 12) = 3) (hm : m / 64 < y.2.2.2.1 (4 + r0 / 12) (r0 % 12)) (hvt : vt (x f).1 v = 9995 + q + 2 * y.2.2.2.2 (4 + r0 / 12) (r0 % 12) (m / 64)) (hal : ∀ u : Nat, u ≠ v → al2 u → kal (x f) u) (hlo : ∀ (w : Nat) (π : lLc), w ≠ v → ¬ lo2 w π → ¬ klo (x f) w π) (hd1 : ∀ l : Nat, kH (x f) 300 l → hd l) : ∃ (a0 : Nat × Nat) (π0 : lLc), kR (x f) 300 = some (a0 :: π0) ∧ V a0 π0 = some (4 + r0 / 12, r0 % 12) ∧ a0.2 < 40 ∧ qW y (rt a0) π0 (4 + r0 / 12) ∧ kJ y vt tb f (kUx x f ((x f).1, (q, r0, m + 64) :: (8, v, 0) :: r, 0, lUp (kR (x f)) v (some (a0 :: (π0 ++ [(r0 % 12 + 2, m / 64)]))), lUp (kH (x f)) v hd, al2, lo2, kAn (x f))) (qRt rt (f, v) (vt (x f).1 v)) (qUp V (f, v) (qL (vt (x f).1 v))) := by
  have hw := h
  obtain ⟨h0, h1, h2, h3, h4, h5, h6, h7, h8⟩ := h
  have hf := Nat.le_refl f
  have hpm : kPm y rt V f (tb (x f).1) (x f) q r0 m := by
    rcases hq with rfl | rfl
    · exact ((h7 f hf r0 m).1 (by rw [hS]; exact List.mem_cons_self ..)).2
    · exact ((h7 f hf r0 m).2 (by rw [hS]; exact List.mem_cons_self ..)).2
  obtain ⟨a0, π0, p1, p2, p3, p4, p5, p6⟩ := hpm
  refine ⟨a0, π0, p1, p4, p2, p3, ?_⟩
  have hmq : ∀ m2 : Nat, (q, r0, m2).1 = 8 ∨ (q, r0, m2).1 = 4 ∨ (q, r0, m2).1 = 5 ∨ (q, r0, m2).1 = 6 := fun m2 => by
    show q = 8 ∨ q = 4 ∨ q = 5 ∨ q = 6
    omega
  have hwl : wl (x f).2.1 = wl r := by rw [hS]; exact wl_0 (hmq m)
  have hwl2 : wl (((q, r0, m + 64) : tE) :: (8, v, 0) :: r) = wl r := by rw [wl_0 (hmq _), wl_0 (Or.inl rfl)]
  have h211 := h8 f hf
  have hk2 := h4 f hf
  rw [hS] at hk2
  generalize hc0 : a0 :: (π0 ++ [(r0 % 12 + 2, m / 64)]) = cc
  have hcc : cc = (a0 :: π0) ++ [(r0 % 12 + 2, m / 64)] := by rw [← hc0]; rfl
  have hlc : lP (a0 :: π0) cc := by rw [hcc]; exact lP_app _ _
  obtain ⟨w1, w2, w3, w4, w5⟩ := (h0 a0).1 π0 _ _ p4
  have hgn := w3 hk3
  have hne : ∀ u : Nat, u ≠ v → ((f, u) : Nat × Nat) ≠ (f, v) := fun u hu q => hu (by injection q)
  have hkv : (y.1 (vt (x f).1 v) = 6 ↔ q = 6) ∧ (y.1 (vt (x f).1 v) = 5 ∨ y.1 (vt (x f).1 v) = 6) ∧ y.2.1 (vt (x f).1 v) = y.2.2.2.2 (4 + r0 / 12) (r0 % 12) (m / 64) := by
    obtain ⟨c1, c2, c3, c4⟩ := hcr (y.2.2.2.2 (4 + r0 / 12) (r0 % 12) (m / 64)) ht9
    rcases hq with rfl | rfl
    · rw [hvt, show 9995 + 5 + 2 * y.2.2.2.2 (4 + r0 / 12) (r0 % 12) (m / 64) = 10000 + 2 * y.2.2.2.2 (4 + r0 / 12) (r0 % 12) (m / 64) by omega, c1, c2]
      exact ⟨by decide, by decide, rfl⟩
    · rw [hvt, show 9995 + 6 + 2 * y.2.2.2.2 (4 + r0 / 12) (r0 % 12) (m / 64) = 10001 + 2 * y.2.2.2.2 (4 + r0 / 12) (r0 % 12) (m / 64) by omega, c3, c4]
      exact ⟨by decide, by decide, rfl⟩
  have k2 : y.1 (vt (x f).1 v) ≠ 2 ∧ y.1 (vt (x f).1 v) ≠ 3 ∧ y.1 (vt (x f).1 v) ≠ 4 := by
    rcases hkv.2.1 with q | q <;> rw [q] <;> decide
  have vnone : ∀ (π : lLc) (z : Nat × Nat), V (f, v) π = some z → False := fun π z hz => by
    rcases (h5 f v π z hz).2.1 with ⟨a, b⟩ | ⟨a, b⟩ | ⟨a, b⟩ | ⟨r2, m2, i, a, b, b2⟩
    · rw [hS] at b
      rcases List.mem_cons.mp b with z | z
      · injection z with q1 q2; omega
      · exact hvS z
    · omega
    · omega
    · omega
  have hTg : ∀ (b : lLc) (T : Nat), qTg y rt V b T → qTg y (qRt rt (f, v) (vt (x f).1 v)) (qUp V (f, v) (qL (vt (x f).1 v))) b T := fun b T hb => qTg_eq hb (fun q π e hp hr => by
    have : q ≠ (f, v) := fun z => by
      subst z
      obtain ⟨τ, z, hz⟩ := hp
      exact vnone _ z hz
    exact ⟨qUp_ne this, qRt_ne this⟩)
  have hA : ∀ u : Nat, u ≠ v → kA ((x f).1, (q, r0, m + 64) :: (8, v, 0) :: r, 0, lUp (kR (x f)) v (some cc), lUp (kH (x f)) v hd, al2, lo2, kAn (x f)) u → kA (x f) u ∧ ((u < 40 ∧ al2 u) ∨ (40 ≤ u ∧ u < 40 + wl (x f).2.1)) := fun u c hu => by
    refine ⟨kA_al (x := x f) (by rw [hwl2, hwl]) hn hu (hal u c), ?_⟩
    rcases hu with z | ⟨z1, z2⟩
    · exact Or.inl z
    · exact Or.inr ⟨z1, by have z2 : u < 40 + wl (((q, r0, m + 64) : tE) :: (8, v, 0) :: r) + 0 := z2; omega⟩
  have inv : ∀ (u : Nat) (b : lLc), kA (x f) u → kR (x f) u = some b → (q = 6 ∨ y.1 (rt (f, u)) = 6) → lCmp cc b → u < 40 ∧ ∃ (l : Nat) (σ : lLc), ¬ (tb (x f).1).2.2.2.1 l ∧ kH (x f) 300 l ∧ (tb (x f).1).1 l = u ∧ (tb (x f).1).2.1 l = (1, 0) :: σ ∧ lP (b ++ σ) (a0 :: π0) ∧ (q = 6 → ¬ (tb (x f).1).2.2.1 l) := fun u b hu hb hqq hc => by
    rcases p6 u b hu hb hqq (lCmp_pre hlc hc) with ⟨i, hi, hb2⟩ | z
    · obtain ⟨s, rfl⟩ := hb2
      rw [hcc] at hc
      have hc2 : lCmp ((a0 :: π0) ++ (r0 % 12 + 2, m / 64) :: []) ((a0 :: π0) ++ (r0 % 12 + 2, i) :: s) := by
        have e : a0 :: (π0 ++ [(r0 % 12 + 2, i)]) ++ s = (a0 :: π0) ++ (r0 % 12 + 2, i) :: s := by simp
        rw [← e]; exact hc
      have := lP_split hc2
      injection this with e3 e4
      omega
    · exact z
  have hok : lOk f (tb (x f).1) (kAn (x f)) hd (y.1 (vt (x f).1 v) = 6) cc := lOk_mono hd1 hkv.1.mp hlc p5
  have hlv := lIv_new (t := v) (hd := hd) (un := y.1 (vt (x f).1 v) = 6) (a := cc) (A2 := fun u => ((u < 40 ∧ al2 u) ∨ (40 ≤ u ∧ u < 40 + wl (x f).2.1)) ∧ u ≠ v) (h1.1 f hf) (fun u hu c => by
    rcases hu.1 with ⟨a, b⟩ | ⟨a, b⟩
    · exact Or.inl ⟨a, hal u c b⟩
    · exact Or.inr ⟨a, by omega⟩) hok (fun u hu c b hb hqq hc => by
    obtain ⟨z0, l, σ, z1, z2, z3, z4, z5, z6⟩ := inv u b (by
      rcases hu.1 with ⟨a, b⟩ | ⟨a, b⟩
      · exact Or.inl ⟨a, hal u c b⟩
      · exact Or.inr ⟨a, by omega⟩) hb (hqq.imp hkv.1.mp id) hc
    exact ⟨z0, l, σ, z1, hd1 l z2, z3, z4, lP_tr z5 hlc, fun z => z6 (hkv.1.mp z)⟩)
  have pm : ∀ k : Nat, k = q → kPm y (qRt rt (f, v) (vt (x f).1 v)) (qUp V (f, v) (qL (vt (x f).1 v))) f (tb (x f).1) ((x f).1, (q, r0, m + 64) :: (8, v, 0) :: r, 0, lUp (kR (x f)) v (some cc), lUp (kH (x f)) v hd, al2, lo2, kAn (x f)) k r0 (m + 64) := fun k hk => by
    subst hk
    have ha0 : a0 ≠ (f, v) := fun z => by subst z; exact vnone _ _ p4
    refine ⟨a0, π0, (show lUp (kR (x f)) v (some cc) 300 = some (a0 :: π0) by rw [lUp_ne (by omega)]; exact p1), p2, by rw [qRt_ne ha0]; exact p3, by rw [qUp_ne ha0]; exact p4, ?_, fun u b hu hb hqq hc => ?_⟩
    · refine lOk_mono (fun l hl => ?_) id (lP_rf _) p5
      show lUp (kH (x f)) v hd 300 l
      rw [lUp_ne (by omega)]; exact hl
    · have hb : lUp (kR (x f)) v (some cc) u = some b := hb
      by_cases c : u = v
      · rw [c, lUp_eq] at hb
        obtain rfl := Option.some.inj hb
        exact Or.inl ⟨m / 64, by omega, by rw [← hc0]; exact lP_rf _⟩
      · rw [lUp_ne c] at hb
        rw [qRt_ne (hne u c)] at hqq
        rcases p6 u b (hA u c hu).1 hb hqq hc with ⟨i, hi, z⟩ | ⟨z0, l, σ, z1, z2, z3⟩
        · exact Or.inl ⟨i, by omega, z⟩
        · refine Or.inr ⟨z0, l, σ, z1, ?_, z3⟩
          show lUp (kH (x f)) v hd 300 l
          rw [lUp_ne (by omega)]; exact z2
  refine kJ_top hw _ rfl rfl (fun j u hj => ⟨qRt_ne (fun q => hj (by injection q)), qUp_ne (fun q => hj (by injection q))⟩) (fun u => ?_) (lIv_mono2 hlv (fun u b hu hb => ⟨?_, hb⟩) (fun u b l hu hb hl => hl) (fun u b hu _ => ?_)) (fun u a hu ha => ?_) (fun u t g1 hv1 hk1 hu => ?_) ⟨?_, trivial, ?_⟩ (fun u π z hz => ?_) (fun w w4 hv1 => ?_) (fun r1 m1 => ?_) (by show wl (((q, r0, m + 64) : tE) :: (8, v, 0) :: r) ≤ 211; omega)
  · by_cases c : u = v
    · rw [c, qUp_eq, qRt_eq]; exact (qFu_L k2.1 k2.2.1 k2.2.2).1
    · rw [qUp_ne (hne u c), qRt_ne (hne u c)]; exact h0 _
  · by_cases c : u = v
    · exact Or.inr c
    · exact Or.inl ⟨(hA u c hu).2, c⟩
  · show y.1 (qRt rt (f, v) (vt (x f).1 v) (f, u)) = 6 ↔ lUp (kfr y rt f (x f)).2.2.2 v (y.1 (vt (x f).1 v) = 6) u
    by_cases c : u = v
    · rw [c, qRt_eq, lUp_eq]
    · rw [lUp_ne c, qRt_ne (hne u c)]; exact Iff.rfl
  · have ha : lUp (kR (x f)) v (some cc) u = some a := ha
    unfold qTr
    by_cases c : u = v
    · rw [c, lUp_eq] at ha
      obtain rfl := Option.some.inj ha
      rw [c, qRt_eq]
      refine ⟨hkv.2.1, hTg _ _ ?_⟩
      rw [hkv.2.2]
      exact ⟨a0, π0 ++ [(r0 % 12 + 2, m / 64)], hc0.symm, p2, qW_app p3 (show qW y (4 + r0 / 12) [(r0 % 12 + 2, m / 64)] _ from ⟨hk3, hgn, hm, rfl⟩), w5 hk3 _ hm⟩
    · rw [lUp_ne c] at ha
      rw [qRt_ne (hne u c)]
      have q := h2 f hf u a (hA u c hu).1 ha
      exact ⟨q.1, hTg _ _ q.2⟩
  · show ∃ a : lLc, lUp (kR (x f)) v (some cc) u = some a
    by_cases c : u = v
    · rw [c, lUp_eq]; exact ⟨cc, rfl⟩
    · rw [qUp_ne (hne u c)] at hv1
      rw [lUp_ne c]
      exact h3 f hf u t g1 hv1 hk1 (hA u c hu).1
  · have hk4 := hk2.1
    rcases hq with rfl | rfl
    · show qRt rt (f, v) (vt (x f).1 v) (f, 300) = 10000 + 2 * (4 + r0 / 12) ∧ ∃ z : Nat × Nat, qUp V (f, v) (qL (vt (x f).1 v)) (f, 300) [] = some z
      rw [qRt_ne (hne 300 (by omega)), qUp_ne (hne 300 (by omega))]; exact hk4
    · show qRt rt (f, v) (vt (x f).1 v) (f, 300) = 10001 + 2 * (4 + r0 / 12) ∧ ∃ z : Nat × Nat, qUp V (f, v) (qL (vt (x f).1 v)) (f, 300) [] = some z
      rw [qRt_ne (hne 300 (by omega)), qUp_ne (hne 300 (by omega))]; exact hk4
  · exact kK_nm hk2.2 hmt (fun u h1 h2 => ⟨qRt_ne (hne u (by omega)), qUp_ne (hne u (by omega)), lUp_ne (by omega)⟩)
  · by_cases c : u = v
    · refine ⟨Or.inl ⟨by omega, ?_⟩, fun _ => by rw [c, qRt_eq]⟩
      rw [c]
      exact List.mem_cons_of_mem _ (List.mem_cons_self ..)
    · rw [qRt_ne (hne u c)]
      rw [qUp_ne (hne u c)] at hz
      obtain ⟨-, k1, k2⟩ := h5 f u π z hz
      refine ⟨?_, k2⟩
      rw [hS] at k1
      rcases k1 with ⟨a, b⟩ | ⟨a, b⟩ | ⟨a, r2, m2, b⟩ | ⟨r2, m2, i, a, b, b2⟩
      · rcases List.mem_cons.mp b with z | z
        · injection z with q1 q2; omega
        · exact Or.inl ⟨a, List.mem_cons_of_mem _ (List.mem_cons_of_mem _ z)⟩
      · exact Or.inr (Or.inl ⟨a, by show u < 40 + wl (((q, r0, m + 64) : tE) :: (8, v, 0) :: r); rw [hwl2]; rw [wl_0 (hmq m)] at b; exact b⟩)
      · refine Or.inr (Or.inr (Or.inl ⟨a, r0, m + 64, ?_⟩))
        rcases hq with rfl | rfl
        · exact Or.inl (List.mem_cons_self ..)
        · exact Or.inr (List.mem_cons_self ..)
      · rcases List.mem_cons.mp a with z | z
        · injection z with q1 q2; omega
        · exact absurd (Or.inl rfl) (hmt _ z)
  · by_cases c : w = v
    · subst c
      rw [qUp_eq, qRt_eq]
      refine ⟨rfl, fun π T g1 g2 g3 => ?_⟩
      have := (qFu_L k2.1 k2.2.1 k2.2.2).2 π T g1 g2
      rw [List.nil_append] at this
      exact this
    · rw [qUp_ne (hne w c), qRt_ne (hne w c)]
      have hv2 : (8, w, 0) ∈ (x f).2.1 := by
        rcases List.mem_cons.mp hv1 with z | z
        · injection z with q1 q2; omega
        · rcases List.mem_cons.mp z with z | z
          · injection z with q1 q2
            injection q2 with q3 q4
            exact absurd q3 c
          · rw [hS]; exact List.mem_cons_of_mem _ z
      have z := h6 f hf w w4 hv2
      exact ⟨z.1, fun π T g1 g2 g3 => z.2 π T g1 g2 (hlo w π c g3)⟩
  · have no : ∀ e : tE, e ∈ ((8, v, 0) : tE) :: r → e.1 = 5 ∨ e.1 = 6 → False := fun e he h56 => by
      rcases List.mem_cons.mp he with z | z
      · rw [z] at h56
        exact absurd h56 (by show ¬ ((8 : Nat) = 5 ∨ (8 : Nat) = 6); decide)
      · exact hmt e z (Or.inr h56)
    refine ⟨fun z => ?_, fun z => ?_⟩
    · rcases List.mem_cons.mp z with z | z
      · injection z with q1 q2
        injection q2 with q3 q4
        rw [q3, q4]
        exact pm 5 q1
      · exact (no _ z (Or.inl rfl)).elim
    · rcases List.mem_cons.mp z with z | z
      · injection z with q1 q2
        injection q2 with q3 q4
        rw [q3, q4]
        exact pm 6 q1
      · exact (no _ z (Or.inr rfl)).elim
end
-- d2.rm.lean.txt
section
/-- entries that differ in the type of one value alone -/
theorem ty_mem {E S : List tE} {t1 t2 m : Nat} {e : tE} (he : e.1 ≠ 0) : e ∈ E ++ (0, t1, m) :: S ↔ e ∈ E ++ (0, t2, m) :: S := by
  rw [List.mem_append, List.mem_append, List.mem_cons, List.mem_cons]
  constructor
  · rintro (h | h | h)
    · exact Or.inl h
    · rw [h] at he; exact absurd rfl he
    · exact Or.inr (Or.inr h)
  · rintro (h | h | h)
    · exact Or.inl h
    · rw [h] at he; exact absurd rfl he
    · exact Or.inr (Or.inr h)
theorem ty_wl {E S : List tE} {t1 t2 m : Nat} : wl (E ++ (0, t2, m) :: S) = wl (E ++ (0, t1, m) :: S) := by
  rw [wl_app, wl_app]; rfl
theorem kK_app {y : qY} {rt : Nat × Nat → Nat} {V : Nat × Nat → qV} {j : Nat} {x : kFm} : ∀ {E S : List tE}, kK y rt V j x (E ++ S) → kK y rt V j x S
  | [], S, h => h
  | e :: E, S, h => kK_app (E := E) h.2
theorem kK_ty {y : qY} {rt rt2 : Nat × Nat → Nat} {V V2 : Nat × Nat → qV} {j : Nat} {x x2 : kFm} {S : List tE} {t1 t2 m : Nat} (hS : kK y rt2 V2 j x2 ((0, t2, m) :: S)) (hw : wl S < 260) (hg : ∀ u : Nat, u ≠ 40 + wl S → rt2 (j, u) = rt (j, u) ∧ V2 (j, u) = V (j, u) ∧ kR x2 u = kR x u) : ∀ {E : List tE}, kK y rt V j x (E ++ (0, t1, m) :: S) → kK y rt2 V2 j x2 (E ++ (0, t2, m) :: S)
  | [], _ => hS
  | e :: E, h => by
    refine ⟨?_, kK_ty hS hw hg h.2⟩
    have e0 : wl (E ++ (0, t2, m) :: S) = wl (E ++ (0, t1, m) :: S) := ty_wl
    show kE y rt2 V2 j x2 (wl (E ++ (0, t2, m) :: S)) e
    rw [e0]
    refine kE_cg h.1 (fun u hu => hg u ?_)
    have e1 : wl (E ++ (0, t1, m) :: S) = wl E + (wl S + 1) := by rw [wl_app]; rfl
    rw [e1] at hu
    omega
/-- a value of one cell is told as one of another type of one cell (a token is an int, and back) -/
theorem kJ_rty {y : qY} {vt : Nat → Nat → Nat} {tb : Nat → lTb} {f : Nat} {x : Nat → kFm} {rt : Nat × Nat → Nat} {V : Nat × Nat → qV} (h : kJ y vt tb f x rt V) {E S : List tE} {t1 t2 m : Nat} (hS : (x f).2.1 = E ++ (0, t1, m) :: S) (hk : y.1 t2 ≠ 2 ∧ y.1 t2 ≠ 3 ∧ y.1 t2 ≠ 4 ∧ y.1 t2 ≠ 5 ∧ y.1 t2 ≠ 6) (ht : t2 ≠ 0) : kJ y vt tb f (kUx x f ((x f).1, E ++ (0, t2, m) :: S, (x f).2.2.1, kR (x f), kH (x f), kal (x f), klo (x f), kAn (x f))) (qRt rt (f, 40 + wl S) t2) (qUp V (f, 40 + wl S) (qL t2)) := by
  have hw := h
  obtain ⟨h0, h1, h2, h3, h4, h5, h6, h7, h8⟩ := h
  have hf := Nat.le_refl f
  have hwl : wl (E ++ (0, t2, m) :: S) = wl (x f).2.1 := by rw [hS]; exact ty_wl
  have hS2 : wl S < 211 := by
    have e1 : wl (E ++ (0, t1, m) :: S) = wl E + (wl S + 1) := by rw [wl_app]; rfl
    have := h8 f hf
    rw [hS, e1] at this
    omega
  have hK : kK y rt V f (x f) (E ++ (0, t1, m) :: S) := by rw [← hS]; exact h4 f hf
  have hK0 := kK_app hK
  have hRn : kR (x f) (40 + wl S) = none := by
    have := hK0.1
    unfold kE at this
    exact this.1
  have ne : ∀ (u : Nat) (a : lLc), kR (x f) u = some a → u ≠ 40 + wl S := fun u a ha e => by rw [e, hRn] at ha; simp at ha
  have rtn : ∀ j u : Nat, (j, u) ≠ (f, 40 + wl S) → qRt rt (f, 40 + wl S) t2 (j, u) = rt (j, u) ∧ qUp V (f, 40 + wl S) (qL t2) (j, u) = V (j, u) := fun j u e => ⟨qRt_ne e, qUp_ne e⟩
  have nef : ∀ u : Nat, u ≠ 40 + wl S → (f, u) ≠ (f, 40 + wl S) := fun u e q => by
    injection q with _ q2
    exact e q2
  have hA : ∀ u : Nat, kA ((x f).1, E ++ (0, t2, m) :: S, (x f).2.2.1, kR (x f), kH (x f), kal (x f), klo (x f), kAn (x f)) u → kA (x f) u := fun u hu => by
    rcases hu with z | ⟨z1, z2⟩
    · exact Or.inl z
    · refine Or.inr ⟨z1, ?_⟩
      have z2 : u < 40 + wl (E ++ (0, t2, m) :: S) + (x f).2.2.1 := z2
      rw [hwl] at z2; exact z2
  refine kJ_top hw _ rfl rfl (fun j u hj => rtn j u (fun q => hj (by injection q))) (fun u => ?_) (lIv_mono2 (h1.1 f hf) (fun u a hu ha => ⟨hA u hu, ha⟩) (fun u a l _ _ hl => hl) (fun u a hu ha => ?_)) (fun u a hu ha => ?_) (fun u t g hv hk2 hu => ?_) ?_ (fun u π z hz => ?_) (fun v v4 hvS => ?_) (fun r m2 => ⟨fun hm => ?_, fun hm => ?_⟩) ?_
  · by_cases e : u = 40 + wl S
    · rw [e, qRt_eq, qUp_eq]; exact (qFu_L hk.1 hk.2.1 hk.2.2.1).1
    · obtain ⟨a1, a2⟩ := rtn f u (nef u e)
      rw [a1, a2]; exact h0 (f, u)
  · show y.1 (qRt rt (f, 40 + wl S) t2 (f, u)) = 6 ↔ y.1 (rt (f, u)) = 6
    rw [(rtn f u (nef u (ne u a ha))).1]
  · obtain ⟨q1, q2⟩ := h2 f hf u a (hA u hu) ha
    have e1 := (rtn f u (nef u (ne u a ha))).1
    unfold qTr
    rw [e1]
    refine ⟨q1, qTg_eq q2 (fun r π _ _ hr => ?_)⟩
    have := rtn r.1 r.2 (fun q => by
      have : r.2 = 40 + wl S := congrArg Prod.snd q
      omega)
    exact ⟨this.2, this.1⟩
  · by_cases e : u = 40 + wl S
    · rw [e, qUp_eq] at hv
      have hv : some (t2, 0) = some (t, g) := hv
      injection hv with hv
      injection hv with hv1 hv2
      rw [← hv1] at hk2
      exact absurd hk2 (by have := hk.2.2.2; rintro (z | z); exact this.1 z; exact this.2 z)
    · rw [(rtn f u (nef u e)).2] at hv
      exact h3 f hf u t g hv hk2 (hA u hu)
  · refine kK_ty (t1 := t1) (t2 := t2) (rt := rt) (V := V) (x := x f) (x2 := ((x f).1, E ++ (0, t2, m) :: S, (x f).2.2.1, kR (x f), kH (x f), kal (x f), klo (x f), kAn (x f))) ?_ (by omega) (fun u hu => ⟨(rtn f u (nef u hu)).1, (rtn f u (nef u hu)).2, rfl⟩) hK
    refine ⟨?_, kK_cg hK0.2 (fun u hu => ?_)⟩
    · unfold kE
      refine ⟨hRn, hk.2.2.2.1, hk.2.2.2.2, fun _ => ⟨qRt_eq, by rw [qUp_eq]; exact (qFu_L hk.1 hk.2.1 hk.2.2.1).2⟩, fun e => absurd e ht⟩
    · have e : u ≠ 40 + wl S := by omega
      exact ⟨(rtn f u (nef u e)).1, (rtn f u (nef u e)).2, rfl⟩
  · have old : ∀ (u : Nat) (π : lLc) (z : Nat × Nat), V (f, u) π = some z → kRo y (E ++ (0, t2, m) :: S) u ∧ (u < 40 → rt (f, u) = vt (x f).1 u) := fun u π z hz => by
      obtain ⟨-, k1, k2⟩ := h5 f u π z hz
      refine ⟨?_, k2⟩
      rw [hS] at k1
      rcases k1 with ⟨a, b⟩ | ⟨a, b⟩ | ⟨a, r, m2, b⟩ | ⟨r, m2, i, a, b⟩
      · exact Or.inl ⟨a, (ty_mem (show (8, u, 0).1 ≠ 0 by show (8 : Nat) ≠ 0; decide)).mp b⟩
      · exact Or.inr (Or.inl ⟨a, by rw [ty_wl (t1 := t1)]; exact b⟩)
      · exact Or.inr (Or.inr (Or.inl ⟨a, r, m2, b.imp (fun q => (ty_mem (show (5, r, m2).1 ≠ 0 by show (5 : Nat) ≠ 0; decide)).mp q) (fun q => (ty_mem (show (6, r, m2).1 ≠ 0 by show (6 : Nat) ≠ 0; decide)).mp q)⟩))
      · exact Or.inr (Or.inr (Or.inr ⟨r, m2, i, (ty_mem (show (4, r, m2).1 ≠ 0 by show (4 : Nat) ≠ 0; decide)).mp a, b⟩))
    by_cases e : u = 40 + wl S
    · refine ⟨?_, fun q => by omega⟩
      show kRo y (E ++ (0, t2, m) :: S) u
      refine Or.inr (Or.inl ⟨by omega, ?_⟩)
      have e1 : wl (E ++ (0, t2, m) :: S) = wl E + (wl S + 1) := by rw [wl_app]; rfl
      rw [e1]; omega
    · rw [(rtn f u (nef u e)).2] at hz
      rw [(rtn f u (nef u e)).1]
      exact old u π z hz
  · have e : v ≠ 40 + wl S := by omega
    rw [(rtn f v (nef v e)).1, (rtn f v (nef v e)).2]
    exact h6 f hf v v4 (by rw [hS]; exact (ty_mem (show (8, v, 0).1 ≠ 0 by show (8 : Nat) ≠ 0; decide)).mpr hvS)
  · have hm : (5, r, m2) ∈ (x f).2.1 := by rw [hS]; exact (ty_mem (show (5, r, m2).1 ≠ 0 by show (5 : Nat) ≠ 0; decide)).mpr hm
    refine kPm_cg ((h7 f hf r m2).1 hm).2 rfl (fun u b hu hb => ⟨hA u hu, hb⟩) (fun u b _ hb => (rtn f u (nef u (ne u b hb))).1) (fun l q => q) rfl (fun a0 π _ ha => ?_)
    have := rtn a0.1 a0.2 (fun q => by
      have : a0.2 = 40 + wl S := congrArg Prod.snd q
      omega)
    exact ⟨congrFun this.2 π, this.1⟩
  · have hm : (6, r, m2) ∈ (x f).2.1 := by rw [hS]; exact (ty_mem (show (6, r, m2).1 ≠ 0 by show (6 : Nat) ≠ 0; decide)).mpr hm
    refine kPm_cg ((h7 f hf r m2).2 hm).2 rfl (fun u b hu hb => ⟨hA u hu, hb⟩) (fun u b _ hb => (rtn f u (nef u (ne u b hb))).1) (fun l q => q) rfl (fun a0 π _ ha => ?_)
    have := rtn a0.1 a0.2 (fun q => by
      have : a0.2 = 40 + wl S := congrArg Prod.snd q
      omega)
    exact ⟨congrFun this.2 π, this.1⟩
  · show wl (E ++ (0, t2, m) :: S) ≤ 211
    rw [hwl]; exact h8 f hf
end
