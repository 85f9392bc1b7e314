/-- what a call makes of the roots -/
def kCa (V : Nat × Nat → qV) (f w n : Nat) : Nat × Nat → qV := fun q => if q.1 = f + 1 then (if q.2 < n then V (f, 40 + w + q.2) else fun _ => none) else kCl V f w q
def kCt (rt : Nat × Nat → Nat) (vt : Nat → Nat) (f : Nat) : Nat × Nat → Nat := fun q => if q.1 = f + 1 then vt q.2 else rt q
theorem kCa_n {V : Nat × Nat → qV} {f w n i : Nat} (h : i < n) : kCa V f w n (f + 1, i) = V (f, 40 + w + i) := by
  unfold kCa; rw [if_pos rfl]; exact if_pos h
theorem kCa_o {V : Nat × Nat → qV} {f w n i : Nat} (h : ¬ i < n) : kCa V f w n (f + 1, i) = fun _ => none := by
  unfold kCa; rw [if_pos rfl]; exact if_neg h
theorem kCa_f {V : Nat × Nat → qV} {f w n j u : Nat} (h : j ≠ f + 1) : kCa V f w n (j, u) = kCl V f w (j, u) := by
  unfold kCa; exact if_neg h
theorem kCt_n {rt : Nat × Nat → Nat} {vt : Nat → Nat} {f i : Nat} : kCt rt vt f (f + 1, i) = vt i := by
  unfold kCt; exact if_pos rfl
theorem kCt_f {rt : Nat × Nat → Nat} {vt : Nat → Nat} {f j u : Nat} (h : j ≠ f + 1) : kCt rt vt f (j, u) = rt (j, u) := by
  unfold kCt; exact if_neg h
/-- what the outer loans ou of the called function's parameters lead to -/
def kAo (y : qY) (vt : Nat → Nat) (R : Nat → Option lLc) (w n : Nat) (ou : Nat → Nat) : Nat → lLc → Nat → Prop := fun o e q => ∃ i : Nat, i < n ∧ o = ou i ∧ R (40 + w + i) = some e ∧ ((q = 1 ∧ y.1 (vt i) = 6) ∨ (q = 0 ∧ y.1 (vt i) ≠ 6))
theorem kJ_call {y : qY} {vt : Nat → Nat → Nat} {tb : Nat → lTb} {f : Nat} {x : Nat → kFm} {rt : Nat × Nat → Nat} {V : Nat × Nat → qV} (h : kJ y vt tb f x rt V) {g n : Nat} {E r P : List tE} {al2 : Nat → Prop} {lo2 : Nat → lLc → Prop} {H' : Nat → Nat → Prop} {al' : Nat → Prop} {lo' : Nat → lLc → Prop} {ou : Nat → Nat} (hn : (x f).2.2.1 = 0) (hS : (x f).2.1 = E ++ r) (hE : ∀ e : tE, e ∈ E → kNm e) (hEn : wl E = n) (hn12 : n ≤ 12) (hmt : ∀ r m : Nat, (5, r, m) ∉ (x f).2.1 ∧ (6, r, m) ∉ (x f).2.1) (hty : ∀ i : Nat, i < n → rt (f, 40 + wl r + i) = vt g i ∧ qF y (V (f, 40 + wl r + i)) [] (vt g i)) (hal : ∀ u : Nat, al2 u → kal (x f) u) (hlo : ∀ (w : Nat) (π : lLc), ¬ lo2 w π → ¬ klo (x f) w π) (hP : ∀ e : tE, e ∈ P ↔ ∃ v : Nat, e = (8, v, 0) ∧ v < n) (hH : ∀ i : Nat, i < n → H' i (ou i) ∧ (tb g).2.2.2.1 (ou i)) : kJ y vt tb (f + 1) (kUx (kUx x f ((x f).1, r, n, kR (x f), kH (x f), al2, lo2, kAn (x f))) (f + 1) (g, P, 0, (fun i => if i < n then kR (x f) (40 + wl r + i) else none), H', al', lo', kAo y (vt g) (kR (x f)) (wl r) n ou)) (kCt rt (vt g) f) (kCa V f (wl r) n) := by
  obtain ⟨h0, h1, h2, h3, h4, h5, h6, h7, h8⟩ := h
  have hf := Nat.le_refl f
  have hwl : wl (x f).2.1 = wl r + n := by rw [hS, wl_app, hEn]; omega
  have h211 := h8 f hf
  generalize hXf : (((x f).1, r, n, kR (x f), kH (x f), al2, lo2, kAn (x f)) : kFm) = Xf
  generalize hX : ((g, P, 0, (fun i => if i < n then kR (x f) (40 + wl r + i) else none), H', al', lo', kAo y (vt g) (kR (x f)) (wl r) n ou) : kFm) = X
  have xf1 : kUx (kUx x f Xf) (f + 1) X (f + 1) = X := kUx_eq
  have xff : kUx (kUx x f Xf) (f + 1) X f = Xf := by rw [kUx_ne (by omega)]; exact kUx_eq
  have xj : ∀ j : Nat, j < f → kUx (kUx x f Xf) (f + 1) X j = x j := fun j hj => by rw [kUx_ne (by omega), kUx_ne (by omega)]
  have Af : ∀ u : Nat, kA Xf u → kA (x f) u := fun u hu => by
    rw [← hXf] at hu
    rcases hu with ⟨a, b⟩ | ⟨a, b⟩
    · exact Or.inl ⟨a, hal u b⟩
    · have b : u < 40 + wl r + n := b
      exact Or.inr ⟨a, by omega⟩
  have Rf : kR Xf = kR (x f) := by rw [← hXf]; rfl
  have RX : ∀ (u : Nat) (a : lLc), kR X u = some a → u < n ∧ kR (x f) (40 + wl r + u) = some a := fun u a ha => by
    rw [← hX] at ha
    have ha : (if u < n then kR (x f) (40 + wl r + u) else none) = some a := ha
    by_cases c : u < n
    · rw [if_pos c] at ha; exact ⟨c, ha⟩
    · rw [if_neg c] at ha; simp at ha
  have Aa : ∀ u : Nat, u < n → kA (x f) (40 + wl r + u) := fun u hu => Or.inr ⟨by omega, by omega⟩
  have out : ∀ e : tE, e ∈ r → e ∈ (x f).2.1 := fun e he => by rw [hS]; exact List.mem_append_right _ he
  have inn : ∀ e : tE, ¬ kNm e → e ∈ (x f).2.1 → e ∈ r := fun e he hm => by
    rw [hS] at hm
    rcases List.mem_append.mp hm with q | q
    · exact absurd (hE e q) he
    · exact q
  have old : ∀ (j : Nat) (u : Nat), j ≤ f → u < 40 → kCa V f (wl r) n (j, u) = V (j, u) ∧ kCt rt (vt g) f (j, u) = rt (j, u) := fun j u hj hu => by
    refine ⟨?_, kCt_f (by omega)⟩
    rw [kCa_f (by omega)]
    by_cases c : j = f
    · rw [c]; exact kCl_out (Or.inl (by omega))
    · exact kCl_f c
  have tg : ∀ (j u : Nat) (a : lLc) (T : Nat), j ≤ f → kA (x j) u → kR (x j) u = some a → qTg y rt V a T → qTg y (kCt rt (vt g) f) (kCa V f (wl r) n) a T := fun j u a T hj hu ha ht => qTg_eq ht (fun q π e _ hq => by
    obtain ⟨i, v, w, e2, hi⟩ := lIv_fr (h1.1 j hj) hu ha
    rw [e] at e2
    injection e2 with e3 e4
    rw [e3] at hq ⊢
    exact old i v (by omega) hq)
  have frj : ∀ j : Nat, j < f → kfr y (kCt rt (vt g) f) j (x j) = kfr y rt j (x j) := fun j hj => by
    unfold kfr
    have : (fun u => y.1 (kCt rt (vt g) f (j, u)) = 6) = fun u => y.1 (rt (j, u)) = 6 := funext (fun u => by rw [kCt_f (by omega)])
    rw [this]
  have lvf : lIv f (tb (x f).1) (kAn (x f)) (kfr y (kCt rt (vt g) f) f Xf) := by
    refine lIv_mono2 (h1.1 f hf) (fun u a hu ha => ⟨Af u hu, by show kR (x f) u = some a; rw [← Rf]; exact ha⟩) (fun u a l _ _ hl => by show kH Xf u l; rw [← hXf]; exact hl) (fun u a _ _ => ?_)
    show y.1 (kCt rt (vt g) f (f, u)) = 6 ↔ y.1 (rt (f, u)) = 6
    rw [kCt_f (by omega)]
  have AnX : kAn X = kAo y (vt g) (kR (x f)) (wl r) n ou := by rw [← hX]; rfl
  have lvX : lIv (f + 1) (tb g) (kAn X) (kfr y (kCt rt (vt g) f) (f + 1) X) := by
    refine ⟨fun u a hu ha => ?_, fun u w a b hne hu hw ha hb hq hc => ?_⟩
    · obtain ⟨u1, u2⟩ := RX u a ha
      obtain ⟨i, v, s, e, hi⟩ := lIv_fr (h1.1 f hf) (Aa u u1) u2
      refine Or.inr ⟨ou u, a, if y.1 (vt g u) = 6 then 1 else 0, (hH u u1).2, by rw [← hX]; exact (hH u u1).1, ?_, lP_rf a, fun q => ?_, i, v, s, e, by omega⟩
      · rw [AnX]
        refine ⟨u, u1, rfl, u2, ?_⟩
        by_cases c : y.1 (vt g u) = 6
        · rw [if_pos c]; exact Or.inl ⟨rfl, c⟩
        · rw [if_neg c]; exact Or.inr ⟨rfl, c⟩
      · have q : y.1 (kCt rt (vt g) f (f + 1, u)) = 6 := q
        rw [kCt_n] at q
        exact if_pos q
    · obtain ⟨u1, u2⟩ := RX u a ha
      obtain ⟨w1, w2⟩ := RX w b hb
      have hq2 : y.1 (rt (f, 40 + wl r + u)) = 6 ∨ y.1 (rt (f, 40 + wl r + w)) = 6 := by
        have hq : y.1 (kCt rt (vt g) f (f + 1, u)) = 6 ∨ y.1 (kCt rt (vt g) f (f + 1, w)) = 6 := hq
        rw [kCt_n, kCt_n] at hq
        rw [(hty u u1).1, (hty w w1).1]
        exact hq
      rcases (h1.1 f hf).2 (40 + wl r + u) (40 + wl r + w) a b (by omega) (Aa u u1) (Aa w w1) u2 w2 hq2 hc with q | q
      · exact absurd q.1 (by omega)
      · exact absurd q.1 (by omega)
  refine ⟨fun q => ?_, ⟨fun j hj => ?_, fun o e q ho => ?_, fun j hj o e q ho => ?_⟩, fun j hj u a hu ha => ?_, fun j hj u t g1 hv hk hu => ?_, fun j hj => ?_, fun j u π z hz => ?_, fun j hj v v4 hv => ?_, fun j hj r1 m => ?_, fun j hj => ?_⟩
  · obtain ⟨j, u⟩ := q
    by_cases c : j = f + 1
    · subst c
      rw [kCt_n]
      by_cases c2 : u < n
      · rw [kCa_n c2, ← (hty u c2).1]; exact h0 _
      · rw [kCa_o c2]; exact qOk_none
    · rw [kCt_f c, kCa_f c]
      by_cases c3 : j = f
      · subst c3
        by_cases c4 : u < 40 + wl r ∨ 300 ≤ u
        · rw [kCl_out c4]; exact h0 _
        · rw [show kCl V j (wl r) (j, u) = fun _ => none from funext (fun π => kCl_in (by omega) (by omega))]; exact qOk_none
      · rw [kCl_f c3]; exact h0 _
  · show lIv j (tb (kUx (kUx x f Xf) (f + 1) X j).1) (kAn (kUx (kUx x f Xf) (f + 1) X j)) (kfr y (kCt rt (vt g) f) j (kUx (kUx x f Xf) (f + 1) X j))
    by_cases c : j = f + 1
    · subst c
      rw [xf1]
      have : X.1 = g := by rw [← hX]
      rw [this]; exact lvX
    · by_cases c2 : j = f
      · subst c2
        rw [xff]
        have e1 : Xf.1 = (x j).1 := by rw [← hXf]
        have e2 : kAn Xf = kAn (x j) := by rw [← hXf]; rfl
        rw [e1, e2]; exact lvf
      · rw [xj j (by omega), frj j (by omega)]; exact h1.1 j (by omega)
  · have ho : kAn (kUx (kUx x f Xf) (f + 1) X 0) o e q := ho
    by_cases c : 0 = f
    · subst c
      rw [xff, ← hXf] at ho; exact h1.2.1 o e q ho
    · rw [xj 0 (by omega)] at ho; exact h1.2.1 o e q ho
  · have ho : kAn (kUx (kUx x f Xf) (f + 1) X (j + 1)) o e q := ho
    by_cases c : j = f
    · subst c
      rw [xf1, AnX] at ho
      obtain ⟨i, i1, i2, i3, i4⟩ := ho
      refine ⟨40 + wl r + i, by omega, ?_⟩
      show kA (kUx (kUx x j Xf) (j + 1) X j) (40 + wl r + i) ∧ kR (kUx (kUx x j Xf) (j + 1) X j) (40 + wl r + i) = some e ∧ (q = 1 → y.1 (kCt rt (vt g) j (j, 40 + wl r + i)) = 6)
      rw [xff, Rf, kCt_f (by omega), (hty i i1).1]
      refine ⟨by rw [← hXf]; exact Or.inr ⟨by omega, by show 40 + wl r + i < 40 + wl r + n; omega⟩, i3, fun z => ?_⟩
      rcases i4 with i4 | i4
      · exact i4.2
      · omega
    · by_cases c2 : j + 1 = f
      · rw [c2, xff] at ho
        have ho : kAn (x f) o e q := by rw [← hXf] at ho; exact ho
        obtain ⟨t, t1, t2⟩ := h1.2.2 j (by omega) o e q (by rw [← c2] at ho; exact ho)
        refine ⟨t, t1, ?_⟩
        show (kfr y (kCt rt (vt g) f) j (kUx (kUx x f Xf) (f + 1) X j)).2.1 t ∧ (kfr y (kCt rt (vt g) f) j (kUx (kUx x f Xf) (f + 1) X j)).1 t = some e ∧ (q = 1 → (kfr y (kCt rt (vt g) f) j (kUx (kUx x f Xf) (f + 1) X j)).2.2.2 t)
        rw [xj j (by omega), frj j (by omega)]; exact t2
      · rw [xj (j + 1) (by omega)] at ho
        obtain ⟨t, t1, t2⟩ := h1.2.2 j (by omega) o e q ho
        refine ⟨t, t1, ?_⟩
        show (kfr y (kCt rt (vt g) f) j (kUx (kUx x f Xf) (f + 1) X j)).2.1 t ∧ (kfr y (kCt rt (vt g) f) j (kUx (kUx x f Xf) (f + 1) X j)).1 t = some e ∧ (q = 1 → (kfr y (kCt rt (vt g) f) j (kUx (kUx x f Xf) (f + 1) X j)).2.2.2 t)
        rw [xj j (by omega), frj j (by omega)]; exact t2
  · unfold qTr
    by_cases c : j = f + 1
    · subst c
      rw [xf1] at hu ha
      obtain ⟨u1, u2⟩ := RX u a ha
      have q := h2 f hf _ a (Aa u u1) u2
      rw [kCt_n, ← (hty u u1).1]
      exact ⟨q.1, tg f _ a _ hf (Aa u u1) u2 q.2⟩
    · rw [kCt_f c]
      have hux : kA (x j) u ∧ kR (x j) u = some a := by
        by_cases c2 : j = f
        · subst c2
          rw [xff] at hu ha
          exact ⟨Af u hu, by rw [← Rf]; exact ha⟩
        · rw [xj j (by omega)] at hu ha
          exact ⟨hu, ha⟩
      have q := h2 j (by omega) u a hux.1 hux.2
      exact ⟨q.1, tg j u a _ (by omega) hux.1 hux.2 q.2⟩
  · by_cases c : j = f + 1
    · subst c
      rw [xf1]
      by_cases c2 : u < n
      · rw [kCa_n c2] at hv
        obtain ⟨a, ha⟩ := h3 f hf _ t g1 hv hk (Aa u c2)
        refine ⟨a, ?_⟩
        rw [← hX]
        show (if u < n then kR (x f) (40 + wl r + u) else none) = some a
        rw [if_pos c2]; exact ha
      · rw [kCa_o c2] at hv; simp at hv
    · rw [kCa_f c] at hv
      by_cases c2 : j = f
      · subst c2
        rw [xff] at hu ⊢
        rw [Rf]
        exact h3 j hf u t g1 (kCl_some hv).2 hk (Af u hu)
      · rw [xj j (by omega)] at hu ⊢
        rw [kCl_f c2] at hv
        exact h3 j (by omega) u t g1 hv hk hu
  · by_cases c : j = f + 1
    · subst c
      rw [xf1]
      have : X.2.1 = P := by rw [← hX]
      rw [this]
      have gen : ∀ P2 : List tE, (∀ e : tE, e ∈ P2 → e ∈ P) → kK y (kCt rt (vt g) f) (kCa V f (wl r) n) (f + 1) X P2 := fun P2 => by
        induction P2 with
        | nil => exact fun _ => trivial
        | cons e P2 ih =>
          intro hp
          obtain ⟨v, rfl, -⟩ := (hP e).mp (hp e (List.mem_cons_self ..))
          exact ⟨trivial, ih (fun e he => hp e (List.mem_cons_of_mem _ he))⟩
      exact gen P (fun e he => he)
    · by_cases c2 : j = f
      · subst c2
        rw [xff]
        have : Xf.2.1 = r := by rw [← hXf]
        rw [this]
        have hk := h4 j hf
        rw [hS] at hk
        have hk2 : kK y rt V j (x j) r := by
          clear hS hE hEn inn out
          induction E with
          | nil => exact hk
          | cons e E ih => exact ih hk.2
        refine kK_cg hk2 (fun u hu => ⟨kCt_f c, ?_, by rw [Rf]⟩)
        rw [kCa_f c]
        exact kCl_out (hu.imp (fun z => z.2) id)
      · rw [xj j (by omega)]
        refine kK_cg (h4 j (by omega)) (fun u hu => ⟨kCt_f c, ?_, rfl⟩)
        rw [kCa_f c, kCl_f c2]
  · by_cases c : j = f + 1
    · subst c
      rw [xf1]
      by_cases c2 : u < n
      · refine ⟨Nat.le_refl _, Or.inl ⟨by omega, ?_⟩, fun _ => ?_⟩
        · have : X.2.1 = P := by rw [← hX]
          rw [this]
          exact (hP _).mpr ⟨u, rfl, c2⟩
        · rw [kCt_n, ← hX]
      · rw [kCa_o c2] at hz; simp at hz
    · rw [kCa_f c] at hz
      rw [kCt_f c]
      by_cases c2 : j = f
      · subst c2
        obtain ⟨c3, hz⟩ := kCl_some hz
        obtain ⟨k0, k1, k2⟩ := h5 j u π z hz
        rw [xff]
        refine ⟨by omega, ?_, fun q => by rw [k2 q, ← hXf]⟩
        have : Xf.2.1 = r := by rw [← hXf]
        rw [this]
        rcases k1 with ⟨a, b⟩ | ⟨a, b⟩ | ⟨a, r2, m, b⟩ | ⟨r2, m, i, a, b⟩
        · exact Or.inl ⟨a, inn _ (fun q => q (Or.inl rfl)) b⟩
        · exact Or.inr (Or.inl ⟨a, by omega⟩)
        · exact Or.inr (Or.inr (Or.inl ⟨a, r2, m, b.imp (inn _ (fun q => q (Or.inr (Or.inr (Or.inl rfl))))) (inn _ (fun q => q (Or.inr (Or.inr (Or.inr rfl)))))⟩))
        · exact Or.inr (Or.inr (Or.inr ⟨r2, m, i, inn _ (fun q => q (Or.inr (Or.inl rfl))) a, b⟩))
      · rw [kCl_f c2] at hz
        obtain ⟨k0, k1, k2⟩ := h5 j u π z hz
        rw [xj j (by omega)]
        exact ⟨by omega, k1, k2⟩
  · by_cases c : j = f + 1
    · subst c
      rw [xf1] at hv ⊢
      have e1 : X.2.1 = P := by rw [← hX]
      have e2 : X.1 = g := by rw [← hX]
      rw [e1] at hv
      rw [e2, kCt_n]
      obtain ⟨v2, e3, e4⟩ := (hP _).mp hv
      obtain rfl : v = v2 := by injection e3 with q1 q2; injection q2
      refine ⟨rfl, fun π T g1 g2 g3 => ?_⟩
      rw [kCa_n e4]
      have := (hty v e4).2 π T g1 g2
      rw [List.nil_append] at this
      exact this
    · by_cases c2 : j = f
      · subst c2
        rw [xff] at hv ⊢
        have e1 : Xf.2.1 = r := by rw [← hXf]
        have e2 : Xf.1 = (x j).1 := by rw [← hXf]
        rw [e1] at hv
        have q := h6 j hf v v4 (out _ hv)
        rw [e2, (old j v hf v4).2]
        refine ⟨q.1, fun π T g1 g2 g3 => ?_⟩
        rw [(old j v hf v4).1]
        exact q.2 π T g1 g2 (hlo v π (by rw [← hXf] at g3; exact g3))
      · rw [xj j (by omega)] at hv ⊢
        have q := h6 j (by omega) v v4 hv
        rw [(old j v (by omega) v4).1, (old j v (by omega) v4).2]
        exact q
  · by_cases c : j = f + 1
    · subst c
      rw [xf1]
      have e1 : X.2.1 = P := by rw [← hX]
      rw [e1]
      exact ⟨fun z => by obtain ⟨v, e, -⟩ := (hP _).mp z; injection e with q1 q2; exact absurd q1 (by decide), fun z => by obtain ⟨v, e, -⟩ := (hP _).mp z; injection e with q1 q2; exact absurd q1 (by decide)⟩
    · by_cases c2 : j = f
      · subst c2
        rw [xff]
        have e1 : Xf.2.1 = r := by rw [← hXf]
        rw [e1]
        exact ⟨fun z => absurd (out _ z) (hmt r1 m).1, fun z => absurd (out _ z) (hmt r1 m).2⟩
      · rw [xj j (by omega)]
        exact ⟨fun z => absurd ((h7 j (by omega) r1 m).1 z).1 c2, fun z => absurd ((h7 j (by omega) r1 m).2 z).1 c2⟩
  · by_cases c : j = f + 1
    · subst c
      rw [xf1]
      have e1 : X.2.1 = P := by rw [← hX]
      rw [e1]
      have gen : ∀ P2 : List tE, (∀ e : tE, e ∈ P2 → e ∈ P) → wl P2 = 0 := fun P2 => by
        induction P2 with
        | nil => exact fun _ => rfl
        | cons e P2 ih =>
          intro hp
          obtain ⟨v, rfl, -⟩ := (hP e).mp (hp e (List.mem_cons_self ..))
          rw [wl_0 (Or.inl rfl)]
          exact ih (fun e he => hp e (List.mem_cons_of_mem _ he))
      rw [gen P (fun e he => he)]
      exact Nat.zero_le _
    · by_cases c2 : j = f
      · subst c2
        rw [xff]
        have e1 : Xf.2.1 = r := by rw [← hXf]
        rw [e1]; omega
      · rw [xj j (by omega)]; exact h8 j (by omega)
