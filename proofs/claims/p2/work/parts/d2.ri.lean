/-- what a return makes of the roots: the value W at (f, u0) -/
def kRv (V : Nat × Nat → qV) (f u0 : Nat) (W : qV) : Nat × Nat → qV := fun q => if q.1 = f + 1 then fun _ => none else if q = (f, u0) then W else V q
theorem kRv_n {V : Nat × Nat → qV} {f u0 u : Nat} {W : qV} : kRv V f u0 W (f + 1, u) = fun _ => none := by
  unfold kRv; exact if_pos rfl
theorem kRv_eq {V : Nat × Nat → qV} {f u0 : Nat} {W : qV} : kRv V f u0 W (f, u0) = W := by
  unfold kRv; rw [if_neg (show ¬ ((f, u0) : Nat × Nat).1 = f + 1 by show ¬ f = f + 1; omega), if_pos rfl]
theorem kRv_ne {V : Nat × Nat → qV} {f u0 j u : Nat} {W : qV} (h1 : j ≠ f + 1) (h2 : (j, u) ≠ (f, u0)) : kRv V f u0 W (j, u) = V (j, u) := by
  unfold kRv; rw [if_neg h1, if_neg h2]
/-- the latest frame f + 1 ends, its value comes to frame f -/
theorem kJ_ret {y : qY} {vt : Nat → Nat → Nat} {tb : Nat → lTb} {f : Nat} {x : Nat → kFm} {rt : Nat × Nat → Nat} {V : Nat × Nat → qV} (h : kJ y vt tb (f + 1) x rt V) {e : tE} {t : Nat} {W : qV} {ro : Option lLc} {hd : Nat → Prop} {al2 : Nat → Prop} {lo2 : Nat → lLc → Prop} (he : kNm e) (hl : wl (x f).2.1 < 211) (hal : ∀ u : Nat, al2 u → kal (x f) u) (hlo : ∀ (w : Nat) (π : lLc), ¬ lo2 w π → ¬ klo (x f) w π) (hW : qOk y t W) (hnr : ro = none → ∀ z : Nat × Nat, W [] = some z → y.1 z.1 ≠ 5 ∧ y.1 z.1 ≠ 6) (lv : lIv f (tb (x f).1) (kAn (x f)) (kfr y (qRt rt (f, 40 + wl (x f).2.1) t) f ((x f).1, e :: (x f).2.1, 0, lUp (kR (x f)) (40 + wl (x f).2.1) ro, lUp (kH (x f)) (40 + wl (x f).2.1) hd, al2, lo2, kAn (x f)))) (hro : ∀ a : lLc, ro = some a → (y.1 t = 5 ∨ y.1 t = 6) ∧ qTg y rt V a (y.2.1 t) ∧ ∃ (j v : Nat) (s : lLc), a = (j, v) :: s ∧ j ≤ f) (hE : kE y (qRt rt (f, 40 + wl (x f).2.1) t) (kRv V f (40 + wl (x f).2.1) W) f ((x f).1, e :: (x f).2.1, 0, lUp (kR (x f)) (40 + wl (x f).2.1) ro, lUp (kH (x f)) (40 + wl (x f).2.1) hd, al2, lo2, kAn (x f)) (wl (x f).2.1) e) : kJ y vt tb f (kUx x f ((x f).1, e :: (x f).2.1, 0, lUp (kR (x f)) (40 + wl (x f).2.1) ro, lUp (kH (x f)) (40 + wl (x f).2.1) hd, al2, lo2, kAn (x f))) (qRt rt (f, 40 + wl (x f).2.1) t) (kRv V f (40 + wl (x f).2.1) W) := by
  obtain ⟨h0, h1, h2, h3, h4, h5, h6, h7, h8⟩ := h
  have hf : f ≤ f + 1 := Nat.le_succ f
  have hwl : wl (e :: (x f).2.1) = wl (x f).2.1 + 1 := wl_n he
  generalize hu0 : 40 + wl (x f).2.1 = u0 at *
  generalize hX : (((x f).1, e :: (x f).2.1, 0, lUp (kR (x f)) u0 ro, lUp (kH (x f)) u0 hd, al2, lo2, kAn (x f)) : kFm) = X at *
  have xff : kUx x f X f = X := kUx_eq
  have xj : ∀ j : Nat, j ≠ f → kUx x f X j = x j := fun j hj => kUx_ne hj
  have e1 : X.1 = (x f).1 := by rw [← hX]
  have e2 : X.2.1 = e :: (x f).2.1 := by rw [← hX]
  have e3 : kAn X = kAn (x f) := by rw [← hX]; rfl
  have RX : ∀ u : Nat, kR X u = lUp (kR (x f)) u0 ro u := fun u => by rw [← hX]; rfl
  have hne : ∀ u : Nat, u ≠ u0 → ((f, u) : Nat × Nat) ≠ (f, u0) := fun u hu q => hu (by injection q)
  have hnj : ∀ j u : Nat, j ≠ f → ((j, u) : Nat × Nat) ≠ (f, u0) := fun j u hj q => hj (by injection q)
  have Af : ∀ u : Nat, u ≠ u0 → kA X u → kA (x f) u := fun u hu h => by
    rw [← hX] at h
    rcases h with ⟨a, b⟩ | ⟨a, b⟩
    · exact Or.inl ⟨a, hal u b⟩
    · have b : u < 40 + wl (e :: (x f).2.1) + 0 := b
      exact Or.inr ⟨a, by omega⟩
  have old : ∀ j u : Nat, j ≤ f → (j, u) ≠ (f, u0) → kRv V f u0 W (j, u) = V (j, u) ∧ qRt rt (f, u0) t (j, u) = rt (j, u) := fun j u hj hu => ⟨kRv_ne (by omega) hu, qRt_ne hu⟩
  have tgo : ∀ (a : lLc) (T : Nat), (∃ (j v : Nat) (s : lLc), a = (j, v) :: s ∧ j ≤ f) → qTg y rt V a T → qTg y (qRt rt (f, u0) t) (kRv V f u0 W) a T := fun a T ⟨j, v, s, ea, hj⟩ ht => qTg_eq ht (fun q π e _ hq => by
    rw [ea] at e
    injection e with e3 e4
    rw [← e3] at hq ⊢
    exact old j v hj (fun z => by injection z with z1 z2; have hq : v < 40 := hq; omega))
  have frj : ∀ j : Nat, j < f → kfr y (qRt rt (f, u0) t) j (x j) = kfr y rt j (x j) := fun j hj => by
    unfold kfr
    have : (fun u => y.1 (qRt rt (f, u0) t (j, u)) = 6) = fun u => y.1 (rt (j, u)) = 6 := funext (fun u => by rw [qRt_ne (hnj j u (by omega))])
    rw [this]
  refine ⟨fun q => ?_, ⟨fun j hj => ?_, fun o e q ho => ?_, fun j hj o e q ho => ?_⟩, fun j hj u a hu ha => ?_, fun j hj u t1 g1 hv hk hu => ?_, fun j hj => ?_, fun j u π z hz => ?_, fun j hj v v4 hv => ?_, fun j hj r1 m => ?_, fun j hj => ?_⟩
  · obtain ⟨j, u⟩ := q
    by_cases c : j = f + 1
    · subst c
      rw [kRv_n]; exact qOk_none
    · by_cases c2 : ((j, u) : Nat × Nat) = (f, u0)
      · rw [c2, kRv_eq, qRt_eq]; exact hW
      · rw [kRv_ne c c2, qRt_ne c2]; exact h0 _
  · show lIv j (tb (kUx x f X j).1) (kAn (kUx x f X j)) (kfr y (qRt rt (f, u0) t) j (kUx x f X j))
    by_cases c : j = f
    · subst c
      rw [xff, e1, e3]; exact lv
    · rw [xj j c, frj j (by omega)]; exact h1.1 j (by omega)
  · have ho : kAn (kUx x f X 0) o e q := ho
    by_cases c : 0 = f
    · subst c
      rw [xff, e3] at ho; exact h1.2.1 o e q ho
    · rw [xj 0 c] at ho; exact h1.2.1 o e q ho
  · have ho : kAn (kUx x f X (j + 1)) o e q := ho
    have ho2 : kAn (x (j + 1)) o e q := by
      by_cases c : j + 1 = f
      · rw [c, xff, e3] at ho
        rw [c]; exact ho
      · rw [xj (j + 1) c] at ho; exact ho
    obtain ⟨t2, t1, t3⟩ := h1.2.2 j (by omega) o e q ho2
    refine ⟨t2, t1, ?_⟩
    show (kfr y (qRt rt (f, u0) t) j (kUx x f X j)).2.1 t2 ∧ (kfr y (qRt rt (f, u0) t) j (kUx x f X j)).1 t2 = some e ∧ (q = 1 → (kfr y (qRt rt (f, u0) t) j (kUx x f X j)).2.2.2 t2)
    rw [xj j (by omega), frj j hj]; exact t3
  · unfold qTr
    by_cases c : j = f
    · subst c
      rw [xff] at hu ha
      rw [RX] at ha
      by_cases c2 : u = u0
      · rw [c2, lUp_eq] at ha
        obtain ⟨k1, k2, k3⟩ := hro a ha
        rw [c2, qRt_eq]
        exact ⟨k1, tgo a _ k3 k2⟩
      · rw [lUp_ne c2] at ha
        rw [qRt_ne (hne u c2)]
        have q := h2 j (by omega) u a (Af u c2 hu) ha
        obtain ⟨i, v, s, ea, hi⟩ := lIv_fr (h1.1 j (by omega)) (Af u c2 hu) ha
        exact ⟨q.1, tgo a _ ⟨i, v, s, ea, by omega⟩ q.2⟩
    · rw [xj j c] at hu ha
      rw [qRt_ne (hnj j u c)]
      have q := h2 j (by omega) u a hu ha
      obtain ⟨i, v, s, ea, hi⟩ := lIv_fr (h1.1 j (by omega)) hu ha
      exact ⟨q.1, tgo a _ ⟨i, v, s, ea, by omega⟩ q.2⟩
  · by_cases c : j = f
    · subst c
      rw [xff] at hu ⊢
      rw [RX]
      by_cases c2 : u = u0
      · rw [c2, kRv_eq] at hv
        rw [c2, lUp_eq]
        cases er : ro with
        | none => exact absurd hk (by obtain ⟨k1, k2⟩ := hnr er _ hv; rintro (z | z); exact k1 z; exact k2 z)
        | some a => exact ⟨a, rfl⟩
      · rw [kRv_ne (by omega) (hne u c2)] at hv
        rw [lUp_ne c2]
        exact h3 j (by omega) u t1 g1 hv hk (Af u c2 hu)
    · rw [xj j c] at hu ⊢
      rw [kRv_ne (by omega) (hnj j u c)] at hv
      exact h3 j (by omega) u t1 g1 hv hk hu
  · by_cases c : j = f
    · subst c
      rw [xff, e2]
      refine ⟨hE, kK_cg (h4 j (by omega)) (fun u hu => ?_)⟩
      have h9 := h8 j (by omega)
      have c2 : u ≠ u0 := by omega
      exact ⟨qRt_ne (hne u c2), kRv_ne (by omega) (hne u c2), by rw [RX, lUp_ne c2]⟩
    · rw [xj j c]
      exact kK_cg (h4 j (by omega)) (fun u hu => ⟨qRt_ne (hnj j u c), kRv_ne (by omega) (hnj j u c), rfl⟩)
  · by_cases c0 : j = f + 1
    · subst c0
      rw [kRv_n] at hz; simp at hz
    · by_cases c : j = f
      · subst c
        rw [xff, e1, e2]
        by_cases c2 : u = u0
        · refine ⟨Nat.le_refl _, Or.inr (Or.inl ⟨by omega, by omega⟩), fun q => by omega⟩
        · rw [kRv_ne c0 (hne u c2)] at hz
          rw [qRt_ne (hne u c2)]
          obtain ⟨k0, k1, k2⟩ := h5 j u π z hz
          refine ⟨Nat.le_refl _, ?_, k2⟩
          rcases k1 with ⟨a, b⟩ | ⟨a, b⟩ | ⟨a, r2, m, b⟩ | ⟨r2, m, i, a, b⟩
          · exact Or.inl ⟨a, List.mem_cons_of_mem _ b⟩
          · exact Or.inr (Or.inl ⟨a, by omega⟩)
          · exact Or.inr (Or.inr (Or.inl ⟨a, r2, m, b.imp (List.mem_cons_of_mem _) (List.mem_cons_of_mem _)⟩))
          · exact Or.inr (Or.inr (Or.inr ⟨r2, m, i, List.mem_cons_of_mem _ a, b⟩))
      · rw [kRv_ne c0 (hnj j u c)] at hz
        rw [xj j c, qRt_ne (hnj j u c)]
        obtain ⟨k0, k1, k2⟩ := h5 j u π z hz
        exact ⟨by omega, k1, k2⟩
  · by_cases c : j = f
    · subst c
      rw [xff] at hv ⊢
      rw [e2] at hv
      rw [e1]
      have hv2 : (8, v, 0) ∈ (x j).2.1 := by
        rcases List.mem_cons.mp hv with q | q
        · exact absurd (Or.inl (by rw [← q])) he
        · exact q
      have q := h6 j (by omega) v v4 hv2
      have hvu : v ≠ u0 := by omega
      rw [qRt_ne (hne v hvu), kRv_ne (by omega) (hne v hvu)]
      refine ⟨q.1, fun π T g1 g2 g3 => q.2 π T g1 g2 (hlo v π (by rw [← hX] at g3; exact g3))⟩
    · rw [xj j c] at hv ⊢
      rw [qRt_ne (hnj j v c), kRv_ne (by omega) (hnj j v c)]
      exact h6 j (by omega) v v4 hv
  · by_cases c : j = f
    · subst c
      rw [xff, e2]
      refine ⟨fun z => ?_, fun z => ?_⟩
      · rcases List.mem_cons.mp z with q | q
        · exact absurd (Or.inr (Or.inr (Or.inl (by rw [← q])))) he
        · have := ((h7 j (by omega) r1 m).1 q).1
          omega
      · rcases List.mem_cons.mp z with q | q
        · exact absurd (Or.inr (Or.inr (Or.inr (by rw [← q])))) he
        · have := ((h7 j (by omega) r1 m).2 q).1
          omega
    · rw [xj j c]
      refine ⟨fun z => ?_, fun z => ?_⟩
      · have := ((h7 j (by omega) r1 m).1 z).1
        omega
      · have := ((h7 j (by omega) r1 m).2 z).1
        omega
  · by_cases c : j = f
    · subst c
      rw [xff, e2]; omega
    · rw [xj j c]; exact h8 j (by omega)
