theorem lIv_mono2 {f : Nat} {tb : lTb} {An : Nat → lLc → Nat → Prop} {fr fr2 : lFr} (h : lIv f tb An fr) (hA : ∀ (u : Nat) (a : lLc), fr2.2.1 u → fr2.1 u = some a → fr.2.1 u ∧ fr.1 u = some a) (hH : ∀ (u : Nat) (a : lLc) (l : Nat), fr2.2.1 u → fr2.1 u = some a → fr.2.2.1 u l → fr2.2.2.1 u l) (hU : ∀ (u : Nat) (a : lLc), fr2.2.1 u → fr2.1 u = some a → (fr2.2.2.2 u ↔ fr.2.2.2 u)) : lIv f tb An fr2 := by
  refine ⟨fun u a hu ha => ?_, fun u w a b hne hu hw ha hb hq hc => ?_⟩
  · obtain ⟨a1, a2⟩ := hA u a hu ha
    exact lOk_mono (fun l hl => hH u a l hu ha hl) (hU u a hu ha).1 (lP_rf a) (h.1 u a a1 a2)
  · obtain ⟨a1, a2⟩ := hA u a hu ha
    obtain ⟨b1, b2⟩ := hA w b hw hb
    rcases h.2 u w a b hne a1 b1 a2 b2 (hq.imp (hU u a hu ha).1 (hU w b hw hb).1) hc with x | x
    · exact Or.inl (lRt_mono (fun l => hH u a l hu ha) (hU u a hu ha).1 x)
    · exact Or.inr (lRt_mono (fun l => hH w b l hw hb) (hU w b hw hb).1 x)
def kNm (e : tE) : Prop := ¬ (e.1 = 8 ∨ e.1 = 4 ∨ e.1 = 5 ∨ e.1 = 6)
/-- roots of values from n on are cleared -/
def kCl (V : Nat × Nat → qV) (f n : Nat) : Nat × Nat → qV := fun r => if r.1 = f ∧ 40 + n ≤ r.2 ∧ r.2 < 300 then fun _ => none else V r
theorem kCl_in {V : Nat × Nat → qV} {f n u : Nat} {π : lLc} (h1 : 40 + n ≤ u) (h2 : u < 300) : kCl V f n (f, u) π = none := by
  unfold kCl; rw [if_pos ⟨rfl, h1, h2⟩]
theorem kCl_out {V : Nat × Nat → qV} {f n u : Nat} (h : u < 40 + n ∨ 300 ≤ u) : kCl V f n (f, u) = V (f, u) := by
  unfold kCl; rw [if_neg]
  intro z
  have h1 := z.2.1; have h2 := z.2.2
  have h1 : 40 + n ≤ u := h1
  have h2 : u < 300 := h2
  omega
theorem kCl_f {V : Nat × Nat → qV} {f n j u : Nat} (h : j ≠ f) : kCl V f n (j, u) = V (j, u) := by
  unfold kCl; rw [if_neg (fun z => h z.1)]
theorem kCl_some {V : Nat × Nat → qV} {f n u : Nat} {π : lLc} {z : Nat × Nat} (h : kCl V f n (f, u) π = some z) : (u < 40 + n ∨ 300 ≤ u) ∧ V (f, u) π = some z := by
  by_cases c : u < 40 + n ∨ 300 ≤ u
  · rw [kCl_out c] at h; exact ⟨c, h⟩
  · rw [kCl_in (by omega) (by omega)] at h; simp at h
/-- the values E are gone -/
theorem kJ_pop {y : qY} {vt : Nat → Nat → Nat} {tb : Nat → lTb} {f : Nat} {x : Nat → kFm} {rt : Nat × Nat → Nat} {V : Nat × Nat → qV} (h : kJ y vt tb f x rt V) {E S : List tE} (hS : (x f).2.1 = E ++ S) (hE : ∀ e : tE, e ∈ E → kNm e) (hn : (x f).2.2.1 = 0) : kJ y vt tb f (kUx x f ((x f).1, S, 0, kR (x f), kH (x f), kal (x f), klo (x f), kAn (x f))) rt (kCl V f (wl S)) := by
  have hw := h
  obtain ⟨h0, h1, h2, h3, h4, h5, h6, h7, h8⟩ := h
  have hwl : wl S ≤ wl (x f).2.1 := by rw [hS, wl_app]; omega
  have hA : ∀ u : Nat, kA ((x f).1, S, 0, kR (x f), kH (x f), kal (x f), klo (x f), kAn (x f)) u → kA (x f) u ∧ u < 40 + wl S := fun u hu => by
    rcases hu with ⟨a, b⟩ | ⟨a, b⟩
    · exact ⟨Or.inl ⟨a, b⟩, by omega⟩
    · have b : u < 40 + wl S + 0 := b
      exact ⟨Or.inr ⟨a, by omega⟩, by omega⟩
  have hin : ∀ e : tE, ¬ kNm e → e ∈ (x f).2.1 → e ∈ S := fun e he hm => by
    rw [hS] at hm
    rcases List.mem_append.mp hm with q | q
    · exact absurd (hE e q) he
    · exact q
  have hout : ∀ e : tE, e ∈ S → e ∈ (x f).2.1 := fun e he => by rw [hS]; exact List.mem_append_right _ he
  refine kJ_top hw _ rfl rfl (fun j u hj => ⟨rfl, kCl_f hj⟩) (fun u => ?_) (lIv_mono2 (h1.1 f (Nat.le_refl _)) (fun u a hu ha => ⟨(hA u hu).1, ha⟩) (fun u a l _ _ hl => hl) (fun u a _ _ => Iff.rfl)) (fun u a hu ha => ?_) (fun u t g hv hk hu => ?_) ?_ (fun u π z hz => ?_) (fun v v4 hv => ?_) (fun r m => ?_) (Nat.le_trans hwl (h8 f (Nat.le_refl _)))
  · by_cases c : u < 40 + wl S ∨ 300 ≤ u
    · rw [kCl_out c]; exact h0 (f, u)
    · rw [show kCl V f (wl S) (f, u) = fun _ => none from funext (fun π => kCl_in (by omega) (by omega))]; exact qOk_none
  · refine ⟨(h2 f (Nat.le_refl _) u a (hA u hu).1 ha).1, qTg_eq (h2 f (Nat.le_refl _) u a (hA u hu).1 ha).2 (fun r π _ _ hr => ⟨?_, rfl⟩)⟩
    obtain ⟨j, v⟩ := r
    by_cases ej : j = f
    · subst ej; exact kCl_out (Or.inl (by have hr : v < 40 := hr; omega))
    · exact kCl_f ej
  · exact h3 f (Nat.le_refl _) u t g (kCl_some hv).2 hk (hA u hu).1
  · have hk := h4 f (Nat.le_refl _)
    rw [hS] at hk
    have hk2 : kK y rt V f (x f) S := by
      clear hS hE hin hout hA hwl
      induction E with
      | nil => exact hk
      | cons e E ih => exact ih hk.2
    exact kK_cg hk2 (fun u hu => ⟨rfl, kCl_out (hu.imp (fun z => z.2) id), rfl⟩)
  · obtain ⟨c, hz⟩ := kCl_some hz
    obtain ⟨-, k1, k2⟩ := h5 f u π z hz
    refine ⟨?_, k2⟩
    rcases k1 with ⟨a, b⟩ | ⟨a, b⟩ | ⟨a, r, m, b⟩ | ⟨r, m, i, a, b⟩
    · exact Or.inl ⟨a, hin _ (fun q => q (Or.inl rfl)) b⟩
    · rcases c with c | c
      · exact Or.inr (Or.inl ⟨a, c⟩)
      · have := h8 f (Nat.le_refl _)
        omega
    · exact Or.inr (Or.inr (Or.inl ⟨a, r, m, b.imp (hin _ (fun q => q (Or.inr (Or.inr (Or.inl rfl))))) (hin _ (fun q => q (Or.inr (Or.inr (Or.inr rfl)))))⟩))
    · exact Or.inr (Or.inr (Or.inr ⟨r, m, i, hin _ (fun q => q (Or.inr (Or.inl rfl))) a, b⟩))
  · have hv : (8, v, 0) ∈ S := hv
    rw [kCl_out (Or.inl (by omega))]
    exact h6 f (Nat.le_refl _) v v4 (hout _ hv)
  · have go : ∀ q : Nat, kPm y rt V f (tb (x f).1) (x f) q r m → kPm y rt (kCl V f (wl S)) f (tb (x f).1) ((x f).1, S, 0, kR (x f), kH (x f), kal (x f), klo (x f), kAn (x f)) q r m := fun q hq => kPm_cg hq rfl (fun u b a1 a2 => ⟨(hA u a1).1, a2⟩) (fun _ _ _ _ => rfl) (fun l hl => hl) rfl (fun a0 π _ hr => by
      obtain ⟨j, v⟩ := a0
      have hr : v < 40 := hr
      refine ⟨?_, rfl⟩
      by_cases ej : j = f
      · subst ej; rw [kCl_out (Or.inl (by omega))]
      · rw [kCl_f ej])
    exact ⟨fun z => go 5 ((h7 f (Nat.le_refl _) r m).1 (hout _ z)).2, fun z => go 6 ((h7 f (Nat.le_refl _) r m).2 (hout _ z)).2⟩
/-- a value that is no reference comes -/
theorem kJ_push {y : qY} {vt : Nat → Nat → Nat} {tb : Nat → lTb} {f : Nat} {x : Nat → kFm} {rt : Nat × Nat → Nat} {V : Nat × Nat → qV} (h : kJ y vt tb f x rt V) {e : tE} {t : Nat} {W : qV} {hd : Nat → Prop} (he : kNm e) (hn : (x f).2.2.1 = 0) (hl : wl (x f).2.1 < 211) (hW : qOk y t W) (hnr : ∀ z : Nat × Nat, W [] = some z → y.1 z.1 ≠ 5 ∧ y.1 z.1 ≠ 6) (hE : kE y (qRt rt (f, 40 + wl (x f).2.1) t) (qUp V (f, 40 + wl (x f).2.1) W) f ((x f).1, e :: (x f).2.1, 0, lUp (kR (x f)) (40 + wl (x f).2.1) none, lUp (kH (x f)) (40 + wl (x f).2.1) hd, kal (x f), klo (x f), kAn (x f)) (wl (x f).2.1) e) : kJ y vt tb f (kUx x f ((x f).1, e :: (x f).2.1, 0, lUp (kR (x f)) (40 + wl (x f).2.1) none, lUp (kH (x f)) (40 + wl (x f).2.1) hd, kal (x f), klo (x f), kAn (x f))) (qRt rt (f, 40 + wl (x f).2.1) t) (qUp V (f, 40 + wl (x f).2.1) W) := by
  have hw := h
  obtain ⟨h0, h1, h2, h3, h4, h5, h6, h7, h8⟩ := h
  have hwl : wl (e :: (x f).2.1) = wl (x f).2.1 + 1 := wl_n he
  generalize hu0 : 40 + wl (x f).2.1 = u0 at *
  have hne : ∀ u : Nat, u ≠ u0 → ((f, u) : Nat × Nat) ≠ (f, u0) := fun u hu q => hu (by injection q)
  have hR : ∀ (u : Nat) (a : lLc), lUp (kR (x f)) u0 none u = some a → u ≠ u0 ∧ kR (x f) u = some a := fun u a ha => by
    by_cases c : u = u0
    · rw [c, lUp_eq] at ha; simp at ha
    · rw [lUp_ne c] at ha; exact ⟨c, ha⟩
  have hA : ∀ u : Nat, u ≠ u0 → kA ((x f).1, e :: (x f).2.1, 0, lUp (kR (x f)) u0 none, lUp (kH (x f)) u0 hd, kal (x f), klo (x f), kAn (x f)) u → kA (x f) u := fun u hne hu => by
    rcases hu with ⟨a, b⟩ | ⟨a, b⟩
    · exact Or.inl ⟨a, b⟩
    · have b : u < 40 + wl (e :: (x f).2.1) + 0 := b
      exact Or.inr ⟨a, by omega⟩
  refine kJ_top hw _ rfl rfl (fun j u hj => ⟨qRt_ne (fun q => hj (by injection q)), qUp_ne (fun q => hj (by injection q))⟩) (fun u => ?_) (lIv_mono2 (h1.1 f (Nat.le_refl _)) (fun u a hu ha => ⟨hA u (hR u a ha).1 hu, (hR u a ha).2⟩) (fun u a l hu ha hl => ?_) (fun u a _ ha => ?_)) (fun u a hu ha => ?_) (fun u t1 g hv hk hu => ?_) ⟨hE, ?_⟩ (fun u π z hz => ?_) (fun v v4 hv => ?_) (fun r m => ?_) (by show wl (e :: (x f).2.1) ≤ 211; omega)
  · by_cases c : u = u0
    · rw [c, qUp_eq, qRt_eq]; exact hW
    · rw [qUp_ne (hne u c), qRt_ne (hne u c)]; exact h0 (f, u)
  · show lUp (kH (x f)) u0 hd u l
    rw [lUp_ne (hR u a ha).1]; exact hl
  · obtain ⟨c, -⟩ := hR u a ha
    show y.1 (qRt rt (f, u0) t (f, u)) = 6 ↔ y.1 (rt (f, u)) = 6
    rw [qRt_ne (hne u c)]
  · obtain ⟨c, ha⟩ := hR u a ha
    unfold qTr
    rw [qRt_ne (hne u c)]
    refine ⟨(h2 f (Nat.le_refl _) u a (hA u c hu) ha).1, qTg_eq (h2 f (Nat.le_refl _) u a (hA u c hu) ha).2 (fun r π _ _ hr => ?_)⟩
    have : r ≠ (f, u0) := fun q => by rw [q] at hr; have hr : u0 < 40 := hr; omega
    exact ⟨qUp_ne this, qRt_ne this⟩
  · by_cases c : u = u0
    · rw [c, qUp_eq] at hv
      exact absurd hk (by obtain ⟨k1, k2⟩ := hnr _ hv; rintro (z | z); exact k1 z; exact k2 z)
    · rw [qUp_ne (hne u c)] at hv
      show ∃ a : lLc, lUp (kR (x f)) u0 none u = some a
      rw [lUp_ne c]
      exact h3 f (Nat.le_refl _) u t1 g hv hk (hA u c hu)
  · refine kK_cg (h4 f (Nat.le_refl _)) (fun u hu => ?_)
    have c : u ≠ u0 := by omega
    exact ⟨qRt_ne (hne u c), qUp_ne (hne u c), lUp_ne c⟩
  · by_cases c : u = u0
    · refine ⟨Or.inr (Or.inl ⟨by omega, ?_⟩), fun q => by omega⟩
      show u < 40 + wl (e :: (x f).2.1)
      omega
    · rw [qUp_ne (hne u c)] at hz
      rw [qRt_ne (hne u c)]
      obtain ⟨-, k1, k2⟩ := h5 f u π z hz
      refine ⟨?_, k2⟩
      rcases k1 with ⟨a, b⟩ | ⟨a, b⟩ | ⟨a, r, m, b⟩ | ⟨r, m, i, a, b⟩
      · exact Or.inl ⟨a, List.mem_cons_of_mem _ b⟩
      · exact Or.inr (Or.inl ⟨a, by show u < 40 + wl (e :: (x f).2.1); omega⟩)
      · exact Or.inr (Or.inr (Or.inl ⟨a, r, m, b.imp (List.mem_cons_of_mem _) (List.mem_cons_of_mem _)⟩))
      · exact Or.inr (Or.inr (Or.inr ⟨r, m, i, List.mem_cons_of_mem _ a, b⟩))
  · rw [qUp_ne (hne v (by omega)), qRt_ne (hne v (by omega))]
    rcases List.mem_cons.mp hv with q | q
    · exact absurd (Or.inl (by rw [← q])) he
    · exact h6 f (Nat.le_refl _) v v4 q
  · have go : ∀ q : Nat, kPm y rt V f (tb (x f).1) (x f) q r m → kPm y (qRt rt (f, u0) t) (qUp V (f, u0) W) f (tb (x f).1) ((x f).1, e :: (x f).2.1, 0, lUp (kR (x f)) u0 none, lUp (kH (x f)) u0 hd, kal (x f), klo (x f), kAn (x f)) q r m := fun q hq => kPm_cg hq (lUp_ne (by omega)) (fun u b a1 a2 => ⟨hA u (hR u b a2).1 a1, (hR u b a2).2⟩) (fun u b _ a2 => qRt_ne (hne u (hR u b a2).1)) (fun l hl => by show lUp (kH (x f)) u0 hd 300 l; rw [lUp_ne (by omega)]; exact hl) rfl (fun a0 π _ hr => by
      have : a0 ≠ (f, u0) := fun q => by rw [q] at hr; have hr : u0 < 40 := hr; omega
      exact ⟨by rw [qUp_ne this], qRt_ne this⟩)
    refine ⟨fun z => ?_, fun z => ?_⟩
    · rcases List.mem_cons.mp z with q | q
      · exact absurd (Or.inr (Or.inr (Or.inl (by rw [← q])))) he
      · exact go 5 ((h7 f (Nat.le_refl _) r m).1 q).2
    · rcases List.mem_cons.mp z with q | q
      · exact absurd (Or.inr (Or.inr (Or.inr (by rw [← q])))) he
      · exact go 6 ((h7 f (Nat.le_refl _) r m).2 q).2
/-- a reference to a whole value of type T comes: k its kind, t its type -/
theorem kJ_pushR {y : qY} {vt : Nat → Nat → Nat} {tb : Nat → lTb} {f : Nat} {x : Nat → kFm} {rt : Nat × Nat → Nat} {V : Nat × Nat → qV} (h : kJ y vt tb f x rt V) {k T m t : Nat} {a : lLc} {hd : Nat → Prop} {al2 : Nat → Prop} (hcr : qCr y) (hT9 : T < 10000) (hkt : (k = 1 ∧ t = 10000 + 2 * T) ∨ (k = 2 ∧ t = 10001 + 2 * T)) (hn : (x f).2.2.1 = 0) (hl : wl (x f).2.1 < 211) (hno : ∀ r m2 : Nat, (5, r, m2) ∉ (x f).2.1 ∧ (6, r, m2) ∉ (x f).2.1) (hal : ∀ u : Nat, al2 u → kal (x f) u) (hT : qTg y rt V a T) (hok : lOk f (tb (x f).1) (kAn (x f)) hd (y.1 t = 6) a) (hmt : ∀ u : Nat, ((u < 40 ∧ al2 u) ∨ (40 ≤ u ∧ u < 40 + wl (x f).2.1)) → lMt (tb (x f).1) (kfr y rt f (x f)) (40 + wl (x f).2.1) hd (y.1 t = 6) a u) : kJ y vt tb f (kUx x f ((x f).1, (k, T, m) :: (x f).2.1, 0, lUp (kR (x f)) (40 + wl (x f).2.1) (some a), lUp (kH (x f)) (40 + wl (x f).2.1) hd, al2, klo (x f), kAn (x f))) (qRt rt (f, 40 + wl (x f).2.1) t) (qUp V (f, 40 + wl (x f).2.1) (qL t)) := by
  have hw := h
  obtain ⟨h0, h1, h2, h3, h4, h5, h6, h7, h8⟩ := h
  have hk : (k = 1 ∧ y.1 t = 5) ∨ (k = 2 ∧ y.1 t = 6) := hkt.imp (fun z => ⟨z.1, by rw [z.2]; exact (hcr T hT9).1⟩) (fun z => ⟨z.1, by rw [z.2]; exact (hcr T hT9).2.2.1⟩)
  have ht : y.2.1 t = T := by rcases hkt with ⟨-, z⟩ | ⟨-, z⟩; rw [z]; exact (hcr T hT9).2.1; rw [z]; exact (hcr T hT9).2.2.2
  have he : kNm (k, T, m) := by
    show ¬ (k = 8 ∨ k = 4 ∨ k = 5 ∨ k = 6)
    omega
  have hwl : wl ((k, T, m) :: (x f).2.1) = wl (x f).2.1 + 1 := wl_n he
  generalize hu0 : 40 + wl (x f).2.1 = u0 at *
  have hne : ∀ u : Nat, u ≠ u0 → ((f, u) : Nat × Nat) ≠ (f, u0) := fun u hu q => hu (by injection q)
  have hA : ∀ u : Nat, u ≠ u0 → kA ((x f).1, (k, T, m) :: (x f).2.1, 0, lUp (kR (x f)) u0 (some a), lUp (kH (x f)) u0 hd, al2, klo (x f), kAn (x f)) u → kA (x f) u ∧ ((u < 40 ∧ al2 u) ∨ (40 ≤ u ∧ u < u0)) := fun u hne hu => by
    rcases hu with ⟨a, b⟩ | ⟨a, b⟩
    · exact ⟨Or.inl ⟨a, hal u b⟩, Or.inl ⟨a, b⟩⟩
    · have b : u < 40 + wl ((k, T, m) :: (x f).2.1) + 0 := b
      exact ⟨Or.inr ⟨a, by omega⟩, Or.inr ⟨a, by omega⟩⟩
  have hlv := lIv_new (t := u0) (hd := hd) (un := y.1 t = 6) (a := a) (A2 := fun u => (u < 40 ∧ al2 u) ∨ (40 ≤ u ∧ u < u0)) (h1.1 f (Nat.le_refl _)) (fun u hu hne => by
    rcases hu with ⟨a, b⟩ | ⟨a, b⟩
    · exact Or.inl ⟨a, hal u b⟩
    · exact Or.inr ⟨a, by omega⟩) hok (fun u hu _ => hmt u hu)
  have hTg : ∀ (b : lLc) (T1 : Nat), qTg y rt V b T1 → qTg y (qRt rt (f, u0) t) (qUp V (f, u0) (qL t)) b T1 := fun b T1 hb => qTg_eq hb (fun r π _ _ hr => by
    have : r ≠ (f, u0) := fun q => by rw [q] at hr; have hr : u0 < 40 := hr; omega
    exact ⟨qUp_ne this, qRt_ne this⟩)
  have k2 : y.1 t ≠ 2 ∧ y.1 t ≠ 3 ∧ y.1 t ≠ 4 := by
    rcases hk with ⟨-, q⟩ | ⟨-, q⟩ <;> rw [q] <;> decide
  refine kJ_top hw _ rfl rfl (fun j u hj => ⟨qRt_ne (fun q => hj (by injection q)), qUp_ne (fun q => hj (by injection q))⟩) (fun u => ?_) (lIv_mono2 hlv (fun u b hu hb => ⟨?_, hb⟩) (fun u b l hu hb hl => hl) (fun u b _ hb => ?_)) (fun u b hu hb => ?_) (fun u t1 g hv hk1 hu => ?_) ⟨?_, ?_⟩ (fun u π z hz => ?_) (fun v v4 hv => ?_) (fun r m2 => ?_) (by show wl ((k, T, m) :: (x f).2.1) ≤ 211; omega)
  · by_cases c : u = u0
    · rw [c, qUp_eq, qRt_eq]; exact (qFu_L k2.1 k2.2.1 k2.2.2).1
    · rw [qUp_ne (hne u c), qRt_ne (hne u c)]; exact h0 (f, u)
  · by_cases c : u = u0
    · exact Or.inr c
    · exact Or.inl (hA u c hu).2
  · show y.1 (qRt rt (f, u0) t (f, u)) = 6 ↔ lUp (kfr y rt f (x f)).2.2.2 u0 (y.1 t = 6) u
    by_cases c : u = u0
    · rw [c, qRt_eq, lUp_eq]
    · rw [qRt_ne (hne u c), lUp_ne c]; exact Iff.rfl
  · have hb : lUp (kR (x f)) u0 (some a) u = some b := hb
    by_cases c : u = u0
    · rw [c, lUp_eq] at hb
      obtain rfl := Option.some.inj hb
      unfold qTr
      rw [c, qRt_eq, ht]
      exact ⟨hk.imp And.right And.right, hTg _ _ hT⟩
    · rw [lUp_ne c] at hb
      unfold qTr
      rw [qRt_ne (hne u c)]
      exact ⟨(h2 f (Nat.le_refl _) u b (hA u c hu).1 hb).1, hTg _ _ (h2 f (Nat.le_refl _) u b (hA u c hu).1 hb).2⟩
  · show ∃ b : lLc, lUp (kR (x f)) u0 (some a) u = some b
    by_cases c : u = u0
    · rw [c, lUp_eq]; exact ⟨a, rfl⟩
    · rw [qUp_ne (hne u c)] at hv
      rw [lUp_ne c]
      exact h3 f (Nat.le_refl _) u t1 g hv hk1 (hA u c hu).1
  · rcases hkt with ⟨rfl, q⟩ | ⟨rfl, q⟩
    · show qRt rt (f, u0) t (f, 40 + wl (x f).2.1) = 10000 + 2 * T ∧ ∃ z : Nat × Nat, qUp V (f, u0) (qL t) (f, 40 + wl (x f).2.1) [] = some z
      rw [hu0, qRt_eq, qUp_eq]
      exact ⟨q, (t, 0), rfl⟩
    · show qRt rt (f, u0) t (f, 40 + wl (x f).2.1) = 10001 + 2 * T ∧ ∃ z : Nat × Nat, qUp V (f, u0) (qL t) (f, 40 + wl (x f).2.1) [] = some z
      rw [hu0, qRt_eq, qUp_eq]
      exact ⟨q, (t, 0), rfl⟩
  · refine kK_cg (h4 f (Nat.le_refl _)) (fun u hu => ?_)
    have c : u ≠ u0 := by omega
    exact ⟨qRt_ne (hne u c), qUp_ne (hne u c), lUp_ne c⟩
  · by_cases c : u = u0
    · refine ⟨Or.inr (Or.inl ⟨by omega, ?_⟩), fun q => by omega⟩
      show u < 40 + wl ((k, T, m) :: (x f).2.1)
      omega
    · rw [qUp_ne (hne u c)] at hz
      rw [qRt_ne (hne u c)]
      obtain ⟨-, k1, k2⟩ := h5 f u π z hz
      refine ⟨?_, k2⟩
      rcases k1 with ⟨a, b⟩ | ⟨a, b⟩ | ⟨a, r, m, b⟩ | ⟨r, m, i, a, b⟩
      · exact Or.inl ⟨a, List.mem_cons_of_mem _ b⟩
      · exact Or.inr (Or.inl ⟨a, by show u < 40 + wl ((k, T, _) :: (x f).2.1); omega⟩)
      · exact Or.inr (Or.inr (Or.inl ⟨a, r, m, b.imp (List.mem_cons_of_mem _) (List.mem_cons_of_mem _)⟩))
      · exact Or.inr (Or.inr (Or.inr ⟨r, m, i, List.mem_cons_of_mem _ a, b⟩))
  · rw [qUp_ne (hne v (by omega)), qRt_ne (hne v (by omega))]
    rcases List.mem_cons.mp hv with q | q
    · exact absurd (Or.inl (by rw [← q])) he
    · exact h6 f (Nat.le_refl _) v v4 q
  · refine ⟨fun z => ?_, fun z => ?_⟩
    · rcases List.mem_cons.mp z with q | q
      · exact absurd (Or.inr (Or.inr (Or.inl (by rw [← q])))) he
      · exact absurd q (hno r m2).1
    · rcases List.mem_cons.mp z with q | q
      · exact absurd (Or.inr (Or.inr (Or.inr (by rw [← q])))) he
      · exact absurd q (hno r m2).2
