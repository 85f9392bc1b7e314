/-- what references lead to is no reference -/
def qRf (y : qY) : Prop := ∀ t : Nat, (y.1 t = 5 ∨ y.1 t = 6) → y.1 (y.2.1 t) ≠ 5 ∧ y.1 (y.2.1 t) ≠ 6
theorem kA_al {x : kFm} {S2 : List tE} {R2 : Nat → Option lLc} {H2 : Nat → Nat → Prop} {al2 : Nat → Prop} {lo2 : Nat → lLc → Prop} {u : Nat} (hw : wl S2 = wl x.2.1) (hn : x.2.2.1 = 0) (hu : kA (x.1, S2, 0, R2, H2, al2, lo2, kAn x) u) (hal : al2 u → kal x u) : kA x u := by
  rcases hu with ⟨a, b⟩ | ⟨a, b⟩
  · exact Or.inl ⟨a, hal b⟩
  · have b : u < 40 + wl S2 + 0 := b
    exact Or.inr ⟨a, by omega⟩
/-- a place of the latest frame's variable v loses what lies there -/
theorem kJ_cut {y : qY} {vt : Nat → Nat → Nat} {tb : Nat → lTb} {f : Nat} {x : Nat → kFm} {rt : Nat × Nat → Nat} {V : Nat × Nat → qV} (h : kJ y vt tb f x rt V) {v : Nat} {σ : lLc} {R2 : Nat → Option lLc} {al2 : Nat → Prop} {lo2 : Nat → lLc → Prop} (hn : (x f).2.2.1 = 0) (hv4 : v < 40) (hmt : ∀ r m : Nat, (5, r, m) ∉ (x f).2.1 ∧ (6, r, m) ∉ (x f).2.1) (hm : qM σ) (hR : ∀ u : Nat, u ≠ v → R2 u = kR (x f) u) (hRv : R2 v = kR (x f) v ∨ (R2 v = none ∧ σ = [])) (hal : ∀ u : Nat, al2 u → kal (x f) u) (hlo : ∀ (w : Nat) (π : lLc), ¬ lo2 w π → ¬ klo (x f) w π ∧ (w = v → ¬ lCmp π σ)) (hc : ∀ (u : Nat) (b : lLc), ((u < 40 ∧ al2 u) ∨ (40 ≤ u ∧ u < 40 + wl (x f).2.1)) → R2 u = some b → ¬ lCmp b ((f, v) :: σ)) : kJ y vt tb f (kUx x f ((x f).1, (x f).2.1, 0, R2, kH (x f), al2, lo2, kAn (x f))) rt (qUp V (f, v) (qC (V (f, v)) σ)) := by
  have hw := h
  obtain ⟨h0, h1, h2, h3, h4, h5, h6, h7, h8⟩ := h
  have hf := Nat.le_refl f
  have hRr : ∀ (u : Nat) (b : lLc), R2 u = some b → kR (x f) u = some b := fun u b hb => by
    by_cases c : u = v
    · subst c
      rcases hRv with z | ⟨z, -⟩
      · rw [← z]; exact hb
      · rw [z] at hb; simp at hb
    · rw [← hR u c]; exact hb
  have hne : ∀ u : Nat, u ≠ v → ((f, u) : Nat × Nat) ≠ (f, v) := fun u hu q => hu (by injection q)
  have hA : ∀ u : Nat, kA ((x f).1, (x f).2.1, 0, R2, kH (x f), al2, lo2, kAn (x f)) u → kA (x f) u := fun u hu => kA_al rfl hn hu (hal u)
  refine kJ_var hw hn (fun j u hj => ⟨rfl, qUp_ne (fun q => ?_)⟩) (fun u hu => hR u (by omega)) ⟨[], fun e he => by simp at he, Or.inl rfl⟩ hmt (fun u hu => ?_) (lIv_mono2 (h1.1 f hf) (fun u a hu ha => ⟨hA u hu, hRr u a ha⟩) (fun u a l _ _ hl => hl) (fun u a _ _ => Iff.rfl)) (fun u a hu ha => ?_) (fun u t g u4 hv hk hu => ?_) (fun u π z u4 hz => ?_) (fun w w4 hw2 => ?_)
  · injection q with q1 q2
    omega
  · by_cases c : u = v
    · rw [c, qUp_eq]; exact qOk_C (h0 (f, v)) hm
    · rw [qUp_ne (hne u c)]; exact h0 (f, u)
  · refine ⟨(h2 f hf u a (hA u hu) (hRr u a ha)).1, qTg_C (h2 f hf u a (hA u hu) (hRr u a ha)).2 (hc u a ?_ ha)⟩
    rcases hu with q | ⟨q1, q2⟩
    · exact Or.inl q
    · exact Or.inr ⟨q1, by have q2 : u < 40 + wl (x f).2.1 + 0 := q2; omega⟩
  · by_cases c : u = v
    · subst c
      rw [qUp_eq] at hv
      obtain ⟨k1, k2⟩ := qC_some hv
      rcases hRv with z | ⟨-, z⟩
      · rw [z]; exact h3 f hf u t g k2 hk (Or.inl ⟨u4, hal u hu⟩)
      · exact absurd (by rw [z]; exact lP_rf _) k1
    · rw [qUp_ne (hne u c)] at hv
      rw [hR u c]
      exact h3 f hf u t g hv hk (Or.inl ⟨u4, hal u hu⟩)
  · have hz2 : V (f, u) π = some z := by
      by_cases c : u = v
      · subst c
        rw [qUp_eq] at hz
        exact (qC_some hz).2
      · rw [qUp_ne (hne u c)] at hz; exact hz
    obtain ⟨-, k1, k2⟩ := h5 f u π z hz2
    refine ⟨?_, k2 u4⟩
    rcases k1 with ⟨a, b⟩ | ⟨a, b⟩ | ⟨a, b⟩ | ⟨r, m, i, a, b, c⟩
    · exact b
    · omega
    · omega
    · omega
  · refine ⟨(h6 f hf w w4 hw2).1, fun π T g1 g2 g3 => ?_⟩
    obtain ⟨k1, k2⟩ := hlo w π g3
    have q := (h6 f hf w w4 hw2).2 π T g1 g2 k1
    by_cases c : w = v
    · subst c
      rw [qUp_eq]
      exact qQ_cg q (fun τ => qC_out (fun z => k2 rfl (lP_two (lP_app π τ) z)))
    · rw [qUp_ne (hne w c)]; exact q
/-- variable v of the latest frame gets the value W; where it leads if it is a reference -/
theorem kJ_set {y : qY} {vt : Nat → Nat → Nat} {tb : Nat → lTb} {f : Nat} {x : Nat → kFm} {rt : Nat × Nat → Nat} {V : Nat × Nat → qV} (hrf : qRf y) (h : kJ y vt tb f x rt V) {v : Nat} {S2 : List tE} {W : qV} {ro : Option lLc} {hd : Nat → Prop} {al2 : Nat → Prop} {lo2 : Nat → lLc → Prop} (hn : (x f).2.2.1 = 0) (hv4 : v < 40) (hmt : ∀ r m : Nat, (5, r, m) ∉ (x f).2.1 ∧ (6, r, m) ∉ (x f).2.1) (hS : (S2 = (8, v, 0) :: (x f).2.1 ∧ (8, v, 0) ∉ (x f).2.1) ∨ (S2 = (x f).2.1 ∧ (8, v, 0) ∈ (x f).2.1 ∧ (y.1 (vt (x f).1 v) = 5 ∨ y.1 (vt (x f).1 v) = 6))) (hW : qOk y (vt (x f).1 v) W) (hal : ∀ u : Nat, u ≠ v → al2 u → kal (x f) u) (hlo : ∀ (w : Nat) (π : lLc), w ≠ v → ¬ lo2 w π → ¬ klo (x f) w π) (hlv : ∀ (π : lLc) (T : Nat), qM π → qW y (vt (x f).1 v) π T → ¬ lo2 v π → qQ y W π T) (hro : (ro = none ∧ ∀ z : Nat × Nat, W [] = some z → y.1 z.1 ≠ 5 ∧ y.1 z.1 ≠ 6) ∨ ∃ a : lLc, ro = some a ∧ lOk f (tb (x f).1) (kAn (x f)) hd (y.1 (vt (x f).1 v) = 6) a ∧ (∀ u : Nat, ((u < 40 ∧ al2 u) ∨ (40 ≤ u ∧ u < 40 + wl (x f).2.1)) → u ≠ v → lMt (tb (x f).1) (kfr y rt f (x f)) v hd (y.1 (vt (x f).1 v) = 6) a u) ∧ qTg y rt V a (y.2.1 (vt (x f).1 v)) ∧ (y.1 (vt (x f).1 v) = 5 ∨ y.1 (vt (x f).1 v) = 6)) : kJ y vt tb f (kUx x f ((x f).1, S2, 0, lUp (kR (x f)) v ro, lUp (kH (x f)) v hd, al2, lo2, kAn (x f))) (qRt rt (f, v) (vt (x f).1 v)) (qUp V (f, v) W) := by
  have hw := h
  obtain ⟨h0, h1, h2, h3, h4, h5, h6, h7, h8⟩ := h
  have hf := Nat.le_refl f
  have hne : ∀ u : Nat, u ≠ v → ((f, u) : Nat × Nat) ≠ (f, v) := fun u hu q => hu (by injection q)
  have wS : wl S2 = wl (x f).2.1 := by
    rcases hS with ⟨e, -⟩ | ⟨e, -⟩
    · rw [e]; exact wl_0 (Or.inl rfl)
    · rw [e]
  have memS : ∀ e : tE, e ∈ S2 → e ≠ (8, v, 0) → e ∈ (x f).2.1 := fun e he hn => by
    rcases hS with ⟨z, -⟩ | ⟨z, -⟩
    · rw [z] at he
      exact (List.mem_cons.mp he).resolve_left hn
    · rw [z] at he; exact he
  have memI : ∀ e : tE, e ∈ (x f).2.1 → e ∈ S2 := fun e he => by
    rcases hS with ⟨z, -⟩ | ⟨z, -⟩
    · rw [z]; exact List.mem_cons_of_mem _ he
    · rw [z]; exact he
  have memv : (8, v, 0) ∈ S2 := by
    rcases hS with ⟨z, -⟩ | ⟨z, q, -⟩
    · rw [z]; exact List.mem_cons_self ..
    · rw [z]; exact q
  have hA : ∀ u : Nat, u ≠ v → kA ((x f).1, S2, 0, lUp (kR (x f)) v ro, lUp (kH (x f)) v hd, al2, lo2, kAn (x f)) u → kA (x f) u ∧ ((u < 40 ∧ al2 u) ∨ (40 ≤ u ∧ u < 40 + wl (x f).2.1)) := fun u hne hu => by
    refine ⟨kA_al wS hn hu (hal u hne), ?_⟩
    rcases hu with q | ⟨q1, q2⟩
    · exact Or.inl q
    · exact Or.inr ⟨q1, by have q2 : u < 40 + wl S2 + 0 := q2; omega⟩
  -- nothing that is used leads to v
  have hTg : ∀ (b : lLc) (t : Nat), (y.1 t = 5 ∨ y.1 t = 6) → qTg y rt V b (y.2.1 t) → qTg y (qRt rt (f, v) (vt (x f).1 v)) (qUp V (f, v) W) b (y.2.1 t) := fun b t ht hb => by
    obtain ⟨r, π, g1, g2, g3, g4⟩ := hb
    have : r ≠ (f, v) := fun q => by
      subst q
      obtain ⟨τ, z, hz⟩ := qF_pl g4
      obtain ⟨-, k1, k2⟩ := h5 f v _ z hz
      rcases hS with ⟨-, e⟩ | ⟨-, -, e⟩
      · rcases k1 with ⟨a, b⟩ | ⟨a, b⟩ | ⟨a, b⟩ | ⟨r, m, i, a, b, c⟩
        · exact e b
        · omega
        · omega
        · omega
      · rw [k2 hv4] at g3
        have hπ : π = [] := by
          cases π with
          | nil => rfl
          | cons c π =>
            obtain ⟨c1, c2⟩ := c
            match c1, g3 with
            | 0, g3 => rcases e with e | e <;> exact absurd (e.symm.trans g3.1) (by decide)
            | 1, g3 => rcases e with e | e <;> exact absurd (e.symm.trans g3.2.1) (by decide)
            | g + 2, g3 => rcases e with e | e <;> exact absurd (e.symm.trans g3.1) (by decide)
        subst hπ
        have g3 : y.2.1 t = vt (x f).1 v := g3
        obtain ⟨n5, n6⟩ := hrf t ht
        rw [g3] at n5 n6
        rcases e with e | e
        · exact n5 e
        · exact n6 e
    exact ⟨r, π, g1, g2, by rw [qRt_ne this]; exact g3, by rw [qUp_ne this]; exact g4⟩
  have rr : ∀ (u : Nat) (b : lLc), u ≠ v → kA (x f) u → kR (x f) u = some b → qTr y (qRt rt (f, v) (vt (x f).1 v)) (qUp V (f, v) W) f u b := fun u b hne2 hu hb => by
    unfold qTr
    rw [qRt_ne (hne u hne2)]
    exact ⟨(h2 f hf u b hu hb).1, hTg b _ (h2 f hf u b hu hb).1 (h2 f hf u b hu hb).2⟩
  have hU : ∀ u : Nat, u ≠ v → (y.1 (qRt rt (f, v) (vt (x f).1 v) (f, u)) = 6 ↔ y.1 (rt (f, u)) = 6) := fun u c => by rw [qRt_ne (hne u c)]
  have lv : lIv f (tb (x f).1) (kAn (x f)) (kfr y (qRt rt (f, v) (vt (x f).1 v)) f ((x f).1, S2, 0, lUp (kR (x f)) v ro, lUp (kH (x f)) v hd, al2, lo2, kAn (x f))) := by
    rcases hro with ⟨e, -⟩ | ⟨a, e, hok, hmt2, -⟩
    · refine lIv_mono2 (h1.1 f hf) (fun u b hu hb => ?_) (fun u b l hu hb hl => ?_) (fun u b hu hb => ?_)
      · have hb : lUp (kR (x f)) v ro u = some b := hb
        by_cases c : u = v
        · rw [c, lUp_eq, e] at hb; simp at hb
        · rw [lUp_ne c] at hb
          exact ⟨(hA u c hu).1, hb⟩
      · have hb : lUp (kR (x f)) v ro u = some b := hb
        by_cases c : u = v
        · rw [c, lUp_eq, e] at hb; simp at hb
        · show lUp (kH (x f)) v hd u l
          rw [lUp_ne c]; exact hl
      · have hb : lUp (kR (x f)) v ro u = some b := hb
        by_cases c : u = v
        · rw [c, lUp_eq, e] at hb; simp at hb
        · exact hU u c
    · have hlv2 := lIv_new (t := v) (hd := hd) (un := y.1 (vt (x f).1 v) = 6) (a := a) (A2 := fun u => ((u < 40 ∧ al2 u) ∨ (40 ≤ u ∧ u < 40 + wl (x f).2.1)) ∧ u ≠ v) (h1.1 f hf) (fun u hu c => by
        rcases hu.1 with ⟨a, b⟩ | ⟨a, b⟩
        · exact Or.inl ⟨a, hal u c b⟩
        · exact Or.inr ⟨a, by omega⟩) hok (fun u hu c => hmt2 u hu.1 c)
      refine lIv_mono2 hlv2 (fun u b hu hb => ⟨?_, by rw [← e]; exact hb⟩) (fun u b l hu hb hl => hl) (fun u b hu hb => ?_)
      · by_cases c : u = v
        · exact Or.inr c
        · exact Or.inl ⟨(hA u c hu).2, c⟩
      · show y.1 (qRt rt (f, v) (vt (x f).1 v) (f, u)) = 6 ↔ lUp (kfr y rt f (x f)).2.2.2 v (y.1 (vt (x f).1 v) = 6) u
        by_cases c : u = v
        · rw [c, qRt_eq, lUp_eq]
        · rw [lUp_ne c]; exact hU u c
  refine kJ_var hw hn (fun j u hj => ?_) (fun u hu => lUp_ne (by omega)) ?_ hmt (fun u hu => ?_) lv (fun u b hu hb => ?_) (fun u t g u4 hv hk hu => ?_) (fun u π z u4 hz => ?_) (fun w w4 hw2 => ?_)
  · have : ((j, u) : Nat × Nat) ≠ (f, v) := fun q => by
      injection q with q1 q2
      omega
    exact ⟨qRt_ne this, qUp_ne this⟩
  · rcases hS with ⟨e, -⟩ | ⟨e, -⟩
    · exact ⟨[(8, v, 0)], fun e he => ⟨v, List.mem_singleton.mp he⟩, Or.inr (by rw [e]; rfl)⟩
    · exact ⟨[], fun e he => by simp at he, Or.inl (by rw [e]; rfl)⟩
  · by_cases c : u = v
    · rw [c, qUp_eq, qRt_eq]; exact hW
    · rw [qUp_ne (hne u c), qRt_ne (hne u c)]; exact h0 (f, u)
  · have hb : lUp (kR (x f)) v ro u = some b := hb
    by_cases c : u = v
    · subst c
      rw [lUp_eq] at hb
      rcases hro with ⟨e, -⟩ | ⟨a, e, -, -, hT, hk⟩
      · rw [e] at hb; simp at hb
      · rw [e] at hb
        obtain rfl := Option.some.inj hb
        unfold qTr
        rw [qRt_eq]
        exact ⟨hk, hTg _ _ hk hT⟩
    · rw [lUp_ne c] at hb
      exact rr u b c (hA u c hu).1 hb
  · show ∃ a : lLc, lUp (kR (x f)) v ro u = some a
    by_cases c : u = v
    · subst c
      rw [qUp_eq] at hv
      rw [lUp_eq]
      rcases hro with ⟨e, e2⟩ | ⟨a, e, -⟩
      · exact absurd hk (by obtain ⟨k1, k2⟩ := e2 _ hv; rintro (z | z); exact k1 z; exact k2 z)
      · exact ⟨a, e⟩
    · rw [qUp_ne (hne u c)] at hv
      rw [lUp_ne c]
      exact h3 f hf u t g hv hk (Or.inl ⟨u4, hal u c hu⟩)
  · by_cases c : u = v
    · subst c
      rw [qRt_eq]
      exact ⟨memv, rfl⟩
    · rw [qUp_ne (hne u c)] at hz
      rw [qRt_ne (hne u c)]
      obtain ⟨-, k1, k2⟩ := h5 f u π z hz
      refine ⟨?_, k2 u4⟩
      rcases k1 with ⟨a, b⟩ | ⟨a, b⟩ | ⟨a, b⟩ | ⟨r, m, i, a, b, c⟩
      · exact memI _ b
      · omega
      · omega
      · omega
  · by_cases c : w = v
    · subst c
      rw [qUp_eq, qRt_eq]
      exact ⟨rfl, hlv⟩
    · rw [qUp_ne (hne w c), qRt_ne (hne w c)]
      have q := h6 f hf w w4 (memS _ hw2 (fun q => c (by injection q with q1 q2; injection q2)))
      exact ⟨q.1, fun π T g1 g2 g3 => q.2 π T g1 g2 (hlo w π c g3)⟩
