theorem khs_8 {z : qZ} : ∀ {O : List tE}, (∀ e : tE, e ∈ O → ∃ v : Nat, e = (8, v, 0)) → khs z O = 0
  | [], _ => rfl
  | e :: O, h => by
    obtain ⟨v, rfl⟩ := h e (List.mem_cons_self ..)
    show khs z O + 0 = 0
    rw [khs_8 (fun e he => h e (List.mem_cons_of_mem _ he))]
theorem wl_8 : ∀ {O : List tE}, (∀ e : tE, e ∈ O → ∃ v : Nat, e = (8, v, 0)) → wl O = 0
  | [], _ => rfl
  | e :: O, h => by
    obtain ⟨v, rfl⟩ := h e (List.mem_cons_self ..)
    rw [wl_0 (Or.inl rfl)]
    exact wl_8 (fun e he => h e (List.mem_cons_of_mem _ he))
theorem kAk_8 {y : qY} {z : qZ} {c : Nat → Int} {ra : Nat × Nat → Nat} {j B : Nat} : ∀ {O S : List tE}, (∀ e : tE, e ∈ O → ∃ v : Nat, e = (8, v, 0)) → (kAk y z c ra j B (O ++ S) ↔ kAk y z c ra j B S)
  | [], _, _ => Iff.rfl
  | e :: O, S, h => by
    obtain ⟨v, rfl⟩ := h e (List.mem_cons_self ..)
    have := kAk_8 (y := y) (z := z) (c := c) (ra := ra) (j := j) (B := B) (O := O) (S := S) (fun e he => h e (List.mem_cons_of_mem _ he))
    exact ⟨fun q => this.mp q.2, fun q => ⟨trivial, this.mpr q⟩⟩
/-- only the latest frame's variables change -/
theorem kL_var {y : qY} {z : qZ} {vt vo : Nat → Nat → Nat} {vc : Nat → Nat} {tb : Nat → lTb} {hp : Nat} {tk tk2 : Nat → Prop} {c c2 : Nat → Int} {f : Nat} {x : Nat → kFm} {rt ra rt2 ra2 : Nat × Nat → Nat} {V V2 : Nat × Nat → qV} {fb : Nat → Nat} {top : Nat} {fil fil2 : Nat → Nat → Nat → Prop} (hJ : kJ y vt tb f x rt V) (h : kL y z vt vo vc hp tk c f x rt ra V fb top fil) {S2 : List tE} {R2 : Nat → Option lLc} {H2 : Nat → Nat → Prop} {al2 : Nat → Prop} {lo2 : Nat → lLc → Prop} (hn : (x f).2.2.1 = 0) (e1 : ∀ j u : Nat, j ≠ f ∨ 40 ≤ u → rt2 (j, u) = rt (j, u) ∧ ra2 (j, u) = ra (j, u) ∧ V2 (j, u) = V (j, u)) (hR : ∀ u : Nat, 40 ≤ u → R2 u = kR (x f) u) (hS : ∃ O : List tE, (∀ e : tE, e ∈ O → ∃ v : Nat, e = (8, v, 0)) ∧ ((x f).2.1 = O ++ S2 ∨ S2 = O ++ (x f).2.1)) (hmt : ∀ r m : Nat, (5, r, m) ∉ (x f).2.1 ∧ (6, r, m) ∉ (x f).2.1) (q : qMm y z hp tk2 c2 rt2 ra2 V2) (hc : ∀ (j u : Nat) (w : Nat × Nat), j ≠ f ∨ 40 ≤ u → V (j, u) [] = some w → c2 (ra (j, u)) = c (ra (j, u))) (ad : ∀ (j u : Nat) (a : lLc), j ≤ f → kA (x j) u → kR (x j) u = some a → (j = f → 40 ≤ u) → qAd y z c2 rt2 ra2 a = qAd y z c rt ra a) (rv : ∀ (u : Nat) (a : lLc), u < 40 → al2 u → R2 u = some a → (∃ w : Nat × Nat, V2 (f, u) [] = some w) → c2 (ra2 (f, u)) = qAd y z c2 rt2 ra2 a) (v1 : ∀ v : Nat, v < 40 → (8, v, 0) ∈ S2 → ra2 (f, v) = fb f + vo (x f).1 v) (f1 : ∀ j : Nat, j ≠ f → fil2 j = fil j) (f2 : ∀ v : Nat, v < 40 → (8, v, 0) ∈ S2 → ∀ (π : lLc) (t : Nat), qM π → qW y (vt (x f).1 v) π t → y.1 t ≠ 2 → fil2 f v (qA y z c2 (vt (x f).1 v) 0 π) → ∃ w : Nat × Nat, V2 (f, v) π = some w) (n1 : ∀ (u : Nat) (π : lLc) (w : Nat × Nat), u < 40 → V2 (f, u) π = some w → vt (x f).1 u ≠ 0) : kL y z vt vo vc hp tk2 c2 f (kUx x f ((x f).1, S2, 0, R2, H2, al2, lo2, kAn (x f))) rt2 ra2 V2 fb top fil2 := by
  have hL := h
  obtain ⟨l0, l1, l2, l3, l4, l5, l6, l7, l8, l9⟩ := h
  have hf := Nat.le_refl f
  have h8 := hJ.2.2.2.2.2.2.2.2 f hf
  obtain ⟨O, hO, hS⟩ := hS
  have wO := wl_8 hO
  have kO := khs_8 (z := z) hO
  have wS : wl S2 = wl (x f).2.1 := by
    rcases hS with e | e
    · rw [e, wl_app, wO]; omega
    · rw [e, wl_app, wO]; omega
  have kS : khs z S2 = khs z (x f).2.1 := by
    rcases hS with e | e
    · rw [e, khs_app, kO]; omega
    · rw [e, khs_app, kO]; omega
  have mem : ∀ e : tE, e.1 ≠ 8 → e ∈ S2 → e ∈ (x f).2.1 := fun e he hm => by
    rcases hS with z | z
    · rw [z]; exact List.mem_append_right _ hm
    · rw [z] at hm
      rcases List.mem_append.mp hm with q | q
      · obtain ⟨v, rfl⟩ := hO e q
        exact absurd rfl he
      · exact q
  have no300 : ∀ j : Nat, j ≤ f → ∀ w : Nat × Nat, V (j, 300) [] = some w → False := fun j hj w hw => by
    rcases (hJ.2.2.2.2.2.1 j 300 [] w hw).2.1 with ⟨b1, b2⟩ | ⟨b1, b2⟩ | ⟨b1, r2, m, b2⟩ | ⟨r2, m2, i, b1, b2, b3⟩
    · omega
    · have := hJ.2.2.2.2.2.2.2.2 j hj
      omega
    · have h7 := hJ.2.2.2.2.2.2.2.1 j hj r2 m
      rcases b2 with b2 | b2
      · obtain ⟨rfl, -⟩ := h7.1 b2
        exact (hmt r2 m).1 b2
      · obtain ⟨rfl, -⟩ := h7.2 b2
        exact (hmt r2 m).2 b2
    · omega
  refine kL_top hJ hL _ rfl q (fun j u hj => e1 j u (Or.inl hj)) (fun j u w hj hw => hc j u w (Or.inl hj) hw) (fun j u a hj hu ha hw => ?_) (fun u a hu ha hw => ?_) ?_ v1 ?_ f1 f2 n1 (fun r m hm => l9 f hf r m (mem _ (by show (4 : Nat) ≠ 8; decide) hm))
  · rcases hu with hu | hu
    · exact ad j u a (by omega) hu ha (fun q => absurd q (by omega))
    · subst hu
      obtain ⟨w, hw⟩ := hw
      exact (no300 j (by omega) w hw).elim
  · have ha : R2 u = some a := ha
    rcases hu with hu | hu
    · rcases hu with ⟨b1, b2⟩ | ⟨b1, b2⟩
      · exact rv u a b1 b2 ha hw
      · have b2 : u < 40 + wl S2 + 0 := b2
        obtain ⟨a1, a2, a3⟩ := e1 f u (Or.inr b1)
        rw [hR u b1] at ha
        rw [a3] at hw
        have hA : kA (x f) u := Or.inr ⟨b1, by omega⟩
        rw [a2, ad f u a hf hA ha (fun _ => b1), ← l1 f hf u a (Or.inl hA) ha hw]
        obtain ⟨w, hw⟩ := hw
        exact hc f u w (Or.inr b1) hw
    · subst hu
      rw [(e1 f 300 (Or.inr (by omega))).2.2] at hw
      obtain ⟨w, hw⟩ := hw
      exact (no300 f hf w hw).elim
  · show kAk y z c2 ra2 f (fb f + vc (x f).1) S2
    have k0 : kAk y z c2 ra2 f (fb f + vc (x f).1) (x f).2.1 := kAk_cg (hJ.2.2.2.2.1 f hf) (l2 f hf) (fun u hu => (e1 f u (Or.inr (by omega))).2.1) (fun u w h4 _ hw => hc f u w (Or.inr h4) hw)
    rcases hS with e | e
    · rw [e] at k0
      exact (kAk_8 hO).mp k0
    · rw [e]
      exact (kAk_8 hO).mpr k0
  · show top = fb f + vc (x f).1 + khs z S2
    rw [kS]; exact l6
