/-- the types of the values on the stack are types of the table -/
def gd (F : tF) (yp yt : Nat) (s : List tE) : Prop := ∀ e : tE, e ∈ s → (e.1 = 0 → e.2.1 = 0 ∨ (tyN yp (F 20) e.2.1 ∧ e.2.1 < yt)) ∧ ((e.1 = 1 ∨ e.1 = 2) → tyN yp (F 20) e.2.1 ∧ e.2.1 < yt ∧ e.2.2 < 64)
/-- a frame that stands at i -/
def Fr (N : lK) (L : Nat → Nat → lLc → Prop) (g i : Nat) (s : List tE) (R : Nat → Option lLc) (An : Nat → lLc → Nat → Prop) : kFm := (g, s, 0, R, N.1 i, (fun u => u < 40 ∧ N.2.1 i u ∧ ¬ L i u []), L i, An)
/-- what is known of a function -/
def sgE (y : qY) (z : qZ) (F X : tF) (G : Nat → Nat → Nat) (rs a b n yp yt : Nat) (k : Nat → Option (List tE)) (N : lK) (L : Nat → Nat → lLc → Prop) (Rm : Nat → Prop) (tb : lTb) (rl : Nat → Int32) (pl : Nat → Nat → Int32) (me : Int32) (vg : Nat → Nat) : Prop :=
  (tbO F X yp yt ∧ y = yF F X yp yt ∧ z = zF F X yt ∧ (∀ sh : Nat, sh < 30 → (F 20 (4 + sh) = 2 ∨ F 20 (4 + sh) = 3) → sh < yp) ∧ (∀ t : Nat, t < 3040 → (F 20 t = 4 ∨ F 20 t = 5 ∨ F 20 t = 6) → 34 ≤ t ∧ t < yt) ∧ (∀ (j : Nat) (s : List tE), Rm j → k j = some s → gd F yp yt s ∧ (F 0 j = nI 25 → vl s = 0)) ∧ ∀ (i o p v : Nat) (s : List tE), Rm i → k i = some s → F 0 i = nI o → (o = 2 ∨ o = 3 ∨ o = 4 ∨ o = 26) → F 1 i = nI p → p < 3001 → F 6 p = nI v → v < 40 → (8, v, 0) ∈ s) ∧ ceI F X G rs a b k ∧ (∀ (i : Nat) (s : List tE), a ≤ i → i < b → k i = some s → vl s ≤ 211) ∧ k b = none ∧ n ≤ 40 ∧
  (∀ w : Nat, w < 40 → F 15 w ≠ -1 → w < n ∧ ∃ T0 : Nat, F 15 w = nI T0 ∧ tyV yp yt (F 20) T0 ∧ vg w = ymF F T0) ∧ (∀ v i : Nat, v < 40 → i < 6000 → F 18 v = nI i → v < n) ∧
  (∀ (i o : Nat) (s : List tE), a ≤ i → i < b → k i = some s → F 0 i = nI o → o < 33 → N.2.2 i → Rm i → lRu F G tb rl pl me k a b N i s o ∧ mRu F y z vg n k a b L Rm i o) ∧
  (∀ (i v : Nat) (π : lLc), n ≤ v → L i v π) ∧ (∀ v : Nat, v < n → (tb.2.2.2.2 v ↔ (F 20 (cN (F 15 v)) = 5 ∨ F 20 (cN (F 15 v)) = 6))) ∧
  (∀ (i p v c : Nat) (s : List tE), a ≤ i → i < b → k i = some s → F 0 i = 4 → F 1 i = nI p → p < 3001 → F 6 p = nI v → v < 40 → F 2 i = nI c → c < 54 → ¬ tb.2.2.2.1 c ∧ tb.1 c = v ∧ tb.2.1 c = wyF F p ∧ (F 3 i = 1 → ¬ tb.2.2.1 c)) ∧
  ((∀ i u l v : Nat, N.1 i u l → ¬ tb.2.2.2.1 l → tb.1 l = v → v < n → F 20 (cN (F 15 v)) = 5 → tb.2.2.1 l) ∧ ∀ j : Nat, Rm j → a ≤ j ∧ j < b) ∧ ∀ i u : Nat, N.2.1 i u → F 20 (cN (F 15 u)) = 5 ∨ F 20 (cN (F 15 u)) = 6
/-- the top frame stands at i -/
def At (y : qY) (z : qZ) (vt vo : Nat → Nat → Nat) (vc : Nat → Nat) (tb : Nat → lTb) (hp : Nat) (a b : Nat) (k : Nat → Option (List tE)) (N : lK) (L : Nat → Nat → lLc → Prop) (Rm : Nat → Prop) (g f : Nat) (x : Nat → kFm) (An : Nat → lLc → Nat → Prop) (fb : Nat → Nat) (i : Nat) (tk : Nat → Prop) (c : Nat → Int) (top : Nat) (fil : Nat → Nat → Nat → Prop) : Prop := ∃ (s : List tE) (R : Nat → Option lLc), k i = some s ∧ a ≤ i ∧ i < b ∧ N.2.2 i ∧ Rm i ∧ kS y z vt vo vc tb hp tk c f (kUx x f (Fr N L g i s R An)) fb top fil
theorem vl_no : ∀ {s : List tE}, vl s ≤ 210 → ∀ e : tE, e ∈ s → ¬ (e.1 = 4 ∨ e.1 = 5 ∨ e.1 = 6)
  | [], _, e, he => by simp at he
  | x :: s, h, e, he => by
    have h : vl s + (if x.1 = 8 then 0 else if x.1 = 4 ∨ x.1 = 5 ∨ x.1 = 6 then 211 else 1) ≤ 210 := h
    rcases List.mem_cons.mp he with q | q
    · subst q
      intro q2
      rw [if_neg (by omega), if_pos q2] at h
      omega
    · exact vl_no (s := s) (by omega) e q
theorem vl_1 {e : tE} {s : List tE} (h : vl (e :: s) ≤ 211) (he : kNm e) : vl s ≤ 210 := by
  have h : vl s + (if e.1 = 8 then 0 else if e.1 = 4 ∨ e.1 = 5 ∨ e.1 = 6 then 211 else 1) ≤ 211 := h
  rw [if_neg (fun q => he (Or.inl q)), if_neg (fun q => he (Or.inr q))] at h
  omega
theorem no56 {s : List tE} (h : ∀ e : tE, e ∈ s → ¬ (e.1 = 4 ∨ e.1 = 5 ∨ e.1 = 6)) : ∀ r m : Nat, (5, r, m) ∉ s ∧ (6, r, m) ∉ s := fun r m => ⟨fun q => h _ q (Or.inr (Or.inl rfl)), fun q => h _ q (Or.inr (Or.inr rfl))⟩
theorem kes_le {z : qZ} (hz : ∀ t : Nat, z.1 t ≤ 16) : ∀ e : tE, kes z e ≤ 16 ∧ (e.1 = 8 → kes z e = 0)
  | (0, t, m) => ⟨by show (if t = 0 then 0 else z.1 t) ≤ 16; split; omega; exact hz t, fun q => absurd q (by show ¬ ((0 : Nat) = 8); decide)⟩
  | (1, t, m) => ⟨by show 1 ≤ 16; decide, fun q => absurd q (by show ¬ ((1 : Nat) = 8); decide)⟩
  | (2, t, m) => ⟨by show 1 ≤ 16; decide, fun q => absurd q (by show ¬ ((2 : Nat) = 8); decide)⟩
  | (3, t, m) => ⟨by show 1 ≤ 16; decide, fun q => absurd q (by show ¬ ((3 : Nat) = 8); decide)⟩
  | (4, t, m) => ⟨hz _, fun q => absurd q (by show ¬ ((4 : Nat) = 8); decide)⟩
  | (5, t, m) => ⟨by show 1 ≤ 16; decide, fun q => absurd q (by show ¬ ((5 : Nat) = 8); decide)⟩
  | (6, t, m) => ⟨by show 1 ≤ 16; decide, fun q => absurd q (by show ¬ ((6 : Nat) = 8); decide)⟩
  | (7, t, m) => ⟨hz t, fun q => absurd q (by show ¬ ((7 : Nat) = 8); decide)⟩
  | (8, t, m) => ⟨by show 0 ≤ 16; decide, fun _ => rfl⟩
  | (w + 9, t, m) => ⟨by show 1 ≤ 16; decide, fun q => absurd q (by show ¬ (w + 9 = 8); omega)⟩
theorem khs_vl {z : qZ} (hz : ∀ t : Nat, z.1 t ≤ 16) : ∀ s : List tE, khs z s ≤ 16 * vl s
  | [] => Nat.le_refl _
  | e :: s => by
    have h1 := khs_vl hz s
    obtain ⟨h2, h3⟩ := kes_le hz e
    show khs z s + kes z e ≤ 16 * (vl s + (if e.1 = 8 then 0 else if e.1 = 4 ∨ e.1 = 5 ∨ e.1 = 6 then 211 else 1))
    by_cases c1 : e.1 = 8
    · rw [if_pos c1, h3 c1]; omega
    · rw [if_neg c1]
      by_cases c2 : e.1 = 4 ∨ e.1 = 5 ∨ e.1 = 6
      · rw [if_pos c2]; omega
      · rw [if_neg c2]; omega
section
variable {y : qY} {z : qZ} {vt vo : Nat → Nat → Nat} {vc : Nat → Nat} {tb : Nat → lTb} {hp : Nat} {tk tk2 : Nat → Prop} {c c2 : Nat → Int} {f g i j : Nat} {x : Nat → kFm} {An : Nat → lLc → Nat → Prop} {fb : Nat → Nat} {top top2 : Nat} {fil fil2 : Nat → Nat → Nat → Prop} {N : lK} {L : Nat → Nat → lLc → Prop} {Rm : Nat → Prop} {F X : tF} {G : Nat → Nat → Nat} {rs a b n yp yt : Nat} {k : Nat → Option (List tE)} {rl : Nat → Int32} {pl : Nat → Nat → Int32} {me : Int32} {s s2 : List tE} {R R2 : Nat → Option lLc}
theorem kpA {E : Nat → Prop} {m : Nat} (hL : ∀ (i v : Nat) (π : lLc), n ≤ v → L i v π) (h1 : lkp N i j m E) (h2 : mkp L n i j E) : ∀ u : Nat, ¬ E u → (u < 40 ∧ N.2.1 j u ∧ ¬ L j u []) → (u < 40 ∧ N.2.1 i u ∧ ¬ L i u []) := fun u hu h => by
  obtain ⟨a1, a2, a3⟩ := h
  refine ⟨a1, h1.2.2 u a1 hu a2, fun q => a3 ?_⟩
  rcases Nat.lt_or_ge u n with g | g
  · exact h2 u [] g hu q
  · exact hL j u [] g
theorem kpL {E : Nat → Prop} (hL : ∀ (i v : Nat) (π : lLc), n ≤ v → L i v π) (h2 : mkp L n i j E) : ∀ (v : Nat) (π : lLc), ¬ E v → L i v π → L j v π := fun v π hv q => by
  rcases Nat.lt_or_ge v n with g | g
  · exact h2 v π g hv q
  · exact hL j v π g
/-- the frame is told by what is known of j -/
theorem fin {H2 : Nat → Nat → Prop} {al2 : Nat → Prop} {lo2 : Nat → lLc → Prop} (h : kS y z vt vo vc tb hp tk c f (kUx x f (g, s, 0, R, H2, al2, lo2, An)) fb top fil) (hH : ∀ (u : Nat) (q : lLc) (l : Nat), ((u < 40 ∧ N.2.1 j u ∧ ¬ L j u []) ∨ (40 ≤ u ∧ u < 40 + wl s) ∨ (u = 300 ∧ ∃ r m : Nat, (5, r, m) ∈ s ∨ (6, r, m) ∈ s)) → R u = some q → H2 u l → N.1 j u l) (hal : ∀ u : Nat, (u < 40 ∧ N.2.1 j u ∧ ¬ L j u []) → al2 u) (hlo : ∀ (v : Nat) (π : lLc), lo2 v π → L j v π) : kS y z vt vo vc tb hp tk c f (kUx x f (Fr N L g j s R An)) fb top fil := by
  have h1 := kS_wk (H2 := N.1 j) (al2 := fun u => u < 40 ∧ N.2.1 j u ∧ ¬ L j u []) (lo2 := L j) h (by rw [kUx_eq]) (by
    rw [kUx_eq]
    intro u q l hu hr hh
    refine hH u q l ?_ hr hh
    rcases hu with ⟨-, hu⟩ | hu | hu
    · exact Or.inl hu
    · exact Or.inr (Or.inl hu)
    · exact Or.inr (Or.inr hu)) (by rw [kUx_eq]; exact hal) (by rw [kUx_eq]; exact fun v π _ _ q => hlo v π q)
  rw [kUx_eq, kUx2] at h1
  exact h1
/-- values go, nothing comes -/
theorem st_pop (h : kS y z vt vo vc tb hp tk c f (kUx x f (Fr N L g i s R An)) fb top fil) {E : List tE} (hs : s = E ++ s2) (hE : ∀ e : tE, e ∈ E → kNm e) (hL : ∀ (i v : Nat) (π : lLc), n ≤ v → L i v π) (h1 : lkp N i j (wl s2) (fun _ => False)) (h2 : mkp L n i j (fun _ => False)) (h3 : ∀ l : Nat, (∃ r m : Nat, (5, r, m) ∈ s2 ∨ (6, r, m) ∈ s2) → N.1 i 300 l → N.1 j 300 l) : kS y z vt vo vc tb hp tk c f (kUx x f (Fr N L g j s2 R An)) fb (fb f + vc g + khs z s2) fil := by
  have q := kS_pop h (E := E) (S := s2) (by rw [kUx_eq]; exact hs) hE (by rw [kUx_eq]; rfl)
  rw [kUx_eq, kUx2] at q
  refine fin q (fun u w l hu _ hh => ?_) (kpA hL h1 h2 · (fun q => q)) (fun v π q => kpL hL h2 v π (fun q => q) q)
  rcases hu with hu | hu | ⟨rfl, hu⟩
  · exact h1.2.1 u l (fun q => q) (Or.inl hu.1) hh
  · exact h1.2.1 u l (fun q => q) (Or.inr hu) hh
  · exact h3 l hu hh
/-- nothing goes or comes -/
theorem st_id (h : kS y z vt vo vc tb hp tk c f (kUx x f (Fr N L g i s R An)) fb top fil) (hL : ∀ (i v : Nat) (π : lLc), n ≤ v → L i v π) (h1 : lkp N i j (wl s) (fun _ => False)) (h2 : mkp L n i j (fun _ => False)) (h3 : ∀ l : Nat, (∃ r m : Nat, (5, r, m) ∈ s ∨ (6, r, m) ∈ s) → N.1 i 300 l → N.1 j 300 l) : kS y z vt vo vc tb hp tk c f (kUx x f (Fr N L g j s R An)) fb top fil := by
  refine fin h (fun u w l hu _ hh => ?_) (kpA hL h1 h2 · (fun q => q)) (fun v π q => kpL hL h2 v π (fun q => q) q)
  rcases hu with hu | hu | ⟨rfl, hu⟩
  · exact h1.2.1 u l (fun q => q) (Or.inl hu.1) hh
  · exact h1.2.1 u l (fun q => q) (Or.inr hu) hh
  · exact h3 l hu hh
/-- a value comes that leads nowhere -/
theorem st_fin0 (h : kS y z vt vo vc tb hp tk c f (kUx x f (g, s, 0, lUp R (40 + wl s2) none, N.1 i, (fun u => u < 40 ∧ N.2.1 i u ∧ ¬ L i u []), L i, An)) fb top fil) {e : tE} (hs : s = e :: s2) (he : kNm e) (hv : vl s ≤ 211) (hL : ∀ (i v : Nat) (π : lLc), n ≤ v → L i v π) (h1 : lkp N i j (wl s2) (fun _ => False)) (h2 : mkp L n i j (fun _ => False)) : kS y z vt vo vc tb hp tk c f (kUx x f (Fr N L g j s (lUp R (40 + wl s2) none) An)) fb top fil := by
  refine fin h (fun u w l hu hr hh => ?_) (kpA hL h1 h2 · (fun q => q)) (fun v π q => kpL hL h2 v π (fun q => q) q)
  rcases hu with hu | hu | ⟨rfl, r, m, hu⟩
  · exact h1.2.1 u l (fun q => q) (Or.inl hu.1) hh
  · rw [hs, wl_n he] at hu
    by_cases e9 : u = 40 + wl s2
    · rw [e9, lUp_eq] at hr; simp at hr
    · exact h1.2.1 u l (fun q => q) (Or.inr ⟨hu.1, by omega⟩) hh
  · exfalso
    rw [hs] at hv hu
    have n5 := no56 (vl_no (vl_1 hv he)) r m
    rcases hu with hu | hu
    · rcases List.mem_cons.mp hu with q | q
      · exact he (Or.inr (Or.inr (Or.inl (by rw [← q]))))
      · exact n5.1 q
    · rcases List.mem_cons.mp hu with q | q
      · exact he (Or.inr (Or.inr (Or.inr (by rw [← q]))))
      · exact n5.2 q
end
