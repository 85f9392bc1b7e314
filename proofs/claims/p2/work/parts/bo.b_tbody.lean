/-- the function's code begins here -/
def tg8 (s : tgS) : tgS := (fun k => match k with | 0 => s.1 0 | 1 => s.1 1 | 2 => s.1 2 | 3 => s.1 3 | 4 => s.1 4 | 5 => s.1 5 | 6 => s.1 6 | 7 => s.1 7 | 8 => 10000 - s.1 0 | k + 9 => s.1 (k + 9), s.2)
def tg18 (s : tgS) (g : Nat → Int32) : tgS := (s.1, fun k => match k with | 0 => s.2 0 | 1 => s.2 1 | 2 => s.2 2 | 3 => s.2 3 | 4 => s.2 4 | 5 => s.2 5 | 6 => s.2 6 | 7 => s.2 7 | 8 => s.2 8 | 9 => s.2 9 | 10 => s.2 10 | 11 => s.2 11 | 12 => s.2 12 | 13 => s.2 13 | 14 => s.2 14 | 15 => s.2 15 | 16 => s.2 16 | 17 => s.2 17 | 18 => g | k + 19 => s.2 (k + 19))
/-- variable v's code begins at x -/
def tFr (s t : tgS) (v : Nat) (x : Int32) : Prop := t.1 = s.1 ∧ (∀ k : Nat, k ≠ 18 → t.2 k = s.2 k) ∧ t.2 18 = upd (s.2 18) v x
theorem tFr_mk {s : tgS} {v : Nat} {x : Int32} {g : Nat → Int32} (h : g = upd (s.2 18) v x) : tFr s (tg18 s g) v x := by
  refine ⟨rfl, fun k hk => ?_, h⟩
  match k, hk with
  | 0, _ => rfl
  | 1, _ => rfl
  | 2, _ => rfl
  | 3, _ => rfl
  | 4, _ => rfl
  | 5, _ => rfl
  | 6, _ => rfl
  | 7, _ => rfl
  | 8, _ => rfl
  | 9, _ => rfl
  | 10, _ => rfl
  | 11, _ => rfl
  | 12, _ => rfl
  | 13, _ => rfl
  | 14, _ => rfl
  | 15, _ => rfl
  | 16, _ => rfl
  | 17, _ => rfl
  | 18, h => exact absurd rfl h
  | k + 19, _ => rfl
theorem tg8_k {s : tgS} : ∀ k : Nat, k ≠ 8 → (tg8 s).1 k = s.1 k
  | 0, _ => rfl
  | 1, _ => rfl
  | 2, _ => rfl
  | 3, _ => rfl
  | 4, _ => rfl
  | 5, _ => rfl
  | 6, _ => rfl
  | 7, _ => rfl
  | 8, h => absurd rfl h
  | _ + 9, _ => rfl
theorem tJ_fr {s t : tgS} {v : Nat} {x : Int32} (h : tJ s) (hf : tFr s t v x) : tJ t := by
  obtain ⟨e1, e2, -⟩ := hf
  unfold tJ
  rw [e1, e2 21 (by decide), e2 22 (by decide), e2 24 (by decide), e2 25 (by decide), e2 26 (by decide), e2 15 (by decide), e2 16 (by decide)]
  exact h
theorem tJ_g8 {s : tgS} (h : tJ s) : tJ (tg8 s) := h
theorem upd_id {f : Nat → Int32} {k : Nat} : upd f k (f k) = f := by
  funext j
  by_cases e : j = k
  · rw [e, pk_us]
  · rw [pk_un e]
/-- cells of the first n variables, one behind the other -/
def vSm (S : tgS) : Nat → Nat
  | 0 => 0
  | n + 1 => vSm S n + vSz S n
/-- i parameters are settled: from S came U -/
def bdL (S U : tgS) (i : Nat) : Prop := (∀ k : Nat, k ≠ 6 → U.1 k = S.1 k) ∧ (∀ k : Nat, k ≠ 17 → k ≠ 18 → U.2 k = S.2 k) ∧ (∀ v : Nat, v < i → U.2 18 v = nI (S.1 0)) ∧ (∀ v : Nat, v < i → ∃ o : Nat, U.2 17 v = nI o ∧ o + vSz S v ≤ U.1 6) ∧ (∀ v w : Nat, v < i → w < i → v ≠ w → cN (U.2 17 v) + vSz S v ≤ cN (U.2 17 w) ∨ cN (U.2 17 w) + vSz S w ≤ cN (U.2 17 v)) ∧ (U.1 6 ≤ 17 * i ∧ U.1 6 = vSm S i ∧ ∀ v : Nat, v < i → U.2 17 v = nI (vSm S v))
theorem bdL_0 {S : tgS} (h : S.1 6 = 0) : bdL S S 0 := ⟨fun _ _ => rfl, fun _ _ _ => rfl, fun v hv => absurd hv (Nat.not_lt_zero v), fun v hv => absurd hv (Nat.not_lt_zero v), fun v w hv => absurd hv (Nat.not_lt_zero v), by omega, h, fun v hv => absurd hv (Nat.not_lt_zero v)⟩
theorem bdL_S {S U W Z : tgS} {i T z : Nat} {x : Int32} (h : bdL S U i) (hs : tSe U W i T z) (hf : tFr W Z i x) (hx : x = nI (S.1 0)) (hT : S.2 15 i = nI T) (hz : S.2 22 T = nI z) (hT3 : T < 3040) (hz17 : z ≤ 17) (hi : i < 40) : bdL S Z (i + 1) := by
  obtain ⟨a1, a2, a3, a4, a5, a6, a7, a8⟩ := h
  obtain ⟨s1, s2, s3, s4, s5⟩ := hs
  obtain ⟨f1, f2, f3⟩ := hf
  have z6 : Z.1 6 = U.1 6 + z := by rw [f1]; exact s1
  have z17 : Z.2 17 = upd (U.2 17) i (nI (U.1 6)) := (f2 17 (by decide)).trans s5
  have z18 : Z.2 18 = upd (U.2 18) i (nI (S.1 0)) := by rw [f3, s3 18 (by decide) (by decide), hx]
  have hsz : vSz S i = z := by unfold vSz; rw [hT, cN_nI (by omega), hz, cN_nI (by omega)]
  have c6 : cN (nI (U.1 6)) = U.1 6 := cN_nI (by omega)
  have hlt : ∀ v : Nat, v < i → cN (U.2 17 v) + vSz S v ≤ U.1 6 := fun v hv => by
    obtain ⟨o, o1, o2⟩ := a4 v hv
    rw [o1, cN_nI (by omega)]; exact o2
  refine ⟨fun k hk => by rw [f1, s2 k hk]; exact a1 k hk, fun k h1 h2 => ?_, fun v hv => ?_, fun v hv => ?_, fun v w hv hw hne => ?_, by omega, ?_, fun v hv => ?_⟩
  · rw [f2 k h2]
    by_cases e : k = 15
    · rw [e, s4, a2 15 (by decide) (by decide), ← hT, upd_id]
    · rw [s3 k e h1]; exact a2 k h1 h2
  · rw [z18]
    by_cases e : v = i
    · rw [e, pk_us]
    · rw [pk_un e]; exact a3 v (by omega)
  · rw [z17, z6]
    by_cases e : v = i
    · rw [e, pk_us, hsz]; exact ⟨U.1 6, rfl, Nat.le_refl _⟩
    · rw [pk_un e]
      obtain ⟨o, o1, o2⟩ := a4 v (by omega)
      exact ⟨o, o1, by omega⟩
  · rw [z17]
    by_cases e : v = i
    · have e2 : w ≠ i := fun q => hne (e.trans q.symm)
      rw [e, pk_us, pk_un e2, c6]
      exact Or.inr (hlt w (by omega))
    · by_cases e2 : w = i
      · rw [e2, pk_us, pk_un e, c6]
        exact Or.inl (hlt v (by omega))
      · rw [pk_un e, pk_un e2]; exact a5 v w (by omega) (by omega) hne
  · rw [z6, a7, ← hsz]; rfl
  · rw [z17]
    by_cases e : v = i
    · rw [e, pk_us, a7]
    · rw [pk_un e]; exact a8 v (by omega)
theorem vcN_all {f : Nat → Int32} : ∀ n : Nat, (∀ v : Nat, v < n → f v ≠ -1) → vcN f n = n
  | 0, _ => rfl
  | n + 1, h => by
    show vcN f n + (if f n = -1 then 0 else 1) = n + 1
    rw [vcN_all n (fun v hv => h v (by omega)), if_neg (h n (by omega))]
theorem bd_tI {yp np : Nat} {X : tF} {S U : tgS} (h : bdL S U np) (h4 : S.1 4 = np) (hT : tyOK yp (tTy S)) (hl : lbI S) (hv : ∀ v : Nat, v < np → ∃ k : Nat, S.2 15 v = nI k ∧ tyV yp (S.1 7) (S.2 20) k) (hq : shQ yp (S.1 7) (S.2 20) X) (ho : ∀ v : Nat, v < np → S.2 19 v = 1073741824) (h7 : S.1 7 ≤ 3040) (h60 : S.1 0 ≤ 6000) : tI yp X (tg8 U) := by
  obtain ⟨a1, a2, a3, a4, a5, a6⟩ := h
  have r : ∀ k : Nat, k ≠ 17 → k ≠ 18 → (tg8 U).2 k = S.2 k := a2
  have c : ∀ k : Nat, k ≠ 6 → k ≠ 8 → (tg8 U).1 k = S.1 k := fun k h1 h2 => (tg8_k k h2).trans (a1 k h1)
  have hne : ∀ v : Nat, v < np → S.2 15 v ≠ -1 := fun v hv9 => by
    obtain ⟨k, k1, k2⟩ := hv v hv9
    have := k2.2
    rw [k1]; exact nI_ne1 (by omega)
  have hz : ∀ v : Nat, vSz (tg8 U) v = vSz S v := fun v => by
    unfold vSz
    rw [r 22 (by decide) (by decide), r 15 (by decide) (by decide)]
  refine ⟨?_, ?_, ?_, ?_, ?_, ?_⟩
  · have e : tTy (tg8 U) = tTy S := by
      unfold tTy
      rw [c 7 (by decide) (by decide), r 20 (by decide) (by decide), r 21 (by decide) (by decide), r 22 (by decide) (by decide), r 23 (by decide) (by decide), r 24 (by decide) (by decide), r 25 (by decide) (by decide), r 26 (by decide) (by decide)]
    rw [e]; exact hT
  · unfold lbI
    rw [c 0 (by decide) (by decide), c 1 (by decide) (by decide), r 0 (by decide) (by decide), r 1 (by decide) (by decide), r 5 (by decide) (by decide)]
    exact hl
  · rw [c 4 (by decide) (by decide), c 7 (by decide) (by decide), r 15 (by decide) (by decide), r 20 (by decide) (by decide), h4]
    exact fun v hv9 => Or.inr (hv v hv9)
  · rw [c 7 (by decide) (by decide), r 20 (by decide) (by decide)]; exact hq
  · unfold vcI
    rw [c 4 (by decide) (by decide), h4, r 15 (by decide) (by decide)]
    refine ⟨fun v hv9 _ => ?_, fun v w hv9 hw hne9 _ _ => ?_, ?_⟩
    · rw [hz v]; exact a4 v hv9
    · rw [hz v, hz w]; exact a5 v w hv9 hw hne9
    · rw [vcN_all np hne]; exact a6.1
  · refine ⟨fun v hv9 => Or.inl ?_, fun i h1 h2 => ?_, fun i j h1 h2 => ?_⟩
    · rw [r 19 (by decide) (by decide)]; exact ho v (by rw [← h4, ← c 4 (by decide) (by decide)]; exact hv9)
    · have h1 : 10000 - (10000 - U.1 0) ≤ i := h1
      have h2 : i < U.1 0 := h2
      have := a1 0 (by decide)
      omega
    · have h1 : 10000 - (10000 - U.1 0) ≤ i := h1
      have h2 : i < U.1 0 := h2
      have := a1 0 (by decide)
      omega
theorem tHd_bd {yp nb np i9 : Nat} {G : Nat → Nat → Nat} {S U : tgS} {i : Nat} (h : tHd yp nb np i9 G S) (hb : bdL S U i) : tHd yp nb np i9 G (tg8 U) := by
  obtain ⟨a1, a2, -⟩ := hb
  unfold tHd
  rw [show (tg8 U).1 4 = S.1 4 from a1 4 (by decide), show (tg8 U).1 7 = S.1 7 from a1 7 (by decide), show (tg8 U).2 15 = S.2 15 from a2 15 (by decide) (by decide), show (tg8 U).2 20 = S.2 20 from a2 20 (by decide) (by decide)]
  exact h
/-- the parameters in scope -/
def bdO : Nat → List tE
  | 0 => []
  | n + 1 => (8, n, 0) :: bdO n
theorem bdO_in : ∀ {n : Nat} {x : tE}, x ∈ bdO n → ∃ v : Nat, x = (8, v, 0) ∧ v < n
  | 0, x, h => by cases h
  | n + 1, x, h => by
    rcases List.mem_cons.mp h with e | e
    · exact ⟨n, e, by omega⟩
    · obtain ⟨v, h1, h2⟩ := bdO_in e
      exact ⟨v, h1, by omega⟩
theorem bdO_mem : ∀ {n v : Nat}, v < n → (8, v, 0) ∈ bdO n
  | 0, v, h => absurd h (Nat.not_lt_zero v)
  | n + 1, v, h => by
    by_cases e : v = n
    · rw [e]; exact List.mem_cons_self ..
    · exact List.mem_cons_of_mem _ (bdO_mem (by omega))
/-- a function's whole code -/
def bdS (X : tF) (G : Nat → Nat → Nat) (rs np : Nat) : tR := fun F a b => sg F X G rs (fun _ _ => False) a b (some (bdO np)) none ∧ ∀ i : Nat, a ≤ i → i < b → F 0 i = 14 → ∃ L m : Nat, L < 1100 ∧ i < m ∧ m < b ∧ F 1 i = nI L ∧ F 0 m = 13 ∧ F 1 m = nI (L + 1)
theorem l_body {yp rs tt p q n2 b v np : Nat} {X : tF} {G : Nat → Nat → Nat} {ft f2 wh : Int32} {U S3 S4 : tgS} {r : Int32} {qt qv ql : Nat} {qp qm : Int32} (hB : tBs 3 yp X G rs tt p q n2 b v np ft f2 (tg8 U) S3 r qt qv ql qp qm) (hA : tAd S3 S4 22 0 0 (-1) (aN wh)) (hf : f2 = 0) (hr : r ≠ 1 → rs = 0) (h18 : ∀ w : Nat, w < np → U.2 18 w = nI (U.1 0)) (h19 : ∀ w : Nat, w < np → U.2 19 w = 1073741824) (h4 : U.1 4 = np) (h12 : np ≤ 12) (hpq : p + 2 ≤ q) (hc : U.1 0 + 2 * (q - p) ≤ 6000) (hv : U.1 4 + v ≤ 40) : tI yp X S4 ∧ tOKb np (U.1 1) (2 * (q - p)) (2 * (cL X q - cL X p)) (q - p) (2 * (q - p)) (q - p) (tg8 U) S4 (bdS X G rs np) := by
  obtain ⟨⟨c1, c2, c3, c4, c5, c6, c7⟩, hB2⟩ := hB
  obtain ⟨y1, y2, y3, y4⟩ := hB2 hf
  have hK := y4.1 [] (nwI_0 (show U.1 4 ≤ np by omega))
  have u0 : (tg8 U).1 0 = U.1 0 := rfl
  have u1 : (tg8 U).1 1 = U.1 1 := rfl
  have u4 : (tg8 U).1 4 = U.1 4 := rfl
  have r0 := hK.2.2.1.1
  have hs0 : S3.1 0 < 6000 := by omega
  have hIt := tI_ad y3 hA hs0 (by unfold isL; decide)
  refine ⟨hIt, tOKb_sq hK (tOKb_of (tOK_ad (lo := (tg8 U).1 1) hA hs0 (by unfold isL; decide)) (by omega)) (by omega) (fun F hF g1 g2 => ?_)⟩
  obtain ⟨b1, k0, k1, k2, k3, k4⟩ := g2
  have hx := hK.1
  have hO1 : scI F np (U.1 0) (S4.1 0) (bdO np) := fun x hx9 => by
    obtain ⟨w, e, hw⟩ := bdO_in hx9
    have a4 := hA.1 4 (by decide)
    obtain ⟨-, -, f18, f19, f19o⟩ := hF.2.2.2.2 w (by omega)
    have x18 : S3.2 18 w = U.2 18 w := (hx.2.2.2.2.2 w (by omega)).2.2.1
    have x19 : S4.2 19 w = 1073741824 := by rw [hA.2.1 19 (by decide), hK.2.1.2 w hw]; exact h19 w hw
    obtain ⟨e9, e1, e2, e3⟩ := f19o x19
    exact ⟨w, U.1 0, e9, e, hw, by rw [f18, hA.2.1 18 (by decide), x18]; exact h18 w hw, Nat.le_refl _, e1, e2, e3⟩
  have hO : scJ F np (U.1 0) (S4.1 0) (bdO np) := ⟨hO1, fun v e h1 _ _ _ => bdO_mem h1⟩
  have hm : (tg8 U).1 0 ≤ S3.1 0 := hx.1 0 (by decide)
  have seg1 := g1 (fun _ _ => False) (bdO np) (scJ_sub hO (Nat.le_refl _) (by omega))
  have hvl := scI_vl hO1
  have seg2 : sg F X G rs (fun _ _ => False) (S3.1 0) (S4.1 0) (if r = 1 then none else some (bdO np)) none := by
    rw [b1]
    by_cases e : r = 1
    · rw [if_pos e]
      exact sg_dead (o := 22) k0 (show 22 < 33 by decide)
    · rw [if_neg e]
      exact sg_one (o := 22) k0 (show 22 < 33 by decide) (by omega) (fun r9 hr9 => absurd hr9 (by simp)) (fun k hk9 => ⟨0, bdO np, k1, ⟨(hr e).symm, by rw [k4]; exact aN_ge _, fun z9 => absurd (k2.symm.trans z9) (by decide)⟩, by omega, Or.inr ⟨k2, rfl, rfl⟩, sc_ret (scI_sub hO1 (Nat.le_refl _) hm (Nat.le_refl _)) (by omega) (by omega)⟩)
  exact And.intro (sg_app seg1 seg2 hm (by omega)) (fun i h1 h2 h3 => by
    rcases Nat.lt_or_ge i (S3.1 0) with c | c
    · obtain ⟨kk, -, -, -, e3⟩ := seg1
      obtain ⟨L, m, q1, q2, q3, q4⟩ := (e3 i h1 c).1.2 h3
      exact ⟨L, m, q1, q2, by omega, q4⟩
    · rw [show i = S3.1 0 by omega, k0] at h3
      exact absurd h3 (by decide))
/-- what body leaves: S ahead of it, S2 behind it -/
def bdF (yp : Nat) (X : tF) (G : Nat → Nat → Nat) (rs p q np : Nat) (S S2 : tgS) (ac cf ct lf lt : Int32) : Prop := ∃ U : tgS, bdL S U np ∧ tI yp X S2 ∧ tOKb np (S.1 1) (2 * (q - p)) (2 * (cL X q - cL X p)) (q - p) (2 * (q - p)) (q - p) (tg8 U) S2 (bdS X G rs np) ∧ ac = nI (U.1 6) ∧ cf = nI (S.1 0) ∧ ct = nI (S2.1 0) ∧ lf = nI (S.1 1) ∧ lt = nI (S2.1 1)
theorem nI_sb1 {n : Nat} (h : 1 ≤ n) : nI n - 1 = nI (n - 1) := by
  obtain ⟨m, rfl⟩ : ∃ m : Nat, n = m + 1 := ⟨n - 1, by omega⟩
  rw [Nat.add_sub_cancel, ← nI_1 m]
  exact Int32.add_sub_cancel _ _
