/-- entries, the latest first -/
def dsl (e : Nat → tE) : Nat → List tE
  | 0 => []
  | n + 1 => e n :: dsl e n
theorem dsl_wl {e : Nat → tE} : ∀ n : Nat, (∀ i : Nat, i < n → kNm (e i)) → wl (dsl e n) = n
  | 0, _ => rfl
  | n + 1, h => by
    show wl (e n :: dsl e n) = n + 1
    rw [wl_n (h n (by omega)), dsl_wl n (fun i hi => h i (by omega))]
theorem dsl_nm {e : Nat → tE} : ∀ n : Nat, (∀ i : Nat, i < n → kNm (e i)) → ∀ a : tE, a ∈ dsl e n → kNm a
  | 0, _, a, h => by simp [dsl] at h
  | n + 1, h, a, ha => by
    rcases List.mem_cons.mp (show a ∈ e n :: dsl e n from ha) with q | q
    · rw [q]; exact h n (by omega)
    · exact dsl_nm n (fun i hi => h i (by omega)) a q
theorem dsl_ps {F X : tF} {r : Nat} : ∀ n : Nat, tPs F X r n = dsl (fun i => tNf F (cN (X 2 (r * 12 + i)))) n
  | 0 => rfl
  | n + 1 => congrArg _ (dsl_ps n)
theorem dsl_as {F : tF} {G : Nat → Nat → Nat} {g : Nat} : ∀ n : Nat, tAs F G g n = dsl (fun i => tNf F (G g (i + 2))) n
  | 0 => rfl
  | n + 1 => congrArg _ (dsl_as n)
section
variable {y : qY} {z : qZ} {vt vo : Nat → Nat → Nat} {vc : Nat → Nat} {tb : Nat → lTb} {hp : Nat} {tk tk2 : Nat → Prop} {c c2 : Nat → Int} {f : Nat} {x : Nat → kFm} {rt ra : Nat × Nat → Nat} {V : Nat × Nat → qV} {fb : Nat → Nat} {top : Nat} {fil : Nat → Nat → Nat → Prop}
theorem dsl_K {j : Nat} {xx : kFm} {e : Nat → tE} {S : List tE} : ∀ n : Nat, (∀ i : Nat, i < n → kNm (e i)) → kK y rt V j xx (dsl e n ++ S) → ∀ i : Nat, i < n → kE y rt V j xx (wl S + i) (e i)
  | 0, _, _, i, hi => absurd hi (by omega)
  | n + 1, h, hk, i, hi => by
    have hk : kE y rt V j xx (wl (dsl e n ++ S)) (e n) ∧ kK y rt V j xx (dsl e n ++ S) := hk
    by_cases q : i = n
    · rw [q]
      have h1 := hk.1
      rw [wl_app, dsl_wl n (fun i hi => h i (by omega)), Nat.add_comm] at h1
      exact h1
    · exact dsl_K n (fun i hi => h i (by omega)) hk.2 i (by omega)
theorem dsl_A {j B : Nat} {e : Nat → tE} {S : List tE} : ∀ n : Nat, (∀ i : Nat, i < n → kNm (e i)) → kAk y z c ra j B (dsl e n ++ S) → ∀ i : Nat, i < n → kAe y z c ra j (B + khs z (dsl e i ++ S)) (wl S + i) (e i)
  | 0, _, _, i, hi => absurd hi (by omega)
  | n + 1, h, hk, i, hi => by
    have hk : kAe y z c ra j (B + khs z (dsl e n ++ S)) (wl (dsl e n ++ S)) (e n) ∧ kAk y z c ra j B (dsl e n ++ S) := hk
    by_cases q : i = n
    · rw [q]
      have h1 := hk.1
      rw [wl_app, dsl_wl n (fun i hi => h i (by omega)), Nat.add_comm n] at h1
      exact h1
    · exact dsl_A n (fun i hi => h i (by omega)) hk.2 i (by omega)
/-- tokens stand on the stack as numbers: told as tokens -/
theorem kS_rtl (h1 : y.1 1 = 0) (h3 : y.1 3 = 0) (hz : z.1 1 = z.1 3) {e e2 : Nat → tE} : ∀ (n : Nat) {x : Nat → kFm} {P S : List tE}, (∀ i : Nat, i < n → e i = e2 i ∨ (e i = (0, 1, 0) ∧ e2 i = (0, 3, 0))) → (x f).2.1 = P ++ (dsl e n ++ S) → kS y z vt vo vc tb hp tk c f x fb top fil → kS y z vt vo vc tb hp tk c f (kUx x f ((x f).1, P ++ (dsl e2 n ++ S), (x f).2.2.1, kR (x f), kH (x f), kal (x f), klo (x f), kAn (x f))) fb top fil
  | 0, x, P, S, _, hS, h => by
    have q : kUx x f ((x f).1, P ++ (dsl e2 0 ++ S), (x f).2.2.1, kR (x f), kH (x f), kal (x f), klo (x f), kAn (x f)) = x := funext fun j => by
      by_cases e : j = f
      · subst e
        rw [kUx_eq]
        show ((x j).1, P ++ ([] ++ S), (x j).2.2.1, kR (x j), kH (x j), kal (x j), klo (x j), kAn (x j)) = x j
        rw [show P ++ ([] ++ S) = (x j).2.1 from hS.symm]
        rfl
      · rw [kUx_ne e]
    rw [q]; exact h
  | n + 1, x, P, S, he, hS, h => by
    have hS1 : (x f).2.1 = P ++ e n :: (dsl e n ++ S) := hS
    have go : kS y z vt vo vc tb hp tk c f (kUx x f ((x f).1, P ++ e2 n :: (dsl e n ++ S), (x f).2.2.1, kR (x f), kH (x f), kal (x f), klo (x f), kAn (x f))) fb top fil := by
      rcases he n (by omega) with q | ⟨q1, q2⟩
      · rw [← q, ← hS1]
        have q : kUx x f ((x f).1, (x f).2.1, (x f).2.2.1, kR (x f), kH (x f), kal (x f), klo (x f), kAn (x f)) = x := funext fun j => by
          by_cases e : j = f
          · subst e; rw [kUx_eq]; rfl
          · rw [kUx_ne e]
        rw [q]; exact h
      · rw [q2]
        rw [q1] at hS1
        obtain ⟨rt, ra, V, hJ, hL⟩ := h
        exact ⟨_, _, _, kJ_rty hJ hS1 ⟨by rw [h3]; decide, by rw [h3]; decide, by rw [h3]; decide, by rw [h3]; decide, by rw [h3]; decide⟩ (by decide), kL_rty hJ hL hS1 ⟨by rw [h3]; decide, by rw [h3]; decide, by rw [h3]; decide, by rw [h3]; decide, by rw [h3]; decide⟩ (by decide) (by decide) (by rw [h1]; decide) hz⟩
    have r := kS_rtl h1 h3 hz n (x := kUx x f ((x f).1, P ++ e2 n :: (dsl e n ++ S), (x f).2.2.1, kR (x f), kH (x f), kal (x f), klo (x f), kAn (x f))) (P := P ++ [e2 n]) (S := S) (fun i hi => he i (by omega)) (by rw [kUx_eq, List.append_assoc]; rfl) go
    rw [kUx2, kUx_eq, List.append_assoc] at r
    exact r
/-- a cell of what lies there is no free cell of the heap -/
theorem qTk (hz : qLy y z) (h : qMm y z hp tk c rt ra V) {r : Nat × Nat} {π : lLc} {w : Nat × Nat} (hx : V r π = some w) : hp ≤ qA y z c (rt r) (ra r) π ∨ tk (qA y z c (rt r) (ra r) π) := by
  obtain ⟨t, g⟩ := w
  obtain ⟨m1, m2, m3, m4, m5⟩ := h
  have w1 := ((m1 r).1 π t g hx).1
  have p1 := hz.1 t
  rcases qN_last π with nπ | ⟨π1, i, π2, rfl, nπ⟩
  · have i2 := qA_in (c := c) hz (a := ra r) w1 nπ
    have := m4 r π _ hx
    exact Or.inl (by omega)
  · obtain ⟨t1, g1, k1, k2, k3, k4, k5⟩ := qH (z := z) (c := c) (m1 r) (σ := []) (by rw [List.append_nil]; exact hx) w1
    obtain ⟨b, b1, b2, b3⟩ := (m2 r π1 t1 g1 k1).2 k2
    have k6 := k5 (ra r)
    rw [b1] at k6
    have i2 := qA_in (c := c) hz (a := b) k4 nπ
    have k7 : qA y z c (rt r) (ra r) (π1 ++ (1, i) :: π2) = qA y z c (y.2.1 t1) b π2 := k6
    rw [k7]
    exact Or.inr (b3 _ i2.1 (by omega))
/-- the latest values go, another comes in their place -/
theorem kS_pp (hy : kYs y z vt vo vc) (hJ : kJ y vt tb f x rt V) (hL : kL y z vt vo vc hp tk c f x rt ra V fb top fil) {E S : List tE} (hS : (x f).2.1 = E ++ S) (hE : ∀ e : tE, e ∈ E → kNm e) (hn : (x f).2.2.1 = 0) (hl : wl S < 211) {e : tE} {t : Nat} {W : qV} (hW : qOk y t W) (he : (∃ m : Nat, e = (0, t, m) ∧ t ≠ 0 ∧ y.1 t ≠ 5 ∧ y.1 t ≠ 6 ∧ qF y W [] t) ∨ (∃ m : Nat, e = (7, t, m) ∧ y.1 t = 2 ∧ ∀ i : Nat, i < y.2.2.2.1 t 0 → m.testBit i = true → qF y W [(0, i)] (y.2.2.2.2 t 0 i))) (q : qMm y z hp tk2 c2 (qRt rt (f, 40 + wl S) t) (qRt ra (f, 40 + wl S) (fb f + vc (x f).1 + khs z S)) (qUp (kCl V f (wl S)) (f, 40 + wl S) W)) (hc : ∀ (r : Nat × Nat) (π : lLc) (w : Nat × Nat), kCl V f (wl S) r π = some w → c2 (qA y z c (rt r) (ra r) π) = c (qA y z c (rt r) (ra r) π)) : kS y z vt vo vc tb hp tk2 c2 f (kUx x f ((x f).1, e :: S, 0, lUp (kR (x f)) (40 + wl S) none, kH (x f), kal (x f), klo (x f), kAn (x f))) fb (fb f + vc (x f).1 + khs z S + kes z e) fil := by
  have j1 := kJ_pop hJ hS hE hn
  have l1 := kL_pop hJ hL hS hE hn (qMm_cl hL.1)
  generalize hx1 : kUx x f ((x f).1, S, 0, kR (x f), kH (x f), kal (x f), klo (x f), kAn (x f)) = x1 at j1 l1
  have e1 : x1 f = ((x f).1, S, 0, kR (x f), kH (x f), kal (x f), klo (x f), kAn (x f)) := by rw [← hx1, kUx_eq]
  have hk : kNm e := by
    rcases he with ⟨m, rfl, -⟩ | ⟨m, rfl, -⟩ <;> (unfold kNm; simp)
  have eS : (x1 f).2.1 = S := by rw [e1]
  have hty : ∀ w : Nat × Nat, W [] = some w → w.1 = t := fun w hw => by
    obtain ⟨a, b⟩ := w
    exact (show a = t from (hW.1 [] a b hw).1)
  have j := kJ_push (hd := kH (x1 f) (40 + wl (x1 f).2.1)) j1 hk (by rw [e1]) (by rw [eS]; exact hl) hW (fun w hw => by
    rw [hty w hw]
    rcases he with ⟨m, -, -, h5, h6, -⟩ | ⟨m, -, h2, -⟩
    · exact ⟨h5, h6⟩
    · rw [h2]; decide) (e := e) (by
    rcases he with ⟨m, rfl, t0, h5, h6, hq⟩ | ⟨m, rfl, h2, hq⟩
    · refine ⟨lUp_eq, h5, h6, fun _ => ⟨qRt_eq, ?_⟩, fun q => absurd q t0⟩
      rw [qUp_eq]; exact hq
    · refine ⟨lUp_eq, h2, qRt_eq, fun i hi hb => ?_⟩
      rw [qUp_eq]; exact hq i hi hb)
  have l := kL_push (ro := none) (hd := kH (x1 f) (40 + wl (x1 f).2.1)) (al2 := kal (x1 f)) (e := e) (t := t) (W := W) (tk2 := tk2) (c2 := c2) hy j1 l1 hk (by rw [e1]) (fun u q => q) (by rw [eS]; exact q) hc (by
    rcases he with ⟨m, rfl, -⟩ | ⟨m, rfl, -⟩
    · exact fun _ => qRt_eq
    · exact qRt_eq) (fun a q => by simp at q)
  rw [lUp_self] at j l
  rw [e1, ← hx1, kUx2] at j l
  exact ⟨_, _, _, j, l⟩
/-- plain values go, a plain one comes -/
theorem kS_op (hy : kYs y z vt vo vc) (h : kS y z vt vo vc tb hp tk c f x fb top fil) {E S : List tE} (hS : (x f).2.1 = E ++ S) (hE : ∀ e : tE, e ∈ E → kNm e) (hn : (x f).2.2.1 = 0) (hl : wl S < 211) {t : Nat} (t0 : t ≠ 0) (ht : y.1 t = 0) (hc : ∀ k : Nat, k < fb f + vc (x f).1 + khs z S → c2 k = c k) : kS y z vt vo vc tb hp tk c2 f (kUx x f ((x f).1, (0, t, 0) :: S, 0, lUp (kR (x f)) (40 + wl S) none, kH (x f), kal (x f), klo (x f), kAn (x f))) fb (fb f + vc (x f).1 + khs z S + z.1 t) fil := by
  have h1 := kS_pop h hS hE hn
  generalize hx1 : kUx x f ((x f).1, S, 0, kR (x f), kH (x f), kal (x f), klo (x f), kAn (x f)) = x1 at h1
  have e1 : x1 f = ((x f).1, S, 0, kR (x f), kH (x f), kal (x f), klo (x f), kAn (x f)) := by rw [← hx1, kUx_eq]
  have h2 := kS_push0 (c2 := c2) hy h1 (by rw [e1]) (by rw [e1]; exact hl) (e := (0, t, 0)) (t := t) (Or.inl ⟨0, rfl, t0⟩) ht hc
  rw [e1, ← hx1, kUx2] at h2
  have hk : kes z (0, t, 0) = z.1 t := if_neg t0
  rw [hk] at h2
  exact h2
end
