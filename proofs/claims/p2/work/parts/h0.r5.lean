/-- types of a function's variables, as the running sees them -/
def gvt (Z T : tgS) (v : Nat) : Nat := if v < T.1 4 ∧ T.2 15 v ≠ -1 then ymF (gF Z T) (cN (T.2 15 v)) else 0
/-- what Moves told of a function -/
def mvF (F : tF) (k : Nat → Option (List tE)) (a b n np : Nat) (et em az : Nat → Int32) (r9 : Int32) : Prop := ∃ (s0 fr0 rc0 gs gr gc : Nat → Int32) (ir9 fi0 : Int32), (∀ v : Nat, v < n → s0 v = if v < np then fuV et az v <<< ((16 : Int32) &&& 31) else 0) ∧ rcK F k a b rc0 ∧ mvP F n et em az a b (s0, fr0, rc0, 1, 0, fi0) (gs, gr, gc, ir9, 0, r9)
/-- what Loans told of it -/
def lnFa (F : tF) (k : Nat → Option (List tE)) (a b n np nbo nb : Nat) (ak et ef ez epl : Nat → Int32) (yrs yrl : Int32) (fc : Nat → Nat → Int32) (fr : Nat → Nat → Nat → Int32) (r9 : Int32) : Prop := (nbo = 0 ∧ ¬ rfB ak yrs) ∨ ∃ (pof gp : Nat → Int32) (gl gb ga : Nat → Int64) (gsh : Int64) (l0 u0 s0 fr1 ft0 hb0 : Nat → Int64) (x9 : Int64) (rc0 : Nat → Int32) (fi0 : Int32) (t : lnT), (gp, gl, gsh) = gaS F pof l0 a (b - a) ∧ fuP F a b gb (0, u0, 0) (x9, ga, 0) ∧ (∀ v : Nat, v < n → (v < np ∧ rfB ak (et v) ∧ s0 v = (1 : Int64) <<< ((if epl v < 0 then (62 : Int32) else 54 + epl v).toInt64 &&& 63)) ∨ (¬ (v < np ∧ rfB ak (et v)) ∧ s0 v = 0)) ∧ rcK F k a b rc0 ∧ lnP F ((gb, gl, gsh, gp, nbo, n) : lnC) ((ak, et, ef, ez, yrl, nb, fc, fr) : lnQ) a b ((s0, fr1, rc0, 1, 0, fi0, ft0, 0, hb0) : lnT) t ∧ t.2.2.2.2.1 = 0 ∧ t.2.2.2.2.2.1 = r9
theorem wl_bdO : ∀ n : Nat, wl (bdO n) = 0
  | 0 => rfl
  | n + 1 => by
    show wl (bdO n) + (if (8 : Nat) = 8 ∨ (8 : Nat) = 4 ∨ (8 : Nat) = 5 ∨ (8 : Nat) = 6 then 0 else 1) = 0
    rw [if_pos (Or.inl rfl), wl_bdO n]
theorem bdO_iff {n : Nat} {e : tE} : e ∈ bdO n ↔ ∃ v : Nat, e = (8, v, 0) ∧ v < n := ⟨bdO_in, fun ⟨v, q1, q2⟩ => by rw [q1]; exact bdO_mem q2⟩
theorem yF_rf {F X : tF} {yp yt u : Nat} (hu : u < 3040) (h5 : F 20 u ≠ 5) (h6 : F 20 u ≠ 6) : ¬ ((yF F X yp yt).1 (ymF F u) = 5 ∨ (yF F X yp yt).1 (ymF F u) = 6) := by
  have e : ymF F u = u := by unfold ymF; rw [if_neg h5, if_neg h6]
  rw [e]
  show ¬ ((if 10000 ≤ u ∧ u < 30000 then 5 + u % 2 else if 4 ≤ u ∧ u < 4 + yp then (if F 20 u = 3 then 3 else if cN (X 1 ((u - 4) * 12)) = 0 then 0 else 2) else if 34 ≤ u ∧ u < yt ∧ F 20 u = 4 then 4 else 0) = 5 ∨ (if 10000 ≤ u ∧ u < 30000 then 5 + u % 2 else if 4 ≤ u ∧ u < 4 + yp then (if F 20 u = 3 then 3 else if cN (X 1 ((u - 4) * 12)) = 0 then 0 else 2) else if 34 ≤ u ∧ u < yt ∧ F 20 u = 4 then 4 else 0) = 6)
  rw [if_neg (by omega)]
  split
  · split
    · omega
    · split <;> omega
  · split <;> omega
theorem psum_16 {F X : tF} {yt : Nat} {p : Nat → Nat} : ∀ n : Nat, psum (zF F X yt) p n ≤ 16 * n
  | 0 => Nat.le_refl _
  | n + 1 => by
    have h1 := zF_le (F := F) (X := X) (yt := yt) (t := p n)
    have h2 := psum_16 (F := F) (X := X) (yt := yt) (p := p) n
    show psum (zF F X yt) p n + (zF F X yt).1 (p n) ≤ 16 * (n + 1)
    omega
section
variable {yp g a b lf lt nb : Nat} {X : tF} {G : Nat → Nat → Nat} {Z T : tgS} {k : Nat → Option (List tE)} {fc : Nat → Nat → Int32} {fr : Nat → Nat → Nat → Int32}
theorem gvt_y (hC : gC yp X G g (fc g) (fr g) Z T a b lf lt k) (h7 : Z.1 7 ≤ 3040) {q : Nat} (hq : q < G g 0) : tyV yp (Z.1 7) (gF Z T 20) (G g (q + 2)) ∧ gvt Z T q = ymF (gF Z T) (G g (q + 2)) ∧ T.2 15 q = nI (G g (q + 2)) ∧ q < T.1 4 ∧ G g (q + 2) < Z.1 7 := by
  obtain ⟨-, -, -, -, -, -, -, -, hv, -, p1, -, p3⟩ := hC
  obtain ⟨e, -, hlt⟩ := p3 q hq
  have hq4 : q < T.1 4 := by omega
  have hne : T.2 15 q ≠ -1 := by rw [e]; exact nI_ne1 (by omega)
  obtain ⟨u, u1, u2⟩ := (hv q hq4).resolve_left hne
  have hu := u2.2
  have eu : u = G g (q + 2) := (nI_eq (by omega) (by omega)).mp (u1.symm.trans e)
  rw [eu] at u2
  refine ⟨tyV_gF u2, ?_, e, hq4, hlt⟩
  unfold gvt
  rw [if_pos ⟨hq4, hne⟩, e, cN_nI (by omega)]
theorem gvt_s (hC : gC yp X G g (fc g) (fr g) Z T a b lf lt k) (htb : tbO (gF Z T) X yp (Z.1 7)) (h7 : Z.1 7 ≤ 3040) {vg : Nat → Nat} (hvg : ∀ v : Nat, vg v = gvt Z T v) : ∀ n : Nat, n ≤ G g 0 → gSm Z T n = psum (zF (gF Z T) X (Z.1 7)) vg n := fun n => by
  induction n with
  | zero => exact fun _ => rfl
  | succ n ih =>
    intro hn
    obtain ⟨q1, q2, q3, q4, q5⟩ := gvt_y hC h7 (q := n) (by omega)
    show gSm Z T n + cN (Z.2 22 (cN (T.2 15 n))) = psum _ vg n + (zF (gF Z T) X (Z.1 7)).1 (vg n)
    rw [ih (by omega), hvg n, q2, (ty_sz htb q1).1, q3, cN_nI (by omega)]
    rfl
/-- what the running needs of function g: the code's certificate, the rules of moves and loans along it, how it begins -/
def gX (yp : Nat) (X : tF) (G : Nat → Nat → Nat) (rl : Nat → Int32) (pl : Nat → Nat → Int32) (Z : tgS) (g : Nat) (T : tgS) (a b : Nat) (k : Nat → Option (List tE)) (N : lK) (L : Nat → Nat → lLc → Prop) (Rm : Nat → Prop) (tb : lTb) : Prop := ∀ vt vo : Nat → Nat → Nat, (∀ v : Nat, vt g v = gvt Z T v) → (∀ v : Nat, vo g v = cN (T.2 17 v)) → sgE (yF (gF Z T) X yp (Z.1 7)) (zF (gF Z T) X (Z.1 7)) (gF Z T) X G (G g 1) a b (T.1 4) yp (Z.1 7) k N L Rm tb rl pl (rl g) (vt g) ∧ enF (yF (gF Z T) X yp (Z.1 7)) (zF (gF Z T) X (Z.1 7)) (gF Z T) G yp (Z.1 7) a k N Rm tb rl pl (rl g) vt vo g
theorem enF_mk (hC : gC yp X G g (fc g) (fr g) Z T a b lf lt k) (htb : tbO (gF Z T) X yp (Z.1 7)) (h7 : Z.1 7 ≤ 3040) (h12 : G g 0 ≤ 12) {N : lK} {Rm : Nat → Prop} {tb : lTb} {rl : Nat → Int32} {pl : Nat → Nat → Int32} {vt vo : Nat → Nat → Nat} (hvt : ∀ v : Nat, vt g v = gvt Z T v) (hvo : ∀ v : Nat, vo g v = cN (T.2 17 v)) (hN : N.2.2 a) (hR : Rm a) (hou : ∀ q : Nat, q < G g 0 → tb.2.2.2.1 (ouF pl g q) ∧ ((gF Z T 20 (G g (q + 2)) = 5 ∨ gF Z T 20 (G g (q + 2)) = 6) → N.1 a q (ouF pl g q)) ∧ (pl g q < 0 ∨ ∃ w : Nat, w < 8 ∧ pl g q = nI w)) (hrl : rl g < 0 ∨ ∃ w : Nat, w < 8 ∧ rl g = nI w) : enF (yF (gF Z T) X yp (Z.1 7)) (zF (gF Z T) X (Z.1 7)) (gF Z T) G yp (Z.1 7) a k N Rm tb rl pl (rl g) vt vo g := by
  have hps := gvt_s hC htb h7 hvt
  have hy := fun (q : Nat) (hq : q < G g 0) => gvt_y hC h7 hq
  obtain ⟨-, -, -, -, ⟨hka, -⟩, -, -, -, -, -, p1, -, p3⟩ := hC
  refine ⟨bdO (G g 0), hka, fun e => bdO_iff, h12, hN, hR, fun q hq => ?_, fun q hq => ?_, hrl, rfl⟩
  · obtain ⟨q1, q2, q3, q4, q5⟩ := hy q hq
    refine ⟨q1, (hvt q).trans q2, ?_⟩
    have e17 := (p3 q hq).2.1
    rw [hvo q, e17, hps q (by omega)]
    have hle := psum_16 (F := gF Z T) (X := X) (yt := Z.1 7) (p := vt g) q
    exact cN_nI (by omega)
  · obtain ⟨q1, q2, q3, q4, q5⟩ := hy q hq
    obtain ⟨o1, o2, o3⟩ := hou q hq
    refine ⟨o1, fun h => o2 ?_, o3⟩
    rw [hvt q, q2] at h
    by_cases c5 : gF Z T 20 (G g (q + 2)) = 5
    · exact Or.inl c5
    · by_cases c6 : gF Z T 20 (G g (q + 2)) = 6
      · exact Or.inr c6
      · exact absurd h (yF_rf (by omega) c5 c6)
end
