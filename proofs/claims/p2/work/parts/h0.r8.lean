/-- the class's rows, as the runs of the model have them -/
def cI (fc : Nat → Int64) (k : Nat) : Int := (fc k).toInt
def tkP (ft : Nat → Int32) (k : Nat) : Prop := ft k ≠ 0
def filP (ff : Nat → Int32) (j v q : Nat) : Prop := v < 40 ∧ q < 16 ∧ ibit (ff (40 * j + v)) q = true
theorem i64_n {a : Nat} (h : a < 2 ^ 31) : ((nI a).toInt64).toInt = (a : Int) := by
  rw [Int32.toInt_toInt64]
  exact Int32.toInt_ofNat_of_lt h
theorem i64_e {x : Int64} {a : Nat} (h : x.toInt = (a : Int)) (ha : a < 2 ^ 31) : x = (nI a).toInt64 := Int64.toInt_inj.mp (h.trans (i64_n ha).symm)
theorem i32_n {x : Int64} {a : Nat} (h : x.toInt = (a : Int)) (ha : a < 2 ^ 31) : x.toInt32 = nI a := by
  rw [i64_e h ha]
  exact Int32.toInt32_toInt64 _
theorem i64_a {x : Int64} {a b : Nat} (h : x.toInt = (a : Int)) (ha : a < 2 ^ 31) (hb : b < 2 ^ 31) : (x + (nI b).toInt64).toInt = (a : Int) + (b : Int) := by
  rw [Int64.toInt_add, h, i64_n hb]
  have e : ((a : Int) + (b : Int)).bmod (2 ^ 64) = (a : Int) + (b : Int) := by
    rw [Int.bmod_def]
    split <;> omega
  exact e
theorem cp_in {fc : Nat → Int64} {sp dp n q : Nat} (h : q < n) : cI (va_cpy fc fc sp dp n) (dp + q) = cI fc (sp + q) := by
  unfold cI va_cpy
  rw [if_pos (by omega), show dp + q - dp = q by omega]
theorem cp_out {fc : Nat → Int64} {sp dp n k : Nat} (h : ¬ (dp ≤ k ∧ k < dp + n)) : cI (va_cpy fc fc sp dp n) k = cI fc k := by
  unfold cI va_cpy
  rw [if_neg h]
theorem up_in {fc : Nat → Int64} {a : Nat} {x : Int64} : cI (vp_updL fc a x) a = x.toInt := by
  unfold cI vp_updL
  rw [if_pos rfl]
theorem up_out {fc : Nat → Int64} {a k : Nat} {x : Int64} (h : k ≠ a) : cI (vp_updL fc a x) k = cI fc k := by
  unfold cI vp_updL
  rw [if_neg h]
theorem fil_ne {ff : Nat → Int32} {f v j w : Nat} {x : Int32} (hv : v < 40) (h : (j, w) ≠ (f, v)) : filP (upd ff (40 * f + v) x) j w = filP ff j w := funext fun q => by
  unfold filP
  by_cases hw : w < 40
  · have : 40 * j + w ≠ 40 * f + v := fun e => h (by
      have e1 : j = f := by omega
      have e2 : w = v := by omega
      rw [e1, e2])
    rw [pk_un this]
  · exact propext ⟨fun q => absurd q.1 hw, fun q => absurd q.1 hw⟩
theorem fil_eq {ff : Nat → Int32} {f v q : Nat} {x : Int32} : filP (upd ff (40 * f + v) x) f v q → v < 40 ∧ q < 16 ∧ ibit x q = true := fun h => by
  unfold filP at h
  rw [pk_us] at h
  exact h
/-- the addresses on a way -/
def adL (c : Nat → Int) : Nat → List Nat → Nat → Nat → Nat
  | a, [], o, _ => a + o
  | a, x :: _, _, 0 => a + x
  | a, x :: os, o, i + 1 => adL c (c (a + x)).toNat os o i
theorem adL_end {c : Nat → Int} {o : Nat} : ∀ {os : List Nat} {a : Nat}, adL c a os o os.length = rA c a os o
  | [], a => rfl
  | x :: os, a => by
    show adL c (c (a + x)).toNat os o os.length = rA c (c (a + x)).toNat os o
    exact adL_end
theorem adL_0 {c : Nat → Int} {o a : Nat} : ∀ {os : List Nat}, adL c a os o 0 = a + dgP (os ++ [o]) % 16 ∨ (∃ x : Nat, x ∈ os ++ [o] ∧ 16 ≤ x)
  | [] => by
    show a + o = a + (o + 16 * 0) % 16 ∨ _
    by_cases h : 16 ≤ o
    · exact Or.inr ⟨o, List.mem_append_right _ (List.mem_singleton.mpr rfl), h⟩
    · left; rw [show (o + 16 * 0) % 16 = o by omega]
  | x :: os => by
    show a + x = a + (x + 16 * dgP (os ++ [o])) % 16 ∨ _
    by_cases h : 16 ≤ x
    · exact Or.inr ⟨x, List.mem_cons_self .., h⟩
    · left; rw [show (x + 16 * dgP (os ++ [o])) % 16 = x by omega]
/-- the digit of step i -/
theorem ad_dg {c : Nat → Int} {o : Nat} (ho : o ≤ 15) : ∀ (i : Nat) {os : List Nat} {a top : Nat}, (∀ x : Nat, x ∈ os → x ≤ 15) → rOk c top a os → i < os.length → adL c a os o i < top ∧ ∃ b : Nat, c (adL c a os o i) = (b : Int) ∧ b < 2 ^ 31 ∧ adL c a os o (i + 1) = b + dgP (os ++ [o]) / 16 ^ (i + 1) % 16
  | i, [], a, top, _, _, h => absurd h (Nat.not_lt_zero _)
  | 0, x :: os, a, top, hx, hr, _ => by
    obtain ⟨r1, ⟨b, r2, r3⟩, r4⟩ := hr
    refine ⟨r1, b, r2, r3, ?_⟩
    show adL c (c (a + x)).toNat os o 0 = b + (x + 16 * dgP (os ++ [o])) / 16 ^ 1 % 16
    have hx0 := hx x (List.mem_cons_self ..)
    rw [r2, Int.toNat_natCast, Nat.pow_one, show (x + 16 * dgP (os ++ [o])) / 16 = dgP (os ++ [o]) by omega]
    rcases adL_0 (c := c) (o := o) (a := b) (os := os) with e | ⟨w, w1, w2⟩
    · exact e
    · exfalso
      rcases List.mem_append.mp w1 with q | q
      · have := hx w (List.mem_cons_of_mem _ q); omega
      · have := List.mem_singleton.mp q; omega
  | i + 1, x :: os, a, top, hx, hr, hi => by
    obtain ⟨r1, ⟨b, r2, r3⟩, r4⟩ := hr
    have hi : i + 1 < os.length + 1 := hi
    obtain ⟨q1, b2, q2, q3, q4⟩ := ad_dg ho i (fun w hw => hx w (List.mem_cons_of_mem _ hw)) r4 (by omega)
    have hx0 := hx x (List.mem_cons_self ..)
    refine ⟨q1, b2, q2, q3, ?_⟩
    show adL c (c (a + x)).toNat os o (i + 1) = b2 + (x + 16 * dgP (os ++ [o])) / 16 ^ (i + 1 + 1) % 16
    rw [q4, Nat.pow_succ 16 (i + 1), Nat.mul_comm (16 ^ (i + 1)) 16, ← Nat.div_div_eq_div_mul, show (x + 16 * dgP (os ++ [o])) / 16 = dgP (os ++ [o]) by omega]
theorem rt_nib {L D k : Nat} (hL : L < 16) (hD : L + 16 * D < 2 ^ 31) (hk : k < 7) : (nI (L + 16 * D) >>> (nI (4 + 4 * k) &&& 31)) &&& 15 = nI (D / 16 ^ k % 16) := by
  rw [nI_shr hD (by omega), nI_and15, show (2 : Nat) ^ (4 + 4 * k) = 16 * 16 ^ k by rw [show (16 : Nat) ^ k = 2 ^ (4 * k) by rw [show (16 : Nat) = 2 ^ 4 by decide, ← Nat.pow_mul], Nat.pow_add], ← Nat.div_div_eq_div_mul, show (L + 16 * D) / 16 = D by omega]
/-- a place, as the class's rows tell it -/
theorem pl_C {F : tF} {fc : Nat → Int64} {bs mln top v p T m nd o q9 : Nat} {ds os : List Nat} {pa ro : Int32} (h : plF F (cI fc) top (bs + q9) p v T m nd ds os o pa ro) (h17 : F 17 v = nI q9) (htop : top ≤ mln) (hml : mln < 2 ^ 31) : plC F fc bs mln p v T m os.length (adL (cI fc) (bs + q9) os o) ∧ adL (cI fc) (bs + q9) os o os.length = rA (cI fc) (bs + q9) os o ∧ os.length ≤ 4 := by
  obtain ⟨-, h1, h2, h3, h4, h5, h6, h7, h8, h9, hw, hn, hr, ha⟩ := h
  have hw2 := hw
  obtain ⟨w1, w2, w3, w4, w5, w6, w7⟩ := hw
  have hl : os.length ≤ 4 := by omega
  have hD : dgP (os ++ [o]) < 16 ^ (os.length + 1) := dgP_lt6 w6 w7
  have hD5 : dgP (os ++ [o]) < 16 ^ 5 := Nat.lt_of_lt_of_le hD (Nat.pow_le_pow_right (by decide) (by omega))
  have hD6 : dgP (os ++ [o]) < 1048576 := hD5
  refine ⟨⟨by omega, h3, h2, ⟨by rw [h4]; exact pW_15 hw2 hn, by omega⟩, ?_, fun i hi => ?_, h5, h6, h7, h9, by rw [adL_end]; omega⟩, adL_end, hl⟩
  · rw [h4, w4, h17]
    have e := rt_nib (L := os.length) (D := dgP (os ++ [o])) (k := 0) (by omega) (by omega) (by omega)
    rw [show (4 : Int32) = nI (4 + 4 * 0) from rfl, e, Nat.pow_zero, Nat.div_one, nI_add, nI_add]
    rcases adL_0 (c := cI fc) (o := o) (a := bs + q9) (os := os) with e | ⟨w, z1, z2⟩
    · rw [e]
    · exfalso
      rcases List.mem_append.mp z1 with q | q
      · have := w6 w q; omega
      · have := List.mem_singleton.mp q; omega
  · obtain ⟨q1, b, q2, q3, q4⟩ := ad_dg w7 i w6 hr hi
    refine ⟨by omega, ?_⟩
    have e := rt_nib (L := os.length) (D := dgP (os ++ [o])) (k := i + 1) (by omega) (by omega) (by omega)
    rw [i32_n q2 q3, h4, w4, show (4 : Int32) + 4 * nI (i + 1) = nI (4 + 4 * (i + 1)) by rw [show (4 : Int32) = nI 4 from rfl, pk_mul 4 (i + 1), nI_add], e, nI_add, q4]
theorem bit_0 {p : Int32} (h : p &&& 1 ≠ 0) : ibit p 0 = true := by
  cases e : ibit p 0 with
  | true => rfl
  | false =>
    refine absurd (ibit_ext (fun c hc => ?_)) h
    rw [ibit_and, ibit_0, ibit_1 hc]
    by_cases e9 : c = 0
    · rw [e9, e]; rfl
    · rw [decide_eq_false e9, Bool.and_false]
/-- what may be dropped, by the class's rows -/
theorem drK_of {F X : tF} {yp yt hp top mh mln : Nat} {ak : Nat → Int32} {fc : Nat → Int64} {P : Nat → Nat → Int32 → Prop} {B : Nat → Prop} (tb : tbO F X yp yt) (hak : ∀ t : Nat, t < yt → ak t = F 20 t) (hhp : hp ≤ mh) (hmh : mh ≤ 4000) (htop : top ≤ mln) (h : drC (yF F X yp yt) (zF F X yt) (cI fc) hp top P B) : drK ak (F 21) (F 22) (F 23) (X 1) (X 2) (X 3) fc mh mln (fun t a p => F 23 t ≠ 0 ∧ tyN yp (F 20) t ∧ t < yt ∧ P t a p) B := by
  have tb0 := tb
  obtain ⟨⟨t1, t2, t3, t4, t5, t6, t7, t8, -⟩, hsq, hsz, hms⟩ := tb
  intro t a p hP
  obtain ⟨p1, p2, p3, p4⟩ := hP
  obtain ⟨d1, d2, d3, d4⟩ := h t a p p4
  have nz : F 23 1 = 0 ∧ F 23 2 = 0 := ⟨t6.2.1, t6.2.2.1⟩
  -- what kind of type it is
  have kd : (t = 3 ∧ F 20 t = 1) ∨ (∃ sh : Nat, sh < yp ∧ t = 4 + sh ∧ (F 20 t = 2 ∨ F 20 t = 3)) ∨ (34 ≤ t ∧ F 20 t = 4) := by
    rcases p2 with (q | q | q) | ⟨q1, q2⟩ | q
    · rw [q] at p1; exact absurd nz.1 p1
    · rw [q] at p1; exact absurd nz.2 p1
    · exact Or.inl ⟨q, by rw [q]; exact t4.2.2.2⟩
    · exact Or.inr (Or.inl ⟨t - 4, by omega, by omega, by have := t7 (t - 4) (by omega); rw [show 4 + (t - 4) = t by omega] at this; exact this⟩)
    · exact Or.inr (Or.inr q)
  -- parts
  have prt : ∀ (sh g i n : Nat), sh < yp → (∃ m : Nat, X 0 sh = nI m ∧ m ≤ 12 ∧ g < m) → X 1 (sh * 12 + g) = nI n → n ≤ 12 → i < n → X 3 ((sh * 12 + g) * 12 + i) = nI (cN (X 3 ((sh * 12 + g) * 12 + i))) ∧ tyN yp (F 20) (cN (X 2 ((sh * 12 + g) * 12 + i))) ∧ cN (X 2 ((sh * 12 + g) * 12 + i)) < yt := fun sh g i n hsh hg hn hn12 hi => by
    obtain ⟨m, m1, m2, m3⟩ := hg
    obtain ⟨n0, a1, a2, a3, a4, a5⟩ := hsq sh hsh
    have e0 : n0 = m := (nI_eq (by omega) (by omega)).mp (a1.symm.trans m1)
    subst e0
    obtain ⟨n1, b1, b2, b3⟩ := a5 g m3
    have e1 : n1 = n := (nI_eq (by omega) (by omega)).mp (b1.symm.trans hn)
    subst e1
    obtain ⟨u, u1, u2, u3⟩ := b3 i hi
    refine ⟨x3_any (yt := yt) tb0 hsh (by rw [a1, cN_nI (by omega)]; exact m3) i (by rw [b1, cN_nI (by omega)]; exact hi), ?_, ?_⟩
    · rw [u1, cN_nI (by omega)]; exact u2
    · rw [u1, cN_nI (by omega)]; exact u3
  refine ⟨by omega, fun k2 => ?_, fun k2 hp1 => ?_⟩
  · rw [hak t p3] at k2
    obtain ⟨sh, s1, s2, -⟩ : ∃ sh : Nat, sh < yp ∧ t = 4 + sh ∧ (F 20 t = 2 ∨ F 20 t = 3) := by
      rcases kd with ⟨-, q⟩ | q | ⟨-, q⟩
      · rw [q] at k2; exact absurd k2 (by decide)
      · exact q
      · rw [q] at k2; exact absurd k2 (by decide)
    subst s2
    have es : 4 + sh - 4 = sh := by omega
    obtain ⟨n0, a1, a2, a3, a4, a5⟩ := hsq sh s1
    have n1 : n0 = 1 := a4 k2
    subst n1
    obtain ⟨n, b1, b2, -⟩ := a5 0 (by omega)
    rw [Nat.add_zero] at b1
    refine ⟨by omega, by omega, n, b2, by rw [es]; exact b1, fun i hi => ?_⟩
    obtain ⟨c1, c2, c3⟩ := prt sh 0 i n s1 ⟨1, a1, by omega, by omega⟩ (by rw [Nat.add_zero]; exact b1) b2 hi
    rw [Nat.add_zero] at c1 c2 c3
    have y2 : (yF F X yp yt).1 (4 + sh) = 2 := by
      show (if 10000 ≤ 4 + sh ∧ 4 + sh < 30000 then 5 + (4 + sh) % 2 else if 4 ≤ 4 + sh ∧ 4 + sh < 4 + yp then (if F 20 (4 + sh) = 3 then 3 else if cN (X 1 ((4 + sh - 4) * 12)) = 0 then 0 else 2) else _) = 2
      rw [if_neg (by omega), if_pos (by omega), k2, if_neg (by decide), es, b1, cN_nI (by omega), if_neg (by omega)]
    have ey : (yF F X yp yt).2.2.2.1 (4 + sh) 0 = n := by
      show cN (X 1 ((4 + sh - 4) * 12 + 0)) = n
      rw [es, Nat.add_zero, b1, cN_nI (by omega)]
    have hq := d2 y2 i (by rw [ey]; exact hi)
    have e4 : (yF F X yp yt).2.2.2.2 (4 + sh) 0 i = cN (X 2 (sh * 12 * 12 + i)) := by
      show cN (X 2 (((4 + sh - 4) * 12 + 0) * 12 + i)) = _
      rw [es, Nat.add_zero]
    have e5 : (zF F X yt).2 (4 + sh) 0 i = cN (X 3 (sh * 12 * 12 + i)) := by
      show cN (X 3 (((4 + sh - 4) * 12 + 0) * 12 + i)) = _
      rw [es, Nat.add_zero]
    rw [e4, e5] at hq
    rw [es]
    exact ⟨_, c1, fun q => ⟨q, c2, c3, hq⟩⟩
  · have hb := bit_0 hp1
    rw [hak t p3] at k2
    have y2 : (yF F X yp yt).1 t ≠ 2 := fun q => by
      rcases kd with ⟨q1, -⟩ | ⟨sh, s1, s2, s3⟩ | ⟨q1, q2⟩
      · have q : (if 10000 ≤ t ∧ t < 30000 then 5 + t % 2 else if 4 ≤ t ∧ t < 4 + yp then (if F 20 t = 3 then 3 else if cN (X 1 ((t - 4) * 12)) = 0 then 0 else 2) else if 34 ≤ t ∧ t < yt ∧ F 20 t = 4 then 4 else 0) = 2 := q
        rw [if_neg (by omega), if_neg (by omega), if_neg (by omega)] at q
        exact absurd q (by decide)
      · have q : (if 10000 ≤ t ∧ t < 30000 then 5 + t % 2 else if 4 ≤ t ∧ t < 4 + yp then (if F 20 t = 3 then 3 else if cN (X 1 ((t - 4) * 12)) = 0 then 0 else 2) else if 34 ≤ t ∧ t < yt ∧ F 20 t = 4 then 4 else 0) = 2 := q
        rw [if_neg (by omega), if_pos (by omega), if_pos (s3.resolve_left k2)] at q
        exact absurd q (by decide)
      · have q : (if 10000 ≤ t ∧ t < 30000 then 5 + t % 2 else if 4 ≤ t ∧ t < 4 + yp then (if F 20 t = 3 then 3 else if cN (X 1 ((t - 4) * 12)) = 0 then 0 else 2) else if 34 ≤ t ∧ t < yt ∧ F 20 t = 4 then 4 else 0) = 2 := q
        rw [if_neg (by omega), if_neg (by omega), if_pos ⟨q1, p3, q2⟩] at q
        exact absurd q (by decide)
    have ha := d1 y2 hb
    refine ⟨by omega, fun k3 => ?_, fun k3 k1 => ?_⟩
    · rw [hak t p3] at k3
      obtain ⟨sh, s1, s2, -⟩ : ∃ sh : Nat, sh < yp ∧ t = 4 + sh ∧ (F 20 t = 2 ∨ F 20 t = 3) := by
        rcases kd with ⟨-, q⟩ | q | ⟨-, q⟩
        · rw [q] at k3; exact absurd k3 (by decide)
        · exact q
        · rw [q] at k3; exact absurd k3 (by decide)
      subst s2
      have es : 4 + sh - 4 = sh := by omega
      have y3 : (yF F X yp yt).1 (4 + sh) = 3 := by
        show (if 10000 ≤ 4 + sh ∧ 4 + sh < 30000 then 5 + (4 + sh) % 2 else if 4 ≤ 4 + sh ∧ 4 + sh < 4 + yp then (if F 20 (4 + sh) = 3 then 3 else if cN (X 1 ((4 + sh - 4) * 12)) = 0 then 0 else 2) else _) = 3
        rw [if_neg (by omega), if_pos (by omega), if_pos k3]
      obtain ⟨g, g1, g2, g3⟩ := d3 y3 hb
      obtain ⟨n0, a1, a2, a3, a4, a5⟩ := hsq sh s1
      have ev : (yF F X yp yt).2.2.1 (4 + sh) = n0 := by
        show cN (X 0 (4 + sh - 4)) = n0
        rw [es, a1, cN_nI (by omega)]
      rw [ev] at g2
      obtain ⟨n, b1, b2, -⟩ := a5 g g2
      refine ⟨by omega, by omega, g, n, by omega, b2, i32_n g1 (by omega), by rw [es]; exact b1, fun i hi => ?_⟩
      obtain ⟨c1, c2, c3⟩ := prt sh g i n s1 ⟨n0, a1, by omega, g2⟩ b1 b2 hi
      have ey : (yF F X yp yt).2.2.2.1 (4 + sh) g = n := by
        show cN (X 1 ((4 + sh - 4) * 12 + g)) = n
        rw [es, b1, cN_nI (by omega)]
      have e4 : (yF F X yp yt).2.2.2.2 (4 + sh) g i = cN (X 2 ((sh * 12 + g) * 12 + i)) := by
        show cN (X 2 (((4 + sh - 4) * 12 + g) * 12 + i)) = _
        rw [es]
      have e5 : (zF F X yt).2 (4 + sh) g i = cN (X 3 ((sh * 12 + g) * 12 + i)) := by
        show cN (X 3 (((4 + sh - 4) * 12 + g) * 12 + i)) = _
        rw [es]
      rw [es]
      refine ⟨_, c1, fun q p2 => ⟨q, c2, c3, ?_⟩⟩
      have hq := g3 i p2 (by rw [ey]; exact hi)
      rw [e4, e5] at hq
      exact hq
    · rw [hak t p3] at k3 k1
      obtain ⟨q1, q2⟩ : 34 ≤ t ∧ F 20 t = 4 := by
        rcases kd with ⟨-, q⟩ | ⟨sh, -, -, q | q⟩ | q
        · exact absurd q k1
        · exact absurd q k2
        · exact absurd q k3
        · exact q
      have y4 : (yF F X yp yt).1 t = 4 := by
        show (if 10000 ≤ t ∧ t < 30000 then 5 + t % 2 else if 4 ≤ t ∧ t < 4 + yp then (if F 20 t = 3 then 3 else if cN (X 1 ((t - 4) * 12)) = 0 then 0 else 2) else if 34 ≤ t ∧ t < yt ∧ F 20 t = 4 then 4 else 0) = 4
        rw [if_neg (by omega), if_neg (by omega), if_pos ⟨q1, p3, q2⟩]
      obtain ⟨b, b1, b2, b3, b4⟩ := d4 y4 hb
      obtain ⟨-, -, -, u, u1, u2, u3⟩ := t8 t q1 p3
      have eo : (yF F X yp yt).2.1 t = u := by
        show (if 10000 ≤ t then (t - 10000) / 2 else cN (F 21 t)) = u
        rw [if_neg (by omega)]
        have u2 : F 21 t = nI u := u2
        rw [u2, cN_nI (by omega)]
      rw [eo] at b2 b3 b4
      have u3 : tyN yp (F 20) u := u3
      obtain ⟨z1, z2, z3⟩ := ty_sz tb0 (u := u) ⟨Or.inl u3, by omega⟩
      rw [ymF_n tb0 u3] at z1
      rw [z1] at b2 b3
      exact ⟨b, u, cN (F 22 u), i32_n b1 (by omega), u2, by omega, nI_cN z2, by omega, b3, fun q p2 => ⟨q, u3, by omega, b4 p2⟩⟩
