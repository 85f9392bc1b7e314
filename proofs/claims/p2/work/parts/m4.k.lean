/-- a way from a variable's node, through a reference too -/
def gWk (y : qY) (zn : Nat → Nat) (M : nM) (T n : Nat) (ρ : lLc) (n2 : Nat) : Prop := (¬ isRf T ∧ wRn y zn M T n ρ n2) ∨ (isRf T ∧ ∃ (ρ2 : lLc) (n1 : Nat), ρ = (1, 0) :: ρ2 ∧ M.w n = nL n1 ∧ n1 < 430000 ∧ wRn y zn M (y.2.1 T) n1 ρ2 n2)
section PS62
variable {R : yR} {S0 Sl S S1 S2 S3 : Sg} {g : Nat → Int32} {y : qY} {vt : Nat → Nat → Nat} {tb : Nat → lTb} {zn sz rk : Nat → Nat} {M : nM} {sk : Nat → Int64} {pl : Nat → Int32} {f : Nat} {x : Nat → kFm} {rt : Nat × Nat → Nat} {V : Nat × Nat → qV} {bs : Nat → Nat} {C L H : Nat × Nat → List Nat} {v T : Nat} {ρ : lLc}
theorem yRf {t : Nat} : ((yT R S0).1 t = 5 ∨ (yT R S0).1 t = 6) ↔ isRf t := by
  constructor
  · intro h
    by_cases c : 10000 ≤ t
    · by_cases c2 : t < 30000
      · exact ⟨c, c2⟩
      · have e : (yT R S0).1 t = 0 := by
          show yK R S0 t = 0
          unfold yK
          rw [if_pos c, if_neg c2]
        rw [e] at h; rcases h with z | z <;> cases z
    · exfalso
      have h : yK R S0 t = 5 ∨ yK R S0 t = 6 := h
      have hb : ∀ T : Nat, 10000 ≤ T → T < 30000 → True := fun _ _ _ => trivial
      unfold yK at h
      rw [if_neg c] at h
      by_cases c2 : 4 ≤ t ∧ t < 4 + R.im
      · rw [if_pos c2] at h
        by_cases c3 : R.ik (t - 4) = 10
        · rw [if_pos c3] at h; rcases h with z | z <;> cases z
        · rw [if_neg c3] at h
          by_cases c4 : R.ik (t - 4) = 11
          · rw [if_pos c4] at h; rcases h with z | z <;> cases z
          · rw [if_neg c4] at h; rcases h with z | z <;> cases z
      · rw [if_neg c2] at h
        by_cases c3 : 100 ≤ t ∧ t < 100 + tmS S0
        · rw [if_pos c3] at h
          cases hz : Zq S0 18 (t - 100) with
          | none => rw [hz] at h; simp at h
          | some z =>
            rw [hz] at h
            by_cases c4 : fN (obF S0 z) 0 = 5
            · simp [c4] at h
            · simp [c4] at h
        · rw [if_neg c3] at h; rcases h with z | z <;> cases z
  · intro h
    obtain ⟨h1, h2⟩ := h
    show yK R S0 t = 5 ∨ yK R S0 t = 6
    unfold yK
    rw [if_pos h1, if_pos h2]
    by_cases c : t % 2 = 0
    · rw [if_pos c]; exact Or.inl rfl
    · rw [if_neg c]; exact Or.inr rfl
theorem wRn.cut : ∀ {π σ : lLc} {T T1 n n2 : Nat}, wRn y zn M T n (π ++ σ) n2 → qW y T π T1 → ∃ n1 : Nat, wRn y zn M T n π n1 ∧ wRn y zn M T1 n1 σ n2
  | [], σ, T, T1, n, n2, h, hq => by
    obtain rfl := (show _ = _ from hq)
    exact ⟨n, rfl, h⟩
  | (0, j) :: π, σ, T, T1, n, n2, ⟨L, n1, a, b, c, d⟩, hq => by
    obtain ⟨m, m1, m2⟩ := wRn.cut (π := π) d hq.2.2
    exact ⟨m, ⟨L, n1, a, b, c, m1⟩, m2⟩
  | (1, j) :: π, σ, T, T1, n, n2, ⟨q, n1, a, b, c, d, e⟩, hq => by
    obtain ⟨m, m1, m2⟩ := wRn.cut (π := π) e hq.2.2
    exact ⟨m, ⟨q, n1, a, b, c, d, m1⟩, m2⟩
  | (p + 2, j) :: π, σ, T, T1, n, n2, ⟨q, n0, L, n1, a, b, c, d, e, e2, e3, e4⟩, hq => by
    obtain ⟨m, m1, m2⟩ := wRn.cut (π := π) e4 hq.2.2.2
    exact ⟨m, ⟨q, n0, L, n1, a, b, c, d, e, e2, e3, m1⟩, m2⟩
/-- a way ends at a node -/
theorem wRn.lt : ∀ {π : lLc} {T n n2 : Nat}, n < 430000 → wRn y zn M T n π n2 → n2 < 430000
  | [], _, _, _, h, q => by rw [show _ = _ from q]; exact h
  | (0, j) :: π, T, n, n2, h, ⟨L, n1, a, b, c, d⟩ => wRn.lt (a.1 n1 (List.mem_of_getElem? c)).2 d
  | (1, j) :: π, T, n, n2, h, ⟨q, n1, a, b, c, d, e⟩ => wRn.lt d e
  | (p + 2, j) :: π, T, n, n2, h, ⟨q, n0, L, n1, a, b, c, d, e, e2, e3, e4⟩ => wRn.lt (e.1 n1 (List.mem_of_getElem? e3)).2 e4
theorem kN.hd (hy : nYk y zn sz rk) (h : kN y zn sz M sk pl f x rt V bs C L H) {d : Nat × Nat} (h1 : d.1 ≤ f) (h2 : d.2 < 40) (h3 : (8, d.2, 0) ∈ (x d.1).2.1) : plR y sz M (rt d) (V d) (pl (40 * d.1 + d.2)) (C d) (L d) (H d) ∧ 1 ≤ (C d).length ∧ hdN (C d) < 430000 := by
  have hp : plR y sz M (rt d) (V d) (pl (40 * d.1 + d.2)) (C d) (L d) (H d) := (h.1 d.1 d.2 h1).1 h2 h3
  obtain ⟨⟨k, q1⟩, q2, _⟩ := id hp
  have hl : 1 ≤ (C d).length := by rw [q1.len hy]; exact (hy.1 _).1
  exact ⟨hp, hl, (q2.1 _ (hdN_i hl)).2⟩
/-- where a place lies -/
theorem plN (hy : nYk (yT R S0) zn sz rk) (hJ : kJ (yT R S0) vt tb f x rt V) (hN : kN (yT R S0) zn sz M sk pl f x rt V bs C L H) (hv4 : v < 40) (hvS : (8, v, 0) ∈ (x f).2.1) (hp : pTy (yT R S0) (vt (x f).1 v) ρ T) (hms : qMs ρ) (hfu : fuL (yT R S0) (klo (x f)) v ρ T) (hal : isRf (vt (x f).1 v) → kal (x f) v ∧ ρ ≠ []) :
  ∃ (d : Nat × Nat) (π : lLc) (n : Nat), (d.1 ≤ f ∧ d.2 < 40 ∧ (8, d.2, 0) ∈ (x d.1).2.1) ∧ qW (yT R S0) (rt d) π T ∧ qF (yT R S0) (V d) π T ∧ wRn (yT R S0) zn M (rt d) (hdN (C d)) π n ∧ n < 430000 ∧ gWk (yT R S0) zn M (vt (x f).1 v) (hdN (C (f, v))) ρ n ∧ ((d = (f, v) ∧ π = ρ ∧ ¬ isRf (vt (x f).1 v)) ∨ ∃ π0 ρ2 : lLc, kR (x f) v = some (d :: π0) ∧ π = π0 ++ ρ2 ∧ ρ = (1, 0) :: ρ2 ∧ isRf (vt (x f).1 v) ∧ qW (yT R S0) (rt d) π0 ((yT R S0).2.1 (vt (x f).1 v))) := by
  have hf := Nat.le_refl f
  rcases hp with ⟨n1, w1⟩ | ⟨h56, hp⟩
  · obtain ⟨q1, q2⟩ := pl_A hJ hv4 hvS w1 hms hfu
    obtain ⟨p1, p2, p3⟩ := hN.hd hy (d := (f, v)) hf hv4 hvS
    obtain ⟨⟨k, z1⟩, z2, _⟩ := p1
    have w3 : qW (yT R S0) (rt (f, v)) ρ T := by rw [q2]; exact w1
    obtain ⟨n, hn⟩ := z1.wk hy z2 w3 (prS.of (hJ.1 (f, v)) (qF_pl q1))
    have hn := hn M (fun _ _ => ⟨rfl, rfl⟩) (fun _ _ => ⟨rfl, rfl, rfl⟩)
    refine ⟨(f, v), ρ, n, ⟨hf, hv4, hvS⟩, w3, q1, hn, hn.lt p3, Or.inl ⟨n1, ?_⟩, Or.inl ⟨rfl, rfl, n1⟩⟩
    rw [← q2]; exact hn
  · obtain ⟨hal1, hne⟩ := hal h56
    rcases hp with ⟨hp, _⟩ | ⟨ρ2, rfl, w1⟩
    · exact absurd hp hne
    · have ms2 : qMs ρ2 := (qMs_cons.mp hms).2
      obtain ⟨h1, h2⟩ := hJ.2.2.2.2.2.2.1 f hf v hv4 hvS
      have hlo : ¬ klo (x f) v [] := hfu.2 [] 0 ρ2 rfl qM_nil
      have h5 := (yRf (R := R) (S0 := S0)).mpr h56
      have q := h2 [] _ qM_nil rfl hlo
      obtain ⟨⟨t, gg⟩, e⟩ := q.1 (by rcases h5 with a | a <;> rw [a] <;> decide)
      have et : t = rt (f, v) := ((hJ.1 (f, v)).1 [] t gg e).1
      have hA : kA (x f) v := Or.inl ⟨hv4, hal1⟩
      obtain ⟨a, ea⟩ := hJ.2.2.2.1 f hf v t gg e (by rw [et, h1]; exact h5) hA
      obtain ⟨-, d, π, rfl, d1, d2, d3⟩ := hJ.2.2.1 f hf v a hA ea
      rw [h1] at d2 d3
      obtain ⟨l1, l2, l3, _⟩ := hJ.ld hf hA ea
      obtain ⟨m1, m2, m3, m4, _⟩ := hN.2.2.2 f v d π hf hA (Or.inl ⟨hv4, hvS⟩) ea
      obtain ⟨m0, c1, c2⟩ := m4 hv4
      obtain ⟨p1, p2, p3⟩ := hN.hd hy (d := d) l1 l2 l3
      obtain ⟨⟨k, z1⟩, z2, _⟩ := p1
      have b1 := qW_app d2 w1
      have b2 := qF_path (hJ.1 d) d2 d3 w1 ms2
      obtain ⟨n, hn⟩ := z1.wk hy z2 b1 (prS.of (hJ.1 d) (qF_pl b2))
      have hn := hn M (fun _ _ => ⟨rfl, rfl⟩) (fun _ _ => ⟨rfl, rfl, rfl⟩)
      obtain ⟨n9, u1, u2⟩ := hn.cut d2
      have e9 := wRn.det u1 m3
      subst e9
      refine ⟨d, π ++ ρ2, n, ⟨l1, l2, l3⟩, b1, b2, hn, hn.lt p3, Or.inr ⟨h56, ρ2, n9, rfl, ?_, m2, u2⟩, Or.inr ⟨π, ρ2, ea, rfl, rfl, h56, d2⟩⟩
      rw [c1]; exact c2
/-- find -/
theorem fnd_ {w va sa ta m n n2 : Nat} {F : Nat → Int32} {G : Nat → Option Nat} {mu : Int32} (hL : LFS R S0 g) (hx : LX S0 Sl) (e : RNx Sl S) (hp : pRw R S0 Sl w va ρ F G sa ta) (hr : ∀ j z : Nat, j ≤ ρ.length → G j = some z → rTy S0 z) (hu : isU Sl va v (G 0) mu) (h76 : Zi S 76 = nI (f + 1)) (hf : f < 60) (hv4 : v < 40) (hm : m ≤ ρ.length) (hn : Zr S 74 (40 * f + v) = nI n) (hn4 : n < 430000) (hw : (m = 0 ∧ n2 = n) ∨ gWk (yT R S0) (zN R S0) (nMS S) (abU S0 (G 0)) n (ρ.take m) n2) : f_find R.K S (some w) (nI m) = some (S, nI n2) := by
  have hY := hL.1
  have hp0 := hp
  obtain ⟨p1, p2, p3, p4, p5, p6⟩ := hp
  obtain ⟨u1, nm, wh, u2⟩ := hu
  have r0 : oR S 18 (some w) 0 = some (some va) := oR_mk (v := some va) (by rw [e.1]; exact p1) (by rw [e.2.1]; exact p2) rfl
  have r1 : oI S 21 (some va) 0 = some (nI v) := oI_mk (by rw [e.1]; exact u1) (by rw [e.2.1]; exact u2) rfl
  have hslot : f_slot R.K S (some va) = some (S, nI (40 * f + v)) := by
    unfold f_slot
    rw [r1, h76, nI_pred]
    simp only [Option.bind_some]
    rw [show (40 : Int32) = nI 40 from rfl, show nI 40 * nI f = nI (40 * f) from (Int32.ofNat_mul 40 f).symm, nI_add]
  unfold f_find
  rw [r0]
  simp only [Option.bind_some]
  rw [hslot]
  show (rI S 74 (nI (40 * f + v))).bind (fun v4 => f_find_17 R.K bigN S (some w) (nI m) v4 0) = _
  rw [rI_n (show 40 * f + v < rlen 74 from by show _ < 2440; omega) (by decide), hn]
  simp only [Option.bind_some]
  rw [show (0 : Int32) = nI 0 from rfl]
  have h0 : ∀ hm0 : m = 0, f_find_17 R.K bigN S (some w) (nI m) (nI n) (nI 0) = some (S, nI n) := fun hm0 => by
    subst hm0
    rw [show bigN = (bigN - 1) + 1 from rfl]
    unfold f_find_17
    rw [if_pos (nI_le (a := 0) (b := 0) (Nat.le_refl _) (by decide))]
  rcases hw with ⟨w1, w2⟩ | hw
  · rw [h0 w1, w2]
  · have htl : (ρ.take m).length = m := by rw [List.length_take]; omega
    rcases hw with ⟨w1, w2⟩ | ⟨w1, ρ2, n1, w2, w3, w4, w5⟩
    · by_cases hm0 : m = 0
      · rw [h0 hm0]
        subst hm0
        have w2 : n2 = n := w2
        rw [w2]
      · have h0l : 0 < ρ.length := by omega
        obtain ⟨_, x0, y0, g0, _⟩ := p5 0 ρ[0] (List.getElem?_eq_getElem h0l)
        have hrt := hr 0 x0 (Nat.zero_le _) g0
        rw [g0] at w1 w2
        have w1 : ¬ isRf (abT S0 x0) := w1
        have hv : vTy S0 x0 := by
          rcases hrt.nm hY with ⟨z, _⟩ | ⟨_, _, _, _, z, _⟩
          · exact z
          · exact absurd z w1
        have w2 : wRn (yT R S0) (zN R S0) (nMS S) (abT S0 x0) n (ρ.take m) n2 := w2
        rw [(hv.nm hY).2.2] at w2
        exact fn17 hL hx e hp0 hm bigN (ρ.take m) 0 n n2 x0 (by omega) (by unfold bigN; omega) (fun t ht => by rw [Nat.zero_add, List.getElem?_take, if_pos (by omega)]) g0 hv hn4 w2
    · have h0l : 0 < ρ.length := by
        have := congrArg List.length w2
        rw [htl] at this
        have h3 : m = ρ2.length + 1 := this
        omega
      have hm1 : m = ρ2.length + 1 := by
        have := congrArg List.length w2
        rw [htl] at this; exact this
      have hs0 : ρ[0]? = some (1, 0) := by
        have := congrArg (fun l : lLc => l[0]?) w2
        have this : (ρ.take m)[0]? = some (1, 0) := this
        rw [List.getElem?_take, if_pos (by omega)] at this; exact this
      obtain ⟨f1, x0, y0, g0, g1, st⟩ := p5 0 (1, 0) hs0
      have hrt := hr 0 x0 (Nat.zero_le _) g0
      rw [g0] at w1 w5
      have w1 : isRf (abT S0 x0) := w1
      have w5 : wRn (yT R S0) (zN R S0) (nMS S) (yO S0 (abT S0 x0)) n1 ρ2 n2 := w5
      rcases hrt.nm hY with ⟨_, z, _⟩ | ⟨kd, u, z1, z2, _, z4⟩
      · exact absurd w1 z
      · have hyu : y0 = u := by
          rcases st with ⟨_, kd2, _, t2⟩ | ⟨i, k, t1, _⟩ | ⟨i, g9, k, mk, tx, t1, _⟩
          · obtain ⟨_, _, e3⟩ := isTy_fn t2 z1
            exact Option.some.inj e3
          · cases t1
          · have := (Prod.mk.inj t1).1; omega
        subst hyu
        have hkd : kd ≠ 5 := by
          rcases z4 with ⟨z, _⟩ | ⟨z, _⟩
          · rw [z]; decide
          · rw [z]; decide
        have hyo : yO S0 (abT S0 x0) = abV S0 y0 := by
          unfold yO
          rw [if_pos w1.1]
          rcases z4 with ⟨_, z, _⟩ | ⟨_, z, _⟩
          · rw [z]; omega
          · rw [z]; omega
        rw [hyo] at w5
        obtain ⟨tn, _, _, c3, c4⟩ := e.ty (hx.ty z1)
        have o0 : oI S 20 (some x0) 0 = some kd := oI_mk c3 c4 rfl
        have q1 : oR S 18 (some w) 2 = some (some sa) := oR_mk (v := some sa) (by rw [e.1]; exact p1) (by rw [e.2.1]; exact p2) rfl
        have q2 : aI R.K S (some sa) (nI 0) = some (F 0) := aI_n (by rw [e.1]; exact p3.1) (by rw [e.2.1]; exact p3.2) h0l (by omega)
        have q3 : oR S 18 (some w) 3 = some (some ta) := oR_mk (v := some ta) (by rw [e.1]; exact p1) (by rw [e.2.1]; exact p2) rfl
        have q4 : aQ R.K 4 S (some ta) (nI 0) = some (some x0) := by
          rw [← g0]; exact aQ_n (by rw [e.1]; exact p4.1) (by rw [e.2.1]; exact p4.2) (show 0 < ρ.length + 1 by omega) (by omega)
        have hb : f_find_17 R.K bigN S (some w) (nI m) (nI n) (nI 0) = f_find_17 R.K (bigN - 1) S (some w) (nI m) (nI n1) (nI 1) := by
          rw [show bigN = (bigN - 1) + 1 from rfl]
          show f_find_17 R.K ((bigN - 1) + 1) S (some w) (nI m) (nI n) (nI 0) = f_find_17 R.K (bigN - 1) S (some w) (nI m) (nI n1) (nI 1)
          rw [f_find_17]
          rw [if_neg (Int32.not_le.mpr (nI_lt (a := 0) (b := m) (by omega) (by omega))), q1]
          simp only [Option.bind_some]
          rw [q2]
          simp only [Option.bind_some]
          rw [q3]
          simp only [Option.bind_some]
          rw [q4]
          simp only [Option.bind_some]
          rw [f1, sCo_m1, if_pos (by decide), if_pos (by decide), o0]
          simp only [Option.bind_some]
          rw [if_neg hkd, rJ_n (show n < rlen 61 from hn4) (by decide)]
          simp only [Option.bind_some]
          rw [show Zl S 61 n = nL n1 from w3, nL_t]
          rfl
        rw [hb]
        exact fn17 hL hx e hp0 hm (bigN - 1) ρ2 1 n1 n2 y0 (by omega) (by unfold bigN; omega) (fun t ht => by
          have h9 : (ρ.take m)[1 + t]? = ρ2[t]? := by rw [w2, Nat.add_comm, List.getElem?_cons_succ]
          rw [List.getElem?_take, if_pos (by omega)] at h9
          exact h9) g1 z2 w4 w5
end PS62
