-- f3.q6.lean.txt
section
/-- what the class's reading of a place may rely on -/
def plF (F : tF) (c : Nat → Int) (top base p v T m nd : Nat) (ds os : List Nat) (o : Nat) (pa ro : Int32) : Prop := F 1 0 = F 1 0 ∧ p < 3001 ∧ F 6 p = nI v ∧ v < 40 ∧ F 9 p = ro ∧ F 10 p = nI T ∧ T < 3040 ∧ F 22 T = nI m ∧ 1 ≤ m ∧ m ≤ 16 ∧ pW ds os o nd pa ro ∧ nd ≤ 4 ∧ rOk c top base os ∧ rA c base os o + m ≤ top
section
variable {y : qY} {z : qZ} {vt vo : Nat → Nat → Nat} {vc : Nat → Nat} {tb : Nat → lTb} {hp : Nat} {tk tk2 : Nat → Prop} {c c2 : Nat → Int} {f g i j : Nat} {x : Nat → kFm} {An : Nat → lLc → Nat → Prop} {fb : Nat → Nat} {top top2 : Nat} {fil fil2 : Nat → Nat → Nat → Prop} {N : lK} {L : Nat → Nat → lLc → Prop} {Rm : Nat → Prop} {F X : tF} {G : Nat → Nat → Nat} {rs a b n yp yt : Nat} {k : Nat → Option (List tE)} {rl : Nat → Int32} {pl : Nat → Nat → Int32} {me : Int32} {s s2 : List tE} {R R2 : Nat → Option lLc}
theorem sg_pl (E : sgE y z F X G rs a b n yp yt k N L Rm (tb g) rl pl me (vt g)) {p v nd T : Nat} {pa ro mu : Int32} (hpl : plI F X p v nd T pa ro mu) : ∃ (T0 : Nat) (ds os : List Nat) (o : Nat), v < n ∧ F 15 v = nI T0 ∧ tyV yp yt (F 20) T0 ∧ vt g v = ymF F T0 ∧ vt g v ≠ 0 ∧ pW ds os o nd pa ro ∧ wyF F p = ds.map stO ∧ ((plW y z (vt g v) T (ds.map stO) os o ∧ tyN yp (F 20) T ∧ T < yt ∧ o + z.1 T ≤ 16 ∧ F 12 p = pCells ro (nI (z.1 T)) ∧ ((F 20 T0 = 5 ∨ F 20 T0 = 6) → mu ≠ 0 → F 20 T0 = 6)) ∨ (ds = [] ∧ os = [] ∧ o = 0 ∧ T = T0 ∧ (F 20 T0 = 5 ∨ F 20 T0 = 6) ∧ F 12 p = pCells ro (nI (z.1 (vt g v))))) := by
  have hv4 : v < 40 := hpl.2.1
  have hne : F 15 v ≠ -1 := pl_ne nd pa ro T mu hpl.2.2.2.1 hpl.2.2.2.2.2.2.2.2.2.2
  obtain ⟨hvn, T0, e1, e2, e3⟩ := E.2.2.2.2.2.1 v hv4 hne
  obtain ⟨ds, os, o, g1, g2, g3⟩ := pl_abs E.1.1 e1 e2 hpl
  refine ⟨T0, ds, os, o, hvn, e1, e2, e3, by rw [e3]; exact ymF_0 E.1.1 e2, g1, g2, ?_⟩
  rw [← E.1.2.1, ← E.1.2.2.1, ← e3] at g3
  exact g3
/-- kinds of a variable's type, in the table -/
theorem sg_k (E : sgE y z F X G rs a b n yp yt k N L Rm (tb g) rl pl me (vt g)) {T0 : Nat} (h0 : tyV yp yt (F 20) T0) : (F 20 T0 = 5 → ∃ U : Nat, F 21 T0 = nI U ∧ U < 10000 ∧ tyN yp (F 20) U ∧ U < yt ∧ ymF F T0 = 10000 + 2 * U ∧ tNf F T0 = (1, U, 0)) ∧ (F 20 T0 = 6 → ∃ U : Nat, F 21 T0 = nI U ∧ U < 10000 ∧ tyN yp (F 20) U ∧ U < yt ∧ ymF F T0 = 10001 + 2 * U ∧ tNf F T0 = (2, U, 0)) ∧ ((y.1 (ymF F T0) = 5 ∨ y.1 (ymF F T0) = 6) ↔ (F 20 T0 = 5 ∨ F 20 T0 = 6)) ∧ (F 20 T0 = 6 → y.1 (ymF F T0) = 6) := by
  have h30 : yt ≤ 3040 := E.1.1.1.2.1
  have k3 : F 20 3 = 1 := E.1.1.1.2.2.2.1.2.2.2
  have ref : (F 20 T0 = 5 ∨ F 20 T0 = 6) → ∃ U : Nat, F 21 T0 = nI U ∧ U < 10000 ∧ tyN yp (F 20) U ∧ U < yt ∧ T0 ≠ 3 := fun hq => by
    have h34 : 34 ≤ T0 := (E.1.2.2.2.2.1 T0 (by have := h0.2; omega) (by rcases hq with q | q; exact Or.inr (Or.inl q); exact Or.inr (Or.inr q))).1
    obtain ⟨U, u1, u2, u3⟩ := ty_of E.1.1 h34 h0.2
    have := h0.2
    exact ⟨U, u2, by omega, u3, by omega, by omega⟩
  refine ⟨fun h5 => ?_, fun h6 => ?_, ?_, fun h6 => ?_⟩
  · obtain ⟨U, u1, u2, u3, u4, u5⟩ := ref (Or.inl h5)
    refine ⟨U, u1, u2, u3, u4, ?_, ?_⟩
    · unfold ymF; rw [if_pos h5, u1, cN_nI (by omega)]
    · unfold tNf; rw [if_neg u5, if_pos h5, u1, cN_nI (by omega)]
  · obtain ⟨U, u1, u2, u3, u4, u5⟩ := ref (Or.inr h6)
    refine ⟨U, u1, u2, u3, u4, ?_, ?_⟩
    · unfold ymF; rw [if_neg (by rw [h6]; decide), if_pos h6, u1, cN_nI (by omega)]
    · unfold tNf; rw [if_neg u5, if_neg (by rw [h6]; decide), if_pos h6, u1, cN_nI (by omega)]
  · rw [E.1.2.1, yF_56]
    constructor
    · intro q
      apply Classical.byContradiction
      intro hn
      have : ymF F T0 = T0 := by
        unfold ymF
        rw [if_neg (fun z => hn (Or.inl z)), if_neg (fun z => hn (Or.inr z))]
      have := h0.2
      omega
    · intro q
      obtain ⟨U, u1, u2, -⟩ := ref q
      unfold ymF
      rcases q with q | q
      · rw [if_pos q, u1, cN_nI (by omega)]; omega
      · rw [if_neg (by rw [q]; decide), if_pos q, u1, cN_nI (by omega)]; omega
  · obtain ⟨U, u1, u2, -⟩ := ref (Or.inr h6)
    have e : ymF F T0 = 10001 + 2 * U := by unfold ymF; rw [if_neg (by rw [h6]; decide), if_pos h6, u1, cN_nI (by omega)]
    rw [e, E.1.2.1]
    show (if 10000 ≤ 10001 + 2 * U ∧ 10001 + 2 * U < 30000 then 5 + (10001 + 2 * U) % 2 else _) = 6
    rw [if_pos (by omega)]; omega
theorem sg_rf (E : sgE y z F X G rs a b n yp yt k N L Rm (tb g) rl pl me (vt g)) {v T0 : Nat} (hvn : v < n) (q1 : F 15 v = nI T0) (q2 : tyV yp yt (F 20) T0) (q3 : vt g v = ymF F T0) : (tb g).2.2.2.2 v ↔ (y.1 (vt g v) = 5 ∨ y.1 (vt g v) = 6) := by
  have h30 : yt ≤ 3040 := E.1.1.1.2.1
  have cT0 : cN (F 15 v) = T0 := by rw [q1, cN_nI (by have := q2.2; omega)]
  rw [E.2.2.2.2.2.2.2.2.2.1 v hvn, cT0, q3]
  exact (sg_k E q2).2.2.1.symm
theorem sg_z4 (E : sgE y z F X G rs a b n yp yt k N L Rm (tb g) rl pl me (vt g)) : ∀ t : Nat, y.1 t = 4 ∨ y.1 t = 5 ∨ y.1 t = 6 → z.1 t = 1 := fun t ht => by
  rw [E.1.2.2.1]
  rw [E.1.2.1] at ht
  exact zF_1 E.1.1 ht
theorem sg_16 (E : sgE y z F X G rs a b n yp yt k N L Rm (tb g) rl pl me (vt g)) : ∀ t : Nat, z.1 t ≤ 16 := fun t => by
  rw [E.1.2.2.1]; exact zF_le
/-- a place of a whole value, read -/
theorem sg_rd (E : sgE y z F X G rs a b n yp yt k N L Rm (tb g) rl pl me (vt g)) (hy : kYs y z vt vo vc) (hk : kS y z vt vo vc tb hp tk c f (kUx x f (Fr N L g i s R An)) fb top fil) (htop : top < 2 ^ 31) {p v nd T T0 o : Nat} {ds os : List Nat} {pa ro mu xx : Int32} (hpl : plI F X p v nd T pa ro mu) (hvS : (8, v, 0) ∈ s) (e0 : tyV yp yt (F 20) T0) (e1 : vt g v = ymF F T0) (e2 : vt g v ≠ 0) (g1 : pW ds os o nd pa ro) (w1 : plW y z (vt g v) T (ds.map stO) os o) (w2 : tyN yp (F 20) T) (w3 : T < yt) (w4 : o + z.1 T ≤ 16) (w5 : F 12 p = pCells ro (nI (z.1 T))) (hU : (y.1 (vt g v) = 5 ∨ y.1 (vt g v) = 6) → N.2.1 i v) (hx : ∀ π : lLc, L i v π → LcF y z (vt g v) xx π) (hx0 : xx &&& F 12 p = 0) : fuL y (L i) v (ds.map stO) T ∧ ((y.1 (vt g v) = 5 ∨ y.1 (vt g v) = 6) → v < 40 ∧ N.2.1 i v ∧ ¬ L i v []) ∧ plF F c top (fb f + vo g v) p v T (z.1 T) nd ds os o pa ro := by
  have hv4 : v < 40 := hpl.2.1
  have fu := fu_of (v := v) (lo := L i) hy.1 (sg_z4 E) e2 w1 g1 hpl.2.2.1 w4 (by rw [← w5]; exact hx0) hx
  have hal : (y.1 (vt g v) = 5 ∨ y.1 (vt g v) = 6) → v < 40 ∧ N.2.1 i v ∧ ¬ L i v [] := fun q => by
    rcases w1 with ⟨n5, n6, -⟩ | ⟨-, ρ2, er, -⟩
    · exact absurd q (by rintro (z | z); exact n5 z; exact n6 z)
    · exact ⟨hv4, hU q, fu.2 [] 0 ρ2 er qM_nil⟩
  obtain ⟨r1, r2⟩ := pl_adr hy hk (v := v) (T := T) (ρ := ds.map stO) (os := os) (o := o) hv4 (by rw [kUx_eq]; exact hvS) (by rw [kUx_eq]; exact w1) (by rw [kUx_eq]; exact fu) (by rw [kUx_eq]; exact hal) htop
  rw [kUx_eq] at r1 r2
  have sz := sg_sz E (u := T) ⟨Or.inl w2, w3⟩
  rw [ymF_n E.1.1 w2] at sz
  exact ⟨fu, hal, rfl, hpl.1.1, hpl.2.2.2.2.1, hv4, hpl.2.2.2.2.2.2.2.1, hpl.2.2.2.2.2.2.2.2.1, hpl.2.2.2.1, sz.1, sz.2.1, sz.2.2, g1, hpl.2.2.1, r1, r2⟩
theorem wl_nx {e : tE} (he : kNm e) (hv : vl (e :: s) ≤ 211) : wl s < 211 := by
  have := wl_vl_le (r := e :: s)
  rw [wl_n he] at this
  omega
/-- a reference comes: told by what is known of j -/
theorem st_finR {e : tE} {q : lLc} {hd : Nat → Prop} (h : kS y z vt vo vc tb hp tk c f (kUx x f (g, e :: s2, 0, lUp R (40 + wl s2) (some q), lUp (N.1 i) (40 + wl s2) hd, (fun u => u < 40 ∧ N.2.1 j u ∧ ¬ L j u []), L i, An)) fb top fil) (he : kNm e) (hv : vl (e :: s2) ≤ 211) (hL : ∀ (i v : Nat) (π : lLc), n ≤ v → L i v π) (h1 : lkp N i j (wl s2) (fun _ => False)) (h2 : mkp L n i j (fun _ => False)) (hh9 : ∀ l : Nat, hd l → N.1 j (40 + wl s2) l) : kS y z vt vo vc tb hp tk c f (kUx x f (Fr N L g j (e :: s2) (lUp R (40 + wl s2) (some q)) An)) fb top fil := by
  refine fin h (fun u w l hu hr hh => ?_) (fun u q => q) (fun v π q => kpL hL h2 v π (fun q => q) q)
  rcases hu with hu | hu | ⟨rfl, r, m, hu⟩
  · rw [lUp_ne (by omega)] at hh
    exact h1.2.1 u l (fun q => q) (Or.inl hu.1) hh
  · rw [wl_n he] at hu
    by_cases e9 : u = 40 + wl s2
    · rw [e9, lUp_eq] at hh
      rw [e9]; exact hh9 l hh
    · rw [lUp_ne e9] at hh
      exact h1.2.1 u l (fun q => q) (Or.inr ⟨hu.1, by omega⟩) hh
  · exfalso
    have n5 := no56 (vl_no (vl_1 hv he)) r m
    rcases hu with hu | hu
    · rcases List.mem_cons.mp hu with q | q
      · exact he (Or.inr (Or.inr (Or.inl (by rw [← q]))))
      · exact n5.1 q
    · rcases List.mem_cons.mp hu with q | q
      · exact he (Or.inr (Or.inr (Or.inr (by rw [← q]))))
      · exact n5.2 q
/-- COPY -/
theorem s_cpy (E : sgE y z F X G rs a b n yp yt k N L Rm (tb g) rl pl me (vt g)) (hy : kYs y z vt vo vc) (htop : top < 2 ^ 31) (h : At y z vt vo vc tb hp a b k N L Rm g f x An fb i tk c top fil) (ho : F 0 i = nI 2) : ∃ (p v T m nd : Nat) (ds os : List Nat) (o : Nat) (pa ro : Int32), F 1 i = nI p ∧ plF F c top (fb f + vo g v) p v T m nd ds os o pa ro ∧ ∀ c2 : Nat → Int, (∀ k : Nat, k < top → c2 k = c k) → (∀ q : Nat, q < m → c2 (top + q) = c (rA c (fb f + vo g v) os o + q)) → At y z vt vo vc tb hp a b k N L Rm g f x An fb (i + 1) tk c2 (top + m) fil := by
  obtain ⟨s, R, hs, ha, hb, hN, hR, hk⟩ := h
  obtain ⟨p, T, mu, g1, ⟨v, nd, pa, ro, hpl⟩, gk, h1⟩ := ce_op E.2.1 ha hb hs ho (by decide)
  have hv4 : v < 40 := hpl.2.1
  have hvS := E.1.2.2.2.2.2.2 i 2 p v s hR hs ho (Or.inl rfl) g1 hpl.1.1 hpl.2.2.2.2.1 hv4
  obtain ⟨T0, ds, os, o, hvn, q1, q2, q3, q4, q5, q6, q7⟩ := sg_pl E hpl
  obtain ⟨e1, e2⟩ := E.2.2.2.2.2.2.2.1 i 2 _ ha hb hs ho (by decide) hN hR
  obtain ⟨hlk, hck⟩ := e1.2.2.2.2.1 (Or.inl rfl)
  obtain ⟨hU, hck, hrf⟩ := hck p v g1 hpl.1.1 hpl.2.2.2.2.1 hv4
  have hU : (y.1 (vt g v) = 5 ∨ y.1 (vt g v) = 6) → N.2.1 i v := fun q => hU ((sg_rf E hvn q1 q2 q3).mpr q)
  obtain ⟨xx, hx, hx0⟩ := e2.2.2.1 (Or.inl rfl) p v g1 hpl.1.1 hpl.2.2.2.2.1 hv4
  have hmk := e2.2.1 (by omega)
  have hRm := e2.1 (by omega)
  have hj := E.2.2.2.2.2.2.2.2.2.2.2.1.2 (i + 1) hRm
  have hv := E.2.2.1 (i + 1) _ hj.1 hj.2 h1
  obtain ⟨et, ew⟩ := At_s hk
  obtain ⟨y0, y1, y2', y3, z1, z2, z3⟩ := sg_p E
  rcases q7 with ⟨w1, w2, w3, w4, w5, w6⟩ | ⟨rfl, rfl, rfl, rfl, w5, w6⟩
  · obtain ⟨fu, hal, hpf⟩ := sg_rd E hy hk htop hpl hvS q2 q3 q4 q5 w1 w2 w3 w4 w5 hU hx hx0
    have nr := tyN_nr E.1.1 w2
    have k0 : F 20 T = 0 := gk.resolve_right nr.1
    have hT : T = 1 ∨ T = 2 := by
      rcases w2 with z9 | z9 | z9
      · rcases z9 with z9 | z9 | z9
        · exact Or.inl z9
        · exact Or.inr z9
        · rw [z9] at k0
          have k3 : F 20 3 = 1 := E.1.1.1.2.2.2.1.2.2.2
          rw [k3] at k0; exact absurd k0 (by decide)
      · rcases E.1.1.1.2.2.2.2.2.2.1 (T - 4) (by omega) with z8 | z8
        · rw [show 4 + (T - 4) = T by omega] at z8
          have z8 : F 20 T = 2 := z8
          rw [z8] at k0; exact absurd k0 (by decide)
        · rw [show 4 + (T - 4) = T by omega] at z8
          have z8 : F 20 T = 3 := z8
          rw [z8] at k0; exact absurd k0 (by decide)
      · rw [z9.2] at k0; exact absurd k0 (by decide)
    have zT : z.1 T = 1 := by rcases hT with rfl | rfl; exact z1; exact z2
    have eN : tNf F T = (0, T, 0) := tNf_u (by omega) nr.1 nr.2
    rw [eN] at h1 hv
    refine ⟨p, v, T, z.1 T, nd, ds, os, o, pa, ro, g1, hpf, fun c2 hc hcc => ?_⟩
    have q := kS_push0 (c2 := c2) hy hk (by rw [kUx_eq]; rfl) (by rw [kUx_eq]; exact wl_nx nm0 hv) (e := (0, T, 0)) (t := T) (Or.inl ⟨0, rfl, by omega⟩) (by rcases hT with rfl | rfl; exact y1; exact y2') hc
    rw [kUx_eq, kUx2, show kes z (0, T, 0) = z.1 T from if_neg (by omega)] at q
    exact At_mk E h1 hRm hlk.1 (st_fin0 q rfl nm0 hv E.2.2.2.2.2.2.2.2.1 hlk hmk)
  · have k5 : F 20 T = 5 := by
      rcases gk with z9 | z9
      · rcases w5 with z8 | z8 <;> (rw [z8] at z9; exact absurd z9 (by decide))
      · exact z9
    obtain ⟨U, u1, u2, u3, u4, u5, u6⟩ := (sg_k E q2).1 k5
    have zv : z.1 (vt g v) = 1 := sg_z4 E _ (Or.inr (by rw [q3]; exact (sg_k E q2).2.2.1.mpr w5))
    have nlo : ¬ L i v [] := fun q => fu_ref zv q4 q5 hpl.2.2.1 (by rw [← w6]; exact hx0) (hx [] q)
    have hU := hU (by rw [q3]; exact (sg_k E q2).2.2.1.mpr w5)
    rw [u6] at h1 hv
    have n1 : kNm (1, U, 0) := by unfold kNm; simp
    have sz := sg_sz E q2
    rw [← q3, zv] at sz
    -- the variable's own cell
    have lt : fb f + vo g v < top := by
      obtain ⟨rt, ra, V, hJ, hL⟩ := hk
      obtain ⟨d, π, w, -, -, -, -, b5, -⟩ := pl_B hJ hL hv4 (by rw [kUx_eq]; exact hvS) (by rw [kUx_eq]; exact ⟨hv4, hU, nlo⟩) (by rw [kUx_eq]; show y.1 (vt g v) = 5 ∨ y.1 (vt g v) = 6; rw [q3]; exact (sg_k E q2).2.2.1.mpr w5) (by rw [kUx_eq]; exact nlo)
      have b6 := kLt hy hJ hL b5
      have b7 := hL.2.2.2.1 f (Nat.le_refl f) v hv4 (by rw [kUx_eq]; exact hvS)
      rw [kUx_eq] at b7
      have b6 : ra (f, v) < top := b6
      rw [b7] at b6
      exact b6
    refine ⟨p, v, T, 1, nd, [], [], 0, pa, ro, g1, ⟨rfl, hpl.1.1, hpl.2.2.2.2.1, hv4, hpl.2.2.2.2.2.2.2.1, hpl.2.2.2.2.2.2.2.2.1, hpl.2.2.2.1, sz.1, by decide, by decide, q5, hpl.2.2.1, trivial, lt⟩, fun c2 hc hcc => ?_⟩
    obtain ⟨aa, q⟩ := kS_cpR (c2 := c2) (m := 0) (al2 := fun u => u < 40 ∧ N.2.1 (i + 1) u ∧ ¬ L (i + 1) u []) hy hk (by rw [kUx_eq]; rfl) (by rw [kUx_eq]; exact wl_nx n1 hv) (by rw [kUx_eq]; exact no56 (vl_no (vl_1 hv n1))) u2 hv4 (by rw [kUx_eq]; exact hvS) (by rw [kUx_eq]; show vt g v = _; rw [q3]; exact u5) (by rw [kUx_eq]; exact ⟨hv4, hU, nlo⟩) (by rw [kUx_eq]; exact nlo) (by rw [kUx_eq]; exact fun u q => kpA E.2.2.2.2.2.2.2.2.1 hlk hmk u (fun q => q) q) (by
      rw [kUx_eq]
      intro u l hh hl1 hl2
      exact E.2.2.2.2.2.2.2.2.2.2.2.1.1 i u l v hh hl1 hl2 hvn (by rw [q1, cN_nI (by have := q2.2; have := E.1.1.1.2.1; omega)]; exact k5)) hc (by
      rw [kUx_eq]
      exact hcc 0 (by decide))
    rw [kUx_eq, kUx2] at q
    have r10 : rfB (F 20) (F 10 p) := (rf_eq hpl.2.2.2.2.2.2.2.2.1 hpl.2.2.2.1).mpr w5
    exact At_mk E h1 hRm hlk.1 (st_finR q n1 hv E.2.2.2.2.2.2.2.2.1 hlk hmk (fun l hh => hrf r10 l hh))
/-- BORROW -/
theorem s_bor (E : sgE y z F X G rs a b n yp yt k N L Rm (tb g) rl pl me (vt g)) (hy : kYs y z vt vo vc) (htop : top < 2 ^ 31) (h : At y z vt vo vc tb hp a b k N L Rm g f x An fb i tk c top fil) (ho : F 0 i = nI 4) : ∃ (p v T m nd : Nat) (ds os : List Nat) (o : Nat) (pa ro : Int32), F 1 i = nI p ∧ plF F c top (fb f + vo g v) p v T m nd ds os o pa ro ∧ ∀ c2 : Nat → Int, (∀ k : Nat, k < top → c2 k = c k) → c2 top = (rA c (fb f + vo g v) os o : Int) → At y z vt vo vc tb hp a b k N L Rm g f x An fb (i + 1) tk c2 (top + 1) fil := by
  obtain ⟨s, R, hs, ha, hb, hN, hR, hk⟩ := h
  obtain ⟨p, T, bb, m9, mu, g1, ⟨v, nd, pa, ro, hpl⟩, k5, k6, g2, g3, g4, g5⟩ := ce_op E.2.1 ha hb hs ho (by decide)
  have hv4 : v < 40 := hpl.2.1
  have hvS := E.1.2.2.2.2.2.2 i 4 p v s hR hs ho (Or.inr (Or.inr (Or.inl rfl))) g1 hpl.1.1 hpl.2.2.2.2.1 hv4
  obtain ⟨T0, ds, os, o, hvn, q1, q2, q3, q4, q5, q6, q7⟩ := sg_pl E hpl
  obtain ⟨e1, e2⟩ := E.2.2.2.2.2.2.2.1 i 4 _ ha hb hs ho (by decide) hN hR
  obtain ⟨hlk, hck⟩ := e1.2.2.2.2.2.1 rfl
  obtain ⟨hU, hck, hnew, hrf⟩ := hck p v bb g1 hpl.1.1 hpl.2.2.2.2.1 hv4 g2 g3
  have hU : (y.1 (vt g v) = 5 ∨ y.1 (vt g v) = 6) → N.2.1 i v := fun q => hU ((sg_rf E hvn q1 q2 q3).mpr q)
  obtain ⟨xx, hx, hx0⟩ := e2.2.2.1 (Or.inr (Or.inr rfl)) p v g1 hpl.1.1 hpl.2.2.2.2.1 hv4
  have hmk := e2.2.1 (by omega)
  have hRm := e2.1 (by omega)
  have hj := E.2.2.2.2.2.2.2.2.2.2.2.1.2 (i + 1) hRm
  obtain ⟨et, ew⟩ := At_s hk
  have h30 : yt ≤ 3040 := E.1.1.1.2.1
  obtain ⟨c1, c2', c3, c4⟩ := E.2.2.2.2.2.2.2.2.2.2.1 i p v bb s ha hb hs ho g1 hpl.1.1 hpl.2.2.2.2.1 hv4 g2 g3
  rcases q7 with ⟨w1, w2, w3, w4, w5, w6⟩ | ⟨rfl, rfl, rfl, rfl, w5, w6⟩
  · obtain ⟨fu, hal, hpf⟩ := sg_rd E hy hk htop hpl hvS q2 q3 q4 q5 w1 w2 w3 w4 w5 hU hx hx0
    have kk := (sg_k E q2).2.2
    have cT0 : cN (F 15 v) = T0 := by rw [q1, cN_nI (by have := q2.2; omega)]
    have hrv : (tb g).2.2.2.2 v ↔ (y.1 (vt g v) = 5 ∨ y.1 (vt g v) = 6) := by
      rw [E.2.2.2.2.2.2.2.2.2.1 v hvn, cT0, q3]; exact kk.1.symm
    have hr15 : (y.1 (vt g v) = 5 ∨ y.1 (vt g v) = 6) → rfB (F 20) (F 15 v) := fun q => by
      rw [q3] at q
      exact (rf_eq q1 (by have := q2.2; omega)).mpr (kk.1.mp q)
    have main : ∀ kq : Nat, (kq = 1 ∧ F 3 i = 0) ∨ (kq = 2 ∧ F 3 i = 1 ∧ mu ≠ 0) → k (i + 1) = some ((kq, T, m9) :: s) → ∀ c2 : Nat → Int, (∀ k : Nat, k < top → c2 k = c k) → c2 top = (rA c (fb f + vo g v) os o : Int) → At y z vt vo vc tb hp a b k N L Rm g f x An fb (i + 1) tk c2 (top + 1) fil := fun kq hkq h1 c2 hc hct => by
      have hv := E.2.2.1 (i + 1) _ hj.1 hj.2 h1
      have n1 : kNm (kq, T, m9) := by
        rcases hkq with ⟨rfl, -⟩ | ⟨rfl, -⟩ <;> (unfold kNm; simp)
      obtain ⟨aa, q⟩ := kS_bor (c2 := c2) (k := kq) (m := m9) (t := if kq = 1 then 10000 + 2 * T else 10001 + 2 * T) (l0 := bb) (al2 := fun u => u < 40 ∧ N.2.1 (i + 1) u ∧ ¬ L (i + 1) u []) (hd := N.1 (i + 1) (40 + wl s)) (v := v) (T := T) (ρ := ds.map stO) (os := os) (o := o) hy hk (by rw [kUx_eq]; rfl) (by rw [kUx_eq]; exact wl_nx n1 hv) (by rw [kUx_eq]; exact no56 (vl_no (vl_1 hv n1))) (by omega) (by
        rcases hkq with ⟨rfl, -⟩ | ⟨rfl, -⟩
        · exact Or.inl ⟨rfl, rfl⟩
        · exact Or.inr ⟨rfl, rfl⟩) hv4 (by rw [kUx_eq]; exact hvS) (by rw [kUx_eq]; exact w1) (by rw [kUx_eq]; exact fu) (by rw [kUx_eq]; exact hal) htop (by rw [kUx_eq]; exact fun u q => kpA E.2.2.2.2.2.2.2.2.1 hlk hmk u (fun q => q) q) (by
        rw [kUx_eq]
        show lCk (tb g) (N.1 i) (fun u => (u < 40 ∧ (u < 40 ∧ N.2.1 (i + 1) u ∧ ¬ L (i + 1) u [])) ∨ (40 ≤ u ∧ u < 40 + wl s)) v (ds.map stO) (kq = 1)
        rw [← q6]
        intro u l a1 a2 a3 a4 a5
        have := hck u l (a1.imp (fun z => ⟨z.1, z.2.2.1⟩) id) a2 a3 a4 a5
        refine ⟨?_, this.2⟩
        rcases hkq with ⟨z9, -⟩ | ⟨-, z9, -⟩
        · exact z9
        · exact absurd z9 this.1) hnew (by rw [kUx_eq]; exact c1) (by rw [kUx_eq]; exact c2') (by rw [kUx_eq]; exact c3.trans q6) (fun hk2 => by
        rw [kUx_eq]
        rcases hkq with ⟨z9, -⟩ | ⟨-, z9, -⟩
        · omega
        · exact c4 z9) (by rw [kUx_eq]; exact hrv) (by
        rw [kUx_eq]
        exact fun q l hh => hrf (hr15 q) l hh) (fun hk2 => by
        rw [kUx_eq]
        intro q
        rcases hkq with ⟨z9, -⟩ | ⟨-, -, z9⟩
        · omega
        · show y.1 (vt g v) = 6
          have q : y.1 (vt g v) = 5 ∨ y.1 (vt g v) = 6 := q
          rw [q3] at q ⊢
          exact kk.2 (w6 (kk.1.mp q) z9)) hc (by rw [kUx_eq]; exact hct)
      rw [kUx_eq, kUx2] at q
      exact At_mk E h1 hRm hlk.1 (st_finR q n1 hv E.2.2.2.2.2.2.2.2.1 hlk hmk (fun l hh => hh))
    refine ⟨p, v, T, z.1 T, nd, ds, os, o, pa, ro, g1, hpf, ?_⟩
    rcases g5 with ⟨g5, g6⟩ | ⟨g5, g6, g7⟩
    · exact main 1 (Or.inl ⟨rfl, g5⟩) g6
    · exact main 2 (Or.inr ⟨rfl, g5, g6⟩) g7
  · exact absurd w5 (by rintro (z9 | z9); exact k5 z9; exact k6 z9)
end
end
-- f3.q7.lean.txt
section
theorem rtF_nil {y : qY} {z : qZ} : ∀ {ρ : lLc} {T o : Nat}, qMs ρ → (rtU y z T o ρ).1 = [] → qM ρ
  | [], _, _, _, _ => qM_nil
  | (q, j) :: ρ, T, o, h, he => by
    obtain ⟨h1, h2⟩ := qMs_cons.mp h
    rcases h1 with e | e
    · have e : q = 0 := e
      subst e
      exact qM_cons.mpr ⟨rfl, rtF_nil h2 he⟩
    · have e : q = 1 := e
      subst e
      have he : o :: (rtU y z (y.2.1 T) 0 ρ).1 = [] := he
      simp at he
theorem rtF_sn {y : qY} {z : qZ} : ∀ {ρ : lLc} {T o : Nat}, qMs ρ → (rtU y z T o (ρ ++ [(1, 0)])).1.length = (rtU y z T o ρ).1.length + 1
  | [], _, _, _ => rfl
  | (q, j) :: ρ, T, o, h => by
    obtain ⟨h1, h2⟩ := qMs_cons.mp h
    rcases h1 with e | e
    · have e : q = 0 := e
      subst e
      exact rtF_sn (ρ := ρ) h2
    · have e : q = 1 := e
      subst e
      show ((rtU y z (y.2.1 T) 0 (ρ ++ [(1, 0)])).1.length + 1) = (rtU y z (y.2.1 T) 0 ρ).1.length + 1 + 1
      rw [rtF_sn (ρ := ρ) h2]
theorem pW_15 {ds os : List Nat} {o n : Nat} {pa ro : Int32} (h : pW ds os o n pa ro) (hn : n ≤ 4) : ro &&& 15 = nI os.length := by
  obtain ⟨h1, h2, h3, h4, h5, h6, h7⟩ := h
  rw [h4, nI_and15]; congr 1; omega
theorem pW_last {ds os : List Nat} {o n d : Nat} {pa ro : Int32} (h : pW ds os o n pa ro) (hn : n ≤ 4) (h0 : 0 < n) (hd : pa >>> (nI ((n - 1) * 4) &&& 31) = nI d) (hd2 : d < 16) : ∃ ds0 : List Nat, ds = ds0 ++ [d] := by
  obtain ⟨h1, h2, h3, h4, h5, h6, h7⟩ := h
  rcases List.eq_nil_or_concat ds with e | ⟨l, b, e⟩
  · rw [e] at h1; simp at h1; omega
  · rw [List.concat_eq_append] at e
    refine ⟨l, ?_⟩
    rw [e]
    have hl : l.length = n - 1 := by
      rw [e, List.length_append] at h1; simp at h1; omega
    have hb : b < 16 := by have := h2 b (by rw [e]; simp); omega
    have hlt := dgP_lt (ds := l) (fun x hx => by have := h2 x (by rw [e]; exact List.mem_append_left _ hx); omega)
    rw [hl, pow16] at hlt
    have p4 : 2 ^ ((n - 1) * 4) ≤ 2 ^ 12 := Nat.pow_le_pow_right (by decide) (by omega)
    have p0 : 0 < 2 ^ ((n - 1) * 4) := Nat.two_pow_pos _
    have ed : dgP ds = dgP l + b * 2 ^ ((n - 1) * 4) := by rw [e, dgP_app, hl, pow16]
    have hb2 : b * 2 ^ ((n - 1) * 4) ≤ 15 * 2 ^ 12 := Nat.mul_le_mul (by omega) p4
    rw [h3, nI_shr (by rw [ed]; omega) (by omega)] at hd
    have ev : dgP ds / 2 ^ ((n - 1) * 4) = b := by
      rw [ed, Nat.add_mul_div_right _ _ p0, Nat.div_eq_of_lt hlt, Nat.zero_add]
    rw [ev] at hd
    rw [(nI_eq (by omega) (by omega)).mp hd]
section
variable {y : qY} {z : qZ} {vt vo : Nat → Nat → Nat} {vc : Nat → Nat} {tb : Nat → lTb} {hp : Nat} {tk tk2 : Nat → Prop} {c c2 : Nat → Int} {f g i j : Nat} {x : Nat → kFm} {An : Nat → lLc → Nat → Prop} {fb : Nat → Nat} {top top2 : Nat} {fil fil2 : Nat → Nat → Nat → Prop} {N : lK} {L : Nat → Nat → lLc → Prop} {Rm : Nat → Prop} {F X : tF} {G : Nat → Nat → Nat} {rs a b n yp yt : Nat} {k : Nat → Option (List tE)} {rl : Nat → Int32} {pl : Nat → Nat → Int32} {me : Int32} {s s2 : List tE} {R R2 : Nat → Option lLc}
/-- a token on top is told as a number -/
theorem st_tr (E : sgE y z F X G rs a b n yp yt k N L Rm (tb g) rl pl me (vt g)) {T : Nat} {r : List tE} {H2 : Nat → Nat → Prop} {al2 : Nat → Prop} {lo2 : Nat → lLc → Prop} (h5 : F 20 T ≠ 5) (h6 : F 20 T ≠ 6) (h : kS y z vt vo vc tb hp tk c f (kUx x f (g, (0, T, 0) :: r, 0, R, H2, al2, lo2, An)) fb top fil) : kS y z vt vo vc tb hp tk c f (kUx x f (g, tNf F T :: r, 0, R, H2, al2, lo2, An)) fb top fil := by
  by_cases h3 : T = 3
  · subst h3
    obtain ⟨y0, y1, y2, y3, z1, z2, z3⟩ := sg_p E
    obtain ⟨rt, ra, V, hJ, hL⟩ := h
    have k0 : y.1 1 ≠ 2 ∧ y.1 1 ≠ 3 ∧ y.1 1 ≠ 4 ∧ y.1 1 ≠ 5 ∧ y.1 1 ≠ 6 := by rw [y1]; decide
    have e0 : (kUx x f (g, (0, 3, 0) :: r, 0, R, H2, al2, lo2, An) f).2.1 = [] ++ (0, 3, 0) :: r := by rw [kUx_eq]; rfl
    have j := kJ_rty hJ e0 k0 (by decide)
    have l := kL_rty hJ hL e0 k0 (by decide) (by decide) (by rw [y3]; decide) (by rw [z1, z3])
    rw [kUx_eq, kUx2] at j l
    rw [tNf_3]
    exact ⟨_, _, _, j, l⟩
  · rw [tNf_u h3 h5 h6]
    exact h
/-- MOVE -/
theorem s_mov (E : sgE y z F X G rs a b n yp yt k N L Rm (tb g) rl pl me (vt g)) (hy : kYs y z vt vo vc) (htop : top < 2 ^ 31) (h : At y z vt vo vc tb hp a b k N L Rm g f x An fb i tk c top fil) (ho : F 0 i = nI 3) : ∃ (p v T m nd : Nat) (ds os : List Nat) (o : Nat) (pa ro : Int32), F 1 i = nI p ∧ plF F c top (fb f + vo g v) p v T m nd ds os o pa ro ∧ (os ≠ [] → rA c (fb f + vo g v) os o + m ≤ hp) ∧ ∀ (tk2 : Nat → Prop) (c2 : Nat → Int) (fil2 : Nat → Nat → Nat → Prop), (∀ k : Nat, tk k → (os ≠ [] → ¬ (rA c (fb f + vo g v) os o ≤ k ∧ k < rA c (fb f + vo g v) os o + m)) → tk2 k) → (∀ q : Nat, q < m → c2 (top + q) = c (rA c (fb f + vo g v) os o + q)) → (∀ k : Nat, ¬ (top ≤ k ∧ k < top + m) → c2 k = c k) → (∀ j w : Nat, (j, w) ≠ (f, v) → fil2 j w = fil j w) → (∀ q : Nat, fil2 f v q → fil f v q ∧ (q < 16 → ibit (F 12 p) q = false)) → At y z vt vo vc tb hp a b k N L Rm g f x An fb (i + 1) tk2 c2 (top + m) fil2 := by
  obtain ⟨s, R, hs, ha, hb, hN, hR, hk⟩ := h
  obtain ⟨p, T, g1, ⟨v, nd, pa, ro, mu, hpl, hst⟩, gk0, gk5, h1⟩ := ce_op E.2.1 ha hb hs ho (by decide)
  have hv4 : v < 40 := hpl.2.1
  have hvS := E.1.2.2.2.2.2.2 i 3 p v s hR hs ho (Or.inr (Or.inl rfl)) g1 hpl.1.1 hpl.2.2.2.2.1 hv4
  obtain ⟨T0, ds, os, o, hvn, q1, q2, q3, q4, q5, q6, q7⟩ := sg_pl E hpl
  obtain ⟨e1, e2⟩ := E.2.2.2.2.2.2.2.1 i 3 _ ha hb hs ho (by decide) hN hR
  obtain ⟨hlk, hck⟩ := e1.2.2.2.2.1 (Or.inr rfl)
  obtain ⟨hU, hck, hrf⟩ := hck p v g1 hpl.1.1 hpl.2.2.2.2.1 hv4
  have hU : (y.1 (vt g v) = 5 ∨ y.1 (vt g v) = 6) → N.2.1 i v := fun q => hU ((sg_rf E hvn q1 q2 q3).mpr q)
  obtain ⟨xx, hx, hx0⟩ := e2.2.2.1 (Or.inr (Or.inl rfl)) p v g1 hpl.1.1 hpl.2.2.2.2.1 hv4
  obtain ⟨hmk, xa, xb, hxa, hxb, hab, hcb⟩ := e2.2.2.2.1 rfl p v g1 hpl.1.1 hpl.2.2.2.2.1 hvn
  have hRm := e2.1 (by omega)
  have hj := E.2.2.2.2.2.2.2.2.2.2.2.1.2 (i + 1) hRm
  have hv := E.2.2.1 (i + 1) _ hj.1 hj.2 h1
  obtain ⟨et, ew⟩ := At_s hk
  have h16 := sg_16 E
  have Lup : ∀ (w : Nat) (π : lLc), L i w π → L (i + 1) w π := fun w π q => by
    by_cases c0 : w = v
    · subst c0
      refine hxb π ((hxa π q).imp id (fun q9 g9 => ?_))
      obtain ⟨cc, c1, c2, c3⟩ := q9 g9
      exact ⟨cc, c1, c2, hab cc c1 c3⟩
    · rcases Nat.lt_or_ge w n with g9 | g9
      · exact hmk w π g9 c0 q
      · exact E.2.2.2.2.2.2.2.2.1 (i + 1) w π g9
  have Aup : ∀ u : Nat, (u < 40 ∧ N.2.1 (i + 1) u ∧ ¬ L (i + 1) u []) → (u < 40 ∧ N.2.1 i u ∧ ¬ L i u []) := fun u q => ⟨q.1, hlk.2.2 u q.1 (fun q => q) q.2.1, fun z => q.2.2 (Lup u [] z)⟩
  have mk0 : mkp L n i (i + 1) (fun _ => False) := fun w π _ _ q => Lup w π q
  have hck2 : lCk (tb g) (N.1 i) (fun u => (u < 40 ∧ (u < 40 ∧ N.2.1 (i + 1) u ∧ ¬ L (i + 1) u [])) ∨ (40 ≤ u ∧ u < 40 + wl s)) v (ds.map stO) False := by
    rw [← q6]
    intro u l a1 a2 a3 a4 a5
    exact absurd (hck u l (a1.imp (fun z => ⟨z.1, z.2.2.1⟩) id) a2 a3 a4 a5).1 (by decide)
  rcases q7 with ⟨w1, w2, w3, w4, w5, w6⟩ | ⟨rfl, rfl, rfl, rfl, w5, w6⟩
  · obtain ⟨fu, hal, hpf⟩ := sg_rd E hy hk htop hpl hvS q2 q3 q4 q5 w1 w2 w3 w4 w5 hU hx hx0
    have nr := tyN_nr E.1.1 w2
    have T00 : T ≠ 0 := by rcases w2 with z9 | z9 | z9 <;> omega
    have sz := sg_sz E (u := T) ⟨Or.inl w2, w3⟩
    rw [ymF_n E.1.1 w2] at sz
    have h30 : yt ≤ 3040 := E.1.1.1.2.1
    have yT56 : y.1 T ≠ 5 ∧ y.1 T ≠ 6 := by
      have : ¬ (y.1 T = 5 ∨ y.1 T = 6) := fun q => by
        rw [E.1.2.1, yF_56] at q
        omega
      exact ⟨fun q => this (Or.inl q), fun q => this (Or.inr q)⟩
    -- the place's way
    have l15 := pW_15 q5 hpl.2.2.1
    have dec : ∃ (σ : lLc) (B : Nat), qM σ ∧ qW y (vt g v) σ B ∧ ((ds.map stO = σ ∧ os = []) ∨ (ds.map stO = σ ++ [(1, 0)] ∧ os ≠ [])) ∧ qW y (vt g v) (ds.map stO) T ∧ os = (rtU y z (vt g v) 0 (ds.map stO)).1 ∧ o = (rtU y z (vt g v) 0 (ds.map stO)).2 := by
      have lft : y.1 (vt g v) ≠ 5 ∧ y.1 (vt g v) ≠ 6 ∧ qW y (vt g v) (ds.map stO) T ∧ qMs (ds.map stO) ∧ os = (rtU y z (vt g v) 0 (ds.map stO)).1 ∧ o = (rtU y z (vt g v) 0 (ds.map stO)).2 := by
        rcases w1 with w1 | ⟨h56, ρ2, er, a1, a2, a3, a4⟩
        · exact w1
        · exfalso
          rcases hst with hs0 | ⟨hs1, -, -, hn⟩
          · rw [l15, a3] at hs0
            have := (nI_eq (a := (0 :: (rtU y z (y.2.1 (vt g v)) 0 ρ2).1).length) (b := 0) (by
              rw [← a3]; have := q5.2.2.2.2.1; have := hpl.2.2.1; omega) (by decide)).mp hs0
            simp at this
          · have := hn T0 (by have := q2.2; omega) q1
            rw [q3] at h56
            exact absurd ((sg_k E q2).2.2.1.mp h56) (by rintro (z9 | z9); exact this.1 z9; exact this.2 z9)
      obtain ⟨n5, n6, a1, a2, a3, a4⟩ := lft
      rcases hst with hs0 | ⟨hs1, hn0, hlast, -⟩
      · rw [l15] at hs0
        have hl0 := (nI_eq (a := os.length) (b := 0) (by have := q5.2.2.2.2.1; have := hpl.2.2.1; omega) (by decide)).mp hs0
        have os0 : os = [] := List.eq_nil_of_length_eq_zero hl0
        have hm := rtF_nil a2 (a3.symm.trans os0)
        exact ⟨ds.map stO, T, hm, a1, Or.inl ⟨rfl, os0⟩, a1, a3, a4⟩
      · rw [l15] at hs1
        have hl1 := (nI_eq (a := os.length) (b := 1) (by have := q5.2.2.2.2.1; have := hpl.2.2.1; omega) (by decide)).mp hs1
        obtain ⟨ds0, rfl⟩ := pW_last q5 hpl.2.2.1 hn0 (d := 13) hlast (by decide)
        have em : (ds0 ++ [13]).map stO = ds0.map stO ++ [(1, 0)] := by rw [List.map_append]; rfl
        rw [em] at a1 a3 a4 ⊢
        obtain ⟨B, b1, b2⟩ := qW_cut a1
        have ln := rtF_sn (y := y) (z := z) (T := vt g v) (o := 0) (ρ := ds0.map stO) stO_ms
        rw [← a3, hl1] at ln
        have hm := rtF_nil (y := y) (z := z) (T := vt g v) (o := 0) (ρ := ds0.map stO) stO_ms (List.eq_nil_of_length_eq_zero (by omega))
        exact ⟨ds0.map stO, B, hm, b1, Or.inr ⟨rfl, fun e => by rw [e] at hl1; simp at hl1⟩, a1, a3, a4⟩
    obtain ⟨σ, B, d1, d2, d3, d4, d5, d6⟩ := dec
    -- the bits of its cells
    have cells : ∀ cc : Nat, inW y z (vt g v) σ cc → ibit (F 12 p) cc = true := fun cc hin => by
      have c16 := inW_16 hy.1 (h16 _) d1 hin
      obtain ⟨B2, b1, b2, b3⟩ := hin
      obtain rfl := qW_det d2 b1
      rw [w5, pc_bit q5 hpl.2.2.1 w4 (by omega)]
      rcases d3 with ⟨e9, os0⟩ | ⟨e9, os0⟩
      · obtain ⟨f1, f2⟩ := rtF_M (z := z) (o := 0) d1 d2
        rw [e9] at d4 d6
        obtain rfl := qW_det d2 d4
        rw [f2] at d6
        rw [if_pos os0, decide_eq_true (by omega), decide_eq_true (by omega)]; rfl
      · obtain ⟨l, f1⟩ := rtF_st (z := z) (ρ1 := []) (o := 0) (j := 0) d1 d2
        rw [e9] at d4 d5
        rw [f1] at d5
        obtain ⟨B3, v1, v2⟩ := qW_cut d4
        obtain rfl := qW_det d2 v1
        rw [sg_z4 E B (Or.inl v2.2.1)] at b3
        rw [if_neg os0, d5]
        show decide (cc = 0 + qA y z (fun _ => 0) (vt g v) 0 σ) = true
        exact decide_eq_true (by omega)
    refine ⟨p, v, T, z.1 T, nd, ds, os, o, pa, ro, g1, hpf, fun hos => ?_, fun tk2 c2 fil2 ht hc1 hc2 hf1 hf2 => ?_⟩
    · rcases d3 with ⟨-, os0⟩ | ⟨e9, -⟩
      · exact absurd os0 hos
      · obtain ⟨rt, ra, V, hJ, hL⟩ := hk
        obtain ⟨F1, F2⟩ := pl_A hJ hv4 (by rw [kUx_eq]; exact hvS) (by rw [kUx_eq]; exact d4) stO_ms (by rw [kUx_eq]; exact fu)
        rw [kUx_eq] at F2
        have F2 : rt (f, v) = vt g v := F2
        have hra := hL.2.2.2.1 f (Nat.le_refl f) v hv4 (by rw [kUx_eq]; exact hvS)
        rw [kUx_eq] at hra
        have hra : ra (f, v) = fb f + vo g v := hra
        have eA : qA y z c (rt (f, v)) (ra (f, v)) (ds.map stO) = rA c (fb f + vo g v) os o := by
          rw [F2, hra, d5, d6]; exact rtF_A (o := 0)
        rw [← eA, e9]
        rw [e9] at F1 d4
        exact qEndH hy.1 hL.1 (π1 := σ) (π2 := []) (j := 0) (by rw [F2]; exact d4) qN_nil (qF_pl F1)
    · have q := kS_mv (tk2 := tk2) (c2 := c2) (fil2 := fil2) (v := v) (T := T) (ρ := ds.map stO) (σ := σ) (B := B) (os := os) (o := o) (al2 := fun u => u < 40 ∧ N.2.1 (i + 1) u ∧ ¬ L (i + 1) u []) (lo2 := L (i + 1)) hy hk (by rw [kUx_eq]; rfl) (by rw [kUx_eq]; exact wl_nx (nm_t) hv) (by rw [kUx_eq]; exact no56 (vl_no (vl_1 hv nm_t))) T00 yT56.1 yT56.2 hv4 (by rw [kUx_eq]; exact hvS) (by rw [kUx_eq]; exact d4) d1 (by rw [kUx_eq]; exact d2) (by
        rw [kUx_eq]
        rcases d3 with ⟨e9, os0⟩ | ⟨e9, os0⟩
        · exact Or.inl ⟨e9, fun k hk9 => ht k hk9 (fun q => absurd os0 q)⟩
        · exact Or.inr ⟨e9, fun k hk9 hn => ht k hk9 (fun _ => hn)⟩) (by rw [kUx_eq]; exact ⟨d5, d6⟩) (by rw [kUx_eq]; exact fu) (by rw [kUx_eq]; exact Aup) (by
        rw [kUx_eq]
        intro w π hn
        refine ⟨fun q => hn (Lup w π q), fun e9 => ?_⟩
        subst e9
        exact (mv_lo hy.1 (h16 _) d1 d2 hab (fun cc hc16 hin => hcb cc hc16 (cells cc hin)) (fun q => hn (hxb π q))).2) (by rw [kUx_eq]; exact hck2) (by rw [kUx_eq]; exact hc1) hc2 hf1 (by
        rw [kUx_eq]
        intro q hq
        obtain ⟨a1, a2⟩ := hf2 q hq
        refine ⟨a1, fun a3 => ?_⟩
        have hin : inW y z (vt g v) σ q := ⟨B, d2, a3.1, a3.2⟩
        have := a2 (inW_16 hy.1 (h16 _) d1 hin)
        rw [cells q hin] at this
        exact absurd this (by decide))
      rw [kUx_eq, kUx2] at q
      have q : kS y z vt vo vc tb hp tk2 c2 f (kUx x f (g, (0, T, 0) :: s, 0, lUp R (40 + wl s) none, N.1 i, (fun u => u < 40 ∧ N.2.1 (i + 1) u ∧ ¬ L (i + 1) u []), L (i + 1), An)) fb (top + z.1 T) fil2 := q
      have q := st_tr E nr.1 nr.2 q
      have q3 : kS y z vt vo vc tb hp tk2 c2 f (kUx x f (Fr N L g (i + 1) (tNf F T :: s) (lUp R (40 + wl s) none) An)) fb (top + z.1 T) fil2 := by
        refine fin q (fun u w l hu hr hh => ?_) (fun u q => q) (fun v π q => q)
        rcases hu with hu | hu | ⟨rfl, r, m, hu⟩
        · exact hlk.2.1 u l (fun q => q) (Or.inl hu.1) hh
        · rw [wl_t] at hu
          by_cases e9 : u = 40 + wl s
          · rw [e9, lUp_eq] at hr; simp at hr
          · exact hlk.2.1 u l (fun q => q) (Or.inr ⟨hu.1, by omega⟩) hh
        · exfalso
          have n5 := no56 (vl_no (vl_1 hv nm_t)) r m
          have n0 : ¬ ((tNf F T).1 = 8 ∨ (tNf F T).1 = 4 ∨ (tNf F T).1 = 5 ∨ (tNf F T).1 = 6) := nm_t
          rcases hu with hu | hu
          · rcases List.mem_cons.mp hu with q | q
            · exact n0 (Or.inr (Or.inr (Or.inl (by rw [← q]))))
            · exact n5.1 q
          · rcases List.mem_cons.mp hu with q | q
            · exact n0 (Or.inr (Or.inr (Or.inr (by rw [← q]))))
            · exact n5.2 q
      exact At_mk E h1 hRm hlk.1 q3
  · have k6 : F 20 T = 6 := w5.resolve_left gk5
    obtain ⟨U, u1, u2, u3, u4, u5, u6⟩ := (sg_k E q2).2.1 k6
    have zv : z.1 (vt g v) = 1 := sg_z4 E _ (Or.inr (by rw [q3]; exact (sg_k E q2).2.2.1.mpr w5))
    have nlo : ¬ L i v [] := fun q => fu_ref zv q4 q5 hpl.2.2.1 (by rw [← w6]; exact hx0) (hx [] q)
    have hU := hU (by rw [q3]; exact (sg_k E q2).2.2.1.mpr w5)
    rw [u6] at h1 hv
    have n1 : kNm (2, U, 0) := by unfold kNm; simp
    have sz := sg_sz E q2
    rw [← q3, zv] at sz
    have lt : fb f + vo g v < top := by
      obtain ⟨rt, ra, V, hJ, hL⟩ := hk
      obtain ⟨d, π, w, -, -, -, -, b5, -⟩ := pl_B hJ hL hv4 (by rw [kUx_eq]; exact hvS) (by rw [kUx_eq]; exact ⟨hv4, hU, nlo⟩) (by rw [kUx_eq]; show y.1 (vt g v) = 5 ∨ y.1 (vt g v) = 6; rw [q3]; exact (sg_k E q2).2.2.1.mpr w5) (by rw [kUx_eq]; exact nlo)
      have b6 := kLt hy hJ hL b5
      have b7 := hL.2.2.2.1 f (Nat.le_refl f) v hv4 (by rw [kUx_eq]; exact hvS)
      rw [kUx_eq] at b7
      have b6 : ra (f, v) < top := b6
      rw [b7] at b6
      exact b6
    have b0 : ibit (F 12 p) 0 = true := by
      rw [w6, pc_bit q5 hpl.2.2.1 (by omega) (by decide), if_pos rfl, decide_eq_true (by omega), decide_eq_true (by omega)]; rfl
    have lost : ∀ π : lLc, L (i + 1) v π := fun π => hxb π (no_lo hy.1 (h16 _) (Or.inr (fun cc hcc => by
      rw [zv] at hcc
      obtain rfl : cc = 0 := by omega
      exact hcb 0 (by decide) b0)) π)
    refine ⟨p, v, T, 1, nd, [], [], 0, pa, ro, g1, ⟨rfl, hpl.1.1, hpl.2.2.2.2.1, hv4, hpl.2.2.2.2.2.2.2.1, hpl.2.2.2.2.2.2.2.2.1, hpl.2.2.2.1, sz.1, by decide, by decide, q5, hpl.2.2.1, trivial, lt⟩, fun q => absurd rfl q, fun tk2 c2 fil2 ht hc1 hc2 hf1 hf2 => ?_⟩
    obtain ⟨aa, q⟩ := kS_mvR (c2 := c2) (fil2 := fil2) (m := 0) (v := v) (al2 := fun u => u < 40 ∧ N.2.1 (i + 1) u ∧ ¬ L (i + 1) u []) (lo2 := L (i + 1)) hy hk (by rw [kUx_eq]; rfl) (by rw [kUx_eq]; exact wl_nx n1 hv) (by rw [kUx_eq]; exact no56 (vl_no (vl_1 hv n1))) u2 hv4 (by rw [kUx_eq]; exact hvS) (by rw [kUx_eq]; show vt g v = _; rw [q3]; exact u5) (by rw [kUx_eq]; exact ⟨hv4, hU, nlo⟩) (by rw [kUx_eq]; exact nlo) (by
      rw [kUx_eq]
      exact fun u q => ⟨Aup u q, fun e9 => q.2.2 (by rw [e9]; exact lost [])⟩) (by
      rw [kUx_eq]
      intro w π hn
      exact ⟨fun q => hn (Lup w π q), fun e9 => absurd (by rw [e9]; exact lost π) hn⟩) (by rw [kUx_eq]; exact hck2) (fun k hk9 => hc2 k (by omega)) (by
      rw [kUx_eq]
      exact hc1 0 (by decide)) hf1 (fun q hq => by
      obtain ⟨a1, a2⟩ := hf2 q hq
      refine ⟨a1, fun e9 => ?_⟩
      subst e9
      have := a2 (by decide)
      rw [b0] at this
      exact absurd this (by decide))
    rw [kUx_eq, kUx2] at q
    have q : kS y z vt vo vc tb hp tk c2 f (kUx x f (g, (2, U, 0) :: s, 0, lUp (lUp R v none) (40 + wl s) (some aa), lUp (N.1 i) (40 + wl s) (N.1 i v), (fun u => u < 40 ∧ N.2.1 (i + 1) u ∧ ¬ L (i + 1) u []), L (i + 1), An)) fb (top + 1) fil2 := q
    have r10 : rfB (F 20) (F 10 p) := (rf_eq hpl.2.2.2.2.2.2.2.2.1 hpl.2.2.2.1).mpr w5
    have q3 : kS y z vt vo vc tb hp tk c2 f (kUx x f (Fr N L g (i + 1) ((2, U, 0) :: s) (lUp (lUp R v none) (40 + wl s) (some aa)) An)) fb (top + 1) fil2 := by
      refine fin q (fun u w l hu hr hh => ?_) (fun u q => q) (fun v π q => q)
      rcases hu with hu | hu | ⟨rfl, r, m, hu⟩
      · rw [lUp_ne (by omega)] at hh
        exact hlk.2.1 u l (fun q => q) (Or.inl hu.1) hh
      · rw [wl_n n1] at hu
        by_cases e9 : u = 40 + wl s
        · rw [e9, lUp_eq] at hh
          rw [e9]; exact hrf r10 l hh
        · rw [lUp_ne e9] at hh
          exact hlk.2.1 u l (fun q => q) (Or.inr ⟨hu.1, by omega⟩) hh
      · exfalso
        have n5 := no56 (vl_no (vl_1 hv n1)) r m
        rcases hu with hu | hu
        · rcases List.mem_cons.mp hu with q | q
          · injection q with q; exact absurd q (by decide)
          · exact n5.1 q
        · rcases List.mem_cons.mp hu with q | q
          · injection q with q; exact absurd q (by decide)
          · exact n5.2 q
    obtain ⟨rt9, ra9, V9, hJ9, hL9⟩ := q3
    refine At_mk E h1 hRm hlk.1 ⟨rt9, ra9, V9, hJ9, ?_⟩
    obtain ⟨l0, lr⟩ := hL9
    refine ⟨qMm_subT l0 l0.1 (fun _ _ _ q => q) (fun r π t gg bb hv9 k4 hb9 k g9 g8 => ?_), lr⟩
    obtain ⟨b9, b1, b2, b3⟩ := (l0.2.1 r π t gg hv9).2 k4
    rw [hb9] at b1
    have b1 : bb = b9 := by omega
    subst b1
    exact ht k (b3 k g9 g8) (fun q => absurd rfl q)
end
end
-- f3.q8.lean.txt
section
/-- a part's place is no negative number -/
theorem x3_any {F X : tF} {yp yt sh g : Nat} (hh : tbO F X yp yt) (hsh : sh < yp) (hg : g < cN (X 0 sh)) : ∀ j : Nat, j < cN (X 1 (sh * 12 + g)) → X 3 ((sh * 12 + g) * 12 + j) = nI (cN (X 3 ((sh * 12 + g) * 12 + j))) := by
  obtain ⟨hty, hsq, hsz, hms⟩ := hh
  obtain ⟨z, z1, z2, z3⟩ := hsz sh hsh
  have h34 : 34 ≤ yt := hty.1
  have hyp : yp ≤ 30 := hty.2.2.1
  have hzz : (zF F X yt).1 (4 + sh) = z := by
    show (if 4 + sh < yt then max 1 (min 16 (cN (F 22 (4 + sh)))) else 1) = z
    rw [if_pos (by omega), z1, cN_nI (by omega)]; omega
  obtain ⟨mo, m1, m2, m3⟩ := (hms sh hsh).resolve_left (fun e => by
    rw [z1] at e
    have : z = 0 := (nI_eq (a := z) (b := 0) (by omega) (by decide)).mp e
    omega)
  obtain rfl : mo = z := (nI_eq (a := mo) (b := z) (by omega) (by omega)).mp (m2.symm.trans z1)
  obtain ⟨n, n1, n2, n3, n4, n5⟩ := hsq sh hsh
  have hcn : cN (X 0 sh) = n := by rw [n1, cN_nI (by omega)]
  rw [hcn] at hg
  obtain ⟨pm, p1, p2, p3⟩ := n5 g hg
  have hpm : cN (X 1 (sh * 12 + g)) = pm := by rw [p1, cN_nI (by omega)]
  rw [hpm]
  have hhd : (if F 20 (4 + sh) = 3 then 1 else 0) ≤ 17 := by split <;> omega
  obtain ⟨q1, q2⟩ := m3 g (show g < pcR (X 0) sh from by show g < cN (X 0 sh); rw [hcn]; exact hg)
  rw [show pcR (X 1) (sh * 12 + g) = pm from hpm] at q1 q2
  intro j hj
  obtain ⟨w1, w2⟩ := q2 j hj
  have hl0 : lyP (if F 20 (4 + sh) = 3 then 1 else 0) (sh * 12 + g) (F 22) (X 2) j ≤ 17 := (lyP_1 hhd j).1
  rw [w1, cN_nI (by omega)]
section
variable {y : qY} {z : qZ} {vt vo : Nat → Nat → Nat} {vc : Nat → Nat} {tb : Nat → lTb} {hp : Nat} {tk tk2 : Nat → Prop} {c c2 : Nat → Int} {f g i j : Nat} {x : Nat → kFm} {An : Nat → lLc → Nat → Prop} {fb : Nat → Nat} {top top2 : Nat} {fil fil2 : Nat → Nat → Nat → Prop} {N : lK} {L : Nat → Nat → lLc → Prop} {Rm : Nat → Prop} {F X : tF} {G : Nat → Nat → Nat} {rs a b n yp yt : Nat} {k : Nat → Option (List tE)} {rl : Nat → Int32} {pl : Nat → Nat → Int32} {me : Int32} {s s2 : List tE} {R R2 : Nat → Option lLc}
/-- a variable's type -/
theorem sg_v (E : sgE y z F X G rs a b n yp yt k N L Rm (tb g) rl pl me (vt g)) {v T : Nat} (hv4 : v < 40) (hT : T < 3040) (h15 : F 15 v = nI T) : v < n ∧ tyV yp yt (F 20) T ∧ vt g v = ymF F T ∧ vt g v ≠ 0 := by
  obtain ⟨hvn, T0, e1, e2, e3⟩ := E.2.2.2.2.2.1 v hv4 (by rw [h15]; exact fun e => nI_pos (n := T) (by omega) (by rw [e]; decide))
  have h30 : yt ≤ 3040 := E.1.1.1.2.1
  obtain rfl : T = T0 := (nI_eq (by omega) (by have := e2.2; omega)).mp (h15.symm.trans e1)
  exact ⟨hvn, e2, e3, by rw [e3]; exact ymF_0 E.1.1 e2⟩
/-- a variable has come: told by what is known of j -/
theorem st_finV {v : Nat} {ro : Option lLc} {hd : Nat → Prop} (h : kS y z vt vo vc tb hp tk c f (kUx x f (g, s, 0, lUp R v ro, lUp (N.1 i) v hd, (fun u => u < 40 ∧ N.2.1 j u ∧ ¬ L j u []), L j, An)) fb top fil) (hv4 : v < 40) {m : Nat} (hm : wl s ≤ m) (h1 : lkp N i j m (fun u => u = v)) (h3 : ∀ l : Nat, (∃ r m : Nat, (5, r, m) ∈ s ∨ (6, r, m) ∈ s) → N.1 i 300 l → N.1 j 300 l) (hh9 : ∀ (q : lLc) (l : Nat), ro = some q → hd l → N.1 j v l) : kS y z vt vo vc tb hp tk c f (kUx x f (Fr N L g j s (lUp R v ro) An)) fb top fil := by
  refine fin h (fun u w l hu hr hh => ?_) (fun u q => q) (fun v π q => q)
  by_cases e9 : u = v
  · subst e9
    rw [lUp_eq] at hr hh
    exact hh9 w l hr hh
  · rw [lUp_ne e9] at hh
    rcases hu with hu | hu | ⟨rfl, hu⟩
    · exact h1.2.1 u l e9 (Or.inl hu.1) hh
    · exact h1.2.1 u l e9 (Or.inr ⟨hu.1, by omega⟩) hh
    · exact h3 l hu hh
theorem L_ne (E : sgE y z F X G rs a b n yp yt k N L Rm (tb g) rl pl me (vt g)) {v : Nat} (hmk : mkp L n i j (fun u => u = v)) : ∀ (w : Nat) (π : lLc), w ≠ v → ¬ L j w π → ¬ L i w π := fun w π hw hn q => hn (kpL E.2.2.2.2.2.2.2.2.1 hmk w π hw q)
/-- LET -/
theorem s_let (E : sgE y z F X G rs a b n yp yt k N L Rm (tb g) rl pl me (vt g)) (hy : kYs y z vt vo vc) (h : At y z vt vo vc tb hp a b k N L Rm g f x An fb i tk c top fil) (ho : F 0 i = nI 24) : ∃ v T m : Nat, F 1 i = nI v ∧ v < n ∧ F 15 v = nI T ∧ T < 3040 ∧ F 22 T = nI m ∧ 1 ≤ m ∧ m ≤ 16 ∧ m ≤ top ∧ fb f + vo g v + m ≤ top - m ∧ ∀ (c2 : Nat → Int) (fil2 : Nat → Nat → Nat → Prop), (∀ q : Nat, q < m → c2 (fb f + vo g v + q) = c (top - m + q)) → (∀ k : Nat, ¬ (fb f + vo g v ≤ k ∧ k < fb f + vo g v + m) → c2 k = c k) → (∀ j w : Nat, (j, w) ≠ (f, v) → fil2 j w = fil j w) → At y z vt vo vc tb hp a b k N L Rm g f x An fb (i + 1) tk c2 (top - m) fil2 := by
  obtain ⟨s, R, hs, ha, hb, hN, hR, hk⟩ := h
  obtain ⟨v, T, r, hv4, g1, g2, g3, g4, g5, rfl, h1⟩ := ce_op E.2.1 ha hb hs ho (by decide)
  obtain ⟨hvn, q2, q3, q4⟩ := sg_v E hv4 g3 g2
  obtain ⟨e1, e2⟩ := E.2.2.2.2.2.2.2.1 i 24 _ ha hb hs ho (by decide) hN hR
  obtain ⟨hlk, hnew⟩ := e1.2.2.2.2.2.2.1 rfl v g1 hv4
  have hmk := e2.2.2.2.2.1 (Or.inl rfl) v g1 hv4
  have hRm := e2.1 (by omega)
  have hv := E.2.2.1 i _ ha hb hs
  have hvr : (8, v, 0) ∉ r := fun q => g5 _ q rfl
  have hno := no56 (vl_no (vl_1 hv nm_t))
  have h3 : ∀ l : Nat, (∃ r9 m : Nat, (5, r9, m) ∈ (8, v, 0) :: r ∨ (6, r9, m) ∈ (8, v, 0) :: r) → N.1 i 300 l → N.1 (i + 1) 300 l := fun l hm => by
    obtain ⟨r9, m9, hm⟩ := hm
    have n5 := hno r9 m9
    exfalso
    rcases hm with q | q
    · rcases List.mem_cons.mp q with q | q
      · injection q with q; exact absurd q (by decide)
      · exact n5.1 q
    · rcases List.mem_cons.mp q with q | q
      · injection q with q; exact absurd q (by decide)
      · exact n5.2 q
  have sz := sg_sz E q2
  rw [← q3] at sz
  have lay := hy.2.2.1.1 g v hv4 q4
  rw [wl_t, Nat.add_sub_cancel] at hlk hnew
  have w8 : wl ((8, v, 0) :: r) ≤ wl r := by rw [wl_0 (Or.inl rfl)]; exact Nat.le_refl _
  have Aup : ∀ u : Nat, u ≠ v → (u < 40 ∧ N.2.1 (i + 1) u ∧ ¬ L (i + 1) u []) → (u < 40 ∧ N.2.1 i u ∧ ¬ L i u []) := fun u hu q => kpA E.2.2.2.2.2.2.2.2.1 hlk hmk u hu q
  by_cases hrf : F 20 T = 5 ∨ F 20 T = 6
  · have kk := sg_k E q2
    have zv : z.1 (vt g v) = 1 := sg_z4 E _ (Or.inr (by rw [q3]; exact kk.2.2.1.mpr hrf))
    have ref : ∃ kq U : Nat, U < 10000 ∧ tNf F T = (kq, U, 0) ∧ ((kq = 1 ∧ vt g v = 10000 + 2 * U) ∨ (kq = 2 ∧ vt g v = 10001 + 2 * U)) := by
      rcases hrf with h5 | h6
      · obtain ⟨U, u1, u2, u3, u4, u5, u6⟩ := kk.1 h5
        exact ⟨1, U, u2, u6, Or.inl ⟨rfl, by rw [q3]; exact u5⟩⟩
      · obtain ⟨U, u1, u2, u3, u4, u5, u6⟩ := kk.2.1 h6
        exact ⟨2, U, u2, u6, Or.inr ⟨rfl, by rw [q3]; exact u5⟩⟩
    obtain ⟨kq, U, u2, u6, ukt⟩ := ref
    rw [u6] at hk
    obtain ⟨et, ew⟩ := At_s hk
    have et : top = fb f + vc g + (khs z r + kes z (kq, U, 0)) := et
    rw [show kes z (kq, U, 0) = 1 by rcases ukt with ⟨rfl, -⟩ | ⟨rfl, -⟩ <;> rfl] at et
    rw [zv] at sz lay
    refine ⟨v, T, 1, g1, hvn, g2, g3, sz.1, by decide, by decide, by omega, by omega, fun c2 fil2 hc1 hc2 hf1 => ?_⟩
    have eA : top - 1 = fb f + vc g + khs z r := by omega
    rw [eA] at hc1 ⊢
    obtain ⟨aa, q⟩ := kS_letR (c2 := c2) (fil2 := fil2) (v := v) (al2 := fun u => u < 40 ∧ N.2.1 (i + 1) u ∧ ¬ L (i + 1) u []) (lo2 := L (i + 1)) hy hk (k := kq) (U := U) (m := 0) (S := r) (by rw [kUx_eq]; rfl) (by rw [kUx_eq]; rfl) hno u2 (by rw [kUx_eq]; exact ukt) hv4 hvr (by rw [kUx_eq]; exact Aup) (by rw [kUx_eq]; exact L_ne E hmk) (by rw [kUx_eq]; exact hc1 0 (by decide)) (by
      rw [kUx_eq]
      intro k hk9
      have hk9 : k ≠ fb f + vo g v := hk9
      exact hc2 k (by omega)) hf1
    rw [kUx_eq, kUx2] at q
    exact At_mk E h1 hRm hlk.1 (st_finV q hv4 w8 hlk h3 (fun _ l _ hh => hnew l hh))
  · have h5 : F 20 T ≠ 5 := fun q => hrf (Or.inl q)
    have h6 : F 20 T ≠ 6 := fun q => hrf (Or.inr q)
    have hk2 := st_rt E h5 h6 hk
    have eT : ymF F T = T := by unfold ymF; rw [if_neg h5, if_neg h6]
    rw [eT] at q3
    have T0 : T ≠ 0 := by rw [← q3]; exact q4
    obtain ⟨et, ew⟩ := At_s hk2
    have et : top = fb f + vc g + (khs z r + kes z (0, T, 0)) := et
    rw [show kes z (0, T, 0) = z.1 T from if_neg T0] at et
    rw [q3] at sz lay
    refine ⟨v, T, z.1 T, g1, hvn, g2, g3, sz.1, sz.2.1, sz.2.2, by omega, by omega, fun c2 fil2 hc1 hc2 hf1 => ?_⟩
    have eA : top - z.1 T = fb f + vc g + khs z r := by omega
    rw [eA] at hc1 ⊢
    have q := kS_let (c2 := c2) (fil2 := fil2) (v := v) (T := T) (al2 := fun u => u < 40 ∧ N.2.1 (i + 1) u ∧ ¬ L (i + 1) u []) (lo2 := L (i + 1)) hy hk2 (m := 0) (S := r) (by rw [kUx_eq]; rfl) (by rw [kUx_eq]; rfl) hno T0 (by rw [kUx_eq]; exact q3) hv4 hvr (by rw [kUx_eq]; exact Aup) (by rw [kUx_eq]; exact L_ne E hmk) (by rw [kUx_eq]; exact hc1) (by rw [kUx_eq]; exact hc2) hf1
    rw [kUx_eq, kUx2, ← lUp_self (g := kH (Fr N L g i ((0, T, 0) :: r) R An)) (t := v)] at q
    exact At_mk E h1 hRm hlk.1 (st_finV q hv4 w8 hlk h3 (fun _ l q _ => by simp at q))
/-- LET without a value -/
theorem s_let0 (E : sgE y z F X G rs a b n yp yt k N L Rm (tb g) rl pl me (vt g)) (hy : kYs y z vt vo vc) (h : At y z vt vo vc tb hp a b k N L Rm g f x An fb i tk c top fil) (ho : F 0 i = nI 25) : ∃ v : Nat, F 1 i = nI v ∧ v < n ∧ ∀ fil2 : Nat → Nat → Nat → Prop, (∀ j w : Nat, (j, w) ≠ (f, v) → fil2 j w = fil j w) → (∀ q : Nat, ¬ fil2 f v q) → At y z vt vo vc tb hp a b k N L Rm g f x An fb (i + 1) tk c top fil2 := by
  obtain ⟨s, R, hs, ha, hb, hN, hR, hk⟩ := h
  obtain ⟨v, hv4, g1, g2, g5, h1⟩ := ce_op E.2.1 ha hb hs ho (by decide)
  have h60 := E.2.1.2.1
  have hvn := E.2.2.2.2.2.2.1 v i hv4 (by omega) g2
  obtain ⟨e1, e2⟩ := E.2.2.2.2.2.2.2.1 i 25 _ ha hb hs ho (by decide) hN hR
  have hlk := e1.2.2.2.2.2.2.2.1 (Or.inl rfl) v g1 hv4
  have hmk := e2.2.2.2.2.1 (Or.inr (Or.inl rfl)) v g1 hv4
  have hlost := e2.2.2.2.2.2.1 rfl v g1 hvn
  have hRm := e2.1 (by omega)
  have hj := E.2.2.2.2.2.2.2.2.2.2.2.1.2 (i + 1) hRm
  have hv := E.2.2.1 (i + 1) _ hj.1 hj.2 h1
  have v0 := (E.1.2.2.2.2.2.1 i s hR hs).2 ho
  have hno := no56 (vl_no (show vl s ≤ 210 by omega))
  refine ⟨v, g1, hvn, fun fil2 hf1 hf2 => ?_⟩
  have q := kS_let0 (fil2 := fil2) (v := v) (al2 := fun u => u < 40 ∧ N.2.1 (i + 1) u ∧ ¬ L (i + 1) u []) (lo2 := L (i + 1)) hy hk (by rw [kUx_eq]; rfl) (by rw [kUx_eq]; exact hno) hv4 (by rw [kUx_eq]; exact fun q => g5 _ q rfl) (by rw [kUx_eq]; exact fun u hu q => kpA E.2.2.2.2.2.2.2.2.1 hlk hmk u hu q) (by rw [kUx_eq]; exact L_ne E hmk) (by rw [kUx_eq]; exact fun π _ _ _ => hlost π) hf1 hf2
  rw [kUx_eq, kUx2, ← lUp_self (g := kH (Fr N L g i s R An)) (t := v)] at q
  have w8 : wl ((8, v, 0) :: s) ≤ wl s := by rw [wl_0 (Or.inl rfl)]; exact Nat.le_refl _
  refine At_mk E h1 hRm hlk.1 (st_finV q hv4 w8 hlk (fun l hm => ?_) (fun _ l q _ => by simp at q))
  obtain ⟨r9, m9, hm⟩ := hm
  have n5 := hno r9 m9
  exfalso
  rcases hm with q | q
  · rcases List.mem_cons.mp q with q | q
    · injection q with q; exact absurd q (by decide)
    · exact n5.1 q
  · rcases List.mem_cons.mp q with q | q
    · injection q with q; exact absurd q (by decide)
    · exact n5.2 q
/-- the row of a matched variant -/
theorem row_d {sh gg : Nat} (h : gg < 12) : (sh * 12 + gg) / 12 = sh ∧ (sh * 12 + gg) % 12 = gg := by omega
/-- BIND -/
theorem s_bnd (E : sgE y z F X G rs a b n yp yt k N L Rm (tb g) rl pl me (vt g)) (hy : kYs y z vt vo vc) (h : At y z vt vo vc tb hp a b k N L Rm g f x An fb i tk c top fil) (ho : F 0 i = nI 29) : ∃ v T m off sz : Nat, F 1 i = nI v ∧ v < n ∧ F 15 v = nI T ∧ T < 3040 ∧ F 22 T = nI m ∧ 1 ≤ m ∧ m ≤ 16 ∧ F 2 i = nI off ∧ F 3 i = nI sz ∧ off + m ≤ sz ∧ sz ≤ 16 ∧ sz ≤ top ∧ fb f + vo g v + m ≤ top ∧ ∀ (c2 : Nat → Int) (fil2 : Nat → Nat → Nat → Prop), (∀ q : Nat, q < m → c2 (fb f + vo g v + q) = c (top - sz + off + q)) → (∀ k : Nat, ¬ (fb f + vo g v ≤ k ∧ k < fb f + vo g v + m) → c2 k = c k) → (∀ j w : Nat, (j, w) ≠ (f, v) → fil2 j w = fil j w) → At y z vt vo vc tb hp a b k N L Rm g f x An fb (i + 1) tk c2 top fil2 := by
  obtain ⟨s, R, hs, ha, hb, hN, hR, hk⟩ := h
  obtain ⟨v, sh, gg, j, n9, T, r, hv4, g1, g2, g3, g4, g5, g6, g7, g8, g9, g10, g11, g12, g13, rfl, h1⟩ := ce_op E.2.1 ha hb hs ho (by decide)
  obtain ⟨t1, t2, t3, t4, t5, t6⟩ := sg_sh E g2 (Or.inr g3)
  obtain ⟨w1, w2, w3, w4, w5⟩ := sg_y E t1
  obtain ⟨rd1, rd2⟩ := row_d (sh := sh) g4
  obtain ⟨nn, n1, n2, n3, n4, n5⟩ := E.1.1.2.1 sh t1
  have hx0 : cN (X 0 sh) = nn := by rw [n1, cN_nI (by omega)]
  obtain ⟨et, ew⟩ := At_s hk
  have mt9 : y.1 (4 + (sh * 12 + gg) / 12) = 3 ∧ (sh * 12 + gg) % 12 < y.2.2.1 (4 + (sh * 12 + gg) / 12) := by
    obtain ⟨rt, ra, V, hJ9, hL9⟩ := hk
    exact hL9.2.2.2.2.2.2.2.2.2 f (Nat.le_refl f) (sh * 12 + gg) j (by rw [kUx_eq]; exact List.mem_cons_self ..)
  rw [rd1, rd2, w3, hx0] at mt9
  have hgn : gg < nn := mt9.2
  obtain ⟨pm, p1, p2, p3⟩ := n5 gg hgn
  have epm : pm = n9 := (nI_eq (by omega) (by omega)).mp (p1.symm.trans g5)
  subst epm
  obtain ⟨u, u1, u2, u3⟩ := p3 j g6
  have h30 : yt ≤ 3040 := E.1.1.1.2.1
  have g9 : F 15 v = nI u := g9.trans (g8.symm.trans u1)
  have hT : u < 3040 := by omega
  obtain ⟨hvn, q2, q3, q4⟩ := sg_v E hv4 hT g9
  rw [ymF_n E.1.1 u2] at q3
  have nr := tyN_nr E.1.1 u2
  have sz := sg_sz E q2
  rw [ymF_n E.1.1 u2] at sz
  have c9 : cN (X 1 (sh * 12 + gg)) = pm := by rw [p1, cN_nI (by omega)]
  have eU : y.2.2.2.2 (4 + sh) gg j = u := by rw [(w2 gg j).1, u1, cN_nI (by omega)]
  have lay := hy.1.2.2.2.1 (4 + sh) gg j mt9.1 (by rw [w3, hx0]; exact hgn) (by rw [w1 gg, c9]; exact g6)
  rw [eU] at lay
  have layv := hy.2.2.1.1 g v hv4 q4
  rw [q3] at layv
  have ex3 : F 2 i = nI (z.2 (4 + sh) gg j) := by
    rw [g12, (w2 gg j).2]
    exact x3_any (yt := yt) E.1.1 t1 (by rw [hx0]; exact hgn) j (by rw [c9]; exact g6)
  have et : top = fb f + vc g + (khs z r + z.1 (4 + (sh * 12 + gg) / 12)) := et
  rw [rd1] at et
  have hv := E.2.2.1 i _ ha hb hs
  have hv0 : vl r ≤ 210 := by
    have hv : vl r + (if (4 : Nat) = 8 then 0 else if (4 : Nat) = 4 ∨ (4 : Nat) = 5 ∨ (4 : Nat) = 6 then 211 else 1) ≤ 211 := hv
    rw [if_neg (by decide), if_pos (by decide)] at hv
    omega
  have hmt := vl_no hv0
  obtain ⟨e1, e2⟩ := E.2.2.2.2.2.2.2.1 i 29 _ ha hb hs ho (by decide) hN hR
  have hlk := e1.2.2.2.2.2.2.2.1 (Or.inr rfl) v g1 hv4
  rw [wl_0 (show ((4, sh * 12 + gg, j) : tE).1 = 8 ∨ ((4, sh * 12 + gg, j) : tE).1 = 4 ∨ ((4, sh * 12 + gg, j) : tE).1 = 5 ∨ ((4, sh * 12 + gg, j) : tE).1 = 6 from Or.inr (Or.inl rfl))] at hlk
  have hmk := e2.2.2.2.2.1 (Or.inr (Or.inr (Or.inl rfl))) v g1 hv4
  have hRm := e2.1 (by omega)
  refine ⟨v, u, z.1 u, z.2 (4 + sh) gg j, z.1 (4 + sh), g1, hvn, g9, hT, sz.1, sz.2.1, sz.2.2, ex3, g13.trans t2, lay.2, t4, by omega, by omega, fun c2 fil2 hc1 hc2 hf1 => ?_⟩
  have eA : top - z.1 (4 + sh) = fb f + vc g + khs z r := by omega
  rw [eA] at hc1
  have q := kS_bind (c2 := c2) (fil2 := fil2) (v := v) (al2 := fun u => u < 40 ∧ N.2.1 (i + 1) u ∧ ¬ L (i + 1) u []) (lo2 := L (i + 1)) hy hk (r := r) (r0 := sh * 12 + gg) (m := j) (by rw [kUx_eq]; rfl) (by rw [kUx_eq]; rfl) hmt hv4 (fun q => g11 _ q rfl) (by rw [rd1, rd2, w1 gg, c9]; exact g6) (by rw [kUx_eq, rd1, rd2, eU]; exact q3) (by rw [kUx_eq]; exact q4) (by
    rw [kUx_eq]
    show y.1 (vt g v) ≠ 5 ∧ y.1 (vt g v) ≠ 6
    rw [q3, E.1.2.1]
    have : ¬ ((yF F X yp yt).1 u = 5 ∨ (yF F X yp yt).1 u = 6) := fun q => by
      have := yF_56.mp q
      omega
    exact ⟨fun q => this (Or.inl q), fun q => this (Or.inr q)⟩) (by rw [kUx_eq]; exact fun u hu q => kpA E.2.2.2.2.2.2.2.2.1 hlk hmk u hu q) (by rw [kUx_eq]; exact L_ne E hmk) (by
    rw [kUx_eq, rd1, rd2]
    show ∀ q : Nat, q < z.1 (vt g v) → c2 (fb f + vo g v + q) = _
    rw [q3]; exact hc1) (by
    rw [kUx_eq]
    show ∀ k : Nat, ¬ (fb f + vo g v ≤ k ∧ k < fb f + vo g v + z.1 (vt g v)) → _
    rw [q3]; exact hc2) hf1
  rw [kUx_eq, kUx2, ← lUp_self (g := kH (Fr N L g i ((4, sh * 12 + gg, j) :: r) R An)) (t := v)] at q
  refine At_mk E h1 hRm hlk.1 (st_finV q hv4 (m := wl r) ?_ hlk (fun l hm => ?_) (fun _ l q _ => by simp at q))
  · rw [wl_0 (Or.inr (Or.inl rfl)), wl_0 (Or.inl rfl)]; exact Nat.le_refl _
  · obtain ⟨r9, m9, hm⟩ := hm
    have n5 := no56 hmt r9 m9
    exfalso
    rcases hm with q | q
    · rcases List.mem_cons.mp q with q | q
      · injection q with q; exact absurd q (by decide)
      · rcases List.mem_cons.mp q with q | q
        · injection q with q; exact absurd q (by decide)
        · exact n5.1 q
    · rcases List.mem_cons.mp q with q | q
      · injection q with q; exact absurd q (by decide)
      · rcases List.mem_cons.mp q with q | q
        · injection q with q; exact absurd q (by decide)
        · exact n5.2 q
/-- BIND of a reference -/
theorem s_bndR (E : sgE y z F X G rs a b n yp yt k N L Rm (tb g) rl pl me (vt g)) (hy : kYs y z vt vo vc) (h : At y z vt vo vc tb hp a b k N L Rm g f x An fb i tk c top fil) (ho : F 0 i = nI 30) : ∃ v off : Nat, F 1 i = nI v ∧ v < n ∧ F 2 i = nI off ∧ off ≤ 16 ∧ 1 ≤ top ∧ fb f + vo g v + 1 ≤ top ∧ ∀ (c2 : Nat → Int) (fil2 : Nat → Nat → Nat → Prop), c2 (fb f + vo g v) = c (top - 1) + (off : Nat) → (∀ k : Nat, k ≠ fb f + vo g v → c2 k = c k) → (∀ j w : Nat, (j, w) ≠ (f, v) → fil2 j w = fil j w) → At y z vt vo vc tb hp a b k N L Rm g f x An fb (i + 1) tk c2 top fil2 := by
  obtain ⟨s, R, hs, ha, hb, hN, hR, hk⟩ := h
  obtain ⟨v, sh, gg, j, n9, T, b9, q, r, hv4, g1, g2, g3, g4, g5, g6, g7, gq, g8, gT, gn, g9, g11, g12, g13, g14, rfl, h1⟩ := ce_op E.2.1 ha hb hs ho (by decide)
  obtain ⟨t1, t2, t3, t4, t5, t6⟩ := sg_sh E g2 (Or.inr g3)
  obtain ⟨w1, w2, w3, w4, w5⟩ := sg_y E t1
  obtain ⟨rd1, rd2⟩ := row_d (sh := sh) g4
  obtain ⟨nn, n1, n2, n3, n4, n5⟩ := E.1.1.2.1 sh t1
  have hx0 : cN (X 0 sh) = nn := by rw [n1, cN_nI (by omega)]
  obtain ⟨et, ew⟩ := At_s hk
  have y3 := w4 g3
  have h30 : yt ≤ 3040 := E.1.1.1.2.1
  -- the variant is one of the shape's
  have hgn : gg < nn := by
    obtain ⟨rt, ra, V, hJ9, hL9⟩ := hk
    have hmem : (q + 4, sh * 12 + gg, b9 + 1 + 64 * j) ∈ (kUx x f (Fr N L g i ((q + 4, sh * 12 + gg, b9 + 1 + 64 * j) :: r) R An) f).2.1 := by rw [kUx_eq]; exact List.mem_cons_self ..
    have pm : ∃ (a0 : Nat × Nat) (π : lLc), V a0 π = some (4 + (sh * 12 + gg) / 12, (sh * 12 + gg) % 12) := by
      rcases gq with rfl | rfl
      · obtain ⟨a0, π, -, -, -, e, -⟩ := ((hJ9.2.2.2.2.2.2.2.1 f (Nat.le_refl f) (sh * 12 + gg) (b9 + 1 + 64 * j)).1 hmem).2
        exact ⟨a0, π, e⟩
      · obtain ⟨a0, π, -, -, -, e, -⟩ := ((hJ9.2.2.2.2.2.2.2.1 f (Nat.le_refl f) (sh * 12 + gg) (b9 + 1 + 64 * j)).2 hmem).2
        exact ⟨a0, π, e⟩
    obtain ⟨a0, π, e⟩ := pm
    rw [rd1, rd2] at e
    have := ((hJ9.1 a0).1 π _ _ e).2.2.1 y3
    rw [w3, hx0] at this
    exact this
  obtain ⟨pm, p1, p2, p3⟩ := n5 gg hgn
  have epm : pm = n9 := (nI_eq (by omega) (by omega)).mp (p1.symm.trans g5)
  subst epm
  obtain ⟨u, u1, u2, u3⟩ := p3 j g6
  have eu : cN (X 2 ((sh * 12 + gg) * 12 + j)) = u := by rw [u1, cN_nI (by omega)]
  rw [eu] at gn
  obtain ⟨hvn, q2, q3, q4⟩ := sg_v E hv4 gT g8
  have c9 : cN (X 1 (sh * 12 + gg)) = pm := by rw [p1, cN_nI (by omega)]
  have eU : y.2.2.2.2 (4 + sh) gg j = u := (w2 gg j).1.trans eu
  have kk := sg_k E q2
  have k56 : (q = 1 ∧ F 20 T = 5 ∧ vt g v = 10000 + 2 * u) ∨ (q = 2 ∧ F 20 T = 6 ∧ vt g v = 10001 + 2 * u) := by
    by_cases c5 : F 20 T = 5
    · obtain ⟨U, v1, v2, v3, v4, v5, v6⟩ := kk.1 c5
      rw [v6] at gn
      injection gn with gn1 gn2
      injection gn2 with gn2 _
      exact Or.inl ⟨gn1.symm, c5, by rw [q3, v5, gn2]⟩
    · by_cases c6 : F 20 T = 6
      · obtain ⟨U, v1, v2, v3, v4, v5, v6⟩ := kk.2.1 c6
        rw [v6] at gn
        injection gn with gn1 gn2
        injection gn2 with gn2 _
        exact Or.inr ⟨gn1.symm, c6, by rw [q3, v5, gn2]⟩
      · exfalso
        by_cases c3 : T = 3
        · rw [c3, tNf_3] at gn
          injection gn with gn1 _
          omega
        · rw [tNf_u c3 c5 c6] at gn
          injection gn with gn1 _
          omega
  have lay := hy.1.2.2.2.1 (4 + sh) gg j y3 (by rw [w3, hx0]; exact hgn) (by rw [w1 gg, c9]; exact g6)
  have layv := hy.2.2.1.1 g v hv4 q4
  rw [sg_z4 E _ (Or.inr (by rw [q3]; exact kk.2.2.1.mpr (by rcases k56 with ⟨-, z9, -⟩ | ⟨-, z9, -⟩; exact Or.inl z9; exact Or.inr z9)))] at layv
  have ex3 : F 2 i = nI (z.2 (4 + sh) gg j) := by
    rw [g12, (w2 gg j).2]
    exact x3_any (yt := yt) E.1.1 t1 (by rw [hx0]; exact hgn) j (by rw [c9]; exact g6)
  have et : top = fb f + vc g + (khs z r + kes z (q + 4, sh * 12 + gg, b9 + 1 + 64 * j)) := et
  rw [show kes z (q + 4, sh * 12 + gg, b9 + 1 + 64 * j) = 1 by rcases gq with rfl | rfl <;> rfl] at et
  have hv := E.2.2.1 i _ ha hb hs
  have hv0 : vl r ≤ 210 := by
    have hv : vl r + (if q + 4 = 8 then 0 else if q + 4 = 4 ∨ q + 4 = 5 ∨ q + 4 = 6 then 211 else 1) ≤ 211 := hv
    rw [if_neg (by omega), if_pos (by omega)] at hv
    omega
  have hmt := vl_no hv0
  obtain ⟨e1, e2⟩ := E.2.2.2.2.2.2.2.1 i 30 _ ha hb hs ho (by decide) hN hR
  obtain ⟨hlk, hnew, h300⟩ := e1.2.2.2.2.2.2.2.2.1 rfl v g1 hv4
  rw [wl_0 (show ((q + 4, sh * 12 + gg, b9 + 1 + 64 * j) : tE).1 = 8 ∨ ((q + 4, sh * 12 + gg, b9 + 1 + 64 * j) : tE).1 = 4 ∨ ((q + 4, sh * 12 + gg, b9 + 1 + 64 * j) : tE).1 = 5 ∨ ((q + 4, sh * 12 + gg, b9 + 1 + 64 * j) : tE).1 = 6 from by show q + 4 = 8 ∨ q + 4 = 4 ∨ q + 4 = 5 ∨ q + 4 = 6; omega)] at hlk
  have hmk := e2.2.2.2.2.1 (Or.inr (Or.inr (Or.inr rfl))) v g1 hv4
  have hRm := e2.1 (by omega)
  have mj : (b9 + 1 + 64 * j) / 64 = j := by omega
  refine ⟨v, z.2 (4 + sh) gg j, g1, hvn, ex3, by have := lay.2; have := hy.1.1 (y.2.2.2.2 (4 + sh) gg j); omega, by omega, by omega, fun c2 fil2 hc1 hc2 hf1 => ?_⟩
  have eA : top - 1 = fb f + vc g + khs z r := by omega
  rw [eA] at hc1
  obtain ⟨aa, p⟩ := kS_bindR (c2 := c2) (fil2 := fil2) (v := v) (hd := N.1 i 300) (al2 := fun u => u < 40 ∧ N.2.1 (i + 1) u ∧ ¬ L (i + 1) u []) (lo2 := L (i + 1)) hy hk (r := r) (r0 := sh * 12 + gg) (q := q + 4) (m := b9 + 1 + 64 * j) (by omega) (by rw [kUx_eq]; rfl) (by rw [kUx_eq]; rfl) hmt hv4 (fun q => g11 _ q rfl) (by rw [rd1]; exact y3) (by rw [rd1, rd2, mj, w1 gg, c9]; exact g6) (by rw [rd1, rd2, mj, eU]; omega) (by
    rw [kUx_eq, rd1, rd2, mj, eU]
    show vt g v = _
    rcases k56 with ⟨rfl, -, e⟩ | ⟨rfl, -, e⟩ <;> (rw [e])) (by rw [kUx_eq]; exact fun u hu q => kpA E.2.2.2.2.2.2.2.2.1 hlk hmk u hu q) (by rw [kUx_eq]; exact L_ne E hmk) (by rw [kUx_eq]; exact fun l q => q) (by rw [kUx_eq, rd1, rd2, mj]; exact hc1) (by rw [kUx_eq]; exact hc2) hf1
  rw [kUx_eq, kUx2] at p
  have h1' : k (i + 1) = some ((q + 4, sh * 12 + gg, b9 + 1 + 64 * j + 64) :: (8, v, 0) :: r) := by
    rw [h1, show b9 + 1 + 64 * (j + 1) = b9 + 1 + 64 * j + 64 by omega]
  refine At_mk E h1' hRm hlk.1 (st_finV p hv4 (m := wl r) ?_ hlk (fun l _ hh => h300 l hh) (fun _ l _ hh => hnew l hh))
  rw [wl_0 (show ((q + 4, sh * 12 + gg, b9 + 1 + 64 * j + 64) : tE).1 = 8 ∨ ((q + 4, sh * 12 + gg, b9 + 1 + 64 * j + 64) : tE).1 = 4 ∨ ((q + 4, sh * 12 + gg, b9 + 1 + 64 * j + 64) : tE).1 = 5 ∨ ((q + 4, sh * 12 + gg, b9 + 1 + 64 * j + 64) : tE).1 = 6 from by show q + 4 = 8 ∨ q + 4 = 4 ∨ q + 4 = 5 ∨ q + 4 = 6; omega), wl_0 (Or.inl rfl)]
  exact Nat.le_refl _
/-- SWITCH -/
theorem s_swi (E : sgE y z F X G rs a b n yp yt k N L Rm (tb g) rl pl me (vt g)) (hy : kYs y z vt vo vc) (h : At y z vt vo vc tb hp a b k N L Rm g f x An fb i tk c top fil) (ho : F 0 i = nI 20) : ∃ tc gg l j : Nat, F 1 i = nI tc ∧ (gg < 12 ∧ ∃ n9 : Nat, F 3 i = nI n9 ∧ n9 ≤ 12 ∧ gg < n9) ∧ tc + gg < 3002 ∧ F 13 (tc + gg) = nI l ∧ l < 1100 ∧ F 5 l = nI j ∧ ((∃ sz : Nat, F 2 i = nI sz ∧ 1 ≤ sz ∧ sz ≤ 16 ∧ sz ≤ top ∧ c (top - sz) = (gg : Int)) ∨ (F 2 i = 0 ∧ 1 ≤ top ∧ ∃ ad : Nat, c (top - 1) = (ad : Int) ∧ ad < top ∧ c ad = (gg : Int))) ∧ At y z vt vo vc tb hp a b k N L Rm g f x An fb j tk c top fil := by
  obtain ⟨s, R, hs, ha, hb, hN, hR, hk⟩ := h
  obtain ⟨sh, n9, tc, r, g1, g2, g3, g4, g5, g6, ⟨g7, g8⟩, g9⟩ := ce_op E.2.1 ha hb hs ho (by decide)
  obtain ⟨t1, t2, t3, t4, t5, t6⟩ := sg_sh E g1 (Or.inr g2)
  obtain ⟨w1, w2, w3, w4, w5⟩ := sg_y E t1
  have y3 := w4 g2
  have yv : y.2.2.1 (4 + sh) = n9 := by rw [w3, g3, cN_nI (by omega)]
  obtain ⟨et, ew⟩ := At_s hk
  obtain ⟨e1, e2⟩ := E.2.2.2.2.2.2.2.1 i 20 _ ha hb hs ho (by decide) hN hR
  have hmt := vl_no (show vl r ≤ 210 by omega)
  have wr : wl r = 0 := wl_vl g8
  rcases g9 with ⟨rfl, gz, gJ⟩ | ⟨q, m, hq, rfl, gz, gJ⟩
  · obtain ⟨gg, c1, c2, c3⟩ := kS_sw0 hy hk (r := r) (sh := sh) (m := 0) (by rw [kUx_eq]; rfl) (by rw [kUx_eq]; rfl) hmt y3 (by rw [yv]; exact g4)
    rw [yv] at c1
    rw [kUx_eq] at c2
    rw [kUx_eq, kUx2] at c3
    have hJ := (gJ gg c1).resolve_left id
    obtain ⟨j, ⟨j1, -⟩, j3, j4, j5, j6⟩ := hJ
    obtain ⟨l, l1, l2, l3⟩ := lab_at E (by omega) j3 (Or.inl j4) j5
    have m9 := e2.2.2.2.2.2.2.2.2.2 rfl j tc n9 gg g5 (by omega) g7 g4 c1 j5.symm j1 j3 j4
    have hl2 := (e1.2.2.2.2.2.2.2.2.2.2.2.2.2.2.2.1 rfl j tc gg _ g5 (by omega) j5.symm j1 j3 j4 j6 (by rw [g7]; exact nI_lt c1 (by omega)) (by omega)).1
    have et : top = fb f + vc g + (khs z r + kes z (0, 4 + sh, 0)) := et
    rw [show kes z (0, 4 + sh, 0) = z.1 (4 + sh) from if_neg (by omega)] at et
    have eA : top - z.1 (4 + sh) = fb f + vc g + khs z r := by omega
    refine ⟨tc, gg, l, j, g5, ⟨by omega, n9, g7, g4, c1⟩, by omega, l2, l1, l3, Or.inl ⟨z.1 (4 + sh), gz.trans t2, t3, t4, by omega, by rw [eA]; exact c2⟩, At_mk E j6 m9.1 hl2.1 (s := (4, sh * 12 + gg, 0) :: r) (R := R) ?_⟩
    refine fin c3 (fun u w l hu _ hh => ?_) (kpA E.2.2.2.2.2.2.2.2.1 hl2 m9.2 · (fun q => q)) (fun v π q => kpL E.2.2.2.2.2.2.2.2.1 m9.2 v π (fun q => q) q)
    rcases hu with hu | hu | ⟨rfl, r9, m8, hu⟩
    · exact hl2.2.1 u l (fun q => q) (Or.inl hu.1) hh
    · rw [wl_0 (Or.inr (Or.inl rfl)), wr] at hu
      omega
    · exfalso
      have n5 := no56 hmt r9 m8
      rcases hu with q | q
      · rcases List.mem_cons.mp q with q | q
        · injection q with q; exact absurd q (by decide)
        · exact n5.1 q
      · rcases List.mem_cons.mp q with q | q
        · injection q with q; exact absurd q (by decide)
        · exact n5.2 q
  · have m64 : m < 64 := (((E.1.2.2.2.2.2.1 i _ hR hs).1 (q, 4 + sh, m) (List.mem_cons_self ..)).2 hq).2.2
    obtain ⟨gg, ad, aa, c1, c2, c3, c4, c5⟩ := kS_sw1 (hd := N.1 i (40 + wl r)) hy hk (r := r) (sh := sh) (q := q) (m := m) (by rw [kUx_eq]; rfl) (by omega) hq (by rw [kUx_eq]; rfl) hmt y3 (by rw [yv]; exact g4) m64 (by rw [kUx_eq]; exact fun l q => q)
    rw [yv] at c1
    rw [kUx_eq] at c2
    rw [kUx_eq, kUx2] at c5
    have hJ := (gJ gg c1).resolve_left id
    obtain ⟨j, ⟨j1, -⟩, j3, j4, j5, j6⟩ := hJ
    obtain ⟨l, l1, l2, l3⟩ := lab_at E (by omega) j3 (Or.inl j4) j5
    have m9 := e2.2.2.2.2.2.2.2.2.2 rfl j tc n9 gg g5 (by omega) g7 g4 c1 j5.symm j1 j3 j4
    obtain ⟨hl2, hmk3⟩ := e1.2.2.2.2.2.2.2.2.2.2.2.2.2.2.2.1 rfl j tc gg _ g5 (by omega) j5.symm j1 j3 j4 j6 (by rw [g7]; exact nI_lt c1 (by omega)) (by omega)
    have et : top = fb f + vc g + (khs z r + kes z (q, 4 + sh, m)) := et
    rw [show kes z (q, 4 + sh, m) = 1 by rcases hq with rfl | rfl <;> rfl] at et
    have eA : top - 1 = fb f + vc g + khs z r := by omega
    refine ⟨tc, gg, l, j, g5, ⟨by omega, n9, g7, g4, c1⟩, by omega, l2, l1, l3, Or.inr ⟨gz, by omega, ad, by rw [eA]; exact c2, c3, c4⟩, At_mk E j6 m9.1 hl2.1 (s := (q + 4, sh * 12 + gg, m) :: r) (R := lUp R 300 (some aa)) ?_⟩
    refine fin c5 (fun u w l hu _ hh => ?_) (kpA E.2.2.2.2.2.2.2.2.1 hl2 m9.2 · (fun q => q)) (fun v π q => kpL E.2.2.2.2.2.2.2.2.1 m9.2 v π (fun q => q) q)
    rcases hu with hu | hu | ⟨rfl, r9, m8, hu⟩
    · rw [lUp_ne (by omega)] at hh
      exact hl2.2.1 u l (fun q => q) (Or.inl hu.1) hh
    · rw [wl_0 (show ((q + 4, sh * 12 + gg, m) : tE).1 = 8 ∨ ((q + 4, sh * 12 + gg, m) : tE).1 = 4 ∨ ((q + 4, sh * 12 + gg, m) : tE).1 = 5 ∨ ((q + 4, sh * 12 + gg, m) : tE).1 = 6 from by show q + 4 = 8 ∨ q + 4 = 4 ∨ q + 4 = 5 ∨ q + 4 = 6; omega), wr] at hu
      omega
    · rw [lUp_eq] at hh
      exact hmk3 q sh m r hq rfl rfl l hh
end
end
-- f3.q9.lean.txt
section
section
variable {y : qY} {z : qZ} {vt vo : Nat → Nat → Nat} {vc : Nat → Nat} {tb : Nat → lTb} {hp : Nat} {tk tk2 : Nat → Prop} {c c2 : Nat → Int} {f g i j : Nat} {x : Nat → kFm} {An : Nat → lLc → Nat → Prop} {fb : Nat → Nat} {top top2 : Nat} {fil fil2 : Nat → Nat → Nat → Prop} {N : lK} {L : Nat → Nat → lLc → Prop} {Rm : Nat → Prop} {F X : tF} {G : Nat → Nat → Nat} {rs a b n yp yt : Nat} {k : Nat → Option (List tE)} {rl : Nat → Int32} {pl : Nat → Nat → Int32} {me : Int32} {s s2 : List tE} {R R2 : Nat → Option lLc}
theorem drC_0 : drC y z c hp top (fun _ _ _ => False) (fun _ => False) := fun _ _ _ h => absurd h id
theorem kS_tk (h : kS y z vt vo vc tb hp tk c f x fb top fil) (ht : ∀ k : Nat, tk k → tk2 k) : kS y z vt vo vc tb hp tk2 c f x fb top fil := by
  obtain ⟨rt, ra, V, hJ, l0, lr⟩ := h
  refine ⟨rt, ra, V, hJ, qMm_subT l0 l0.1 (fun _ _ _ q => q) (fun r π t gg bb hv9 k4 hb9 k g9 g8 => ?_), lr⟩
  obtain ⟨b9, b1, b2, b3⟩ := (l0.2.1 r π t gg hv9).2 k4
  rw [hb9] at b1
  have b1 : bb = b9 := by omega
  subst b1
  exact ht k (b3 k g9 g8)
/-- DROP -/
theorem s_drp (E : sgE y z F X G rs a b n yp yt k N L Rm (tb g) rl pl me (vt g)) (hy : kYs y z vt vo vc) (h : At y z vt vo vc tb hp a b k N L Rm g f x An fb i tk c top fil) (ho : F 0 i = nI 27) : ∃ T m : Nat, F 1 i = nI T ∧ T < 3040 ∧ F 22 T = nI m ∧ m ≤ 16 ∧ m ≤ top ∧ ∃ (P : Nat → Nat → Int32 → Prop) (B : Nat → Prop), drC y z c hp top P B ∧ (F 23 T ≠ 0 → tyN yp (F 20) T ∧ T < yt ∧ ∀ p : Int32, P T (top - m) p) ∧ ∀ tk2 : Nat → Prop, (∀ k : Nat, tk k → ¬ B k → tk2 k) → At y z vt vo vc tb hp a b k N L Rm g f x An fb (i + 1) tk2 c (top - m) fil := by
  obtain ⟨s, R, hs, ha, hb, hN, hR, hk⟩ := h
  obtain ⟨T, r, g1, g2, rfl, h1⟩ := ce_op E.2.1 ha hb hs ho (by decide)
  obtain ⟨e1, e2⟩ := E.2.2.2.2.2.2.2.1 i 27 _ ha hb hs ho (by decide) hN hR
  have hlk := e1.2.2.1 (by omega)
  rw [wl_t, Nat.add_sub_cancel] at hlk
  have hmk := e2.2.1 (by omega)
  have hRm := e2.1 (by omega)
  have hv := E.2.2.1 i _ ha hb hs
  have hno := no56 (vl_no (vl_1 hv nm_t))
  have h3 : ∀ l : Nat, (∃ r9 m : Nat, (5, r9, m) ∈ r ∨ (6, r9, m) ∈ r) → N.1 i 300 l → N.1 (i + 1) 300 l := fun l hm => by
    obtain ⟨r9, m9, hm⟩ := hm
    have n5 := hno r9 m9
    exact absurd hm (by rintro (q | q); exact n5.1 q; exact n5.2 q)
  have fz : F 20 0 = 0 ∧ F 22 0 = 0 ∧ F 23 0 = 0 := ⟨E.1.1.1.2.2.2.1.1, E.1.1.1.2.2.2.2.1.1, E.1.1.1.2.2.2.2.2.1.1⟩
  have popd : ∀ e : tE, tNf F T = e → kNm e → ∀ m : Nat, kes z e = m → F 22 T = nI m → m ≤ 16 → F 23 T = 0 → ∃ T m : Nat, F 1 i = nI T ∧ T < 3040 ∧ F 22 T = nI m ∧ m ≤ 16 ∧ m ≤ top ∧ ∃ (P : Nat → Nat → Int32 → Prop) (B : Nat → Prop), drC y z c hp top P B ∧ (F 23 T ≠ 0 → tyN yp (F 20) T ∧ T < yt ∧ ∀ p : Int32, P T (top - m) p) ∧ ∀ tk2 : Nat → Prop, (∀ k : Nat, tk k → ¬ B k → tk2 k) → At y z vt vo vc tb hp a b k N L Rm g f x An fb (i + 1) tk2 c (top - m) fil := fun e ee he m hm h22 hm16 h23 => by
    rw [ee] at hk
    obtain ⟨et, ew⟩ := At_s hk
    have et : top = fb f + vc g + (khs z r + kes z e) := et
    rw [hm] at et
    refine ⟨T, m, g1, g2, h22, hm16, by omega, fun _ _ _ => False, fun _ => False, drC_0, fun q => absurd h23 q, fun tk2 ht => ?_⟩
    have q := st_pop (E := [e]) (s2 := r) hk rfl (fun e9 he9 => by rw [List.mem_singleton.mp he9]; exact he) E.2.2.2.2.2.2.2.2.1 hlk hmk h3
    rw [show top - m = fb f + vc g + khs z r by omega]
    exact At_mk E h1 hRm hlk.1 (kS_tk q (fun k hk9 => ht k hk9 (fun q => q)))
  by_cases c0 : T = 0
  · subst c0
    exact popd (0, 0, 0) (tNf_u (by decide) (by rw [fz.1]; decide) (by rw [fz.1]; decide)) nm0 0 rfl fz.2.1 (by decide) fz.2.2
  · by_cases hrf : F 20 T = 5 ∨ F 20 T = 6
    · have hU := E.1.2.2.2.2.1 T g2 (by rcases hrf with q | q; exact Or.inr (Or.inl q); exact Or.inr (Or.inr q))
      have row := E.1.1.1.2.2.2.2.2.2.2.1 T hU.1 hU.2
      have kk := sg_k E (T0 := T) ⟨Or.inr ⟨hU.1, hrf⟩, hU.2⟩
      have h23 : F 23 T = 0 := by
        have q : F 23 T = if F 20 T = 4 then 1 else 0 := row.2.2.1
        rw [q, if_neg (by rcases hrf with z9 | z9 <;> rw [z9] <;> decide)]
      rcases hrf with h5 | h6
      · obtain ⟨U, u1, u2, u3, u4, u5, u6⟩ := kk.1 h5
        exact popd (1, U, 0) u6 (by unfold kNm; simp) 1 rfl row.2.1 (by decide) h23
      · obtain ⟨U, u1, u2, u3, u4, u5, u6⟩ := kk.2.1 h6
        exact popd (2, U, 0) u6 (by unfold kNm; simp) 1 rfl row.2.1 (by decide) h23
    · have h5 : F 20 T ≠ 5 := fun q => hrf (Or.inl q)
      have h6 : F 20 T ≠ 6 := fun q => hrf (Or.inr q)
      obtain ⟨t1, t2⟩ := gd_0 E hR hs c0 h5 h6
      have hk2 := st_rt E h5 h6 hk
      have sz := sg_sz E (u := T) ⟨Or.inl t1, t2⟩
      rw [ymF_n E.1.1 t1] at sz
      obtain ⟨et, ew⟩ := At_s hk2
      have et : top = fb f + vc g + (khs z r + kes z (0, T, 0)) := et
      rw [show kes z (0, T, 0) = z.1 T from if_neg c0] at et
      obtain ⟨P, B, p1, p2, p3⟩ := kS_drp hy (sg_16 E) hk2 (T := T) (m := 0) (S := r) (by rw [kUx_eq]; rfl) (by rw [kUx_eq]; rfl) c0
      have eA : top - z.1 T = fb f + vc g + khs z r := by omega
      rw [kUx_eq] at p2
      refine ⟨T, z.1 T, g1, g2, sz.1, sz.2.2, by omega, P, B, p1, fun _ => ⟨t1, t2, fun p => by rw [eA]; exact p2 p⟩, fun tk2 ht => ?_⟩
      have q := p3 tk2 ht
      rw [kUx_eq, kUx2] at q
      rw [eA]
      refine At_mk E h1 hRm hlk.1 (s := r) (R := R) ?_
      refine fin q (fun u w l hu _ hh => ?_) (kpA E.2.2.2.2.2.2.2.2.1 hlk hmk · (fun q => q)) (fun v π q => kpL E.2.2.2.2.2.2.2.2.1 hmk v π (fun q => q) q)
      rcases hu with hu | hu | ⟨rfl, hu⟩
      · exact hlk.2.1 u l (fun q => q) (Or.inl hu.1) hh
      · exact hlk.2.1 u l (fun q => q) (Or.inr hu) hh
      · exact h3 l hu hh
/-- SCOPE -/
theorem s_scp (E : sgE y z F X G rs a b n yp yt k N L Rm (tb g) rl pl me (vt g)) (hy : kYs y z vt vo vc) (h : At y z vt vo vc tb hp a b k N L Rm g f x An fb i tk c top fil) (ho : F 0 i = nI 32) : ∃ v0 v1 : Nat, F 1 i = nI v0 ∧ F 2 i = nI v1 ∧ v0 ≤ v1 ∧ v1 ≤ 40 ∧ ∃ (P : Nat → Nat → Int32 → Prop) (B : Nat → Prop), drC y z c hp top P B ∧ (∀ (v : Nat) (p : Int32) (s : List tE), k i = some s → (8, v, 0) ∈ s → v0 ≤ v → v < v1 → (∀ q : Nat, q < 16 → ibit p q = true → fil f v q) → P (vt g v) (fb f + vo g v) p) ∧ ∀ (tk2 : Nat → Prop) (fil2 : Nat → Nat → Nat → Prop), (∀ k : Nat, tk k → ¬ B k → tk2 k) → (∀ j w : Nat, ¬ (j = f ∧ v0 ≤ w ∧ w < v1) → fil2 j w = fil j w) → At y z vt vo vc tb hp a b k N L Rm g f x An fb (i + 1) tk2 c top fil2 := by
  obtain ⟨s, R, hs, ha, hb, hN, hR, hk⟩ := h
  obtain ⟨v0, v1, O, r, ⟨g1, -⟩, g2, g3, g4, rfl, g5, g6, h1⟩ := ce_op E.2.1 ha hb hs ho (by decide)
  obtain ⟨e1, e2⟩ := E.2.2.2.2.2.2.2.1 i 32 _ ha hb hs ho (by decide) hN hR
  obtain ⟨hlk, hck⟩ := e1.2.2.2.2.2.2.2.2.2.2.1 rfl v0 v1 g3 g4 g1 g2
  have hmk := e2.2.1 (by omega)
  have hRm := e2.1 (by omega)
  have all8 : ∀ e : tE, e ∈ O ++ r → ∃ v : Nat, e = (8, v, 0) := fun e he => by
    rcases List.mem_append.mp he with q | q
    · obtain ⟨v, q, -⟩ := g5 e q; exact ⟨v, q⟩
    · obtain ⟨v, q, -⟩ := g6 e q; exact ⟨v, q⟩
  have hno : ∀ r9 m9 : Nat, (5, r9, m9) ∉ O ++ r ∧ (6, r9, m9) ∉ O ++ r := fun r9 m9 => ⟨fun q => by
    obtain ⟨v, q⟩ := all8 _ q; injection q with q; exact absurd q (by decide), fun q => by
    obtain ⟨v, q⟩ := all8 _ q; injection q with q; exact absurd q (by decide)⟩
  have w0 : wl (O ++ r) = 0 := wl_8 all8
  have wr : wl r = 0 := wl_8 (fun e he => all8 e (List.mem_append_right _ he))
  obtain ⟨P, B, p1, p2, p3⟩ := kS_scp (O := O) (S2 := r) (v0 := v0) (v1 := v1) (al2 := fun u => u < 40 ∧ N.2.1 (i + 1) u ∧ ¬ L (i + 1) u []) (lo2 := L (i + 1)) hy (sg_16 E) hk (by rw [kUx_eq]; rfl) g2 (by rw [kUx_eq]; exact hno) (by rw [kUx_eq]; rfl) g5 (fun v q1 q2 q3 => by
    obtain ⟨w, q4, q5⟩ := g6 _ q3
    injection q4 with _ q4
    injection q4 with q4 _
    omega) (by
    rw [kUx_eq]
    intro u hu q
    refine ⟨q.1, hlk.2.2 u q.1 (by omega) q.2.1, fun z9 => q.2.2 (kpL E.2.2.2.2.2.2.2.2.1 hmk u [] (fun q => q) z9)⟩) (by
    rw [kUx_eq]
    exact fun w π _ hn q => hn (kpL E.2.2.2.2.2.2.2.2.1 hmk w π (fun q => q) q)) (by
    rw [kUx_eq]
    intro u l hu ho9 hh hl t1 t2
    exact hck u l (hu.imp (fun z => ⟨z.1, z.2.2.1⟩) (fun z => z)) ho9 hh hl t1 t2)
  rw [kUx_eq] at p2
  refine ⟨v0, v1, g3, g4, g1, g2, P, B, p1, fun v p s9 hs9 hm q1 q2 hb9 => p2 v p q1 q2 ?_ hb9, fun tk2 fil2 ht hf => ?_⟩
  · obtain rfl : O ++ r = s9 := some_i (hs.symm.trans hs9)
    exact hm
  · have q := p3 tk2 fil2 ht hf
    rw [kUx_eq, kUx2] at q
    have q : kS y z vt vo vc tb hp tk2 c f (kUx x f (g, r, 0, (fun u => if v0 ≤ u ∧ u < v1 then none else R u), N.1 i, (fun u => u < 40 ∧ N.2.1 (i + 1) u ∧ ¬ L (i + 1) u []), L (i + 1), An)) fb top fil2 := q
    refine At_mk E h1 hRm hlk.1 (s := r) (R := fun u => if v0 ≤ u ∧ u < v1 then none else R u) ?_
    refine fin q (fun u w l hu hr hh => ?_) (fun u q => q) (fun v π q => q)
    by_cases c9 : v0 ≤ u ∧ u < v1
    · have hr : (if v0 ≤ u ∧ u < v1 then none else R u) = some w := hr
      rw [if_pos c9] at hr; simp at hr
    · rcases hu with hu | hu | ⟨rfl, r9, m9, hu⟩
      · exact hlk.2.1 u l c9 (Or.inl hu.1) hh
      · rw [wr] at hu; omega
      · exact absurd hu (by rintro (q | q); exact (hno r9 m9).1 (List.mem_append_right _ q); exact (hno r9 m9).2 (List.mem_append_right _ q))
end
end
