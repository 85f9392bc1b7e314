/-- what the class's reading of a place may rely on -/
def plF (F : tF) (c : Nat → Int) (top base p v T m nd : Nat) (ds os : List Nat) (o : Nat) (pa ro : Int32) : Prop := F 1 0 = F 1 0 ∧ p < 3001 ∧ F 6 p = nI v ∧ v < 40 ∧ F 9 p = ro ∧ F 10 p = nI T ∧ T < 3040 ∧ F 22 T = nI m ∧ 1 ≤ m ∧ m ≤ 16 ∧ pW ds os o nd pa ro ∧ nd ≤ 4 ∧ rOk c top base os ∧ rA c base os o + m ≤ top
section
variable {y : qY} {z : qZ} {vt vo : Nat → Nat → Nat} {vc : Nat → Nat} {tb : Nat → lTb} {hp : Nat} {tk tk2 : Nat → Prop} {c c2 : Nat → Int} {f g i j : Nat} {x : Nat → kFm} {An : Nat → lLc → Nat → Prop} {fb : Nat → Nat} {top top2 : Nat} {fil fil2 : Nat → Nat → Nat → Prop} {N : lK} {L : Nat → Nat → lLc → Prop} {Rm : Nat → Prop} {F X : tF} {G : Nat → Nat → Nat} {rs a b n yp yt : Nat} {k : Nat → Option (List tE)} {rl : Nat → Int32} {pl : Nat → Nat → Int32} {me : Int32} {s s2 : List tE} {R R2 : Nat → Option lLc}
theorem sg_pl (E : sgE y z F X G rs a b n yp yt k N L Rm (tb g) rl pl me (vt g)) {p v nd T : Nat} {pa ro mu : Int32} (hpl : plI F X p v nd T pa ro mu) : ∃ (T0 : Nat) (ds os : List Nat) (o : Nat), v < n ∧ F 15 v = nI T0 ∧ tyV yp yt (F 20) T0 ∧ vt g v = ymF F T0 ∧ vt g v ≠ 0 ∧ pW ds os o nd pa ro ∧ wyF F p = ds.map stO ∧ ((plW y z (vt g v) T (ds.map stO) os o ∧ tyN yp (F 20) T ∧ T < yt ∧ o + z.1 T ≤ 16 ∧ F 12 p = pCells ro (nI (z.1 T)) ∧ ((F 20 T0 = 5 ∨ F 20 T0 = 6) → mu ≠ 0 → F 20 T0 = 6)) ∨ (ds = [] ∧ os = [] ∧ o = 0 ∧ T = T0 ∧ (F 20 T0 = 5 ∨ F 20 T0 = 6) ∧ F 12 p = pCells ro (nI (z.1 (vt g v))))) := by
  have hv4 : v < 40 := hpl.2.1
  have hne : F 15 v ≠ -1 := pl_ne nd pa ro T mu hpl.2.2.2.1 hpl.2.2.2.2.2.2.2.2.2.2
  obtain ⟨hvn, T0, e1, e2, e3⟩ := E.2.2.2.2.2.1 v hv4 hne
  obtain ⟨ds, os, o, g1, g2, g3⟩ := pl_abs E.1.1 e1 e2 hpl
  refine ⟨T0, ds, os, o, hvn, e1, e2, e3, by rw [e3]; exact ymF_0 E.1.1 e2, g1, g2, ?_⟩
  rw [← E.1.2.1, ← E.1.2.2.1, ← e3] at g3
  exact g3
/-- kinds of a variable's type, in the table -/
theorem sg_k (E : sgE y z F X G rs a b n yp yt k N L Rm (tb g) rl pl me (vt g)) {T0 : Nat} (h0 : tyV yp yt (F 20) T0) : (F 20 T0 = 5 → ∃ U : Nat, F 21 T0 = nI U ∧ U < 10000 ∧ tyN yp (F 20) U ∧ U < yt ∧ ymF F T0 = 10000 + 2 * U ∧ tNf F T0 = (1, U, 0)) ∧ (F 20 T0 = 6 → ∃ U : Nat, F 21 T0 = nI U ∧ U < 10000 ∧ tyN yp (F 20) U ∧ U < yt ∧ ymF F T0 = 10001 + 2 * U ∧ tNf F T0 = (2, U, 0)) ∧ ((y.1 (ymF F T0) = 5 ∨ y.1 (ymF F T0) = 6) ↔ (F 20 T0 = 5 ∨ F 20 T0 = 6)) ∧ (F 20 T0 = 6 → y.1 (ymF F T0) = 6) := by
  have h30 : yt ≤ 3040 := E.1.1.1.2.1
  have k3 : F 20 3 = 1 := E.1.1.1.2.2.2.1.2.2.2
  have ref : (F 20 T0 = 5 ∨ F 20 T0 = 6) → ∃ U : Nat, F 21 T0 = nI U ∧ U < 10000 ∧ tyN yp (F 20) U ∧ U < yt ∧ T0 ≠ 3 := fun hq => by
    have h34 : 34 ≤ T0 := (E.1.2.2.2.2.1 T0 (by have := h0.2; omega) (by rcases hq with q | q; exact Or.inr (Or.inl q); exact Or.inr (Or.inr q))).1
    obtain ⟨U, u1, u2, u3⟩ := ty_of E.1.1 h34 h0.2
    have := h0.2
    exact ⟨U, u2, by omega, u3, by omega, by omega⟩
  refine ⟨fun h5 => ?_, fun h6 => ?_, ?_, fun h6 => ?_⟩
  · obtain ⟨U, u1, u2, u3, u4, u5⟩ := ref (Or.inl h5)
    refine ⟨U, u1, u2, u3, u4, ?_, ?_⟩
    · unfold ymF; rw [if_pos h5, u1, cN_nI (by omega)]
    · unfold tNf; rw [if_neg u5, if_pos h5, u1, cN_nI (by omega)]
  · obtain ⟨U, u1, u2, u3, u4, u5⟩ := ref (Or.inr h6)
    refine ⟨U, u1, u2, u3, u4, ?_, ?_⟩
    · unfold ymF; rw [if_neg (by rw [h6]; decide), if_pos h6, u1, cN_nI (by omega)]
    · unfold tNf; rw [if_neg u5, if_neg (by rw [h6]; decide), if_pos h6, u1, cN_nI (by omega)]
  · rw [E.1.2.1, yF_56]
    constructor
    · intro q
      apply Classical.byContradiction
      intro hn
      have : ymF F T0 = T0 := by
        unfold ymF
        rw [if_neg (fun z => hn (Or.inl z)), if_neg (fun z => hn (Or.inr z))]
      have := h0.2
      omega
    · intro q
      obtain ⟨U, u1, u2, -⟩ := ref q
      unfold ymF
      rcases q with q | q
      · rw [if_pos q, u1, cN_nI (by omega)]; omega
      · rw [if_neg (by rw [q]; decide), if_pos q, u1, cN_nI (by omega)]; omega
  · obtain ⟨U, u1, u2, -⟩ := ref (Or.inr h6)
    have e : ymF F T0 = 10001 + 2 * U := by unfold ymF; rw [if_neg (by rw [h6]; decide), if_pos h6, u1, cN_nI (by omega)]
    rw [e, E.1.2.1]
    show (if 10000 ≤ 10001 + 2 * U ∧ 10001 + 2 * U < 30000 then 5 + (10001 + 2 * U) % 2 else _) = 6
    rw [if_pos (by omega)]; omega
theorem sg_rf (E : sgE y z F X G rs a b n yp yt k N L Rm (tb g) rl pl me (vt g)) {v T0 : Nat} (hvn : v < n) (q1 : F 15 v = nI T0) (q2 : tyV yp yt (F 20) T0) (q3 : vt g v = ymF F T0) : (tb g).2.2.2.2 v ↔ (y.1 (vt g v) = 5 ∨ y.1 (vt g v) = 6) := by
  have h30 : yt ≤ 3040 := E.1.1.1.2.1
  have cT0 : cN (F 15 v) = T0 := by rw [q1, cN_nI (by have := q2.2; omega)]
  rw [E.2.2.2.2.2.2.2.2.2.1 v hvn, cT0, q3]
  exact (sg_k E q2).2.2.1.symm
theorem sg_z4 (E : sgE y z F X G rs a b n yp yt k N L Rm (tb g) rl pl me (vt g)) : ∀ t : Nat, y.1 t = 4 ∨ y.1 t = 5 ∨ y.1 t = 6 → z.1 t = 1 := fun t ht => by
  rw [E.1.2.2.1]
  rw [E.1.2.1] at ht
  exact zF_1 E.1.1 ht
theorem sg_16 (E : sgE y z F X G rs a b n yp yt k N L Rm (tb g) rl pl me (vt g)) : ∀ t : Nat, z.1 t ≤ 16 := fun t => by
  rw [E.1.2.2.1]; exact zF_le
/-- a place of a whole value, read -/
theorem sg_rd (E : sgE y z F X G rs a b n yp yt k N L Rm (tb g) rl pl me (vt g)) (hy : kYs y z vt vo vc) (hk : kS y z vt vo vc tb hp tk c f (kUx x f (Fr N L g i s R An)) fb top fil) (htop : top < 2 ^ 31) {p v nd T T0 o : Nat} {ds os : List Nat} {pa ro mu xx : Int32} (hpl : plI F X p v nd T pa ro mu) (hvS : (8, v, 0) ∈ s) (e0 : tyV yp yt (F 20) T0) (e1 : vt g v = ymF F T0) (e2 : vt g v ≠ 0) (g1 : pW ds os o nd pa ro) (w1 : plW y z (vt g v) T (ds.map stO) os o) (w2 : tyN yp (F 20) T) (w3 : T < yt) (w4 : o + z.1 T ≤ 16) (w5 : F 12 p = pCells ro (nI (z.1 T))) (hU : (y.1 (vt g v) = 5 ∨ y.1 (vt g v) = 6) → N.2.1 i v) (hx : ∀ π : lLc, L i v π → LcF y z (vt g v) xx π) (hx0 : xx &&& F 12 p = 0) : fuL y (L i) v (ds.map stO) T ∧ ((y.1 (vt g v) = 5 ∨ y.1 (vt g v) = 6) → v < 40 ∧ N.2.1 i v ∧ ¬ L i v []) ∧ plF F c top (fb f + vo g v) p v T (z.1 T) nd ds os o pa ro := by
  have hv4 : v < 40 := hpl.2.1
  have fu := fu_of (v := v) (lo := L i) hy.1 (sg_z4 E) e2 w1 g1 hpl.2.2.1 w4 (by rw [← w5]; exact hx0) hx
  have hal : (y.1 (vt g v) = 5 ∨ y.1 (vt g v) = 6) → v < 40 ∧ N.2.1 i v ∧ ¬ L i v [] := fun q => by
    rcases w1 with ⟨n5, n6, -⟩ | ⟨-, ρ2, er, -⟩
    · exact absurd q (by rintro (z | z); exact n5 z; exact n6 z)
    · exact ⟨hv4, hU q, fu.2 [] 0 ρ2 er qM_nil⟩
  obtain ⟨r1, r2⟩ := pl_adr hy hk (v := v) (T := T) (ρ := ds.map stO) (os := os) (o := o) hv4 (by rw [kUx_eq]; exact hvS) (by rw [kUx_eq]; exact w1) (by rw [kUx_eq]; exact fu) (by rw [kUx_eq]; exact hal) htop
  rw [kUx_eq] at r1 r2
  have sz := sg_sz E (u := T) ⟨Or.inl w2, w3⟩
  rw [ymF_n E.1.1 w2] at sz
  exact ⟨fu, hal, rfl, hpl.1.1, hpl.2.2.2.2.1, hv4, hpl.2.2.2.2.2.2.2.1, hpl.2.2.2.2.2.2.2.2.1, hpl.2.2.2.1, sz.1, sz.2.1, sz.2.2, g1, hpl.2.2.1, r1, r2⟩
theorem wl_nx {e : tE} (he : kNm e) (hv : vl (e :: s) ≤ 211) : wl s < 211 := by
  have := wl_vl_le (r := e :: s)
  rw [wl_n he] at this
  omega
/-- a reference comes: told by what is known of j -/
theorem st_finR {e : tE} {q : lLc} {hd : Nat → Prop} (h : kS y z vt vo vc tb hp tk c f (kUx x f (g, e :: s2, 0, lUp R (40 + wl s2) (some q), lUp (N.1 i) (40 + wl s2) hd, (fun u => u < 40 ∧ N.2.1 j u ∧ ¬ L j u []), L i, An)) fb top fil) (he : kNm e) (hv : vl (e :: s2) ≤ 211) (hL : ∀ (i v : Nat) (π : lLc), n ≤ v → L i v π) (h1 : lkp N i j (wl s2) (fun _ => False)) (h2 : mkp L n i j (fun _ => False)) (hh9 : ∀ l : Nat, hd l → N.1 j (40 + wl s2) l) : kS y z vt vo vc tb hp tk c f (kUx x f (Fr N L g j (e :: s2) (lUp R (40 + wl s2) (some q)) An)) fb top fil := by
  refine fin h (fun u w l hu hr hh => ?_) (fun u q => q) (fun v π q => kpL hL h2 v π (fun q => q) q)
  rcases hu with hu | hu | ⟨rfl, r, m, hu⟩
  · rw [lUp_ne (by omega)] at hh
    exact h1.2.1 u l (fun q => q) (Or.inl hu.1) hh
  · rw [wl_n he] at hu
    by_cases e9 : u = 40 + wl s2
    · rw [e9, lUp_eq] at hh
      rw [e9]; exact hh9 l hh
    · rw [lUp_ne e9] at hh
      exact h1.2.1 u l (fun q => q) (Or.inr ⟨hu.1, by omega⟩) hh
  · exfalso
    have n5 := no56 (vl_no (vl_1 hv he)) r m
    rcases hu with hu | hu
    · rcases List.mem_cons.mp hu with q | q
      · exact he (Or.inr (Or.inr (Or.inl (by rw [← q]))))
      · exact n5.1 q
    · rcases List.mem_cons.mp hu with q | q
      · exact he (Or.inr (Or.inr (Or.inr (by rw [← q]))))
      · exact n5.2 q
/-- COPY -/
theorem s_cpy (E : sgE y z F X G rs a b n yp yt k N L Rm (tb g) rl pl me (vt g)) (hy : kYs y z vt vo vc) (htop : top < 2 ^ 31) (h : At y z vt vo vc tb hp a b k N L Rm g f x An fb i tk c top fil) (ho : F 0 i = nI 2) : ∃ (p v T m nd : Nat) (ds os : List Nat) (o : Nat) (pa ro : Int32), F 1 i = nI p ∧ plF F c top (fb f + vo g v) p v T m nd ds os o pa ro ∧ ∀ c2 : Nat → Int, (∀ k : Nat, k < top → c2 k = c k) → (∀ q : Nat, q < m → c2 (top + q) = c (rA c (fb f + vo g v) os o + q)) → At y z vt vo vc tb hp a b k N L Rm g f x An fb (i + 1) tk c2 (top + m) fil := by
  obtain ⟨s, R, hs, ha, hb, hN, hR, hk⟩ := h
  obtain ⟨p, T, mu, g1, ⟨v, nd, pa, ro, hpl⟩, gk, h1⟩ := ce_op E.2.1 ha hb hs ho (by decide)
  have hv4 : v < 40 := hpl.2.1
  have hvS := E.1.2.2.2.2.2.2 i 2 p v s hR hs ho (Or.inl rfl) g1 hpl.1.1 hpl.2.2.2.2.1 hv4
  obtain ⟨T0, ds, os, o, hvn, q1, q2, q3, q4, q5, q6, q7⟩ := sg_pl E hpl
  obtain ⟨e1, e2⟩ := E.2.2.2.2.2.2.2.1 i 2 _ ha hb hs ho (by decide) hN hR
  obtain ⟨hlk, hck⟩ := e1.2.2.2.2.1 (Or.inl rfl)
  obtain ⟨hU, hck, hrf⟩ := hck p v g1 hpl.1.1 hpl.2.2.2.2.1 hv4
  have hU : (y.1 (vt g v) = 5 ∨ y.1 (vt g v) = 6) → N.2.1 i v := fun q => hU ((sg_rf E hvn q1 q2 q3).mpr q)
  obtain ⟨xx, hx, hx0⟩ := e2.2.2.1 (Or.inl rfl) p v g1 hpl.1.1 hpl.2.2.2.2.1 hv4
  have hmk := e2.2.1 (by omega)
  have hRm := e2.1 (by omega)
  have hj := E.2.2.2.2.2.2.2.2.2.2.2.1.2 (i + 1) hRm
  have hv := E.2.2.1 (i + 1) _ hj.1 hj.2 h1
  obtain ⟨et, ew⟩ := At_s hk
  obtain ⟨y0, y1, y2', y3, z1, z2, z3⟩ := sg_p E
  rcases q7 with ⟨w1, w2, w3, w4, w5, w6⟩ | ⟨rfl, rfl, rfl, rfl, w5, w6⟩
  · obtain ⟨fu, hal, hpf⟩ := sg_rd E hy hk htop hpl hvS q2 q3 q4 q5 w1 w2 w3 w4 w5 hU hx hx0
    have nr := tyN_nr E.1.1 w2
    have k0 : F 20 T = 0 := gk.resolve_right nr.1
    have hT : T = 1 ∨ T = 2 := by
      rcases w2 with z9 | z9 | z9
      · rcases z9 with z9 | z9 | z9
        · exact Or.inl z9
        · exact Or.inr z9
        · rw [z9] at k0
          have k3 : F 20 3 = 1 := E.1.1.1.2.2.2.1.2.2.2
          rw [k3] at k0; exact absurd k0 (by decide)
      · rcases E.1.1.1.2.2.2.2.2.2.1 (T - 4) (by omega) with z8 | z8
        · rw [show 4 + (T - 4) = T by omega] at z8
          have z8 : F 20 T = 2 := z8
          rw [z8] at k0; exact absurd k0 (by decide)
        · rw [show 4 + (T - 4) = T by omega] at z8
          have z8 : F 20 T = 3 := z8
          rw [z8] at k0; exact absurd k0 (by decide)
      · rw [z9.2] at k0; exact absurd k0 (by decide)
    have zT : z.1 T = 1 := by rcases hT with rfl | rfl; exact z1; exact z2
    have eN : tNf F T = (0, T, 0) := tNf_u (by omega) nr.1 nr.2
    rw [eN] at h1 hv
    refine ⟨p, v, T, z.1 T, nd, ds, os, o, pa, ro, g1, hpf, fun c2 hc hcc => ?_⟩
    have q := kS_push0 (c2 := c2) hy hk (by rw [kUx_eq]; rfl) (by rw [kUx_eq]; exact wl_nx nm0 hv) (e := (0, T, 0)) (t := T) (Or.inl ⟨0, rfl, by omega⟩) (by rcases hT with rfl | rfl; exact y1; exact y2') hc
    rw [kUx_eq, kUx2, show kes z (0, T, 0) = z.1 T from if_neg (by omega)] at q
    exact At_mk E h1 hRm hlk.1 (st_fin0 q rfl nm0 hv E.2.2.2.2.2.2.2.2.1 hlk hmk)
  · have k5 : F 20 T = 5 := by
      rcases gk with z9 | z9
      · rcases w5 with z8 | z8 <;> (rw [z8] at z9; exact absurd z9 (by decide))
      · exact z9
    obtain ⟨U, u1, u2, u3, u4, u5, u6⟩ := (sg_k E q2).1 k5
    have zv : z.1 (vt g v) = 1 := sg_z4 E _ (Or.inr (by rw [q3]; exact (sg_k E q2).2.2.1.mpr w5))
    have nlo : ¬ L i v [] := fun q => fu_ref zv q4 q5 hpl.2.2.1 (by rw [← w6]; exact hx0) (hx [] q)
    have hU := hU (by rw [q3]; exact (sg_k E q2).2.2.1.mpr w5)
    rw [u6] at h1 hv
    have n1 : kNm (1, U, 0) := by unfold kNm; simp
    have sz := sg_sz E q2
    rw [← q3, zv] at sz
    -- the variable's own cell
    have lt : fb f + vo g v < top := by
      obtain ⟨rt, ra, V, hJ, hL⟩ := hk
      obtain ⟨d, π, w, -, -, -, -, b5, -⟩ := pl_B hJ hL hv4 (by rw [kUx_eq]; exact hvS) (by rw [kUx_eq]; exact ⟨hv4, hU, nlo⟩) (by rw [kUx_eq]; show y.1 (vt g v) = 5 ∨ y.1 (vt g v) = 6; rw [q3]; exact (sg_k E q2).2.2.1.mpr w5) (by rw [kUx_eq]; exact nlo)
      have b6 := kLt hy hJ hL b5
      have b7 := hL.2.2.2.1 f (Nat.le_refl f) v hv4 (by rw [kUx_eq]; exact hvS)
      rw [kUx_eq] at b7
      have b6 : ra (f, v) < top := b6
      rw [b7] at b6
      exact b6
    refine ⟨p, v, T, 1, nd, [], [], 0, pa, ro, g1, ⟨rfl, hpl.1.1, hpl.2.2.2.2.1, hv4, hpl.2.2.2.2.2.2.2.1, hpl.2.2.2.2.2.2.2.2.1, hpl.2.2.2.1, sz.1, by decide, by decide, q5, hpl.2.2.1, trivial, lt⟩, fun c2 hc hcc => ?_⟩
    obtain ⟨aa, q⟩ := kS_cpR (c2 := c2) (m := 0) (al2 := fun u => u < 40 ∧ N.2.1 (i + 1) u ∧ ¬ L (i + 1) u []) hy hk (by rw [kUx_eq]; rfl) (by rw [kUx_eq]; exact wl_nx n1 hv) (by rw [kUx_eq]; exact no56 (vl_no (vl_1 hv n1))) u2 hv4 (by rw [kUx_eq]; exact hvS) (by rw [kUx_eq]; show vt g v = _; rw [q3]; exact u5) (by rw [kUx_eq]; exact ⟨hv4, hU, nlo⟩) (by rw [kUx_eq]; exact nlo) (by rw [kUx_eq]; exact fun u q => kpA E.2.2.2.2.2.2.2.2.1 hlk hmk u (fun q => q) q) (by
      rw [kUx_eq]
      intro u l hh hl1 hl2
      exact E.2.2.2.2.2.2.2.2.2.2.2.1.1 i u l v hh hl1 hl2 hvn (by rw [q1, cN_nI (by have := q2.2; have := E.1.1.1.2.1; omega)]; exact k5)) hc (by
      rw [kUx_eq]
      exact hcc 0 (by decide))
    rw [kUx_eq, kUx2] at q
    have r10 : rfB (F 20) (F 10 p) := (rf_eq hpl.2.2.2.2.2.2.2.2.1 hpl.2.2.2.1).mpr w5
    exact At_mk E h1 hRm hlk.1 (st_finR q n1 hv E.2.2.2.2.2.2.2.2.1 hlk hmk (fun l hh => hrf r10 l hh))
/-- BORROW -/
theorem s_bor (E : sgE y z F X G rs a b n yp yt k N L Rm (tb g) rl pl me (vt g)) (hy : kYs y z vt vo vc) (htop : top < 2 ^ 31) (h : At y z vt vo vc tb hp a b k N L Rm g f x An fb i tk c top fil) (ho : F 0 i = nI 4) : ∃ (p v T m nd : Nat) (ds os : List Nat) (o : Nat) (pa ro : Int32), F 1 i = nI p ∧ plF F c top (fb f + vo g v) p v T m nd ds os o pa ro ∧ ∀ c2 : Nat → Int, (∀ k : Nat, k < top → c2 k = c k) → c2 top = (rA c (fb f + vo g v) os o : Int) → At y z vt vo vc tb hp a b k N L Rm g f x An fb (i + 1) tk c2 (top + 1) fil := by
  obtain ⟨s, R, hs, ha, hb, hN, hR, hk⟩ := h
  obtain ⟨p, T, bb, m9, mu, g1, ⟨v, nd, pa, ro, hpl⟩, k5, k6, g2, g3, g4, g5⟩ := ce_op E.2.1 ha hb hs ho (by decide)
  have hv4 : v < 40 := hpl.2.1
  have hvS := E.1.2.2.2.2.2.2 i 4 p v s hR hs ho (Or.inr (Or.inr (Or.inl rfl))) g1 hpl.1.1 hpl.2.2.2.2.1 hv4
  obtain ⟨T0, ds, os, o, hvn, q1, q2, q3, q4, q5, q6, q7⟩ := sg_pl E hpl
  obtain ⟨e1, e2⟩ := E.2.2.2.2.2.2.2.1 i 4 _ ha hb hs ho (by decide) hN hR
  obtain ⟨hlk, hck⟩ := e1.2.2.2.2.2.1 rfl
  obtain ⟨hU, hck, hnew, hrf⟩ := hck p v bb g1 hpl.1.1 hpl.2.2.2.2.1 hv4 g2 g3
  have hU : (y.1 (vt g v) = 5 ∨ y.1 (vt g v) = 6) → N.2.1 i v := fun q => hU ((sg_rf E hvn q1 q2 q3).mpr q)
  obtain ⟨xx, hx, hx0⟩ := e2.2.2.1 (Or.inr (Or.inr rfl)) p v g1 hpl.1.1 hpl.2.2.2.2.1 hv4
  have hmk := e2.2.1 (by omega)
  have hRm := e2.1 (by omega)
  have hj := E.2.2.2.2.2.2.2.2.2.2.2.1.2 (i + 1) hRm
  obtain ⟨et, ew⟩ := At_s hk
  have h30 : yt ≤ 3040 := E.1.1.1.2.1
  obtain ⟨c1, c2', c3, c4⟩ := E.2.2.2.2.2.2.2.2.2.2.1 i p v bb s ha hb hs ho g1 hpl.1.1 hpl.2.2.2.2.1 hv4 g2 g3
  rcases q7 with ⟨w1, w2, w3, w4, w5, w6⟩ | ⟨rfl, rfl, rfl, rfl, w5, w6⟩
  · obtain ⟨fu, hal, hpf⟩ := sg_rd E hy hk htop hpl hvS q2 q3 q4 q5 w1 w2 w3 w4 w5 hU hx hx0
    have kk := (sg_k E q2).2.2
    have cT0 : cN (F 15 v) = T0 := by rw [q1, cN_nI (by have := q2.2; omega)]
    have hrv : (tb g).2.2.2.2 v ↔ (y.1 (vt g v) = 5 ∨ y.1 (vt g v) = 6) := by
      rw [E.2.2.2.2.2.2.2.2.2.1 v hvn, cT0, q3]; exact kk.1.symm
    have hr15 : (y.1 (vt g v) = 5 ∨ y.1 (vt g v) = 6) → rfB (F 20) (F 15 v) := fun q => by
      rw [q3] at q
      exact (rf_eq q1 (by have := q2.2; omega)).mpr (kk.1.mp q)
    have main : ∀ kq : Nat, (kq = 1 ∧ F 3 i = 0) ∨ (kq = 2 ∧ F 3 i = 1 ∧ mu ≠ 0) → k (i + 1) = some ((kq, T, m9) :: s) → ∀ c2 : Nat → Int, (∀ k : Nat, k < top → c2 k = c k) → c2 top = (rA c (fb f + vo g v) os o : Int) → At y z vt vo vc tb hp a b k N L Rm g f x An fb (i + 1) tk c2 (top + 1) fil := fun kq hkq h1 c2 hc hct => by
      have hv := E.2.2.1 (i + 1) _ hj.1 hj.2 h1
      have n1 : kNm (kq, T, m9) := by
        rcases hkq with ⟨rfl, -⟩ | ⟨rfl, -⟩ <;> (unfold kNm; simp)
      obtain ⟨aa, q⟩ := kS_bor (c2 := c2) (k := kq) (m := m9) (t := if kq = 1 then 10000 + 2 * T else 10001 + 2 * T) (l0 := bb) (al2 := fun u => u < 40 ∧ N.2.1 (i + 1) u ∧ ¬ L (i + 1) u []) (hd := N.1 (i + 1) (40 + wl s)) (v := v) (T := T) (ρ := ds.map stO) (os := os) (o := o) hy hk (by rw [kUx_eq]; rfl) (by rw [kUx_eq]; exact wl_nx n1 hv) (by rw [kUx_eq]; exact no56 (vl_no (vl_1 hv n1))) (by omega) (by
        rcases hkq with ⟨rfl, -⟩ | ⟨rfl, -⟩
        · exact Or.inl ⟨rfl, rfl⟩
        · exact Or.inr ⟨rfl, rfl⟩) hv4 (by rw [kUx_eq]; exact hvS) (by rw [kUx_eq]; exact w1) (by rw [kUx_eq]; exact fu) (by rw [kUx_eq]; exact hal) htop (by rw [kUx_eq]; exact fun u q => kpA E.2.2.2.2.2.2.2.2.1 hlk hmk u (fun q => q) q) (by
        rw [kUx_eq]
        show lCk (tb g) (N.1 i) (fun u => (u < 40 ∧ (u < 40 ∧ N.2.1 (i + 1) u ∧ ¬ L (i + 1) u [])) ∨ (40 ≤ u ∧ u < 40 + wl s)) v (ds.map stO) (kq = 1)
        rw [← q6]
        intro u l a1 a2 a3 a4 a5
        have := hck u l (a1.imp (fun z => ⟨z.1, z.2.2.1⟩) id) a2 a3 a4 a5
        refine ⟨?_, this.2⟩
        rcases hkq with ⟨z9, -⟩ | ⟨-, z9, -⟩
        · exact z9
        · exact absurd z9 this.1) hnew (by rw [kUx_eq]; exact c1) (by rw [kUx_eq]; exact c2') (by rw [kUx_eq]; exact c3.trans q6) (fun hk2 => by
        rw [kUx_eq]
        rcases hkq with ⟨z9, -⟩ | ⟨-, z9, -⟩
        · omega
        · exact c4 z9) (by rw [kUx_eq]; exact hrv) (by
        rw [kUx_eq]
        exact fun q l hh => hrf (hr15 q) l hh) (fun hk2 => by
        rw [kUx_eq]
        intro q
        rcases hkq with ⟨z9, -⟩ | ⟨-, -, z9⟩
        · omega
        · show y.1 (vt g v) = 6
          have q : y.1 (vt g v) = 5 ∨ y.1 (vt g v) = 6 := q
          rw [q3] at q ⊢
          exact kk.2 (w6 (kk.1.mp q) z9)) hc (by rw [kUx_eq]; exact hct)
      rw [kUx_eq, kUx2] at q
      exact At_mk E h1 hRm hlk.1 (st_finR q n1 hv E.2.2.2.2.2.2.2.2.1 hlk hmk (fun l hh => hh))
    refine ⟨p, v, T, z.1 T, nd, ds, os, o, pa, ro, g1, hpf, ?_⟩
    rcases g5 with ⟨g5, g6⟩ | ⟨g5, g6, g7⟩
    · exact main 1 (Or.inl ⟨rfl, g5⟩) g6
    · exact main 2 (Or.inr ⟨rfl, g5, g6⟩) g7
  · exact absurd w5 (by rintro (z9 | z9); exact k5 z9; exact k6 z9)
end
