theorem nFn_0 {fk fi : Nat → Int32} (n : Nat) : nFn fk fi n ≤ n := by
  have := (nFn_le (fk := fk) (fi := fi) (m := 0) n).2
  rw [Nat.zero_add] at this
  have h0 : nFn fk fi 0 = 0 := rfl
  omega
theorem nFn_at {fk fi : Nat → Int32} {ps : Nat → Nat} {j : Nat} (h : fi j = nI (ps j)) (hp : ps j < 3002) : nFn fk fi (j + 1) = nFn fk fi j + (if fk (ps j) = 7 then 1 else 0) := by
  show nFn fk fi j + _ = _
  rw [h, nI_clamp (by omega)]
theorem nFn_up {fk fi : Nat → Int32} {i j : Nat} (h : j ≤ i) : nFn fk fi j ≤ nFn fk fi i ∧ nFn fk fi i ≤ nFn fk fi j + (i - j) := by
  have := nFn_le (fk := fk) (fi := fi) (m := j) (i - j)
  rw [show j + (i - j) = i by omega] at this
  exact this
theorem nFn_f {fk fi : Nat → Int32} {ps : Nat → Nat} {i j : Nat} (h : j < i) (hf : fi j = nI (ps j)) (hp : ps j < 3002) (h7 : fk (ps j) = 7) : nFn fk fi j < nFn fk fi i := by
  have h1 := nFn_at (fk := fk) hf hp
  rw [if_pos h7] at h1
  have := (nFn_up (fk := fk) (fi := fi) (show j + 1 ≤ i by omega)).1
  omega
theorem nFn_s {fk fi : Nat → Int32} {ps : Nat → Nat} {i j : Nat} (h : j < i) (hf : fi j = nI (ps j)) (hp : ps j < 3002) (h7 : fk (ps j) ≠ 7) : j - nFn fk fi j < i - nFn fk fi i := by
  have h1 := nFn_at (fk := fk) hf hp
  rw [if_neg h7] at h1
  have := (nFn_up (fk := fk) (fi := fi) (show j + 1 ≤ i by omega)).2
  have := nFn_0 (fk := fk) (fi := fi) j
  have := nFn_0 (fk := fk) (fi := fi) i
  omega
/-- item j: its name is known, and PF or PS of it -/
def rnA (fk fi fn : Nat → Int32) (ps : Nat → Nat) (nq : Nat) (fm fst ak : Nat → Int32) (PF PS : Prop) (j : Nat) : Prop := ∃ kn : Nat, kn < nq ∧ fn (ps j + 1) = nI kn ∧ ((fk (ps j) = 7 ∧ fm kn = -nI (nFn fk fi j + 1) ∧ PF) ∨ (fk (ps j) ≠ 7 ∧ fm kn = nI (j - nFn fk fi j + 1) ∧ fst (j - nFn fk fi j) = nI (ps j + 1) ∧ ak (4 + (j - nFn fk fi j)) = (if fk (ps j) = 5 then 2 else 3) ∧ PS))
theorem rnA_m {fk fi fn : Nat → Int32} {ps : Nat → Nat} {nq : Nat} {fm fst ak : Nat → Int32} {PF PS PF' PS' : Prop} {j : Nat} (h : rnA fk fi fn ps nq fm fst ak PF PS j) (h1 : fk (ps j) = 7 → PF → PF') (h2 : fk (ps j) ≠ 7 → PS → PS') : rnA fk fi fn ps nq fm fst ak PF' PS' j := by
  obtain ⟨kn, a1, a2, a3⟩ := h
  refine ⟨kn, a1, a2, ?_⟩
  rcases a3 with ⟨b1, b2, b3⟩ | ⟨b1, b2, b3, b4, b5⟩
  · exact Or.inl ⟨b1, b2, h1 b1 b3⟩
  · exact Or.inr ⟨b1, b2, b3, b4, h2 b1 b5⟩
theorem ngI_ne : ∀ f : Nat, f < 40 → (-nI (f + 1) : Int32) ≠ 0 := by decide +kernel
theorem shI_ne : ∀ f : Nat, f < 30 → (nI (f + 1) : Int32) ≠ 0 := by decide +kernel
/-- the names of the first i items were read -/
def rn1 (fk fi fn : Nat → Int32) (ps : Nat → Nat) (nq i yp nb : Nat) (fm fst fv ak : Nat → Int32) (fc : Nat → Nat → Int32) : Prop := nb + yp = i ∧ nFn fk fi i = nb ∧ mnI nq yp nb fm ∧ ∀ j : Nat, j < i → rnA fk fi fn ps nq fm fst ak (fnB (fc (nFn fk fi j)) (ps j + 1)) (fv (j - nFn fk fi j) = nI 0) j
theorem mnI_up {nq yp nb yp2 nb2 kn : Nat} {fm : Nat → Int32} {x : Int32} (h : mnI nq yp nb fm) (h1 : yp ≤ yp2) (h2 : nb ≤ nb2) (hx : (∃ s : Nat, s < yp2 ∧ x = nI (s + 1)) ∨ ∃ f : Nat, f < nb2 ∧ x = -nI (f + 1)) : mnI nq yp2 nb2 (upd fm kn x) := fun j hj => by
  by_cases e : j = kn
  · subst e; rw [pk_us]; exact Or.inr hx
  · rw [pk_un e]
    rcases h j hj with z | ⟨s, z1, z2⟩ | ⟨f, z1, z2⟩
    · exact Or.inl z
    · exact Or.inr (Or.inl ⟨s, by omega, z2⟩)
    · exact Or.inr (Or.inr ⟨f, by omega, z2⟩)
theorem rn1_0 {fk fi fn : Nat → Int32} {ps : Nat → Nat} {nq : Nat} {fm fst fv ak : Nat → Int32} {fc : Nat → Nat → Int32} (h : ∀ j : Nat, j < nq → fm j = 0) : rn1 fk fi fn ps nq 0 0 0 fm fst fv ak fc := ⟨rfl, rfl, fun j hj => Or.inl (h j hj), fun j hj => absurd hj (by omega)⟩
theorem rn1_F {fk fi fn : Nat → Int32} {ps : Nat → Nat} {nq i yp nb kn : Nat} {fm fst fv ak : Nat → Int32} {fc gc : Nat → Nat → Int32} (h : rn1 fk fi fn ps nq i yp nb fm fst fv ak fc) (hps : ∀ j : Nat, j ≤ i → fi j = nI (ps j) ∧ ps j < 3002) (hyp : yp ≤ 30) (hnb : nb < 40) (h7 : fk (ps i) = 7) (hk : kn < nq) (hke : fn (ps i + 1) = nI kn) (hk0 : fm kn = 0) (hg : ∀ j : Nat, j ≠ nb → gc j = fc j) (hB : fnB (gc nb) (ps i + 1)) : rn1 fk fi fn ps nq (i + 1) yp (nb + 1) (upd fm kn (-nI (nb + 1))) fst fv ak gc := by
  obtain ⟨a1, a2, a3, a4⟩ := h
  refine ⟨by omega, by rw [nFn_at (hps i (Nat.le_refl _)).1 (hps i (Nat.le_refl _)).2, if_pos h7]; omega, mnI_up a3 (Nat.le_refl _) (Nat.le_succ _) (Or.inr ⟨nb, by omega, rfl⟩), fun j hj => ?_⟩
  by_cases e : j = i
  · subst e
    exact ⟨kn, hk, hke, Or.inl ⟨h7, by rw [a2]; exact pk_us, by rw [a2]; exact hB⟩⟩
  · have hji : j < i := by omega
    obtain ⟨k1, b1, b2, b3⟩ := a4 j hji
    have hp := hps j (by omega)
    refine ⟨k1, b1, b2, ?_⟩
    rcases b3 with ⟨c1, c2, c3⟩ | ⟨c1, c2, c3⟩
    · have hlt := nFn_f (fk := fk) hji hp.1 hp.2 c1
      have hne : k1 ≠ kn := fun q => ngI_ne (nFn fk fi j) (by omega) (by rw [← c2, q]; exact hk0)
      exact Or.inl ⟨c1, by rw [pk_un hne]; exact c2, by rw [hg _ (by omega)]; exact c3⟩
    · have hlt := nFn_s (fk := fk) hji hp.1 hp.2 c1
      have hne : k1 ≠ kn := fun q => shI_ne (j - nFn fk fi j) (by omega) (by rw [← c2, q]; exact hk0)
      exact Or.inr ⟨c1, by rw [pk_un hne]; exact c2, c3⟩
theorem rn1_H {fk fi fn : Nat → Int32} {ps : Nat → Nat} {nq i yp nb kn : Nat} {fm fst fv ak : Nat → Int32} {fc : Nat → Nat → Int32} (h : rn1 fk fi fn ps nq i yp nb fm fst fv ak fc) (hps : ∀ j : Nat, j ≤ i → fi j = nI (ps j) ∧ ps j < 3002) (hyp : yp < 30) (hnb : nb ≤ 40) (h7 : fk (ps i) ≠ 7) (hk : kn < nq) (hke : fn (ps i + 1) = nI kn) (hk0 : fm kn = 0) : rn1 fk fi fn ps nq (i + 1) (yp + 1) nb (upd fm kn (nI (yp + 1))) (upd fst yp (nI (ps i + 1))) (upd fv yp 0) (upd ak (4 + yp) (if fk (ps i) = 5 then 2 else 3)) fc := by
  obtain ⟨a1, a2, a3, a4⟩ := h
  have hi : i - nFn fk fi i = yp := by omega
  refine ⟨by omega, by rw [nFn_at (hps i (Nat.le_refl _)).1 (hps i (Nat.le_refl _)).2, if_neg h7]; omega, mnI_up a3 (Nat.le_succ _) (Nat.le_refl _) (Or.inl ⟨yp, by omega, rfl⟩), fun j hj => ?_⟩
  by_cases e : j = i
  · subst e
    exact ⟨kn, hk, hke, Or.inr ⟨h7, by rw [hi]; exact pk_us, by rw [hi]; exact pk_us, by rw [hi]; exact pk_us, by rw [hi]; exact pk_us⟩⟩
  · have hji : j < i := by omega
    obtain ⟨k1, b1, b2, b3⟩ := a4 j hji
    have hp := hps j (by omega)
    refine ⟨k1, b1, b2, ?_⟩
    rcases b3 with ⟨c1, c2, c3⟩ | ⟨c1, c2, c3, c4, c5⟩
    · have hlt := nFn_f (fk := fk) hji hp.1 hp.2 c1
      have hne : k1 ≠ kn := fun q => ngI_ne (nFn fk fi j) (by omega) (by rw [← c2, q]; exact hk0)
      exact Or.inl ⟨c1, by rw [pk_un hne]; exact c2, c3⟩
    · have hlt := nFn_s (fk := fk) hji hp.1 hp.2 c1
      have hne : k1 ≠ kn := fun q => shI_ne (j - nFn fk fi j) (by omega) (by rw [← c2, q]; exact hk0)
      exact Or.inr ⟨c1, by rw [pk_un hne]; exact c2, by rw [pk_un (by omega)]; exact c3, by rw [pk_un (by omega)]; exact c4, by rw [pk_un (by omega)]; exact c5⟩
/-- the table with nothing but shapes -/
theorem tyOK_0 {k0 d0 gs gb gh gu go : Nat → Int32} (h : tyB 34 k0 gs d0 gb gh gu) : tyOK 0 (34, upd k0 3 1, go, gs, upd d0 3 1, gb, gh, gu) := by
  have q := fun j (hj : j < 34) => h j hj
  refine ⟨by omega, by omega, by omega, ⟨?_, ?_, ?_, ?_⟩, ⟨?_, ?_, ?_, ?_⟩, ⟨?_, ?_, ?_, ?_, fun s _ h30 => by rw [pk_un (by omega)]; exact (q (4 + s) (by omega)).1⟩, fun s hs => absurd hs (by omega), fun t h1 h2 => absurd h2 (by omega), fun j hj => ⟨Or.inl (q j hj).2.2.2.1, Or.inl (q j hj).2.2.2.2.1, Or.inl (q j hj).2.2.2.2.2⟩⟩
  · rw [pk_un (by decide)]; exact (q 0 (by omega)).1
  · rw [pk_un (by decide)]; exact (q 1 (by omega)).1
  · rw [pk_un (by decide)]; exact (q 2 (by omega)).1
  · exact pk_us
  · exact (q 0 (by omega)).2.1
  · exact (q 1 (by omega)).2.1
  · exact (q 2 (by omega)).2.1
  · exact (q 3 (by omega)).2.1
  · rw [pk_un (by decide)]; exact (q 0 (by omega)).2.2.1
  · rw [pk_un (by decide)]; exact (q 1 (by omega)).2.2.1
  · rw [pk_un (by decide)]; exact (q 2 (by omega)).2.2.1
  · exact pk_us
theorem tyOK_H {yp : Nat} {ak ao az ad ab ah au : Nat → Int32} {kd : Int32} (h : tyOK yp (34, ak, ao, az, ad, ab, ah, au)) (hyp : yp < 30) (hk : kd = 2 ∨ kd = 3) : tyOK (yp + 1) (34, upd ak (4 + yp) kd, ao, az, ad, ab, ah, au) := by
  obtain ⟨a1, a2, a3, ⟨b1, b2, b3, b4⟩, c1, ⟨d1, d2, d3, d4, d5⟩, e1, f1, g1⟩ := h
  refine ⟨a1, a2, by omega, ⟨?_, ?_, ?_, ?_⟩, c1, ⟨d1, d2, d3, d4, fun s h9 h30 => by rw [pk_un (by omega)]; exact d5 s (by omega) h30⟩, fun s hs => ?_, fun t h1 h2 => absurd h2 (by omega), fun j hj => ?_⟩
  · rw [pk_un (by omega)]; exact b1
  · rw [pk_un (by omega)]; exact b2
  · rw [pk_un (by omega)]; exact b3
  · rw [pk_un (by omega)]; exact b4
  · by_cases e : s = yp
    · subst e; rw [pk_us]; exact hk
    · rw [pk_un (by omega)]; exact e1 s (by omega)
  · obtain ⟨x1, x2, x3⟩ := g1 j hj
    have q : ∀ {kd2 : Int32} {f : Nat → Int32}, tyC kd2 34 ak ao f j → tyC kd2 34 (upd ak (4 + yp) kd) ao f j := fun {kd2 f} h => by
      rcases h with h | ⟨r, h1, h2, -⟩
      · exact Or.inl h
      · exact absurd h2 (by omega)
    exact ⟨q x1, q x2, q x3⟩
theorem fnH_tt {yp yt lo tt tt2 lv np : Nat} {ak fk lF et pl : Nat → Int32} {rs rl bd : Int32} (h : fnH yp yt lo tt ak fk lF lv np et pl rs rl bd) (ht : tt ≤ tt2) : fnH yp yt lo tt2 ak fk lF lv np et pl rs rl bd := by
  obtain ⟨a1, a2, a3, a4, p, q, b, v, b1, b2, b3, b4, b5⟩ := h
  exact ⟨a1, a2, a3, a4, p, q, b, v, b1, b2, b3, by omega, b5⟩
theorem fnH_up {yp yt yt2 lo tt lv np : Nat} {ak gk fk lF et pl : Nat → Int32} {rs rl bd : Int32} (h : fnH yp yt lo tt ak fk lF lv np et pl rs rl bd) (he : ∀ j : Nat, j < yt → gk j = ak j) (hy : yt ≤ yt2) : fnH yp yt2 lo tt gk fk lF lv np et pl rs rl bd := by
  obtain ⟨a1, a2, a3, a4, a5⟩ := h
  refine ⟨a1, a2, paR_up a3 he hy, ?_, a5⟩
  rcases a4 with z | ⟨⟨u, z1, z2⟩, z3⟩
  · exact Or.inl z
  · exact Or.inr ⟨⟨u, z1, tyV_up z2 he hy⟩, z3⟩
/-- a function's head was read -/
def itF (yp yt tt : Nat) (ak fk lF : Nat → Int32) (x : Nat → Int32) (y : Nat → Nat → Int32) (tk : Nat) : Prop := ∃ lv np : Nat, fnG x tk lv np ∧ fnH yp yt (tk - 1) tt ak fk lF lv np (y 3) (y 1) (x 5) (x 6) (x 1) ∧ opI np (y 7)
theorem itF_up {yp yt yt2 tt tk : Nat} {ak gk fk lF x : Nat → Int32} {y : Nat → Nat → Int32} (h : itF yp yt tt ak fk lF x y tk) (he : ∀ j : Nat, j < yt → gk j = ak j) (hy : yt ≤ yt2) : itF yp yt2 tt gk fk lF x y tk := by
  obtain ⟨lv, np, h1, h2, h3⟩ := h
  exact ⟨lv, np, h1, fnH_up h2 he hy, h3⟩
/-- a shape was read -/
def itS (yp yt : Nat) (wd : Int32) (ak fv fpa fpt : Nat → Int32) (s : Nat) : Prop := ∃ n : Nat, (1 ≤ n ∧ (wd = 5 → n = 1)) ∧ shR yp yt s n ak fv fpa fpt
theorem itS_up {yp yt yt2 s : Nat} {wd : Int32} {ak gk fv fpa fpt gv gpa gpt : Nat → Int32} (h : itS yp yt wd ak fv fpa fpt s) (he : ∀ j : Nat, j < yt → gk j = ak j) (hy : yt ≤ yt2) (h1 : gv s = fv s) (h2 : ∀ j : Nat, s * 12 ≤ j → j < s * 12 + 12 → gpa j = fpa j) (h3 : ∀ j : Nat, s * 144 ≤ j → j < s * 144 + 144 → gpt j = fpt j) : itS yp yt2 wd gk gv gpa gpt s := by
  obtain ⟨n, h4, h5, h6, h7⟩ := h
  refine ⟨n, h4, h5, h1.trans h6, fun i hi => ?_⟩
  obtain ⟨k, hk⟩ := h7 i hi
  exact ⟨k, prR_up hk he hy (h2 _ (by omega) (by omega)) (fun j hj => h3 _ (by omega) (by omega))⟩
/-- all names were read, and i of the m items -/
def rn2 (fk fi fn lF : Nat → Int32) (ps : Nat → Nat) (nq tt m i yp nb yt : Nat) (fm fst fv fpa fpt ak : Nat → Int32) (fc : Nat → Nat → Int32) (fr : Nat → Nat → Nat → Int32) : Prop := nb + yp = m ∧ nFn fk fi m = nb ∧ mnI nq yp nb fm ∧ ∀ j : Nat, j < m → rnA fk fi fn ps nq fm fst ak (if j < i then itF yp yt (ps (j + 1) + 1) ak fk lF (fc (nFn fk fi j)) (fr (nFn fk fi j)) (ps j + 1) else fnB (fc (nFn fk fi j)) (ps j + 1)) (if j < i then itS yp yt (fk (ps j)) ak fv fpa fpt (j - nFn fk fi j) else fv (j - nFn fk fi j) = nI 0) j
theorem rn2_0 {fk fi fn lF : Nat → Int32} {ps : Nat → Nat} {nq tt m yp nb yt : Nat} {fm fst fv fpa fpt ak : Nat → Int32} {fc : Nat → Nat → Int32} {fr : Nat → Nat → Nat → Int32} (h : rn1 fk fi fn ps nq m yp nb fm fst fv ak fc) : rn2 fk fi fn lF ps nq tt m 0 yp nb yt fm fst fv fpa fpt ak fc fr := ⟨h.1, h.2.1, h.2.2.1, fun j hj => rnA_m (h.2.2.2 j hj) (fun _ z => by rw [if_neg (by omega)]; exact z) (fun _ z => by rw [if_neg (by omega)]; exact z)⟩
theorem rnA_k {fk fi fn : Nat → Int32} {ps : Nat → Nat} {nq : Nat} {fm fst ak gk : Nat → Int32} {PF PS : Prop} {j : Nat} (h : rnA fk fi fn ps nq fm fst ak PF PS j) (he : fk (ps j) ≠ 7 → gk (4 + (j - nFn fk fi j)) = ak (4 + (j - nFn fk fi j))) : rnA fk fi fn ps nq fm fst gk PF PS j := by
  obtain ⟨kn, a1, a2, a3⟩ := h
  refine ⟨kn, a1, a2, ?_⟩
  rcases a3 with z | ⟨b1, b2, b3, b4, b5⟩
  · exact Or.inl z
  · exact Or.inr ⟨b1, b2, b3, (he b1).trans b4, b5⟩
theorem rn2_F {fk fi fn lF : Nat → Int32} {ps : Nat → Nat} {nq tt m i yp nb yt yt2 : Nat} {fm fst fv fpa fpt ak gk : Nat → Int32} {fc gc : Nat → Nat → Int32} {fr gr : Nat → Nat → Nat → Int32} (h : rn2 fk fi fn lF ps nq tt m i yp nb yt fm fst fv fpa fpt ak fc fr) (hi : i < m) (hps : ∀ j : Nat, j < m → fi j = nI (ps j) ∧ ps j < 3002) (hyp : yp ≤ 30) (hyt : 34 ≤ yt) (h7 : fk (ps i) = 7) (hg : ∀ j : Nat, j ≠ nFn fk fi i → gc j = fc j ∧ gr j = fr j) (he : ∀ j : Nat, j < yt → gk j = ak j) (hy : yt ≤ yt2) (hF : itF yp yt2 (ps (i + 1) + 1) gk fk lF (gc (nFn fk fi i)) (gr (nFn fk fi i)) (ps i + 1)) : rn2 fk fi fn lF ps nq tt m (i + 1) yp nb yt2 fm fst fv fpa fpt gk gc gr := by
  obtain ⟨a1, a2, a3, a4⟩ := h
  refine ⟨a1, a2, a3, fun j hj => ?_⟩
  have hs : fk (ps j) ≠ 7 → gk (4 + (j - nFn fk fi j)) = ak (4 + (j - nFn fk fi j)) := fun z => he _ (by have := nFn_s (fk := fk) hj (hps j hj).1 (hps j hj).2 z; omega)
  refine rnA_k (rnA_m (a4 j hj) (fun z w => ?_) (fun z w => ?_)) hs
  · by_cases e : j = i
    · subst e; rw [if_pos (by omega)]; exact hF
    · have hne : nFn fk fi j ≠ nFn fk fi i := by
        rcases Nat.lt_or_ge j i with y | y
        · have := nFn_f (fk := fk) y (hps j hj).1 (hps j hj).2 z; omega
        · have := nFn_f (fk := fk) (show i < j by omega) (hps i hi).1 (hps i hi).2 h7; omega
      rw [(hg _ hne).1, (hg _ hne).2]
      rcases Nat.lt_or_ge j i with y | y
      · rw [if_pos (by omega)]; rw [if_pos y] at w; exact itF_up w he hy
      · rw [if_neg (by omega)]; rw [if_neg (by omega)] at w; exact w
  · rcases Nat.lt_or_ge j i with y | y
    · rw [if_pos (by omega)]; rw [if_pos y] at w; exact itS_up w he hy rfl (fun _ _ _ => rfl) (fun _ _ _ => rfl)
    · have : j ≠ i := fun q => z (by rw [q]; exact h7)
      rw [if_neg (by omega)]; rw [if_neg (by omega)] at w; exact w
theorem rn2_H {fk fi fn lF : Nat → Int32} {ps : Nat → Nat} {nq tt m i yp nb yt yt2 : Nat} {fm fst fv fpa fpt gv gpa gpt ak gk : Nat → Int32} {fc : Nat → Nat → Int32} {fr : Nat → Nat → Nat → Int32} (h : rn2 fk fi fn lF ps nq tt m i yp nb yt fm fst fv fpa fpt ak fc fr) (hi : i < m) (hps : ∀ j : Nat, j < m → fi j = nI (ps j) ∧ ps j < 3002) (hyp : yp ≤ 30) (hyt : 34 ≤ yt) (h7 : fk (ps i) ≠ 7) (ho : shO (i - nFn fk fi i) fv fpa fpt gv gpa gpt) (he : ∀ j : Nat, j < yt → gk j = ak j) (hy : yt ≤ yt2) (hS : itS yp yt2 (fk (ps i)) gk gv gpa gpt (i - nFn fk fi i)) : rn2 fk fi fn lF ps nq tt m (i + 1) yp nb yt2 fm fst gv gpa gpt gk fc fr := by
  obtain ⟨a1, a2, a3, a4⟩ := h
  refine ⟨a1, a2, a3, fun j hj => ?_⟩
  have hs : fk (ps j) ≠ 7 → gk (4 + (j - nFn fk fi j)) = ak (4 + (j - nFn fk fi j)) := fun z => he _ (by have := nFn_s (fk := fk) hj (hps j hj).1 (hps j hj).2 z; omega)
  refine rnA_k (rnA_m (a4 j hj) (fun z w => ?_) (fun z w => ?_)) hs
  · have hji : j ≠ i := fun q => h7 (by rw [← q]; exact z)
    rcases Nat.lt_or_ge j i with y | y
    · rw [if_pos (by omega)]; rw [if_pos y] at w; exact itF_up w he hy
    · rw [if_neg (by omega)]; rw [if_neg (by omega)] at w; exact w
  · by_cases e : j = i
    · subst e; rw [if_pos (by omega)]; exact hS
    · have hne : j - nFn fk fi j ≠ i - nFn fk fi i := by
        rcases Nat.lt_or_ge j i with y | y
        · have := nFn_s (fk := fk) y (hps j hj).1 (hps j hj).2 z; omega
        · have := nFn_s (fk := fk) (show i < j by omega) (hps i hi).1 (hps i hi).2 h7; omega
      rcases Nat.lt_or_ge j i with y | y
      · rw [if_pos (by omega)]; rw [if_pos y] at w; exact itS_up w he hy (ho.1 _ hne) (fun k h1 h2 => ho.2.1 k (by omega)) (fun k h1 h2 => ho.2.2 k (by omega))
      · rw [if_neg (by omega)]; rw [if_neg (by omega)] at w; rw [ho.1 _ hne]; exact w
/-- what Declarations.read leaves, if there is no fault -/
def dcI (fk fi fn lF : Nat → Int32) (ps : Nat → Nat) (nq tt mq yp nb yt : Nat) (fm fst fv fpa fpt fof ak ao az ad ab ah au : Nat → Int32) (fc : Nat → Nat → Int32) (fr : Nat → Nat → Nat → Int32) (mi : Int32) : Prop := rn2 fk fi fn lF ps nq tt mq mq yp nb yt fm fst fv fpa fpt ak fc fr ∧ tyOK yp (yt, ak, ao, az, ad, ab, ah, au) ∧ szI yp yp az ∧ msI yp ak fv fpa az fpt fof ∧ ∃ m9 : Nat, m9 < nb ∧ mi = nI m9 ∧ fc m9 2 = nI 0 ∧ fc m9 3 = nI 0 ∧ fc m9 5 = 0
/-- the items' places, with the text's end behind them -/
theorem ps_end {m nw tt : Nat} {fk fi fl : Nat → Int32} {ps qs : Nat → Nat} (h1 : ∀ j : Nat, j < m → fi j = nI (ps j) ∧ ps j < qs j ∧ qs j ≤ nw ∧ qs j < tt) (h2 : ∀ j : Nat, j + 1 < m → qs j ≤ ps (j + 1)) (h3 : ∀ lF : Nat → Int32, (∀ j : Nat, j < nw → lF j = fl j) → ∀ j : Nat, j < m → itR fk lF (ps j) (qs j)) (ht : 0 < tt) : ∃ p2 : Nat → Nat, (∀ j : Nat, j < m → fi j = nI (p2 j) ∧ p2 j < qs j ∧ qs j ≤ nw ∧ qs j < tt) ∧ (∀ j : Nat, j < m → qs j ≤ p2 (j + 1)) ∧ p2 m < tt ∧ ∀ lF : Nat → Int32, (∀ j : Nat, j < nw → lF j = fl j) → ∀ j : Nat, j < m → itR fk lF (p2 j) (qs j) := by
  refine ⟨fun j => if j < m then ps j else tt - 1, fun j hj => ?_, fun j hj => ?_, ?_, fun lF hF j hj => ?_⟩
  · show fi j = nI (if j < m then ps j else tt - 1) ∧ (if j < m then ps j else tt - 1) < qs j ∧ _
    rw [if_pos hj]; exact h1 j hj
  · show qs j ≤ if j + 1 < m then ps (j + 1) else tt - 1
    by_cases e : j + 1 < m
    · rw [if_pos e]; exact h2 j e
    · rw [if_neg e]; have := (h1 j hj).2.2.2; omega
  · show (if m < m then ps m else tt - 1) < tt
    rw [if_neg (Nat.lt_irrefl m)]; omega
  · show itR fk lF (if j < m then ps j else tt - 1) (qs j)
    rw [if_pos hj]; exact h3 lF hF j hj
theorem tyOK_ms {yp yt : Nat} {ak ao az ad ab ah au gz gd : Nat → Int32} (h : tyOK yp (yt, ak, ao, az, ad, ab, ah, au)) (hk : ∀ j : Nat, (j < 4 ∨ 34 ≤ j) → gz j = az j ∧ gd j = ad j) : tyOK yp (yt, ak, ao, gz, gd, ab, ah, au) := by
  obtain ⟨a1, a2, a3, b1, ⟨c1, c2, c3, c4⟩, ⟨d1, d2, d3, d4, d5⟩, e1, f1, g1⟩ := h
  refine ⟨a1, a2, a3, b1, ⟨?_, ?_, ?_, ?_⟩, ⟨?_, ?_, ?_, ?_, d5⟩, e1, fun t h1 h2 => ?_, g1⟩
  · rw [(hk 0 (by omega)).1]; exact c1
  · rw [(hk 1 (by omega)).1]; exact c2
  · rw [(hk 2 (by omega)).1]; exact c3
  · rw [(hk 3 (by omega)).1]; exact c4
  · rw [(hk 0 (by omega)).2]; exact d1
  · rw [(hk 1 (by omega)).2]; exact d2
  · rw [(hk 2 (by omega)).2]; exact d3
  · rw [(hk 3 (by omega)).2]; exact d4
  · rw [(hk t (Or.inr h1)).1, (hk t (Or.inr h1)).2]; exact f1 t h1 h2
/-- every function among the first nb is one of the items -/
theorem nFn_on {fk fi : Nat → Int32} {ps : Nat → Nat} : ∀ (mq f : Nat), (∀ j : Nat, j < mq → fi j = nI (ps j) ∧ ps j < 3002) → f < nFn fk fi mq → ∃ j : Nat, j < mq ∧ fk (ps j) = 7 ∧ nFn fk fi j = f
  | 0, f, _, h => absurd h (by show ¬ f < 0; omega)
  | mq + 1, f, hp, h => by
    rw [nFn_at (hp mq (by omega)).1 (hp mq (by omega)).2] at h
    rcases Nat.lt_or_ge f (nFn fk fi mq) with z | z
    · obtain ⟨j, h1, h2, h3⟩ := nFn_on mq f (fun j hj => hp j (by omega)) z
      exact ⟨j, by omega, h2, h3⟩
    · by_cases e : fk (ps mq) = 7
      · rw [if_pos e] at h; exact ⟨mq, by omega, e, by omega⟩
      · rw [if_neg e] at h; omega
theorem nSh_on {fk fi : Nat → Int32} {ps : Nat → Nat} : ∀ (mq s : Nat), (∀ j : Nat, j < mq → fi j = nI (ps j) ∧ ps j < 3002) → s < mq - nFn fk fi mq → ∃ j : Nat, j < mq ∧ fk (ps j) ≠ 7 ∧ j - nFn fk fi j = s
  | 0, s, _, h => absurd h (by omega)
  | mq + 1, s, hp, h => by
    have h0 := nFn_0 (fk := fk) (fi := fi) mq
    rw [nFn_at (hp mq (by omega)).1 (hp mq (by omega)).2] at h
    rcases Nat.lt_or_ge s (mq - nFn fk fi mq) with z | z
    · obtain ⟨j, h1, h2, h3⟩ := nSh_on mq s (fun j hj => hp j (by omega)) z
      exact ⟨j, by omega, h2, h3⟩
    · by_cases e : fk (ps mq) = 7
      · rw [if_pos e] at h; omega
      · rw [if_neg e] at h; exact ⟨mq, by omega, e, by omega⟩
