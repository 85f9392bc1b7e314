/-- a segment with jumps D that are still to be set: where they lead, the stack is yD; cD: none of them is reached -/
def tsgo (R : yR) (S0 S : Sg) (E : eV) (L a b : Nat) (x y : List tE) (D : Nat → Prop) (yD : List tE) (cl cD : Prop) : Prop := ∃ (st : Nat → List tE) (W : Nat → Prop), wkS x (st a) ∧ st b = y ∧ W a ∧ (cl → ¬ W b) ∧ a ≤ b ∧ (∀ k : Nat, D k → a ≤ k ∧ k < b) ∧ (cD → ∀ k : Nat, D k → ¬ W k) ∧ ∀ k : Nat, a ≤ k → k < b → wl (st k) ≤ 177 ∧
  (¬ D k → ∃ i : iR, rz R S0 S k i ∧ (∀ l : Nat, i.ln = some l → l < L) ∧ (∀ j ∈ i.sc, a ≤ j ∧ j ≤ b ∧ (W k → W j) ∧ bkO S k j) ∧ tPt E k (W k) i (st k) (fun j s => a ≤ j ∧ j ≤ b ∧ wkS s (st j))) ∧
  (D k → ∀ T : Nat, k < T → T < 24000 → ∃ i : iR, rz R S0 (Ur S 30 (upd (Zr S 30) k (nI T))) k i ∧ i.ln = none ∧ (∀ j ∈ i.sc, j = T ∨ (j = k + 1 ∧ (W k → W j))) ∧ tPt E k (W k) i (st k) (fun j s => (j = T ∧ wkS s yD) ∨ (j = k + 1 ∧ wkS s (st j))))
section LY18
variable {R : yR} {S0 S S2 : Sg} {E : eV} {L L2 a b c : Nat} {x y z yD : List tE} {cl cl2 cl3 cD cD2 : Prop} {D D2 : Nat → Prop}
/-- rows of a state where a jump is set -/
theorem RK_j {k T : Nat} (h : RK S S2 k) : RK (Ur S 30 (upd (Zr S 30) k (nI T))) (Ur S2 30 (upd (Zr S2 30) k (nI T))) k := ⟨fun r h1 h2 => by
  by_cases e : r = 30
  · subst e; rw [Zr_us, Zr_us, upd_s, upd_s]
  · rw [Zr_un e, Zr_un e]; exact h.1 r h1 h2, h.2.1, h.2.2⟩
theorem LX_j {k : Nat} {v w : Int32} (h : LX S S2) : LX (Ur S 30 (upd (Zr S 30) k v)) (Ur S2 30 (upd (Zr S2 30) k w)) := ⟨h.1, h.2.1, fun r hr => by
  have e : r ≠ 30 := fun e => hr (Or.inl (by omega))
  rw [Zr_un e, Zr_un e]; exact h.2.2.1 r hr, h.2.2.2⟩
theorem tsgo.of (h : tsg R S0 S E L a b x y cl) : tsgo R S0 S E L a b x y (fun _ => False) yD cl cD := by
  obtain ⟨st, W, h1, h2, h3, h4, h5, h6⟩ := h
  refine ⟨st, W, h1, h2, h3, h4, h5, fun _ w => w.elim, fun _ _ w => w.elim, fun k hk hb => ?_⟩
  obtain ⟨i, q1, q2, q3, q4, q5⟩ := h6 k hk hb
  exact ⟨q4, fun _ => ⟨i, q1, q2, q3, q5⟩, fun w => w.elim⟩
theorem tsgo.st (h : tsgo R S0 S E L a b x y D yD cl cD) (hz : LZ b L S S2) : tsgo R S0 S2 E L a b x y D yD cl cD := by
  obtain ⟨st, W, h1, h2, h3, h4, h5, h6, h7, h8⟩ := h
  refine ⟨st, W, h1, h2, h3, h4, h5, h6, h7, fun k hk hb => ?_⟩
  obtain ⟨q0, q1, q2⟩ := h8 k hk hb
  refine ⟨q0, fun hd => ?_, fun hd T hT hT2 => ?_⟩
  · obtain ⟨i, p1, p2, p3, p4⟩ := q1 hd
    exact ⟨i, p1.st hz.1 (hz.2.1 k hb) (fun l e => hz.2.2.1 l (p2 l e)), p2, fun j hj => ⟨(p3 j hj).1, (p3 j hj).2.1, (p3 j hj).2.2.1, (p3 j hj).2.2.2.st hz hb⟩, p4⟩
  · obtain ⟨i, p1, p2, p3⟩ := q2 hd T hT hT2
    exact ⟨i, p1.st (LX_j hz.1) (RK_j (hz.2.1 k hb)) (fun l e => by rw [p2] at e; cases e), p2, p3⟩
theorem tsgo.up (h : tsgo R S0 S E L a b x y D yD cl cD) (hl : L ≤ L2) : tsgo R S0 S E L2 a b x y D yD cl cD := by
  obtain ⟨st, W, h1, h2, h3, h4, h5, h6, h7, h8⟩ := h
  refine ⟨st, W, h1, h2, h3, h4, h5, h6, h7, fun k hk hb => ?_⟩
  obtain ⟨q0, q1, q2⟩ := h8 k hk hb
  exact ⟨q0, fun hd => by obtain ⟨i, p1, p2, p3⟩ := q1 hd; exact ⟨i, p1, fun l e => Nat.lt_of_lt_of_le (p2 l e) hl, p3⟩, q2⟩
theorem tsgo.fl (h : tsgo R S0 S E L a b x y D yD cl cD) (hc : cl2 → cl) (hd : cD2 → cD) : tsgo R S0 S E L a b x y D yD cl2 cD2 := by
  obtain ⟨st, W, h1, h2, h3, h4, h5, h6, h7, h8⟩ := h
  exact ⟨st, W, h1, h2, h3, fun w => h4 (hc w), h5, h6, fun w => h7 (hd w), h8⟩
theorem tsgo.wk {x2 y2 : List tE} (h : tsgo R S0 S E L a b x y D yD cl cD) (hx : wkS x2 x) (hy : wkS y y2) (hab : a < b) : tsgo R S0 S E L a b x2 y2 D yD cl cD := by
  obtain ⟨st, W, h1, h2, h3, h4, h5, h6, h7, h8⟩ := h
  have hj : ∀ {j : Nat} {s : List tE}, wkS s (st j) → wkS s (pcE b y2 st j) := fun {j s} j3 => by
    by_cases e : j = b
    · subst e; rw [pcE_s]; rw [h2] at j3; exact j3.tr hy
    · rw [pcE_n e]; exact j3
  refine ⟨pcE b y2 st, W, by rw [pcE_n (by omega)]; exact hx.tr h1, pcE_s, h3, h4, h5, h6, h7, fun k hk hb => ?_⟩
  obtain ⟨q0, q1, q2⟩ := h8 k hk hb
  rw [pcE_n (show k ≠ b by omega)]
  refine ⟨q0, fun hd => ?_, fun hd T hT hT2 => ?_⟩
  · obtain ⟨i, p1, p2, p3, p4⟩ := q1 hd
    exact ⟨i, p1, p2, p3, p4.im (fun w => w) (fun j s ⟨j1, j2, j3⟩ => ⟨j1, j2, hj j3⟩)⟩
  · obtain ⟨i, p1, p2, p3, p4⟩ := q2 hd T hT hT2
    exact ⟨i, p1, p2, p3, p4.im (fun w => w) (fun j s w => w.imp id (fun ⟨j1, j3⟩ => ⟨j1, hj j3⟩))⟩
/-- one behind the other -/
theorem tsgo.app (h : tsgo R S0 S E L a b x y D yD cl cD) (g : tsgo R S0 S E L b c y z D2 yD cl2 cD2) : tsgo R S0 S E L a c x z (fun k => D k ∨ D2 k) yD (cl ∨ cl2) (cD ∧ (cl ∨ cD2)) := by
  obtain ⟨st, W, h1, h2, h3, h4, h5, h6, h7, h8⟩ := h
  obtain ⟨st2, W2, g1, g2, g3, g4, g5, g6, g7, g8⟩ := g
  have eD : ∀ k : Nat, k < b → ¬ D2 k := fun k hk w => by have := g6 k w; omega
  have eD2 : ∀ k : Nat, b ≤ k → ¬ D k := fun k hk w => by have := h6 k w; omega
  have hj : ∀ {j : Nat} {s : List tE}, j ≤ b → wkS s (st j) → wkS s (pwL b st st2 j) := fun {j s} hjb j3 => by
    by_cases e2 : j < b
    · rw [pwL_l e2]; exact j3
    · obtain rfl : j = b := by omega
      rw [pwL_r e2]; rw [h2] at j3; exact j3.tr g1
  refine ⟨pwL b st st2, pwL b W (fun k => W b ∧ W2 k), ?_, ?_, ?_, fun w => ?_, by omega, fun k hk => ?_, fun w k hk => ?_, fun k hk hb => ?_⟩
  · by_cases e : a < b
    · rw [pwL_l e]; exact h1
    · obtain rfl : a = b := by omega
      rw [pwL_r e]
      rw [h2] at h1
      exact h1.tr g1
  · rw [pwL_r (by omega)]; exact g2
  · by_cases e : a < b
    · rw [pwL_l e]; exact h3
    · obtain rfl : a = b := by omega
      rw [pwL_r e]; exact ⟨h3, g3⟩
  · rw [pwL_r (by omega)]
    rcases w with w | w
    · exact fun q => h4 w q.1
    · exact fun q => g4 w q.2
  · rcases hk with w | w
    · have := h6 k w; omega
    · have := g6 k w; omega
  · rcases hk with q | q
    · rw [pwL_l (h6 k q).2]; exact h7 w.1 k q
    · rw [pwL_r (by have := g6 k q; omega)]
      rcases w.2 with z | z
      · exact fun r => h4 z r.1
      · exact fun r => g7 z k q r.2
  · by_cases e : k < b
    · obtain ⟨q0, q1, q2⟩ := h8 k hk e
      rw [pwL_l e, pwL_l e]
      refine ⟨q0, fun hd => ?_, fun hd T hT hT2 => ?_⟩
      · obtain ⟨i, p1, p2, p3, p4⟩ := q1 (fun w => hd (Or.inl w))
        refine ⟨i, p1, p2, fun j hj2 => ?_, p4.im (fun w => w) (fun j s ⟨j1, j2, j3⟩ => ⟨j1, by omega, hj j2 j3⟩)⟩
        obtain ⟨j1, j2, j3, j4⟩ := p3 j hj2
        refine ⟨j1, by omega, ?_, j4⟩
        by_cases e2 : j < b
        · rw [pwL_l e2]; exact j3
        · obtain rfl : j = b := by omega
          rw [pwL_r e2]; exact fun w => ⟨j3 w, g3⟩
      · obtain ⟨i, p1, p2, p3, p4⟩ := q2 (hd.resolve_right (eD k e)) T hT hT2
        refine ⟨i, p1, p2, fun j hj2 => ?_, p4.im (fun w => w) (fun j s w => w.imp id (fun ⟨j1, j3⟩ => ⟨j1, hj (by omega) j3⟩))⟩
        rcases p3 j hj2 with w | ⟨w1, w2⟩
        · exact Or.inl w
        · refine Or.inr ⟨w1, ?_⟩
          by_cases e2 : j < b
          · rw [pwL_l e2]; exact w2
          · obtain rfl : j = b := by omega
            rw [pwL_r e2]; exact fun w => ⟨w2 w, g3⟩
    · obtain ⟨q0, q1, q2⟩ := g8 k (by omega) hb
      rw [pwL_r e, pwL_r e]
      refine ⟨q0, fun hd => ?_, fun hd T hT hT2 => ?_⟩
      · obtain ⟨i, p1, p2, p3, p4⟩ := q1 (fun w => hd (Or.inr w))
        refine ⟨i, p1, p2, fun j hj2 => ?_, p4.im (fun w => w.2) (fun j s ⟨j1, j2, j3⟩ => ⟨by omega, j2, by rw [pwL_r (by omega)]; exact j3⟩)⟩
        obtain ⟨j1, j2, j3, j4⟩ := p3 j hj2
        refine ⟨by omega, j2, ?_, j4⟩
        rw [pwL_r (by omega)]; exact fun w => ⟨w.1, j3 w.2⟩
      · obtain ⟨i, p1, p2, p3, p4⟩ := q2 (hd.resolve_left (eD2 k (by omega))) T hT hT2
        refine ⟨i, p1, p2, fun j hj2 => ?_, p4.im (fun w => w.2) (fun j s w => w.imp id (fun ⟨j1, j3⟩ => ⟨j1, by rw [pwL_r (by omega)]; exact j3⟩))⟩
        rcases p3 j hj2 with w | ⟨w1, w2⟩
        · exact Or.inl w
        · refine Or.inr ⟨w1, ?_⟩
          rw [pwL_r (by omega)]; exact fun w => ⟨w.1, w2 w.2⟩
/-- the jump at n is set to the end -/
theorem tsgo.pj {n : Nat} (h : tsgo R S0 S E L a b x y D yD cl cD) (hn : D n) (hy : wkS yD y) (hb4 : b < 24000) : tsgo R S0 (Ur S 30 (upd (Zr S 30) n (nI b))) E L a b x y (fun k => D k ∧ k ≠ n) yD (cl ∧ cD) cD := by
  obtain ⟨st, W, h1, h2, h3, h4, h5, h6, h7, h8⟩ := h
  have hnb := h6 n hn
  refine ⟨st, fun k => W k ∨ (k = b ∧ W n), h1, h2, Or.inl h3, fun w q => ?_, h5, fun k hk => h6 k hk.1, fun w k hk q => ?_, fun k hk hb => ?_⟩
  · rcases q with q | q
    · exact h4 w.1 q
    · exact h7 w.2 n hn q.2
  · rcases q with q | q
    · exact h7 w k hk.1 q
    · have := h6 k hk.1; omega
  · obtain ⟨q0, q1, q2⟩ := h8 k hk hb
    have eW : (W k ∨ (k = b ∧ W n)) → W k := fun w => w.elim id (fun w => absurd w.1 (by omega))
    refine ⟨q0, fun hd => ?_, fun hd T hT hT2 => ?_⟩
    · by_cases e : k = n
      · subst e
        obtain ⟨i, p1, p2, p3, p4⟩ := q2 hn b hnb.2 hb4
        refine ⟨i, p1, (fun l e => by rw [p2] at e; cases e), fun j hj => ?_, p4.im eW (fun j s w => ?_)⟩
        · rcases p3 j hj with w | ⟨w1, w2⟩
          · exact ⟨by omega, by omega, fun z => Or.inr ⟨w, eW z⟩, Or.inl (by omega)⟩
          · exact ⟨by omega, by omega, fun z => Or.inl (w2 (eW z)), Or.inl (by omega)⟩
        · rcases w with ⟨w1, w2⟩ | ⟨w1, w2⟩
          · refine ⟨by omega, by omega, ?_⟩
            rw [w1, h2]; exact w2.tr hy
          · exact ⟨by omega, by omega, w2⟩
      · obtain ⟨i, p1, p2, p3, p4⟩ := q1 (fun w => hd ⟨w, e⟩)
        refine ⟨i, p1.st (LZ.ur (P := 0) (L := 0) (by decide) (Nat.zero_le _)).1 ⟨fun r h1 h2 => ?_, rfl, fun _ _ _ => rfl⟩ (fun l e => ⟨rfl, fun r h1 h2 => congrFun (Zr_un (by omega)) l⟩), p2, fun j hj => ?_, p4.im eW (fun j s w => w)⟩
        · by_cases e2 : r = 30
          · subst e2; rw [Zr_us, upd_n e]
          · rw [Zr_un e2]
        · obtain ⟨j1, j2, j3, j4⟩ := p3 j hj
          exact ⟨j1, j2, fun w => Or.inl (j3 (eW w)), j4.ur⟩
    · obtain ⟨i, p1, p2, p3, p4⟩ := q2 hd.1 T hT hT2
      refine ⟨i, p1.st (LX_j (LZ.ur (P := 0) (L := 0) (by decide) (Nat.zero_le _)).1) (RK_j ⟨fun r h1 h2 => ?_, rfl, fun _ _ _ => rfl⟩) (fun l e => by rw [p2] at e; cases e), p2, fun j hj => ?_, p4.im eW (fun j s w => w)⟩
      · by_cases e2 : r = 30
        · subst e2; rw [Zr_us, upd_n hd.2]
        · rw [Zr_un e2]
      · exact (p3 j hj).imp id (fun ⟨w1, w2⟩ => ⟨w1, fun w => Or.inl (w2 (eW w))⟩)
/-- nothing more is to be set -/
theorem tsgo.cls (h : tsgo R S0 S E L a b x y D yD cl cD) (hD : ∀ k : Nat, ¬ D k) : tsg R S0 S E L a b x y cl := by
  obtain ⟨st, W, h1, h2, h3, h4, h5, h6, h7, h8⟩ := h
  refine ⟨st, W, h1, h2, h3, h4, h5, fun k hk hb => ?_⟩
  obtain ⟨q0, q1, q2⟩ := h8 k hk hb
  obtain ⟨i, p1, p2, p3, p4⟩ := q1 (hD k)
  exact ⟨i, p1, p2, p3, q0, p4⟩
/-- one point whose jump is still to be set -/
theorem tsgo.one (hw : wl x ≤ 177) (hi : ∀ T : Nat, a < T → T < 24000 → ∃ i : iR, rz R S0 (Ur S 30 (upd (Zr S 30) a (nI T))) a i ∧ i.ln = none ∧ (∀ j ∈ i.sc, j = T ∨ (j = a + 1 ∧ ¬ cl)) ∧ tPt E a True i x (fun j s => (j = T ∧ wkS s yD) ∨ (j = a + 1 ∧ wkS s y))) : tsgo R S0 S E L a (a + 1) x y (fun k => k = a) yD cl False := by
  refine ⟨pcE a x (fun _ => y), fun k => k = a ∨ ¬ cl, by rw [pcE_s]; exact wkS.rf, pcE_n (by omega), Or.inl rfl, fun w q => ?_, by omega, fun k hk => by omega, fun w => w.elim, fun k hk hb => ?_⟩
  · rcases q with q | q
    · omega
    · exact q w
  · obtain rfl : k = a := by omega
    refine ⟨by rw [pcE_s]; exact hw, fun w => absurd rfl w, fun _ T hT hT2 => ?_⟩
    obtain ⟨i, p1, p2, p3, p4⟩ := hi T hT hT2
    refine ⟨i, p1, p2, fun j hj => (p3 j hj).imp id (fun w => ⟨w.1, fun _ => Or.inr w.2⟩), ?_⟩
    rw [pcE_s]
    exact p4.im (fun _ => trivial) (fun j s w => w.imp id (fun w => ⟨w.1, by rw [pcE_n (by omega)]; exact w.2⟩))
end LY18
