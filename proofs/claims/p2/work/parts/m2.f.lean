/-- who holds loan l behind point k -/
def HBh (i : iR) (f : Nat → Int64) (k l h : Nat) : Prop := (i.ho = some h ∧ (i.ln = some l ∨ (i.kd ≠ 24 ∧ ∃ u ∈ i.fr, rb f (4 * k) u = true))) ∨ (i.ho ≠ some h ∧ rb f (4 * k) h = true)
section PS5
variable {R : yR} {S0 S S1 S2 Sr : Sg} {ws Ps Pe k n l : Nat} {I : Nat → iR} {f g : Nat → Int64} {P : Nat → Prop} {x y : Int64}
theorem hb120 {u : Nat} {on : Bool} {v : Int32} (hC : PCx R S0 S ws Ps Pe I) (h1 : Ps ≤ k) (h2 : k < Pe) (hho : (I k).ho = some u) (hv : v = if on = true then 1 else 0) (e : OXs (fun r => r = 60) S S1) (hr : ∀ h : Nat, h < 256 → rb (Zl S1 60) 0 h = rb (Zl S 59) (4 * k) h) (hon : on = true ↔ ((I k).ln = some l ∨ ((I k).kd ≠ 24 ∧ ∃ u ∈ (I k).fr, rb (Zl S 59) (4 * k) u = true))) : Rt (f_holdBehind_120 R.K S1 (nI k) v) (fun S2 _ => OXs (fun r => r = 60) S S2 ∧ ∀ h : Nat, h < 256 → (rb (Zl S2 60) 0 h = true ↔ HBh (I k) (Zl S 59) k l h)) := by
  obtain ⟨hz, hs, hsl, hb⟩ := hC.2.2.2 k h1 h2
  have h24 := hC.2.1
  obtain ⟨_, _, _, _, q5, _⟩ := hz.ps e.1
  have r34 : rI S1 34 (nI k) = some (nI u) := by rw [rI_n (show k < rlen 34 from by show k < 24000; omega) (by decide), q5, hho]; rfl
  have hu := hb.1 u hho
  unfold f_holdBehind_120
  refine Rt.bd r34 ?_
  rw [hv]
  refine Rt.be (put_ (base := 0) (on := on) (b := u) (by omega) (show 0 + u / 64 < rlen 60 from by show _ < 4; omega) (by decide)) (Rt.rt ?_)
  have e2 : OXs (fun r => r = 60) S1 (Ul S1 60 (pB (Zl S1 60) 0 u on)) := OXs.ul (by decide) rfl
  refine ⟨e.tr e2, fun h hh => ?_⟩
  rw [Zl_us, rb_pB]
  by_cases c : 0 + h / 64 = 0 + u / 64 ∧ h % 64 = u % 64
  · have : h = u := by omega
    subst this
    rw [if_pos c]
    unfold HBh
    rw [hho]
    exact ⟨fun w => Or.inl ⟨rfl, hon.mp w⟩, fun w => w.elim (fun w => hon.mpr w.2) (fun w => absurd rfl w.1)⟩
  · rw [if_neg c, hr h hh]
    have hne : (I k).ho ≠ some h := fun w => by rw [hho] at w; cases w; exact c ⟨rfl, rfl⟩
    exact ⟨fun w => Or.inr ⟨hne, w⟩, fun w => w.elim (fun w => absurd w.1 hne) (fun w => w.2)⟩
theorem hb58 {u : Nat} (hC : PCx R S0 S ws Ps Pe I) (h1 : Ps ≤ k) (h2 : k < Pe) (hho : (I k).ho = some u) : ∀ (d n : Nat) (on : Bool) (S1 : Sg), (I k).fr.length < n + d → n ≤ (I k).fr.length → OXs (fun r => r = 60) S S1 → (∀ h : Nat, h < 256 → rb (Zl S1 60) 0 h = rb (Zl S 59) (4 * k) h) → (on = true ↔ ((I k).ln = some l ∨ ((I k).kd ≠ 24 ∧ ∃ m u : Nat, m < n ∧ (I k).fr[m]? = some u ∧ rb (Zl S 59) (4 * k) u = true))) → Rt (f_holdBehind_58 R.K d S1 (nI k) (if on = true then 1 else 0) (nI n)) (fun S2 _ => OXs (fun r => r = 60) S S2 ∧ ∀ h : Nat, h < 256 → (rb (Zl S2 60) 0 h = true ↔ HBh (I k) (Zl S 59) k l h))
  | 0, n, on, S1, hd, hn, _, _, _ => by omega
  | d + 1, n, on, S1, hd, hn, e, hr, hon => by
    obtain ⟨hz, hs, hsl, hb⟩ := hC.2.2.2 k h1 h2
    have h24 := hC.2.1
    obtain ⟨q1, q2, _, _, q5, _, _, q8, _⟩ := hz.ps e.1
    have r27 : rI S1 27 (nI k) = some (nI (I k).kd) := by rw [rI_n (show k < rlen 27 from by show k < 24000; omega) (by decide), q1]
    have hall : ((I k).kd = 24 ∨ n = (I k).fr.length) → Rt (f_holdBehind_120 R.K S1 (nI k) (if on = true then 1 else 0)) (fun S2 _ => OXs (fun r => r = 60) S S2 ∧ ∀ h : Nat, h < 256 → (rb (Zl S2 60) 0 h = true ↔ HBh (I k) (Zl S 59) k l h)) := fun hw => hb120 hC h1 h2 hho rfl e hr (hon.trans ⟨fun w => w.imp id (fun ⟨a, m, u, b, c, d⟩ => ⟨a, u, List.mem_of_getElem? c, d⟩), fun w => w.imp id (fun ⟨a, u, b, c⟩ => ⟨a, by
      obtain ⟨m, hm⟩ := List.mem_iff_getElem?.mp b
      rcases hw with hw | hw
      · exact absurd hw a
      · exact ⟨m, u, by have := (List.getElem?_eq_some_iff.mp hm).1; omega, hm, c⟩⟩)⟩)
    unfold f_holdBehind_58
    refine Rt.bd r27 (Rt.it (fun w => hall (Or.inl (nI_e (b := 24) (by omega) (by decide) w))) (fun w => ?_))
    have hk24 : (I k).kd ≠ 24 := fun e => w (by rw [e]; rfl)
    have r36 : rQ S1 36 (nI k) = some (Zq S1 36 k) := rQ_n (show k < rlen 36 from by show k < 24000; omega) (by decide)
    rcases q8 with ⟨a1, a2⟩ | ⟨a, ff, a1, a2, a3, a4, a5⟩
    · rw [a1] at r36
      exact Rt.bd r36 (Rt.ip rfl (hall (Or.inr (by rw [a2] at hn ⊢; exact Nat.le_zero.mp hn))))
    · rw [a1] at r36
      have hlen : (I k).fr.length ≤ 12 := hb.2.2.2.2.1
      refine Rt.bd r36 (Rt.iq (by simp) (Rt.bd r36 (Rt.bd (aLn_n a2 a3) (Rt.it (fun w => ?_) (fun w => ?_)))))
      · exact hall (Or.inr (by have := (nI_leI (by omega) (by omega)).mp w; omega))
      · have hlt : n < (I k).fr.length := by
          by_cases q : n < (I k).fr.length
          · exact q
          · exact absurd (nI_le (a := (I k).fr.length) (b := n) (by omega) (by omega)) w
        have hg := List.getElem?_eq_getElem hlt
        obtain ⟨b1, b2⟩ := a5 n _ hg
        have hu := hb.2.2.1 _ (List.getElem_mem hlt)
        refine Rt.bd r36 (Rt.bd (by rw [aI_n a2 a3 hlt (by omega), b1]) ?_)
        rw [nI_4]
        have e59 : Zl S1 59 = Zl S 59 := e.2.1 59 (by decide)
        refine Rt.be (get_ (base := 4 * k) (b := (I k).fr[n]) (by omega) (show 4 * k + (I k).fr[n] / 64 < rlen 59 from by show _ < 96000; omega) (by decide)) ?_
        rw [e59]
        unfold f_holdBehind_114
        rw [nI_1]
        by_cases c : rb (Zl S 59) (4 * k) (I k).fr[n] = true
        · rw [if_pos c]
          refine Rt.iq (by decide) (hb58 hC h1 h2 hho d (n + 1) true S1 (by omega) (by omega) e hr ⟨fun _ => Or.inr ⟨hk24, n, _, Nat.lt_succ_self _, hg, c⟩, fun _ => rfl⟩)
        · rw [if_neg c]
          refine Rt.ip rfl (hb58 hC h1 h2 hho d (n + 1) on S1 (by omega) (by omega) e hr (hon.trans ⟨fun w => w.imp id (fun ⟨a, m, u, b, c, d⟩ => ⟨a, m, u, by omega, c, d⟩), fun w => w.imp id (fun ⟨a, m, u, b, c', d⟩ => ⟨a, m, u, ?_, c', d⟩)⟩))
          by_cases em : m = n
          · subst em; rw [hg] at c'; cases c'; exact absurd d c
          · omega
theorem hb2 (hC : PCx R S0 S ws Ps Pe I) (h1 : Ps ≤ k) (h2 : k < Pe) (hl : l < 160) : ∀ (d w : Nat) (S1 : Sg), 4 < w + d → w ≤ 4 → OXs (fun r => r = 60) S S1 → (∀ v : Nat, v < w → Zl S1 60 v = Zl S 59 (4 * k + v)) → Rt (f_holdBehind_2 R.K d S1 (nI k) (nI l) (nI w)) (fun S2 _ => OXs (fun r => r = 60) S S2 ∧ ∀ h : Nat, h < 256 → (rb (Zl S2 60) 0 h = true ↔ HBh (I k) (Zl S 59) k l h))
  | 0, w, S1, hd, hn, _, _ => by omega
  | d + 1, w, S1, hd, hn, e, hr => by
    obtain ⟨hz, hs, hsl, hb⟩ := hC.2.2.2 k h1 h2
    have h24 := hC.2.1
    unfold f_holdBehind_2
    refine Rt.it (fun q => ?_) (fun q => ?_)
    · have hw : 4 ≤ w := (nI_leI (a := 4) (b := w) (by decide) (by omega)).mp q
      obtain rfl : w = 4 := by omega
      obtain ⟨_, _, _, _, q5, q6, _⟩ := hz.ps e.1
      have r34 : rI S1 34 (nI k) = some (oNm (I k).ho) := by rw [rI_n (show k < rlen 34 from by show k < 24000; omega) (by decide), q5]
      have r35 : rI S1 35 (nI k) = some (oNm (I k).ln) := by rw [rI_n (show k < rlen 35 from by show k < 24000; omega) (by decide), q6]
      have hrb : ∀ h : Nat, h < 256 → rb (Zl S1 60) 0 h = rb (Zl S 59) (4 * k) h := fun h hh => by
        unfold rb; rw [Nat.zero_add, hr (h / 64) (by omega)]
      refine Rt.bd r34 ?_
      cases hho : (I k).ho with
      | none =>
        refine Rt.iq (show ¬ (0 : Int32) ≤ -1 by decide) (Rt.rt ⟨e, fun h hh => ?_⟩)
        rw [hrb h hh]
        unfold HBh
        rw [hho]
        exact ⟨fun w => Or.inr ⟨(by simp), w⟩, fun w => w.elim (fun w => by cases w.1) (fun w => w.2)⟩
      | some u =>
        refine Rt.ip (nI_le (a := 0) (b := u) (Nat.zero_le _) (by have := hb.1 u hho; omega)) (Rt.bd r35 ?_)
        have hln : oNm (I k).ln = nI l ↔ (I k).ln = some l := by
          cases hq : (I k).ln with
          | none =>
            refine ⟨fun w => ?_, fun w => by cases w⟩
            exact absurd (show nI l < 0 by rw [← w]; decide) (nI_nn (by omega))
          | some l' =>
            have := hb.2.2.2.2.2.1 l' hq
            exact ⟨fun w => by rw [nI_e (a := l') (b := l) (by omega) (by omega) w], fun w => by cases w; rfl⟩
        unfold f_holdBehind_54
        refine Rt.it (fun w => ?_) (fun w => ?_)
        · exact hb58 hC h1 h2 hho bigN 0 true S1 (by unfold bigN; have := hb.2.2.2.2.1; omega) (Nat.zero_le _) e hrb ⟨fun _ => Or.inl (hln.mp w), fun _ => rfl⟩
        · exact hb58 hC h1 h2 hho bigN 0 false S1 (by unfold bigN; have := hb.2.2.2.2.1; omega) (Nat.zero_le _) e hrb ⟨fun q => absurd q (by decide), fun q => q.elim (fun q => absurd (hln.mpr q) w) (fun ⟨_, m, _, hm, _⟩ => by omega)⟩
    · have hw : w < 4 := by
        by_cases q2 : w < 4
        · exact q2
        · exact absurd (nI_le (a := 4) (b := w) (by omega) (by omega)) q
      rw [nI_4, nI_add]
      refine Rt.bd (rJ_n (show 4 * k + w < rlen 59 from by show _ < 96000; omega) (by decide)) (Rt.bd (wJ_n (show w < rlen 60 from hw) (by decide)) ?_)
      rw [nI_1]
      have e2 : OXs (fun r => r = 60) S1 (Ul S1 60 (vp_updL (Zl S1 60) w (Zl S1 59 (4 * k + w)))) := OXs.ul (by decide) rfl
      refine hb2 hC h1 h2 hl d (w + 1) _ (by omega) (by omega) (e.tr e2) (fun v hv => ?_)
      rw [Zl_us]
      by_cases ev : v = w
      · subst ev; rw [upL_s, e.2.1 59 (by decide)]
      · rw [upL_n ev]; exact hr v (by omega)
/-- holdBehind -/
theorem hbd_ (hC : PCx R S0 S ws Ps Pe I) (h1 : Ps ≤ k) (h2 : k < Pe) (hl : l < 160) : Rt (f_holdBehind R.K S (nI k) (nI l)) (fun S2 _ => OXs (fun r => r = 60) S S2 ∧ ∀ h : Nat, h < 256 → (rb (Zl S2 60) 0 h = true ↔ HBh (I k) (Zl S 59) k l h)) := by
  unfold f_holdBehind
  exact hb2 hC h1 h2 hl bigN 0 S (by unfold bigN; omega) (Nat.zero_le _) OXs.rf (fun v hv => by omega)
end PS5
