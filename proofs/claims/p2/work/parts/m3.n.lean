/-- parts are dropped, those below j were: the work stands at b -/
def inL (Si : Sg) (fl0 : List Nat) (t b fr mn : Nat) (f : Nat → Option Nat) (cs ls hs : Nat → List Nat) (j : Nat) (S : Sg) (fl : List Nat) : Prop := DO (fun a => ∃ i : Nat, i < mn ∧ (a ∈ cs i ∨ a ∈ ls i)) (fun q => ∃ i : Nat, i < mn ∧ q ∈ hs i) b Si S ∧ Zi S 81 = nI (b + (1 + fr) * (mn - j)) ∧ wq S ∧ FLs S fl t ∧ (∀ a : Nat, cnN a fl = cnN a fl0 + psN (fun i => fr * cnN a (cs i) + cnN a (ls i)) j) ∧ (∀ i : Nat, j ≤ i → i < mn → WP S b fr mn i (f i) (cs i) ∧ agN (nMS Si) (nMS S) (cs i) ∧ agN (nMS Si) (nMS S) (ls i)) ∧ ∀ i : Nat, i < j → (fr = 0 → ∀ a ∈ cs i, Zr S 62 a = 0 ∧ Zr S 63 a = Zr Si 63 a) ∧ ∀ q ∈ hs i, Zr S 67 q = 0
/-- a place is dropped -/
def drH (R : yR) (S0 Sl : Sg) (g : Nat → Int32) (k : Nat) : Prop := ∀ (T : Nat) (V : qV) (c l h : List Nat) (x : Nat) (S : Sg) (d : Nat) (fl : List Nat) (t N : Nat), pL (yT R S0) (szN R S0) (nMS S) k T V c l h → rTy S0 x → abT S0 x = T → RNx Sl S → wq S → FLs S fl t → Zi S 81 = nI d → lkN (Zr S 63) c → cvN c l fl t → d + c.length + 2 * l.length ≤ 90000 → (rkN R S0 g T + 1) * c.length + 103 * l.length ≤ N + 1 → Rt (f_dropPlace R.K S (some x) (nI (hdN c))) (fun S2 _ => drN R.K N (DPo c l h fl t d S) S2)
section PS39
variable {R : yR} {S0 Sl Si : Sg} {g : Nat → Int32} {k t b fr mn ρ : Nat} {f : Nat → Option Nat} {cs ls hs : Nat → List Nat} {fl0 : List Nat} {pt : Nat → Nat} {vs : Nat → qV}
theorem drL (hL : LFS R S0 g) (hx : LX S0 Sl) (ih : drH R S0 Sl g k) (eR : RNx Sl Si) (hp : ∀ i : Nat, i < mn → pL (yT R S0) (szN R S0) (nMS Si) k (pt i) (vs i) (cs i) (ls i) (hs i)) (hf : ∀ i : Nat, i < mn → ∃ z : Nat, f i = some z ∧ vTy S0 z ∧ abT S0 z = pt i) (hk : ∀ i : Nat, i < mn → lkN (Zr Si 63) (cs i)) (tot : ∀ a : Nat, psN (fun i => cnN a (cs i) + cnN a (ls i)) mn + cnN a fl0 ≤ 1) (ht : ∀ i a : Nat, i < mn → (a ∈ cs i ∨ a ∈ ls i) → 1 ≤ a ∧ a ≤ t) (hfr : fr = 0 ∨ fr = 1) (h9 : ∀ i : Nat, i < mn → b + (1 + fr) * (mn - 1 - i) + fr + (cs i).length + 2 * (ls i).length ≤ 90000) (hρ : ∀ i : Nat, i < mn → rkN R S0 g (pt i) + 1 ≤ ρ) : ∀ (r j : Nat) (S : Sg) (fl : List Nat), j + r = mn → inL Si fl0 t b fr mn f cs ls hs j S fl → drN R.K (psN (fun i => ρ * (cs i).length + 103 * (ls i).length + fr) mn - psN (fun i => ρ * (cs i).length + 103 * (ls i).length + fr) j) (inL Si fl0 t b fr mn f cs ls hs mn) S
  | 0, j, S, fl, hj, q => by
    obtain rfl : j = mn := by omega
    exact (drN.rf (P := inL Si fl0 t b fr j f cs ls hs j) q).mo (by omega) (fun _ _ w => w)
  | r + 1, j, S, fl, hj, q => by
    have hy := nYk_of hL
    have hjm : j < mn := by omega
    obtain ⟨q1, q2, q3, q4, q5, q6, q7⟩ := q
    obtain ⟨z, z1, z2, z3⟩ := hf j hjm
    obtain ⟨⟨w1, w2⟩, g1, g2⟩ := q6 j (Nat.le_refl _) hjm
    have eS : RNx Sl S := eR.tr q1.rn
    have hlen : (cs j).length = zN R S0 (pt j) := (hp j hjm).len hy
    have h16 := hy.1 (pt j)
    have tj : ∀ a : Nat, cnN a (cs j) + cnN a (ls j) + cnN a fl ≤ 1 := fun a => by
      have t1 := tot a
      have t2 : psN (fun i => cnN a (cs i) + cnN a (ls i)) (j + 1) ≤ psN (fun i => cnN a (cs i) + cnN a (ls i)) mn := psN_mo (by omega)
      have t3 : psN (fun i => cnN a (cs i) + cnN a (ls i)) (j + 1) = psN (fun i => cnN a (cs i) + cnN a (ls i)) j + (cnN a (cs j) + cnN a (ls j)) := rfl
      have t4 : psN (fun i => fr * cnN a (cs i) + cnN a (ls i)) j ≤ psN (fun i => cnN a (cs i) + cnN a (ls i)) j := psN_le (fun i _ => by rcases hfr with w | w <;> subst w <;> omega)
      have t5 := q5 a
      omega
    have dj : ∀ i a : Nat, i < mn → i ≠ j → (a ∈ cs i ∨ a ∈ ls i) → ¬ (a ∈ cs j ∨ a ∈ ls j) := fun i a hi hij h1 h2 => by
      have t1 := tot a
      have t2 := psN_ij (v := fun i => cnN a (cs i) + cnN a (ls i)) hij hi hjm
      have t3 : 1 ≤ cnN a (cs i) + cnN a (ls i) := by
        rcases h1 with h | h
        · have := cnN_mem.mp h; omega
        · have := cnN_mem.mp h; omega
      have t4 : 1 ≤ cnN a (cs j) + cnN a (ls j) := by
        rcases h2 with h | h
        · have := cnN_mem.mp h; omega
        · have := cnN_mem.mp h; omega
      have t5 : cnN a (cs i) + cnN a (ls i) + (cnN a (cs j) + cnN a (ls j)) ≤ psN (fun i => cnN a (cs i) + cnN a (ls i)) mn := t2
      omega
    have hcv : cvN (cs j) (ls j) fl t := fun a => ⟨tj a, fun w => ht j a hjm (by
      by_cases w2 : 1 ≤ cnN a (cs j)
      · exact Or.inl (cnN_mem.mpr w2)
      · exact Or.inr (cnN_mem.mpr (by omega)))⟩
    have h9j := h9 j hjm
    have hρj := hρ j hjm
    have hm1 : (rkN R S0 g (pt j) + 1) * (cs j).length ≤ ρ * (cs j).length := Nat.mul_le_mul_right _ hρj
    have hm2 : 1 ≤ ρ * (cs j).length := Nat.mul_pos (by omega) (by omega)
    have hu1 : psN (fun i => ρ * (cs i).length + 103 * (ls i).length + fr) (j + 1) ≤ psN (fun i => ρ * (cs i).length + 103 * (ls i).length + fr) mn := psN_mo (by omega)
    have hu2 : psN (fun i => ρ * (cs i).length + 103 * (ls i).length + fr) (j + 1) = psN (fun i => ρ * (cs i).length + 103 * (ls i).length + fr) j + (ρ * (cs j).length + 103 * (ls j).length + fr) := rfl
    -- the place of part j
    have s1 : drN R.K (ρ * (cs j).length + 103 * (ls j).length) (fun S3 fl3 => ∃ S1 : Sg, KO (b + (1 + fr) * (mn - 1 - j) + fr) S S1 ∧ DPo (cs j) (ls j) (hs j) fl t (b + (1 + fr) * (mn - 1 - j) + fr) S1 S3 fl3) S := fun e Q he kk => by
      obtain ⟨e, rfl⟩ : ∃ m : Nat, e = m + 1 := ⟨e - 1, by omega⟩
      refine dA1 (d := b + (1 + fr) * (mn - 1 - j) + fr) (by rw [q2]; congr 1; rcases hfr with w | w <;> subst w <;> omega) (by omega) w2 (fun S1 v k1 i1 hv => ?_)
      rw [hv z z1]
      refine Rt.ip rfl (Rt.bn (ih (pt j) (vs j) (cs j) (ls j) (hs j) z S1 (b + (1 + fr) * (mn - 1 - j) + fr) fl t (ρ * (cs j).length + 103 * (ls j).length - 1) ?_ (Or.inl z2) z3 (eS.tr k1.1.rn) (k1.wq q3) (k1.fl q4) i1 ?_ hcv h9j (by omega)) (fun S6 _ k6 => k6 e Q (by omega) (fun S3 fl3 e2 p1 p2 => kk S3 fl3 e2 ⟨S1, k1, p1⟩ (by omega))))
      · rw [k1.nm]
        exact (hp j hjm).st (fun a ha => ⟨(g1 a ha).1, (g1 a ha).2.1⟩) g2
      · rw [k1.x3]
        exact (hk j hjm).cg (fun a ha => (g1 a ha).2.2)
    -- .. and, where asked, its nodes
    have s2 : drN R.K (ρ * (cs j).length + 103 * (ls j).length + fr) (inL Si fl0 t b fr mn f cs ls hs (j + 1)) S := by
      have hbe : b ≤ b + (1 + fr) * (mn - 1 - j) := by omega
      have fin : ∀ (S3 S4 : Sg) (fl3 fl4 : List Nat) (S1 : Sg), KO (b + (1 + fr) * (mn - 1 - j) + fr) S S1 → DPo (cs j) (ls j) (hs j) fl t (b + (1 + fr) * (mn - 1 - j) + fr) S1 S3 fl3 → DO (fun a => fr = 1 ∧ a ∈ cs j) (fun _ => False) (b + (1 + fr) * (mn - 1 - j)) S3 S4 → Zi S4 81 = nI (b + (1 + fr) * (mn - 1 - j)) → FLs S4 fl4 t → (∀ a : Nat, cnN a fl4 = fr * cnN a (cs j) + cnN a fl3) → wq S4 → inL Si fl0 t b fr mn f cs ls hs (j + 1) S4 fl4 := fun S3 S4 fl3 fl4 S1 k1 ⟨p1, p2, p3, p4, p5, p6, p7⟩ f1 f2 f3 f4 f5 => by
        have eJ : DO (fun a => a ∈ cs j ∨ a ∈ ls j) (fun q => q ∈ hs j) (b + (1 + fr) * (mn - 1 - j)) S S4 := ((k1.do.tr p1).mo (fun _ w => w) (fun _ w => w) (by omega)).tr (f1.mo (fun a w => Or.inl w.2) (fun _ w => w.elim) (Nat.le_refl _))
        refine ⟨q1.tr (eJ.mo (fun a w => ⟨j, hjm, w⟩) (fun q w => ⟨j, hjm, w⟩) hbe), ?_, f5, f3, fun a => ?_, fun i i1 i2 => ?_, fun i hi => ?_⟩
        · rw [f2, show mn - 1 - j = mn - (j + 1) by omega]
        · rw [f4, p4, q5]
          show _ = cnN a fl0 + (psN (fun i => fr * cnN a (cs i) + cnN a (ls i)) j + (fr * cnN a (cs j) + cnN a (ls j)))
          omega
        · obtain ⟨⟨u1, u2⟩, u3, u4⟩ := q6 i (by omega) i2
          refine ⟨⟨fun w => eJ.wk (u1 w) ?_, eJ.wk u2 ?_⟩, fun a ha => ?_, fun a ha => ?_⟩
          · rcases hfr with w | w <;> subst w <;> omega
          · rcases hfr with w | w <;> subst w <;> omega
          · have v1 := u3 a ha
            have v2 := eJ.2.2.2.2.2.2.2.2.1 a (dj i a i2 (by omega) (Or.inl ha))
            exact ⟨v2.1.trans v1.1, v2.2.1.trans v1.2.1, v2.2.2.trans v1.2.2⟩
          · have v1 := u4 a ha
            have v2 := eJ.2.2.2.2.2.2.2.2.1 a (dj i a i2 (by omega) (Or.inr ha))
            exact ⟨v2.1.trans v1.1, v2.2.1.trans v1.2.1, v2.2.2.trans v1.2.2⟩
        · by_cases w : i = j
          · subst w
            refine ⟨fun w0 a ha => ?_, fun q hq => ?_⟩
            · have v2 := f1.2.2.2.2.2.2.2.2.1 a (fun w => by omega)
              obtain ⟨v3, v4⟩ := p5 a ha
              exact ⟨v2.2.1.trans v3, v2.2.2.trans (v4.trans ((congrFun k1.x3 a).trans (g1 a ha).2.2))⟩
            · rw [f1.2.2.2.2.2.2.2.2.2.1 q (fun w => w)]; exact p6 q hq
          · obtain ⟨u1, u2⟩ := q7 i (by omega)
            refine ⟨fun w0 a ha => ?_, fun q hq => ?_⟩
            · have v1 := u1 w0 a ha
              have v2 := eJ.2.2.2.2.2.2.2.2.1 a (dj i a (by omega) w (Or.inl ha))
              exact ⟨v2.2.1.trans v1.1, v2.2.2.trans v1.2⟩
            · by_cases w2 : q ∈ hs j
              · rw [f1.2.2.2.2.2.2.2.2.2.1 q (fun w => w)]; exact p6 q w2
              · rw [eJ.2.2.2.2.2.2.2.2.2.1 q w2]; exact u2 q hq
      rcases hfr with w | w
      · subst w
        refine s1.mo (by omega) (fun S3 fl3 ⟨S1, k1, p⟩ => fin S3 S3 fl3 fl3 S1 k1 p DO.rf ?_ p.2.2.1 (fun a => by omega) p.2.2.2.2.2.2)
        exact p.2.1
      · subst w
        refine s1.tr (N2 := 1) (fun S3 fl3 ⟨S1, k1, p⟩ => ?_)
        have p0 := p
        obtain ⟨p1, p2, p3, p4, p5, p6, p7⟩ := p
        have e3 : RNx Sl S3 := (eS.tr k1.1.rn).tr p1.rn
        have w1' := w1 rfl
        rw [z1] at w1'
        refine (dAf (c := cs j) (d := b + (1 + 1) * (mn - 1 - j)) hL hx e3 (Or.inl z2) p2 (by omega) (p1.wk (k1.1.wk w1' (by omega)) (by omega)) p3 p7 (by rw [hlen, z3]) (by omega) (by omega) ?_ (fun a => ⟨?_, fun w => ?_⟩)).mo (by omega) (fun S4 fl4 ⟨f1, f2, f3, f4, f5⟩ => fin S3 S4 fl3 fl4 S1 k1 p0 (f1.mo (fun a w => ⟨rfl, w⟩) (fun _ w => w) (Nat.le_refl _)) f2 f3 (fun a => by rw [f4]; omega) f5)
        · exact (hk j hjm).cg (fun a ha => (p5 a ha).2.trans ((congrFun k1.x3 a).trans (g1 a ha).2.2))
        · have := tj a
          have := p4 a
          show cnN a (cs j) + 0 + cnN a fl3 ≤ 1
          omega
        · have w9 : 1 ≤ cnN a (cs j) + 0 := w
          exact ht j a hjm (Or.inl (cnN_mem.mpr (by omega)))
    exact (s2.tr (fun S3 fl3 h3 => drL hL hx ih eR hp hf hk tot ht hfr h9 hρ r (j + 1) S3 fl3 (by omega) h3)).mo (by omega) (fun _ _ w => w)
end PS39
