/-- gather: i parts have their places -/
def gaI (R : yR) (S0 Sl S : Sg) (pt : Nat → Nat) (W : Nat → qV) (l h : Nat → List Nat) (n t : Nat) (fl : List Nat) (x5 x6 : Int32) (i : Nat) (S1 : Sg) : Prop := ∃ (cs ls : Nat → List Nat) (fl1 : List Nat) (t1 kk lst : Nat), NO (fun a => (a ∈ fl ∨ t < a) ∨ ∃ q : Nat, q < n ∧ a ∈ l q) S S1 ∧ FLs S1 fl1 t1 ∧ (t ≤ t1 ∧ t1 + fl.length ≤ fl1.length + t + i ∧ ∀ a ∈ fl1, a ∈ fl ∨ t < a) ∧ ((i = 0 ∧ x5 = 0 ∧ x6 = 0) ∨ (0 < i ∧ x5 = nI (hdN (ftN cs i)) ∧ x6 = nI lst ∧ (ftN cs i)[(ftN cs i).length - 1]? = some lst)) ∧ lkN (Zr S1 63) (ftN cs i) ∧ (∀ j : Nat, j < i → pL (yT R S0) (szN R S0) (nMS S1) kk (pt j) (W j) (cs j) (ls j) (h j)) ∧ (∀ j : Nat, i ≤ j → j < n → agN (nMS S) (nMS S1) (l j)) ∧ ∀ a : Nat, psN (fun j => cnN a (cs j) + cnN a (ls j)) i + cnN a fl1 + ind t a = psN (fun j => cnN a (l j)) i + cnN a fl + ind t1 a
section PS82
variable {R : yR} {S0 Sl S S1 : Sg} {g : Nat → Int32} {n p t cap ta : Nat} {f : Nat → Option Nat} {pt : Nat → Nat} {W : Nat → qV} {l h : Nat → List Nat} {fl : List Nat} {q : Nat → Nat} {o : Option Nat} {Q : Sg → Int32 → Prop}
theorem ind_1 {t a : Nat} : ind t a ≤ 1 := by
  unfold ind
  by_cases w : 1 ≤ a ∧ a ≤ t
  · rw [if_pos w]; exact Nat.le_refl _
  · rw [if_neg w]; exact Nat.zero_le _
theorem psN_sl {w : Nat → Nat} {i j n : Nat} (h1 : i ≤ j) (h2 : j < n) : psN w i + w j ≤ psN w n := by
  have a : psN w (j + 1) ≤ psN w n := psN_mo (by omega)
  have b : psN w i ≤ psN w j := psN_mo h1
  have c : psN w (j + 1) = psN w j + w j := rfl
  omega
/-- where part i stands -/
theorem ga30 {k17 : Sg → Option Nat → Int32 → Option Nat → Int32 → Int32 → Int32 → Int32 → Option (Sg × Int32)} {x4 x5 x6 : Int32} {i qi : Nat} (hn : n ≤ 12) (hq : qi < n) (ho : (o = none ∧ qi = i) ∨ ∃ (a9 : Nat) (F : Nat → Int32), o = some a9 ∧ a9 ∈ ZL S1 ∧ ZF S1 a9 = .inl (R.K.1 0, n, .inl F) ∧ F qi = nI i ∧ ∀ j : Nat, j < n → j ≠ qi → F j ≠ nI i) (kk : Rt (f_gather_59 R.K k17 S1 (some ta) (nI n) o x4 x5 x6 (nI i) (nI qi)) Q) : ∀ (d j x8 : Nat), n < j + d → j ≤ n → (o = none → x8 = i) → (qi < j → x8 = qi) → Rt (f_gather_30 R.K k17 d S1 (some ta) (nI n) o x4 x5 x6 (nI i) (nI x8) (nI j)) Q
  | 0, j, x8, hd, hj, _, _ => by omega
  | d + 1, j, x8, hd, hj, h0, h8 => by
    unfold f_gather_30
    rcases ho with ⟨e1, e2⟩ | ⟨a9, F, e1, e2, e3, e4, e5⟩
    · refine Rt.ip e1 ?_
      rw [h0 e1, ← e2]; rw [← e2] at kk; exact kk
    · refine Rt.iq (by rw [e1]; exact fun w => by cases w) (Rt.it (fun w => ?_) (fun w => ?_))
      · have hjn : n ≤ j := (nI_leI (by omega) (by omega)).mp w
        rw [h8 (by omega)]; exact kk
      · have hlt : j < n := by
          by_cases c : j < n
          · exact c
          · exact absurd (nI_le (a := n) (b := j) (by omega) (by omega)) w
        refine Rt.bd (v := F j) (by rw [e1]; exact aI_n e2 e3 hlt (by omega)) ?_
        unfold f_gather_53
        rw [nI_1]
        refine Rt.it (fun w2 => ?_) (fun w2 => ?_)
        · have ej : j = qi := Classical.byContradiction (fun z => e5 j hlt z w2)
          exact ga30 hn hq (Or.inr ⟨a9, F, e1, e2, e3, e4, e5⟩) kk d (j + 1) j (by omega) (by omega) (fun z => by rw [z] at e1; cases e1) (fun _ => ej)
        · exact ga30 hn hq (Or.inr ⟨a9, F, e1, e2, e3, e4, e5⟩) kk d (j + 1) x8 (by omega) (by omega) (fun z => by rw [z] at e1; cases e1) (fun z => h8 (by
            by_cases c : qi = j
            · exact absurd (by rw [← c]; exact e4) w2
            · omega))
/-- gather -/
theorem ga17 (hL : LFS R S0 g) (hx : LX S0 Sl) (e : RNx Sl S) (ht : n = 0 ∨ (ta ∈ ZL Sl ∧ ZF Sl ta = .inl (R.K.1 4, cap, .inr (.inr (.inr (.inr f)))))) (hc : n ≤ cap ∧ cap < 100) (hn : n ≤ 12) (hf : ∀ i : Nat, i < n → ∃ z : Nat, f i = some z ∧ rTy S0 z ∧ abT S0 z = pt i) (hp : p + n < 20000) (hqn : ∀ i : Nat, i < n → q i < n) (hva : ∀ i : Nat, i < n → vaR (yT R S0) (szN R S0) (nMS S) (pt i) (W i) (Zl S 72 (p + q i)) (l i) (h i)) (ho : ∀ i : Nat, i < n → (o = none ∧ q i = i) ∨ ∃ (a9 : Nat) (F : Nat → Int32), o = some a9 ∧ a9 ∈ ZL Sl ∧ ZF Sl a9 = .inl (R.K.1 0, n, .inl F) ∧ F (q i) = nI i ∧ ∀ j : Nat, j < n → j ≠ q i → F j ≠ nI i) (hF : FLs S fl t) (h1 : ∀ m ∈ fl, 1 ≤ m) (hro : t ≤ fl.length + 425000) (hcv : ∀ a : Nat, psN (fun i => cnN a (l i)) n + cnN a fl ≤ ind t a) (kf : ∀ (S2 : Sg) (x5 x6 : Int32), gaI R S0 Sl S pt W l h n t fl x5 x6 n S2 → Rt ((pM S2 73 (nI p)).bind fun S1 => some (S1, x5)) Q) : ∀ (r i d : Nat) (x5 x6 : Int32) (S1 : Sg), i + r = n → r < d → gaI R S0 Sl S pt W l h n t fl x5 x6 i S1 → Rt (f_gather_17 R.K d S1 (some ta) (nI n) o (nI p) x5 x6 (nI i)) Q
  | r, i, 0, _, _, _, _, hd, _ => by omega
  | 0, i, d + 1, x5, x6, S1, hi, hd, hI => by
    obtain rfl : i = n := by omega
    unfold f_gather_17
    exact Rt.ip (nI_le (Nat.le_refl _) (by omega)) (kf S1 x5 x6 hI)
  | r + 1, i, d + 1, x5, x6, S1, hi, hd, hI => by
    have hin : i < n := by omega
    have hy := nYk_of hL
    have ht2 : ta ∈ ZL Sl ∧ ZF Sl ta = .inl (R.K.1 4, cap, .inr (.inr (.inr (.inr f)))) := ht.resolve_left (by omega)
    obtain ⟨cs, ls, fl1, t1, kk, lst, g1, g2, ⟨g3, g4, g5⟩, g6, g7, g8, g9, g10⟩ := hI
    have eS : RNx Sl S1 := e.tr g1.rn
    obtain ⟨z, z1, z2, z3⟩ := hf i hin
    have hqi := hqn i hin
    have rq : ∀ S2 : Sg, RNx Sl S2 → aQ R.K 4 S2 (some ta) (nI i) = some (some z) := fun S2 e2 => by
      rw [← z1]; exact aQ_n (by rw [e2.1]; exact ht2.1) (by rw [e2.2.1]; exact ht2.2) (by omega) (by omega)
    -- how often each node stands
    have tot : ∀ a : Nat, psN (fun j => cnN a (cs j) + cnN a (ls j)) i + cnN a fl1 + cnN a (l i) ≤ 1 ∧ (∀ j : Nat, i < j → j < n → psN (fun j => cnN a (cs j) + cnN a (ls j)) i + cnN a fl1 + cnN a (l i) + cnN a (l j) ≤ 1) ∧ (∀ j : Nat, i ≤ j → j < n → 1 ≤ cnN a (l j) → 1 ≤ a ∧ a ≤ t) := fun a => by
      have c1 := g10 a
      have c2 := hcv a
      have c3 := ind_1 (t := t1) (a := a)
      have c4 : psN (fun j => cnN a (l j)) i + cnN a (l i) ≤ psN (fun j => cnN a (l j)) n := psN_sl (w := fun j => cnN a (l j)) (Nat.le_refl i) hin
      refine ⟨by omega, fun j hj hjn => ?_, fun j hj hjn w => ?_⟩
      · have c5 : psN (fun j => cnN a (l j)) (i + 1) + cnN a (l j) ≤ psN (fun j => cnN a (l j)) n := psN_sl (w := fun j => cnN a (l j)) (by omega) hjn
        have c6 : psN (fun j => cnN a (l j)) (i + 1) = psN (fun j => cnN a (l j)) i + cnN a (l i) := rfl
        omega
      · have c5 : psN (fun j => cnN a (l j)) i + cnN a (l j) ≤ psN (fun j => cnN a (l j)) n := psN_sl (w := fun j => cnN a (l j)) hj hjn
        have c6 : 1 ≤ ind t a := by omega
        unfold ind at c6
        by_cases w2 : 1 ≤ a ∧ a ≤ t
        · exact w2
        · rw [if_neg w2] at c6; omega
    have h1' : ∀ m ∈ fl1, 1 ≤ m := fun m hm => by
      rcases g5 m hm with w | w
      · exact h1 m w
      · omega
    have oldc : ∀ (j a : Nat), j < i → (a ∈ cs j ∨ a ∈ ls j) → 1 ≤ psN (fun j => cnN a (cs j) + cnN a (ls j)) i := fun j a hj w => by
      have c5 : cnN a (cs j) + cnN a (ls j) ≤ psN (fun j => cnN a (cs j) + cnN a (ls j)) i := psN_i1 (v := fun j => cnN a (cs j) + cnN a (ls j)) hj
      rcases w with w | w
      · have := cnN_mem.mp w; omega
      · have := cnN_mem.mp w; omega
    have hv1 := (hva i hin).st (g9 i (Nat.le_refl _) hin)
    have e72 : Zl S1 72 = Zl S 72 := g1.2.2.2.2.2.1 72 (by decide)
    unfold f_gather_17
    refine Rt.iq (fun w => by have := (nI_leI (by omega) (by omega)).mp w; omega) ?_
    refine ga30 (n := n) (i := i) (qi := q i) hn hqi ?_ ?_ bigN 0 i (by unfold bigN; omega) (Nat.zero_le _) (fun _ => rfl) (fun w => by omega)
    · refine (ho i hin).imp id (fun ⟨a9, F, b1, b2, b3, b4, b5⟩ => ⟨a9, F, b1, by rw [eS.1]; exact b2, by rw [eS.2.1]; exact b3, b4, b5⟩)
    unfold f_gather_59
    refine Rt.bd (rq S1 eS) ?_
    rw [nI_add]
    refine Rt.bd (rJ_n (show p + q i < rlen 72 from by show _ < 20000; omega) (by decide)) ?_
    rw [e72]
    refine Rt.bn (fpl_ (T := pt i) (W := W i) (l := l i) (h := h i) (fl := fl1) (t := t1) hL hx eS z2 z3 hv1 g2 h1' (by omega) (fun a ha => ?_)) (fun S5 r5 ⟨c, l1, fl2, t2, k5, b1, b2, b3, b4, b5, b7, b6⟩ => ?_)
    · have := cnN_mem.mp ha
      obtain ⟨w1, _, w3⟩ := tot a
      exact ⟨fun w => by have := cnN_mem.mp w; omega, Nat.le_trans (w3 i (Nat.le_refl _) hin (by omega)).2 g3⟩
    have hcl : c.length = zN R S0 (pt i) := b2.len hy
    have hzi := hy.1 (pt i)
    have hc1 : 1 ≤ c.length := by omega
    have hdc := hdN_0 hc1
    obtain ⟨cl, hcl2⟩ : ∃ cl : Nat, c[c.length - 1]? = some cl := ⟨c[c.length - 1], List.getElem?_eq_getElem (by omega)⟩
    -- nodes of the new place
    have new : ∀ a : Nat, cnN a c + cnN a l1 + cnN a fl2 + psN (fun j => cnN a (cs j) + cnN a (ls j)) i ≤ 1 ∧ (∀ j : Nat, i < j → j < n → cnN a c + cnN a l1 + cnN a fl2 + psN (fun j => cnN a (cs j) + cnN a (ls j)) i + cnN a (l j) ≤ 1) := fun a => by
      have c0 := b6 a
      have c1 := g10 a
      have c2 := hcv a
      have c3 := ind_1 (t := t2) (a := a)
      have c4 : psN (fun j => cnN a (l j)) i + cnN a (l i) ≤ psN (fun j => cnN a (l j)) n := psN_sl (w := fun j => cnN a (l j)) (Nat.le_refl i) hin
      refine ⟨by omega, fun j hj hjn => ?_⟩
      have c5 : psN (fun j => cnN a (l j)) (i + 1) + cnN a (l j) ≤ psN (fun j => cnN a (l j)) n := psN_sl (w := fun j => cnN a (l j)) (by omega) hjn
      have c6 : psN (fun j => cnN a (l j)) (i + 1) = psN (fun j => cnN a (l j)) i + cnN a (l i) := rfl
      omega
    -- the end of this round: next is written at the last node, or nothing is
    have fin : ∀ S7 : Sg, NO (fun a => 0 < i ∧ a = lst) S5 S7 → Zl S7 = Zl S5 → Zr S7 62 = Zr S5 62 → (Zi S7 64 = Zi S5 64 ∧ Zi S7 65 = Zi S5 65) → (0 < i → Zr S7 63 = upd (Zr S5 63) lst (nI (hdN c))) → (i = 0 → Zr S7 63 = Zr S5 63) → Rt (f_gather_100 R.K (f_gather_17 R.K d) S7 (some ta) (nI n) o (nI p) (if i = 0 then nI (hdN c) else x5) (nI i) (nI (hdN c))) Q := fun S7 m1 m2 m3 m4 m5 m6 => by
      have lstm : 0 < i → lst ∈ ftN cs i := fun hi0 => by
        rcases g6 with ⟨w, _⟩ | ⟨_, _, _, w⟩
        · omega
        · exact List.mem_of_getElem? w
      have lsto : 0 < i → 1 ≤ psN (fun j => cnN lst (cs j) + cnN lst (ls j)) i := fun hi0 => by
        obtain ⟨j, j1, j2⟩ := ftN_mem.mp (lstm hi0)
        exact oldc j lst j1 (Or.inl j2)
      have lstc : 0 < i → lst ∉ c ∧ lst ∉ l1 ∧ lst ∉ fl2 ∧ ∀ j : Nat, i < j → j < n → lst ∉ l j := fun hi0 => by
        have := lsto hi0
        obtain ⟨w1, w2⟩ := new lst
        exact ⟨fun w => by have := cnN_mem.mp w; omega, fun w => by have := cnN_mem.mp w; omega, fun w => by have := cnN_mem.mp w; omega, fun j hj hjn w => by have := cnN_mem.mp w; have := w2 j hj hjn; omega⟩
      have e7 : RNx Sl S7 := (eS.tr b5.rn).tr m1.rn
      have hk7 : lkN (Zr S7 63) c := b3.cg (fun a ha => (m1.2.2.2.2.2.2.2.2 a (fun w => (lstc w.1).1 (by rw [← w.2]; exact ha))).2.2)
      unfold f_gather_100
      refine Rt.bd (rq S7 e7) (Rt.be (lvo_ hL hx e7 (o := some z) (fun y hy => by cases hy; exact z2)) ?_)
      show Rt (bnd (f_along R.K S7 (nI (hdN c)) (nI (zN R S0 (abT S0 z)) - 1)) _) Q
      rw [z3, ← hcl, show nI c.length - 1 = nI (c.length - 1) by
        obtain ⟨m, hm⟩ : ∃ m : Nat, c.length = m + 1 := ⟨c.length - 1, by omega⟩
        rw [hm]; exact nI_pred m]
      refine Rt.be (alg_ (L := c) (i := 0) (m := c.length - 1) hk7 (by omega) hdc (by rw [Nat.zero_add]; exact hcl2)) ?_
      rw [nI_1]
      have hcn : ∀ a : Nat, psN (fun j => cnN a (lUp cs i c j) + cnN a (lUp ls i l1 j)) i = psN (fun j => cnN a (cs j) + cnN a (ls j)) i := fun a => psN_cg (fun j hj => by rw [lUp_ne (by omega), lUp_ne (by omega)])
      have ft : ftN (lUp cs i c) i = ftN cs i := ftN_cg (fun j hj => lUp_ne (by omega))
      have ft1 : ftN (lUp cs i c) (i + 1) = ftN cs i ++ c := by
        show ftN (lUp cs i c) i ++ lUp cs i c i = _
        rw [ft, lUp_eq]
      have ndi : (ftN cs i).Nodup := cnN_nd.mpr (fun a => by
        have w := (new a).1
        have w2 : psN (fun j => cnN a (cs j)) i ≤ psN (fun j => cnN a (cs j) + cnN a (ls j)) i := psN_le (fun j _ => Nat.le_add_right _ _)
        rw [ftN_cn]; omega)
      have x5' : ∀ a ∈ ftN cs i, Zr S5 63 a = Zr S1 63 a := fun a ha => (b5.2.2.2.2.2.2.2.2 a (fun w => by
        obtain ⟨j, j1, j2⟩ := ftN_mem.mp ha
        have := oldc j a j1 (Or.inl j2)
        have := cnN_mem.mp w.2
        have := (new a).1
        omega)).2.2
      refine ga17 hL hx e ht hc hn hf hp hqn hva ho hF h1 hro hcv kf r (i + 1) d _ _ S7 (by omega) (by omega) ⟨lUp cs i c, lUp ls i l1, fl2, t2, max kk k5, cl, ?_, ?_, ⟨?_, ?_, ?_⟩, Or.inr ⟨Nat.succ_pos i, ?_, rfl, ?_⟩, ?_, fun j hj => ?_, fun j hj hjn => ?_, fun a => ?_⟩
      · refine (g1.tr (b5.mo (fun a w => ?_))).tr (m1.mo (fun a w => ?_))
        · have w1 := w.1
          rcases w1 with w1 | w1
          · exact Or.inl (g5 a w1)
          · exact Or.inl (Or.inr (by omega))
        · obtain ⟨w1, w2⟩ := w
          subst w2
          have c0 := lsto w1
          have c1 := g10 a
          have c2 : psN (fun j => cnN a (l j)) i ≤ psN (fun j => cnN a (l j)) n := psN_mo (by omega)
          by_cases w3 : a ∈ fl ∨ t < a
          · exact Or.inl w3
          · refine Or.inr (Classical.byContradiction (fun w4 => ?_))
            have z4 : psN (fun j => cnN a (l j)) i = 0 := by
              rw [psN_cg (w2 := fun _ => 0) (fun j hj => cnN_z (fun z => w4 ⟨j, by omega, z⟩)), psN_z]
            have z5 : cnN a fl = 0 := cnN_z (fun z => w3 (Or.inl z))
            have z6 : a ≤ t := by
              by_cases c : t < a
              · exact absurd (Or.inr c) w3
              · omega
            have z7 : ind t1 a = ind t a := by
              unfold ind
              by_cases c : 1 ≤ a
              · rw [if_pos ⟨c, by omega⟩, if_pos ⟨c, z6⟩]
              · rw [if_neg (by omega), if_neg (by omega)]
            omega
      · exact b4.no m1 (fun a ha w => (lstc w.1).2.2.1 (by rw [← w.2]; exact ha)) m4.1 m4.2
      · exact Nat.le_trans g3 b7.1
      · have := b7.2.1; omega
      · exact fun a ha => g5 a (b7.2.2.1 a ha)
      · rw [ft1]
        by_cases c0 : i = 0
        · subst c0
          rw [if_pos rfl]; rfl
        · rw [if_neg c0]
          rcases g6 with ⟨w, _⟩ | ⟨_, w, _⟩
          · exact absurd w c0
          · rw [w]
            have hne : 1 ≤ (ftN cs i).length := by
              have := lstm (by omega)
              cases hh : ftN cs i with
              | nil => rw [hh] at this; cases this
              | cons a b => exact Nat.succ_pos _
            cases hh : ftN cs i with
            | nil => rw [hh] at hne; cases hne
            | cons a b => rfl
      · rw [ft1, List.length_append, List.getElem?_append_right (by omega), show (ftN cs i).length + c.length - 1 - (ftN cs i).length = c.length - 1 by omega]
        exact hcl2
      · rw [ft1]
        by_cases c0 : i = 0
        · subst c0
          rw [show ftN cs 0 ++ c = c from rfl]; exact hk7
        · rcases g6 with ⟨w, _⟩ | ⟨_, _, _, wl9⟩
          · exact absurd w c0
          · refine lkN.app ?_ hk7 (fun a b ha hb => ?_)
            · rw [m5 (by omega)]
              exact (g7.cg x5').up ndi wl9
            · rw [wl9] at ha
              cases ha
              rw [hdc] at hb
              cases hb
              rw [m5 (by omega), upd_s]
      · have hA7 : ∀ a : Nat, Zl S7 61 a = Zl S5 61 a ∧ Zr S7 62 a = Zr S5 62 a := fun a => by rw [m2, m3]; exact ⟨rfl, rfl⟩
        by_cases c0 : j = i
        · subst c0
          rw [lUp_eq, lUp_eq]
          refine (b2.st (M2 := nMS S7) (fun a _ => hA7 a) (fun a ha => m1.2.2.2.2.2.2.2.2 a (fun w => (lstc w.1).2.1 (by rw [← w.2]; exact ha)))).up (Nat.le_max_right _ _)
        · rw [lUp_ne c0, lUp_ne c0]
          have hji : j < i := by omega
          have nc : ∀ a : Nat, (a ∈ cs j ∨ a ∈ ls j) → a ∉ c := fun a w w2 => by
            have := oldc j a hji w
            have := cnN_mem.mp w2
            have := (new a).1
            omega
          have a15 : agN (nMS S1) (nMS S5) (ls j) := b5.ag (fun a ha w => nc a (Or.inr ha) w.2)
          have a57 : agN (nMS S5) (nMS S7) (ls j) := m1.ag (fun a ha w => by
            obtain ⟨w1, w2⟩ := w
            subst w2
            obtain ⟨j2, y1, y2⟩ := ftN_mem.mp (lstm w1)
            have n1 := (new a).1
            have n2 := cnN_mem.mp ha
            have n3 := cnN_mem.mp y2
            by_cases c1 : j2 = j
            · subst c1
              have n4 : cnN a (cs j2) + cnN a (ls j2) ≤ psN (fun j => cnN a (cs j) + cnN a (ls j)) i := psN_i1 (v := fun j => cnN a (cs j) + cnN a (ls j)) y1
              omega
            · have n4 : (cnN a (cs j2) + cnN a (ls j2)) + (cnN a (cs j) + cnN a (ls j)) ≤ psN (fun j => cnN a (cs j) + cnN a (ls j)) i := psN_ij (v := fun j => cnN a (cs j) + cnN a (ls j)) c1 y1 hji
              omega)
          refine (((g8 j hji).st (M2 := nMS S5) (fun a ha => ?_) a15).st (M2 := nMS S7) (fun a _ => hA7 a) a57).up (Nat.le_max_left _ _)
          obtain ⟨w1, w2, _⟩ := b5.2.2.2.2.2.2.2.2 a (fun w => nc a (Or.inl ha) w.2)
          exact ⟨w1, w2⟩
      · have q1 := g9 j (by omega) hjn
        have q2 : agN (nMS S1) (nMS S5) (l j) := b5.ag (fun a ha w => by
          have := cnN_mem.mp ha
          have := cnN_mem.mp w.2
          have := (new a).2 j (by omega) hjn
          omega)
        have q3 : agN (nMS S5) (nMS S7) (l j) := m1.ag (fun a ha w => (lstc w.1).2.2.2 j (by omega) hjn (by rw [← w.2]; exact ha))
        exact fun a ha => ⟨(q3 a ha).1.trans ((q2 a ha).1.trans (q1 a ha).1), (q3 a ha).2.1.trans ((q2 a ha).2.1.trans (q1 a ha).2.1), (q3 a ha).2.2.trans ((q2 a ha).2.2.trans (q1 a ha).2.2)⟩
      · show psN (fun j => cnN a (lUp cs i c j) + cnN a (lUp ls i l1 j)) i + (cnN a (lUp cs i c i) + cnN a (lUp ls i l1 i)) + cnN a fl2 + ind t a = psN (fun j => cnN a (l j)) i + cnN a (l i) + cnN a fl + ind t2 a
        rw [hcn, lUp_eq, lUp_eq]
        have c0 := b6 a
        have c1 := g10 a
        omega
    rw [b1]
    rcases g6 with ⟨w1, w2, w3⟩ | ⟨w1, w2, w3, w4⟩
    · rw [w3]
      refine Rt.ip rfl ?_
      have q := fin S5 NO.rf rfl rfl ⟨rfl, rfl⟩ (fun z => by omega) (fun _ => rfl)
      rw [if_pos w1] at q
      exact q
    · have l0 := g7.1 lst (List.mem_of_getElem? w4)
      rw [w3]
      refine Rt.iq (fun z => by have := nI_e (b := 0) (by omega) (by decide) z; omega) ?_
      refine Rt.bd (v := Ur S5 63 (upd (Zr S5 63) lst (nI (hdN c)))) (wRI_n (show lst < rlen 63 from l0.2) (by decide)) ?_
      have q := fin (Ur S5 63 (upd (Zr S5 63) lst (nI (hdN c)))) (NO.w3 ⟨w1, rfl⟩) rfl (Zr_u9 (by decide)) ⟨rfl, rfl⟩ (fun _ => Zr_us) (fun z => by omega)
      rw [if_neg (by omega)] at q
      exact q
end PS82
