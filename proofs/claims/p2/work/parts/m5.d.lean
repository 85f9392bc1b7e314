-- m5.d.lean.txt
section
/-- a struct of the members V -/
def qT9 (n : Nat) (V : Nat → qV) : qV := fun π => match π with | [] => none | (q, j) :: σ => if q = 0 ∧ j < n then V j σ else none
theorem qFu_T {y : qY} {t : Nat} {V : Nat → qV} (h2 : y.1 t = 2) (h1 : 1 ≤ y.2.2.2.1 t 0) (h : ∀ j : Nat, j < y.2.2.2.1 t 0 → qFu y (y.2.2.2.2 t 0 j) (V j)) : qFu y t (qT9 (y.2.2.2.1 t 0) V) := by
  have e1 : ∀ (j : Nat) (σ : lLc), j < y.2.2.2.1 t 0 → qT9 (y.2.2.2.1 t 0) V ((0, j) :: σ) = V j σ := fun j σ hj => (if_pos ⟨rfl, hj⟩ : (if (0 : Nat) = 0 ∧ j < y.2.2.2.1 t 0 then V j σ else none) = V j σ)
  have e2 : ∀ (q j : Nat) (σ : lLc) (x : Nat × Nat), qT9 (y.2.2.2.1 t 0) V ((q, j) :: σ) = some x → q = 0 ∧ j < y.2.2.2.1 t 0 ∧ V j σ = some x := fun q j σ x hx => by
    have hx : (if q = 0 ∧ j < y.2.2.2.1 t 0 then V j σ else none) = some x := hx
    by_cases c : q = 0 ∧ j < y.2.2.2.1 t 0
    · rw [if_pos c] at hx; exact ⟨c.1, c.2, hx⟩
    · rw [if_neg c] at hx; exact absurd hx (by simp)
  refine ⟨⟨fun π u g1 hv => ?_, fun π σ j x hx => ?_, fun π σ g1 j x hx => ?_⟩, fun ρ u g1 g2 => ?_⟩
  · cases π with
    | nil => cases hv
    | cons a π =>
      obtain ⟨q, j⟩ := a
      obtain ⟨rfl, hj, hv⟩ := e2 _ _ _ _ hv
      obtain ⟨k1, k2, k3, k5, k6⟩ := (h j hj).1.1 _ u g1 hv
      refine ⟨⟨h2, hj, k1⟩, k2, k3, fun z ρ w g1 g2 => ?_, fun z j2 hj2 ρ w g1 g2 => ?_⟩
      · exact qQ_cg (k5 z ρ w g1 g2) (fun τ => e1 j _ hj)
      · exact qQ_cg (k6 z j2 hj2 ρ w g1 g2) (fun τ => e1 j _ hj)
  · cases π with
    | nil =>
      obtain ⟨c, -, -⟩ := e2 _ _ _ _ hx
      omega
    | cons a π =>
      obtain ⟨q, i⟩ := a
      obtain ⟨rfl, hi, hx⟩ := e2 _ _ _ _ hx
      obtain ⟨z, hz⟩ := (h i hi).1.2.1 π σ j x hx
      exact ⟨z, (e1 i π hi).trans hz⟩
  · cases π with
    | nil =>
      obtain ⟨c, -, -⟩ := e2 _ _ _ _ hx
      omega
    | cons a π =>
      obtain ⟨q, i⟩ := a
      obtain ⟨rfl, hi, hx⟩ := e2 _ _ _ _ hx
      obtain ⟨z, hz⟩ := (h i hi).1.2.2 π σ g1 j x hx
      exact ⟨z, (e1 i π hi).trans hz⟩
  · cases ρ with
    | nil =>
      have g2 : u = t := g2
      subst g2
      refine ⟨fun z => absurd h2 z, fun _ => ?_⟩
      obtain ⟨σ, x, hx⟩ := qF_pl (h 0 h1).2
      exact ⟨(0, 0) :: σ, x, (e1 0 σ h1).trans hx⟩
    | cons a b =>
      obtain ⟨a1, a2⟩ := a
      obtain ⟨ha, hb⟩ := qM_cons.mp g1
      have ha : a1 = 0 := ha
      subst ha
      obtain ⟨_, k2, k3⟩ := g2
      exact qQ_cg ((h a2 k2).2 b u hb k3) (fun τ => e1 a2 (b ++ τ) k2)
theorem qS_T {n j : Nat} {V : Nat → qV} (hj : j < n) : qS (qT9 n V) [(0, j)] = V j := funext fun σ => (if_pos ⟨rfl, hj⟩ : (if (0 : Nat) = 0 ∧ j < n then V j σ else none) = V j σ)
theorem qS_E {t g n j : Nat} {V : Nat → qV} (hj : j < n) : qS (qE t g n V) [(g + 2, j)] = V j := funext fun σ => (if_pos ⟨rfl, hj⟩ : (if g + 2 = g + 2 ∧ j < n then V j σ else none) = V j σ)
/-- a sum with one summand -/
theorem psN_at {w : Nat → Nat} {i0 : Nat} : ∀ {n : Nat}, i0 < n → (∀ i : Nat, i < n → i ≠ i0 → w i = 0) → psN w n = w i0
  | n + 1, h, hz => by
    show psN w n + w n = w i0
    by_cases e : i0 = n
    · subst e
      rw [psN_cg (w2 := fun _ => 0) (fun i hi => hz i (by omega) (by omega)), psN_z]; omega
    · rw [psN_at (n := n) (by omega) (fun i hi => hz i (by omega)), hz n (by omega) (fun z => e z.symm)]; rfl
/-- a sum told in another order -/
theorem psN_pm {w q : Nat → Nat} {n : Nat} (h1 : ∀ i : Nat, i < n → q i < n) (h2 : ∀ a : Nat, a < n → ∃ i : Nat, i < n ∧ q i = a) (h3 : ∀ i j : Nat, i < n → j < n → q i = q j → i = j) : psN (fun i => w (q i)) n = psN w n := by
  have e1 : psN (fun i => w (q i)) n = psN (fun i => psN (fun a => if q i = a then w a else 0) n) n := psN_cg (fun i hi => by
    rw [psN_at (i0 := q i) (h1 i hi) (fun a _ ha => if_neg (fun z => ha z.symm)), if_pos rfl])
  have e2 : psN w n = psN (fun a => psN (fun i => if q i = a then w a else 0) n) n := psN_cg (fun a ha => by
    obtain ⟨i, hi, e⟩ := h2 a ha
    rw [psN_at (i0 := i) hi (fun j hj hne => if_neg (fun z => hne (h3 j i hj hi (z.trans e.symm)))), if_pos e])
  rw [e1, e2, psN_sw (w := fun i a => if q i = a then w a else 0)]
theorem lkN.app {f : Nat → Int32} {A B : List Nat} (h1 : lkN f A) (h2 : lkN f B) (hl : ∀ a b : Nat, A[A.length - 1]? = some a → B[0]? = some b → f a = nI b) : lkN f (A ++ B) := by
  refine ⟨fun a ha => ?_, fun i a b ha hb => ?_⟩
  · rcases List.mem_append.mp ha with w | w
    · exact h1.1 a w
    · exact h2.1 a w
  · by_cases c : i + 1 < A.length
    · rw [List.getElem?_append_left (by omega)] at ha
      rw [List.getElem?_append_left c] at hb
      exact h1.2 i a b ha hb
    · by_cases c2 : i < A.length
      · rw [List.getElem?_append_left c2] at ha
        rw [List.getElem?_append_right (by omega), show i + 1 - A.length = 0 by omega] at hb
        exact hl a b (by rw [show A.length - 1 = i by omega]; exact ha) hb
      · rw [List.getElem?_append_right (by omega)] at ha hb
        exact h2.2 (i - A.length) a b ha (by rw [show i - A.length + 1 = i + 1 - A.length by omega]; exact hb)
theorem lkN.up {f : Nat → Int32} {A : List Nat} {a0 : Nat} {v : Int32} (h : lkN f A) (hd : A.Nodup) (hl : A[A.length - 1]? = some a0) : lkN (upd f a0 v) A := by
  refine ⟨h.1, fun i a b ha hb => ?_⟩
  have hi1 := (List.getElem?_eq_some_iff.mp hb).1
  have hne : a ≠ a0 := fun e => by
    have := (List.getElem?_inj (i := i) (j := A.length - 1) (by omega) hd).mp (by rw [ha, hl, e])
    omega
  rw [upd_n hne]
  exact h.2 i a b ha hb
/-- a family of roots holds a node at most once -/
theorem kC.sub {C L H : Nat × Nat → List Nat} {fl : List Nat} {t : Nat} {tk : Nat → Int32} (hC : kC C L H fl t tk) {r : Nat → Nat × Nat} {n : Nat} (h1 : ∀ i : Nat, i < n → (r i).1 < 60 ∧ (r i).2 < 300) (h2 : ∀ i j : Nat, i < n → j < n → r i = r j → i = j) (a : Nat) : psN (fun i => cnN a (C (r i)) + cnN a (L (r i))) n + cnN a fl ≤ ind t a := by
  have e := sm2_fam (G2 := fun _ => 0) (r := r) (n := n) (G := fun q => if ∃ i : Nat, i < n ∧ q = r i then cnN a (C q) + cnN a (L q) else 0) h1 h2 (fun q hq => (if_neg (fun ⟨i, i1, i2⟩ => hq i i1 i2)).symm)
  have e2 : psN (fun i => if ∃ i2 : Nat, i2 < n ∧ r i = r i2 then cnN a (C (r i)) + cnN a (L (r i)) else 0) n = psN (fun i => cnN a (C (r i)) + cnN a (L (r i))) n := psN_cg (fun i hi => if_pos ⟨i, hi, rfl⟩)
  rw [e2] at e
  have e3 : sm2 (fun q => if ∃ i : Nat, i < n ∧ q = r i then cnN a (C q) + cnN a (L q) else 0) ≤ sm2 (fun q => cnN a (C q) + cnN a (L q)) := sm2_le (fun q _ _ => by
    by_cases c : ∃ i : Nat, i < n ∧ q = r i
    · rw [if_pos c]; exact Nat.le_refl _
    · rw [if_neg c]; exact Nat.zero_le _)
  have e4 := hC.1 a
  have e5 : psN (fun i => (fun _ : Nat × Nat => 0) (r i)) n = 0 := psN_z
  rw [e5] at e
  omega
end
-- m5.e.lean.txt
section
/-- gather: i parts have their places -/
def gaI (R : yR) (S0 Sl S : Sg) (pt : Nat → Nat) (W : Nat → qV) (l h : Nat → List Nat) (n t : Nat) (fl : List Nat) (x5 x6 : Int32) (i : Nat) (S1 : Sg) : Prop := ∃ (cs ls : Nat → List Nat) (fl1 : List Nat) (t1 kk lst : Nat), NO (fun a => (a ∈ fl ∨ t < a) ∨ ∃ q : Nat, q < n ∧ a ∈ l q) S S1 ∧ FLs S1 fl1 t1 ∧ (t ≤ t1 ∧ t1 + fl.length ≤ fl1.length + t + i ∧ ∀ a ∈ fl1, a ∈ fl ∨ t < a) ∧ ((i = 0 ∧ x5 = 0 ∧ x6 = 0) ∨ (0 < i ∧ x5 = nI (hdN (ftN cs i)) ∧ x6 = nI lst ∧ (ftN cs i)[(ftN cs i).length - 1]? = some lst)) ∧ lkN (Zr S1 63) (ftN cs i) ∧ (∀ j : Nat, j < i → pL (yT R S0) (szN R S0) (nMS S1) kk (pt j) (W j) (cs j) (ls j) (h j)) ∧ (∀ j : Nat, i ≤ j → j < n → agN (nMS S) (nMS S1) (l j)) ∧ ∀ a : Nat, psN (fun j => cnN a (cs j) + cnN a (ls j)) i + cnN a fl1 + ind t a = psN (fun j => cnN a (l j)) i + cnN a fl + ind t1 a
section PS82
variable {R : yR} {S0 Sl S S1 : Sg} {g : Nat → Int32} {n p t cap ta : Nat} {f : Nat → Option Nat} {pt : Nat → Nat} {W : Nat → qV} {l h : Nat → List Nat} {fl : List Nat} {q : Nat → Nat} {o : Option Nat} {Q : Sg → Int32 → Prop}
theorem ind_1 {t a : Nat} : ind t a ≤ 1 := by
  unfold ind
  by_cases w : 1 ≤ a ∧ a ≤ t
  · rw [if_pos w]; exact Nat.le_refl _
  · rw [if_neg w]; exact Nat.zero_le _
theorem psN_sl {w : Nat → Nat} {i j n : Nat} (h1 : i ≤ j) (h2 : j < n) : psN w i + w j ≤ psN w n := by
  have a : psN w (j + 1) ≤ psN w n := psN_mo (by omega)
  have b : psN w i ≤ psN w j := psN_mo h1
  have c : psN w (j + 1) = psN w j + w j := rfl
  omega
/-- where part i stands -/
theorem ga30 {k17 : Sg → Option Nat → Int32 → Option Nat → Int32 → Int32 → Int32 → Int32 → Option (Sg × Int32)} {x4 x5 x6 : Int32} {i qi : Nat} (hn : n ≤ 12) (hq : qi < n) (ho : (o = none ∧ qi = i) ∨ ∃ (a9 : Nat) (F : Nat → Int32), o = some a9 ∧ a9 ∈ ZL S1 ∧ ZF S1 a9 = .inl (R.K.1 0, n, .inl F) ∧ F qi = nI i ∧ ∀ j : Nat, j < n → j ≠ qi → F j ≠ nI i) (kk : Rt (f_gather_59 R.K k17 S1 (some ta) (nI n) o x4 x5 x6 (nI i) (nI qi)) Q) : ∀ (d j x8 : Nat), n < j + d → j ≤ n → (o = none → x8 = i) → (qi < j → x8 = qi) → Rt (f_gather_30 R.K k17 d S1 (some ta) (nI n) o x4 x5 x6 (nI i) (nI x8) (nI j)) Q
  | 0, j, x8, hd, hj, _, _ => by omega
  | d + 1, j, x8, hd, hj, h0, h8 => by
    unfold f_gather_30
    rcases ho with ⟨e1, e2⟩ | ⟨a9, F, e1, e2, e3, e4, e5⟩
    · refine Rt.ip e1 ?_
      rw [h0 e1, ← e2]; rw [← e2] at kk; exact kk
    · refine Rt.iq (by rw [e1]; exact fun w => by cases w) (Rt.it (fun w => ?_) (fun w => ?_))
      · have hjn : n ≤ j := (nI_leI (by omega) (by omega)).mp w
        rw [h8 (by omega)]; exact kk
      · have hlt : j < n := by
          by_cases c : j < n
          · exact c
          · exact absurd (nI_le (a := n) (b := j) (by omega) (by omega)) w
        refine Rt.bd (v := F j) (by rw [e1]; exact aI_n e2 e3 hlt (by omega)) ?_
        unfold f_gather_53
        rw [nI_1]
        refine Rt.it (fun w2 => ?_) (fun w2 => ?_)
        · have ej : j = qi := Classical.byContradiction (fun z => e5 j hlt z w2)
          exact ga30 hn hq (Or.inr ⟨a9, F, e1, e2, e3, e4, e5⟩) kk d (j + 1) j (by omega) (by omega) (fun z => by rw [z] at e1; cases e1) (fun _ => ej)
        · exact ga30 hn hq (Or.inr ⟨a9, F, e1, e2, e3, e4, e5⟩) kk d (j + 1) x8 (by omega) (by omega) (fun z => by rw [z] at e1; cases e1) (fun z => h8 (by
            by_cases c : qi = j
            · exact absurd (by rw [← c]; exact e4) w2
            · omega))
/-- gather -/
theorem ga17 (hL : LFS R S0 g) (hx : LX S0 Sl) (e : RNx Sl S) (ht : n = 0 ∨ (ta ∈ ZL Sl ∧ ZF Sl ta = .inl (R.K.1 4, cap, .inr (.inr (.inr (.inr f)))))) (hc : n ≤ cap ∧ cap < 100) (hn : n ≤ 12) (hf : ∀ i : Nat, i < n → ∃ z : Nat, f i = some z ∧ rTy S0 z ∧ abT S0 z = pt i) (hp : p + n < 20000) (hqn : ∀ i : Nat, i < n → q i < n) (hva : ∀ i : Nat, i < n → vaR (yT R S0) (szN R S0) (nMS S) (pt i) (W i) (Zl S 72 (p + q i)) (l i) (h i)) (ho : ∀ i : Nat, i < n → (o = none ∧ q i = i) ∨ ∃ (a9 : Nat) (F : Nat → Int32), o = some a9 ∧ a9 ∈ ZL Sl ∧ ZF Sl a9 = .inl (R.K.1 0, n, .inl F) ∧ F (q i) = nI i ∧ ∀ j : Nat, j < n → j ≠ q i → F j ≠ nI i) (hF : FLs S fl t) (h1 : ∀ m ∈ fl, 1 ≤ m) (hro : t ≤ fl.length + 425000) (hcv : ∀ a : Nat, psN (fun i => cnN a (l i)) n + cnN a fl ≤ ind t a) (kf : ∀ (S2 : Sg) (x5 x6 : Int32), gaI R S0 Sl S pt W l h n t fl x5 x6 n S2 → Rt ((pM S2 73 (nI p)).bind fun S1 => some (S1, x5)) Q) : ∀ (r i d : Nat) (x5 x6 : Int32) (S1 : Sg), i + r = n → r < d → gaI R S0 Sl S pt W l h n t fl x5 x6 i S1 → Rt (f_gather_17 R.K d S1 (some ta) (nI n) o (nI p) x5 x6 (nI i)) Q
  | r, i, 0, _, _, _, _, hd, _ => by omega
  | 0, i, d + 1, x5, x6, S1, hi, hd, hI => by
    obtain rfl : i = n := by omega
    unfold f_gather_17
    exact Rt.ip (nI_le (Nat.le_refl _) (by omega)) (kf S1 x5 x6 hI)
  | r + 1, i, d + 1, x5, x6, S1, hi, hd, hI => by
    have hin : i < n := by omega
    have hy := nYk_of hL
    have ht2 : ta ∈ ZL Sl ∧ ZF Sl ta = .inl (R.K.1 4, cap, .inr (.inr (.inr (.inr f)))) := ht.resolve_left (by omega)
    obtain ⟨cs, ls, fl1, t1, kk, lst, g1, g2, ⟨g3, g4, g5⟩, g6, g7, g8, g9, g10⟩ := hI
    have eS : RNx Sl S1 := e.tr g1.rn
    obtain ⟨z, z1, z2, z3⟩ := hf i hin
    have hqi := hqn i hin
    have rq : ∀ S2 : Sg, RNx Sl S2 → aQ R.K 4 S2 (some ta) (nI i) = some (some z) := fun S2 e2 => by
      rw [← z1]; exact aQ_n (by rw [e2.1]; exact ht2.1) (by rw [e2.2.1]; exact ht2.2) (by omega) (by omega)
    -- how often each node stands
    have tot : ∀ a : Nat, psN (fun j => cnN a (cs j) + cnN a (ls j)) i + cnN a fl1 + cnN a (l i) ≤ 1 ∧ (∀ j : Nat, i < j → j < n → psN (fun j => cnN a (cs j) + cnN a (ls j)) i + cnN a fl1 + cnN a (l i) + cnN a (l j) ≤ 1) ∧ (∀ j : Nat, i ≤ j → j < n → 1 ≤ cnN a (l j) → 1 ≤ a ∧ a ≤ t) := fun a => by
      have c1 := g10 a
      have c2 := hcv a
      have c3 := ind_1 (t := t1) (a := a)
      have c4 : psN (fun j => cnN a (l j)) i + cnN a (l i) ≤ psN (fun j => cnN a (l j)) n := psN_sl (w := fun j => cnN a (l j)) (Nat.le_refl i) hin
      refine ⟨by omega, fun j hj hjn => ?_, fun j hj hjn w => ?_⟩
      · have c5 : psN (fun j => cnN a (l j)) (i + 1) + cnN a (l j) ≤ psN (fun j => cnN a (l j)) n := psN_sl (w := fun j => cnN a (l j)) (by omega) hjn
        have c6 : psN (fun j => cnN a (l j)) (i + 1) = psN (fun j => cnN a (l j)) i + cnN a (l i) := rfl
        omega
      · have c5 : psN (fun j => cnN a (l j)) i + cnN a (l j) ≤ psN (fun j => cnN a (l j)) n := psN_sl (w := fun j => cnN a (l j)) hj hjn
        have c6 : 1 ≤ ind t a := by omega
        unfold ind at c6
        by_cases w2 : 1 ≤ a ∧ a ≤ t
        · exact w2
        · rw [if_neg w2] at c6; omega
    have h1' : ∀ m ∈ fl1, 1 ≤ m := fun m hm => by
      rcases g5 m hm with w | w
      · exact h1 m w
      · omega
    have oldc : ∀ (j a : Nat), j < i → (a ∈ cs j ∨ a ∈ ls j) → 1 ≤ psN (fun j => cnN a (cs j) + cnN a (ls j)) i := fun j a hj w => by
      have c5 : cnN a (cs j) + cnN a (ls j) ≤ psN (fun j => cnN a (cs j) + cnN a (ls j)) i := psN_i1 (v := fun j => cnN a (cs j) + cnN a (ls j)) hj
      rcases w with w | w
      · have := cnN_mem.mp w; omega
      · have := cnN_mem.mp w; omega
    have hv1 := (hva i hin).st (g9 i (Nat.le_refl _) hin)
    have e72 : Zl S1 72 = Zl S 72 := g1.2.2.2.2.2.1 72 (by decide)
    unfold f_gather_17
    refine Rt.iq (fun w => by have := (nI_leI (by omega) (by omega)).mp w; omega) ?_
    refine ga30 (n := n) (i := i) (qi := q i) hn hqi ?_ ?_ bigN 0 i (by unfold bigN; omega) (Nat.zero_le _) (fun _ => rfl) (fun w => by omega)
    · refine (ho i hin).imp id (fun ⟨a9, F, b1, b2, b3, b4, b5⟩ => ⟨a9, F, b1, by rw [eS.1]; exact b2, by rw [eS.2.1]; exact b3, b4, b5⟩)
    unfold f_gather_59
    refine Rt.bd (rq S1 eS) ?_
    rw [nI_add]
    refine Rt.bd (rJ_n (show p + q i < rlen 72 from by show _ < 20000; omega) (by decide)) ?_
    rw [e72]
    refine Rt.bn (fpl_ (T := pt i) (W := W i) (l := l i) (h := h i) (fl := fl1) (t := t1) hL hx eS z2 z3 hv1 g2 h1' (by omega) (fun a ha => ?_)) (fun S5 r5 ⟨c, l1, fl2, t2, k5, b1, b2, b3, b4, b5, b7, b6⟩ => ?_)
    · have := cnN_mem.mp ha
      obtain ⟨w1, _, w3⟩ := tot a
      exact ⟨fun w => by have := cnN_mem.mp w; omega, Nat.le_trans (w3 i (Nat.le_refl _) hin (by omega)).2 g3⟩
    have hcl : c.length = zN R S0 (pt i) := b2.len hy
    have hzi := hy.1 (pt i)
    have hc1 : 1 ≤ c.length := by omega
    have hdc := hdN_0 hc1
    obtain ⟨cl, hcl2⟩ : ∃ cl : Nat, c[c.length - 1]? = some cl := ⟨c[c.length - 1], List.getElem?_eq_getElem (by omega)⟩
    -- nodes of the new place
    have new : ∀ a : Nat, cnN a c + cnN a l1 + cnN a fl2 + psN (fun j => cnN a (cs j) + cnN a (ls j)) i ≤ 1 ∧ (∀ j : Nat, i < j → j < n → cnN a c + cnN a l1 + cnN a fl2 + psN (fun j => cnN a (cs j) + cnN a (ls j)) i + cnN a (l j) ≤ 1) := fun a => by
      have c0 := b6 a
      have c1 := g10 a
      have c2 := hcv a
      have c3 := ind_1 (t := t2) (a := a)
      have c4 : psN (fun j => cnN a (l j)) i + cnN a (l i) ≤ psN (fun j => cnN a (l j)) n := psN_sl (w := fun j => cnN a (l j)) (Nat.le_refl i) hin
      refine ⟨by omega, fun j hj hjn => ?_⟩
      have c5 : psN (fun j => cnN a (l j)) (i + 1) + cnN a (l j) ≤ psN (fun j => cnN a (l j)) n := psN_sl (w := fun j => cnN a (l j)) (by omega) hjn
      have c6 : psN (fun j => cnN a (l j)) (i + 1) = psN (fun j => cnN a (l j)) i + cnN a (l i) := rfl
      omega
    -- the end of this round: next is written at the last node, or nothing is
    have fin : ∀ S7 : Sg, NO (fun a => 0 < i ∧ a = lst) S5 S7 → Zl S7 = Zl S5 → Zr S7 62 = Zr S5 62 → (Zi S7 64 = Zi S5 64 ∧ Zi S7 65 = Zi S5 65) → (0 < i → Zr S7 63 = upd (Zr S5 63) lst (nI (hdN c))) → (i = 0 → Zr S7 63 = Zr S5 63) → Rt (f_gather_100 R.K (f_gather_17 R.K d) S7 (some ta) (nI n) o (nI p) (if i = 0 then nI (hdN c) else x5) (nI i) (nI (hdN c))) Q := fun S7 m1 m2 m3 m4 m5 m6 => by
      have lstm : 0 < i → lst ∈ ftN cs i := fun hi0 => by
        rcases g6 with ⟨w, _⟩ | ⟨_, _, _, w⟩
        · omega
        · exact List.mem_of_getElem? w
      have lsto : 0 < i → 1 ≤ psN (fun j => cnN lst (cs j) + cnN lst (ls j)) i := fun hi0 => by
        obtain ⟨j, j1, j2⟩ := ftN_mem.mp (lstm hi0)
        exact oldc j lst j1 (Or.inl j2)
      have lstc : 0 < i → lst ∉ c ∧ lst ∉ l1 ∧ lst ∉ fl2 ∧ ∀ j : Nat, i < j → j < n → lst ∉ l j := fun hi0 => by
        have := lsto hi0
        obtain ⟨w1, w2⟩ := new lst
        exact ⟨fun w => by have := cnN_mem.mp w; omega, fun w => by have := cnN_mem.mp w; omega, fun w => by have := cnN_mem.mp w; omega, fun j hj hjn w => by have := cnN_mem.mp w; have := w2 j hj hjn; omega⟩
      have e7 : RNx Sl S7 := (eS.tr b5.rn).tr m1.rn
      have hk7 : lkN (Zr S7 63) c := b3.cg (fun a ha => (m1.2.2.2.2.2.2.2.2 a (fun w => (lstc w.1).1 (by rw [← w.2]; exact ha))).2.2)
      unfold f_gather_100
      refine Rt.bd (rq S7 e7) (Rt.be (lvo_ hL hx e7 (o := some z) (fun y hy => by cases hy; exact z2)) ?_)
      show Rt (bnd (f_along R.K S7 (nI (hdN c)) (nI (zN R S0 (abT S0 z)) - 1)) _) Q
      rw [z3, ← hcl, show nI c.length - 1 = nI (c.length - 1) by
        obtain ⟨m, hm⟩ : ∃ m : Nat, c.length = m + 1 := ⟨c.length - 1, by omega⟩
        rw [hm]; exact nI_pred m]
      refine Rt.be (alg_ (L := c) (i := 0) (m := c.length - 1) hk7 (by omega) hdc (by rw [Nat.zero_add]; exact hcl2)) ?_
      rw [nI_1]
      have hcn : ∀ a : Nat, psN (fun j => cnN a (lUp cs i c j) + cnN a (lUp ls i l1 j)) i = psN (fun j => cnN a (cs j) + cnN a (ls j)) i := fun a => psN_cg (fun j hj => by rw [lUp_ne (by omega), lUp_ne (by omega)])
      have ft : ftN (lUp cs i c) i = ftN cs i := ftN_cg (fun j hj => lUp_ne (by omega))
      have ft1 : ftN (lUp cs i c) (i + 1) = ftN cs i ++ c := by
        show ftN (lUp cs i c) i ++ lUp cs i c i = _
        rw [ft, lUp_eq]
      have ndi : (ftN cs i).Nodup := cnN_nd.mpr (fun a => by
        have w := (new a).1
        have w2 : psN (fun j => cnN a (cs j)) i ≤ psN (fun j => cnN a (cs j) + cnN a (ls j)) i := psN_le (fun j _ => Nat.le_add_right _ _)
        rw [ftN_cn]; omega)
      have x5' : ∀ a ∈ ftN cs i, Zr S5 63 a = Zr S1 63 a := fun a ha => (b5.2.2.2.2.2.2.2.2 a (fun w => by
        obtain ⟨j, j1, j2⟩ := ftN_mem.mp ha
        have := oldc j a j1 (Or.inl j2)
        have := cnN_mem.mp w.2
        have := (new a).1
        omega)).2.2
      refine ga17 hL hx e ht hc hn hf hp hqn hva ho hF h1 hro hcv kf r (i + 1) d _ _ S7 (by omega) (by omega) ⟨lUp cs i c, lUp ls i l1, fl2, t2, max kk k5, cl, ?_, ?_, ⟨?_, ?_, ?_⟩, Or.inr ⟨Nat.succ_pos i, ?_, rfl, ?_⟩, ?_, fun j hj => ?_, fun j hj hjn => ?_, fun a => ?_⟩
      · refine (g1.tr (b5.mo (fun a w => ?_))).tr (m1.mo (fun a w => ?_))
        · have w1 := w.1
          rcases w1 with w1 | w1
          · exact Or.inl (g5 a w1)
          · exact Or.inl (Or.inr (by omega))
        · obtain ⟨w1, w2⟩ := w
          subst w2
          have c0 := lsto w1
          have c1 := g10 a
          have c2 : psN (fun j => cnN a (l j)) i ≤ psN (fun j => cnN a (l j)) n := psN_mo (by omega)
          by_cases w3 : a ∈ fl ∨ t < a
          · exact Or.inl w3
          · refine Or.inr (Classical.byContradiction (fun w4 => ?_))
            have z4 : psN (fun j => cnN a (l j)) i = 0 := by
              rw [psN_cg (w2 := fun _ => 0) (fun j hj => cnN_z (fun z => w4 ⟨j, by omega, z⟩)), psN_z]
            have z5 : cnN a fl = 0 := cnN_z (fun z => w3 (Or.inl z))
            have z6 : a ≤ t := by
              by_cases c : t < a
              · exact absurd (Or.inr c) w3
              · omega
            have z7 : ind t1 a = ind t a := by
              unfold ind
              by_cases c : 1 ≤ a
              · rw [if_pos ⟨c, by omega⟩, if_pos ⟨c, z6⟩]
              · rw [if_neg (by omega), if_neg (by omega)]
            omega
      · exact b4.no m1 (fun a ha w => (lstc w.1).2.2.1 (by rw [← w.2]; exact ha)) m4.1 m4.2
      · exact Nat.le_trans g3 b7.1
      · have := b7.2.1; omega
      · exact fun a ha => g5 a (b7.2.2.1 a ha)
      · rw [ft1]
        by_cases c0 : i = 0
        · subst c0
          rw [if_pos rfl]; rfl
        · rw [if_neg c0]
          rcases g6 with ⟨w, _⟩ | ⟨_, w, _⟩
          · exact absurd w c0
          · rw [w]
            have hne : 1 ≤ (ftN cs i).length := by
              have := lstm (by omega)
              cases hh : ftN cs i with
              | nil => rw [hh] at this; cases this
              | cons a b => exact Nat.succ_pos _
            cases hh : ftN cs i with
            | nil => rw [hh] at hne; cases hne
            | cons a b => rfl
      · rw [ft1, List.length_append, List.getElem?_append_right (by omega), show (ftN cs i).length + c.length - 1 - (ftN cs i).length = c.length - 1 by omega]
        exact hcl2
      · rw [ft1]
        by_cases c0 : i = 0
        · subst c0
          rw [show ftN cs 0 ++ c = c from rfl]; exact hk7
        · rcases g6 with ⟨w, _⟩ | ⟨_, _, _, wl9⟩
          · exact absurd w c0
          · refine lkN.app ?_ hk7 (fun a b ha hb => ?_)
            · rw [m5 (by omega)]
              exact (g7.cg x5').up ndi wl9
            · rw [wl9] at ha
              cases ha
              rw [hdc] at hb
              cases hb
              rw [m5 (by omega), upd_s]
      · have hA7 : ∀ a : Nat, Zl S7 61 a = Zl S5 61 a ∧ Zr S7 62 a = Zr S5 62 a := fun a => by rw [m2, m3]; exact ⟨rfl, rfl⟩
        by_cases c0 : j = i
        · subst c0
          rw [lUp_eq, lUp_eq]
          refine (b2.st (M2 := nMS S7) (fun a _ => hA7 a) (fun a ha => m1.2.2.2.2.2.2.2.2 a (fun w => (lstc w.1).2.1 (by rw [← w.2]; exact ha)))).up (Nat.le_max_right _ _)
        · rw [lUp_ne c0, lUp_ne c0]
          have hji : j < i := by omega
          have nc : ∀ a : Nat, (a ∈ cs j ∨ a ∈ ls j) → a ∉ c := fun a w w2 => by
            have := oldc j a hji w
            have := cnN_mem.mp w2
            have := (new a).1
            omega
          have a15 : agN (nMS S1) (nMS S5) (ls j) := b5.ag (fun a ha w => nc a (Or.inr ha) w.2)
          have a57 : agN (nMS S5) (nMS S7) (ls j) := m1.ag (fun a ha w => by
            obtain ⟨w1, w2⟩ := w
            subst w2
            obtain ⟨j2, y1, y2⟩ := ftN_mem.mp (lstm w1)
            have n1 := (new a).1
            have n2 := cnN_mem.mp ha
            have n3 := cnN_mem.mp y2
            by_cases c1 : j2 = j
            · subst c1
              have n4 : cnN a (cs j2) + cnN a (ls j2) ≤ psN (fun j => cnN a (cs j) + cnN a (ls j)) i := psN_i1 (v := fun j => cnN a (cs j) + cnN a (ls j)) y1
              omega
            · have n4 : (cnN a (cs j2) + cnN a (ls j2)) + (cnN a (cs j) + cnN a (ls j)) ≤ psN (fun j => cnN a (cs j) + cnN a (ls j)) i := psN_ij (v := fun j => cnN a (cs j) + cnN a (ls j)) c1 y1 hji
              omega)
          refine (((g8 j hji).st (M2 := nMS S5) (fun a ha => ?_) a15).st (M2 := nMS S7) (fun a _ => hA7 a) a57).up (Nat.le_max_left _ _)
          obtain ⟨w1, w2, _⟩ := b5.2.2.2.2.2.2.2.2 a (fun w => nc a (Or.inl ha) w.2)
          exact ⟨w1, w2⟩
      · have q1 := g9 j (by omega) hjn
        have q2 : agN (nMS S1) (nMS S5) (l j) := b5.ag (fun a ha w => by
          have := cnN_mem.mp ha
          have := cnN_mem.mp w.2
          have := (new a).2 j (by omega) hjn
          omega)
        have q3 : agN (nMS S5) (nMS S7) (l j) := m1.ag (fun a ha w => (lstc w.1).2.2.2 j (by omega) hjn (by rw [← w.2]; exact ha))
        exact fun a ha => ⟨(q3 a ha).1.trans ((q2 a ha).1.trans (q1 a ha).1), (q3 a ha).2.1.trans ((q2 a ha).2.1.trans (q1 a ha).2.1), (q3 a ha).2.2.trans ((q2 a ha).2.2.trans (q1 a ha).2.2)⟩
      · show psN (fun j => cnN a (lUp cs i c j) + cnN a (lUp ls i l1 j)) i + (cnN a (lUp cs i c i) + cnN a (lUp ls i l1 i)) + cnN a fl2 + ind t a = psN (fun j => cnN a (l j)) i + cnN a (l i) + cnN a fl + ind t2 a
        rw [hcn, lUp_eq, lUp_eq]
        have c0 := b6 a
        have c1 := g10 a
        omega
    rw [b1]
    rcases g6 with ⟨w1, w2, w3⟩ | ⟨w1, w2, w3, w4⟩
    · rw [w3]
      refine Rt.ip rfl ?_
      have q := fin S5 NO.rf rfl rfl ⟨rfl, rfl⟩ (fun z => by omega) (fun _ => rfl)
      rw [if_pos w1] at q
      exact q
    · have l0 := g7.1 lst (List.mem_of_getElem? w4)
      rw [w3]
      refine Rt.iq (fun z => by have := nI_e (b := 0) (by omega) (by decide) z; omega) ?_
      refine Rt.bd (v := Ur S5 63 (upd (Zr S5 63) lst (nI (hdN c)))) (wRI_n (show lst < rlen 63 from l0.2) (by decide)) ?_
      have q := fin (Ur S5 63 (upd (Zr S5 63) lst (nI (hdN c)))) (NO.w3 ⟨w1, rfl⟩) rfl (Zr_u9 (by decide)) ⟨rfl, rfl⟩ (fun _ => Zr_us) (fun z => by omega)
      rw [if_neg (by omega)] at q
      exact q
end PS82
end
-- m5.f.lean.txt
section
section PS83
variable {R : yR} {S0 Sl S S1 : Sg} {g : Nat → Int32} {n p t cap ta : Nat} {f : Nat → Option Nat} {pt : Nat → Nat} {W : Nat → qV} {l h : Nat → List Nat} {fl : List Nat} {q : Nat → Nat} {o x1 : Option Nat} {i v : Nat}
theorem nI_sub9 {a b : Nat} : nI (a + b) - nI b = nI a := by
  have := Int32.ofNat_sub (a + b) b (by omega)
  rw [Nat.add_sub_cancel] at this
  exact this.symm
/-- gather in one -/
theorem gat_ (hL : LFS R S0 g) (hx : LX S0 Sl) (e : RNx Sl S) (hx1 : n = 0 ∨ x1 = some ta) (ht : n = 0 ∨ (ta ∈ ZL Sl ∧ ZF Sl ta = .inl (R.K.1 4, cap, .inr (.inr (.inr (.inr f)))))) (hc : n ≤ cap ∧ cap < 100) (hn : n ≤ 12) (hf : ∀ i : Nat, i < n → ∃ z : Nat, f i = some z ∧ rTy S0 z ∧ abT S0 z = pt i) (hp : p + n < 20000) (hqn : ∀ i : Nat, i < n → q i < n) (hva : ∀ i : Nat, i < n → vaR (yT R S0) (szN R S0) (nMS S) (pt i) (W i) (Zl S 72 (p + q i)) (l i) (h i)) (ho : ∀ i : Nat, i < n → (o = none ∧ q i = i) ∨ ∃ (a9 : Nat) (F : Nat → Int32), o = some a9 ∧ a9 ∈ ZL Sl ∧ ZF Sl a9 = .inl (R.K.1 0, n, .inl F) ∧ F (q i) = nI i ∧ ∀ j : Nat, j < n → j ≠ q i → F j ≠ nI i) (hF : FLs S fl t) (h1 : ∀ m ∈ fl, 1 ≤ m) (hro : t ≤ fl.length + 425000) (hcv : ∀ a : Nat, psN (fun i => cnN a (l i)) n + cnN a fl ≤ ind t a) (h73 : Zi S 73 = nI (p + n)) : Rt (f_gather R.K S x1 (nI n) o) (fun S2 r => ∃ (S1 : Sg) (cs ls : Nat → List Nat) (fl1 : List Nat) (t1 kk : Nat), S2 = Ui S1 73 (nI p) ∧ r = nI (hdN (ftN cs n)) ∧ NO (fun a => (a ∈ fl ∨ t < a) ∨ ∃ q : Nat, q < n ∧ a ∈ l q) S S1 ∧ FLs S1 fl1 t1 ∧ (t ≤ t1 ∧ t1 + fl.length ≤ fl1.length + t + n ∧ ∀ a ∈ fl1, a ∈ fl ∨ t < a) ∧ lkN (Zr S1 63) (ftN cs n) ∧ (∀ j : Nat, j < n → pL (yT R S0) (szN R S0) (nMS S1) kk (pt j) (W j) (cs j) (ls j) (h j)) ∧ ∀ a : Nat, psN (fun j => cnN a (cs j) + cnN a (ls j)) n + cnN a fl1 + ind t a = psN (fun j => cnN a (l j)) n + cnN a fl + ind t1 a) := by
  have end9 : ∀ (S2 : Sg) (x5 x6 : Int32), gaI R S0 Sl S pt W l h n t fl x5 x6 n S2 → Rt ((pM S2 73 (nI p)).bind fun S1 => some (S1, x5)) (fun S2 r => ∃ (S1 : Sg) (cs ls : Nat → List Nat) (fl1 : List Nat) (t1 kk : Nat), S2 = Ui S1 73 (nI p) ∧ r = nI (hdN (ftN cs n)) ∧ NO (fun a => (a ∈ fl ∨ t < a) ∨ ∃ q : Nat, q < n ∧ a ∈ l q) S S1 ∧ FLs S1 fl1 t1 ∧ (t ≤ t1 ∧ t1 + fl.length ≤ fl1.length + t + n ∧ ∀ a ∈ fl1, a ∈ fl ∨ t < a) ∧ lkN (Zr S1 63) (ftN cs n) ∧ (∀ j : Nat, j < n → pL (yT R S0) (szN R S0) (nMS S1) kk (pt j) (W j) (cs j) (ls j) (h j)) ∧ ∀ a : Nat, psN (fun j => cnN a (cs j) + cnN a (ls j)) n + cnN a fl1 + ind t a = psN (fun j => cnN a (l j)) n + cnN a fl + ind t1 a) := fun S2 x5 x6 ⟨cs, ls, fl1, t1, kk, lst, g1, g2, g3, g6, g7, g8, _, g10⟩ => by
    refine Rt.bd (v := Ui S2 73 (nI p)) rfl (Rt.rt ⟨S2, cs, ls, fl1, t1, kk, rfl, ?_, g1, g2, g3, g7, g8, g10⟩)
    rcases g6 with ⟨w1, w2, _⟩ | ⟨_, w2, _⟩
    · rw [w2, w1]; rfl
    · exact w2
  have beg : gaI R S0 Sl S pt W l h n t fl 0 0 0 S := ⟨fun _ => [], fun _ => [], fl, t, 0, 0, NO.rf, hF, ⟨Nat.le_refl _, by omega, fun a ha => Or.inl ha⟩, Or.inl ⟨rfl, rfl, rfl⟩, ⟨fun a ha => absurd ha (List.not_mem_nil), fun i a b ha _ => by cases ha⟩, fun j hj => absurd hj (Nat.not_lt_zero j), fun j _ _ => fun a _ => ⟨rfl, rfl, rfl⟩, fun a => rfl⟩
  unfold f_gather
  rw [h73, nI_sub9]
  rcases hx1 with h0 | h0
  · subst h0
    rw [show bigN = (bigN - 1) + 1 from rfl]
    unfold f_gather_17
    exact Rt.ip (by decide) (end9 S 0 0 beg)
  · rw [h0]
    exact ga17 hL hx e ht hc hn hf hp hqn hva ho hF h1 hro hcv end9 n 0 bigN 0 0 S (by omega) (by unfold bigN; omega) beg
/-- a struct's item, while it runs -/
theorem vwSi (hL : LFS R S0 g) (hx : LX S0 Sl) (e : RNx Sl S) (hk : yK R S0 (4 + i) = 2) : ∃ (ta : Nat) (f : Nat → Option Nat), rQ S 11 (nI i) = some (some (R.ws i)) ∧ oR S 16 (some (R.ws i)) 10 = some (some ta) ∧ (ta ∈ ZL Sl ∧ ZF Sl ta = .inl (R.K.1 4, 13, .inr (.inr (.inr (.inr f))))) ∧ yP R S0 (4 + i) 0 ≤ 12 ∧ ∀ k : Nat, k < yP R S0 (4 + i) 0 → ∃ z : Nat, f k = some z ∧ vTy S0 z ∧ abT S0 z = yQ R S0 (4 + i) 0 k := by
  obtain ⟨i9, e9, hi, ⟨_, hk2⟩ | ⟨w, _⟩⟩ := yK_n (Or.inl hk)
  · obtain rfl : i = i9 := by omega
    obtain ⟨fs, mn, ta, f, w1, w2, w3, w4, w5, w6, w7, w8, _⟩ := zN_st hL hi hk2
    have ey : yP R S0 (4 + i) 0 = mn := by
      unfold yP
      rw [show 4 + i - 4 = i by omega, if_pos hk2, if_pos rfl, obF_o w2, fN_i w3 (by omega)]
    rw [ey]
    obtain ⟨c1, f2, c2, c3, c4⟩ := hx.it w1 w2
    refine ⟨ta, f, it11r hL hx e hi, ?_, hx.ro w6 w7, w4, fun k hk => ?_⟩
    · exact oR_mk (v := some ta) (by rw [e.1]; exact c1) (by rw [e.2.1]; exact c2) (by rw [c4 10 (by decide) (Or.inl (by decide))]; exact w5)
    · obtain ⟨z, z1, z2, z3, _⟩ := w8 k hk
      exact ⟨z, z1, z2, z3⟩
  · rw [hk] at w; cases w
/-- an enum's item: the variant v -/
theorem vwEi (hL : LFS R S0 g) (hx : LX S0 Sl) (e : RNx Sl S) (hk : yK R S0 (4 + i) = 3) (hv : v < (yT R S0).2.2.1 (4 + i)) : ∃ (vr pa : Nat) (ot : Option Nat) (f : Nat → Option Nat), rQ S 11 (nI i) = some (some (R.ws i)) ∧ oR S 16 (some (R.ws i)) 11 = some (some vr) ∧ aQ R.K 13 S (some vr) (nI v) = some (some pa) ∧ oR S 17 (some pa) 2 = some ot ∧ v ≤ 12 ∧ yP R S0 (4 + i) v ≤ 12 ∧ (yP R S0 (4 + i) v = 0 ∨ ∃ ta : Nat, ot = some ta ∧ ta ∈ ZL Sl ∧ ZF Sl ta = .inl (R.K.1 4, 12, .inr (.inr (.inr (.inr f))))) ∧ ∀ k : Nat, k < yP R S0 (4 + i) v → ∃ z : Nat, f k = some z ∧ vTy S0 z ∧ abT S0 z = yQ R S0 (4 + i) v k := by
  obtain ⟨i9, e9, hi, ⟨w, _⟩ | ⟨_, hk2⟩⟩ := yK_n (Or.inr hk)
  · rw [hk] at w; cases w
  · obtain rfl : i = i9 := by omega
    have hv2 : v < fN (obF S0 (R.ws i)) 3 := by
      have h9 : v < fN (obF S0 (R.ws (4 + i - 4))) 3 := hv
      rw [show 4 + i - 4 = i by omega] at h9; exact h9
    obtain ⟨fs, mn, vr, pa, mk, fv, f, w1, w2, w3, w4, w5, w6, w7, w8, w9, w10, w11, w12, w13, _⟩ := zN_en hL hi hk2 hv2
    have hvm : v < mn := by
      rw [obF_o w2, fN_i w3 (by omega)] at hv2; exact hv2
    rw [← w10]
    obtain ⟨c1, f2, c2, c3, c4⟩ := hx.it w1 w2
    obtain ⟨r1, r2⟩ := hx.ro w6 w7
    have oR11 : oR S 16 (some (R.ws i)) 11 = some (some vr) := oR_mk (v := some vr) (by rw [e.1]; exact c1) (by rw [e.2.1]; exact c2) (by rw [c4 11 (by decide) (Or.inl (by decide))]; exact w5)
    have qp : aQ R.K 13 S (some vr) (nI v) = some (some pa) := by
      rw [← w8]; exact aQ_n (by rw [e.1]; exact r1) (by rw [e.2.1]; exact r2) (show v < 13 by omega) (by omega)
    rcases w12 with ⟨p1, p2⟩ | ⟨wa, ta, p1, p2, p3⟩
    · obtain ⟨b1, b2⟩ := hx.ob w9 p1 (by decide) (by decide)
      exact ⟨vr, pa, none, f, it11r hL hx e hi, oR11, qp, oR_mk (v := none) (by rw [e.1]; exact b1) (by rw [e.2.1]; exact b2) rfl, by omega, by omega, Or.inl p2, w13⟩
    · obtain ⟨b1, b2⟩ := hx.ob w9 p1 (by decide) (by decide)
      exact ⟨vr, pa, some ta, f, it11r hL hx e hi, oR11, qp, oR_mk (v := some ta) (by rw [e.1]; exact b1) (by rw [e.2.1]; exact b2) rfl, by omega, by omega, Or.inr ⟨ta, rfl, hx.ro p2 p3⟩, w13⟩
/-- each of them is 1, if they make n -/
theorem psN_fu {w : Nat → Nat} : ∀ {n : Nat}, (∀ i : Nat, i < n → w i ≤ 1) → psN w n = n → ∀ i : Nat, i < n → w i = 1
  | n + 1, h, e, i, hi => by
    have e : psN w n + w n = n + 1 := e
    have h1 : psN w n ≤ psN (fun _ => 1) n := psN_le (fun k hk => h k (by omega))
    rw [psN_c9] at h1
    have h2 := h n (by omega)
    by_cases c : i = n
    · subst c; omega
    · exact psN_fu (n := n) (fun k hk => h k (by omega)) (by omega) i (by omega)
/-- who meets no other meets all -/
theorem inj_su9 {fo : Nat → Nat} {n : Nat} (h1 : ∀ q : Nat, q < n → fo q < n) (h2 : ∀ a b : Nat, a < n → b < n → fo a = fo b → a = b) : ∀ i : Nat, i < n → ∃ q : Nat, q < n ∧ fo q = i := fun i hi => Classical.byContradiction (fun hne => by
  have e1 : psN (fun i => psN (fun q => if fo q = i then 1 else 0) n) n = n := by
    rw [← psN_sw (w := fun q i => if fo q = i then 1 else 0), psN_cg (w2 := fun _ => 1) (fun q hq => psN_e1 (h1 q hq)), psN_c9]
    omega
  have e2 : ∀ i : Nat, i < n → psN (fun q => if fo q = i then 1 else 0) n ≤ 1 := fun i hi => by
    by_cases c : ∃ q : Nat, q < n ∧ fo q = i
    · obtain ⟨q, q1, q2⟩ := c
      rw [psN_at (i0 := q) q1 (fun j hj hj2 => if_neg (fun z => hj2 (h2 j q hj q1 (z.trans q2.symm)))), if_pos q2]
      exact Nat.le_refl _
    · rw [psN_cg (w2 := fun _ => 0) (fun q hq => if_neg (fun z => c ⟨q, hq, z⟩)), psN_z]
      exact Nat.zero_le _
  have e3 := psN_fu e2 e1 i hi
  rw [psN_cg (w2 := fun _ => 0) (fun q hq => if_neg (fun z => hne ⟨q, hq, z⟩)), psN_z] at e3
  cases e3)
end PS83
end
-- m5.g.lean.txt
section
section PS84
variable {R : yR} {K : Ky} {S0 Sl S S1 S2 S3 : Sg} {D : fD} {i k j f nw n : Nat} {vt : Nat → Nat → Nat} {tb : Nat → lTb} {x : Nat → kFm} {bs : Nat → Nat} {g : Nat → Int32} {rt : Nat × Nat → Nat} {V : Nat × Nat → qV} {C L H : Nat × Nat → List Nat} {r : List tE} {p q : Nat → Nat} {fl : List Nat} {t : Nat} {tk : Nat → Int32}
/-- a family of values on top -/
theorem RQ.fam (h1 : RQ R S0 vt tb i D k f x bs Sl nw S) (hJ : kJ (yT R S0) vt tb f x rt V) (hN : kN (yT R S0) (zN R S0) (szN R S0) (nMS S) (Zl S 72) (Zr S 74) f x rt V bs C L H) (hC : kC C L H fl t tk) (hs : D.st k = dsl (fun q => (0, p q, 0)) n ++ r) (hp : ∀ q : Nat, q < n → p q ≠ 0) : (∀ q : Nat, q < n → qFu (yT R S0) (p q) (V (f, 40 + (wl r + q))) ∧ vaR (yT R S0) (szN R S0) (nMS S) (p q) (V (f, 40 + (wl r + q))) (Zl S 72 (bs f + (wl r + q))) (L (f, 40 + (wl r + q))) (H (f, 40 + (wl r + q)))) ∧ wl (D.st k) = wl r + n ∧ wl (dsl (fun q => ((0, p q, 0) : tE)) n) = n ∧ ∀ a : Nat, psN (fun i => cnN a (L (f, 40 + (wl r + i)))) n + cnN a fl ≤ ind t a := by
  have hw : wl (dsl (fun q => ((0, p q, 0) : tE)) n) = n := dsl_wl n (fun i _ => nm_0 rfl)
  have hwl : wl (D.st k) = wl r + n := by rw [hs, wl_app, hw]; omega
  have h177 := h1.pt.2
  have hf6 := h1.2.2.2.2.1
  refine ⟨fun q hq => ?_, hwl, hw, fun a => ?_⟩
  · have hS : (x f).2.1 = dsl (fun q => (0, p q, 0)) n ++ trL (AL D k) r := by
      rw [h1.st.1, hs]
      refine trL_0 (fun e he => ?_)
      clear hs hwl hw
      induction n with
      | zero => cases he
      | succ n ih =>
        rcases List.mem_cons.mp he with w | w
        · rw [w]
        · by_cases c : q < n
          · exact ih (fun q hq => hp q (by omega)) c w
          · clear ih c hq hp
            induction n with
            | zero => cases w
            | succ n ih =>
              rcases List.mem_cons.mp w with w2 | w2
              · rw [w2]
              · exact ih (List.mem_cons_of_mem _ w2) w2
    have hK := hJ.2.2.2.2.1 f (Nat.le_refl f)
    rw [hS] at hK
    have hE := dsl_K n (fun i _ => nm_0 rfl) hK q hq
    rw [trL_wl] at hE
    obtain ⟨_, v2, v3, _⟩ := h1.val hJ hN (by omega) hE (hp q hq)
    exact ⟨v2, v3⟩
  · have hc := hC.sub (r := fun i => (f, 40 + (wl r + i))) (n := n) (fun i hi => ⟨hf6, show 40 + (wl r + i) < 300 by omega⟩) (fun i j _ _ he => by have := (Prod.mk.inj he).2; omega) a
    rw [psN_cg (w2 := fun i => cnN a (L (f, 40 + (wl r + i)))) (fun i hi => ?_)] at hc
    · exact hc
    · have c0 : C (f, 40 + (wl r + i)) = [] := ((hN.1 f (40 + (wl r + i)) (Nat.le_refl f)).2.1 (by omega) (by rw [h1.st.2]; omega)).1
      show cnN a (C (f, 40 + (wl r + i))) + _ = _
      rw [c0]
      show 0 + _ = _
      omega
theorem dsl_0 : ∀ {n : Nat}, ∀ e ∈ dsl (fun q => ((0, p q, 0) : tE)) n, e.1 = 0
  | 0, e, he => by cases he
  | n + 1, e, he => by
    rcases List.mem_cons.mp he with w | w
    · rw [w]
    · exact dsl_0 e w
/-- NEW -/
theorem s_8 (hL : LFS R S0 g) (hx : LX S0 Sl) (h : RQ R S0 vt tb i D k f x bs Sl k S) (hQ : D.Pe < 24000) (hk : (D.I k).kd = 8) : Rt (f_step R.K S) (fun S2 _ => RTt R S0 vt tb i D k f x bs Sl S S2) := by
  have h24 := h.k24 hQ
  have hy := nYk_of hL
  refine stp_8 h hQ hk (fun S1 h1 e70 e3 er el => ?_)
  have hp := h1.pt.1
  unfold tPt at hp
  rw [hk] at hp
  obtain ⟨d0, fo, r, y2, n70, en, n12, hvs, fo1, fo2, hs, _, _, hw⟩ := hp
  rw [h1.1.2.2.2.2] at y2 en hs
  have hgt := h1.1.2.2.2.1
  have hb := h1.sb
  have h73 := h1.2.2.2.1.2.1
  obtain ⟨m0, hm0⟩ : ∃ m0 : Nat, (D.I k).n3 = m0 + 1 := ⟨(D.I k).n3 - 1, by have := (hy.2.2.1 _ y2).2.2.1; omega⟩
  have hrn : ∀ a ∈ r, pnE a := fun a ha => by
    rw [hs, hm0] at hgt
    exact hgt.tl a (List.mem_append_right _ ha)
  have hX1 := h1.2.2.1
  have e := hX1.1
  obtain ⟨hz1, hz2, hz3⟩ := h1.2.1.2.2.2.2.2.2.2.2.1 (Or.inl hk)
  have hz4 := h1.2.1.2.2.2.2.2.2.2.2.2.1 hk
  obtain ⟨ta, ff, a1, a2, a3, a4, a5⟩ := vwSi (i := (D.I k).n1) hL hx e y2
  have en : (D.I k).n3 = yP R S0 (4 + (D.I k).n1) 0 := en
  rw [← en] at a4 a5
  obtain ⟨rt, V, C, L, H, fl, t9, ⟨hJ, hN, hC, hF⟩, _⟩ := h1.2.2.2.2.2.2.1
  have hf6 := h1.2.2.2.2.1
  have hro := hN.room hy hC hf6 h1.2.2.2.2.2.2.2.1 hF.2.2.2.2
  have hpt : ∀ i : Nat, i < (D.I k).n3 → yQ R S0 (4 + (D.I k).n1) 0 i ≠ 0 := fun i hi => by
    obtain ⟨z, _, z2, z3⟩ := a5 i hi
    have := z2.nm hL.1
    omega
  obtain ⟨v1, v2, v3, v4⟩ := h1.fam (p := fun q => yQ R S0 (4 + (D.I k).n1) 0 (fo q)) hJ hN hC hs (fun q hq => hpt (fo q) (fo1 q hq))
  -- where each part stands
  have hsur : ∀ i : Nat, ∃ q : Nat, i < (D.I k).n3 → q < (D.I k).n3 ∧ fo q = i := fun i => by
    by_cases c : i < (D.I k).n3
    · obtain ⟨q, q1, q2⟩ := inj_su9 fo1 fo2 i c
      exact ⟨q, fun _ => ⟨q1, q2⟩⟩
    · exact ⟨0, fun w => absurd w c⟩
  obtain ⟨q, hq⟩ := Classical.skolem.mp hsur
  have pm : ∀ w : Nat → Nat, psN (fun i => w (q i)) (D.I k).n3 = psN w (D.I k).n3 := fun w => psN_pm (fun i hi => (hq i hi).1) (fun a ha => ⟨fo a, fo1 a ha, fo2 _ _ (hq (fo a) (fo1 a ha)).1 ha (hq (fo a) (fo1 a ha)).2⟩) (fun i j hi hj he => by rw [← (hq i hi).2, ← (hq j hj).2, he])
  obtain ⟨a9, F, b1, b2, b3, b4⟩ : ∃ (a9 : Nat) (F : Nat → Int32), Zq Sl 42 k = some a9 ∧ a9 ∈ ZL Sl ∧ ZF Sl a9 = .inl (R.K.1 0, (D.I k).n3, .inl F) ∧ ∀ j : Nat, j < (D.I k).n3 → F j = nI (fo j) := by
    rcases hz4 with ⟨_, w⟩ | ⟨a9, F, w1, w2, w3, _, w5⟩
    · rw [hvs, hm0] at w
      have := congrArg List.length w
      rw [List.length_map, List.length_range] at this
      cases this
    · refine ⟨a9, F, w1, w2, ?_, fun j hj => (w5 j (fo j) (by rw [hvs, List.getElem?_map, List.getElem?_range hj]; rfl)).1⟩
      rw [w3, hvs, List.length_map, List.length_range]
  rw [v2] at h73 hb
  unfold f_step_260 f_runMade f_runMade_112
  have r28 : Zr S1 28 = Zr Sl 28 := e.2.2.2.2.2.1 28 (by decide)
  have r27 : Zr S1 27 = Zr Sl 27 := e.2.2.2.2.2.1 27 (by decide)
  have r31 : Zl S1 31 = Zl Sl 31 := e.2.2.2.2.2.2.1 31 (by decide)
  refine Rt.bn (Q := fun S2 _ => RTt R S0 vt tb i D k f x bs Sl S S2) ?_ (fun S2 _ q => by unfold f_step_590; exact Rt.rt q)
  refine Rt.bd (v := nI (D.I k).n1) (by rw [rI_n (show k < rlen 28 from h24) (by decide), r28, hz1]) (Rt.bd a1 (Rt.bd (v := 8) (by rw [rI_n (show k < rlen 27 from h24) (by decide), r27, h1.2.1.1, hk]; rfl) (Rt.ip rfl (Rt.bd a2 (Rt.bd (v := nL (D.I k).n3) (by rw [rJ_n (show k < rlen 31 from h24) (by decide), r31, hz3]; rfl) (Rt.bd (v := some a9) (by rw [rQ_n (show k < rlen 42 from h24) (by decide), e.2.2.2.1, b1]) ?_))))))
  rw [nL_t]
  refine Rt.bn (gat_ (n := (D.I k).n3) (p := bs f + wl r) (cap := 13) (f := ff) (ta := ta) (pt := fun i => yQ R S0 (4 + (D.I k).n1) 0 i) (W := fun i => V (f, 40 + (wl r + q i))) (l := fun i => L (f, 40 + (wl r + q i))) (h := fun i => H (f, 40 + (wl r + q i))) (q := q) (fl := fl) (t := t9) hL hx e (Or.inr rfl) (Or.inr a3) ⟨by omega, by decide⟩ n12 (fun i hi => by
    obtain ⟨z, z1, z2, z3⟩ := a5 i hi
    exact ⟨z, z1, Or.inl z2, z3⟩) (by omega) (fun i hi => (hq i hi).1) (fun i hi => by
    have := (v1 (q i) (hq i hi).1).2
    rw [(hq i hi).2, show bs f + (wl r + q i) = bs f + wl r + q i by omega] at this
    exact this) (fun i hi => Or.inr ⟨a9, F, rfl, b2, b3, by rw [b4 _ (hq i hi).1, (hq i hi).2], fun j hj hne w => by
      rw [b4 j hj] at w
      have h1 := fo1 j hj
      have w2 := nI_e (by omega) (by omega) w
      exact hne (fo2 j (q i) hj (hq i hi).1 (w2.trans (hq i hi).2.symm))⟩) hF hC.f1 (by omega) (fun a => by
    rw [pm (fun i => cnN a (L (f, 40 + (wl r + i))))]; exact v4 a) (by rw [h73]; congr 1; omega)) (fun S3 r3 ⟨S4, cs, ls, fl1, t1, kk, c1, c2, c3, c4, c5, c6, c7, c8⟩ => ?_)
  have i3 : Zi S3 73 = nI (bs f + wl r) := by rw [c1]; exact Zi_s
  have o34 : SO S4 S3 := by rw [c1]; exact ⟨rfl, rfl, ⟨rfl, rfl⟩, rfl, rfl, fun _ _ => rfl, rfl, fun j hj => Zi_n hj⟩
  rw [c2]
  refine Rt.bn (psh_ (p := bs f + wl r) i3 (by omega)) (fun S5 _ ⟨s1, s2, s3, s4⟩ => ?_)
  have o45 := o34.tr s1
  have go : GO (fun a => (a ∈ fl ∨ t9 < a) ∨ ∃ i : Nat, i < (D.I k).n3 ∧ a ∈ L (f, 40 + (wl r + q i))) (fun _ => False) (fun _ => False) S1 S5 := c3.go.tr o45.go
  refine Rt.rt ⟨hX1.go go (o45.wq (c3.wq hX1.2.1)) ?_, Or.inr ⟨(go.2.1 3 (by decide)).trans e3, (go.2.1 70 (by decide)).trans e70, NXt.fr ?_ er ?_⟩⟩
  · rw [o45.2.2.2.2.2.2.2 81 (by decide), c3.2.2.2.2.2.2.2.1 81 (by decide) (by decide)]; exact hX1.2.2.2.2
  · have ety : (yT R S0).2.2.2.1 (4 + (D.I k).n1) 0 = (D.I k).n3 := en.symm
    have hFu := qFu_T (V := fun i => V (f, 40 + (wl r + q i))) y2 (hy.2.2.1 _ y2).2.2.1 (fun j hj => by
      rw [ety] at hj
      have := (v1 (q j) (hq j hj).1).1
      rw [(hq j hj).2] at this; exact this)
    rw [ety] at hFu
    refine h1.vs (E := dsl (fun q => (0, yQ R S0 (4 + (D.I k).n1) 0 (fo q), 0)) (D.I k).n3) (P := [(0, 4 + (D.I k).n1, 0)]) (r := r) (lv := ftN cs (D.I k).n3 ++ ftN ls (D.I k).n3) (hv := ftN (fun i => H (f, 40 + (wl r + q i))) (D.I k).n3) (fl2 := fl1) (t2 := t1) hL (h1.e1 (kd_s hk (by decide))) hJ hN hC hs dsl_0 hrn hw (kdM_k hk (by decide)) d0.2.2.1 (Or.inr ⟨4 + (D.I k).n1, _, rfl, by omega, by rw [y2]; decide, by rw [y2]; decide, hFu, Or.inl ⟨y2, kk + 1, ftN cs (D.I k).n3, ftN ls (D.I k).n3, Or.inl ⟨y2, cs, ls, fun i => H (f, 40 + (wl r + q i)), by rw [ety], by rw [ety], by rw [ety], fun j hj => ?_⟩, ?_, s3, rfl⟩⟩) go (fun a w => ?_) (fun a => ?_) (fun a => Or.inl ?_) (o45.sam.fl c4) (fun p hp => ?_) h1.2.2.2.1.1 ?_
    · rw [ety] at hj
      rw [qS_T hj]
      exact (c7 j hj).st (M2 := nMS S5) (fun a _ => ⟨by show Zl S5 61 a = _; rw [o45.2.2.2.2.2.1 61 (by decide)]; rfl, by show Zr S5 62 a = _; rw [o45.2.2.2.2.2.2.1]; rfl⟩) ((o45.go (A := fun _ => False) (B := fun _ => False) (P := fun _ => False)).ag (fun _ _ w => w))
    · show lkN (Zr S5 63) _
      rw [o45.2.2.2.2.2.2.1]; exact c6
    · rcases w with w | ⟨i, hi, w⟩
      · exact w.imp id (fun z => Or.inl z)
      · exact Or.inr (Or.inr ⟨q i, by rw [v3]; exact (hq i hi).1, w⟩)
    · rw [v3, cnN_app, ftN_cn, ftN_cn, ← psN_ad, ← pm (fun i => cnN a (L (f, 40 + (wl r + i))))]
      exact c8 a
    · rw [v3, ftN_cn, ← pm (fun i => cnN a (H (f, 40 + (wl r + i))))]
      exact ⟨Nat.le_refl _, Or.inl (go.2.2.2.2.1 a (fun w => w))⟩
    · rw [s4 p (by omega), show Zl S3 = Zl S4 by rw [c1]; rfl, c3.2.2.2.2.2.1 72 (by decide)]
    · rw [s2, show [(0, 4 + (D.I k).n1, 0)] ++ r = (0, 4 + (D.I k).n1, 0) :: r from rfl, wl_01.2]
      congr 1
  · rw [h1.2.2.2.1.2.2, h.2.2.2.1.2.2]
/-- VARIANT -/
theorem s_9 (hL : LFS R S0 g) (hx : LX S0 Sl) (h : RQ R S0 vt tb i D k f x bs Sl k S) (hQ : D.Pe < 24000) (hk : (D.I k).kd = 9) : Rt (f_step R.K S) (fun S2 _ => RTt R S0 vt tb i D k f x bs Sl S S2) := by
  have h24 := h.k24 hQ
  have hy := nYk_of hL
  refine stp_9 h hQ hk (fun S1 h1 e70 e3 er el => ?_)
  have hp := h1.pt.1
  unfold tPt at hp
  rw [hk] at hp
  obtain ⟨⟨d0, hnt⟩, r, y3, n70, ng, en, n12, hs, _, _, hw⟩ := hp
  rw [h1.1.2.2.2.2] at y3 ng en hs
  have hb := h1.sb
  have h73 := h1.2.2.2.1.2.1
  have h177 := h1.pt.2
  have hall := h1.1.2.2.2.1.all hnt
  have hrn : ∀ a ∈ r, pnE a := fun a ha => hall a (by rw [hs]; exact List.mem_append_right _ ha)
  have hX1 := h1.2.2.1
  have e := hX1.1
  obtain ⟨hz1, hz2, hz3⟩ := h1.2.1.2.2.2.2.2.2.2.2.1 (Or.inr (Or.inl hk))
  obtain ⟨vr, pa, ot, ff, a1, a2, a3, a4, a5, a6, a7, a8⟩ := vwEi (i := (D.I k).n1) (v := (D.I k).n2) hL hx e y3 ng
  have en : (D.I k).n3 = yP R S0 (4 + (D.I k).n1) (D.I k).n2 := en
  rw [← en] at a6 a7 a8
  obtain ⟨rt, V, C, L, H, fl, t9, ⟨hJ, hN, hC, hF⟩, _⟩ := h1.2.2.2.2.2.2.1
  have hf6 := h1.2.2.2.2.1
  have hro := hN.room hy hC hf6 h1.2.2.2.2.2.2.2.1 hF.2.2.2.2
  have hpt : ∀ i : Nat, i < (D.I k).n3 → yQ R S0 (4 + (D.I k).n1) (D.I k).n2 i ≠ 0 := fun i hi => by
    obtain ⟨z, _, z2, z3⟩ := a8 i hi
    have := z2.nm hL.1
    omega
  obtain ⟨v1, v2, v3, v4⟩ := h1.fam (p := fun q => yQ R S0 (4 + (D.I k).n1) (D.I k).n2 q) hJ hN hC hs hpt
  rw [v2] at h73 hb h177
  unfold f_step_260 f_runMade f_runMade_112
  have r28 : Zr S1 28 = Zr Sl 28 := e.2.2.2.2.2.1 28 (by decide)
  have r29 : Zr S1 29 = Zr Sl 29 := e.2.2.2.2.2.1 29 (by decide)
  have r27 : Zr S1 27 = Zr Sl 27 := e.2.2.2.2.2.1 27 (by decide)
  have r31 : Zl S1 31 = Zl Sl 31 := e.2.2.2.2.2.2.1 31 (by decide)
  refine Rt.bn (Q := fun S2 _ => RTt R S0 vt tb i D k f x bs Sl S S2) ?_ (fun S2 _ q => by unfold f_step_590; exact Rt.rt q)
  refine Rt.bd (v := nI (D.I k).n1) (by rw [rI_n (show k < rlen 28 from h24) (by decide), r28, hz1]) (Rt.bd a1 (Rt.bd (v := 9) (by rw [rI_n (show k < rlen 27 from h24) (by decide), r27, h1.2.1.1, hk]; rfl) (Rt.iq (by decide) (Rt.bd a2 (Rt.bd (v := nI (D.I k).n2) (by rw [rI_n (show k < rlen 29 from h24) (by decide), r29, hz2]) (Rt.bd a3 (Rt.bd a4 (Rt.bd (v := nL (D.I k).n3) (by rw [rJ_n (show k < rlen 31 from h24) (by decide), r31, hz3]; rfl) ?_))))))))
  rw [nL_t]
  have hta : ∃ ta : Nat, ((D.I k).n3 = 0 ∨ ot = some ta) ∧ ((D.I k).n3 = 0 ∨ (ta ∈ ZL Sl ∧ ZF Sl ta = .inl (R.K.1 4, 12, .inr (.inr (.inr (.inr ff)))))) := by
    rcases a7 with w | ⟨ta, w1, w2⟩
    · exact ⟨0, Or.inl w, Or.inl w⟩
    · exact ⟨ta, Or.inr w1, Or.inr w2⟩
  obtain ⟨ta, ta1, ta2⟩ := hta
  refine Rt.bn (gat_ (n := (D.I k).n3) (p := bs f + wl r) (cap := 12) (f := ff) (ta := ta) (pt := fun i => yQ R S0 (4 + (D.I k).n1) (D.I k).n2 i) (W := fun i => V (f, 40 + (wl r + i))) (l := fun i => L (f, 40 + (wl r + i))) (h := fun i => H (f, 40 + (wl r + i))) (q := fun i => i) (fl := fl) (t := t9) hL hx e ta1 ta2 ⟨n12, by decide⟩ n12 (fun i hi => by
    obtain ⟨z, z1, z2, z3⟩ := a8 i hi
    exact ⟨z, z1, Or.inl z2, z3⟩) (by omega) (fun i hi => hi) (fun i hi => by
    have := (v1 i hi).2
    rw [show bs f + (wl r + i) = bs f + wl r + i by omega] at this
    exact this) (fun i hi => Or.inl ⟨rfl, rfl⟩) hF hC.f1 (by omega) v4 (by rw [h73]; congr 1; omega)) (fun S3 r3 ⟨S4, cs, ls, fl1, t1, kk, c1, c2, c3, c4, c5, c6, c7, c8⟩ => ?_)
  have i3 : Zi S3 73 = nI (bs f + wl r) := by rw [c1]; exact Zi_s
  have o34 : SO S4 S3 := by rw [c1]; exact ⟨rfl, rfl, ⟨rfl, rfl⟩, rfl, rfl, fun _ _ => rfl, rfl, fun j hj => Zi_n hj⟩
  have z34 : Zl S3 = Zl S4 := by rw [c1]; rfl
  have f1 : ∀ n ∈ fl1, 1 ≤ n := fun n hn => by
    rcases c5.2.2 n hn with w | w
    · exact hC.f1 n w
    · omega
  refine Rt.bn (nod_ (o34.sam.fl c4) (fun z => by have := c5.2.1; rw [z] at this; have this : t1 + fl.length ≤ 0 + t9 + (D.I k).n3 := this; omega)) (fun S5 r5 ⟨m, l2, t2, d1, d2, d3, d4, d5, d6, d7, d8, d9, d10⟩ => ?_)
  have frs : Frs fl1 t1 [m] l2 t2 := Frs.one c4.2.2.2.1 c4.2.2.2.2 d10
  have hm1 := (frs.1 m (List.mem_singleton_self m)).2.2
  have hm2 : m ∈ fl ∨ t9 < m := by
    rcases hm1 with w | w
    · exact c5.2.2 m w
    · have := c5.1; exact Or.inr (by omega)
  have ht2 : t2 < 430000 := d5.2.1
  have e5 : RNx Sl S5 := ((e.tr c3.rn).tr o34.rn).tr d6.rn
  have r29' : Zr S5 29 = Zr Sl 29 := e5.2.2.2.2.2.1 29 (by decide)
  refine Rt.bd (v := nI (D.I k).n2) (by rw [rI_n (show k < rlen 29 from h24) (by decide), r29', hz2]) ?_
  rw [c2, d1]
  refine Rt.bd (wJ_n (show m < rlen 61 from (by show m < 430000; omega)) (by decide)) ?_
  show Rt (bnd (f_push R.K (Ul S5 61 (vp_updL (Zl S5 61) m (nL (hdN (ftN cs (D.I k).n3)) + (nL (D.I k).n2 <<< (Int32.toInt64 20 &&& 63))))) (nL m)) fun S15 v16 => some (S15, ())) _
  have hcm : ∀ j : Nat, j < (D.I k).n3 → m ∉ cs j ∧ m ∉ ls j := fun j hj => by
    have z1 := c8 m
    have z2 := frs.ct c4 f1 d5.2.2.2.1 d2 m
    have z3 := v4 m
    have z4 : cnN m l2 = 0 := cnN_z d4
    have i2 : ind t2 m ≤ 1 := ind_1
    have z5 : cnN m (cs j) + cnN m (ls j) ≤ psN (fun j => cnN m (cs j) + cnN m (ls j)) (D.I k).n3 := psN_i1 (v := fun j => cnN m (cs j) + cnN m (ls j)) hj
    rw [if_pos rfl] at z2
    have z1 : psN (fun j => cnN m (cs j) + cnN m (ls j)) (D.I k).n3 + cnN m fl1 + ind t9 m = psN (fun i => cnN m (L (f, 40 + (wl r + i)))) (D.I k).n3 + cnN m fl + ind t1 m := z1
    exact ⟨fun w => by have := cnN_mem.mp w; omega, fun w => by have := cnN_mem.mp w; omega⟩
  have hhd : hdN (ftN cs (D.I k).n3) < 2 ^ 20 := by
    by_cases c0 : 1 ≤ (ftN cs (D.I k).n3).length
    · have := (c6.1 _ (hdN_i c0)).2; omega
    · cases hh : ftN cs (D.I k).n3 with
      | nil => show 0 < _; omega
      | cons a b => rw [hh] at c0; exact absurd (Nat.succ_pos _) c0
  have wth := wth_e (a := hdN (ftN cs (D.I k).n3)) (b := (D.I k).n2) hhd (by omega)
  generalize hW : nL (hdN (ftN cs (D.I k).n3)) + (nL (D.I k).n2 <<< (Int32.toInt64 20 &&& 63)) = ww at wth
  have e8 : NO (fun a => a = m) S5 (Ul S5 61 (vp_updL (Zl S5 61) m ww)) := NO.w1 rfl
  have z8 : Zl (Ul S5 61 (vp_updL (Zl S5 61) m ww)) 61 m = ww := by rw [Zl_us, upL_s]
  have y8 : Zr (Ul S5 61 (vp_updL (Zl S5 61) m ww)) = Zr S5 := rfl
  have i8 : Zi (Ul S5 61 (vp_updL (Zl S5 61) m ww)) = Zi S5 := rfl
  have f8 : FLs (Ul S5 61 (vp_updL (Zl S5 61) m ww)) l2 t2 := d5.eq rfl rfl rfl
  generalize Ul S5 61 (vp_updL (Zl S5 61) m ww) = S8 at e8 z8 y8 i8 f8
  have i8' : Zi S8 73 = nI (bs f + wl r) := by rw [i8, d6.2.2.2.2.2.2.2.1 73 (by decide) (by decide)]; exact i3
  refine Rt.bn (psh_ (p := bs f + wl r) i8' (by omega)) (fun S9 _ ⟨s1, s2, s3, s4⟩ => ?_)
  have go : GO (fun a => (a ∈ fl ∨ t9 < a) ∨ ∃ i : Nat, i < (D.I k).n3 ∧ a ∈ L (f, 40 + (wl r + i))) (fun _ => False) (fun _ => False) S1 S9 := (((c3.go.tr o34.go).tr (d6.go.mo (fun a w => by rw [w]; exact Or.inl hm2) (fun _ w => w) (fun _ w => w))).tr (e8.go.mo (fun a w => by rw [w]; exact Or.inl hm2) (fun _ w => w) (fun _ w => w))).tr s1.go
  have n9 : ∀ a : Nat, a ≠ m → Zl S9 61 a = Zl S4 61 a ∧ Zr S9 62 a = Zr S4 62 a ∧ Zr S9 63 a = Zr S4 63 a := fun a ha => by
    obtain ⟨w1, w2, w3⟩ := e8.2.2.2.2.2.2.2.2 a ha
    obtain ⟨u1, u2, u3⟩ := d6.2.2.2.2.2.2.2.2 a ha
    rw [s1.2.2.2.2.2.1 61 (by decide), s1.2.2.2.2.2.2.1]
    refine ⟨w1.trans (u1.trans ?_), w2.trans (u2.trans ?_), w3.trans (u3.trans ?_)⟩
    · rw [z34]
    · rw [o34.2.2.2.2.2.2.1]
    · rw [o34.2.2.2.2.2.2.1]
  have z9 : Zl S9 61 m = ww := by rw [s1.2.2.2.2.2.1 61 (by decide)]; exact z8
  refine Rt.rt ⟨hX1.go go (s1.wq (e8.wq (d6.wq (o34.wq (c3.wq hX1.2.1))))) ?_, Or.inr ⟨(go.2.1 3 (by decide)).trans e3, (go.2.1 70 (by decide)).trans e70, NXt.fr ?_ er ?_⟩⟩
  · rw [s1.2.2.2.2.2.2.2 81 (by decide), i8, d6.2.2.2.2.2.2.2.1 81 (by decide) (by decide), o34.2.2.2.2.2.2.2 81 (by decide), c3.2.2.2.2.2.2.2.1 81 (by decide) (by decide)]; exact hX1.2.2.2.2
  · have ety : (yT R S0).2.2.2.1 (4 + (D.I k).n1) (D.I k).n2 = (D.I k).n3 := en.symm
    have hFu := qFu_E (V := fun i => V (f, 40 + (wl r + i))) y3 ng (fun j hj => by
      rw [ety] at hj
      exact (v1 j hj).1)
    rw [ety] at hFu
    have ftm : ∀ a : Nat, a ∈ ftN cs (D.I k).n3 → a ≠ m := fun a ha w => by
      obtain ⟨j, j1, j2⟩ := ftN_mem.mp ha
      exact (hcm j j1).1 (by rw [← w]; exact j2)
    refine h1.vs (E := dsl (fun q => (0, yQ R S0 (4 + (D.I k).n1) (D.I k).n2 q, 0)) (D.I k).n3) (P := [(0, 4 + (D.I k).n1, 0)]) (r := r) (lv := m :: (ftN cs (D.I k).n3 ++ ftN ls (D.I k).n3)) (hv := ftN (fun i => H (f, 40 + (wl r + i))) (D.I k).n3) (fl2 := l2) (t2 := t2) hL (h1.e1 (kd_s hk (by decide))) hJ hN hC hs dsl_0 hrn hw (kdM_k hk (by decide)) d0.2.2.1 (Or.inr ⟨4 + (D.I k).n1, _, rfl, by omega, by rw [y3]; decide, by rw [y3]; decide, hFu, Or.inr ⟨by rw [y3]; decide, kk, Or.inl ⟨y3, m, (D.I k).n2, cs, ls, fun i => H (f, 40 + (wl r + i)), rfl, ng, s3, ⟨d2, by omega⟩, ?_, ?_, ?_, by rw [ety], by rw [ety], fun j hj => ?_⟩⟩⟩) go (fun a w => ?_) (fun a => ?_) (fun a => Or.inl ?_) (s1.sam.fl f8) (fun p hp => ?_) h1.2.2.2.1.1 ?_
    · show kdW (Zl S9 61 m) = _
      rw [z9, ety]; exact wth.1
    · show vrW (Zl S9 61 m) = _
      rw [z9]; exact wth.2
    · rw [ety]
      exact c6.cg (fun a ha => (n9 a (ftm a ha)).2.2)
    · rw [ety] at hj
      rw [qS_E hj]
      exact (c7 j hj).st (M2 := nMS S9) (fun a ha => by
        obtain ⟨w1, w2, _⟩ := n9 a (fun w => (hcm j hj).1 (by rw [← w]; exact ha))
        exact ⟨w1, w2⟩) (fun a ha => n9 a (fun w => (hcm j hj).2 (by rw [← w]; exact ha)))
    · rcases w with w | ⟨i, hi, w⟩
      · exact w.imp id (fun z => Or.inl z)
      · exact Or.inr (Or.inr ⟨i, by rw [v3]; exact hi, w⟩)
    · show (if m = a then 1 else 0) + cnN a (ftN cs (D.I k).n3 ++ ftN ls (D.I k).n3) + _ + _ = _
      rw [v3, cnN_app, ftN_cn, ftN_cn, ← psN_ad]
      have z1 : psN (fun j => cnN a (cs j) + cnN a (ls j)) (D.I k).n3 + cnN a fl1 + ind t9 a = psN (fun i => cnN a (L (f, 40 + (wl r + i)))) (D.I k).n3 + cnN a fl + ind t1 a := c8 a
      have z2 := frs.ct c4 f1 d5.2.2.2.1 d2 a
      omega
    · rw [v3, ftN_cn]
      exact ⟨Nat.le_refl _, Or.inl (go.2.2.2.2.1 a (fun w => w))⟩
    · rw [s4 p (by omega), e8.2.2.2.2.2.1 72 (by decide), d6.2.2.2.2.2.1 72 (by decide), z34, c3.2.2.2.2.2.1 72 (by decide)]
    · rw [s2, show [(0, 4 + (D.I k).n1, 0)] ++ r = (0, 4 + (D.I k).n1, 0) :: r from rfl, wl_01.2]
      congr 1
  · rw [h1.2.2.2.1.2.2, h.2.2.2.1.2.2]
end PS84
end
-- m5.h.lean.txt
section
section PS85
variable {R : yR} {K : Ky} {S0 Sl S S1 S2 S3 : Sg} {D : fD} {i k j f nw n : Nat} {vt : Nat → Nat → Nat} {tb : Nat → lTb} {x : Nat → kFm} {bs : Nat → Nat} {g : Nat → Int32} {rt : Nat × Nat → Nat} {V : Nat × Nat → qV} {C L H : Nat × Nat → List Nat} {fl l h : List Nat} {t T z : Nat} {tk : Nat → Int32} {W : qV} {v : Int64}
/-- a root has at most as many cells of the heap as there are -/
theorem kC.hl (hC : kC C L H fl t tk) {r : Nat × Nat} (h1 : r.1 < 60) (h2 : r.2 < 300) : (H r).length ≤ 4000 := by
  have key : ∀ q : Nat, cnN q (H r) ≤ 1 ∧ (q ∈ H r → q < 4000) := fun q => by
    have g : cnN q (H r) ≤ sm2 (fun r => cnN q (H r)) := sm2_i1 (G := fun r => cnN q (H r)) h1 h2
    obtain ⟨d1, d2⟩ := hC.2 q
    refine ⟨by omega, fun w => ?_⟩
    have := cnN_mem.mp w
    exact (d2 (by omega)).1
  rw [← cnN_len (l := H r) (m := 4000) (fun a ha => (key a).2 ha)]
  have := psN_le (w := fun a => cnN a (H r)) (w2 := fun _ => 1) (n := 4000) (fun a _ => (key a).1)
  rw [psN_c9] at this
  omega
/-- a value is dropped, whatever it is -/
theorem doA_ (hL : LFS R S0 g) (hx : LX S0 Sl) (hva : vaR (yT R S0) (szN R S0) (nMS S) T W v l h) (hr : rTy S0 z) (eT : abT S0 z = T ∨ (isRf (abT S0 z) ∧ T = 1)) (e : RNx Sl S) (hq : wq S) (hf : FLs S fl t) (hd : Zi S 81 = nI 0) (hc : cvN [] l fl t) (h4 : h.length ≤ 4000) : Rt (f_dropValue R.K S (some z) v) (fun S2 _ => Rt (f_doAll R.K S2) (fun S3 _ => ∃ fl3 : List Nat, DPo [] l h fl t 0 S S3 fl3)) := by
  have hy := nYk_of hL
  have hcn := hva.cnt hy
  rcases eT with eT | ⟨e1, e2⟩
  · rcases hva with ⟨q1, k, c, l1, q2, q3, q4, q5⟩ | ⟨q1, k, q2⟩
    · subst q5
      rw [q4]
      rw [List.length_append] at hcn
      refine doS_ hL hx q2 hr eT q1 e hq hf hd q3 (fun a => ?_) (by omega)
      have := hc a
      rw [cnN_app] at this
      have z0 : cnN a [] = 0 := rfl
      exact ⟨by omega, fun w => this.2 (by omega)⟩
    · exact doV_ hL hx q2 hr eT q1 e hq hf hd hc (by omega)
  · subst e2
    have h1 : (yT R S0).1 1 = 0 := (yB_yT (R := R) (S0 := S0)).1 1 (by decide)
    obtain ⟨z1, z2⟩ := hva.lf (by rw [h1]; decide) (by rw [h1]; decide) (by rw [h1]; decide)
    subst z1; subst z2
    have hn := (yB_yT (R := R) (S0 := S0)).2.1 (abT S0 z) e1.1
    exact doV_ (k := 0) (V := qL (abT S0 z)) hL hx (Or.inr (Or.inr ⟨hn.2.1, hn.2.2, ⟨_, rfl⟩, rfl, rfl⟩)) hr rfl hn.1 e hq hf hd hc (by show 2 * 0 ≤ _; omega)
/-- DROP -/
theorem s_11 (hL : LFS R S0 g) (hx : LX S0 Sl) (h : RQ R S0 vt tb i D k f x bs Sl k S) (hQ : D.Pe < 24000) (hk : (D.I k).kd = 11) : Rt (f_step R.K S) (fun S2 _ => RTt R S0 vt tb i D k f x bs Sl S S2) := by
  have h24 := h.k24 hQ
  have hy := nYk_of hL
  refine stp_11 h hQ hk (fun S1 h1 e70 e3 er el => ?_)
  have hp := h1.pt.1
  unfold tPt at hp
  rw [hk] at hp
  obtain ⟨d0, T, r, hs, n0, n9, hT, _, _, hw⟩ := hp
  have hgt := h1.1.2.2.2.1
  rw [hs] at hgt
  have hb := h1.sb
  have h73 := h1.2.2.2.1.2.1
  have h177 := h1.pt.2
  rw [hs, (wl_01 (r := r)).2] at h73 hb h177
  obtain ⟨z, y1, y2, y3⟩ := h1.2.1.2.2.2.2.2.2.2.1 (Or.inr (Or.inl hk))
  have hX1 := h1.2.2.1
  have hq39 : Zq S1 = Zq Sl := hX1.1.2.2.2.1
  obtain ⟨rt, V, C, L, H, fl, t9, ⟨hJ, hN, hC, hF⟩, _⟩ := h1.2.2.2.2.2.2.1
  have hf6 := h1.2.2.2.2.1
  obtain ⟨v1, v2, v3, v4, v5⟩ := h1.top hJ hN hs n0
  refine Rt.bd (v := some z) (by rw [rQ_n (show k < rlen 39 from h24) (by decide), hq39, y1]) ?_
  refine Rt.bn (pop_ (p := bs f + wl r) h73 (by omega)) (fun S3 v ⟨c1, c2, c3, c4, c5⟩ => ?_)
  rw [c2]
  have hag : nMS S3 = nMS S1 := c3.sam.1
  refine Rt.bn (doA_ (T := T) (W := V (f, 40 + wl r)) (l := L (f, 40 + wl r)) (h := H (f, 40 + wl r)) (fl := fl) (t := t9) hL hx (by rw [hag]; exact v3) y2 (by rw [y3]; exact hT.imp (fun w => w.symm) id) (c3.rx hX1).1 (c3.rx hX1).2.1 (c3.sam.fl hF) (c3.rx hX1).2.2.2.2 (hC.cv (r := (f, 40 + wl r)) (c0 := []) hf6 (show 40 + wl r < 300 by omega) hF.2.2.2.1 (fun a => by show 0 + _ ≤ _; omega)) (hC.hl (r := (f, 40 + wl r)) hf6 (show 40 + wl r < 300 by omega))) (fun S4 _ q4 => Rt.bn q4 (fun S5 _ ⟨fl3, p1, p2, p3, p4, _, p6, p7⟩ => ?_))
  unfold f_step_590
  have go : GO (fun a => a ∈ ([] : List Nat) ∨ a ∈ L (f, 40 + wl r)) (fun q => q ∈ H (f, 40 + wl r)) (fun _ => False) S1 S5 := c3.go.tr p1.go
  refine Rt.rt ⟨hX1.go go p7 p2, Or.inr ⟨(go.2.1 3 (by decide)).trans e3, (go.2.1 70 (by decide)).trans e70, NXt.fr ?_ er ?_⟩⟩
  · refine h1.vs (E := [(0, T, 0)]) (P := []) (r := r) (lv := []) (hv := []) (fl2 := fl3) (t2 := t9) hL (h1.e1 (kd_s hk (by decide))) hJ hN hC hs (fun e he => by rw [List.mem_singleton.mp he]) hgt.tl hw (kdM_k hk (by decide)) d0.2.2.1 (Or.inl ⟨rfl, rfl, rfl⟩) go (fun a w => ?_) (fun a => ?_) (fun q => Or.inl ?_) p3 (fun q hq => ?_) h1.2.2.2.1.1 ?_
    · refine Or.inr (Or.inr ⟨0, by rw [(wl_01 (r := [])).1]; decide, ?_⟩)
      rcases w with w | w
      · cases w
      · exact w
    · rw [(wl_01 (r := [])).1, psN_1u, p4 a]
      show 0 + (cnN a (L (f, 40 + wl r)) + cnN a fl) + _ = cnN a (L (f, 40 + wl r)) + cnN a fl + _
      omega
    · rw [(wl_01 (r := [])).1, psN_1u]
      show 0 ≤ cnN q (H (f, 40 + wl r)) ∧ (Zr S5 67 q = Zr S1 67 q ∨ 0 < cnN q (H (f, 40 + wl r)))
      refine ⟨Nat.zero_le _, ?_⟩
      by_cases c : q ∈ H (f, 40 + wl r)
      · exact Or.inr (cnN_mem.mp c)
      · exact Or.inl (go.2.2.2.2.1 q c)
    · rw [p1.2.2.2.2.2.1 72 (by decide), c5]
    · rw [p1.2.2.2.2.2.2.2.1 73 (by decide) (by decide) (by decide) (by decide), c4]; rfl
  · rw [h1.2.2.2.1.2.2, h.2.2.2.1.2.2]
end PS85
end
-- m5.i.lean.txt
section
section PS86
variable {y : qY} {vt : Nat → Nat → Nat} {tb : Nat → lTb} {f v T : Nat} {x : Nat → kFm} {rt : Nat × Nat → Nat} {V : Nat × Nat → qV} {al2 : Nat → Prop} {lo2 : Nat → lLc → Prop}
/-- LET of a value that is no reference -/
theorem kJ_let (hrf : qRf y) (hJ : kJ y vt tb f x rt V) {hd : Nat → Prop} {m : Nat} {S : List tE} (hS : (x f).2.1 = (0, T, m) :: S) (hn : (x f).2.2.1 = 0) (hno : ∀ r m : Nat, (5, r, m) ∉ S ∧ (6, r, m) ∉ S) (hT : T ≠ 0) (hvt : vt (x f).1 v = T) (hv4 : v < 40) (hvS : (8, v, 0) ∉ S) (hal : ∀ u : Nat, u ≠ v → al2 u → kal (x f) u) (hlo : ∀ (w : Nat) (π : lLc), w ≠ v → ¬ lo2 w π → ¬ klo (x f) w π) : kJ y vt tb f (kUx x f ((x f).1, (8, v, 0) :: S, 0, lUp (kR (x f)) v none, lUp (kH (x f)) v hd, al2, lo2, kAn (x f))) (qRt rt (f, v) (vt (x f).1 v)) (qUp (kCl V f (wl S)) (f, v) (V (f, 40 + wl S))) := by
  have hf := Nat.le_refl f
  have hk0 : kNm (0, T, m) := by unfold kNm; simp
  have hK := hJ.2.2.2.2.1 f hf
  rw [hS] at hK
  obtain ⟨⟨k1, k2, k3, k4, k5⟩, -⟩ := hK
  obtain ⟨r1, r2⟩ := k4 hT
  subst hvt
  have hE1 : ∀ e : tE, e ∈ [(0, vt (x f).1 v, m)] → kNm e := fun e he => by rw [List.mem_singleton.mp he]; exact hk0
  have hWk : qOk y (vt (x f).1 v) (V (f, 40 + wl S)) := by rw [← r1]; exact hJ.1 _
  have j1 := kJ_pop hJ (E := [(0, vt (x f).1 v, m)]) (S := S) hS hE1 hn
  generalize hx1 : kUx x f ((x f).1, S, 0, kR (x f), kH (x f), kal (x f), klo (x f), kAn (x f)) = x1 at j1
  have e1 : x1 f = ((x f).1, S, 0, kR (x f), kH (x f), kal (x f), klo (x f), kAn (x f)) := by rw [← hx1, kUx_eq]
  have r := kJ_set (v := v) (W := V (f, 40 + wl S)) (ro := none) (hd := hd) (al2 := al2) (lo2 := lo2) (S2 := (8, v, 0) :: (x1 f).2.1) hrf j1 (by rw [e1]) hv4 (by rw [e1]; exact hno) (Or.inl ⟨rfl, by rw [e1]; exact hvS⟩) (by rw [e1]; exact hWk) (by rw [e1]; exact hal) (by rw [e1]; exact hlo) (by
    rw [e1]
    intro π t g1 g2 _
    exact r2 π t g1 g2) (Or.inl ⟨rfl, fun w hw => by
    obtain ⟨a, b⟩ := w
    have e9 : a = vt (x f).1 v := (hWk.1 [] a b hw).1
    show y.1 a ≠ 5 ∧ y.1 a ≠ 6
    rw [e9]; exact ⟨k2, k3⟩⟩)
  rw [e1, ← hx1, kUx2] at r
  exact r
/-- LET of a reference -/
theorem kJ_letR (hcr : qCr y) (hrf : qRf y) (hJ : kJ y vt tb f x rt V) {k U m : Nat} {S : List tE} (hS : (x f).2.1 = (k, U, m) :: S) (hn : (x f).2.2.1 = 0) (hno : ∀ r m : Nat, (5, r, m) ∉ S ∧ (6, r, m) ∉ S) (hU : U < 10000) (hkt : (k = 1 ∧ vt (x f).1 v = 10000 + 2 * U) ∨ (k = 2 ∧ vt (x f).1 v = 10001 + 2 * U)) (hv4 : v < 40) (hvS : (8, v, 0) ∉ S) (hal : ∀ u : Nat, u ≠ v → al2 u → kal (x f) u) (hlo : ∀ (w : Nat) (π : lLc), w ≠ v → ¬ lo2 w π → ¬ klo (x f) w π) {hd : Nat → Prop} (hhd : ∀ κ : Nat, kH (x f) (40 + wl S) κ → hd κ) : ∃ a : lLc, kR (x f) (40 + wl S) = some a ∧ rt (f, 40 + wl S) = vt (x f).1 v ∧ (∃ z : Nat × Nat, V (f, 40 + wl S) [] = some z) ∧ kJ y vt tb f (kUx x f ((x f).1, (8, v, 0) :: S, 0, lUp (kR (x f)) v (some a), lUp (kH (x f)) v hd, al2, lo2, kAn (x f))) (qRt rt (f, v) (vt (x f).1 v)) (qUp (kCl V f (wl S)) (f, v) (V (f, 40 + wl S))) := by
  have hf := Nat.le_refl f
  have hcu := hcr U hU
  have hk0 : kNm (k, U, m) := by
    rcases hkt with ⟨rfl, -⟩ | ⟨rfl, -⟩ <;> (unfold kNm; simp)
  have hK := hJ.2.2.2.2.1 f hf
  rw [hS] at hK
  have hK1 : rt (f, 40 + wl S) = vt (x f).1 v ∧ ∃ w : Nat × Nat, V (f, 40 + wl S) [] = some w := by
    rcases hkt with ⟨rfl, e⟩ | ⟨rfl, e⟩
    · rw [e]; exact hK.1
    · rw [e]; exact hK.1
  obtain ⟨r1, ⟨t9, g9⟩, r2⟩ := hK1
  have h56 : (y.1 (vt (x f).1 v) = 5 ∨ y.1 (vt (x f).1 v) = 6) ∧ y.2.1 (vt (x f).1 v) = U := by
    rcases hkt with ⟨-, e⟩ | ⟨-, e⟩
    · rw [e]; exact ⟨Or.inl hcu.1, hcu.2.1⟩
    · rw [e]; exact ⟨Or.inr hcu.2.2.1, hcu.2.2.2⟩
  obtain ⟨h56, eU⟩ := h56
  have wS : wl (x f).2.1 = wl S + 1 := by rw [hS, wl_n hk0]
  have wB := hJ.2.2.2.2.2.2.2.2 f hf
  have hWk : qOk y (vt (x f).1 v) (V (f, 40 + wl S)) := by rw [← r1]; exact hJ.1 _
  have e9 : t9 = vt (x f).1 v := (hWk.1 [] t9 g9 r2).1
  have hks : kA (x f) (40 + wl S) := Or.inr ⟨by omega, by omega⟩
  obtain ⟨a, ea⟩ := hJ.2.2.2.1 f hf (40 + wl S) t9 g9 r2 (by rw [e9]; exact h56) hks
  obtain ⟨-, htg⟩ := hJ.2.2.1 f hf (40 + wl S) a hks ea
  rw [r1, eU] at htg
  have hE1 : ∀ e : tE, e ∈ [(k, U, m)] → kNm e := fun e he => by rw [List.mem_singleton.mp he]; exact hk0
  have j1 := kJ_pop hJ (E := [(k, U, m)]) (S := S) hS hE1 hn
  generalize hx1 : kUx x f ((x f).1, S, 0, kR (x f), kH (x f), kal (x f), klo (x f), kAn (x f)) = x1 at j1
  have e1 : x1 f = ((x f).1, S, 0, kR (x f), kH (x f), kal (x f), klo (x f), kAn (x f)) := by rw [← hx1, kUx_eq]
  obtain ⟨b1, b2⟩ := lBw_pop (A2 := fun u => ((u < 40 ∧ al2 u) ∨ (40 ≤ u ∧ u < 40 + wl S)) ∧ u ≠ v) (t := v) (un := y.1 (vt (x f).1 v) = 6) (hd := hd) (hJ.2.1.1 f hf) (fun u hu => by
    obtain ⟨hu, hne⟩ := hu
    rcases hu with ⟨g1, g2⟩ | ⟨g1, g2⟩
    · exact ⟨Or.inl ⟨g1, hal u hne g2⟩, by omega⟩
    · exact ⟨Or.inr ⟨g1, by omega⟩, by omega⟩) (by omega) hks ea (fun q => by show y.1 (rt (f, 40 + wl S)) = 6; rw [r1]; exact q) (fun l q => hhd l q) (lP_rf a)
  have fullW : ∀ (π : lLc) (t : Nat), qM π → qW y (vt (x f).1 v) π t → π = [] ∧ t = vt (x f).1 v := fun π t g1 g2 => by
    cases π with
    | nil => exact ⟨rfl, g2⟩
    | cons s π =>
      obtain ⟨q, i⟩ := s
      obtain ⟨g3, g4⟩ := qM_cons.mp g1
      obtain rfl : q = 0 := g3
      rcases h56 with h | h
      · exact absurd (h.symm.trans g2.1) (by decide)
      · exact absurd (h.symm.trans g2.1) (by decide)
  have r := kJ_set (v := v) (W := V (f, 40 + wl S)) (ro := some a) (hd := hd) (al2 := al2) (lo2 := lo2) (S2 := (8, v, 0) :: (x1 f).2.1) hrf j1 (by rw [e1]) hv4 (by rw [e1]; exact hno) (Or.inl ⟨rfl, by rw [e1]; exact hvS⟩) (by rw [e1]; exact hWk) (by rw [e1]; exact hal) (by rw [e1]; exact hlo) (by
    rw [e1]
    intro π t g1 g2 _
    obtain ⟨rfl, rfl⟩ := fullW π t g1 g2
    refine ⟨fun _ => ⟨_, r2⟩, fun q => ?_⟩
    rcases h56 with h | h
    · exact absurd (h.symm.trans q) (by decide)
    · exact absurd (h.symm.trans q) (by decide)) (Or.inr ⟨a, rfl, by rw [e1]; exact b1, by
      rw [e1]
      exact fun u hu hne => b2 u ⟨hu, hne⟩, by
      rw [e1]
      show qTg y rt (kCl V f (wl S)) a (y.2.1 (vt (x f).1 v))
      rw [eU]
      refine qTg_eq htg (fun r π _ _ hr => ⟨kCl_ge (fun g => ?_), rfl⟩)
      omega, by rw [e1]; exact h56⟩)
  rw [e1, ← hx1, kUx2] at r
  exact ⟨a, ea, r1, ⟨_, r2⟩, r⟩
/-- LET without a value -/
theorem kJ_let0 (hrf : qRf y) (hJ : kJ y vt tb f x rt V) {hd : Nat → Prop} (hn : (x f).2.2.1 = 0) (hno : ∀ r m : Nat, (5, r, m) ∉ (x f).2.1 ∧ (6, r, m) ∉ (x f).2.1) (hv4 : v < 40) (hvS : (8, v, 0) ∉ (x f).2.1) (hal : ∀ u : Nat, u ≠ v → al2 u → kal (x f) u) (hlo : ∀ (w : Nat) (π : lLc), w ≠ v → ¬ lo2 w π → ¬ klo (x f) w π) (hlv : ∀ (π : lLc) (t : Nat), qM π → qW y (vt (x f).1 v) π t → lo2 v π) : kJ y vt tb f (kUx x f ((x f).1, (8, v, 0) :: (x f).2.1, 0, lUp (kR (x f)) v none, lUp (kH (x f)) v hd, al2, lo2, kAn (x f))) (qRt rt (f, v) (vt (x f).1 v)) (qUp V (f, v) (fun _ => none)) := kJ_set hrf hJ hn hv4 hno (Or.inl ⟨rfl, hvS⟩) qOk_none hal hlo (fun π t g1 g2 g3 => absurd (hlv π t g1 g2) g3) (Or.inl ⟨rfl, fun w hw => by cases hw⟩)
end PS86
/-- variables w 0 .. w (n - 1) come, the stack is empty of values -/
noncomputable def nvN (F : Nat × Nat → List Nat) (f n : Nat) (w : Nat → Nat) (c : Nat → List Nat) : Nat × Nat → List Nat := fun r => if r.1 = f ∧ 40 ≤ r.2 then [] else if Classical.epsilon (fun b : Bool => b = true ↔ (r.1 = f ∧ ∃ i : Nat, i < n ∧ r.2 = w i)) = true then c (Classical.epsilon (fun i : Nat => i < n ∧ r.2 = w i)) else F r
section PS86b
variable {F : Nat × Nat → List Nat} {f n : Nat} {w : Nat → Nat} {c : Nat → List Nat}
theorem nvN_4 {u : Nat} (h : 40 ≤ u) : nvN F f n w c (f, u) = [] := if_pos ⟨rfl, h⟩
theorem nvN_i {i : Nat} (hi : i < n) (h4 : w i < 40) (hw : ∀ a b : Nat, a < n → b < n → w a = w b → a = b) : nvN F f n w c (f, w i) = c i := by
  unfold nvN
  rw [if_neg (fun q => by have q2 : 40 ≤ w i := q.2; omega), if_pos (eps_b.mpr ⟨rfl, i, hi, rfl⟩)]
  have h := Classical.epsilon_spec (p := fun i2 : Nat => i2 < n ∧ w i = w i2) ⟨i, hi, rfl⟩
  rw [← hw i _ hi h.1 h.2]
theorem nvN_o {r : Nat × Nat} (h : ¬ (r.1 = f ∧ ((∃ i : Nat, i < n ∧ r.2 = w i) ∨ 40 ≤ r.2))) : nvN F f n w c r = F r := by
  unfold nvN
  rw [if_neg (fun q => h ⟨q.1, Or.inr q.2⟩), if_neg (fun q => h (by obtain ⟨q1, q2⟩ := eps_b.mp q; exact ⟨q1, Or.inl q2⟩))]
end PS86b
end
-- m5.j.lean.txt
section
section PS87
variable {y : qY} {vt : Nat → Nat → Nat} {tb : Nat → lTb} {zn sz rk : Nat → Nat} {M M2 : nM} {sk sk2 : Nat → Int64} {pl pl2 : Nat → Int32} {f : Nat} {x : Nat → kFm} {rt rt2 : Nat × Nat → Nat} {V V2 : Nat × Nat → qV} {bs : Nat → Nat} {C L H : Nat × Nat → List Nat} {fl fl2 : List Nat} {t t2 n : Nat} {tk tk2 : Nat → Int32} {A : Nat → Prop} {X : kFm} {w : Nat → Nat} {c l h : Nat → List Nat}
/-- variables come into scope, no value stays on the stack -/
theorem kN.nv (hy : nYk y zn sz rk) (hJ : kJ y vt tb f x rt V) (hN : kN y zn sz M sk pl f x rt V bs C L H) (hC : kC C L H fl t tk) (hf6 : f < 60) (hw1 : ∀ j : Nat, j ≤ f → wl (x j).2.1 ≤ 177) (hwo : wl (x f).2.1 ≤ 1) (hX0 : wl X.2.1 = 0) (hX8 : ∀ u : Nat, (8, u, 0) ∈ X.2.1 ↔ (∃ i : Nat, i < n ∧ u = w i) ∨ (8, u, 0) ∈ (x f).2.1) (hX2 : X.2.2.1 = 0)
  (hw4 : ∀ i : Nat, i < n → w i < 40 ∧ (8, w i, 0) ∉ (x f).2.1) (hwi : ∀ a b : Nat, a < n → b < n → w a = w b → a = b)
  (hrt : ∀ r : Nat × Nat, ¬ (r.1 = f ∧ ((∃ i : Nat, i < n ∧ r.2 = w i) ∨ 40 ≤ r.2)) → rt2 r = rt r ∧ V2 r = V r)
  (hp : ∀ i : Nat, i < n → plR y sz M2 (rt2 (f, w i)) (V2 (f, w i)) (pl2 (40 * f + w i)) (c i) (l i) (h i))
  (hpl : ∀ j u : Nat, j ≤ f → u < 40 → (8, u, 0) ∈ (x j).2.1 → pl2 (40 * j + u) = pl (40 * j + u))
  (hr : ∀ (u : Nat) (d : Nat × Nat) (π : lLc), u < 40 → kA X u → kR X u = some (d :: π) → (kA (x f) u ∧ kR (x f) u = some (d :: π) ∧ ¬ ∃ i : Nat, i < n ∧ u = w i) ∨ ∃ i m n2 : Nat, i < n ∧ u = w i ∧ (d.1 ≤ f ∧ d.2 < 40 ∧ (8, d.2, 0) ∈ (x d.1).2.1) ∧ c i = [m] ∧ M2.w m = nL n2 ∧ n2 < 430000 ∧ wRn y zn M2 (rt d) (hdN (C d)) π n2)
  (hM : ∀ a : Nat, ¬ A a → M2.w a = M.w a ∧ M2.h a = M.h a ∧ M2.x a = M.x a) (hA : ∀ a : Nat, A a → a ∈ fl ∨ t < a ∨ a ∈ L (f, 40))
  (hfl2 : ∀ a : Nat, psN (fun i => cnN a (c i) + cnN a (l i)) n + cnN a fl2 + ind t a = cnN a (L (f, 40)) + cnN a fl + ind t2 a)
  (hhv : ∀ q : Nat, psN (fun i => cnN q (h i)) n ≤ cnN q (H (f, 40)) ∧ tk2 q = tk q)
  (hsk : ∀ q : Nat, q < bs f → sk2 q = sk q) : kN y zn sz M2 sk2 pl2 f (kUx x f X) rt2 V2 bs (nvN C f n w c) (nvN L f n w l) (nvN H f n w h) ∧ kC (nvN C f n w c) (nvN L f n w l) (nvN H f n w h) fl2 t2 tk2 := by
  have hf := Nat.le_refl f
  -- old roots
  have top : ∀ u : Nat, 40 ≤ u → C (f, u) = [] ∧ (u ≠ 40 → L (f, u) = [] ∧ H (f, u) = []) := fun u hu => by
    obtain ⟨q1, q2, q3⟩ := hN.1 f u hf
    by_cases e : u < 40 + wl (x f).2.1
    · exact ⟨(q2 hu e).1, fun z => by omega⟩
    · obtain ⟨z1, z2, z3⟩ := q3 (fun z => by rcases z with z | z <;> omega)
      exact ⟨z1, fun _ => ⟨z2, z3⟩⟩
  have oldv : ∀ i : Nat, i < n → C (f, w i) = [] ∧ L (f, w i) = [] ∧ H (f, w i) = [] := fun i hi => (hN.1 f (w i) hf).2.2 (fun z => by
    obtain ⟨w4, w8⟩ := hw4 i hi
    rcases z with z | z
    · exact w8 z.2
    · omega)
  have dj : ∀ (q : Nat × Nat) (a : Nat), ¬ (q.1 = f ∧ ((∃ i : Nat, i < n ∧ q.2 = w i) ∨ 40 ≤ q.2)) → q.1 ≤ f → kSc (x q.1).2.1 q.2 → (a ∈ C q ∨ a ∈ L q) → ¬ A a := fun q a h1 h2 h3 h4 z => by
    have hq := hw1 q.1 h2
    have q300 : q.2 < 300 := by rcases h3 with z | z <;> omega
    obtain ⟨q1, q2, q3, q4, q5⟩ := hC.one (r := q) (by omega) q300 h4
    rcases hA a z with z | z | z
    · exact q1 z
    · omega
    · have := q5 (f, 40) hf6 (show 40 < 300 by omega) (Or.inr z)
      exact h1 (by rw [← this]; exact ⟨rfl, Or.inr (Nat.le_refl 40)⟩)
  refine ⟨kN.rq (Q := fun u => (∃ i : Nat, i < n ∧ u = w i) ∨ 40 ≤ u) hy hJ hN (fun j hj => kUx_lo hj) (fun u hu => ?_) (fun u hu h4 => absurd (Or.inr h4) hu) (fun q hq => ?_) (fun q hq h1 h3 => ⟨fun a z => hM a (dj q a hq h1 h3 (Or.inl z)), fun a z => hM a (dj q a hq h1 h3 (Or.inr z))⟩) (fun q hq h1 h4 h8 => hpl q.1 q.2 h1 h4 h8) (fun q hq h1 h4 h5 => hsk _ ?_) (fun u hu => ?_) (fun j u d π hj ha hc hrr => ?_), ?_⟩
  · rw [kUx_top, hX8]
    exact ⟨fun z => z.resolve_left (fun z => hu (Or.inl z)), Or.inr⟩
  · obtain ⟨z1, z2⟩ := hrt q hq
    exact ⟨z1, z2, nvN_o hq, nvN_o hq, nvN_o hq⟩
  · by_cases e : q.1 = f
    · exact absurd ⟨e, Or.inr h4⟩ hq
    · have := (hN.bsm (j := q.1) (q := f) h1 hf).2 (by omega)
      omega
  · rw [kUx_top]
    rcases hu with ⟨i, hi, rfl⟩ | hu
    · obtain ⟨w4, w8⟩ := hw4 i hi
      rw [nvN_i hi w4 hwi, nvN_i hi w4 hwi, nvN_i hi w4 hwi]
      exact ⟨fun _ _ => hp i hi, fun z => by omega, fun z => absurd (Or.inl ⟨w4, (hX8 (w i)).mpr (Or.inl ⟨i, hi, rfl⟩)⟩) z⟩
    · rw [nvN_4 hu, nvN_4 hu, nvN_4 hu]
      exact ⟨fun z => by omega, fun _ z => by rw [hX0] at z; omega, fun _ => ⟨rfl, rfl, rfl⟩⟩
  · have nd : ∀ d : Nat × Nat, d.2 < 40 → (8, d.2, 0) ∈ (x d.1).2.1 → ¬ (d.1 = f ∧ ((∃ i : Nat, i < n ∧ d.2 = w i) ∨ 40 ≤ d.2)) := fun d d1 d2 z => by
      obtain ⟨z1, z2⟩ := z
      rcases z2 with ⟨i, i1, i2⟩ | z2
      · rw [z1, i2] at d2
        exact (hw4 i i1).2 d2
      · omega
    by_cases e : j = f
    · subst e
      rw [kUx_top] at ha hrr hc
      have hu : u < 40 := by
        rcases hc with ⟨z1, _⟩ | ⟨z1, z2⟩
        · exact z1
        · rw [hX0] at z2; omega
      rcases hr u d π hu ha hrr with ⟨z1, z2, z3⟩ | ⟨i, m, n2, z1, z2, ⟨z3, z4, z5⟩, z6, z7, z8, z9⟩
      · obtain ⟨l1, l2, l3, _⟩ := hJ.ld hf z1 z2
        exact Or.inl ⟨fun z => by
          rcases z.2 with z | z
          · exact z3 z
          · omega, nd d l2 l3, z1, z2⟩
      · refine Or.inr ⟨n2, z8, ?_, fun _ => ⟨m, ?_, z7⟩, fun z => by omega⟩
        · rw [(hrt d (nd d z4 z5)).1, nvN_o (nd d z4 z5)]; exact z9
        · rw [z2, nvN_i z1 (hw4 i z1).1 hwi]; exact z6
    · rw [kUx_lo e] at ha hrr hc
      obtain ⟨l1, l2, l3, _⟩ := hJ.ld hj ha hrr
      exact Or.inl ⟨fun z => e z.1, nd d l2 l3, ha, hrr⟩
  · have ri : ∀ i : Nat, i < n → (if i < n then (f, w i) else (f, 40) : Nat × Nat) = (f, w i) := fun i hi => if_pos hi
    have rn : (if n < n then (f, w n) else (f, 40) : Nat × Nat) = (f, 40) := if_neg (Nat.lt_irrefl n)
    refine hC.fam (r := fun i => if i < n then (f, w i) else (f, 40)) (n := n + 1) (fun i hi => ?_) (fun i j hi hj he => ?_) (fun q hq => ?_) (fun a => ?_) (fun q => Or.inl ?_)
    · show (if i < n then (f, w i) else (f, 40) : Nat × Nat).1 < 60 ∧ (if i < n then (f, w i) else (f, 40) : Nat × Nat).2 < 300
      by_cases e : i < n
      · rw [if_pos e]
        have := (hw4 i e).1
        exact ⟨hf6, show w i < 300 by omega⟩
      · rw [if_neg e]; exact ⟨hf6, show 40 < 300 by omega⟩
    · have he : (if i < n then (f, w i) else (f, 40) : Nat × Nat) = (if j < n then (f, w j) else (f, 40)) := he
      by_cases e1 : i < n
      · rw [if_pos e1] at he
        by_cases e2 : j < n
        · rw [if_pos e2] at he
          exact hwi i j e1 e2 (Prod.mk.inj he).2
        · rw [if_neg e2] at he
          have := (Prod.mk.inj he).2
          have := (hw4 i e1).1
          omega
      · rw [if_neg e1] at he
        by_cases e2 : j < n
        · rw [if_pos e2] at he
          have := (Prod.mk.inj he).2
          have := (hw4 j e2).1
          omega
        · omega
    · by_cases e : q.1 = f ∧ ((∃ i : Nat, i < n ∧ q.2 = w i) ∨ 40 ≤ q.2)
      · obtain ⟨q1, q2⟩ := q
        obtain ⟨e1, e2⟩ := e
        have e1 : q1 = f := e1
        subst e1
        rcases e2 with ⟨i, i1, i2⟩ | e2
        · have i2 : q2 = w i := i2
          refine absurd ?_ (hq i (by omega))
          show (q1, q2) = if i < n then (q1, w i) else (q1, 40)
          rw [if_pos i1, i2]
        · have e2 : 40 ≤ q2 := e2
          have ne : q2 ≠ 40 := fun z => by
            refine absurd ?_ (hq n (by omega))
            show (q1, q2) = if n < n then (q1, w n) else (q1, 40)
            rw [rn, z]
          obtain ⟨d1, d2⟩ := top q2 e2
          obtain ⟨d2, d3⟩ := d2 ne
          rw [nvN_4 e2, nvN_4 e2, nvN_4 e2, d1, d2, d3]
          exact ⟨rfl, rfl, rfl⟩
      · exact ⟨nvN_o e, nvN_o e, nvN_o e⟩
    · have e1 : psN (fun i => cnN a (nvN C f n w c (if i < n then (f, w i) else (f, 40))) + cnN a (nvN L f n w l (if i < n then (f, w i) else (f, 40)))) (n + 1) = psN (fun i => cnN a (c i) + cnN a (l i)) n := by
        show psN _ n + (cnN a (nvN C f n w c (if n < n then (f, w n) else (f, 40))) + cnN a (nvN L f n w l (if n < n then (f, w n) else (f, 40)))) = _
        rw [rn, nvN_4 (Nat.le_refl 40), nvN_4 (Nat.le_refl 40)]
        show psN _ n + (0 + 0) = _
        rw [Nat.add_zero]
        exact psN_cg (fun i hi => by rw [ri i hi, nvN_i hi (hw4 i hi).1 hwi, nvN_i hi (hw4 i hi).1 hwi])
      have e2 : psN (fun i => cnN a (C (if i < n then (f, w i) else (f, 40))) + cnN a (L (if i < n then (f, w i) else (f, 40)))) (n + 1) = cnN a (L (f, 40)) := by
        show psN _ n + (cnN a (C (if n < n then (f, w n) else (f, 40))) + cnN a (L (if n < n then (f, w n) else (f, 40)))) = _
        rw [rn, (top 40 (Nat.le_refl 40)).1, psN_cg (w2 := fun _ => 0) (fun i hi => by
          obtain ⟨o1, o2, _⟩ := oldv i hi
          rw [ri i hi, o1, o2]; rfl), psN_z]
        show 0 + (0 + _) = _
        omega
      rw [e1, e2]
      exact hfl2 a
    · have e1 : psN (fun i => cnN q (nvN H f n w h (if i < n then (f, w i) else (f, 40)))) (n + 1) = psN (fun i => cnN q (h i)) n := by
        show psN _ n + cnN q (nvN H f n w h (if n < n then (f, w n) else (f, 40))) = _
        rw [rn, nvN_4 (Nat.le_refl 40)]
        show psN _ n + 0 = _
        rw [Nat.add_zero]
        exact psN_cg (fun i hi => by rw [ri i hi, nvN_i hi (hw4 i hi).1 hwi])
      have e2 : psN (fun i => cnN q (H (if i < n then (f, w i) else (f, 40)))) (n + 1) = cnN q (H (f, 40)) := by
        show psN _ n + cnN q (H (if n < n then (f, w n) else (f, 40))) = _
        rw [rn, psN_cg (w2 := fun _ => 0) (fun i hi => by
          obtain ⟨_, _, o3⟩ := oldv i hi
          rw [ri i hi, o3]; rfl), psN_z]
        omega
      rw [e1, e2]
      exact ⟨(hhv q).1, Or.inl (hhv q).2⟩
end PS87
end
