/-- the table of types told by other rows of kinds that agree on it -/
theorem tyN_cg {yp yt u : Nat} {ak gk : Nat → Int32} (h : tyN yp ak u) (hu : u < yt) (he : ∀ t : Nat, t < yt → gk t = ak t) : tyN yp gk u := tyN_up h hu he
theorem tyOK_cg {yp yt : Nat} {ak gk ao az ad ab ah au : Nat → Int32} (h : tyOK yp (yt, ak, ao, az, ad, ab, ah, au)) (he : ∀ t : Nat, t < yt → gk t = ak t) : tyOK yp (yt, gk, ao, az, ad, ab, ah, au) := by
  obtain ⟨a1, a2, a3, ⟨b1, b2, b3, b4⟩, c1, ⟨d1, d2, d3, d4, d5⟩, e1, f1, g1⟩ := h
  have qc : ∀ {kd : Int32} {f : Nat → Int32} {j : Nat}, tyC kd yt ak ao f j → tyC kd yt gk ao f j := fun {kd f j} h => by
    rcases h with h | ⟨r, h1, h2, h3, h4, h5⟩
    · exact Or.inl h
    · exact Or.inr ⟨r, h1, h2, h3, (he r h2).trans h4, h5⟩
  refine ⟨a1, a2, a3, ⟨by rw [he 0 (by omega)]; exact b1, by rw [he 1 (by omega)]; exact b2, by rw [he 2 (by omega)]; exact b3, by rw [he 3 (by omega)]; exact b4⟩, c1, ⟨d1, d2, d3, d4, fun s h1 h2 => by rw [he (4 + s) (by omega)]; exact d5 s h1 h2⟩, fun s hs => by rw [he (4 + s) (by omega)]; exact e1 s hs, fun t h1 h2 => ?_, fun j hj => ⟨qc (g1 j hj).1, qc (g1 j hj).2.1, qc (g1 j hj).2.2⟩⟩
  obtain ⟨x1, x2, x3, u, x4, x5, x6⟩ := f1 t h1 h2
  rw [he t h2]
  exact ⟨x1, x2, x3, u, x4, x5, tyN_cg x6 (by omega) he⟩
theorem shQ_cg {yp yt : Nat} {ak gk : Nat → Int32} {X : tF} (h : shQ yp yt ak X) (h34 : 34 ≤ yt) (h30 : yp ≤ 30) (he : ∀ t : Nat, t < yt → gk t = ak t) : shQ yp yt gk X := shQ_up h (Nat.le_refl _) he h34 h30
theorem lyP_cq {hd r : Nat} {fs gs fpt : Nat → Int32} : ∀ n : Nat, (∀ k : Nat, k < n → szP gs fpt (r * 12 + k) = szP fs fpt (r * 12 + k)) → lyP hd r gs fpt n = lyP hd r fs fpt n
  | 0, _ => rfl
  | n + 1, h => by
    show min (lyP hd r gs fpt n + szP gs fpt (r * 12 + n)) 17 = min (lyP hd r fs fpt n + szP fs fpt (r * 12 + n)) 17
    rw [lyP_cq n (fun k hk => h k (by omega)), h n (by omega)]
/-- sizes and layout, told by rows that agree on the types of parts -/
theorem msI_cg {yp yt : Nat} {ak gk fs gs : Nat → Int32} {X : tF} (h : msI yp ak (X 0) (X 1) fs (X 2) (X 3)) (hq : shQ yp yt ak X) (h34 : 34 ≤ yt) (h30 : yp ≤ 30) (hy : yt ≤ 3040) (he : ∀ t : Nat, t < yt → gk t = ak t ∧ gs t = fs t) : msI yp gk (X 0) (X 1) gs (X 2) (X 3) := fun a ha => by
  rw [(he (4 + a) (by omega)).1, (he (4 + a) (by omega)).2]
  rcases h a ha with q | ⟨mo, m1, m2, m3⟩
  · exact Or.inl q
  · refine Or.inr ⟨mo, m1, m2, fun j hj => ?_⟩
    obtain ⟨n, n1, n2, n3, n4, n5⟩ := hq a ha
    have hjn : j < n := by
      have hj : j < (X 0 a).toNatClampNeg := hj
      rw [n1, nI_clamp (by omega)] at hj; exact hj
    obtain ⟨m, p1, p2, p3⟩ := n5 j hjn
    have hsz : ∀ k : Nat, k < pcR (X 1) (a * 12 + j) → szP gs (X 2) ((a * 12 + j) * 12 + k) = szP fs (X 2) ((a * 12 + j) * 12 + k) := fun k hk => by
      have hk : k < (X 1 (a * 12 + j)).toNatClampNeg := hk
      rw [p1, nI_clamp (by omega)] at hk
      obtain ⟨u, u1, u2, u3⟩ := p3 k hk
      unfold szP
      rw [u1, nI_clamp (by omega), (he u u3).2]
    obtain ⟨q1, q2⟩ := m3 j hj
    refine ⟨?_, fun k hk => ?_⟩
    · rw [lyP_cq _ hsz]; exact q1
    · rw [lyP_cq k (fun m hm => hsz m (by omega)), hsz k hk]; exact q2 k hk
theorem gF_tb {yp nb tt : Nat} {X : tF} {G : Nat → Nat → Nat} {lo : Nat → Nat} {fc : Nat → Nat → Int32} {fr : Nat → Nat → Nat → Int32} {Z T : tgS} (hp : pgI yp nb tt nb X G lo fc fr Z) (hsz : szI yp yp (X 5)) (hms : msI yp (X 7) (X 0) (X 1) (X 5) (X 2) (X 3)) (hsq : shQ yp (cN (X 6 0)) (X 7) X) (h34 : 34 ≤ cN (X 6 0)) : tbO (gF Z T) X yp (Z.1 7) := by
  obtain ⟨a1, a2, a3, a4, -, -, a7, a8⟩ := hp
  have h7 : Z.1 7 ≤ 3040 := a1.2.1
  have h30 : yp ≤ 30 := a1.2.2.1
  have hZ34 : 34 ≤ Z.1 7 := a1.1
  have e20 : ∀ t : Nat, t < Z.1 7 → gF Z T 20 t = Z.2 20 t := fun t ht => gF_20 ht
  refine ⟨tyOK_cg (ak := Z.2 20) a1 e20, shQ_cg a3 hZ34 h30 e20, fun s hs => ?_, msI_cg (ak := X 7) (fs := X 5) hms hsq h34 h30 (by omega) (fun t ht => ⟨(e20 t (by omega)).trans (a8 t ht).2, (a8 t ht).1⟩)⟩
  obtain ⟨z, z1, z2⟩ := hsz s hs
  exact ⟨z, ((a8 (4 + s) (by omega)).1).trans z1, z2⟩
section
variable {F X : tF} {G : Nat → Nat → Nat} {rs a b : Nat} {k : Nat → Option (List tE)}
theorem al_nx {i o : Nat} {s : List tE} (hc : ceI F X G rs a b k) (hkb : k b = none) (hi : a ≤ i) (hb : i < b) (hs : k i = some s) (ho : F 0 i = nI o) (h33 : o < 33) (hn : o ≠ 15 ∧ o ≠ 16 ∧ o ≠ 20 ∧ o ≠ 22) : a ≤ i + 1 ∧ i + 1 < b ∧ ∃ r : List tE, k (i + 1) = some r := by
  cases e9 : k (i + 1) with
  | some r =>
    refine ⟨by omega, ?_, r, rfl⟩
    rcases Nat.lt_or_ge (i + 1) b with q | q
    · exact q
    · rw [show i + 1 = b by omega, hkb] at e9; simp at e9
  | none =>
    exfalso
    have q := iOp_nx e9 o (ce_op hc hi hb hs ho h33)
    omega
/-- Moves' last pass -/
theorem mvW_of {n : Nat} {et em az : Nat → Int32} {h : Nat → mvT} (hc : ceI F X G rs a b k) (hn : n ≤ 40) (hab : a ≤ b) (hka : ∃ r : List tE, k a = some r) (htr : ∀ i : Nat, a ≤ i → i < b → mvR F n et em az i (h i) (h (i + 1))) (hrc : rcK F k a b (h a).2.2.1) (hag : (h b).2.2.2.2.1 = 0) (hfi : (h b).2.2.2.2.2 < 0) : mvW F X G rs a b k n et em az h := by
  have key : ∀ d i : Nat, i = a + d → i ≤ b → ((h i).2.2.2.1 ≠ 0 → ∃ s : List tE, k i = some s) ∧ rcK F k a b (h i).2.2.1 := fun d => by
    induction d with
    | zero =>
      intro i e _
      have e : i = a := e
      rw [e]; exact ⟨fun _ => hka, hrc⟩
    | succ d ih =>
      intro i e hib
      obtain ⟨q1, q2⟩ := ih (a + d) rfl (by omega)
      have hi : i = (a + d) + 1 := by omega
      rw [hi]
      exact fl_K hc (by omega) (by omega) (mvR_al hn (hc.1 (a + d) (by omega) (by omega)).1 (htr (a + d) (by omega) (by omega))).2.1 q1 q2
  exact ⟨hc, hn, htr, fun i h1 h2 => (key (i - a) i (by omega) (by omega)).1, hag, hfi⟩
/-- Loans' last pass -/
theorem lnW_of {C : lnC} {Q : lnQ} {h : Nat → lnT} (hc : ceI F X G rs a b k) (hv : ∀ (i : Nat) (s : List tE), a ≤ i → i < b → k i = some s → vl s ≤ 211) (hn : C.2.2.2.2.2 ≤ 40) (hab : a ≤ b) (hka : ∃ r : List tE, k a = some r) (htr : ∀ i : Nat, a ≤ i → i < b → lnR F C Q i (h i) (h (i + 1))) (hrc : rcK F k a b (h a).2.2.1) (hG : ∀ g : Nat, g < Q.2.2.2.2.2.1 → Q.2.2.2.2.2.2.1 g 3 = nI (G g 0) ∧ G g 0 ≤ 12) (h40 : Q.2.2.2.2.2.1 ≤ 40) (ht0 : lnN (h a) = 0) (hag : (h b).2.2.2.2.1 = 0) : lnW F X G rs a b k C Q h := by
  have key : ∀ d i : Nat, i = a + d → i ≤ b → ((h i).2.2.2.1 ≠ 0 → ∃ s : List tE, k i = some s) ∧ rcK F k a b (h i).2.2.1 := fun d => by
    induction d with
    | zero =>
      intro i e _
      have e : i = a := e
      rw [e]; exact ⟨fun _ => hka, hrc⟩
    | succ d ih =>
      intro i e hib
      obtain ⟨q1, q2⟩ := ih (a + d) rfl (by omega)
      have hi : i = (a + d) + 1 := by omega
      rw [hi]
      exact lnR_K hc hn (by omega) (by omega) (htr (a + d) (by omega) (by omega)) q1 q2
  exact ⟨hc, hv, hn, htr, fun i h1 h2 => (key (i - a) i (by omega) (by omega)).1, fun i h1 h2 => (key (i - a) i (by omega) (by omega)).2, hG, h40, ht0, hag⟩
/-- where Loans had nothing to look at -/
def N0 (F : tF) (k : Nat → Option (List tE)) (a b : Nat) : lK := (fun _ _ l => 54 ≤ l, fun _ u => F 20 (cN (F 15 u)) = 5 ∨ F 20 (cN (F 15 u)) = 6, fun i => a ≤ i ∧ i < b ∧ ∃ s : List tE, k i = some s)
def tb0 (F : tF) : lTb := (fun _ => 0, fun _ => [], fun _ => True, fun l => 54 ≤ l, fun w => F 20 (cN (F 15 w)) = 5 ∨ F 20 (cN (F 15 w)) = 6)
theorem lk0 {i j w : Nat} {E : Nat → Prop} (h : a ≤ j ∧ j < b ∧ ∃ s : List tE, k j = some s) : lkp (N0 F k a b) i j w E := ⟨h, fun _ _ _ _ q => q, fun _ _ _ q => q⟩
theorem lR_0 {i o : Nat} {s : List tE} {rl : Nat → Int32} {pl : Nat → Nat → Int32} {me : Int32} (hc : ceI F X G rs a b k) (hkb : k b = none) (hno : ∀ i : Nat, a ≤ i → i < b → F 0 i ≠ 4) (hrs : ¬ (F 20 rs = 5 ∨ F 20 rs = 6)) (hi : a ≤ i) (hb : i < b) (hs : k i = some s) (ho : F 0 i = nI o) (h33 : o < 33) : lRu F G (tb0 F) rl pl me k a b (N0 F k a b) i s o := by
  have nx := fun (q : o ≠ 15 ∧ o ≠ 16 ∧ o ≠ 20 ∧ o ≠ 22) => al_nx hc hkb hi hb hs ho h33 q
  have hce := ce_op hc hi hb hs ho h33
  have nC : ∀ (A2 : Nat → Prop) (v : Nat) (r : lLc) (rd : Prop) (H : Nat → Nat → Prop), (∀ u l : Nat, H u l → 54 ≤ l) → lCk (tb0 F) H A2 v r rd := fun A2 v r rd H hH u l _ h1 h2 => absurd (hH u l h1) h2
  refine ⟨fun q => lk0 (nx (by omega)), fun q => ⟨lk0 (nx (by omega)), fun l h => h⟩, fun q => lk0 (nx (by omega)), fun q n _ _ => lk0 (nx (by omega)), fun q => ⟨lk0 (nx (by omega)), fun p v _ _ _ _ => ⟨fun h => h, nC _ _ _ _ _ (fun _ _ h => h), fun _ l h => h⟩⟩, fun q => absurd (by rw [ho, q]; rfl) (hno i hi hb), fun q v _ _ => ⟨lk0 (nx (by omega)), fun l h => h⟩, fun q v _ _ => lk0 (nx (by omega)), fun q v _ _ => ⟨lk0 (nx (by omega)), fun l h => h, fun l h => h⟩, fun q p v _ _ _ _ => ⟨fun _ => ⟨lk0 (nx (by omega)), fun l h => h⟩, fun _ => ⟨nx (by omega), fun u l _ h => h, fun u _ _ h => h, fun _ h => h, nC _ _ _ _ _ (fun _ _ h => h)⟩⟩, fun q v0 v1 _ _ _ _ => ⟨lk0 (nx (by omega)), fun u l _ _ h1 h2 => absurd h1 h2⟩, fun q g _ _ => ⟨lk0 (nx (by omega)), fun _ q l _ _ h => h⟩, fun q _ => ⟨fun l h1 h2 => absurd h1 h2, fun hrf => ?_⟩, fun q j r _ hr h1 h2 _ _ => lk0 ⟨by omega, h2, r, hr⟩, fun q j h1 h2 h3 h4 => ?_, fun q j tc g r _ _ _ h1 h2 _ hr _ _ => ⟨lk0 ⟨by omega, h2, r, hr⟩, fun _ _ _ _ _ _ _ l h => h⟩, fun q l h => h⟩
  · subst q
    obtain ⟨T, O, e1, ⟨e2, -⟩, e3, -⟩ := hce
    rw [rf_eq e1 e3, e2] at hrf
    exact absurd hrf hrs
  · subst q
    obtain ⟨-, m, m1, m2, m3, m4, m5⟩ := hce
    have e := ce_one hc h1 (by omega) (Or.inr h3) m1 (by omega) (Or.inr m3) h4 m4
    exact lk0 ⟨h1, by omega, s, by rw [e]; exact m5⟩
end
