def mkp (L : Nat → Nat → lLc → Prop) (n i j : Nat) (E : Nat → Prop) : Prop := ∀ (v : Nat) (π : lLc), v < n → ¬ E v → L i v π → L j v π
def LMt (F : tF) (y : qY) (z : qZ) (vg : Nat → Nat) (h : Nat → mvT) (i v : Nat) (π : lLc) : Prop := LcF y z (vg v) (cS F (fun j => mvp (h j)) i v) π
/-- what Moves promises of an instruction -/
def mRu (F : tF) (y : qY) (z : qZ) (vg : Nat → Nat) (n : Nat) (k : Nat → Option (List tE)) (a b : Nat) (L : Nat → Nat → lLc → Prop) (Rc : Nat → Prop) (i o : Nat) : Prop :=
  ((o ≠ 15 ∧ o ≠ 16 ∧ o ≠ 20 ∧ o ≠ 22) → Rc (i + 1)) ∧
  ((o ≠ 15 ∧ o ≠ 16 ∧ o ≠ 20 ∧ o ≠ 22 ∧ o ≠ 3 ∧ o ≠ 24 ∧ o ≠ 25 ∧ o ≠ 26 ∧ o ≠ 29 ∧ o ≠ 30) → mkp L n i (i + 1) (fun _ => False)) ∧
  ((o = 2 ∨ o = 3 ∨ o = 4) → ∀ p v : Nat, F 1 i = nI p → p < 3001 → F 6 p = nI v → v < 40 → ∃ x : Int32, (∀ π : lLc, L i v π → LcF y z (vg v) x π) ∧ x &&& F 12 p = 0) ∧
  (o = 3 → ∀ p v : Nat, F 1 i = nI p → p < 3001 → F 6 p = nI v → v < n → mkp L n i (i + 1) (fun u => u = v) ∧ ∃ x x2 : Int32, (∀ π : lLc, L i v π → LcF y z (vg v) x π) ∧ (∀ π : lLc, LcF y z (vg v) x2 π → L (i + 1) v π) ∧ (∀ c : Nat, c < 16 → ibit x c = true → ibit x2 c = true) ∧ ∀ c : Nat, c < 16 → ibit (F 12 p) c = true → ibit x2 c = true) ∧
  ((o = 24 ∨ o = 25 ∨ o = 29 ∨ o = 30) → ∀ v : Nat, F 1 i = nI v → v < 40 → mkp L n i (i + 1) (fun u => u = v)) ∧
  (o = 25 → ∀ v : Nat, F 1 i = nI v → v < n → ∀ π : lLc, L (i + 1) v π) ∧
  (o = 26 → ∀ p v : Nat, F 1 i = nI p → p < 3001 → F 6 p = nI v → v < n → ((0 : Int32) < F 9 p &&& 15 → mkp L n i (i + 1) (fun _ => False) ∧ ∃ x : Int32, (∀ π : lLc, L i v π → LcF y z (vg v) x π) ∧ x &&& F 12 p = 0) ∧ (¬ (0 : Int32) < F 9 p &&& 15 → mkp L n i (i + 1) (fun u => u = v) ∧ ∃ x x2 : Int32, (∀ π : lLc, L i v π → LcF y z (vg v) x π) ∧ (∀ π : lLc, LcF y z (vg v) x2 π → L (i + 1) v π) ∧ ∀ c : Nat, c < 16 → ibit x c = true → ibit x2 c = true ∨ ibit (F 12 p) c = true)) ∧
  ((o = 16 ∨ o = 17 ∨ o = 18 ∨ o = 19) → ∀ j : Nat, i < j → j < b → F 0 j = 13 → F 1 j = F 1 i → Rc j ∧ mkp L n i j (fun _ => False)) ∧
  (o = 15 → ∀ j : Nat, a ≤ j → j ≤ i → F 0 j = 14 → F 1 j = F 1 i → Rc j ∧ mkp L n i j (fun _ => False)) ∧
  (o = 20 → ∀ j tc c g : Nat, F 1 i = nI tc → tc ≤ 3002 → F 3 i = nI c → c ≤ 12 → g < c → F 13 (tc + g) = F 1 j → i < j → j < b → F 0 j = 13 → Rc j ∧ mkp L n i j (fun _ => False))
theorem fuI_bit {az : Nat → Int32} {u m c : Nat} (h : az u = nI m) (hm : m ≤ 16) (hc : c < m) : ibit (fuI az u) c = true := by
  unfold fuI
  rw [h, show (1 : Int32) = nI 1 from rfl, nI_shl (by omega), Nat.one_mul]
  have p : 1 ≤ 2 ^ m := Nat.one_le_two_pow
  have e : nI (2 ^ m) - nI 1 = nI (2 ^ m - 1) := by
    obtain ⟨q, hq⟩ : ∃ q : Nat, 2 ^ m = q + 1 := ⟨2 ^ m - 1, by omega⟩
    rw [hq, Nat.add_sub_cancel, ← nI_add q 1]
    exact Int32.add_sub_cancel _ _
  rw [e, ibit_nI (by omega), Nat.testBit_two_pow_sub_one, decide_eq_true hc]
theorem ibit_m {x c1 : Int32} {c : Nat} (hc : c < 16) : ibit ((x ||| c1) &&& ((c1 <<< ((16 : Int32) &&& 31)) ^^^ -1)) c = (ibit x c || ibit c1 c) := by
  rw [ibit_and, ibit_or, ibit_not _ _ (by omega), ibit_shl c1 hc, Bool.not_false, Bool.and_true]
theorem ibit_as {x c1 : Int32} {c : Nat} (hc : c < 16) : ibit (asS x c1) c = (ibit x c && !ibit c1 c) := by
  unfold asS
  rw [ibit_or, ibit_and, ibit_not _ _ (by omega), ibit_shl c1 hc, Bool.or_false]
section
variable {F X : tF} {G : Nat → Nat → Nat} {rs a b n : Nat} {k : Nat → Option (List tE)} {et em az : Nat → Int32} {h : Nat → mvT} {i o : Nat} {s : List tE} {y : qY} {z : qZ} {vg : Nat → Nat}
theorem mR_tr (w : mvW F X G rs a b k n et em az h) (hkb : k b = none) (hz : qLy y z) (hz16 : ∀ t : Nat, z.1 t ≤ 16) (hvg : ∀ v : Nat, v < n → vg v = 0 ∨ (et v ≠ -1 ∧ az (cN (et v)) = nI (z.1 (vg v)))) (hi : a ≤ i) (hb : i < b) (hA : cA F (fun j => mvp (h j)) i) (hs : k i = some s) (ho : F 0 i = nI o) (h33 : o < 33) : mRu F y z vg n k a b (LMt F y z vg h) (fun j => a ≤ j ∧ j < b ∧ cA F (fun j => mvp (h j)) j) i o := by
  have hce := ce_op w.ce hi hb hs ho h33
  have n40 := w.n40
  have nxt : (o ≠ 15 ∧ o ≠ 16 ∧ o ≠ 20 ∧ o ≠ 22) → i + 1 < b ∧ cA F (fun j => mvp (h j)) (i + 1) ∧ ∀ v : Nat, v < n → iS ((h (i + 1)).1 v) (cS F (fun j => mvp (h j)) (i + 1) v) := fun hn => by
    have b1 : i + 1 < b := by
      cases e9 : k (i + 1) with
      | some r =>
        rcases Nat.lt_or_ge (i + 1) b with q | q
        · exact q
        · rw [show i + 1 = b by omega, hkb] at e9; simp at e9
      | none =>
        exfalso
        rcases iOp_nx e9 o hce with q | q | q | q
        · exact hn.1 q
        · exact hn.2.1 q
        · exact hn.2.2.1 q
        · exact hn.2.2.2 q
    obtain ⟨f1, f2⟩ := c_fall (le := iS) (h := fun j => mvp (h j)) iS_rf (mvW_p w) (ce_lb w.ce) hi b1 hA (fun _ => ⟨o, h33, ho, hn⟩)
    exact ⟨b1, f1, f2⟩
  have dat : (o ≠ 13 ∧ o ≠ 14) → mvLk F n et em az i (h i) (h (i + 1)) o ∧ mvO F i (h i).1 o ∧ cS F (fun j => mvp (h j)) i = (h i).1 ∧ ¬ isL (F 0 i) := fun q => by
    have hl := isL_o ho h33 q
    obtain ⟨m1, m2⟩ := mvW_O w hi hb hl hA ho h33
    exact ⟨m1, m2, cS_n (h := fun j => mvp (h j)) hl, hl⟩
  have up : ∀ (v : Nat) (x : Int32) (π : lLc), v < n → (o ≠ 15 ∧ o ≠ 16 ∧ o ≠ 20 ∧ o ≠ 22) → (h (i + 1)).1 v = x → LcF y z (vg v) x π → LMt F y z vg h (i + 1) v π := fun v x π hv hn ex hl => by
    obtain ⟨-, -, f2⟩ := nxt hn
    refine LcF_up (f2 v hv) ?_
    rw [ex]; exact hl
  have kp : (o ≠ 15 ∧ o ≠ 16 ∧ o ≠ 20 ∧ o ≠ 22) → (o ≠ 13 ∧ o ≠ 14) → ∀ E : Nat → Prop, (∀ v : Nat, v < n → ¬ E v → (h (i + 1)).1 v = (h i).1 v) → mkp (LMt F y z vg h) n i (i + 1) E := fun hn h1 E hE v π hv hne hl => by
    obtain ⟨-, -, d3, -⟩ := dat h1
    refine up v _ π hv hn (hE v hv hne) ?_
    unfold LMt at hl
    rw [d3] at hl
    exact hl
  have hus : ∀ p v : Nat, F 1 i = nI p → p < 3001 → F 6 p = nI v → v < 40 → (o = 2 ∨ o = 3 ∨ o = 4 ∨ (o = 26 ∧ (0 : Int32) < F 9 p &&& 15)) → ∃ x : Int32, (∀ π : lLc, LMt F y z vg h i v π → LcF y z (vg v) x π) ∧ x &&& F 12 p = 0 := fun p v h1 hp h6 hv ho9 => by
    obtain ⟨-, d2, d3, -⟩ := dat (by omega)
    refine ⟨(h i).1 v, fun π hl => ?_, d2 p v h1 hp h6 hv ho9⟩
    unfold LMt at hl
    rw [d3] at hl
    exact hl
  refine ⟨fun hn => ?_, fun hn => ?_, fun q p v h1 hp h6 hv => hus p v h1 hp h6 hv (by omega), ?_, fun q v h1 hv => ?_, ?_, ?_, fun q j hij hjb h13 hjL => ?_, ?_, ?_⟩
  · obtain ⟨q1, q2, -⟩ := nxt hn
    exact ⟨by omega, q1, q2⟩
  · by_cases hl : o = 13 ∨ o = 14
    · intro v π hv _ hl9
      have hil : isL (F 0 i) := by
        rw [ho]; rcases hl with rfl | rfl
        · exact Or.inl rfl
        · exact Or.inr rfl
      unfold LMt at hl9
      rw [cS_l (h := fun j => mvp (h j)) hil] at hl9
      exact up v _ π hv (by omega) rfl hl9
    · refine kp (by omega) (by omega) _ (fun v hv _ => ?_)
      obtain ⟨d1, -⟩ := dat (by omega)
      by_cases c2 : o = 2
      · subst c2
        obtain ⟨p, v9, -, -, -, e⟩ := d1
        rw [e]; rfl
      · by_cases c4 : o = 4
        · subst c4
          obtain ⟨p, v9, -, -, -, e⟩ := d1
          rw [e]; rfl
        · by_cases c17 : o = 17 ∨ o = 18 ∨ o = 19
          · rcases c17 with rfl | rfl | rfl
            · obtain ⟨L, rv, -, -, e⟩ := d1
              rw [e.1]
            · obtain ⟨L, rv, -, -, e⟩ := d1
              rw [e.1]
            · obtain ⟨L, rv, -, -, e⟩ := d1
              rw [e.1]
          · have e : h (i + 1) = h i := by
              rcases (show o = 0 ∨ o = 1 ∨ o = 5 ∨ o = 6 ∨ o = 7 ∨ o = 8 ∨ o = 9 ∨ o = 10 ∨ o = 11 ∨ o = 12 ∨ o = 21 ∨ o = 23 ∨ o = 27 ∨ o = 28 ∨ o = 31 ∨ o = 32 by omega) with rfl | rfl | rfl | rfl | rfl | rfl | rfl | rfl | rfl | rfl | rfl | rfl | rfl | rfl | rfl | rfl <;> exact d1
            rw [e]
  · rintro rfl p v h1 hp h6 hv
    obtain ⟨d1, d2, d3, -⟩ := dat (by decide)
    obtain ⟨p9, v9, ⟨g1, g2⟩, g3, g4, e⟩ := d1
    obtain rfl : p = p9 := (nI_eq (by omega) (by omega)).mp (h1.symm.trans g1)
    obtain rfl : v = v9 := (nI_eq (by omega) (by omega)).mp (h6.symm.trans g3)
    refine ⟨kp (by decide) (by decide) _ (fun u hu hne => by rw [e]; exact pk_un hne), (h i).1 v, ((h i).1 v ||| F 12 p) &&& ((F 12 p <<< ((16 : Int32) &&& 31)) ^^^ -1), fun π hl => ?_, fun π hl => ?_, fun c hc hb9 => ?_, fun c hc hb9 => ?_⟩
    · unfold LMt at hl
      rw [d3] at hl
      exact hl
    · refine up v _ π hv (by decide) ?_ hl
      rw [e]; exact pk_us
    · rw [ibit_m hc, hb9]; rfl
    · rw [ibit_m hc, hb9, Bool.or_true]
  · refine kp (by omega) (by omega) _ (fun u hu hne => ?_)
    obtain ⟨d1, -⟩ := dat (by omega)
    rcases q with rfl | rfl | rfl | rfl
    · obtain ⟨v9, g1, g2, e⟩ := d1
      obtain rfl : v = v9 := (nI_eq (by omega) (by omega)).mp (h1.symm.trans g1)
      rw [e]; exact pk_un hne
    · obtain ⟨v9, g1, g2, e⟩ := d1
      obtain rfl : v = v9 := (nI_eq (by omega) (by omega)).mp (h1.symm.trans g1)
      rw [e]; exact pk_un hne
    · obtain ⟨v9, g1, g2, e⟩ := d1
      obtain rfl : v = v9 := (nI_eq (by omega) (by omega)).mp (h1.symm.trans g1)
      rw [e]; exact pk_un hne
    · obtain ⟨v9, g1, g2, e⟩ := d1
      obtain rfl : v = v9 := (nI_eq (by omega) (by omega)).mp (h1.symm.trans g1)
      rw [e]; exact pk_un hne
  · rintro rfl v h1 hv π
    obtain ⟨d1, -⟩ := dat (by decide)
    obtain ⟨v9, g1, g2, e⟩ := d1
    obtain rfl : v = v9 := (nI_eq (by omega) (by omega)).mp (h1.symm.trans g1)
    refine up v (fuV et az v) π hv (by decide) (by rw [e]; exact pk_us) (no_lo hz (hz16 _) ?_ π)
    rcases hvg v hv with q | ⟨q1, q2⟩
    · exact Or.inl q
    · right
      intro c hc
      unfold fuV
      rw [if_neg q1]
      exact fuI_bit q2 (hz16 _) hc
  · rintro rfl p v h1 hp h6 hv
    obtain ⟨d1, d2, d3, -⟩ := dat (by decide)
    obtain ⟨p9, v9, ⟨g1, g2⟩, g3, g4, e⟩ := d1
    obtain rfl : p = p9 := (nI_eq (by omega) (by omega)).mp (h1.symm.trans g1)
    obtain rfl : v = v9 := (nI_eq (by omega) (by omega)).mp (h6.symm.trans g3)
    constructor
    · intro hst
      have e : h (i + 1) = mvSt (h i) (h i).1 (mvUs F p v (h i)) := by
        rcases e with ⟨-, e⟩ | ⟨q, -⟩
        · exact e
        · exact absurd hst q
      exact ⟨kp (by decide) (by decide) _ (fun u hu _ => by rw [e]; rfl), hus p v h1 hp h6 g4 (Or.inr (Or.inr (Or.inr ⟨rfl, hst⟩)))⟩
    · intro hst
      have e : (h (i + 1)).1 = upd (h i).1 v (asS ((h i).1 v) (F 12 p)) := by
        rcases e with ⟨q, -⟩ | ⟨-, e⟩
        · exact absurd q hst
        · rw [e]; rfl
      refine ⟨kp (by decide) (by decide) _ (fun u hu hne => by rw [e]; exact pk_un hne), (h i).1 v, asS ((h i).1 v) (F 12 p), fun π hl => ?_, fun π hl => ?_, fun c hc hb9 => ?_⟩
      · unfold LMt at hl
        rw [d3] at hl
        exact hl
      · refine up v _ π hv (by decide) ?_ hl
        rw [e]; exact pk_us
      · rw [ibit_as hc, hb9, Bool.true_and]
        cases ibit (F 12 p) c with
        | true => exact Or.inr rfl
        | false => exact Or.inl rfl
  · obtain ⟨L, hL1, hL2⟩ := ce_lb w.ce j (by omega) hjb (Or.inl h13)
    have htg : tgt F i L := Or.inl ⟨by rw [ho]; rcases q with rfl | rfl | rfl | rfl; exact Or.inl rfl; exact Or.inr (Or.inl rfl); exact Or.inr (Or.inr (Or.inl rfl)); exact Or.inr (Or.inr (Or.inr rfl)), hjL.symm.trans hL2⟩
    obtain ⟨j1, j2⟩ := c_jump (le := iS) (h := fun j => mvp (h j)) iS_rf iS_tr (mvW_p w) hi hij hjb hA (isL_o ho h33 (by omega)) hL1 htg (Or.inl h13) hL2
    exact ⟨⟨by omega, hjb, j1⟩, fun v π hv _ hl => LcF_up (j2 v hv) hl⟩
  · rintro rfl j haj hji h14 hjL
    obtain ⟨L, hL1, hL2⟩ := ce_lb w.ce j haj (by omega) (Or.inr h14)
    obtain ⟨j1, j2⟩ := c_loop (le := iS) (h := fun j => mvp (h j)) iS_rf iS_tr (mvW_p w) w.ag (ce_lb w.ce) (fun m m1 m2 _ m4 => by
      obtain ⟨sm, hsm⟩ := w.al m m1 m2 m4
      exact ce_ntg w.ce m1 m2 hsm haj (by omega) h14 hL2) haj hji hb hA ho hL1 (hjL.symm.trans hL2) (Or.inr h14) hL2
    exact ⟨⟨haj, by omega, j1⟩, fun v π hv _ hl => LcF_up (j2 v hv) hl⟩
  · rintro rfl j tc c g h1 htc h3 hc hg h13' hij hjb h13
    obtain ⟨L, hL1, hL2⟩ := ce_lb w.ce j (by omega) hjb (Or.inl h13)
    have htg : tgt F i L := Or.inr ⟨ho, tc, c, g, h1, h3, htc, hc, hg, h13'.trans hL2⟩
    obtain ⟨j1, j2⟩ := c_jump (le := iS) (h := fun j => mvp (h j)) iS_rf iS_tr (mvW_p w) hi hij hjb hA (isL_o ho h33 (by decide)) hL1 htg (Or.inl h13) hL2
    exact ⟨⟨by omega, hjb, j1⟩, fun v π hv _ hl => LcF_up (j2 v hv) hl⟩
end
