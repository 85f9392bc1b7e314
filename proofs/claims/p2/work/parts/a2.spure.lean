theorem gOK_hz {tt st mn : Nat} {s s' : gS} {R : gP} (h : gOK tt st mn s s' R) (hz : s.2.1 = 0 → ∀ j : Nat, s.1 ≤ j → j < tt → s.2.2.2.2 j = 0) : s'.2.1 = 0 → ∀ j : Nat, s'.1 ≤ j → j < tt → s'.2.2.2.2 j = 0 := fun hf j h1 h2 => by
  rcases h with ⟨c1, c2, c3, c4, c5, b1, v1, g1, w1, k1⟩ | q
  · rw [c5 j (Or.inr h1)]; exact hz c1 j (by omega) h2
  · exact absurd hf q.1
theorem gOK_as0 {tt mn : Nat} {s s' : gS} {R : gP} (h : gOK tt 1 mn s s' R) (hm : 1 ≤ mn) (hz : s.2.1 = 0 → ∀ j : Nat, s.1 ≤ j → j < tt → s.2.2.2.2 j = 0) : gOK tt 0 mn s s' (fun lF p q b v => R lF p q b v ∧ lF p = 0) := by
  rcases h with ⟨c1, c2, c3, c4, c5, b1, v1, g1, w1, k1⟩ | q
  · exact Or.inl ⟨c1, c2, c3, c4, fun j hj => c5 j (by omega), b1, v1, g1, w1, fun lF hF => ⟨k1 lF (fun j ha hb => hF j (by omega) hb), by rw [hF s.1 (by omega) (by omega), c5 s.1 (Or.inl (by omega))]; exact hz c1 s.1 (Nat.le_refl _) (by omega)⟩⟩
  · exact Or.inr q
/-- what stands at s was told where it ends, behind it stands R2 -/
theorem gOK_asg {tt m1 st2 m2 n1 : Nat} {f1 bo1 va1 x : Int32} {l1 l2 : Nat → Int32} {s s3 : gS} {R1 R2 : gP} (h1 : gOK tt 1 m1 s (n1, f1, bo1, va1, l1) R1) (h2 : gOK tt st2 m2 (n1, f1, bo1, va1, l2) s3 R2) (hl : l2 = upd l1 s.1 x) (hm : 1 ≤ m1) : gOK tt 0 (m1 + m2) s s3 (fun lF p q b v => lF p = x ∧ gq R1 R2 lF p q b v) := by
  rcases h2 with ⟨e1, e2, e3, e4, e5, b2, v2, g2, w2, k2⟩ | q
  · rcases h1 with ⟨c1, c2, c3, c4, c5, b1, v1, g1, w1, k1⟩ | ⟨q1, q2⟩
    · dsimp only at *
      refine Or.inl ⟨c1, e2, by omega, e4, fun j hj => ?_, b1 + b2, v1 + v2, gup_tr g1 g2, gup_tr w1 w2, fun lF hF => ⟨?_, n1, b1, v1, b2, v2, k1 lF (fun j ha hb => ?_), k2 lF (fun j ha hb => ?_), rfl, rfl⟩⟩
      · rw [e5 j (by omega), hl, pk_un (by omega), c5 j (by omega)]
      · rw [hF s.1 (by omega) (by omega), e5 s.1 (Or.inl (by omega)), hl, pk_us]
      · rw [hF j (by omega) (by omega), e5 j (Or.inl (by omega)), hl, pk_un (by omega)]
      · exact hF j (by omega) hb
    · exact absurd e1 q1
  · exact Or.inr q
/-- perhaps a token -/
def gOpt (fk : Nat → Int32) (c : Int32) : gP := fun _ p q b v => ((q = p + 1 ∧ fk p = c) ∨ (q = p ∧ fk p ≠ c)) ∧ b = 0 ∧ v = 0
/-- perhaps a token with R behind it -/
def gOptR (fk : Nat → Int32) (c : Int32) (R : gP) : gP := fun lF p q b v => gq (gTok fk c) R lF p q b v ∨ (fk p ≠ c ∧ gNil lF p q b v)
def gVar (fk : Nat → Int32) : gP := fun _ p q b v => q = p + 1 ∧ fk p = 2 ∧ b = 0 ∧ v = 1
def gTy (fk : Nat → Int32) (d : Nat) : gP := fun _ p q b v => (∃ n r : Nat, tyX fk n p r ∧ d + n ≤ 16 ∧ plainK (fk r) ∧ q = r + 1) ∧ b = 0 ∧ v = 0
def seqP (R : gP) : Nat → gP
  | 0 => gNil
  | n + 1 => gq (seqP R n) R
def gAny (E : Int32 → gP) : gP := fun lF p q b v => ∃ ip : Int32, E ip lF p q b v
def sLet (fk : Nat → Int32) (d : Nat) (E : Int32 → gP) : gP := gq (gq (gq (gq (gq (gTok fk 8) (gOpt fk 9)) (gVar fk)) (gOptR fk 58 (gTy fk d))) (gOptR fk 61 (gAny E))) (gTok fk 59)
def sAsg (fk : Nat → Int32) (E : Int32 → gP) : gP := fun lF p q b v => (∃ r : Nat, lF p = nI r ∧ p < r ∧ r < 3001 ∧ gq (fun lF p q b v => q = r ∧ E 1 lF p q b v) (gq (gq (gTok fk 61) (gAny E)) (gTok fk 59)) lF p q b v) ∨ (lF p = 0 ∧ gq (gAny E) (gTok fk 59) lF p q b v)
def sArmI (fk : Nat → Int32) (E : Int32 → gP) (B : gP) : gP := gq (gq (gTok fk 10) (gAny E)) B
def sEls (fk : Nat → Int32) (B : gP) : gP := fun lF p q b v => (fk p ≠ 11 ∧ gNil lF p q b v) ∨ gq (gTok fk 11) (fun lF p q b v => fk p ≠ 10 ∧ B lF p q b v) lF p q b v
def sIf (fk : Nat → Int32) (E : Int32 → gP) (B : gP) : gP := fun lF p q b v => ∃ n : Nat, gq (seqP (gq (sArmI fk E B) (gTok fk 11)) n) (gq (sArmI fk E B) (sEls fk B)) lF p q b v
def sMx (fk : Nat → Int32) (E : Int32 → gP) : gP := fun lF p q b v => gq (gAmp fk) (E 1) lF p q b v ∨ (fk p ≠ 38 ∧ gAny E lF p q b v)
/-- n variables with commas -/
def gVars (fk : Nat → Int32) (n : Nat) : gP := fun _ p q b v => 0 < n ∧ q + 1 = p + 2 * n ∧ b = 0 ∧ v = n ∧ n ≤ 12 ∧ (∀ i : Nat, i < n → fk (p + 2 * i) = 2) ∧ ∀ i : Nat, i + 1 < n → fk (p + 2 * i + 1) = 44
def sBind (fk : Nat → Int32) : gP := fun lF p q b v => (fk p ≠ 40 ∧ gNil lF p q b v) ∨ ∃ n : Nat, lF p = nI n ∧ gq (gq (gTok fk 40) (gVars fk n)) (gTok fk 41) lF p q b v
def sArm (fk : Nat → Int32) (NB : gP) : gP := gq (gq (gq (gTok fk 2) (sBind fk)) (gTok fk 136)) NB
def sMatch (fk : Nat → Int32) (E : Int32 → gP) (NB : gP) : gP := fun lF p q b v => ∃ n : Nat, gq (gq (gq (gq (gTok fk 13) (sMx fk E)) (gTok fk 123)) (seqP (sArm fk NB) n)) (gTok fk 125) lF p q b v
def sRet (fk : Nat → Int32) (E : Int32 → gP) : gP := gq (gq (gTok fk 14) (fun lF p q b v => (fk p = 59 ∧ gNil lF p q b v) ∨ (fk p ≠ 59 ∧ gAny E lF p q b v))) (gTok fk 59)
def stmF (fk : Nat → Int32) (d : Nat) (E : Int32 → gP) (B NB : gP) : gP := fun lF p q b v =>
  (fk p = 8 ∧ sLet fk d E lF p q b v) ∨ (fk p = 10 ∧ sIf fk E B lF p q b v) ∨ (fk p = 13 ∧ sMatch fk E NB lF p q b v) ∨ (fk p = 123 ∧ B lF p q b v) ∨ (fk p = 12 ∧ gq (gq (gTok fk 12) (gAny E)) B lF p q b v) ∨ (fk p = 14 ∧ sRet fk E lF p q b v) ∨ (fk p = 15 ∧ gq (gq (gTok fk 15) (gAny E)) (gTok fk 59) lF p q b v) ∨ ((fk p ≠ 8 ∧ fk p ≠ 10 ∧ fk p ≠ 13 ∧ fk p ≠ 123 ∧ fk p ≠ 12 ∧ fk p ≠ 14 ∧ fk p ≠ 15) ∧ sAsg fk E lF p q b v)
/-- statements of a block -/
def sSt (fk : Nat → Int32) (S : gP) : gP := fun lF p q b v => fk p ≠ 125 ∧ S lF p q b v
def blkF (fk : Nat → Int32) (S : gP) : gP := fun lF p q b v => ∃ n : Nat, gq (gq (gTok fk 123) (seqP (sSt fk S) n)) (gTok fk 125) lF p q b v
def gNo : gP := fun _ _ _ _ _ => False
/-- a statement and a block, k levels below the deepest -/
def gSB (fk : Nat → Int32) : Nat → gP × gP
  | 0 => (stmF fk 16 (gEx fk 0 1) gNo gNo, gNo)
  | k + 1 => (stmF fk (15 - k) (gEx fk (k + 1) 1) (blkF fk (gSB fk k).1) (gSB fk k).2, blkF fk (gSB fk k).1)
def gStm (fk : Nat → Int32) (k : Nat) : gP := (gSB fk k).1
def gBlk (fk : Nat → Int32) (k : Nat) : gP := (gSB fk k).2
def gNB (fk : Nat → Int32) : Nat → gP
  | 0 => gNo
  | k + 1 => gBlk fk k
theorem gStm_eq (fk : Nat → Int32) {k d : Nat} (hd : d + k = 16) : gStm fk k = stmF fk d (gEx fk k 1) (gBlk fk k) (gNB fk k) := by
  cases k with
  | zero => obtain rfl : d = 16 := (by omega); rfl
  | succ k => obtain rfl : d = 15 - k := (by omega); rfl
theorem gBlk_s (fk : Nat → Int32) {k k1 : Nat} (h : k = k1 + 1) : gBlk fk k = blkF fk (gStm fk k1) := by subst h; rfl
theorem gNB_s (fk : Nat → Int32) {k k1 : Nat} (h : k = k1 + 1) : gNB fk k = gBlk fk k1 := by subst h; rfl
theorem gOK_gty {tt d nw nw2 : Nat} {ft ft2 pl pl2 gbo gva : Int32} {fl fk : Nat → Int32} (h : tyE fk d nw tt nw2 ft ft2 pl pl2) (hfl : ft ≠ 0 → nw = tt - 1) (hk0 : fk (tt - 1) = 0) : gOK tt 1 1 (nw, ft, gbo, gva, fl) (nw2, ft2, gbo, gva, fl) (gTy fk d) := by
  rcases h with ⟨h1, h2, h3, k, r, h4, h5, h6, h7⟩ | ⟨h1, h2⟩
  · have hle : ∀ n p q : Nat, tyX fk n p q → p ≤ q := by
      intro n
      induction n with
      | zero => intro p q hq; exact Nat.le_of_eq hq.symm
      | succ n ih =>
        intro p q hq
        obtain ⟨r, q1, q2⟩ := hq
        have := ih p r q1
        rcases q2 with ⟨-, q2⟩ | ⟨-, q2⟩
        · omega
        · have h2 : r < ampR fk r := by unfold ampR; split <;> split <;> omega
          omega
    have hp := hle k nw r h4
    have hf : ft = 0 := ft_0 (nw := nw) (tt := tt) (by omega) hfl
    exact Or.inl ⟨hf, h1.trans hf, by show nw + 1 ≤ nw2; omega, h3, fun _ _ => rfl, 0, 0, gup_0, gup_0, fun _ _ => ⟨⟨k, r, h4, h5, h6, h7⟩, rfl, rfl⟩⟩
  · exact Or.inr ⟨h1, h2⟩
theorem gOK_var {tt nw nw2 : Nat} {ft ft2 pl pl2 gbo gva ah : Int32} {fl fk : Nat → Int32} (h : (nw2 = nw + 1 ∧ nw2 < tt ∧ fk nw = 2 ∧ ah ≠ 12 ∧ gva ≠ 40 ∧ ft2 = ft ∧ pl2 = pl) ∨ (ft2 ≠ 0 ∧ nw2 = tt - 1)) (hfl : ft ≠ 0 → nw = tt - 1) : gOK tt 1 1 (nw, ft, gbo, gva, fl) (nw2, ft2, gbo, gva + 1, fl) (fun lF p q b v => gVar fk lF p q b v ∧ ah ≠ 12) := by
  rcases h with ⟨h1, h2, h3, h4, h5, h6, h7⟩ | ⟨h1, h2⟩
  · have hf : ft = 0 := ft_0 (nw := nw) (tt := tt) (by omega) hfl
    exact Or.inl ⟨hf, h6.trans hf, by show nw + 1 ≤ nw2; omega, h2, fun _ _ => rfl, 0, 1, gup_0, gup_1 (by decide) h5, fun _ _ => ⟨⟨h1, h3, rfl, rfl⟩, h4⟩⟩
  · exact Or.inr ⟨h1, h2⟩
theorem gOK_opt {tt nw nw2 : Nat} {ft gbo gva wd : Int32} {fl fk : Nat → Int32} (hn : nw < tt) (h : (nw2 = nw + 1 ∧ nw2 < tt ∧ fk nw = wd) ∨ (nw2 = nw ∧ fk nw ≠ wd)) (hfl : ft ≠ 0 → nw = tt - 1) : gOK tt 1 0 (nw, ft, gbo, gva, fl) (nw2, ft, gbo, gva, fl) (gOpt fk wd) := by
  rcases h with ⟨h1, h2, h3⟩ | ⟨h1, h2⟩
  · have hf : ft = 0 := ft_0 (nw := nw) (tt := tt) (by omega) hfl
    exact Or.inl ⟨hf, hf, by show nw + 0 ≤ nw2; omega, h2, fun _ _ => rfl, 0, 0, gup_0, gup_0, fun _ _ => ⟨Or.inl ⟨h1, h3⟩, rfl, rfl⟩⟩
  · subst h1
    rcases Classical.em (ft = 0) with hf | hf
    · exact Or.inl ⟨hf, hf, by show nw2 + 0 ≤ nw2; omega, hn, fun _ _ => rfl, 0, 0, gup_0, gup_0, fun _ _ => ⟨Or.inr ⟨rfl, h2⟩, rfl, rfl⟩⟩
    · exact Or.inr ⟨hf, hfl hf⟩
theorem r_seq0 {R : gP} {lF : Nat → Int32} {p q b v : Nat} (h : gNil lF p q b v) : seqP R 0 lF p q b v := h
theorem r_vars1 {fk lF : Nat → Int32} {p q b v : Nat} (h : gVar fk lF p q b v) : gVars fk 1 lF p q b v := by
  obtain ⟨rfl, h2, rfl, rfl⟩ := h
  refine ⟨by omega, by omega, rfl, rfl, by omega, fun i hi => ?_, fun i hi => absurd hi (by omega)⟩
  obtain rfl : i = 0 := by omega
  exact h2
theorem r_varsS {fk lF : Nat → Int32} {p q b v n : Nat} (hn : n < 12) (h : gq (gq (gVars fk n) (gTok fk 44)) (gVar fk) lF p q b v) : gVars fk (n + 1) lF p q b v := by
  obtain ⟨r, b1, v1, b2, v2, ⟨r1, b3, v3, b4, v4, ⟨y1, y2, y3, y4, y5, y6, y7⟩, ⟨z1, z2, z3, z4⟩, z5, z6⟩, ⟨w1, w2, w3, w4⟩, w5, w6⟩ := h
  refine ⟨by omega, by omega, by omega, by omega, by omega, fun i hi => ?_, fun i hi => ?_⟩
  · rcases Nat.lt_or_ge i n with z | z
    · exact y6 i z
    · rw [show p + 2 * i = r by omega]; exact w2
  · rcases Nat.lt_or_ge (i + 1) n with z | z
    · exact y7 i z
    · rw [show p + 2 * i + 1 = r1 by omega]; exact z2
theorem gq_as {A B C : gP} {lF : Nat → Int32} {p q b v : Nat} (h : gq (gq A B) C lF p q b v) : gq A (gq B C) lF p q b v := by
  obtain ⟨r, b1, v1, b2, v2, ⟨r1, b3, v3, b4, v4, x1, x2, x3, x4⟩, x5, x6, x7⟩ := h
  exact ⟨r1, b3, v3, b4 + b2, v4 + v2, x1, ⟨r, b4, v4, b2, v2, x2, x5, rfl, rfl⟩, by omega, by omega⟩
theorem gq_m {A B A' B' : gP} {lF : Nat → Int32} {p q b v : Nat} (h : gq A B lF p q b v) (hA : ∀ p q b v, A lF p q b v → A' lF p q b v) (hB : ∀ p q b v, B lF p q b v → B' lF p q b v) : gq A' B' lF p q b v := by
  obtain ⟨r, b1, v1, b2, v2, x1, x2, x3, x4⟩ := h
  exact ⟨r, b1, v1, b2, v2, hA _ _ _ _ x1, hB _ _ _ _ x2, x3, x4⟩
theorem gOK_at {tt st mn : Nat} {s s' : gS} {R : gP} {fk : Nat → Int32} {X : Int32 → Prop} (h : gOK tt st mn s s' R) (hx : X (fk s.1)) : gOK tt st mn s s' (fun lF p q b v => X (fk p) ∧ R lF p q b v) := by
  rcases h with ⟨c1, c2, c3, c4, c5, b1, v1, g1, w1, k1⟩ | q
  · exact Or.inl ⟨c1, c2, c3, c4, c5, b1, v1, g1, w1, fun lF hF => ⟨hx, k1 lF hF⟩⟩
  · exact Or.inr q
theorem gOK_q {tt st mn : Nat} {s s' : gS} {R : gP} (h : gOK tt st mn s s' R) : gOK tt st mn s s' (fun lF p q b v => q = s'.1 ∧ p + mn ≤ q ∧ q < tt ∧ R lF p q b v) := by
  rcases h with ⟨c1, c2, c3, c4, c5, b1, v1, g1, w1, k1⟩ | q
  · exact Or.inl ⟨c1, c2, c3, c4, c5, b1, v1, g1, w1, fun lF hF => ⟨rfl, c3, c4, k1 lF hF⟩⟩
  · exact Or.inr q
theorem gOK_noR {tt nw : Nat} {ft gbo gva c : Int32} {fl fk : Nat → Int32} {R : gP} (ht : nw < tt) (hfl : ft ≠ 0 → nw = tt - 1) (h : fk nw ≠ c) : gOK tt 1 0 (nw, ft, gbo, gva, fl) (nw, ft, gbo, gva, fl) (gOptR fk c R) :=
  gOK_mono (gOK_at (fk := fk) (X := fun z => z ≠ c) (gOK_nil (gbo := gbo) (gva := gva) (fl := fl) ht hfl) h) (fun _ _ _ _ _ _ _ hz => Or.inr hz) (by omega) (by omega)
theorem gOK_amp2 {tt nw n n2 u : Nat} {ft gbo gva f pl p9 r : Int32} {fl fk : Nat → Int32} (h1 : (gbo ≠ 54 ∧ n = nw ∧ f = ft ∧ p9 = pl) ∨ (f ≠ 0 ∧ n = tt - 1)) (h2 : cuT n 1 tt n2) (h3 : (r = 1 ∧ u = n2 + 1 ∧ u < tt ∧ fk n2 = 9 ∧ (9 : Int32) ≠ 0) ∨ (r = 0 ∧ u = n2 ∧ (fk n2 ≠ 9 ∨ (9 : Int32) = 0))) (hk : fk nw = 38) (hn : nw + 1 < tt) (hk0 : fk (tt - 1) = 0) (hfl : ft ≠ 0 → nw = tt - 1) : gOK tt 1 1 (nw, ft, gbo, gva, fl) (u, f, gbo + 1, gva, fl) (gAmp fk) := by
  obtain ⟨c1, c2, c3, c4⟩ := h2
  rcases h1 with ⟨a1, a2, a3, a4⟩ | ⟨a1, a2⟩
  · have e2 : n2 = nw + 1 := by rw [a2] at c3; exact c3 hn
    rw [e2] at h3
    have hu : u < tt := h3.elim (fun q => q.2.2.1) (fun q => by rw [q.2.1]; exact hn)
    exact gOK_amp a1 hk hn hu (h3.elim (fun q => Or.inl ⟨q.2.1, q.2.2.2.1⟩) (fun q => Or.inr ⟨q.2.1, q.2.2.elim id (fun z => absurd z (by decide))⟩)) hfl a3
  · have e2 : n2 = tt - 1 := c4 (by omega)
    rw [e2] at h3
    have hu : u = tt - 1 := h3.elim (fun q => absurd (hk0.symm.trans q.2.2.2.1) (by decide)) (fun q => q.2.1)
    exact Or.inr ⟨a1, hu⟩
theorem r_blkS {fk : Nat → Int32} {S : gP} {i : Nat} {lF : Nat → Int32} {p q b v : Nat} (h : gq (gq (gTok fk 123) (seqP (sSt fk S) i)) (fun lF p q b v => fk p ≠ 125 ∧ S lF p q b v) lF p q b v) : gq (gTok fk 123) (seqP (sSt fk S) (i + 1)) lF p q b v := gq_as h
theorem r_asg1 {fk : Nat → Int32} {E : Int32 → gP} {n1 : Nat} {lF : Nat → Int32} {p q b v tt : Nat} (ht : tt ≤ 3001) (h : lF p = nI n1 ∧ gq (fun lF p q b v => q = n1 ∧ p + 1 ≤ q ∧ q < tt ∧ E 1 lF p q b v) (gq (gq (gTok fk 61) (gAny E)) (gTok fk 59)) lF p q b v) : sAsg fk E lF p q b v := by
  obtain ⟨h1, r, b1, v1, b2, v2, ⟨h2, h3, h4, h5⟩, h6, h7, h8⟩ := h
  subst h2
  exact Or.inl ⟨r, h1, by omega, by omega, r, b1, v1, b2, v2, ⟨rfl, h5⟩, h6, h7, h8⟩
/-- the if so far -/
def sIfI (fk : Nat → Int32) (E : Int32 → gP) (B : gP) (i : Nat) (mo : Int32) : gP := fun lF p q b v => (mo = 1 ∧ seqP (gq (sArmI fk E B) (gTok fk 11)) i lF p q b v) ∨ (mo = 0 ∧ sIf fk E B lF p q b v)
/-- what binds in an arm, so far -/
def sBiI (fk : Nat → Int32) (i : Nat) : gP := fun lF p q b v => (i = 0 ∧ gTok fk 40 lF p q b v) ∨ gq (gTok fk 40) (gVars fk i) lF p q b v
theorem r_bi0 {fk lF : Nat → Int32} {p q b v : Nat} {i : Nat} {ah : Int32} (hi : i = 0) (h : gq (sBiI fk i) (fun lF p q b v => gVar fk lF p q b v ∧ ah ≠ 12) lF p q b v) : sBiI fk (i + 1) lF p q b v := by
  subst hi
  obtain ⟨r, b1, v1, b2, v2, x1, x2, x3, x4⟩ := h
  rcases x1 with ⟨-, x1⟩ | ⟨r0, b3, v3, b4, v4, -, ⟨y, -⟩, -⟩
  · exact Or.inr ⟨r, b1, v1, b2, v2, x1, r_vars1 x2.1, x3, x4⟩
  · exact absurd y (by omega)
theorem r_biS {fk lF : Nat → Int32} {p q b v : Nat} {i : Nat} (hi : i ≠ 0) (h : gq (gq (sBiI fk i) (gTok fk 44)) (fun lF p q b v => gVar fk lF p q b v ∧ nI i ≠ 12) lF p q b v) : sBiI fk (i + 1) lF p q b v := by
  obtain ⟨r, b1, v1, b2, v2, ⟨r1, b3, v3, b4, v4, x1, x2, x3, x4⟩, ⟨x5, x6⟩, x7, x8⟩ := h
  rcases x1 with ⟨z, -⟩ | ⟨r0, b5, v5, b6, v6, y1, y2, y3, y4⟩
  · exact absurd z hi
  · have h12 : i < 12 := by
      have := y2.2.2.2.2.1
      have : i ≠ 12 := fun z => x6 (by rw [z]; rfl)
      omega
    exact Or.inr ⟨r0, b5, v5, b6 + b4 + b2, v6 + v4 + v2, y1, r_varsS h12 ⟨r, b6 + b4, v6 + v4, b2, v2, ⟨r1, b6, v6, b4, v4, y2, x2, rfl, rfl⟩, x5, rfl, rfl⟩, by omega, by omega⟩
theorem r_arm {fk : Nat → Int32} {NB : gP} {lF : Nat → Int32} {p q b v : Nat} (h : gq (gTok fk 2) (gq (gq (sBind fk) (gTok fk 136)) NB) lF p q b v) : sArm fk NB lF p q b v := by
  obtain ⟨r, b1, v1, b2, v2, x1, ⟨r1, b3, v3, b4, v4, ⟨r2, b5, v5, b6, v6, y1, y2, y3, y4⟩, x2, x3, x4⟩, x5, x6⟩ := h
  exact ⟨r1, b1 + b5 + b6, v1 + v5 + v6, b4, v4, ⟨r2, b1 + b5, v1 + v5, b6, v6, ⟨r, b1, v1, b5, v5, x1, y1, rfl, rfl⟩, y2, rfl, rfl⟩, x2, by omega, by omega⟩
