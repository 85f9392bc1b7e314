/-- the labels of what stands from p to q, twice, with c more or d less than its tokens -/
def gW (X : tF) (c d : Nat) (R : gP) : Prop := ∀ (lF : Nat → Int32) (p q b v : Nat), R lF p q b v → 2 * cL X q + p + c ≤ 2 * cL X p + q + d
theorem cL_s {X : tF} (p : Nat) : cL X (p + 1) = cL X p + lw (X 4 p) := rfl
theorem gW_q {X : tF} {A B : gP} {c d c2 d2 : Nat} (hA : gW X c d A) (hB : gW X c2 d2 B) : gW X (c + c2) (d + d2) (gq A B) := fun lF p q b v h => by
  obtain ⟨r, b1, v1, b2, v2, h1, h2, -⟩ := h
  have := hA _ _ _ _ _ h1
  have := hB _ _ _ _ _ h2
  omega
theorem gW_m {X : tF} {A : gP} {c d c2 d2 : Nat} (hA : gW X c d A) (h : c2 + d ≤ c + d2) : gW X c2 d2 A := fun lF p q b v hr => by
  have := hA _ _ _ _ _ hr
  omega
section
variable {X : tF} {fk : Nat → Int32}
theorem cL_k (hX : X 4 = fk) {p n : Nat} {c : Int32} (h : fk p = c) (hl : lw c = n) : cL X (p + 1) = cL X p + n := by rw [cL_s, hX, h, hl]
theorem gW_t (hX : X 4 = fk) {c : Int32} {n : Nat} (hl : lw c = n) : gW X 1 (2 * n) (gTok fk c) := fun lF p q b v h => by
  obtain ⟨h1, h2, -⟩ := h
  subst h1
  rw [cL_k hX h2 hl]; omega
theorem gW_t0 (hX : X 4 = fk) {c : Int32} (hl : lw c = 0) : gW X 1 0 (gTok fk c) := gW_t hX hl
theorem gW_n : gW X 0 0 gNil := fun lF p q b v h => by rw [h.1]; omega
theorem gW_o (hX : X 4 = fk) {c : Int32} (hl : lw c = 0) : gW X 0 0 (gOpt fk c) := fun lF p q b v h => by
  rcases h.1 with ⟨h1, h2⟩ | ⟨h1, -⟩
  · rw [h1, cL_k hX h2 hl]; omega
  · rw [h1]; omega
theorem gW_r (hX : X 4 = fk) {c : Int32} {R : gP} (hl : lw c = 0) (h : gW X 0 0 R) : gW X 0 0 (gOptR fk c R) := fun lF p q b v hr => by
  rcases hr with z | ⟨-, z⟩
  · have := gW_q (gW_t0 hX hl) h _ _ _ _ _ z; omega
  · exact gW_n _ _ _ _ _ z
theorem gW_v (hX : X 4 = fk) : gW X 1 0 (gVar fk) := fun lF p q b v h => by rw [h.1, cL_k hX h.2.1 (n := 0) (by decide)]; omega
theorem gW_an {E : Int32 → gP} {c d : Nat} (h : ∀ ip : Int32, gW X c d (E ip)) : gW X c d (gAny E) := fun lF p q b v hr => by obtain ⟨i, hr⟩ := hr; exact h i _ _ _ _ _ hr
theorem gW_s {R : gP} (h : gW X 0 0 R) : ∀ n : Nat, gW X 0 0 (seqP R n)
  | 0 => gW_n
  | n + 1 => gW_q (gW_s h n) h
theorem cL_amp (hX : X 4 = fk) {r : Nat} (h : fk r = 38) : 2 * cL X (ampR fk r) + r ≤ 2 * cL X r + ampR fk r := by
  have e1 : cL X (r + 1) = cL X r := cL_k hX h (n := 0) (by decide)
  have e2 : fk (r + 1) = 3 → cL X (r + 2) = cL X r := fun z => (cL_k hX z (n := 0) (by decide)).trans e1
  unfold ampR
  by_cases z : fk (r + 1) = 3
  · rw [if_pos z]
    by_cases y : fk (r + 2) = 9
    · rw [if_pos y, cL_k hX y (n := 0) (by decide), e2 z]; omega
    · rw [if_neg y, e2 z]; omega
  · rw [if_neg z]
    by_cases y : fk (r + 1) = 9
    · rw [if_pos y, cL_k hX y (n := 0) (by decide), e1]; omega
    · rw [if_neg y, e1]; omega
theorem cL_ty (hX : X 4 = fk) : ∀ (n p q : Nat), tyX fk n p q → 2 * cL X q + p ≤ 2 * cL X p + q
  | 0, p, q, h => by
    have h : q = p := h
    rw [h]; omega
  | n + 1, p, q, h => by
    obtain ⟨r, h1, h2⟩ := h
    have h3 := cL_ty hX n p r h1
    rcases h2 with ⟨h4, h5⟩ | ⟨h4, h5⟩
    · rw [h5, cL_k hX h4 (n := 0) (by decide)]; omega
    · have := cL_amp hX h4
      rw [h5]; omega
theorem gW_ty (hX : X 4 = fk) {d : Nat} : gW X 1 0 (gTy fk d) := fun lF p q b v h => by
  obtain ⟨⟨n, r, h1, -, h2, h3⟩, -⟩ := h
  have h4 := cL_ty hX n p r h1
  have h5 : cL X (r + 1) = cL X r := by
    rcases h2 with z | z | z | z <;> exact cL_k hX z (n := 0) (by decide)
  rw [h3, h5]; omega
theorem gW_a (hX : X 4 = fk) : gW X 1 0 (gAmp fk) := fun lF p q b v h => by
  have e1 : cL X (p + 1) = cL X p := cL_k hX h.1 (n := 0) (by decide)
  rw [h.2.1]
  unfold unR
  by_cases z : fk p = 38 ∧ fk (p + 1) = 9
  · rw [if_pos z, show p + 2 = p + 1 + 1 from rfl, cL_k hX z.2 (n := 0) (by decide), e1]; omega
  · rw [if_neg z, e1]; omega
theorem cL_mem (hX : X 4 = fk) (p : Nat) : ∀ n : Nat, (∀ i : Nat, i < n → fk (p + 2 * i) = 46 ∧ fk (p + 2 * i + 1) = 2) → cL X (p + 2 * n) = cL X p
  | 0, _ => rfl
  | n + 1, h => by
    have h1 := cL_mem hX p n (fun i hi => h i (by omega))
    obtain ⟨h2, h3⟩ := h n (by omega)
    rw [show p + 2 * (n + 1) = p + 2 * n + 1 + 1 by omega, cL_k hX h3 (n := 0) (by decide), cL_k hX h2 (n := 0) (by decide), h1]
    rfl
theorem cL_vars (hX : X 4 = fk) (p : Nat) : ∀ n : Nat, (∀ i : Nat, i < n + 1 → fk (p + 2 * i) = 2) → (∀ i : Nat, i + 1 < n + 1 → fk (p + 2 * i + 1) = 44) → cL X (p + 2 * n + 1) = cL X p
  | 0, h, _ => cL_k hX (h 0 (by omega)) (n := 0) (by decide)
  | n + 1, h, g => by
    have h1 := cL_vars hX p n (fun i hi => h i (by omega)) (fun i hi => g i (by omega))
    rw [show p + 2 * (n + 1) + 1 = p + 2 * n + 1 + 1 + 1 by omega, cL_k hX (p := p + 2 * n + 1 + 1) (h (n + 1) (by omega)) (n := 0) (by decide), cL_k hX (g n (by omega)) (n := 0) (by decide), h1]
    rfl
theorem gW_bind (hX : X 4 = fk) : gW X 0 0 (sBind fk) := fun lF p q b v h => by
  rcases h with ⟨-, z⟩ | ⟨n, -, z⟩
  · exact gW_n _ _ _ _ _ z
  · have hv : gW X 1 0 (gVars fk n) := fun lF p q b v h => by
      obtain ⟨h1, h2, -, -, -, h5, h6⟩ := h
      obtain ⟨m, rfl⟩ : ∃ m : Nat, n = m + 1 := ⟨n - 1, by omega⟩
      have := cL_vars hX p m h5 h6
      rw [show q = p + 2 * m + 1 by omega, this]; omega
    have := gW_q (gW_q (gW_t0 hX (c := 40) (by decide)) hv) (gW_t0 hX (c := 41) (by decide)) _ _ _ _ _ z
    omega
theorem lw_op {k : Int32} (h : 1 ≤ lvK k) : lw k ≤ 1 := by
  by_cases e : k = 10
  · rw [e] at h; exact absurd h (by decide)
  · by_cases e2 : k = 12
    · rw [e2] at h; exact absurd h (by decide)
    · unfold lw
      split
      · exact Nat.le_refl 1
      · rw [if_neg (by rintro (z | z); exact e z; exact e2 z)]; omega
theorem cL_sep (hX : X 4 = fk) {S : Nat → Nat → Nat → Prop} (hS : ∀ p q b : Nat, S p q b → 2 * cL X q + p ≤ 2 * cL X p + q) : ∀ (n p q b : Nat), sepR fk S n p q b → 2 * cL X q + p ≤ 2 * cL X p + q
  | 0, _, _, _, h => absurd h id
  | n + 1, p, q, b, h => by
    rcases h with ⟨-, h⟩ | ⟨r, b1, b2, h1, h2, h3, -⟩
    · exact hS _ _ _ h
    · have := cL_sep hX hS n p r b1 h1
      have h4 := hS _ _ _ h3
      rw [cL_k hX h2 (n := 0) (by decide)] at h4
      omega
theorem cL_seq {S : Nat → Nat → Nat → Prop} (hS : ∀ p q b : Nat, S p q b → 2 * cL X q + p ≤ 2 * cL X p + q) : ∀ (n p q b : Nat), seqR S n p q b → 2 * cL X q + p ≤ 2 * cL X p + q
  | 0, p, q, _, h => by rw [h.1]; omega
  | n + 1, p, q, b, h => by
    obtain ⟨r, b1, b2, h1, h3, -⟩ := h
    have := cL_seq hS n p r b1 h1
    have := hS _ _ _ h3
    omega
theorem eStep_w (hX : X 4 = fk) {lk : Nat → Int32} {N : gRel} (hN : ∀ (t p q b : Nat) (ip : Int32), N t p q b ip → 2 * cL X q + p + 1 ≤ 2 * cL X p + q) (t p q b : Nat) (ip : Int32) (h : eStep fk lk N t p q b ip) : 2 * cL X q + p + 1 ≤ 2 * cL X p + q := by
  have hOne : ∀ p q b : Nat, eOne N p q b → 2 * cL X q + p ≤ 2 * cL X p + q := fun p q b h => by obtain ⟨i, h⟩ := h; have := hN _ _ _ _ _ h; omega
  have hFld : ∀ p q b : Nat, eFld fk N p q b → 2 * cL X q + p ≤ 2 * cL X p + q := fun p q b h => by
    have := hOne _ _ _ h.2.2
    rw [show p + 2 = p + 1 + 1 from rfl, cL_k hX h.2.1 (n := 0) (by decide), cL_k hX h.1 (n := 0) (by decide)] at this
    omega
  have hBrk : ∀ (p q b : Nat) (ip : Int32), eBrk fk N p q b ip → 2 * cL X q + p + 1 ≤ 2 * cL X p + q := fun p q b ip h => by
    obtain ⟨h0, r, h1, h2, h3⟩ := h
    have := hN _ _ _ _ _ h1
    rw [cL_k hX h0 (n := 0) (by decide)] at this
    rw [h3, cL_k hX h2 (n := 0) (by decide)]
    omega
  have hExps : ∀ m p q b : Nat, eExps fk lk N m p q b → 2 * cL X q + p + 1 ≤ 2 * cL X p + q := fun m p q b h => by
    obtain ⟨h0, n, r, -, -, -, h1, h2, h3⟩ := h
    have e0 := cL_k hX h0 (n := 0) (by decide)
    rw [h3, cL_k hX h2 (n := 0) (by decide)]
    rcases h1 with ⟨-, h1, -⟩ | h1
    · rw [h1, e0]; omega
    · have := cL_sep hX hOne n (p + 1) r b h1
      rw [e0] at this
      omega
  have hPrim : ∀ (p q b : Nat) (ip : Int32), ePrim fk lk N p q b ip → 2 * cL X q + p + 1 ≤ 2 * cL X p + q := fun p q b ip h => by
    rcases h with ⟨h0, -, h, -⟩ | ⟨h0, h⟩ | ⟨-, h⟩ | ⟨h0, -, i, h⟩ | ⟨h0, -, h⟩
    · have e0 : cL X (p + 1) = cL X p := by rcases h0 with z | z | z | z <;> exact cL_k hX z (n := 0) (by decide)
      rw [h, e0]; omega
    · have e0 := cL_k hX h0 (n := 0) (by decide)
      rcases h with ⟨h1, h2, -, h⟩ | ⟨-, -, h⟩ | ⟨-, -, -, h, -⟩
      · have e1 := cL_k hX h1 (n := 0) (by decide)
        have e2 := cL_k hX h2 (n := 0) (by decide)
        rcases h with ⟨-, h⟩ | ⟨-, h, -⟩
        · have := hExps _ _ _ _ h
          rw [show p + 3 = p + 2 + 1 from rfl, e2, show p + 2 = p + 1 + 1 from rfl, e1, e0] at this
          omega
        · rw [h, show p + 3 = p + 2 + 1 from rfl, e2, show p + 2 = p + 1 + 1 from rfl, e1, e0]; omega
      · have := hExps _ _ _ _ h
        rw [e0] at this
        omega
      · rw [h, e0]; omega
    · exact hBrk _ _ _ _ h
    · have := hBrk _ _ _ _ h
      rw [cL_k hX h0 (n := 0) (by decide)] at this
      omega
    · obtain ⟨h1, h2, n, r, h3, h4, h5⟩ := h
      have := cL_sep hX hFld n (p + 3) r b h3
      rw [show p + 3 = p + 2 + 1 from rfl, cL_k hX h2 (n := 0) (by decide), show p + 2 = p + 1 + 1 from rfl, cL_k hX h1 (n := 0) (by decide), cL_k hX h0 (n := 0) (by decide)] at this
      rw [h5, cL_k hX h4 (n := 0) (by decide)]
      omega
  have hUn : ∀ (p q b : Nat) (ip : Int32), eUn fk lk N p q b ip → 2 * cL X q + p + 1 ≤ 2 * cL X p + q := fun p q b ip h => by
    rcases h with ⟨-, r, n, h1, ⟨h2, h3⟩, -⟩ | ⟨h0, i, b2, h1, -⟩
    · have := hPrim _ _ _ _ h1
      rw [h2, cL_mem hX r n h3]
      omega
    · have := hN _ _ _ _ _ h1
      have e0 : cL X (p + 1) = cL X p := by rcases h0 with z | z | z | z | z <;> exact cL_k hX z (n := 0) (by decide)
      unfold unR at this
      by_cases z : fk p = 38 ∧ fk (p + 1) = 9
      · rw [if_pos z, show p + 2 = p + 1 + 1 from rfl, cL_k hX z.2 (n := 0) (by decide), e0] at this; omega
      · rw [if_neg z, e0] at this; omega
  rcases h with ⟨-, h⟩ | ⟨h0, r, b1, i1, n, b2, h1, h2, -⟩
  · exact hUn _ _ _ _ h
  · have := hUn _ _ _ _ h1
    have := cL_seq (X := X) (fun p q b h => by
      obtain ⟨h3, i, h⟩ := h
      have h4 := hN _ _ _ _ _ h
      have h5 := lw_op (k := fk p) (by omega)
      rw [cL_s, hX] at h4
      omega) n r q b2 h2
    omega
theorem gE_w (hX : X 4 = fk) {lk : Nat → Int32} : ∀ (k t p q b : Nat) (ip : Int32), gE fk lk k t p q b ip → 2 * cL X q + p + 1 ≤ 2 * cL X p + q
  | 0, t, p, q, b, ip, h => eStep_w hX (fun _ _ _ _ _ h => absurd h id) t p q b ip h
  | k + 1, t, p, q, b, ip, h => eStep_w hX (gE_w hX k) t p q b ip h
theorem gEx_w (hX : X 4 = fk) {k t : Nat} {ip : Int32} : gW X 1 0 (gEx fk k t ip) := fun lF p q b v h => gE_w hX k t p q b ip h.2
theorem stmF_w (hX : X 4 = fk) {d : Nat} {E : Int32 → gP} {B NB : gP} (hE : ∀ ip : Int32, gW X 1 0 (E ip)) (hB : gW X 2 0 B) (hNB : gW X 2 0 NB) : gW X 0 0 (stmF fk d E B NB) := fun lF p q b v h => by
  have hA := gW_an hE
  rcases h with ⟨-, h⟩ | ⟨-, h⟩ | ⟨-, h⟩ | ⟨-, h⟩ | ⟨-, h⟩ | ⟨-, h⟩ | ⟨-, h⟩ | ⟨-, h⟩
  · have := (gW_q (gW_q (gW_q (gW_q (gW_q (gW_t0 hX (c := 8) (by decide)) (gW_o hX (c := 9) (by decide))) (gW_v hX)) (gW_r hX (c := 58) (by decide) (gW_m (gW_ty hX) (by omega)))) (gW_r hX (c := 61) (by decide) (gW_m hA (by omega)))) (gW_t0 hX (c := 59) (by decide))) _ _ _ _ _ h
    omega
  · obtain ⟨n, h⟩ := h
    have hI : gW X 0 0 (sArmI fk E B) := gW_m (gW_q (gW_q (gW_t hX (c := 10) (n := 2) (by decide)) hA) hB) (by omega)
    have hEl : gW X 0 0 (sEls fk B) := fun lF p q b v h => by
      rcases h with ⟨-, z⟩ | z
      · exact gW_n _ _ _ _ _ z
      · have := gW_q (gW_t0 hX (c := 11) (by decide)) (B := fun lF p q b v => fk p ≠ 10 ∧ B lF p q b v) (fun lF p q b v h => hB _ _ _ _ _ h.2) _ _ _ _ _ z
        omega
    have := gW_q (gW_s (gW_m (gW_q hI (gW_t0 hX (c := 11) (by decide))) (by omega)) n) (gW_q hI hEl) _ _ _ _ _ h
    omega
  · obtain ⟨n, h⟩ := h
    have hM : gW X 1 0 (sMx fk E) := fun lF p q b v h => by
      rcases h with z | z
      · have := gW_q (gW_a hX) (hE 1) _ _ _ _ _ z; omega
      · exact hA _ _ _ _ _ z.2
    have hAr : gW X 0 0 (sArm fk NB) := gW_m (gW_q (gW_q (gW_q (gW_t0 hX (c := 2) (by decide)) (gW_bind hX)) (gW_t hX (c := 136) (n := 1) (by decide))) hNB) (by omega)
    have := (gW_q (gW_q (gW_q (gW_q (gW_t hX (c := 13) (n := 1) (by decide)) hM) (gW_t0 hX (c := 123) (by decide))) (gW_s hAr n)) (gW_t0 hX (c := 125) (by decide))) _ _ _ _ _ h
    omega
  · have := hB _ _ _ _ _ h; omega
  · have := (gW_q (gW_q (gW_t hX (c := 12) (n := 2) (by decide)) hA) hB) _ _ _ _ _ h
    omega
  · have hR : gW X 0 0 (fun lF p q b v => (fk p = 59 ∧ gNil lF p q b v) ∨ (fk p ≠ 59 ∧ gAny E lF p q b v)) := fun lF p q b v h => by
      rcases h with z | z
      · exact gW_n _ _ _ _ _ z.2
      · have := hA _ _ _ _ _ z.2; omega
    have := (gW_q (gW_q (gW_t0 hX (c := 14) (by decide)) hR) (gW_t0 hX (c := 59) (by decide))) _ _ _ _ _ h
    omega
  · have := (gW_q (gW_q (gW_t0 hX (c := 15) (by decide)) hA) (gW_t0 hX (c := 59) (by decide))) _ _ _ _ _ h
    omega
  · rcases h with ⟨r, -, -, -, h⟩ | ⟨-, h⟩
    · have := (gW_q (A := fun lF p q b v => q = r ∧ E 1 lF p q b v) (fun lF p q b v h => hE 1 _ _ _ _ _ h.2) (gW_q (gW_q (gW_t0 hX (c := 61) (by decide)) hA) (gW_t0 hX (c := 59) (by decide)))) _ _ _ _ _ h
      omega
    · have := (gW_q hA (gW_t0 hX (c := 59) (by decide))) _ _ _ _ _ h
      omega
theorem blkF_w (hX : X 4 = fk) {S : gP} (h : gW X 0 0 S) : gW X 2 0 (blkF fk S) := fun lF p q b v hr => by
  obtain ⟨n, hr⟩ := hr
  have := (gW_q (gW_q (gW_t0 hX (c := 123) (by decide)) (gW_s (R := sSt fk S) (fun lF p q b v z => h _ _ _ _ _ z.2) n)) (gW_t0 hX (c := 125) (by decide))) _ _ _ _ _ hr
  omega
theorem gNo_w {c d : Nat} : gW X c d gNo := fun _ _ _ _ _ h => absurd h id
theorem gSB_w (hX : X 4 = fk) : ∀ k : Nat, gW X 0 0 (gSB fk k).1 ∧ gW X 2 0 (gSB fk k).2
  | 0 => ⟨stmF_w hX (fun _ => gEx_w hX) gNo_w gNo_w, gNo_w⟩
  | k + 1 => by
    obtain ⟨h1, h2⟩ := gSB_w hX k
    exact ⟨stmF_w hX (fun _ => gEx_w hX) (blkF_w hX h1) h2, blkF_w hX h1⟩
theorem gBlk_w (hX : X 4 = fk) {k p q b v : Nat} {lF : Nat → Int32} (h : gBlk fk k lF p q b v) : 2 * cL X q + p + 2 ≤ 2 * cL X p + q := (gSB_w hX k).2 _ _ _ _ _ h
end
