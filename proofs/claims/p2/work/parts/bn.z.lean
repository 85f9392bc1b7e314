-- bn.z.lean.txt
section
theorem c_sloop (l : Launch) (dC : Nat → ClassId) (dI : Nat → Nat → Nat) (k : Nat) (ih : ∀ k1 : Nat, k = k1 + 1 → IH_tS l dC dI k1) : st_c_sloop l dC dI k := w_c_sloop l dC dI k ih (c_scond l dC dI k ih)
theorem c_sif (l : Launch) (dC : Nat → ClassId) (dI : Nat → Nat → Nat) (k : Nat) (ih : ∀ k1 : Nat, k = k1 + 1 → IH_tS l dC dI k1) : st_c_sif l dC dI k := w_c_sif l dC dI k ih (c_scond l dC dI k ih)
theorem c_sarms (l : Launch) (dC : Nat → ClassId) (dI : Nat → Nat → Nat) (k : Nat) (ih : ∀ k1 : Nat, k = k1 + 1 → IH_tS l dC dI k1) : st_c_sarms l dC dI k := w_c_sarms l dC dI k ih (c_sarm l dC dI k ih)
theorem c_sstm (l : Launch) (dC : Nat → ClassId) (dI : Nat → Nat → Nat) (k : Nat) (ih : ∀ k1 : Nat, k = k1 + 1 → IH_tS l dC dI k1) : st_c_sstm l dC dI k := w_c_sstm l dC dI k ih (c_slet l dC dI k ih) (c_sif l dC dI k ih) (c_sloop l dC dI k ih) (c_smat l dC dI k ih) (c_sret l dC dI k ih) (c_sprt l dC dI k ih) (c_sasg l dC dI k ih)
theorem c_sblk (l : Launch) (dC : Nat → ClassId) (dI : Nat → Nat → Nat) (k : Nat) (ih : ∀ k1 : Nat, k = k1 + 1 → IH_tS l dC dI k1) : st_c_sblk l dC dI k := w_c_sblk l dC dI k ih (c_sstm l dC dI k ih)
theorem all_tS (l : Launch) (dC : Nat → ClassId) (dI : Nat → Nat → Nat) : ∀ k : Nat, IH_tS l dC dI k
  | 0 => ⟨c_sblk l dC dI 0 (fun _ h => absurd h (by omega)), c_sarms l dC dI 0 (fun _ h => absurd h (by omega))⟩
  | k + 1 => ⟨c_sblk l dC dI (k + 1) (fun k1 h => by obtain rfl : k = k1 := (by omega); exact all_tS l dC dI k), c_sarms l dC dI (k + 1) (fun k1 h => by obtain rfl : k = k1 := (by omega); exact all_tS l dC dI k)⟩
theorem c_sblkA (l : Launch) (dC : Nat → ClassId) (dI : Nat → Nat → Nat) (k : Nat) : st_c_sblk l dC dI k := c_sblk l dC dI k (fun k1 _ => all_tS l dC dI k1)
theorem c_sstmA (l : Launch) (dC : Nat → ClassId) (dI : Nat → Nat → Nat) (k : Nat) : st_c_sstm l dC dI k := c_sstm l dC dI k (fun k1 _ => all_tS l dC dI k1)
theorem c_sprtA (l : Launch) (dC : Nat → ClassId) (dI : Nat → Nat → Nat) (k : Nat) : st_c_sprt l dC dI k := c_sprt l dC dI k (fun k1 _ => all_tS l dC dI k1)
theorem c_sretA (l : Launch) (dC : Nat → ClassId) (dI : Nat → Nat → Nat) (k : Nat) : st_c_sret l dC dI k := c_sret l dC dI k (fun k1 _ => all_tS l dC dI k1)
theorem c_sletA (l : Launch) (dC : Nat → ClassId) (dI : Nat → Nat → Nat) (k : Nat) : st_c_slet l dC dI k := c_slet l dC dI k (fun k1 _ => all_tS l dC dI k1)
theorem c_sloopA (l : Launch) (dC : Nat → ClassId) (dI : Nat → Nat → Nat) (k : Nat) : st_c_sloop l dC dI k := c_sloop l dC dI k (fun k1 _ => all_tS l dC dI k1)
theorem c_sifA (l : Launch) (dC : Nat → ClassId) (dI : Nat → Nat → Nat) (k : Nat) : st_c_sif l dC dI k := c_sif l dC dI k (fun k1 _ => all_tS l dC dI k1)
theorem c_smatA (l : Launch) (dC : Nat → ClassId) (dI : Nat → Nat → Nat) (k : Nat) : st_c_smat l dC dI k := c_smat l dC dI k (fun k1 _ => all_tS l dC dI k1)
theorem c_sasgA (l : Launch) (dC : Nat → ClassId) (dI : Nat → Nat → Nat) (k : Nat) : st_c_sasg l dC dI k := c_sasg l dC dI k (fun k1 _ => all_tS l dC dI k1)
theorem c_scondA (l : Launch) (dC : Nat → ClassId) (dI : Nat → Nat → Nat) (k : Nat) : st_c_scond l dC dI k := c_scond l dC dI k (fun k1 _ => all_tS l dC dI k1)
theorem c_sarmA (l : Launch) (dC : Nat → ClassId) (dI : Nat → Nat → Nat) (k : Nat) : st_c_sarm l dC dI k := c_sarm l dC dI k (fun k1 _ => all_tS l dC dI k1)
theorem c_sarmsA (l : Launch) (dC : Nat → ClassId) (dI : Nat → Nat → Nat) (k : Nat) : st_c_sarms l dC dI k := c_sarms l dC dI k (fun k1 _ => all_tS l dC dI k1)
end
-- bo.a_glab.lean.txt
section
/-- the labels of what stands from p to q, twice, with c more or d less than its tokens -/
def gW (X : tF) (c d : Nat) (R : gP) : Prop := ∀ (lF : Nat → Int32) (p q b v : Nat), R lF p q b v → 2 * cL X q + p + c ≤ 2 * cL X p + q + d
theorem cL_s {X : tF} (p : Nat) : cL X (p + 1) = cL X p + lw (X 4 p) := rfl
theorem gW_q {X : tF} {A B : gP} {c d c2 d2 : Nat} (hA : gW X c d A) (hB : gW X c2 d2 B) : gW X (c + c2) (d + d2) (gq A B) := fun lF p q b v h => by
  obtain ⟨r, b1, v1, b2, v2, h1, h2, -⟩ := h
  have := hA _ _ _ _ _ h1
  have := hB _ _ _ _ _ h2
  omega
theorem gW_m {X : tF} {A : gP} {c d c2 d2 : Nat} (hA : gW X c d A) (h : c2 + d ≤ c + d2) : gW X c2 d2 A := fun lF p q b v hr => by
  have := hA _ _ _ _ _ hr
  omega
section
variable {X : tF} {fk : Nat → Int32}
theorem cL_k (hX : X 4 = fk) {p n : Nat} {c : Int32} (h : fk p = c) (hl : lw c = n) : cL X (p + 1) = cL X p + n := by rw [cL_s, hX, h, hl]
theorem gW_t (hX : X 4 = fk) {c : Int32} {n : Nat} (hl : lw c = n) : gW X 1 (2 * n) (gTok fk c) := fun lF p q b v h => by
  obtain ⟨h1, h2, -⟩ := h
  subst h1
  rw [cL_k hX h2 hl]; omega
theorem gW_t0 (hX : X 4 = fk) {c : Int32} (hl : lw c = 0) : gW X 1 0 (gTok fk c) := gW_t hX hl
theorem gW_n : gW X 0 0 gNil := fun lF p q b v h => by rw [h.1]; omega
theorem gW_o (hX : X 4 = fk) {c : Int32} (hl : lw c = 0) : gW X 0 0 (gOpt fk c) := fun lF p q b v h => by
  rcases h.1 with ⟨h1, h2⟩ | ⟨h1, -⟩
  · rw [h1, cL_k hX h2 hl]; omega
  · rw [h1]; omega
theorem gW_r (hX : X 4 = fk) {c : Int32} {R : gP} (hl : lw c = 0) (h : gW X 0 0 R) : gW X 0 0 (gOptR fk c R) := fun lF p q b v hr => by
  rcases hr with z | ⟨-, z⟩
  · have := gW_q (gW_t0 hX hl) h _ _ _ _ _ z; omega
  · exact gW_n _ _ _ _ _ z
theorem gW_v (hX : X 4 = fk) : gW X 1 0 (gVar fk) := fun lF p q b v h => by rw [h.1, cL_k hX h.2.1 (n := 0) (by decide)]; omega
theorem gW_an {E : Int32 → gP} {c d : Nat} (h : ∀ ip : Int32, gW X c d (E ip)) : gW X c d (gAny E) := fun lF p q b v hr => by obtain ⟨i, hr⟩ := hr; exact h i _ _ _ _ _ hr
theorem gW_s {R : gP} (h : gW X 0 0 R) : ∀ n : Nat, gW X 0 0 (seqP R n)
  | 0 => gW_n
  | n + 1 => gW_q (gW_s h n) h
theorem cL_amp (hX : X 4 = fk) {r : Nat} (h : fk r = 38) : 2 * cL X (ampR fk r) + r ≤ 2 * cL X r + ampR fk r := by
  have e1 : cL X (r + 1) = cL X r := cL_k hX h (n := 0) (by decide)
  have e2 : fk (r + 1) = 3 → cL X (r + 2) = cL X r := fun z => (cL_k hX z (n := 0) (by decide)).trans e1
  unfold ampR
  by_cases z : fk (r + 1) = 3
  · rw [if_pos z]
    by_cases y : fk (r + 2) = 9
    · rw [if_pos y, cL_k hX y (n := 0) (by decide), e2 z]; omega
    · rw [if_neg y, e2 z]; omega
  · rw [if_neg z]
    by_cases y : fk (r + 1) = 9
    · rw [if_pos y, cL_k hX y (n := 0) (by decide), e1]; omega
    · rw [if_neg y, e1]; omega
theorem cL_ty (hX : X 4 = fk) : ∀ (n p q : Nat), tyX fk n p q → 2 * cL X q + p ≤ 2 * cL X p + q
  | 0, p, q, h => by
    have h : q = p := h
    rw [h]; omega
  | n + 1, p, q, h => by
    obtain ⟨r, h1, h2⟩ := h
    have h3 := cL_ty hX n p r h1
    rcases h2 with ⟨h4, h5⟩ | ⟨h4, h5⟩
    · rw [h5, cL_k hX h4 (n := 0) (by decide)]; omega
    · have := cL_amp hX h4
      rw [h5]; omega
theorem gW_ty (hX : X 4 = fk) {d : Nat} : gW X 1 0 (gTy fk d) := fun lF p q b v h => by
  obtain ⟨⟨n, r, h1, -, h2, h3⟩, -⟩ := h
  have h4 := cL_ty hX n p r h1
  have h5 : cL X (r + 1) = cL X r := by
    rcases h2 with z | z | z | z <;> exact cL_k hX z (n := 0) (by decide)
  rw [h3, h5]; omega
theorem gW_a (hX : X 4 = fk) : gW X 1 0 (gAmp fk) := fun lF p q b v h => by
  have e1 : cL X (p + 1) = cL X p := cL_k hX h.1 (n := 0) (by decide)
  rw [h.2.1]
  unfold unR
  by_cases z : fk p = 38 ∧ fk (p + 1) = 9
  · rw [if_pos z, show p + 2 = p + 1 + 1 from rfl, cL_k hX z.2 (n := 0) (by decide), e1]; omega
  · rw [if_neg z, e1]; omega
theorem cL_mem (hX : X 4 = fk) (p : Nat) : ∀ n : Nat, (∀ i : Nat, i < n → fk (p + 2 * i) = 46 ∧ fk (p + 2 * i + 1) = 2) → cL X (p + 2 * n) = cL X p
  | 0, _ => rfl
  | n + 1, h => by
    have h1 := cL_mem hX p n (fun i hi => h i (by omega))
    obtain ⟨h2, h3⟩ := h n (by omega)
    rw [show p + 2 * (n + 1) = p + 2 * n + 1 + 1 by omega, cL_k hX h3 (n := 0) (by decide), cL_k hX h2 (n := 0) (by decide), h1]
    rfl
theorem cL_vars (hX : X 4 = fk) (p : Nat) : ∀ n : Nat, (∀ i : Nat, i < n + 1 → fk (p + 2 * i) = 2) → (∀ i : Nat, i + 1 < n + 1 → fk (p + 2 * i + 1) = 44) → cL X (p + 2 * n + 1) = cL X p
  | 0, h, _ => cL_k hX (h 0 (by omega)) (n := 0) (by decide)
  | n + 1, h, g => by
    have h1 := cL_vars hX p n (fun i hi => h i (by omega)) (fun i hi => g i (by omega))
    rw [show p + 2 * (n + 1) + 1 = p + 2 * n + 1 + 1 + 1 by omega, cL_k hX (p := p + 2 * n + 1 + 1) (h (n + 1) (by omega)) (n := 0) (by decide), cL_k hX (g n (by omega)) (n := 0) (by decide), h1]
    rfl
theorem gW_bind (hX : X 4 = fk) : gW X 0 0 (sBind fk) := fun lF p q b v h => by
  rcases h with ⟨-, z⟩ | ⟨n, -, z⟩
  · exact gW_n _ _ _ _ _ z
  · have hv : gW X 1 0 (gVars fk n) := fun lF p q b v h => by
      obtain ⟨h1, h2, -, -, -, h5, h6⟩ := h
      obtain ⟨m, rfl⟩ : ∃ m : Nat, n = m + 1 := ⟨n - 1, by omega⟩
      have := cL_vars hX p m h5 h6
      rw [show q = p + 2 * m + 1 by omega, this]; omega
    have := gW_q (gW_q (gW_t0 hX (c := 40) (by decide)) hv) (gW_t0 hX (c := 41) (by decide)) _ _ _ _ _ z
    omega
theorem lw_op {k : Int32} (h : 1 ≤ lvK k) : lw k ≤ 1 := by
  by_cases e : k = 10
  · rw [e] at h; exact absurd h (by decide)
  · by_cases e2 : k = 12
    · rw [e2] at h; exact absurd h (by decide)
    · unfold lw
      split
      · exact Nat.le_refl 1
      · rw [if_neg (by rintro (z | z); exact e z; exact e2 z)]; omega
theorem cL_sep (hX : X 4 = fk) {S : Nat → Nat → Nat → Prop} (hS : ∀ p q b : Nat, S p q b → 2 * cL X q + p ≤ 2 * cL X p + q) : ∀ (n p q b : Nat), sepR fk S n p q b → 2 * cL X q + p ≤ 2 * cL X p + q
  | 0, _, _, _, h => absurd h id
  | n + 1, p, q, b, h => by
    rcases h with ⟨-, h⟩ | ⟨r, b1, b2, h1, h2, h3, -⟩
    · exact hS _ _ _ h
    · have := cL_sep hX hS n p r b1 h1
      have h4 := hS _ _ _ h3
      rw [cL_k hX h2 (n := 0) (by decide)] at h4
      omega
theorem cL_seq {S : Nat → Nat → Nat → Prop} (hS : ∀ p q b : Nat, S p q b → 2 * cL X q + p ≤ 2 * cL X p + q) : ∀ (n p q b : Nat), seqR S n p q b → 2 * cL X q + p ≤ 2 * cL X p + q
  | 0, p, q, _, h => by rw [h.1]; omega
  | n + 1, p, q, b, h => by
    obtain ⟨r, b1, b2, h1, h3, -⟩ := h
    have := cL_seq hS n p r b1 h1
    have := hS _ _ _ h3
    omega
theorem eStep_w (hX : X 4 = fk) {lk : Nat → Int32} {N : gRel} (hN : ∀ (t p q b : Nat) (ip : Int32), N t p q b ip → 2 * cL X q + p + 1 ≤ 2 * cL X p + q) (t p q b : Nat) (ip : Int32) (h : eStep fk lk N t p q b ip) : 2 * cL X q + p + 1 ≤ 2 * cL X p + q := by
  have hOne : ∀ p q b : Nat, eOne N p q b → 2 * cL X q + p ≤ 2 * cL X p + q := fun p q b h => by obtain ⟨i, h⟩ := h; have := hN _ _ _ _ _ h; omega
  have hFld : ∀ p q b : Nat, eFld fk N p q b → 2 * cL X q + p ≤ 2 * cL X p + q := fun p q b h => by
    have := hOne _ _ _ h.2.2
    rw [show p + 2 = p + 1 + 1 from rfl, cL_k hX h.2.1 (n := 0) (by decide), cL_k hX h.1 (n := 0) (by decide)] at this
    omega
  have hBrk : ∀ (p q b : Nat) (ip : Int32), eBrk fk N p q b ip → 2 * cL X q + p + 1 ≤ 2 * cL X p + q := fun p q b ip h => by
    obtain ⟨h0, r, h1, h2, h3⟩ := h
    have := hN _ _ _ _ _ h1
    rw [cL_k hX h0 (n := 0) (by decide)] at this
    rw [h3, cL_k hX h2 (n := 0) (by decide)]
    omega
  have hExps : ∀ m p q b : Nat, eExps fk lk N m p q b → 2 * cL X q + p + 1 ≤ 2 * cL X p + q := fun m p q b h => by
    obtain ⟨h0, n, r, -, -, -, h1, h2, h3⟩ := h
    have e0 := cL_k hX h0 (n := 0) (by decide)
    rw [h3, cL_k hX h2 (n := 0) (by decide)]
    rcases h1 with ⟨-, h1, -⟩ | h1
    · rw [h1, e0]; omega
    · have := cL_sep hX hOne n (p + 1) r b h1
      rw [e0] at this
      omega
  have hPrim : ∀ (p q b : Nat) (ip : Int32), ePrim fk lk N p q b ip → 2 * cL X q + p + 1 ≤ 2 * cL X p + q := fun p q b ip h => by
    rcases h with ⟨h0, -, h, -⟩ | ⟨h0, h⟩ | ⟨-, h⟩ | ⟨h0, -, i, h⟩ | ⟨h0, -, h⟩
    · have e0 : cL X (p + 1) = cL X p := by rcases h0 with z | z | z | z <;> exact cL_k hX z (n := 0) (by decide)
      rw [h, e0]; omega
    · have e0 := cL_k hX h0 (n := 0) (by decide)
      rcases h with ⟨h1, h2, -, h⟩ | ⟨-, -, h⟩ | ⟨-, -, -, h, -⟩
      · have e1 := cL_k hX h1 (n := 0) (by decide)
        have e2 := cL_k hX h2 (n := 0) (by decide)
        rcases h with ⟨-, h⟩ | ⟨-, h, -⟩
        · have := hExps _ _ _ _ h
          rw [show p + 3 = p + 2 + 1 from rfl, e2, show p + 2 = p + 1 + 1 from rfl, e1, e0] at this
          omega
        · rw [h, show p + 3 = p + 2 + 1 from rfl, e2, show p + 2 = p + 1 + 1 from rfl, e1, e0]; omega
      · have := hExps _ _ _ _ h
        rw [e0] at this
        omega
      · rw [h, e0]; omega
    · exact hBrk _ _ _ _ h
    · have := hBrk _ _ _ _ h
      rw [cL_k hX h0 (n := 0) (by decide)] at this
      omega
    · obtain ⟨h1, h2, n, r, h3, h4, h5⟩ := h
      have := cL_sep hX hFld n (p + 3) r b h3
      rw [show p + 3 = p + 2 + 1 from rfl, cL_k hX h2 (n := 0) (by decide), show p + 2 = p + 1 + 1 from rfl, cL_k hX h1 (n := 0) (by decide), cL_k hX h0 (n := 0) (by decide)] at this
      rw [h5, cL_k hX h4 (n := 0) (by decide)]
      omega
  have hUn : ∀ (p q b : Nat) (ip : Int32), eUn fk lk N p q b ip → 2 * cL X q + p + 1 ≤ 2 * cL X p + q := fun p q b ip h => by
    rcases h with ⟨-, r, n, h1, ⟨h2, h3⟩, -⟩ | ⟨h0, i, b2, h1, -⟩
    · have := hPrim _ _ _ _ h1
      rw [h2, cL_mem hX r n h3]
      omega
    · have := hN _ _ _ _ _ h1
      have e0 : cL X (p + 1) = cL X p := by rcases h0 with z | z | z | z | z <;> exact cL_k hX z (n := 0) (by decide)
      unfold unR at this
      by_cases z : fk p = 38 ∧ fk (p + 1) = 9
      · rw [if_pos z, show p + 2 = p + 1 + 1 from rfl, cL_k hX z.2 (n := 0) (by decide), e0] at this; omega
      · rw [if_neg z, e0] at this; omega
  rcases h with ⟨-, h⟩ | ⟨h0, r, b1, i1, n, b2, h1, h2, -⟩
  · exact hUn _ _ _ _ h
  · have := hUn _ _ _ _ h1
    have := cL_seq (X := X) (fun p q b h => by
      obtain ⟨h3, i, h⟩ := h
      have h4 := hN _ _ _ _ _ h
      have h5 := lw_op (k := fk p) (by omega)
      rw [cL_s, hX] at h4
      omega) n r q b2 h2
    omega
theorem gE_w (hX : X 4 = fk) {lk : Nat → Int32} : ∀ (k t p q b : Nat) (ip : Int32), gE fk lk k t p q b ip → 2 * cL X q + p + 1 ≤ 2 * cL X p + q
  | 0, t, p, q, b, ip, h => eStep_w hX (fun _ _ _ _ _ h => absurd h id) t p q b ip h
  | k + 1, t, p, q, b, ip, h => eStep_w hX (gE_w hX k) t p q b ip h
theorem gEx_w (hX : X 4 = fk) {k t : Nat} {ip : Int32} : gW X 1 0 (gEx fk k t ip) := fun lF p q b v h => gE_w hX k t p q b ip h.2
theorem stmF_w (hX : X 4 = fk) {d : Nat} {E : Int32 → gP} {B NB : gP} (hE : ∀ ip : Int32, gW X 1 0 (E ip)) (hB : gW X 2 0 B) (hNB : gW X 2 0 NB) : gW X 0 0 (stmF fk d E B NB) := fun lF p q b v h => by
  have hA := gW_an hE
  rcases h with ⟨-, h⟩ | ⟨-, h⟩ | ⟨-, h⟩ | ⟨-, h⟩ | ⟨-, h⟩ | ⟨-, h⟩ | ⟨-, h⟩ | ⟨-, h⟩
  · have := (gW_q (gW_q (gW_q (gW_q (gW_q (gW_t0 hX (c := 8) (by decide)) (gW_o hX (c := 9) (by decide))) (gW_v hX)) (gW_r hX (c := 58) (by decide) (gW_m (gW_ty hX) (by omega)))) (gW_r hX (c := 61) (by decide) (gW_m hA (by omega)))) (gW_t0 hX (c := 59) (by decide))) _ _ _ _ _ h
    omega
  · obtain ⟨n, h⟩ := h
    have hI : gW X 0 0 (sArmI fk E B) := gW_m (gW_q (gW_q (gW_t hX (c := 10) (n := 2) (by decide)) hA) hB) (by omega)
    have hEl : gW X 0 0 (sEls fk B) := fun lF p q b v h => by
      rcases h with ⟨-, z⟩ | z
      · exact gW_n _ _ _ _ _ z
      · have := gW_q (gW_t0 hX (c := 11) (by decide)) (B := fun lF p q b v => fk p ≠ 10 ∧ B lF p q b v) (fun lF p q b v h => hB _ _ _ _ _ h.2) _ _ _ _ _ z
        omega
    have := gW_q (gW_s (gW_m (gW_q hI (gW_t0 hX (c := 11) (by decide))) (by omega)) n) (gW_q hI hEl) _ _ _ _ _ h
    omega
  · obtain ⟨n, h⟩ := h
    have hM : gW X 1 0 (sMx fk E) := fun lF p q b v h => by
      rcases h with z | z
      · have := gW_q (gW_a hX) (hE 1) _ _ _ _ _ z; omega
      · exact hA _ _ _ _ _ z.2
    have hAr : gW X 0 0 (sArm fk NB) := gW_m (gW_q (gW_q (gW_q (gW_t0 hX (c := 2) (by decide)) (gW_bind hX)) (gW_t hX (c := 136) (n := 1) (by decide))) hNB) (by omega)
    have := (gW_q (gW_q (gW_q (gW_q (gW_t hX (c := 13) (n := 1) (by decide)) hM) (gW_t0 hX (c := 123) (by decide))) (gW_s hAr n)) (gW_t0 hX (c := 125) (by decide))) _ _ _ _ _ h
    omega
  · have := hB _ _ _ _ _ h; omega
  · have := (gW_q (gW_q (gW_t hX (c := 12) (n := 2) (by decide)) hA) hB) _ _ _ _ _ h
    omega
  · have hR : gW X 0 0 (fun lF p q b v => (fk p = 59 ∧ gNil lF p q b v) ∨ (fk p ≠ 59 ∧ gAny E lF p q b v)) := fun lF p q b v h => by
      rcases h with z | z
      · exact gW_n _ _ _ _ _ z.2
      · have := hA _ _ _ _ _ z.2; omega
    have := (gW_q (gW_q (gW_t0 hX (c := 14) (by decide)) hR) (gW_t0 hX (c := 59) (by decide))) _ _ _ _ _ h
    omega
  · have := (gW_q (gW_q (gW_t0 hX (c := 15) (by decide)) hA) (gW_t0 hX (c := 59) (by decide))) _ _ _ _ _ h
    omega
  · rcases h with ⟨r, -, -, -, h⟩ | ⟨-, h⟩
    · have := (gW_q (A := fun lF p q b v => q = r ∧ E 1 lF p q b v) (fun lF p q b v h => hE 1 _ _ _ _ _ h.2) (gW_q (gW_q (gW_t0 hX (c := 61) (by decide)) hA) (gW_t0 hX (c := 59) (by decide)))) _ _ _ _ _ h
      omega
    · have := (gW_q hA (gW_t0 hX (c := 59) (by decide))) _ _ _ _ _ h
      omega
theorem blkF_w (hX : X 4 = fk) {S : gP} (h : gW X 0 0 S) : gW X 2 0 (blkF fk S) := fun lF p q b v hr => by
  obtain ⟨n, hr⟩ := hr
  have := (gW_q (gW_q (gW_t0 hX (c := 123) (by decide)) (gW_s (R := sSt fk S) (fun lF p q b v z => h _ _ _ _ _ z.2) n)) (gW_t0 hX (c := 125) (by decide))) _ _ _ _ _ hr
  omega
theorem gNo_w {c d : Nat} : gW X c d gNo := fun _ _ _ _ _ h => absurd h id
theorem gSB_w (hX : X 4 = fk) : ∀ k : Nat, gW X 0 0 (gSB fk k).1 ∧ gW X 2 0 (gSB fk k).2
  | 0 => ⟨stmF_w hX (fun _ => gEx_w hX) gNo_w gNo_w, gNo_w⟩
  | k + 1 => by
    obtain ⟨h1, h2⟩ := gSB_w hX k
    exact ⟨stmF_w hX (fun _ => gEx_w hX) (blkF_w hX h1) h2, blkF_w hX h1⟩
theorem gBlk_w (hX : X 4 = fk) {k p q b v : Nat} {lF : Nat → Int32} (h : gBlk fk k lF p q b v) : 2 * cL X q + p + 2 ≤ 2 * cL X p + q := (gSB_w hX k).2 _ _ _ _ _ h
end
end
-- bo.b_tbody.lean.txt
section
/-- the function's code begins here -/
def tg8 (s : tgS) : tgS := (fun k => match k with | 0 => s.1 0 | 1 => s.1 1 | 2 => s.1 2 | 3 => s.1 3 | 4 => s.1 4 | 5 => s.1 5 | 6 => s.1 6 | 7 => s.1 7 | 8 => 10000 - s.1 0 | k + 9 => s.1 (k + 9), s.2)
def tg18 (s : tgS) (g : Nat → Int32) : tgS := (s.1, fun k => match k with | 0 => s.2 0 | 1 => s.2 1 | 2 => s.2 2 | 3 => s.2 3 | 4 => s.2 4 | 5 => s.2 5 | 6 => s.2 6 | 7 => s.2 7 | 8 => s.2 8 | 9 => s.2 9 | 10 => s.2 10 | 11 => s.2 11 | 12 => s.2 12 | 13 => s.2 13 | 14 => s.2 14 | 15 => s.2 15 | 16 => s.2 16 | 17 => s.2 17 | 18 => g | k + 19 => s.2 (k + 19))
/-- variable v's code begins at x -/
def tFr (s t : tgS) (v : Nat) (x : Int32) : Prop := t.1 = s.1 ∧ (∀ k : Nat, k ≠ 18 → t.2 k = s.2 k) ∧ t.2 18 = upd (s.2 18) v x
theorem tFr_mk {s : tgS} {v : Nat} {x : Int32} {g : Nat → Int32} (h : g = upd (s.2 18) v x) : tFr s (tg18 s g) v x := by
  refine ⟨rfl, fun k hk => ?_, h⟩
  match k, hk with
  | 0, _ => rfl
  | 1, _ => rfl
  | 2, _ => rfl
  | 3, _ => rfl
  | 4, _ => rfl
  | 5, _ => rfl
  | 6, _ => rfl
  | 7, _ => rfl
  | 8, _ => rfl
  | 9, _ => rfl
  | 10, _ => rfl
  | 11, _ => rfl
  | 12, _ => rfl
  | 13, _ => rfl
  | 14, _ => rfl
  | 15, _ => rfl
  | 16, _ => rfl
  | 17, _ => rfl
  | 18, h => exact absurd rfl h
  | k + 19, _ => rfl
theorem tg8_k {s : tgS} : ∀ k : Nat, k ≠ 8 → (tg8 s).1 k = s.1 k
  | 0, _ => rfl
  | 1, _ => rfl
  | 2, _ => rfl
  | 3, _ => rfl
  | 4, _ => rfl
  | 5, _ => rfl
  | 6, _ => rfl
  | 7, _ => rfl
  | 8, h => absurd rfl h
  | _ + 9, _ => rfl
theorem tJ_fr {s t : tgS} {v : Nat} {x : Int32} (h : tJ s) (hf : tFr s t v x) : tJ t := by
  obtain ⟨e1, e2, -⟩ := hf
  unfold tJ
  rw [e1, e2 21 (by decide), e2 22 (by decide), e2 24 (by decide), e2 25 (by decide), e2 26 (by decide), e2 15 (by decide), e2 16 (by decide)]
  exact h
theorem tJ_g8 {s : tgS} (h : tJ s) : tJ (tg8 s) := h
theorem upd_id {f : Nat → Int32} {k : Nat} : upd f k (f k) = f := by
  funext j
  by_cases e : j = k
  · rw [e, pk_us]
  · rw [pk_un e]
/-- cells of the first n variables, one behind the other -/
def vSm (S : tgS) : Nat → Nat
  | 0 => 0
  | n + 1 => vSm S n + vSz S n
/-- i parameters are settled: from S came U -/
def bdL (S U : tgS) (i : Nat) : Prop := (∀ k : Nat, k ≠ 6 → U.1 k = S.1 k) ∧ (∀ k : Nat, k ≠ 17 → k ≠ 18 → U.2 k = S.2 k) ∧ (∀ v : Nat, v < i → U.2 18 v = nI (S.1 0)) ∧ (∀ v : Nat, v < i → ∃ o : Nat, U.2 17 v = nI o ∧ o + vSz S v ≤ U.1 6) ∧ (∀ v w : Nat, v < i → w < i → v ≠ w → cN (U.2 17 v) + vSz S v ≤ cN (U.2 17 w) ∨ cN (U.2 17 w) + vSz S w ≤ cN (U.2 17 v)) ∧ (U.1 6 ≤ 17 * i ∧ U.1 6 = vSm S i ∧ ∀ v : Nat, v < i → U.2 17 v = nI (vSm S v))
theorem bdL_0 {S : tgS} (h : S.1 6 = 0) : bdL S S 0 := ⟨fun _ _ => rfl, fun _ _ _ => rfl, fun v hv => absurd hv (Nat.not_lt_zero v), fun v hv => absurd hv (Nat.not_lt_zero v), fun v w hv => absurd hv (Nat.not_lt_zero v), by omega, h, fun v hv => absurd hv (Nat.not_lt_zero v)⟩
theorem bdL_S {S U W Z : tgS} {i T z : Nat} {x : Int32} (h : bdL S U i) (hs : tSe U W i T z) (hf : tFr W Z i x) (hx : x = nI (S.1 0)) (hT : S.2 15 i = nI T) (hz : S.2 22 T = nI z) (hT3 : T < 3040) (hz17 : z ≤ 17) (hi : i < 40) : bdL S Z (i + 1) := by
  obtain ⟨a1, a2, a3, a4, a5, a6, a7, a8⟩ := h
  obtain ⟨s1, s2, s3, s4, s5⟩ := hs
  obtain ⟨f1, f2, f3⟩ := hf
  have z6 : Z.1 6 = U.1 6 + z := by rw [f1]; exact s1
  have z17 : Z.2 17 = upd (U.2 17) i (nI (U.1 6)) := (f2 17 (by decide)).trans s5
  have z18 : Z.2 18 = upd (U.2 18) i (nI (S.1 0)) := by rw [f3, s3 18 (by decide) (by decide), hx]
  have hsz : vSz S i = z := by unfold vSz; rw [hT, cN_nI (by omega), hz, cN_nI (by omega)]
  have c6 : cN (nI (U.1 6)) = U.1 6 := cN_nI (by omega)
  have hlt : ∀ v : Nat, v < i → cN (U.2 17 v) + vSz S v ≤ U.1 6 := fun v hv => by
    obtain ⟨o, o1, o2⟩ := a4 v hv
    rw [o1, cN_nI (by omega)]; exact o2
  refine ⟨fun k hk => by rw [f1, s2 k hk]; exact a1 k hk, fun k h1 h2 => ?_, fun v hv => ?_, fun v hv => ?_, fun v w hv hw hne => ?_, by omega, ?_, fun v hv => ?_⟩
  · rw [f2 k h2]
    by_cases e : k = 15
    · rw [e, s4, a2 15 (by decide) (by decide), ← hT, upd_id]
    · rw [s3 k e h1]; exact a2 k h1 h2
  · rw [z18]
    by_cases e : v = i
    · rw [e, pk_us]
    · rw [pk_un e]; exact a3 v (by omega)
  · rw [z17, z6]
    by_cases e : v = i
    · rw [e, pk_us, hsz]; exact ⟨U.1 6, rfl, Nat.le_refl _⟩
    · rw [pk_un e]
      obtain ⟨o, o1, o2⟩ := a4 v (by omega)
      exact ⟨o, o1, by omega⟩
  · rw [z17]
    by_cases e : v = i
    · have e2 : w ≠ i := fun q => hne (e.trans q.symm)
      rw [e, pk_us, pk_un e2, c6]
      exact Or.inr (hlt w (by omega))
    · by_cases e2 : w = i
      · rw [e2, pk_us, pk_un e, c6]
        exact Or.inl (hlt v (by omega))
      · rw [pk_un e, pk_un e2]; exact a5 v w (by omega) (by omega) hne
  · rw [z6, a7, ← hsz]; rfl
  · rw [z17]
    by_cases e : v = i
    · rw [e, pk_us, a7]
    · rw [pk_un e]; exact a8 v (by omega)
theorem vcN_all {f : Nat → Int32} : ∀ n : Nat, (∀ v : Nat, v < n → f v ≠ -1) → vcN f n = n
  | 0, _ => rfl
  | n + 1, h => by
    show vcN f n + (if f n = -1 then 0 else 1) = n + 1
    rw [vcN_all n (fun v hv => h v (by omega)), if_neg (h n (by omega))]
theorem bd_tI {yp np : Nat} {X : tF} {S U : tgS} (h : bdL S U np) (h4 : S.1 4 = np) (hT : tyOK yp (tTy S)) (hl : lbI S) (hv : ∀ v : Nat, v < np → ∃ k : Nat, S.2 15 v = nI k ∧ tyV yp (S.1 7) (S.2 20) k) (hq : shQ yp (S.1 7) (S.2 20) X) (ho : ∀ v : Nat, v < np → S.2 19 v = 1073741824) (h7 : S.1 7 ≤ 3040) (h60 : S.1 0 ≤ 6000) : tI yp X (tg8 U) := by
  obtain ⟨a1, a2, a3, a4, a5, a6⟩ := h
  have r : ∀ k : Nat, k ≠ 17 → k ≠ 18 → (tg8 U).2 k = S.2 k := a2
  have c : ∀ k : Nat, k ≠ 6 → k ≠ 8 → (tg8 U).1 k = S.1 k := fun k h1 h2 => (tg8_k k h2).trans (a1 k h1)
  have hne : ∀ v : Nat, v < np → S.2 15 v ≠ -1 := fun v hv9 => by
    obtain ⟨k, k1, k2⟩ := hv v hv9
    have := k2.2
    rw [k1]; exact nI_ne1 (by omega)
  have hz : ∀ v : Nat, vSz (tg8 U) v = vSz S v := fun v => by
    unfold vSz
    rw [r 22 (by decide) (by decide), r 15 (by decide) (by decide)]
  refine ⟨?_, ?_, ?_, ?_, ?_, ?_⟩
  · have e : tTy (tg8 U) = tTy S := by
      unfold tTy
      rw [c 7 (by decide) (by decide), r 20 (by decide) (by decide), r 21 (by decide) (by decide), r 22 (by decide) (by decide), r 23 (by decide) (by decide), r 24 (by decide) (by decide), r 25 (by decide) (by decide), r 26 (by decide) (by decide)]
    rw [e]; exact hT
  · unfold lbI
    rw [c 0 (by decide) (by decide), c 1 (by decide) (by decide), r 0 (by decide) (by decide), r 1 (by decide) (by decide), r 5 (by decide) (by decide)]
    exact hl
  · rw [c 4 (by decide) (by decide), c 7 (by decide) (by decide), r 15 (by decide) (by decide), r 20 (by decide) (by decide), h4]
    exact fun v hv9 => Or.inr (hv v hv9)
  · rw [c 7 (by decide) (by decide), r 20 (by decide) (by decide)]; exact hq
  · unfold vcI
    rw [c 4 (by decide) (by decide), h4, r 15 (by decide) (by decide)]
    refine ⟨fun v hv9 _ => ?_, fun v w hv9 hw hne9 _ _ => ?_, ?_⟩
    · rw [hz v]; exact a4 v hv9
    · rw [hz v, hz w]; exact a5 v w hv9 hw hne9
    · rw [vcN_all np hne]; exact a6.1
  · refine ⟨fun v hv9 => Or.inl ?_, fun i h1 h2 => ?_, fun i j h1 h2 => ?_⟩
    · rw [r 19 (by decide) (by decide)]; exact ho v (by rw [← h4, ← c 4 (by decide) (by decide)]; exact hv9)
    · have h1 : 10000 - (10000 - U.1 0) ≤ i := h1
      have h2 : i < U.1 0 := h2
      have := a1 0 (by decide)
      omega
    · have h1 : 10000 - (10000 - U.1 0) ≤ i := h1
      have h2 : i < U.1 0 := h2
      have := a1 0 (by decide)
      omega
theorem tHd_bd {yp nb np i9 : Nat} {G : Nat → Nat → Nat} {S U : tgS} {i : Nat} (h : tHd yp nb np i9 G S) (hb : bdL S U i) : tHd yp nb np i9 G (tg8 U) := by
  obtain ⟨a1, a2, -⟩ := hb
  unfold tHd
  rw [show (tg8 U).1 4 = S.1 4 from a1 4 (by decide), show (tg8 U).1 7 = S.1 7 from a1 7 (by decide), show (tg8 U).2 15 = S.2 15 from a2 15 (by decide) (by decide), show (tg8 U).2 20 = S.2 20 from a2 20 (by decide) (by decide)]
  exact h
/-- the parameters in scope -/
def bdO : Nat → List tE
  | 0 => []
  | n + 1 => (8, n, 0) :: bdO n
theorem bdO_in : ∀ {n : Nat} {x : tE}, x ∈ bdO n → ∃ v : Nat, x = (8, v, 0) ∧ v < n
  | 0, x, h => by cases h
  | n + 1, x, h => by
    rcases List.mem_cons.mp h with e | e
    · exact ⟨n, e, by omega⟩
    · obtain ⟨v, h1, h2⟩ := bdO_in e
      exact ⟨v, h1, by omega⟩
theorem bdO_mem : ∀ {n v : Nat}, v < n → (8, v, 0) ∈ bdO n
  | 0, v, h => absurd h (Nat.not_lt_zero v)
  | n + 1, v, h => by
    by_cases e : v = n
    · rw [e]; exact List.mem_cons_self ..
    · exact List.mem_cons_of_mem _ (bdO_mem (by omega))
/-- a function's whole code -/
def bdS (X : tF) (G : Nat → Nat → Nat) (rs np : Nat) : tR := fun F a b => sg F X G rs (fun _ _ => False) a b (some (bdO np)) none ∧ ∀ i : Nat, a ≤ i → i < b → F 0 i = 14 → ∃ L m : Nat, L < 1100 ∧ i < m ∧ m < b ∧ F 1 i = nI L ∧ F 0 m = 13 ∧ F 1 m = nI (L + 1)
theorem l_body {yp rs tt p q n2 b v np : Nat} {X : tF} {G : Nat → Nat → Nat} {ft f2 wh : Int32} {U S3 S4 : tgS} {r : Int32} {qt qv ql : Nat} {qp qm : Int32} (hB : tBs 3 yp X G rs tt p q n2 b v np ft f2 (tg8 U) S3 r qt qv ql qp qm) (hA : tAd S3 S4 22 0 0 (-1) (aN wh)) (hf : f2 = 0) (hr : r ≠ 1 → rs = 0) (h18 : ∀ w : Nat, w < np → U.2 18 w = nI (U.1 0)) (h19 : ∀ w : Nat, w < np → U.2 19 w = 1073741824) (h4 : U.1 4 = np) (h12 : np ≤ 12) (hpq : p + 2 ≤ q) (hc : U.1 0 + 2 * (q - p) ≤ 6000) (hv : U.1 4 + v ≤ 40) : tI yp X S4 ∧ tOKb np (U.1 1) (2 * (q - p)) (2 * (cL X q - cL X p)) (q - p) (2 * (q - p)) (q - p) (tg8 U) S4 (bdS X G rs np) := by
  obtain ⟨⟨c1, c2, c3, c4, c5, c6, c7⟩, hB2⟩ := hB
  obtain ⟨y1, y2, y3, y4⟩ := hB2 hf
  have hK := y4.1 [] (nwI_0 (show U.1 4 ≤ np by omega))
  have u0 : (tg8 U).1 0 = U.1 0 := rfl
  have u1 : (tg8 U).1 1 = U.1 1 := rfl
  have u4 : (tg8 U).1 4 = U.1 4 := rfl
  have r0 := hK.2.2.1.1
  have hs0 : S3.1 0 < 6000 := by omega
  have hIt := tI_ad y3 hA hs0 (by unfold isL; decide)
  refine ⟨hIt, tOKb_sq hK (tOKb_of (tOK_ad (lo := (tg8 U).1 1) hA hs0 (by unfold isL; decide)) (by omega)) (by omega) (fun F hF g1 g2 => ?_)⟩
  obtain ⟨b1, k0, k1, k2, k3, k4⟩ := g2
  have hx := hK.1
  have hO1 : scI F np (U.1 0) (S4.1 0) (bdO np) := fun x hx9 => by
    obtain ⟨w, e, hw⟩ := bdO_in hx9
    have a4 := hA.1 4 (by decide)
    obtain ⟨-, -, f18, f19, f19o⟩ := hF.2.2.2.2 w (by omega)
    have x18 : S3.2 18 w = U.2 18 w := (hx.2.2.2.2.2 w (by omega)).2.2.1
    have x19 : S4.2 19 w = 1073741824 := by rw [hA.2.1 19 (by decide), hK.2.1.2 w hw]; exact h19 w hw
    obtain ⟨e9, e1, e2, e3⟩ := f19o x19
    exact ⟨w, U.1 0, e9, e, hw, by rw [f18, hA.2.1 18 (by decide), x18]; exact h18 w hw, Nat.le_refl _, e1, e2, e3⟩
  have hO : scJ F np (U.1 0) (S4.1 0) (bdO np) := ⟨hO1, fun v e h1 _ _ _ => bdO_mem h1⟩
  have hm : (tg8 U).1 0 ≤ S3.1 0 := hx.1 0 (by decide)
  have seg1 := g1 (fun _ _ => False) (bdO np) (scJ_sub hO (Nat.le_refl _) (by omega))
  have hvl := scI_vl hO1
  have seg2 : sg F X G rs (fun _ _ => False) (S3.1 0) (S4.1 0) (if r = 1 then none else some (bdO np)) none := by
    rw [b1]
    by_cases e : r = 1
    · rw [if_pos e]
      exact sg_dead (o := 22) k0 (show 22 < 33 by decide)
    · rw [if_neg e]
      exact sg_one (o := 22) k0 (show 22 < 33 by decide) (by omega) (fun r9 hr9 => absurd hr9 (by simp)) (fun k hk9 => ⟨0, bdO np, k1, ⟨(hr e).symm, by rw [k4]; exact aN_ge _, fun z9 => absurd (k2.symm.trans z9) (by decide)⟩, by omega, Or.inr ⟨k2, rfl, rfl⟩, sc_ret (scI_sub hO1 (Nat.le_refl _) hm (Nat.le_refl _)) (by omega) (by omega)⟩)
  exact And.intro (sg_app seg1 seg2 hm (by omega)) (fun i h1 h2 h3 => by
    rcases Nat.lt_or_ge i (S3.1 0) with c | c
    · obtain ⟨kk, -, -, -, e3⟩ := seg1
      obtain ⟨L, m, q1, q2, q3, q4⟩ := (e3 i h1 c).1.2 h3
      exact ⟨L, m, q1, q2, by omega, q4⟩
    · rw [show i = S3.1 0 by omega, k0] at h3
      exact absurd h3 (by decide))
/-- what body leaves: S ahead of it, S2 behind it -/
def bdF (yp : Nat) (X : tF) (G : Nat → Nat → Nat) (rs p q np : Nat) (S S2 : tgS) (ac cf ct lf lt : Int32) : Prop := ∃ U : tgS, bdL S U np ∧ tI yp X S2 ∧ tOKb np (S.1 1) (2 * (q - p)) (2 * (cL X q - cL X p)) (q - p) (2 * (q - p)) (q - p) (tg8 U) S2 (bdS X G rs np) ∧ ac = nI (U.1 6) ∧ cf = nI (S.1 0) ∧ ct = nI (S2.1 0) ∧ lf = nI (S.1 1) ∧ lt = nI (S2.1 1)
theorem nI_sb1 {n : Nat} (h : 1 ≤ n) : nI n - 1 = nI (n - 1) := by
  obtain ⟨m, rfl⟩ : ∃ m : Nat, n = m + 1 := ⟨n - 1, by omega⟩
  rw [Nat.add_sub_cancel, ← nI_1 m]
  exact Int32.add_sub_cancel _ _
end
