/-- what stands from p to q has no negative length; or some -/
def gLe (R : gP) : Prop := ∀ (lF : Nat → Int32) (p q b v : Nat), R lF p q b v → p ≤ q
def gLt (R : gP) : Prop := ∀ (lF : Nat → Int32) (p q b v : Nat), R lF p q b v → p < q
theorem gLt.le {R : gP} (h : gLt R) : gLe R := fun lF p q b v hr => Nat.le_of_lt (h lF p q b v hr)
theorem gq_le {A B : gP} (hA : gLe A) (hB : gLe B) : gLe (gq A B) := fun lF p q b v h => by
  obtain ⟨r, b1, v1, b2, v2, h1, h2, -⟩ := h
  have := hA _ _ _ _ _ h1
  have := hB _ _ _ _ _ h2
  omega
theorem gq_lt {A B : gP} (hA : gLt A) (hB : gLe B) : gLt (gq A B) := fun lF p q b v h => by
  obtain ⟨r, b1, v1, b2, v2, h1, h2, -⟩ := h
  have := hA _ _ _ _ _ h1
  have := hB _ _ _ _ _ h2
  omega
theorem gq_lt2 {A B : gP} (hA : gLe A) (hB : gLt B) : gLt (gq A B) := fun lF p q b v h => by
  obtain ⟨r, b1, v1, b2, v2, h1, h2, -⟩ := h
  have := hA _ _ _ _ _ h1
  have := hB _ _ _ _ _ h2
  omega
theorem gTok_lt {fk : Nat → Int32} {c : Int32} : gLt (gTok fk c) := fun lF p q b v h => by have := h.1; omega
theorem gNil_le : gLe gNil := fun lF p q b v h => by have := h.1; omega
theorem gOpt_le {fk : Nat → Int32} {c : Int32} : gLe (gOpt fk c) := fun lF p q b v h => by rcases h.1 with z | z <;> omega
theorem gOptR_le {fk : Nat → Int32} {c : Int32} {R : gP} (h : gLe R) : gLe (gOptR fk c R) := fun lF p q b v hr => hr.elim (fun z => (gq_lt gTok_lt h).le lF p q b v z) (fun z => gNil_le lF p q b v z.2)
theorem gVar_lt {fk : Nat → Int32} : gLt (gVar fk) := fun lF p q b v h => by have := h.1; omega
theorem gTy_lt {fk : Nat → Int32} {d : Nat} : gLt (gTy fk d) := fun lF p q b v h => gTy_gt h
theorem seqP_le {R : gP} (h : gLe R) : ∀ n : Nat, gLe (seqP R n)
  | 0 => gNil_le
  | n + 1 => gq_le (seqP_le h n) h
theorem gAmp_lt {fk : Nat → Int32} : gLt (gAmp fk) := fun lF p q b v h => by
  have := h.2.1
  unfold unR at this
  split at this <;> omega
section
variable {fk lk : Nat → Int32} {N : gRel}
theorem sepR_le {S : Nat → Nat → Nat → Prop} (hS : ∀ p q b : Nat, S p q b → p ≤ q) : ∀ (n p q b : Nat), sepR fk S n p q b → p ≤ q
  | 0, _, _, _, h => absurd h id
  | n + 1, p, q, b, h => by
    rcases h with ⟨-, h⟩ | ⟨r, b1, b2, h1, -, h3, -⟩
    · exact hS _ _ _ h
    · have := sepR_le hS n p r b1 h1
      have := hS _ _ _ h3
      omega
theorem seqR_le {S : Nat → Nat → Nat → Prop} (hS : ∀ p q b : Nat, S p q b → p ≤ q) : ∀ (n p q b : Nat), seqR S n p q b → p ≤ q
  | 0, _, _, _, h => by have := h.1; omega
  | n + 1, p, q, b, h => by
    obtain ⟨r, b1, b2, h1, h3, -⟩ := h
    have := seqR_le hS n p r b1 h1
    have := hS _ _ _ h3
    omega
theorem eStep_lt (hN : ∀ (t p q b : Nat) (ip : Int32), N t p q b ip → p < q) (t p q b : Nat) (ip : Int32) (h : eStep fk lk N t p q b ip) : p < q := by
  have hOne : ∀ p q b : Nat, eOne N p q b → p ≤ q := fun p q b h => by obtain ⟨i, h⟩ := h; have := hN _ _ _ _ _ h; omega
  have hFld : ∀ p q b : Nat, eFld fk N p q b → p ≤ q := fun p q b h => by have := hOne _ _ _ h.2.2; omega
  have hBrk : ∀ (p q b : Nat) (ip : Int32), eBrk fk N p q b ip → p < q := fun p q b ip h => by
    obtain ⟨-, r, h1, -, h3⟩ := h
    have := hN _ _ _ _ _ h1
    omega
  have hExps : ∀ m p q b : Nat, eExps fk lk N m p q b → p < q := fun m p q b h => by
    obtain ⟨-, n, r, -, -, -, h1, -, h3⟩ := h
    rcases h1 with ⟨-, h1, -⟩ | h1
    · omega
    · have := sepR_le hOne n (p + 1) r b h1
      omega
  have hPrim : ∀ (p q b : Nat) (ip : Int32), ePrim fk lk N p q b ip → p < q := fun p q b ip h => by
    rcases h with ⟨-, -, h, -⟩ | ⟨-, h⟩ | ⟨-, h⟩ | ⟨-, -, i, h⟩ | ⟨-, -, h⟩
    · omega
    · rcases h with ⟨-, -, -, h⟩ | ⟨-, -, h⟩ | ⟨-, -, -, h, -⟩
      · rcases h with ⟨-, h⟩ | ⟨-, h, -⟩
        · have := hExps _ _ _ _ h; omega
        · omega
      · have := hExps _ _ _ _ h; omega
      · omega
    · exact hBrk _ _ _ _ h
    · have := hBrk _ _ _ _ h; omega
    · obtain ⟨-, -, n, r, h1, -, h3⟩ := h
      have := sepR_le hFld n (p + 3) r b h1
      omega
  have hUn : ∀ (p q b : Nat) (ip : Int32), eUn fk lk N p q b ip → p < q := fun p q b ip h => by
    rcases h with ⟨-, r, n, h1, h2, -⟩ | ⟨-, i, b2, h1, -⟩
    · have := hPrim _ _ _ _ h1
      have := h2.1
      omega
    · have := hN _ _ _ _ _ h1
      have : p < unR fk p := by unfold unR; split <;> omega
      omega
  rcases h with ⟨-, h⟩ | ⟨-, r, b1, i1, n, b2, h1, h2, -⟩
  · exact hUn _ _ _ _ h
  · have := hUn _ _ _ _ h1
    have := seqR_le (fun p q b h => by obtain ⟨-, i, h⟩ := h; have := hN _ _ _ _ _ h; omega) n r q b2 h2
    omega
end
theorem gE_lt {fk lk : Nat → Int32} : ∀ (k t p q b : Nat) (ip : Int32), gE fk lk k t p q b ip → p < q
  | 0, t, p, q, b, ip, h => eStep_lt (fun _ _ _ _ _ h => absurd h id) t p q b ip h
  | k + 1, t, p, q, b, ip, h => eStep_lt (gE_lt k) t p q b ip h
theorem gEx_lt {fk : Nat → Int32} {k t : Nat} {ip : Int32} : gLt (gEx fk k t ip) := fun lF p q b v h => gE_lt k t p q b ip h.2
theorem gAny_lt {E : Int32 → gP} (h : ∀ ip : Int32, gLt (E ip)) : gLt (gAny E) := fun lF p q b v hr => by obtain ⟨i, hr⟩ := hr; exact h i _ _ _ _ _ hr
theorem gVars_le {fk : Nat → Int32} {n : Nat} : gLe (gVars fk n) := fun lF p q b v h => by have := h.1; have := h.2.1; omega
theorem sBind_le {fk : Nat → Int32} : gLe (sBind fk) := fun lF p q b v h => h.elim (fun z => gNil_le _ _ _ _ _ z.2) (fun z => by obtain ⟨n, -, z⟩ := z; exact (gq_lt (gq_lt gTok_lt gVars_le) gTok_lt.le).le _ _ _ _ _ z)
theorem stmF_lt {fk : Nat → Int32} {d : Nat} {E : Int32 → gP} {B NB : gP} (hE : ∀ ip : Int32, gLt (E ip)) (hB : gLt B) (hNB : gLt NB) : gLt (stmF fk d E B NB) := fun lF p q b v h => by
  have hA := gAny_lt hE
  rcases h with ⟨-, h⟩ | ⟨-, h⟩ | ⟨-, h⟩ | ⟨-, h⟩ | ⟨-, h⟩ | ⟨-, h⟩ | ⟨-, h⟩ | ⟨-, h⟩
  · exact (gq_lt (gq_lt (gq_lt (gq_lt (gq_lt gTok_lt gOpt_le) gVar_lt.le) (gOptR_le gTy_lt.le)) (gOptR_le hA.le)) gTok_lt.le) _ _ _ _ _ h
  · obtain ⟨n, h⟩ := h
    have hI : gLt (sArmI fk E B) := gq_lt (gq_lt gTok_lt hA.le) hB.le
    have hEl : gLe (sEls fk B) := fun lF p q b v h => h.elim (fun z => gNil_le _ _ _ _ _ z.2) (fun z => (gq_lt gTok_lt (fun lF p q b v h => hB.le _ _ _ _ _ h.2)).le _ _ _ _ _ z)
    exact gq_lt2 (seqP_le (gq_lt hI gTok_lt.le).le n) (gq_lt hI hEl) _ _ _ _ _ h
  · obtain ⟨n, h⟩ := h
    have hM : gLe (sMx fk E) := fun lF p q b v h => h.elim (fun z => (gq_lt gAmp_lt (hE 1).le).le _ _ _ _ _ z) (fun z => hA.le _ _ _ _ _ z.2)
    have hAr : gLe (sArm fk NB) := (gq_lt (gq_lt (gq_lt gTok_lt sBind_le) gTok_lt.le) hNB.le).le
    exact (gq_lt (gq_lt (gq_lt (gq_lt gTok_lt hM) gTok_lt.le) (seqP_le hAr n)) gTok_lt.le) _ _ _ _ _ h
  · exact hB _ _ _ _ _ h
  · exact (gq_lt (gq_lt gTok_lt hA.le) hB.le) _ _ _ _ _ h
  · exact (gq_lt (gq_lt gTok_lt (fun lF p q b v h => h.elim (fun z => gNil_le _ _ _ _ _ z.2) (fun z => hA.le _ _ _ _ _ z.2))) gTok_lt.le) _ _ _ _ _ h
  · exact (gq_lt (gq_lt gTok_lt hA.le) gTok_lt.le) _ _ _ _ _ h
  · rcases h with ⟨r, -, -, -, h⟩ | ⟨-, h⟩
    · exact (gq_lt (fun lF p q b v h => hE 1 _ _ _ _ _ h.2) (gq_lt (gq_lt gTok_lt hA.le) gTok_lt.le).le) _ _ _ _ _ h
    · exact (gq_lt hA gTok_lt.le) _ _ _ _ _ h
theorem blkF_lt {fk : Nat → Int32} {S : gP} (h : gLe S) : gLt (blkF fk S) := fun lF p q b v hr => by
  obtain ⟨n, hr⟩ := hr
  exact (gq_lt (gq_lt gTok_lt (seqP_le (fun lF p q b v z => h _ _ _ _ _ z.2) n)) gTok_lt.le) _ _ _ _ _ hr
theorem gSB_lt {fk : Nat → Int32} : ∀ k : Nat, gLt (gSB fk k).1 ∧ gLt (gSB fk k).2
  | 0 => ⟨stmF_lt (fun ip => gEx_lt) (fun _ _ _ _ _ h => absurd h id) (fun _ _ _ _ _ h => absurd h id), fun _ _ _ _ _ h => absurd h id⟩
  | k + 1 => by
    have h := gSB_lt (fk := fk) k
    exact ⟨stmF_lt (fun ip => gEx_lt) (blkF_lt h.1.le) h.2, blkF_lt h.1.le⟩
theorem gBlk_lt {fk lF : Nat → Int32} {k p q b v : Nat} (h : gBlk fk k lF p q b v) : p < q := (gSB_lt k).2 _ _ _ _ _ h
