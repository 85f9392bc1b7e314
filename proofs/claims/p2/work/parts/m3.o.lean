/-- parts were dropped -/
def DPG (fr : Nat) (c l h fl : List Nat) (t b : Nat) (S S3 : Sg) (fl3 : List Nat) : Prop := DO (fun a => a ∈ c ∨ a ∈ l) (fun q => q ∈ h) b S S3 ∧ Zi S3 81 = nI b ∧ wq S3 ∧ FLs S3 fl3 t ∧ (∀ a : Nat, cnN a fl3 = cnN a fl + (fr * cnN a c + cnN a l)) ∧ (fr = 0 → ∀ a ∈ c, Zr S3 62 a = 0 ∧ Zr S3 63 a = Zr S 63 a) ∧ ∀ q ∈ h, Zr S3 67 q = 0
section PS40
variable {R : yR} {S0 Sl S S2 : Sg} {g : Nat → Int32} {k t b d fr mn ρ N : Nat} {f : Nat → Option Nat} {cs ls hs : Nat → List Nat} {fl l h c : List Nat} {pt : Nat → Nat} {vs : Nat → qV}
theorem drM (hL : LFS R S0 g) (hx : LX S0 Sl) (ih : drH R S0 Sl g k) (eR : RNx Sl S) (k0 : KO b S S2) (h81 : Zi S2 81 = nI (b + (1 + fr) * mn)) (hw : ∀ i : Nat, i < mn → WP S2 b fr mn i (f i) (cs i)) (hq : wq S) (hfl : FLs S fl t) (hp : ∀ i : Nat, i < mn → pL (yT R S0) (szN R S0) (nMS S) k (pt i) (vs i) (cs i) (ls i) (hs i)) (hf : ∀ i : Nat, i < mn → ∃ z : Nat, f i = some z ∧ vTy S0 z ∧ abT S0 z = pt i) (hk : lkN (Zr S 63) (ftN cs mn)) (hc : cvN (ftN cs mn) (ftN ls mn) fl t) (hfr : fr = 0 ∨ fr = 1) (h9 : b + (1 + fr) * (ftN cs mn).length + 2 * (ftN ls mn).length ≤ 90000) (hρ : ∀ i : Nat, i < mn → rkN R S0 g (pt i) + 1 ≤ ρ) (hN : ρ * (ftN cs mn).length + 103 * (ftN ls mn).length + mn * fr ≤ N) : drN R.K N (DPG fr (ftN cs mn) (ftN ls mn) (ftN hs mn) fl t b S) S2 := by
  have hy := nYk_of hL
  have hle : ∀ i : Nat, i < mn → 1 ≤ (cs i).length := fun i hi => by
    rw [(hp i hi).len hy]; exact (hy.1 _).1
  have e1 : (ftN cs mn).length = psN (fun i => (cs i).length) mn := ftN_len
  have e2 : (ftN ls mn).length = psN (fun i => (ls i).length) mn := ftN_len
  have mem : ∀ i a : Nat, i < mn → (a ∈ cs i ∨ a ∈ ls i) → a ∈ ftN cs mn ∨ a ∈ ftN ls mn := fun i a hi w => w.imp (fun w => ftN_mem.mpr ⟨i, hi, w⟩) (fun w => ftN_mem.mpr ⟨i, hi, w⟩)
  have hu : psN (fun i => ρ * (cs i).length + 103 * (ls i).length + fr) mn = ρ * (ftN cs mn).length + 103 * (ftN ls mn).length + mn * fr := by
    rw [psN_ad (u := fun i => ρ * (cs i).length + 103 * (ls i).length) (v := fun _ => fr), psN_ad (u := fun i => ρ * (cs i).length) (v := fun i => 103 * (ls i).length), psN_k9, psN_k9, psN_c9, e1, e2]
  refine (drL (Si := S2) (fl0 := fl) (b := b) (fr := fr) (f := f) (cs := cs) (ls := ls) (hs := hs) (ρ := ρ) hL hx ih (eR.tr k0.1.rn) (fun i hi => by rw [k0.nm]; exact hp i hi) hf (fun i hi => by rw [k0.x3]; exact hk.seg hi) (fun a => ?_) (fun i a hi w => ?_) hfr (fun i hi => ?_) hρ mn 0 S2 fl (by omega) ⟨DO.rf, h81, k0.wq hq, k0.fl hfl, fun a => rfl, fun i _ hi => ⟨hw i hi, fun a _ => ⟨rfl, rfl, rfl⟩, fun a _ => ⟨rfl, rfl, rfl⟩⟩, fun i hi => by omega⟩).mo ?_ (fun S3 fl3 ⟨q1, q2, q3, q4, q5, q6, q7⟩ => ?_)
  · have := (hc a).1
    rw [psN_ad (u := fun i => cnN a (cs i)) (v := fun i => cnN a (ls i)), ← ftN_cn, ← ftN_cn]
    exact this
  · refine (hc a).2 ?_
    rcases mem i a hi w with h | h
    · have := cnN_mem.mp h; omega
    · have := cnN_mem.mp h; omega
  · have g1 := psN_g9 (v := fun i => (cs i).length) hle hi
    have g2 := psN_i1 (v := fun i => (ls i).length) hi
    have g3 := hle i hi
    have g4 : (cs i).length + mn ≤ psN (fun i => (cs i).length) mn + 1 := g1
    have g5 : (ls i).length ≤ psN (fun i => (ls i).length) mn := g2
    rw [← e1] at g4
    rw [← e2] at g5
    rcases hfr with w | w <;> subst w <;> omega
  · rw [hu]
    show _ - 0 ≤ N
    omega
  · refine ⟨(k0.do.tr (q1.mo (fun a ⟨i, hi, w⟩ => mem i a hi w) (fun q ⟨i, hi, w⟩ => ftN_mem.mpr ⟨i, hi, w⟩) (Nat.le_refl _))), by rw [q2, Nat.sub_self, Nat.mul_zero, Nat.add_zero], q3, q4, fun a => ?_, fun w0 a ha => ?_, fun q hq => ?_⟩
    · rw [q5, psN_ad (u := fun i => fr * cnN a (cs i)) (v := fun i => cnN a (ls i)), psN_k9, ← ftN_cn, ← ftN_cn]
    · obtain ⟨i, hi, w⟩ := ftN_mem.mp ha
      obtain ⟨v1, v2⟩ := (q7 i hi).1 w0 a w
      exact ⟨v1, v2.trans (congrFun k0.x3 a)⟩
    · obtain ⟨i, hi, w⟩ := ftN_mem.mp hq
      exact (q7 i hi).2 q w
/-- laterParts: parts are dropped later -/
theorem drG {o : Option Nat} {cap : Nat} (hL : LFS R S0 g) (hx : LX S0 Sl) (ih : drH R S0 Sl g k) (eR : RNx Sl S) (h81 : Zi S 81 = nI b) (ho : mn = 0 ∨ ∃ ta : Nat, o = some ta ∧ ta ∈ ZL Sl ∧ ZF Sl ta = .inl (R.K.1 4, cap, .inr (.inr (.inr (.inr f))))) (hcap : mn ≤ cap ∧ cap < 100) (hq : wq S) (hfl : FLs S fl t) (hp : ∀ i : Nat, i < mn → pL (yT R S0) (szN R S0) (nMS S) k (pt i) (vs i) (cs i) (ls i) (hs i)) (hf : ∀ i : Nat, i < mn → ∃ z : Nat, f i = some z ∧ vTy S0 z ∧ abT S0 z = pt i) (hk : lkN (Zr S 63) (ftN cs mn)) (hc : cvN (ftN cs mn) (ftN ls mn) fl t) (hfr : fr = 0 ∨ fr = 1) (h9 : b + (1 + fr) * (ftN cs mn).length + 2 * (ftN ls mn).length ≤ 90000) (h16 : (ftN cs mn).length < 100) (hρ : ∀ i : Nat, i < mn → rkN R S0 g (pt i) + 1 ≤ ρ) (hN : ρ * (ftN cs mn).length + 103 * (ftN ls mn).length + mn * fr ≤ N) : Rt (f_laterParts R.K S o (nI mn) (nI (hdN (ftN cs mn))) (nI fr)) (fun S2 _ => drN R.K N (DPG fr (ftN cs mn) (ftN ls mn) (ftN hs mn) fl t b S) S2) := by
  have hy := nYk_of hL
  unfold f_laterParts
  rcases ho with w | ⟨ta, w, ht⟩
  · subst w
    rw [show bigN = (bigN - 1) + 1 from rfl]
    unfold f_laterParts_5
    exact Rt.ip (by decide) (Rt.rt (drM (f := f) hL hx ih eR KO.rf (by rw [h81]; rfl) (fun i hi => by omega) hq hfl hp hf hk hc hfr h9 hρ hN))
  · subst w
    have hle : ∀ i : Nat, i < mn → 1 ≤ (cs i).length := fun i hi => by
      rw [(hp i hi).len hy]; exact (hy.1 _).1
    have hmn : mn ≤ (ftN cs mn).length := by
      rw [ftN_len]
      have : psN (fun _ => 1) mn ≤ psN (fun i => (cs i).length) mn := psN_p9 hle
      rw [psN_c9] at this; omega
    refine (lpt5 (d := b) (fr := fr) (f := f) (cs := cs) hL hx eR ht hcap (fun i hi => ?_) hk (fun i hi => ?_) (fun i => (hy.1 _).1) h16 hfr ?_ mn bigN S (Nat.le_refl _) (by unfold bigN; omega) KO.rf (by rw [h81, Nat.sub_self, Nat.mul_zero, Nat.add_zero]) (fun i a b => by omega)).mo (fun S2 _ ⟨q1, q2, q3⟩ => drM (f := f) hL hx ih eR q1 q2 q3 hq hfl hp hf hk hc hfr h9 hρ hN)
    · obtain ⟨z, z1, z2, _⟩ := hf i hi
      exact ⟨z, z1, Or.inl z2⟩
    · obtain ⟨z, z1, z2, z3⟩ := hf i hi
      rw [(hp i hi).len hy, z1, ← z3]; rfl
    · rcases hfr with w | w <;> subst w <;> omega
end PS40
