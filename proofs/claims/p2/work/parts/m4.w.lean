/-- while one instruction runs: nodes of A, cells of B, variables' places of P, the stack -/
def GO (A B P : Nat → Prop) (S S2 : Sg) : Prop := RNx S S2 ∧ (∀ j : Nat, j = 3 ∨ j = 66 ∨ j = 70 ∨ j = 76 ∨ j = 77 ∨ j = 86 → Zi S2 j = Zi S j) ∧ Zr S2 75 = Zr S 75 ∧ (∀ n : Nat, ¬ A n → Zl S2 61 n = Zl S 61 n ∧ Zr S2 62 n = Zr S 62 n ∧ Zr S2 63 n = Zr S 63 n) ∧ (∀ q : Nat, ¬ B q → Zr S2 67 q = Zr S 67 q) ∧ ∀ q : Nat, ¬ P q → Zr S2 74 q = Zr S 74 q
section PS74
variable {K : Ky} {Sl S S1 S2 : Sg} {A B P A2 B2 P2 : Nat → Prop} {d m f s : Nat}
theorem GO.rf : GO A B P S S := ⟨RNx.rf, fun _ _ => rfl, rfl, fun _ _ => ⟨rfl, rfl, rfl⟩, fun _ _ => rfl, fun _ _ => rfl⟩
theorem GO.tr (a : GO A B P S S1) (b : GO A B P S1 S2) : GO A B P S S2 := ⟨a.1.tr b.1, fun j h => (b.2.1 j h).trans (a.2.1 j h), b.2.2.1.trans a.2.2.1, fun n h => by
    obtain ⟨x1, x2, x3⟩ := a.2.2.2.1 n h
    obtain ⟨y1, y2, y3⟩ := b.2.2.2.1 n h
    exact ⟨y1.trans x1, y2.trans x2, y3.trans x3⟩, fun q h => (b.2.2.2.2.1 q h).trans (a.2.2.2.2.1 q h), fun q h => (b.2.2.2.2.2 q h).trans (a.2.2.2.2.2 q h)⟩
theorem GO.mo (a : GO A B P S S2) (h1 : ∀ n : Nat, A n → A2 n) (h2 : ∀ n : Nat, B n → B2 n) (h3 : ∀ n : Nat, P n → P2 n) : GO A2 B2 P2 S S2 := ⟨a.1, a.2.1, a.2.2.1, fun n h => a.2.2.2.1 n (fun w => h (h1 n w)), fun n h => a.2.2.2.2.1 n (fun w => h (h2 n w)), fun n h => a.2.2.2.2.2 n (fun w => h (h3 n w))⟩
theorem NO.go (e : NO A S S2) : GO A B P S S2 := ⟨e.rn, fun j h => e.2.2.2.2.2.2.2.1 j (by omega) (by omega), by rw [e.2.2.2.2.2.2.1 75 (by decide) (by decide)], e.2.2.2.2.2.2.2.2, fun _ _ => by rw [e.2.2.2.2.2.2.1 67 (by decide) (by decide)], fun _ _ => by rw [e.2.2.2.2.2.2.1 74 (by decide) (by decide)]⟩
theorem HO.go (e : HO B S S2) : GO A B P S S2 := ⟨(HO.do (A := A) (d := 0) e).rn, fun j h => e.2.2.2.2.2.2.2.1 j (by omega) (by omega), by rw [e.2.2.2.2.2.2.1 75 (by decide)], fun n _ => by rw [e.2.2.2.2.2.1, e.2.2.2.2.2.2.1 62 (by decide), e.2.2.2.2.2.2.1 63 (by decide)]; exact ⟨rfl, rfl, rfl⟩, e.2.2.2.2.2.2.2.2, fun _ _ => by rw [e.2.2.2.2.2.2.1 74 (by decide)]⟩
theorem SO.go (e : SO S S2) : GO A B P S S2 := ⟨e.rn, fun j h => e.2.2.2.2.2.2.2 j (by omega), by rw [e.2.2.2.2.2.2.1], fun n _ => by rw [e.2.2.2.2.2.1 61 (by decide), e.2.2.2.2.2.2.1]; exact ⟨rfl, rfl, rfl⟩, fun _ _ => by rw [e.2.2.2.2.2.2.1], fun _ _ => by rw [e.2.2.2.2.2.2.1]⟩
theorem DO.go (e : DO A B d S S2) : GO A B P S S2 := ⟨e.rn, fun j h => e.2.2.2.2.2.2.2.1 j (by omega) (by omega) (by omega) (by omega), by rw [e.2.2.2.2.2.2.1 75 (by decide) (by decide) (by decide) (by decide)], e.2.2.2.2.2.2.2.2.1, e.2.2.2.2.2.2.2.2.2.1, fun _ _ => by rw [e.2.2.2.2.2.2.1 74 (by decide) (by decide) (by decide) (by decide)]⟩
theorem Ur.go {p : Nat} {v : Int32} (h : P p) : GO A B P S (Ur S 74 (upd (Zr S 74) p v)) := ⟨⟨rfl, rfl, ⟨rfl, rfl⟩, rfl, rfl, fun r hr => Zr_u9 (by omega), fun _ _ => rfl, fun _ _ _ => rfl⟩, fun _ _ => rfl, Zr_u9 (by decide), fun _ _ => ⟨rfl, by rw [Zr_u9 (by decide)], by rw [Zr_u9 (by decide)]⟩, fun _ _ => by rw [Zr_u9 (by decide)], fun q hq => by
    rw [Zr_us]; exact upd_n (fun w => hq (by rw [w]; exact h))⟩
theorem RX.go (h : RX Sl S) (e : GO A B P S S2) (hw : wq S2) (h81 : Zi S2 81 = nI 0) : RX Sl S2 := h.mk e.1 hw (e.2.1 86 (by decide)) (e.2.1 66 (by decide)) h81
theorem GO.ag {l : List Nat} (e : GO A B P S S2) (h : ∀ a ∈ l, ¬ A a) : agN (nMS S) (nMS S2) l := fun a ha => e.2.2.2.1 a (h a ha)
theorem SO.wq (e : SO S S2) (h : wq S) : wq S2 := h.eq (e.2.2.2.2.2.2.2 83 (by decide)) (e.2.2.2.2.2.2.2 84 (by decide))
/-- freeBlock -/
theorem fbk_ (hm : m < 430000) (hb : blW (Zl S 61 m) = nI s) (hv : vrW (Zl S 61 m) = nI f) (h4 : f + s ≤ 4000) : Rt (f_freeBlock K S (nI m)) (fun S2 _ => HO (fun q => q ∈ rgN f s) S S2 ∧ ∀ q ∈ rgN f s, Zr S2 67 q = 0) := by
  unfold f_freeBlock
  refine Rt.be (S := S) (r := nI s) (by unfold f_blockLong; rw [rJ_n (show m < rlen 61 from hm) (by decide), ← hb]; rfl) (Rt.be (S := S) (r := nI f) (by unfold f_variantOf_; rw [rJ_n (show m < rlen 61 from hm) (by decide), ← hv]; rfl) ?_)
  refine (fb15 (S := S) h4 bigN 0 S (by unfold bigN; omega) (Nat.zero_le _) HO.rf rfl (fun q a b => by omega)).mo (fun S3 _ ⟨q1, _, _, q4⟩ => ⟨⟨q1.1, q1.2.1, q1.2.2.1, q1.2.2.2.1, q1.2.2.2.2.1, q1.2.2.2.2.2.1, q1.2.2.2.2.2.2.1, q1.2.2.2.2.2.2.2.1, fun q hq => q1.2.2.2.2.2.2.2.2 q (fun w => hq (rgN_mem.mpr w))⟩, fun q hq => q4 q (rgN_mem.mp hq).1 (rgN_mem.mp hq).2⟩)
/-- kidOf -/
theorem kid_ {n : Nat} (hm : m < 430000) (hk : kdW (Zl S 61 m) = nI n) : f_kidOf K S (nI m) = some (S, nI n) := by
  unfold f_kidOf
  rw [rJ_n (show m < rlen 61 from hm) (by decide)]
  show some (S, kdW (Zl S 61 m)) = _
  rw [hk]
end PS74
