/-- a step of the reference comes to its end, with P -/
def Rt {α : Type} (x : Option (Sg × α)) (P : Sg → α → Prop) : Prop := ∃ (S : Sg) (r : α), x = some (S, r) ∧ P S r
theorem Rt.bd {α β : Type} {x : Option β} {v : β} {g : β → Option (Sg × α)} {P : Sg → α → Prop} (h : x = some v) (k : Rt (g v) P) : Rt (x.bind g) P := by rw [h]; exact k
theorem Rt.bn {α β : Type} {x : Option (Sg × β)} {g : Sg → β → Option (Sg × α)} {Q : Sg → β → Prop} {P : Sg → α → Prop} (h : Rt x Q) (k : ∀ (S : Sg) (r : β), Q S r → Rt (g S r) P) : Rt (bnd x g) P := by
  obtain ⟨S, r, e, q⟩ := h
  rw [e]; exact k S r q
theorem Rt.be {α β : Type} {x : Option (Sg × β)} {S : Sg} {r : β} {g : Sg → β → Option (Sg × α)} {P : Sg → α → Prop} (h : x = some (S, r)) (k : Rt (g S r) P) : Rt (bnd x g) P := by rw [h]; exact k
theorem Rt.it {α : Type} {c : Prop} [Decidable c] {a b : Option (Sg × α)} {P : Sg → α → Prop} (ka : c → Rt a P) (kb : ¬ c → Rt b P) : Rt (if c then a else b) P := by
  by_cases q : c
  · rw [if_pos q]; exact ka q
  · rw [if_neg q]; exact kb q
theorem Rt.ip {α : Type} {c : Prop} [Decidable c] {a b : Option (Sg × α)} {P : Sg → α → Prop} (q : c) (ka : Rt a P) : Rt (if c then a else b) P := by rw [if_pos q]; exact ka
theorem Rt.iq {α : Type} {c : Prop} [Decidable c] {a b : Option (Sg × α)} {P : Sg → α → Prop} (q : ¬ c) (kb : Rt b P) : Rt (if c then a else b) P := by rw [if_neg q]; exact kb
theorem Rt.rt {α : Type} {S : Sg} {r : α} {P : Sg → α → Prop} (h : P S r) : Rt (some (S, r)) P := ⟨S, r, rfl, h⟩
theorem Rt.zr {S : Sg} {v : Int32} {P : Sg → Int32 → Prop} (hv : v = 0 ∨ v = 1) (h : P S v) : Rt ((zB v).bind fun _ => some (S, v)) P := by
  unfold zB; rw [if_pos hv]; exact ⟨S, v, rfl, h⟩
theorem Rt.mo {α : Type} {x : Option (Sg × α)} {P Q : Sg → α → Prop} (h : Rt x P) (k : ∀ (S : Sg) (r : α), P S r → Q S r) : Rt x Q := by
  obtain ⟨S, r, e, q⟩ := h
  exact ⟨S, r, e, k S r q⟩
theorem bigN_gt {n : Nat} (h : n ≤ 100000000000) : ∃ m : Nat, bigN = m + 1 ∧ n ≤ m := ⟨999999999999, rfl, by omega⟩
