/-- the size of the part p's type -/
def szP (fs fpt : Nat → Int32) (p : Nat) : Nat := (fs (fpt p).toNatClampNeg).toNatClampNeg
/-- where part k of row r begins, hd cells ahead of the first; 17 stands for all beyond 16 -/
def lyP (hd r : Nat) (fs fpt : Nat → Int32) : Nat → Nat
  | 0 => hd
  | k + 1 => min (lyP hd r fs fpt k + szP fs fpt (r * 12 + k)) 17
theorem lyP_le {hd r : Nat} {fs fpt : Nat → Int32} (h : hd ≤ 1) : ∀ k, lyP hd r fs fpt k ≤ 17
  | 0 => by show hd ≤ 17; omega
  | k + 1 => by show min _ 17 ≤ 17; omega
/-- how many parts row r has -/
def pcR (fpa : Nat → Int32) (r : Nat) : Nat := (fpa r).toNatClampNeg
/-- the rows of shape a below i lie as they should, within mo cells, and no part of them has no cells -/
def lyD (hd a i mo : Nat) (fs fpt fpa off : Nat → Int32) : Prop := ∀ j, j < i → lyP hd (a * 12 + j) fs fpt (pcR fpa (a * 12 + j)) ≤ mo ∧ ∀ k, k < pcR fpa (a * 12 + j) → off ((a * 12 + j) * 12 + k) = nI (lyP hd (a * 12 + j) fs fpt k) ∧ szP fs fpt ((a * 12 + j) * 12 + k) ≠ 0
/-- of row r the parts below k -/
def lyK (hd r k : Nat) (fs fpt off : Nat → Int32) : Prop := ∀ j, j < k → off (r * 12 + j) = nI (lyP hd r fs fpt j) ∧ szP fs fpt (r * 12 + j) ≠ 0
/-- outside of shape a's parts nothing has changed -/
def lyO (a : Nat) (off off2 : Nat → Int32) : Prop := ∀ j, ¬ (a * 144 ≤ j ∧ j < a * 144 + 144) → off2 j = off j
theorem lyD_put {hd a i mo p : Nat} {fs fpt fpa off : Nat → Int32} {x : Int32} (h : lyD hd a i mo fs fpt fpa off) (hpa : upI 360 12 fpa) (ha : a < 30) (hi : i < 12) (hp : (a * 12 + i) * 12 ≤ p) : lyD hd a i mo fs fpt fpa (upd off p x) := by
  intro j hj
  refine ⟨(h j hj).1, fun k hk => ?_⟩
  obtain ⟨n, hn, hne⟩ := hpa (a * 12 + j) (by omega)
  have hk2 : k < 12 := by have : pcR fpa (a * 12 + j) = n := by unfold pcR; rw [hne]; exact nI_clamp (by omega)
                          omega
  rw [pk_un (by omega)]
  exact (h j hj).2 k hk
theorem lyK_put {hd r k : Nat} {fs fpt off : Nat → Int32} (h : lyK hd r k fs fpt off) (hz : szP fs fpt (r * 12 + k) ≠ 0) : lyK hd r (k + 1) fs fpt (upd off (r * 12 + k) (nI (lyP hd r fs fpt k))) := by
  intro j hj
  by_cases e : j = k
  · subst e; exact ⟨pk_us, hz⟩
  · rw [pk_un (by omega)]; exact h j (by omega)
theorem lyO_put {a p : Nat} {off off2 : Nat → Int32} {x : Int32} (h : lyO a off off2) (h1 : a * 144 ≤ p) (h2 : p < a * 144 + 144) : lyO a off (upd off2 p x) := fun j hj => by rw [pk_un (by omega)]; exact h j hj
theorem lyD_next {hd a i mo mo2 : Nat} {fs fpt fpa off : Nat → Int32} (h : lyD hd a i mo fs fpt fpa off) (hm : mo ≤ mo2) (hl : lyP hd (a * 12 + i) fs fpt (pcR fpa (a * 12 + i)) ≤ mo2) (hk : lyK hd (a * 12 + i) (pcR fpa (a * 12 + i)) fs fpt off) : lyD hd a (i + 1) mo2 fs fpt fpa off := by
  intro j hj
  by_cases e : j = i
  · subst e; exact ⟨hl, hk⟩
  · exact ⟨Nat.le_trans (h j (by omega)).1 hm, (h j (by omega)).2⟩
theorem max_nI {a b : Nat} {x : Int32} (ha : a < 2 ^ 31) (hb : b < 2 ^ 31) (hx : x = if nI a < nI b then nI b else nI a) : x = nI (max a b) := by
  by_cases c : a < b
  · rw [if_pos (nI_lt c hb)] at hx; rw [hx, Nat.max_eq_right (by omega)]
  · rw [if_neg (nI_nlt (by omega) (by omega))] at hx; rw [hx, Nat.max_eq_left (by omega)]
