/-- only the rows of longs in P are written -/
def OXs (P : Nat → Prop) (S S2 : Sg) : Prop := PSx S S2 ∧ (∀ r : Nat, ¬ P r → Zl S2 r = Zl S r) ∧ Zr S2 = Zr S ∧ Zi S2 = Zi S
/-- how many of the first n bits are 0 -/
def zc (x : Int64) : Nat → Nat
  | 0 => 0
  | n + 1 => zc x n + (if lbit x n = true then 0 else 1)
/-- .. of m words from a on -/
def cw (f : Nat → Int64) (a : Nat) : Nat → Nat
  | 0 => 0
  | m + 1 => cw f a m + zc (f (a + m)) 64
/-- all that f has g has -/
def sbL (f g : Nat → Int64) : Prop := ∀ w b : Nat, lbit (f w) b = true → lbit (g w) b = true
section PS2
variable {R : yR} {S0 S S1 S2 Sr : Sg} {ws Ps Pe k n : Nat} {I : Nat → iR} {f g : Nat → Int64} {P : Nat → Prop} {x y : Int64}
theorem OXs.rf : OXs P S S := ⟨PSx.rf, fun _ _ => rfl, rfl, rfl⟩
theorem OXs.tr (a : OXs P S S1) (b : OXs P S1 S2) : OXs P S S2 := ⟨a.1.tr b.1, fun r h => (b.2.1 r h).trans (a.2.1 r h), b.2.2.1.trans a.2.2.1, b.2.2.2.trans a.2.2.2⟩
theorem OXs.ul {r : Nat} {f : Nat → Int64} (hr : 53 ≤ r ∧ r ≤ 60) (h : P r) : OXs P S (Ul S r f) := ⟨PSx.ul hr, fun r2 h2 => va_up_ne _ _ (fun e => h2 (e ▸ h)), rfl, rfl⟩
theorem OXs.mo {P2 : Nat → Prop} (a : OXs P S S2) (h : ∀ r : Nat, P r → P2 r) : OXs P2 S S2 := ⟨a.1, fun r q => a.2.1 r (fun w => q (h r w)), a.2.2⟩
theorem Zl_us {r : Nat} {f : Nat → Int64} : Zl (Ul S r f) r = f := va_up_self _ _ _
theorem Zl_un {r r2 : Nat} {f : Nat → Int64} (h : r2 ≠ r) : Zl (Ul S r f) r2 = Zl S r2 := va_up_ne _ _ h
theorem zc_le : ∀ {n : Nat}, (∀ b : Nat, lbit x b = true → lbit y b = true) → zc y n ≤ zc x n
  | 0, _ => Nat.le_refl _
  | n + 1, h => by
    have := zc_le (n := n) h
    show zc y n + _ ≤ zc x n + _
    by_cases e : lbit x n = true
    · rw [if_pos e, if_pos (h _ e)]; omega
    · rw [if_neg e]
      by_cases e2 : lbit y n = true
      · rw [if_pos e2]; omega
      · rw [if_neg e2]; omega
theorem zc_lt {b : Nat} : ∀ {n : Nat}, (∀ b : Nat, lbit x b = true → lbit y b = true) → b < n → lbit x b = false → lbit y b = true → zc y n < zc x n
  | 0, _, h, _, _ => by omega
  | n + 1, h, h1, h2, h3 => by
    show zc y n + _ < zc x n + _
    by_cases e : b = n
    · subst e
      have := zc_le (n := b) h
      rw [if_pos h3, if_neg (by rw [h2]; decide)]; omega
    · have := zc_lt (n := n) h (by omega) h2 h3
      by_cases e1 : lbit x n = true
      · rw [if_pos e1, if_pos (h _ e1)]; omega
      · rw [if_neg e1]
        by_cases e2 : lbit y n = true
        · rw [if_pos e2]; omega
        · rw [if_neg e2]; omega
theorem zc_b : ∀ {n : Nat}, zc x n ≤ n
  | 0 => Nat.le_refl _
  | n + 1 => by
    have := zc_b (n := n)
    show zc x n + _ ≤ n + 1
    by_cases e : lbit x n = true
    · rw [if_pos e]; omega
    · rw [if_neg e]; omega
theorem cw_le {a : Nat} : ∀ {m : Nat}, sbL f g → cw g a m ≤ cw f a m
  | 0, _ => Nat.le_refl _
  | m + 1, h => by
    have := cw_le (a := a) (m := m) h
    have := zc_le (n := 64) (h (a + m))
    show cw g a m + _ ≤ cw f a m + _
    omega
theorem cw_lt {a w : Nat} : ∀ {m : Nat}, sbL f g → a ≤ w → w < a + m → f w ≠ g w → cw g a m < cw f a m
  | 0, _, h1, h2, _ => by omega
  | m + 1, h, h1, h2, h3 => by
    show cw g a m + _ < cw f a m + _
    by_cases e : w = a + m
    · subst e
      have := cw_le (a := a) (m := m) h
      have hb : ∃ b : Nat, b < 64 ∧ lbit (f (a + m)) b = false ∧ lbit (g (a + m)) b = true := by
        refine Classical.byContradiction (fun q => h3 (lbit_eq (fun b hb => ?_)))
        by_cases q1 : lbit (f (a + m)) b = true
        · rw [q1, h _ _ q1]
        · by_cases q2 : lbit (g (a + m)) b = true
          · exact absurd ⟨b, hb, by simpa using q1, q2⟩ q
          · rw [show lbit (f (a + m)) b = false by simpa using q1, show lbit (g (a + m)) b = false by simpa using q2]
      obtain ⟨b, b1, b2, b3⟩ := hb
      have := zc_lt (n := 64) (h (a + m)) b1 b2 b3
      omega
    · have := cw_lt (m := m) h h1 (by omega) h3
      have := zc_le (n := 64) (h (a + m))
      omega
theorem cw_b {a : Nat} : ∀ {m : Nat}, cw f a m ≤ 64 * m
  | 0 => Nat.le_refl _
  | m + 1 => by
    have := cw_b (a := a) (m := m)
    have := zc_b (x := f (a + m)) (n := 64)
    show cw f a m + _ ≤ _
    omega
theorem sbL.rf : sbL f f := fun _ _ h => h
theorem sbL.tr {h : Nat → Int64} (a : sbL f g) (b : sbL g h) : sbL f h := fun w c q => b w c (a w c q)
theorem sbL.or {j : Nat} {v : Int64} : sbL f (vp_updL f j (f j ||| v)) := fun w b h => by
  by_cases e : w = j
  · subst e
    rw [show vp_updL f w (f w ||| v) w = f w ||| v from if_pos rfl, lbit_or, h]; rfl
  · rw [show vp_updL f j (f j ||| v) w = f w from if_neg e]; exact h
theorem upL_s {j : Nat} {v : Int64} : vp_updL f j v j = v := if_pos rfl
theorem upL_n {j w : Nat} {v : Int64} (h : w ≠ j) : vp_updL f j v w = f w := if_neg h
/-- who is used at point j or behind -/
def AHd (i : iR) (f : Nat → Int64) (j h : Nat) : Prop := h ∈ i.us ∨ (rb f (4 * j) h = true ∧ i.ho ≠ some h)
theorem ah55 {j : Nat} {B : Nat → Prop} (hC : PCx R S0 S ws Ps Pe I) (h1 : Ps ≤ j) (h2 : j < Pe) : ∀ (d n : Nat) (S1 : Sg), (I j).us.length < n + d → n ≤ (I j).us.length → OXs (fun r => r = 60) S S1 → (∀ h : Nat, h < 256 → (rb (Zl S1 60) 0 h = true ↔ (B h ∨ ∃ m : Nat, m < n ∧ (I j).us[m]? = some h))) → Rt (f_ahead_55 R.K d S1 (nI j) (nI n)) (fun S2 _ => OXs (fun r => r = 60) S S2 ∧ ∀ h : Nat, h < 256 → (rb (Zl S2 60) 0 h = true ↔ (B h ∨ h ∈ (I j).us)))
  | 0, n, S1, hd, hn, _, _ => by omega
  | d + 1, n, S1, hd, hn, e, hr => by
    obtain ⟨hz, hs, hsl, hb⟩ := hC.2.2.2 j h1 h2
    have h24 := hC.2.1
    have hz1 := hz.ps e.1
    obtain ⟨_, _, _, _, _, _, q7, _⟩ := hz1
    have hend : n = (I j).us.length → Rt (f_ahead_98 R.K S1) (fun S2 _ => OXs (fun r => r = 60) S S2 ∧ ∀ h : Nat, h < 256 → (rb (Zl S2 60) 0 h = true ↔ (B h ∨ h ∈ (I j).us))) := fun hh => by
      unfold f_ahead_98
      refine Rt.rt ⟨e, fun h hh2 => (hr h hh2).trans ⟨fun w => w.imp id (fun ⟨m, _, q⟩ => List.mem_of_getElem? q), fun w => w.imp id (fun q => ?_)⟩⟩
      obtain ⟨m, hm⟩ := List.mem_iff_getElem?.mp q
      exact ⟨m, by have := (List.getElem?_eq_some_iff.mp hm).1; omega, hm⟩
    unfold f_ahead_55
    have r37 : rQ S1 37 (nI j) = some (Zq S1 37 j) := rQ_n (show j < rlen 37 from by show j < 24000; omega) (by decide)
    rcases q7 with ⟨a1, a2⟩ | ⟨a, ff, a1, a2, a3, a4, a5⟩
    · rw [a1] at r37
      exact Rt.bd r37 (Rt.ip rfl (hend (by rw [a2] at hn ⊢; exact Nat.le_zero.mp hn)))
    · rw [a1] at r37
      have hlen : (I j).us.length ≤ 12 := hb.2.2.2.1
      refine Rt.bd r37 (Rt.iq (by simp) (Rt.bd r37 (Rt.bd (aLn_n a2 a3) (Rt.it (fun w => ?_) (fun w => ?_)))))
      · exact hend (by have := (nI_leI (by omega) (by omega)).mp w; omega)
      · have hlt : n < (I j).us.length := by
          by_cases q : n < (I j).us.length
          · exact q
          · exact absurd (nI_le (a := (I j).us.length) (b := n) (by omega) (by omega)) w
        have hg := List.getElem?_eq_getElem hlt
        obtain ⟨b1, b2⟩ := a5 n _ hg
        have hu := hb.2.1 _ (List.getElem_mem hlt)
        refine Rt.bd r37 (Rt.bd (by rw [aI_n a2 a3 hlt (by omega), b1]) ?_)
        refine Rt.be (put_ (base := 0) (on := true) (by omega) (show 0 + (I j).us[n] / 64 < rlen 60 from by show _ < 4; omega) (by decide)) ?_
        rw [nI_1]
        have e2 : OXs (fun r => r = 60) S1 (Ul S1 60 (pB (Zl S1 60) 0 (I j).us[n] true)) := OXs.ul (by decide) rfl
        refine ah55 hC h1 h2 d (n + 1) _ (by omega) (by omega) (e.tr e2) (fun h hh => ?_)
        rw [Zl_us, rb_pB]
        by_cases c : 0 + h / 64 = 0 + (I j).us[n] / 64 ∧ h % 64 = (I j).us[n] % 64
        · have : h = (I j).us[n] := by omega
          rw [if_pos c]
          exact ⟨fun _ => Or.inr ⟨n, Nat.lt_succ_self _, by rw [this]; exact hg⟩, fun _ => rfl⟩
        · rw [if_neg c, hr h hh]
          refine ⟨fun w => w.imp id (fun ⟨m, m1, m2⟩ => ⟨m, by omega, m2⟩), fun w => w.imp id (fun ⟨m, m1, m2⟩ => ⟨m, ?_, m2⟩)⟩
          by_cases em : m = n
          · subst em
            rw [hg] at m2
            have := Option.some.inj m2
            exact absurd ⟨by omega, by omega⟩ c
          · omega
end PS2
