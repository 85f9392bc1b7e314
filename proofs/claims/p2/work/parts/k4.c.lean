/-- a row of exps and a row of signs of the same length -/
def rwS (K : Ky) (S : Sg) (la sa cp : Nat) (f : Nat → Option Nat) (g : Nat → Int32) : Prop := la ∈ ZL S ∧ sa ∈ ZL S ∧ ZF S la = .inl (K.1 9, cp, .inr (.inr (.inr (.inr f)))) ∧ ZF S sa = .inl (K.1 0, cp, .inl g)
section ADL
variable {K : Ky} {S : Sg} {e la sa cp n x : Nat} {fs : List Value} {f : Nat → Option Nat} {g : Nat → Int32} {sg : Int32}
theorem ne_or {F : Nat → va_E} {a b : Nat} {u : Nat × List Value} {r : ClassId × vp_A} (h1 : F a = .inr u) (h2 : F b = .inl r) : a ≠ b := fun q => by rw [q, h2] at h1; cases h1
theorem ne_rr {F : Nat → va_E} {a b n m : Nat} {k1 k2 : ClassId} {f : Nat → Option Nat} {g : Nat → Int32} (h1 : F a = .inl (k1, n, .inr (.inr (.inr (.inr f))))) (h2 : F b = .inl (k2, m, .inl g)) : a ≠ b := fun q => by rw [q, h2] at h1; cases h1
theorem okO_fr {S2 : Sg} {ci : Nat} (h : okO S ci (some x) = true) (h1 : x ∈ ZL S2) (h2 : ZF S2 x = ZF S x) : okO S2 ci (some x) = true := by
  obtain ⟨_, vs, q⟩ := okO_of h
  exact okO_mk h1 (h2.trans q)
theorem nI_ofN (n : Nat) : Int32.ofNat n = nI n := rfl
/-- an exp more -/
theorem a106 (hE : e ∈ ZL S) (hFe : ZF S e = .inr (15, fs)) (hl : fs.length = 14) (h9 : fs[9]? = some (.ref la)) (h10 : fs[10]? = some (.ref sa)) (h11 : fs[11]? = some (.int (nI n))) (hr : rwS K S la sa cp f g) (hn : n < cp) (hc : cp < 2 ^ 31) (hx : okO S 15 (some x) = true) : f_add_106 K S (some e) (some x) sg = some (UF (UF (UF S la (.inl (K.1 9, cp, .inr (.inr (.inr (.inr (va_up f n (some x)))))))) sa (.inl (K.1 0, cp, .inl (upd g n sg)))) e (.inr (15, fs.set 11 (.int (nI (n + 1))))), ()) := by
  obtain ⟨r1, r2, r3, r4⟩ := hr
  have e1 : e ≠ la := ne_or hFe r3
  have e2 : e ≠ sa := ne_or hFe r4
  have e3 : la ≠ sa := ne_rr r3 r4
  have hF2 : ZF (UF S la (.inl (K.1 9, cp, .inr (.inr (.inr (.inr (va_up f n (some x)))))))) e = .inr (15, fs) := (ZF_n e1).trans hFe
  have hF3 : ZF (UF (UF S la (.inl (K.1 9, cp, .inr (.inr (.inr (.inr (va_up f n (some x)))))))) sa (.inl (K.1 0, cp, .inl (upd g n sg)))) e = .inr (15, fs) := (ZF_n e2).trans hF2
  unfold f_add_106
  rw [oR_mk (v := some la) hE hFe h9]
  show (oI S 15 (some e) 11).bind _ = _
  rw [oI_mk hE hFe h11]
  show (bQ K 9 15 S (some la) (nI n) (some x)).bind _ = _
  rw [bQ_n r1 r3 hn hc hx]
  show (oR (UF S la _) 15 (some e) 10).bind _ = _
  rw [oR_mk (S := UF S la _) (v := some sa) hE hF2 h10]
  show (oI (UF S la _) 15 (some e) 11).bind _ = _
  rw [oI_mk (S := UF S la _) hE hF2 h11]
  show (bI K (UF S la _) (some sa) (nI n) sg).bind _ = _
  rw [bI_n (S := UF S la _) r2 ((ZF_n (fun q => e3 q.symm)).trans r4) hn hc]
  show (oI (UF (UF S la _) sa _) 15 (some e) 11).bind _ = _
  rw [oI_mk (S := UF (UF S la _) sa _) hE hF3 h11]
  show (pV (UF (UF S la _) sa _) 15 (some e) 11 (.int (nI n + 1))).bind _ = _
  rw [pV_mk (S := UF (UF S la _) sa _) hE hF3 (by rw [hl]; decide), nI_1]; rfl
/-- what add gives -/
def AdP (K : Ky) (S : Sg) (e n cp x : Nat) (fs : List Value) (f : Nat → Option Nat) (g : Nat → Int32) (sg : Int32) (X : Nat → Prop) (S2 : Sg) : Prop := ∃ (la sa cp2 : Nat) (f2 : Nat → Option Nat) (g2 : Nat → Int32), Zi S2 = Zi S ∧ GR X S S2 ∧ ZF S2 e = .inr (15, ((fs.set 9 (.ref la)).set 10 (.ref sa)).set 11 (.int (nI (n + 1)))) ∧ rwS K S2 la sa cp2 f2 g2 ∧ n + 1 ≤ cp2 ∧ cp2 ≤ 4 + 2 * n ∧ cp ≤ cp2 ∧ (∀ i : Nat, i < n → f2 i = f i ∧ g2 i = g i) ∧ f2 n = some x ∧ g2 n = sg ∧ (X la ∨ Zz S ≤ la) ∧ (X sa ∨ Zz S ≤ sa) ∧ Zz S2 ≤ Zz S + 2 ∧ Zn S2 + 4 * cp ≤ Zn S + 4 * cp2
theorem set_self {l : List Value} {k : Nat} {v : Value} (h : l[k]? = some v) : l.set k v = l := by
  obtain ⟨hk, e⟩ := List.getElem?_eq_some_iff.mp h
  rw [← e]; exact List.set_getElem_self hk
theorem a106P {X : Nat → Prop} {S0 : Sg} {fs0 : List Value} {f0 : Nat → Option Nat} {g0 : Nat → Int32} {cp0 : Nat} (hE : e ∈ ZL S) (hFe : ZF S e = .inr (15, fs)) (hl : fs.length = 14) (h9 : fs[9]? = some (.ref la)) (h10 : fs[10]? = some (.ref sa)) (h11 : fs[11]? = some (.int (nI n))) (hr : rwS K S la sa cp f g) (hn : n < cp) (hc : cp < 2 ^ 31) (hx : okO S 15 (some x) = true)
    (hg : GR X S0 S) (hi : Zi S = Zi S0) (hX : X e) (hla : X la ∨ Zz S0 ≤ la) (hsa : X sa ∨ Zz S0 ≤ sa) (hfs : fs = (fs0.set 9 (.ref la)).set 10 (.ref sa)) (hfg : ∀ i : Nat, i < n → f i = f0 i ∧ g i = g0 i) (hcp : cp ≤ 4 + 2 * n) (hcc : cp0 ≤ cp) (hz : Zz S ≤ Zz S0 + 2) (hnn : Zn S + 4 * cp0 ≤ Zn S0 + 4 * cp) : Rt (f_add_106 K S (some e) (some x) sg) (fun S2 _ => AdP K S0 e n cp0 x fs0 f0 g0 sg X S2) := by
  rw [a106 hE hFe hl h9 h10 h11 hr hn hc hx]
  obtain ⟨r1, r2, r3, r4⟩ := hr
  have e1 : e ≠ la := ne_or hFe r3
  have e2 : e ≠ sa := ne_or hFe r4
  have e3 : la ≠ sa := ne_rr r3 r4
  have hXX : ∀ {c : Nat}, (X c ∨ Zz S0 ≤ c) → ∀ b : Nat, b < Zz S0 → b = c → X b := fun h b hb q => by subst q; exact h.resolve_right (by omega)
  refine Rt.rt ⟨la, sa, cp, va_up f n (some x), upd g n sg, hi, ((hg.tr GR.uf (hXX hla)).tr GR.uf (hXX hsa)).tr GR.uf (hXX (Or.inl hX)), ?_, ⟨r1, r2, ?_, ?_⟩, hn, hcp, hcc, fun i hi => ?_, va_up_self _ _ _, if_pos rfl, hla, hsa, hz, hnn⟩
  · rw [ZF_s, hfs]
  · rw [ZF_n (fun q => e1 q.symm), ZF_n e3, ZF_s]
  · rw [ZF_n (fun q => e2 q.symm), ZF_s]
  · exact ⟨(va_up_ne _ _ (by omega)).trans (hfg i hi).1, (if_neg (by omega)).trans (hfg i hi).2⟩
/-- into longer rows -/
theorem a57 {X : Nat → Prop} {S0 : Sg} {l2 s2 : Nat} (hl : fs.length = 14) (h9 : fs[9]? = some (.ref la)) (h10 : fs[10]? = some (.ref sa)) (h11 : fs[11]? = some (.int (nI n))) (hn : 1 ≤ n ∧ n ≤ 3001) (hX : X e) (hl2 : Zz S0 ≤ l2) (hs2 : Zz S0 ≤ s2) (hcp : n = cp) : ∀ (m j : Nat), n < j + m → j ≤ n → ∀ {S : Sg} {f2 : Nat → Option Nat} {g2 : Nat → Int32}, e ∈ ZL S → ZF S e = .inr (15, fs) → rwS K S la sa cp f g → rwS K S l2 s2 (2 * n) f2 g2 → l2 ≠ la → s2 ≠ sa → (∀ i : Nat, i < n → ∃ y : Nat, f i = some y ∧ okO S 15 (some y) = true) → okO S 15 (some x) = true → (∀ i : Nat, i < j → f2 i = f i ∧ g2 i = g i) → GR X S0 S → Zi S = Zi S0 → Zz S ≤ Zz S0 + 2 → Zn S ≤ Zn S0 + 4 * n → Rt (f_add_57 K m S (some e) (some x) sg (some l2) (some s2) (nI j)) (fun S2 _ => AdP K S0 e n cp x fs f g sg X S2)
  | 0, j, a, b, S, f2, g2, _, _, _, _, _, _, _, _, _, _, _, _, _ => absurd a (by omega)
  | m + 1, j, a, b, S, f2, g2, hE, hFe, hr, hr2, d1, d2, hy, hx, hfg, hg, hi, hz, hnn => by
    obtain ⟨r1, r2, r3, r4⟩ := hr
    obtain ⟨t1, t2, t3, t4⟩ := hr2
    have e1 : e ≠ l2 := ne_or hFe t3
    have e2 : e ≠ s2 := ne_or hFe t4
    have e3 : l2 ≠ s2 := ne_rr t3 t4
    have e4 : la ≠ s2 := ne_rr r3 t4
    have e5 : l2 ≠ sa := ne_rr t3 r4
    unfold f_add_57
    refine Rt.bd (oI_mk hE hFe h11) (Rt.it (fun q => ?_) (fun q => ?_))
    · have hj : j = n := by
        rcases Nat.lt_or_ge j n with z | z
        · exact absurd q (fun q => by have := (nI_leI (by omega) (by omega)).mp q; omega)
        · omega
      subst hj
      refine Rt.bd (pV_mk (v := va_rf (some l2)) hE hFe (by rw [hl]; decide)) (Rt.bd (pV_mk (v := va_rf (some s2)) (fs := fs.set 9 (.ref l2)) hE ZF_s (by rw [List.length_set, hl]; decide)) ?_)
      have hXe : ∀ b : Nat, b < Zz S0 → b = e → X b := fun b _ q => by rw [q]; exact hX
      refine a106P (fs := (fs.set 9 (.ref l2)).set 10 (.ref s2)) (la := l2) (sa := s2) (cp := 2 * j) (f := f2) (g := g2) hE ZF_s (by rw [List.length_set, List.length_set]; exact hl) ?_ ?_ ?_ ⟨t1, t2, ?_, ?_⟩ (by omega) (by omega) ?_ ((hg.tr GR.uf hXe).tr GR.uf hXe) hi hX (Or.inr hl2) (Or.inr hs2) rfl hfg (by omega) (by omega) hz (show Zn S + 4 * cp ≤ Zn S0 + 4 * (2 * j) by omega)
      · rw [List.getElem?_set_ne (by decide), List.getElem?_set_self (by rw [hl]; decide)]
      · rw [List.getElem?_set_self (by rw [List.length_set, hl]; decide)]
      · rw [List.getElem?_set_ne (by decide), List.getElem?_set_ne (by decide)]; exact h11
      · rw [ZF_n (fun q => e1 q.symm), ZF_n (fun q => e1 q.symm)]; exact t3
      · rw [ZF_n (fun q => e2 q.symm), ZF_n (fun q => e2 q.symm)]; exact t4
      · obtain ⟨hx1, vs, hx2⟩ := okO_of hx
        by_cases ex : x = e
        · subst ex; exact okO_mk hx1 ZF_s
        · exact okO_mk hx1 ((ZF_n ex).trans ((ZF_n ex).trans hx2))
    · have hj : j < n := by
        rcases Nat.lt_or_ge j n with z | z
        · exact z
        · exact absurd (nI_le z (by omega)) q
      obtain ⟨y, hfy, hoy⟩ := hy j hj
      have hF2 : ZF (UF S l2 (.inl (K.1 9, 2 * n, .inr (.inr (.inr (.inr (va_up f2 j (some y)))))))) e = .inr (15, fs) := (ZF_n e1).trans hFe
      refine Rt.bd (oR_mk (v := some la) hE hFe h9) (Rt.bd (aQ_n r1 r3 (show j < cp by omega) (by omega)) ?_)
      rw [hfy]
      refine Rt.bd (bQ_n t1 t3 (show j < 2 * n by omega) (by omega) hoy) (Rt.bd (oR_mk (v := some sa) hE hF2 h10) (Rt.bd (aI_n r2 ((ZF_n (fun q => e5 q.symm)).trans r4) (show j < cp by omega) (by omega)) (Rt.bd (bI_n t2 ((ZF_n (fun q => e3 q.symm)).trans t4) (show j < 2 * n by omega) (by omega)) ?_)))
      rw [nI_1]
      have hok : ∀ {z : Nat}, okO S 15 (some z) = true → okO (UF (UF S l2 (.inl (K.1 9, 2 * n, .inr (.inr (.inr (.inr (va_up f2 j (some y)))))))) s2 (.inl (K.1 0, 2 * n, .inl (upd g2 j (g j))))) 15 (some z) = true := fun {z} h => by
        obtain ⟨h1, vs, h2⟩ := okO_of h
        exact okO_mk h1 ((ZF_n (ne_or h2 t4)).trans ((ZF_n (ne_or h2 t3)).trans h2))
      refine a57 hl h9 h10 h11 hn hX hl2 hs2 hcp m (j + 1) (by omega) (by omega) hE ((ZF_n e2).trans hF2) ⟨r1, r2, (ZF_n e4).trans ((ZF_n (fun q => d1 q.symm)).trans r3), (ZF_n (fun q => d2 q.symm)).trans ((ZF_n (fun q => e5 q.symm)).trans r4)⟩ ⟨t1, t2, (ZF_n e3).trans ZF_s, ZF_s⟩ d1 d2 (fun i hi => by obtain ⟨y2, h1, h2⟩ := hy i hi; exact ⟨y2, h1, hok h2⟩) (hok hx) (fun i hi => ?_) ((hg.tr GR.uf (fun b hb q => absurd q (by omega))).tr GR.uf (fun b hb q => absurd q (by omega))) hi hz hnn
      by_cases ei : i = j
      · subst ei; exact ⟨(va_up_self _ _ _).trans hfy.symm, if_pos rfl⟩
      · exact ⟨(va_up_ne _ _ ei).trans (hfg i (by omega)).1, (if_neg ei).trans (hfg i (by omega)).2⟩
theorem add_ {X : Nat → Prop} (hz : ∀ a ∈ ZL S, a < Zz S) (hE : e ∈ ZL S) (hFe : ZF S e = .inr (15, fs)) (hl : fs.length = 14) (h11 : fs[11]? = some (.int (nI n))) (hn : n ≤ 3001) (hx : okO S 15 (some x) = true) (hX : X e) (hrow : (n = 0 ∧ cp = 0 ∧ fs[9]? = some .null) ∨ (∃ la sa : Nat, fs[9]? = some (.ref la) ∧ fs[10]? = some (.ref sa) ∧ rwS K S la sa cp f g ∧ n ≤ cp ∧ 1 ≤ n ∧ X la ∧ X sa)) (hy : ∀ i : Nat, i < n → ∃ y : Nat, f i = some y ∧ okO S 15 (some y) = true) (hc : cp ≤ 4 + 2 * n) (r1 : Zz S + 2 ≤ K.2.1) (r2 : Zn S + 8 + 4 * n ≤ K.2.2) : Rt (f_add K S (some e) (some x) sg) (fun S2 _ => AdP K S e n cp x fs f g sg X S2) := by
  unfold f_add
  have hXe : ∀ b : Nat, b < Zz S → b = e → X b := fun b _ q => by rw [q]; exact hX
  have hez := hz e hE
  rcases hrow with ⟨rfl, rfl, h9⟩ | ⟨la, sa, h9, h10, hr, hncp, hn1, hXl, hXs⟩
  · refine Rt.bd (oR_mk (v := none) hE hFe h9) (Rt.ip rfl ?_)
    refine Rt.be (nQ_ok (n := 4) (by decide) ⟨by omega, by omega⟩) ?_
    have e1 : e ≠ Zz S := by omega
    have hF1 : ZF (Un S (.inl (K.1 9, 4, .inr (.inr (.inr (.inr (fun _ => none)))))) 4) e = .inr (15, fs) := (updE_n e1).trans hFe
    refine Rt.bd (pV_mk (v := va_rf (some (Zz S))) (List.mem_cons_of_mem _ hE) hF1 (by rw [hl]; decide)) ?_
    refine Rt.be (nA_ok (n := 4) (by decide) ⟨by show Zz S + 1 + 1 ≤ _; omega, by show Zn S + 4 + 4 ≤ _; omega⟩) ?_
    have e2 : e ≠ Zz S + 1 := by omega
    have hF3 : ZF (Un (UF (Un S (.inl (K.1 9, 4, .inr (.inr (.inr (.inr (fun _ => none)))))) 4) e (.inr (15, fs.set 9 (va_rf (some (Zz S)))))) (.inl (K.1 0, 4, .inl (fun _ => 0))) 4) e = .inr (15, fs.set 9 (.ref (Zz S))) := (updE_n e2).trans ZF_s
    refine Rt.bd (pV_mk (v := va_rf (some (Zz S + 1))) (List.mem_cons_of_mem _ (List.mem_cons_of_mem _ hE)) hF3 (by rw [List.length_set, hl]; decide)) ?_
    have hE4 : e ∈ (Zz S + 1) :: Zz S :: ZL S := List.mem_cons_of_mem _ (List.mem_cons_of_mem _ hE)
    unfold f_add_22
    refine Rt.bd (oI_mk (v := nI 0) hE4 ZF_s (by rw [List.getElem?_set_ne (by decide), List.getElem?_set_ne (by decide)]; exact h11)) (Rt.bd (oR_mk (v := some (Zz S)) hE4 ZF_s (by rw [List.getElem?_set_ne (by decide), List.getElem?_set_self (by rw [hl]; decide)]; rfl)) ?_)
    have hrl : ZF (UF (Un (UF (Un S (.inl (K.1 9, 4, .inr (.inr (.inr (.inr (fun _ => none)))))) 4) e (.inr (15, fs.set 9 (va_rf (some (Zz S)))))) (.inl (K.1 0, 4, .inl (fun _ => 0))) 4) e (.inr (15, (fs.set 9 (.ref (Zz S))).set 10 (va_rf (some (Zz S + 1)))))) (Zz S) = .inl (K.1 9, 4, .inr (.inr (.inr (.inr (fun _ => none))))) := by
      rw [ZF_n (fun q => e1 q.symm)]
      exact (updE_n (by show Zz S ≠ Zz S + 1; omega)).trans ((ZF_n (fun q => e1 q.symm)).trans updE_s)
    have hrs : ZF (UF (Un (UF (Un S (.inl (K.1 9, 4, .inr (.inr (.inr (.inr (fun _ => none)))))) 4) e (.inr (15, fs.set 9 (va_rf (some (Zz S)))))) (.inl (K.1 0, 4, .inl (fun _ => 0))) 4) e (.inr (15, (fs.set 9 (.ref (Zz S))).set 10 (va_rf (some (Zz S + 1)))))) (Zz S + 1) = .inl (K.1 0, 4, .inl (fun _ => 0)) := by
      rw [ZF_n (fun q => e2 q.symm)]; exact updE_s
    have hml : Zz S ∈ (Zz S + 1) :: Zz S :: ZL S := List.mem_cons_of_mem _ List.mem_cons_self
    refine Rt.bd (v := nI 4) ?_ ?_
    · unfold aLn
      rw [aC_mk (S := UF (Un (UF (Un S _ 4) e _) _ 4) e _) hml hrl]
      exact if_pos rfl
    refine Rt.iq (by decide) ?_
    refine a106P (n := 0) (fs := (fs.set 9 (.ref (Zz S))).set 10 (.ref (Zz S + 1))) (la := Zz S) (sa := Zz S + 1) (cp := 4) (f := fun _ => none) (g := fun _ => 0) hE4 ZF_s (by rw [List.length_set, List.length_set]; exact hl) ?_ ?_ ?_ ⟨hml, List.mem_cons_self, hrl, hrs⟩ (by decide) (by decide) ?_ (((GR.un.tr GR.uf hXe).n GR.un).tr GR.uf hXe) rfl hX (Or.inr (Nat.le_refl _)) (Or.inr (Nat.le_succ _)) rfl (fun i hi => absurd hi (by omega)) (by omega) (by omega) (Nat.le_refl _) (show Zn S + 4 + 4 + 4 * 0 ≤ Zn S + 4 * 4 by omega)
    · rw [List.getElem?_set_ne (by decide), List.getElem?_set_self (by rw [hl]; decide)]
    · rw [List.getElem?_set_self (by rw [List.length_set, hl]; decide)]
    · rw [List.getElem?_set_ne (by decide), List.getElem?_set_ne (by decide)]; exact h11
    · obtain ⟨hx1, vs, hx2⟩ := okO_of hx
      have hxz := hz x hx1
      have hx4 : x ∈ (Zz S + 1) :: Zz S :: ZL S := List.mem_cons_of_mem _ (List.mem_cons_of_mem _ hx1)
      by_cases ex : x = e
      · subst ex; exact okO_mk hx4 ZF_s
      · exact okO_mk hx4 ((ZF_n ex).trans ((updE_n (by show x ≠ Zz S + 1; omega)).trans ((ZF_n ex).trans ((updE_n (by omega)).trans hx2))))
  · refine Rt.bd (oR_mk (v := some la) hE hFe h9) (Rt.iq (fun q => by cases q) ?_)
    unfold f_add_22
    have hr' := hr
    obtain ⟨t1, t2, t3, t4⟩ := hr'
    refine Rt.bd (oI_mk hE hFe h11) (Rt.bd (oR_mk (v := some la) hE hFe h9) (Rt.bd (v := nI cp) ?_ ?_))
    · unfold aLn
      rw [aC_mk t1 t3]; exact if_pos rfl
    · refine Rt.it (fun q => ?_) (fun q => ?_)
      · have hcn : n = cp := (nI_eq (by omega) (by omega)).mp q
        refine Rt.bd (oI_mk hE hFe h11) ?_
        rw [nI_2]
        refine Rt.be (nQ_ok (n := 2 * n) (by omega) ⟨by omega, by omega⟩) ?_
        have hza := hz la t1; have hzs := hz sa t2
        have hF1 : ZF (Un S (.inl (K.1 9, 2 * n, .inr (.inr (.inr (.inr (fun _ => none)))))) (2 * n)) e = .inr (15, fs) := (updE_n (by omega)).trans hFe
        refine Rt.bd (oI_mk (List.mem_cons_of_mem _ hE) hF1 h11) ?_
        rw [nI_2]
        refine Rt.be (nA_ok (n := 2 * n) (by omega) ⟨by show Zz S + 1 + 1 ≤ _; omega, by show Zn S + 2 * n + 2 * n ≤ _; omega⟩) ?_
        have hok : ∀ {y : Nat}, okO S 15 (some y) = true → okO (Un (Un S (.inl (K.1 9, 2 * n, .inr (.inr (.inr (.inr (fun _ => none)))))) (2 * n)) (.inl (K.1 0, 2 * n, .inl (fun _ => 0))) (2 * n)) 15 (some y) = true := fun {y} h => by
          obtain ⟨h1, vs, h2⟩ := okO_of h
          have := hz y h1
          exact okO_mk (List.mem_cons_of_mem _ (List.mem_cons_of_mem _ h1)) ((updE_n (by show y ≠ Zz S + 1; omega)).trans ((updE_n (by omega)).trans h2))
        have hup : ∀ {a : Nat} {c : va_E}, a ∈ ZL S → ZF S a = c → ZF (Un (Un S (.inl (K.1 9, 2 * n, .inr (.inr (.inr (.inr (fun _ => none)))))) (2 * n)) (.inl (K.1 0, 2 * n, .inl (fun _ => 0))) (2 * n)) a = c := fun {a c} h1 h2 => by
          have := hz a h1
          exact (updE_n (by show a ≠ Zz S + 1; omega)).trans ((updE_n (by omega)).trans h2)
        refine a57 (S0 := S) (l2 := Zz S) (s2 := Zz S + 1) (cp := cp) (f2 := fun _ => none) (g2 := fun _ => 0) hl h9 h10 h11 ⟨hn1, hn⟩ hX (Nat.le_refl _) (Nat.le_succ _) hcn bigN 0 (by show n < 0 + 1000000000000; omega) (by omega) (List.mem_cons_of_mem _ (List.mem_cons_of_mem _ hE)) (hup hE hFe) ⟨List.mem_cons_of_mem _ (List.mem_cons_of_mem _ t1), List.mem_cons_of_mem _ (List.mem_cons_of_mem _ t2), hup t1 t3, hup t2 t4⟩ ⟨List.mem_cons_of_mem _ List.mem_cons_self, List.mem_cons_self, ?_, ?_⟩ (by omega) (by omega) (fun i hi => by obtain ⟨y, h1, h2⟩ := hy i hi; exact ⟨y, h1, hok h2⟩) (hok hx) (fun i hi => absurd hi (by omega)) (GR.un.n GR.un) rfl (Nat.le_refl _) (show Zn S + 2 * n + 2 * n ≤ _ by omega)
        · exact (updE_n (by show Zz S ≠ Zz S + 1; omega)).trans updE_s
        · exact updE_s
      · have hlt : n < cp := by
          rcases Nat.lt_or_ge n cp with z | z
          · exact z
          · exact absurd (by rw [show n = cp by omega]) q
        refine a106P hE hFe hl h9 h10 h11 hr hlt (by omega) hx GR.rf rfl hX (Or.inl hXl) (Or.inl hXs) ?_ (fun _ _ => ⟨rfl, rfl⟩) hc (Nat.le_refl _) (by omega) (Nat.le_refl _)
        rw [set_self h9, set_self h10]
end ADL
