section LY23
variable {R : yR} {S0 Sb S S1 S2 : Sg} {P h h0 L Lb z n : Nat} {Γ Γ0 Γ2 : List Nat} {E : eV} {s s2 : List tE} {V : Sg → Option Nat → Option (Sg × Unit)}
theorem SNH.lx (hx : LX S0 S) (q : SNH R S0) : SNH R S := by
  have e : ∀ r : Nat, r < 10 → Zr S r = Zr S0 r := fun r hr => hx.2.2.1 r (fun w => by rcases w with w | w <;> omega)
  unfold SNH
  rw [e 0 (by decide), e 6 (by decide), e 7 (by decide)]
  exact q
theorem sng_36 (hT : R.T ≤ 3001) {ta tb a1 a2 ln : Nat} (hta : ta < R.T) (htb : tb < R.T) (e1 : Zr S 6 ta = nI a1) (e2 : Zr S 6 tb = nI a2) (h1 : a1 + ln ≤ 3000) (h2 : a2 + ln ≤ 3000) : ∀ (n j : Nat), ln < j + n → j ≤ ln → (∀ i : Nat, i < j → Zr S 0 (a1 + i) = Zr S 0 (a2 + i)) → Rt (f_sameName_36 R.K n S (nI ta) (nI tb) (nI ln) (nI j)) (fun S2 r => S2 = S ∧ ((r = 1 ∧ ∀ i : Nat, i < ln → Zr S 0 (a1 + i) = Zr S 0 (a2 + i)) ∨ (r = 0 ∧ ∃ i : Nat, i < ln ∧ ¬ Zr S 0 (a1 + i) = Zr S 0 (a2 + i))))
  | 0, j, a, b, _ => absurd a (by omega)
  | n + 1, j, a, b, hj0 => by
    unfold f_sameName_36
    refine Rt.it (fun hc => Rt.zr (Or.inr rfl) ⟨rfl, Or.inl ⟨rfl, fun i hi => hj0 i ?_⟩⟩) (fun hc => ?_)
    · have := (nI_leI (a := ln) (b := j) (by omega) (by omega)).mp hc; omega
    have hj : j < ln := by
      rcases Nat.lt_or_ge j ln with z | z
      · exact z
      · exact absurd (nI_le z (by omega)) hc
    refine Rt.bd (rI_n (show ta < rlen 6 by show ta < 3002; omega) (by decide)) ?_
    rw [e1, nI_add]
    refine Rt.bd (rI_n (show a1 + j < rlen 0 by show a1 + j < 3000; omega) (by decide)) ?_
    refine Rt.bd (rI_n (show tb < rlen 6 by show tb < 3002; omega) (by decide)) ?_
    rw [e2, nI_add]
    refine Rt.bd (rI_n (show a2 + j < rlen 0 by show a2 + j < 3000; omega) (by decide)) ?_
    refine Rt.it (fun w => ?_) (fun w => Rt.zr (Or.inl rfl) ⟨rfl, Or.inr ⟨rfl, j, hj, w⟩⟩)
    rw [nI_1]
    exact sng_36 hT hta htb e1 e2 h1 h2 n (j + 1) (by omega) (by omega) (fun i hi => by
      by_cases e : i = j
      · subst e; exact w
      · exact hj0 i (by omega))
/-- sameName, wherever tokens' texts are as they were read -/
theorem sng_ (q : SNH R S) {ta tb : Nat} (hta : ta < R.T) (htb : tb < R.T) : Rt (f_sameName R.K S (nI ta) (nI tb)) (fun S2 r => S2 = S ∧ ((r = 1 ∧ nmE R ta tb) ∨ (r = 0 ∧ ¬ nmE R ta tb))) := by
  obtain ⟨hT, ⟨z0, z6, z7⟩, h⟩ := q
  obtain ⟨a1, b1, ea1, eb1, hab1, hbz1⟩ := h ta hta
  obtain ⟨a2, b2, ea2, eb2, hab2, hbz2⟩ := h tb htb
  have ha1 : (Zr R.S 6 ta).toNatClampNeg = a1 := by rw [← z6, ea1, nI_clamp (by omega)]
  have ha2 : (Zr R.S 6 tb).toNatClampNeg = a2 := by rw [← z6, ea2, nI_clamp (by omega)]
  have hb1 : (Zr R.S 7 ta).toNatClampNeg = b1 := by rw [← z7, eb1, nI_clamp (by omega)]
  have hb2 : (Zr R.S 7 tb).toNatClampNeg = b2 := by rw [← z7, eb2, nI_clamp (by omega)]
  unfold nmE
  rw [ha1, ha2, hb1, hb2, ← z0]
  unfold f_sameName
  refine Rt.bd (rI_n (show ta < rlen 7 by show ta < 3002; omega) (by decide)) ?_
  refine Rt.bd (rI_n (show ta < rlen 6 by show ta < 3002; omega) (by decide)) ?_
  refine Rt.bd (rI_n (show tb < rlen 7 by show tb < 3002; omega) (by decide)) ?_
  refine Rt.bd (rI_n (show tb < rlen 6 by show tb < 3002; omega) (by decide)) ?_
  rw [ea1, eb1, ea2, eb2, nI_sb hab1, nI_sb hab2]
  refine Rt.it (fun hc => ?_) (fun hc => Rt.zr (Or.inl rfl) ⟨rfl, Or.inr ⟨rfl, fun w => hc (by rw [w.1])⟩⟩)
  have hln : b2 - a2 = b1 - a1 := (nI_eq (by omega) (by omega)).mp hc
  refine (sng_36 hT hta htb ea1 ea2 (by omega) (by omega) bigN 0 (by show _ < 0 + 1000000000000; omega) (by omega) (fun i hi => absurd hi (by omega))).mo (fun S2 r q => ⟨q.1, ?_⟩)
  rcases q.2 with ⟨w1, w2⟩ | ⟨w1, i, w2, w3⟩
  · exact Or.inl ⟨w1, hln.symm, w2⟩
  · exact Or.inr ⟨w1, fun w => w3 (w.2 i w2)⟩
/-- fieldOf in the laying -/
theorem fol_ {i k : Nat} {v : Int32} (hL : RIn R S0) (hS : SNH R S0) (q : fnm R S0 i k v) (hx : LX S0 S) : Rt (f_fieldOf R.K S (some (R.ws i)) v) (fun S2 r => S2 = S ∧ r = nI k) := by
  obtain ⟨fs, na, mn, tj, g, h1, h2, h3, h4, h5, h6, h7, rfl, h9, h10, h11, h12⟩ := q
  obtain ⟨w1, fs2, w2, w3, w4⟩ := hx.it (hL _ h1.1) h2
  obtain ⟨n1, n2⟩ := hx.ro (hL _ h6.1) h7
  have hS2 := hS.lx hx
  have hg : ∀ (m j : Nat), k < j + m → j ≤ k → Rt (f_fieldOf_2 R.K m S (some (R.ws i)) (nI tj) (nI j)) (fun S2 r => S2 = S ∧ r = nI k) := by
    intro m
    induction m with
    | zero => intro j a b; omega
    | succ m ih =>
      intro j a b
      unfold f_fieldOf_2
      refine Rt.bd (oI_mk w1 w2 (v := nI mn) ((w4 3 (by decide) (Or.inl (by decide))).trans h3)) (Rt.iq (fun w => ?_) ?_)
      · have := (nI_leI (a := mn) (b := j) (by omega) (by omega)).mp w; omega
      refine Rt.bd (oR_mk (v := some na) w1 w2 ((w4 8 (by decide) (Or.inl (by decide))).trans h5)) (Rt.bd (aI_n n1 n2 (show j < 13 by omega) (by decide)) ?_)
      by_cases e : j = k
      · subst e
        obtain ⟨s, s1, s2, s3⟩ := h11
        rw [s1]
        refine Rt.bn (sng_ hS2 s2 h9) (fun S3 r3 q3 => ?_)
        obtain ⟨rfl, ⟨e1, _⟩ | ⟨_, e2⟩⟩ := q3
        · rw [e1]; exact Rt.iq (by decide) (Rt.rt ⟨rfl, rfl⟩)
        · exact absurd s3 e2
      · obtain ⟨s, s1, s2, s3⟩ := h12 j (by omega)
        rw [s1]
        refine Rt.bn (sng_ hS2 s2 h9) (fun S3 r3 q3 => ?_)
        obtain ⟨rfl, ⟨_, e1⟩ | ⟨e2, _⟩⟩ := q3
        · exact absurd e1 s3
        · rw [e2, nI_1]; exact Rt.ip rfl (ih (j + 1) (by omega) (by omega))
  exact hg bigN 0 (by unfold bigN; omega) (Nat.zero_le _)
/-- order: the fields that a new struct's exps fill -/
theorem ord_ {e i mn cap sa : Nat} {g : Nat → Int32} {fo : Nat → Nat} {gs : List Value} (hL : RIn R S0) (hS : SNH R S0) (he : e ∈ ZL R.S) (g1 : ZF S0 e = .inr (15, gs)) (g2 : gs[4]? = some (.int (nI i))) (g3 : gs[11]? = some (.int (nI mn))) (g4 : gs[10]? = some (.ref sa)) (hsa : sa ∈ ZL R.S) (g5 : ZF S0 sa = .inl (R.K.1 0, cap, .inl g)) (hcap : mn ≤ cap) (hm : mn ≤ 12) (hm1 : 1 ≤ mn) (hi : i < 70) (hq : Zq S0 11 i = some (R.ws i)) (hf : ∀ k : Nat, k < mn → fo k < mn ∧ fnm R S0 i (fo k) (g k)) (hx : LX S0 S) (hz : ∀ a ∈ ZL S, a < Zz S) (h1 : Zz S + 1 ≤ R.K.2.1) (h2 : Zn S + 12 ≤ R.K.2.2) : Rt (f_order R.K S (some e)) (fun S2 r => NW S S2 ∧ rAr R S2 r ((List.range mn).map fo) ∧ Zz S2 ≤ Zz S + 1 ∧ Zn S2 ≤ Zn S + 12 ∧ ∀ a : Nat, r = some a → a ∉ ZL S) := by
  have hno : Zz S ∉ ZL S := fun w => Nat.lt_irrefl _ (hz _ w)
  have hg : ∀ (m k : Nat) (S1 : Sg) (f : Nat → Int32), mn < k + m → k ≤ mn → NW S S1 → (Zz S ∈ ZL S1 ∧ ZF S1 (Zz S) = .inl (R.K.1 0, mn, .inl f)) → (Zz S1 = Zz S + 1 ∧ Zn S1 = Zn S + mn) → (∀ j : Nat, j < k → f j = nI (fo j)) → Rt (f_order_9 R.K m S1 (some e) (some (Zz S)) (nI k)) (fun S2 r => NW S S2 ∧ rAr R S2 r ((List.range mn).map fo) ∧ Zz S2 ≤ Zz S + 1 ∧ Zn S2 ≤ Zn S + 12 ∧ ∀ a : Nat, r = some a → a ∉ ZL S) := by
    intro m
    induction m with
    | zero => intro k S1 f a b; omega
    | succ m ih =>
      intro k S1 f a b w hf1 hz1 hfo
      have hx1 : LX S0 S1 := hx.tr w.lx
      unfold f_order_9
      refine Rt.bd (hx1.vi (by decide) (by decide) (oI_mk (hL e he) g1 (v := nI mn) g3)) (Rt.it (fun q => ?_) (fun q => ?_))
      · have : mn ≤ k := (nI_leI (by omega) (by omega)).mp q
        obtain rfl : k = mn := by omega
        refine Rt.rt ⟨w, Or.inr ⟨Zz S, f, rfl, hf1.1, ?_, ?_, fun j x hj => ?_⟩, by omega, by omega, fun a e => by cases e; exact hno⟩
        · rw [List.length_map, List.length_range]; exact hf1.2
        · intro e
          have := congrArg List.length e
          rw [List.length_map, List.length_range] at this
          have : k = 0 := this
          omega
        · rw [List.getElem?_map] at hj
          by_cases ej : j < k
          · rw [List.getElem?_range ej] at hj
            cases hj
            exact ⟨hfo j ej, by have := (hf j ej).1; omega⟩
          · rw [List.getElem?_eq_none (by rw [List.length_range]; omega)] at hj
            cases hj
      · have hlt : k < mn := by
          by_cases e : k < mn
          · exact e
          · exact absurd (nI_le (a := mn) (b := k) (by omega) (by omega)) q
        obtain ⟨r1, r2⟩ := hx1.ro (hL sa hsa) g5
        have hq1 : rQ S1 11 (nI i) = some (some (R.ws i)) := by rw [rQ_n (show i < rlen 11 from hi) (by decide), hx1.2.2.2.2.1 11 (fun w => by rcases w with w | w | w <;> omega), hq]
        refine Rt.bd (hx1.vi (by decide) (by decide) (oI_mk (hL e he) g1 (v := nI i) g2)) (Rt.bd hq1 (Rt.bd (hx1.vr (by decide) (by decide) (oR_mk (hL e he) g1 (v := some sa) g4)) (Rt.bd (aI_j r1 r2 (by omega) (by omega)) (Rt.bn (fol_ hL hS (hf k hlt).2 hx1) (fun S3 r3 q3 => ?_)))))
        obtain ⟨rfl, rfl⟩ := q3
        refine Rt.bd (bI_n hf1.1 hf1.2 hlt (by omega)) ?_
        rw [nI_1]
        refine ih (k + 1) _ _ (by omega) (by omega) (w.uF hno) ⟨hf1.1, ZF_s⟩ hz1 (fun j hj => ?_)
        by_cases ej : j = k
        · subst ej; rw [upd_s]
        · rw [upd_n ej]; exact hfo j (by omega)
  unfold f_order
  refine Rt.bd (hx.vi (by decide) (by decide) (oI_mk (hL e he) g1 (v := nI mn) g3)) (Rt.be (nA_ok (by omega) ⟨h1, by omega⟩) ?_)
  exact hg bigN 0 _ (fun _ => 0) (by unfold bigN; omega) (Nat.zero_le _) ((NW.rf hz).un) ⟨List.mem_cons_self, ZF_uz⟩ ⟨rfl, rfl⟩ (fun j hj => absurd hj (by omega))
/-- what lists hold, on the stack -/
def stL (S0 : Sg) (tx : Nat → Nat) (k : Nat) (s : List tE) : List tE := dsl (fun q => eT (abT S0 (tx q))) k ++ s
theorem stL_nT {S0 : Sg} {tx : Nat → Nat} {s : List tE} (h : nT s) : ∀ k : Nat, nT (stL S0 tx k s)
  | 0 => h
  | _ + 1 => nT_eT
theorem stL_wl (S0 : Sg) (tx : Nat → Nat) (s : List tE) : ∀ k : Nat, wl (stL S0 tx k s) = wl s + k
  | 0 => rfl
  | k + 1 => by
    show wl (eT (abT S0 (tx k)) :: stL S0 tx k s) = _
    rw [wl_eT, stL_wl S0 tx s k]; omega
theorem stL_mem {tx : Nat → Nat} {e : tE} (h : e ∈ s) (k : Nat) : e ∈ stL S0 tx k s := List.mem_append_right _ h
/-- the exps of a list are laid, then what is made of them -/
theorem gls7 {e mn k2 : Nat} {gs : List Value} {la sa cap : Nat} {f : Nat → Option Nat} {g : Nat → Int32} {tx ps bs : Nat → Nat} {kd : Int32} {zz : Nat} {Q : Sg → Unit → Prop} (hN : EN R S0 E) (hV : GvV R S0 E Γ V n) (he : e ∈ ZL R.S) (g1 : ZF S0 e = .inr (15, gs)) (g0 : gs[0]? = some (.int kd)) (g3 : gs[11]? = some (.int (nI mn))) (hm : mn ≤ 12) (hli : mn = 0 ∨ (gs[9]? = some (.ref la) ∧ CHx R S0 Γ n k2 zz la sa mn cap f g tx ps bs)) (htx : ∀ k : Nat, k < mn → rTy S0 (tx k)) (hA : ALv S0 E Γ s) (hh : mn = 0 ∨ wl s + 11 + 11 * k2 + 1 ≤ 177) (hT : ps mn ≤ R.T) (hP : P + (ps mn - ps 0) < 24000) (hl : L + bs mn ≤ 160 + bs 0) (hr : RMl R S (5 * (ps mn - ps 0)) (40 * (ps mn - ps 0))) (k0 : K0 S P) (hend : ∀ (S1 : Sg) (P1 L1 : Nat), GV R S0 S S1 E P P1 h (wl s + mn) Γ0 Γ2 L L1 s (stL S0 tx mn s) False (5 * (ps mn - ps 0)) (40 * (ps mn - ps 0)) → P1 + ps 0 ≤ P + ps mn → L1 + bs 0 ≤ L + bs mn → K0 S1 P1 → Rt (if kd = 3 then (f_giveList_60 R.K V S1 (some e) (nI (wl s)) 10) else ((oI S1 15 (some e) 0).bind fun v3 =>
    if v3 = 5 then (f_giveList_60 R.K V S1 (some e) (nI (wl s)) 8) else (f_giveList_60 R.K V S1 (some e) (nI (wl s)) 9))) Q) : ∀ (m k : Nat) (S1 : Sg) (P1 L1 : Nat), mn < k + m → k ≤ mn → GV R S0 S S1 E P P1 h (wl s + k) Γ0 Γ2 L L1 s (stL S0 tx k s) False (5 * (ps k - ps 0)) (40 * (ps k - ps 0)) → P1 + ps 0 ≤ P + ps k → L1 + bs 0 ≤ L + bs k → K0 S1 P1 → Rt (f_giveList_7 R.K V m S1 (some e) (nI (wl s)) (nI k)) Q
  | 0, k, S1, P1, L1, hm1, hk, _, _, _, _ => by omega
  | m + 1, k, S1, P1, L1, hm1, hk, gg, b1, b2, k1 => by
    have hL := hN.1
    unfold f_giveList_7
    refine Rt.bd (gg.1.1.vi (by decide) (by decide) (oI_mk (hL e he) g1 (v := nI mn) g3)) (Rt.it (fun q => ?_) (fun q => ?_))
    · have : mn ≤ k := (nI_leI (by omega) (by omega)).mp q
      obtain rfl : k = mn := by omega
      exact Rt.bd (gg.1.1.vi (by decide) (by decide) (oI_mk (hL e he) g1 (v := kd) g0)) (hend S1 P1 L1 gg b1 b2 k1)
    · have hlt : k < mn := by
        by_cases e : k < mn
        · exact e
        · exact absurd (nI_le (a := mn) (b := k) (by omega) (by omega)) q
      obtain ⟨l1, hX⟩ := hli.resolve_left (by omega)
      have hX2 := hX
      obtain ⟨hla, hl1, hsa, hcap, hel, hmo⟩ := hX2
      obtain ⟨y, p', s', f1, f2, f3, f4, f5⟩ := hel k hlt
      have hlt2 := xE_lt f3
      have hbc := xE_bc f3
      have m1 := hmo (k + 1) mn (by omega) (Nat.le_refl _)
      have m2 := hmo 0 k (Nat.zero_le _) (by omega)
      obtain ⟨r1, r2⟩ := gg.1.1.ro (hL la hla) hl1
      refine Rt.bd (gg.1.1.vr (by decide) (by decide) (oR_mk (hL e he) g1 (v := some la) l1)) (Rt.bd (aQ_j r1 r2 (by omega) (by omega)) ?_)
      rw [f1]
      refine Rt.bn (hV k2 y p' (ps (k + 1)) (bs k) (bs (k + 1)) (tx k) f3 S1 P1 (wl s + k) Γ2 L1 (stL S0 tx k s) gg.1 k1 (hA.mo (fun e he => stL_mem he k) (stL_nT hA.1 k)) (stL_wl S0 tx s k) (by omega) (by omega) (by omega) (by omega) (gg.rm hr (by omega) (by omega))) (fun S4 _ t4 => ?_)
      obtain ⟨P4, L4, g4, c1, c2, c3⟩ := t4
      rw [resE_r hN.2.1 (htx k hlt)] at g4
      have g4 : GV R S0 S1 S4 E P1 P4 (wl s + k) (wl (stL S0 tx (k + 1) s)) Γ2 Γ2 L1 L4 (stL S0 tx k s) (stL S0 tx (k + 1) s) False _ _ := g4
      rw [stL_wl] at g4
      rw [nI_1]
      exact gls7 hN hV he g1 g0 g3 hm hli htx hA hh hT hP hl hr k0 hend m (k + 1) S4 P4 L4 (by omega) (by omega) (gg.tr g4 (fun w => w.elim) (by omega) (by omega)) (by omega) (by omega) (k1.st g4.2.1 (by omega))
end LY23
