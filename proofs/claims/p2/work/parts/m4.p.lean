section PS67
variable {R : yR} {S0 Sl S S1 S2 S3 : Sg} {g : Nat → Int32} {T k t : Nat} {y : qY} {zn sz rk : Nat → Nat} {M M2 : nM} {W V : qV} {c l h c0 l0 h0 fl : List Nat}
theorem psN_q9 {u w : Nat → Nat} : ∀ {n : Nat}, (∀ j : Nat, j < n → u j = w j) → psN u n = psN w n
  | 0, _ => rfl
  | n + 1, h => by
    show psN u n + u n = psN w n + w n
    rw [psN_q9 (fun j hj => h j (by omega)), h n (by omega)]
/-- a row of as many, in parts of as many -/
theorem ftN_spl {cs : Nat → List Nat} : ∀ {n : Nat} {c2 : List Nat}, c2.length = (ftN cs n).length → ∃ cs2 : Nat → List Nat, c2 = ftN cs2 n ∧ ∀ j : Nat, j < n → (cs2 j).length = (cs j).length
  | 0, c2, h => ⟨fun _ => [], by
      have h : c2.length = 0 := h
      exact List.eq_nil_of_length_eq_zero h, fun j hj => by omega⟩
  | n + 1, c2, h => by
    have h : c2.length = (ftN cs n ++ cs n).length := h
    rw [List.length_append] at h
    obtain ⟨cs2, e1, e2⟩ := ftN_spl (cs := cs) (n := n) (c2 := c2.take (ftN cs n).length) (by rw [List.length_take]; omega)
    refine ⟨lUp cs2 n (c2.drop (ftN cs n).length), ?_, fun j hj => ?_⟩
    · show c2 = ftN (lUp cs2 n (c2.drop (ftN cs n).length)) n ++ lUp cs2 n (c2.drop (ftN cs n).length) n
      rw [lUp_eq, ftN_cg (g := cs2) (fun j hj => lUp_ne (by omega)), ← e1, List.take_append_drop]
    · by_cases e : j = n
      · subst e
        rw [lUp_eq, List.length_drop]; omega
      · rw [lUp_ne e]; exact e2 j (by omega)
theorem ftN_cor {cs cs2 : Nat → List Nat} {n j i a b : Nat} (hl : ∀ j : Nat, j < n → (cs2 j).length = (cs j).length) (hj : j < n) (h1 : (cs j)[i]? = some a) (h2 : (cs2 j)[i]? = some b) : ∃ q : Nat, (ftN cs n)[q]? = some a ∧ (ftN cs2 n)[q]? = some b := by
  have i1 := (List.getElem?_eq_some_iff.mp h1).1
  have i2 := (List.getElem?_eq_some_iff.mp h2).1
  refine ⟨psN (fun j => (cs j).length) j + i, (ftN_get hj i1).trans h1, ?_⟩
  rw [← psN_q9 (u := fun j => (cs2 j).length) (fun q hq => hl q (by omega))]
  exact (ftN_get hj i2).trans h2
/-- a whole value, its own nodes copied -/
theorem pL.cp : ∀ {k T : Nat} {V : qV} {c l h c2 : List Nat}, pL y sz M k T V c l h → qF y V [] T → c2.length = c.length → (∀ i a b : Nat, c[i]? = some a → c2[i]? = some b → M2.w b = M.w a ∧ M2.h b = 1) → agN M M2 l → pL y sz M2 k T V c2 l h
  | 0, _, _, _, _, _, _, q, _, _, _, _ => q.elim
  | k + 1, T, V, c, l, h, c2, q, hf, hn, hc, ha => by
    rcases q with ⟨h2, cs, ls, hs, e1, e2, e3, hq⟩ | ⟨h2, n, e1, hl⟩
    · rw [e1] at hn hc
      rw [e2] at ha ⊢
      rw [e3]
      obtain ⟨cs2, b1, b2⟩ := ftN_spl hn
      rw [b1] at hc ⊢
      refine Or.inl ⟨h2, cs2, ls, hs, rfl, rfl, rfl, fun j hj => pL.cp (hq j hj) ?_ (b2 j hj) (fun i a b z1 z2 => ?_) (ha.im (fun a w => ftN_mem.mpr ⟨j, hj, w⟩))⟩
      · rw [qF_S]
        exact qF_in (ρ := [(0, j)]) hf (fun a w => by rw [List.mem_singleton.mp w]) ⟨h2, hj, rfl⟩
      · obtain ⟨p, p1, p2⟩ := ftN_cor b2 hj z1 z2
        exact hc p a b p1 p2
    · rw [e1] at hn hc
      match c2, hn with
      | [b], _ =>
        obtain ⟨w1, w2⟩ := hc 0 n b rfl rfl
        refine Or.inr ⟨h2, b, rfl, Or.inr ⟨w2, ?_⟩⟩
        rw [w1]
        rcases hl with ⟨z, _⟩ | ⟨_, z⟩
        · obtain ⟨z2, z3⟩ := (hf [] T qM_nil rfl).1 h2
          have z3 : V [] = some z2 := z3
          rw [z] at z3; cases z3
        · exact vL.st z ha
theorem NO.ag {A : Nat → Prop} (e : NO A S S2) (h : ∀ a ∈ l, ¬ A a) : agN (nMS S) (nMS S2) l := fun a ha => e.2.2.2.2.2.2.2.2 a (h a ha)
theorem bnd_s9 {α β : Type} {a : Sg} {b : α} {f : Sg → α → Option (Sg × β)} : bnd (some (a, b)) f = f a b := rfl
/-- takePlace -/
theorem tkp_ {x : Nat} (hL : LFS R S0 g) (hx : LX S0 Sl) (e : RNx Sl S) (hr : rTy S0 x) (eT : abT S0 x = T) (hp : pL (yT R S0) (szN R S0) (nMS S) k T W c0 l0 h0) (hk : lkN (Zr S 63) c0) (hF : qF (yT R S0) W [] T) (hf : FLs S fl t) (h1 : ∀ n ∈ fl, 1 ≤ n) (hro : t ≤ fl.length + 424640) (hcv : cvN c0 l0 fl t) : Rt (f_takePlace R.K S (some x) (nI (hdN c0))) (fun S2 r => ∃ (Ln fl2 : List Nat) (t2 : Nat), NO (fun m => m ∈ Ln ∨ m ∈ c0) S S2 ∧ FLs S2 fl2 t2 ∧ (∀ a : Nat, cnN a Ln + cnN a fl2 + ind t a = cnN a fl + ind t2 a) ∧ (∀ a ∈ c0, Zr S2 62 a = 0 ∧ Zr S2 63 a = Zr S 63 a) ∧ (∀ a ∈ Ln, a ∈ fl ∨ t < a) ∧ vaR (yT R S0) (szN R S0) (nMS S2) T W r (Ln ++ l0) h0) := by
  have hy := nYk_of hL
  have hlen := hp.len hy
  have hz := hy.1 T
  have hc1 : 1 ≤ c0.length := by omega
  have dis : ∀ a : Nat, a ∈ c0 → a ∉ fl ∧ a ∉ l0 ∧ a ≤ t := fun a ha => by
    obtain ⟨z1, z2⟩ := hcv a
    have m1 := cnN_mem.mp ha
    exact ⟨fun w => by have := cnN_mem.mp w; omega, fun w => by have := cnN_mem.mp w; omega, (z2 (by omega)).2⟩
  have dl : ∀ a : Nat, a ∈ l0 → a ∉ fl ∧ a ≤ t := fun a ha => by
    obtain ⟨z1, z2⟩ := hcv a
    have m1 := cnN_mem.mp ha
    exact ⟨fun w => by have := cnN_mem.mp w; omega, (z2 (by omega)).2⟩
  have nd0 : c0.Nodup := cnN_nd.mpr (fun a => by have := (hcv a).1; omega)
  have hbg : 100 < bigN := by unfold bigN; omega
  unfold f_takePlace
  generalize bigN = bg at hbg ⊢
  by_cases h2 : yK R S0 T = 2
  · obtain ⟨i9, ta, ff, o1, _⟩ := vwS hL hx e hr (by rw [eT]; exact h2)
    refine Rt.bd o1 (Rt.ip rfl ?_)
    have ho : ∀ z : Nat, some x = some z → rTy S0 z := fun z q => by cases q; exact hr
    have eo : zN R S0 (abU S0 (some x)) = zN R S0 T := by rw [← eT]; rfl
    have h16 := hz.2.1
    have hrm : zN R S0 T + t ≤ fl.length + 429999 := by omega
    refine Rt.bn (npl_ hL hx e (o := some x) ho (by rw [eo]; exact hz.1) (by rw [eo]; exact h16) hf (by rw [eo]; exact hrm)) (fun S4 r4 ⟨Ln, l2, t2, a, q1, q2, q3, q4, q5, q6, q7, q8, q9⟩ => ?_)
    rw [eo] at q1
    rw [lvo_ hL hx (e.tr q7.rn) ho, bnd_s9, eo, ← q1]
    have a0 : Ln[0]? = some a := q2
    have ea : a = hdN Ln := by
      have := hdN_0 (c := Ln) (by rw [q1]; exact hz.1)
      rw [a0] at this; exact Option.some.inj this
    have nfl : ∀ b : Nat, b ∈ Ln → b ∉ l2 ∧ (b ∈ fl ∨ t < b) := fun b hb => ⟨(q8.1 b hb).1, (q8.1 b hb).2.2⟩
    have c0L : ∀ b : Nat, b ∈ c0 → b ∉ Ln := fun b hb w => by
      obtain ⟨z1, _, z3⟩ := dis b hb
      rcases (nfl b w).2 with z | z
      · exact z1 z
      · omega
    have l0L : ∀ b : Nat, b ∈ l0 → b ∉ Ln := fun b hb w => by
      obtain ⟨z1, z3⟩ := dl b hb
      rcases (nfl b w).2 with z | z
      · exact z1 z
      · omega
    have x4 : ∀ b : Nat, b ∉ Ln → Zl S4 61 b = Zl S 61 b ∧ Zr S4 62 b = Zr S 62 b ∧ Zr S4 63 b = Zr S 63 b := fun b hb => q7.2.2.2.2.2.2.2.2 b hb
    refine (tk41 (z := r4) Ln c0 bg S4 r4 (nI (hdN c0)) (by rw [q1]; exact hlen.symm) (by rw [q1]; have := hz.2.1; omega) (by rw [q1]; have := hz.2.1; omega) q6 q4 (hk.cg (fun b hb => (x4 b (c0L b hb)).2.2)) q5 nd0 (fun b hb => ⟨(nfl b hb).1, fun w => c0L b w hb⟩) (fun b hb w => (dis b hb).1 (q8.2.2.1 b w)) (fun b hb => by rw [q3, Option.some.inj (q2.symm.trans hb)]) (fun b hb => by rw [Option.some.inj ((hdN_0 hc1).symm.trans hb)])).mo (fun S2 r ⟨p1, p2, p3, p4, p5⟩ => ?_)
    have hNO : NO (fun m => m ∈ Ln ∨ m ∈ c0) S S2 := (q7.mo (fun m w => Or.inl w)).tr p3
    have ge : ∀ b : Nat, b ∈ c0 → ∃ (i : Nat) (d : Nat), Ln[i]? = some d ∧ c0[i]? = some b := fun b hb => by
      obtain ⟨i, hi, e9⟩ := List.mem_iff_getElem.mp hb
      have hi2 : i < Ln.length := by rw [q1, ← hlen]; exact hi
      exact ⟨i, Ln[i], List.getElem?_eq_getElem hi2, by rw [List.getElem?_eq_getElem hi, e9]⟩
    refine ⟨Ln, l2, t2, hNO, p2, fun b => q8.eq q5 hf.2.2.2.1 q6.2.2.2.1 (fun n hn => ⟨h1 n hn, hf.2.2.2.2 n hn⟩) (fun n hn => (q4.1 n hn).1) b, fun b hb => ?_, fun b hb => (nfl b hb).2, Or.inl ⟨h2, k, Ln, l0, ?_, ?_, ?_, rfl⟩⟩
    · obtain ⟨i, d, i1, i2⟩ := ge b hb
      obtain ⟨_, _, z3, _⟩ := p5 i d b i1 i2
      exact ⟨z3, by rw [p4]; exact (x4 b (c0L b hb)).2.2⟩
    · refine hp.cp hF (by rw [q1]; exact hlen.symm) (fun i b d i1 i2 => ?_) (hNO.ag (fun b hb w => ?_))
      · obtain ⟨z1, z2, _, _⟩ := p5 i d b i2 i1
        refine ⟨?_, z2⟩
        show Zl S2 61 d = Zl S 61 b
        rw [z1]; exact (x4 b (c0L b (List.mem_of_getElem? i1))).1
      · rcases w with w | w
        · exact l0L b hb w
        · exact (dis b w).2.1 hb
    · show lkN (Zr S2 63) Ln
      rw [p4]; exact q4
    · rw [p1, q3, ea]; rfl
  · have hk2 : ∃ kd : Int32, oI S 20 (some x) 0 = some kd ∧ kd ≠ 3 := by
      obtain ⟨kd, ix, o, q, _⟩ := hr.ty
      obtain ⟨tn, _, _, z3, z4⟩ := e.ty (hx.ty q)
      refine ⟨kd, oI_mk z3 z4 rfl, fun w => h2 ?_⟩
      rcases yK_k hL hr q with ⟨z, _⟩ | ⟨_, i9, w1, w2, _, _, _, w3⟩ | z | z | z
      · rcases z with z | z | z | z <;> (rw [w] at z; exact absurd z (by decide))
      · rw [eT] at w3; exact w3
      · have := z.1; rw [w] at this; exact absurd this (by decide)
      · have := z.1; rw [w] at this; exact absurd this (by decide)
      · rcases z.1 with z | z <;> (rw [w] at z; exact absurd z (by decide))
    obtain ⟨kd, o1, o2⟩ := hk2
    have hy2 : (yT R S0).1 T ≠ 2 := h2
    cases k with
    | zero => exact hp.elim
    | succ k =>
    rcases hp with ⟨z, _⟩ | ⟨_, n, en, hl⟩
    · exact absurd z hy2
    · subst en
      generalize hh : hdN [n] = n9
      obtain rfl : n = n9 := hh
      obtain ⟨n1, n4⟩ := hk.1 n (List.mem_singleton_self n)
      refine Rt.bd o1 (Rt.iq o2 (Rt.bd (wZ_n (show n < rlen 62 from n4) (by decide) (Or.inl rfl)) ?_))
      have e2 : NO (fun m => m = n) S (Ur S 62 (upd (Zr S 62) n 0)) := NO.w2 rfl
      have v2 : Zl (Ur S 62 (upd (Zr S 62) n 0)) = Zl S := rfl
      have u2 : Zr (Ur S 62 (upd (Zr S 62) n 0)) 62 n = 0 := by rw [Zr_us, upd_s]
      have w2 : Zr (Ur S 62 (upd (Zr S 62) n 0)) 63 = Zr S 63 := Zr_u9 (by decide)
      have f2 : FLs (Ur S 62 (upd (Zr S 62) n 0)) fl t := hf.no e2 (fun m hm w => (dis n (List.mem_singleton_self n)).1 (by rw [← w]; exact hm)) rfl rfl
      generalize Ur S 62 (upd (Zr S 62) n 0) = S4 at e2 v2 u2 w2 f2
      refine Rt.bd (rJ_n (show n < rlen 61 from n4) (by decide)) (Rt.rt ⟨[], fl, t, e2.mo (fun m w => Or.inr (by rw [w]; exact List.mem_singleton_self n)), f2, fun a => by rw [show cnN a [] = 0 from rfl, Nat.zero_add], fun b hb => ?_, fun b hb => absurd hb (List.not_mem_nil), Or.inr ⟨hy2, k, ?_⟩⟩)
      · rw [List.mem_singleton.mp hb, w2]; exact ⟨u2, rfl⟩
      · rw [v2]
        rcases hl with ⟨z, _⟩ | ⟨_, z⟩
        · obtain ⟨z2, z3⟩ := (hF [] T qM_nil rfl).1 hy2
          have z3 : W [] = some z2 := z3
          rw [z] at z3; cases z3
        · exact vL.st z (e2.ag (fun b hb w => (dis n (List.mem_singleton_self n)).2.1 (by rw [← w]; exact hb)))
end PS67
