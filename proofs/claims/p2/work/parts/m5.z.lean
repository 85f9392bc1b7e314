section PS103
variable {R : yR} {K : Ky} {S0 Sl S S1 S2 S3 : Sg} {f n t p0 P0 ws aw cap : Nat} {g : Nat → Int32} {fl : List Nat} {gs : List Value} {fv : Nat → Option Nat} {ty : Nat → Nat} {W : Nat → qV} {L H : Nat → List Nat} {Q : Sg → Unit → Prop}
/-- some of a call's arguments lie in the new frame's variables -/
def cI9 (R : yR) (S0 : Sg) (f t p0 : Nat) (fl : List Nat) (ty : Nat → Nat) (W : Nat → qV) (L H : Nat → List Nat) (S : Sg) (i : Nat) (S1 : Sg) (c l : Nat → List Nat) (fl1 : List Nat) (t1 : Nat) : Prop := GO (fun a => a ∈ fl ∨ t < a) (fun _ => False) (fun p => ∃ j : Nat, j < i ∧ p = 40 * (f + 1) + j) S S1 ∧ (wq S → wq S1) ∧ (Zi S1 73 = Zi S 73 ∧ Zi S1 81 = Zi S 81 ∧ Zl S1 72 = Zl S 72) ∧ FLs S1 fl1 t1 ∧ (t ≤ t1 ∧ t1 + fl.length ≤ fl1.length + t + i ∧ ∀ a ∈ fl1, a ∈ fl) ∧ (∀ j : Nat, j < i → (∃ k : Nat, pL (yT R S0) (szN R S0) (nMS S1) k (ty j) (W j) (c j) (l j) (H j)) ∧ lkN (Zr S1 63) (c j) ∧ Zr S1 74 (40 * (f + 1) + j) = nI (hdN (c j)) ∧ ((yT R S0).1 (ty j) ≠ 2 → ∃ m : Nat, c j = [m] ∧ Zl S1 61 m = Zl S 72 (p0 + j))) ∧ ∀ a : Nat, psN (fun j => cnN a (c j) + cnN a (l j)) i + cnN a fl1 + ind t a = psN (fun j => cnN a (L j)) i + cnN a fl + ind t1 a
/-- runCall's loop over the arguments -/
theorem rc88 (hL : LFS R S0 g) (hx : LX S0 Sl) (e : RNx Sl S) (h76 : Zi S 76 = nI (f + 1 + 1)) (hf : f + 1 < 60) (ha : ws ∈ ZL Sl ∧ ZF Sl ws = .inr (16, gs) ∧ gs[3]? = some (.int (nI n)) ∧ gs[5]? = some (.int (nI P0)) ∧ gs[17]? = some (.ref aw)) (hw : aw ∈ ZL Sl ∧ ZF Sl aw = .inl (R.K.1 5, cap, .inr (.inr (.inr (.inr fv))))) (hn : n ≤ 12) (hnc : n ≤ cap ∧ cap < 1000) (hv : ∀ j : Nat, j < n → ∃ (va z : Nat) (mu : Int32), fv j = some va ∧ isU Sl va j (some z) mu ∧ rTy S0 z ∧ abT S0 z = ty j) (hva : ∀ j : Nat, j < n → vaR (yT R S0) (szN R S0) (nMS S) (ty j) (W j) (Zl S 72 (p0 + j)) (L j) (H j)) (h1 : ∀ a ∈ fl, 1 ≤ a) (hro : t ≤ fl.length + 424640) (hsub : ∀ a : Nat, psN (fun j => cnN a (L j)) n + cnN a fl ≤ ind t a) (hp0 : p0 + n < 20000)
  (kf : ∀ (S1 : Sg) (c l : Nat → List Nat) (fl1 : List Nat) (t1 : Nat), cI9 R S0 f t p0 fl ty W L H S n S1 c l fl1 t1 → Q (Ui (Ui S1 73 (nI p0)) 77 (nI P0)) ()) : ∀ (r i d : Nat) (S1 : Sg) (c l : Nat → List Nat) (fl1 : List Nat) (t1 : Nat), i + r = n → r < d → cI9 R S0 f t p0 fl ty W L H S i S1 c l fl1 t1 → Rt (f_runCall_88 R.K d S1 (some ws) (nI p0) (nI i)) Q
  | r, i, 0, _, _, _, _, _, _, hd, _ => by omega
  | 0, i, d + 1, S1, c, l, fl1, t1, hi, hd, q => by
    obtain rfl : i = n := by omega
    have e1 := e.tr q.1.1
    have q5 : oI (Ui S1 73 (nI p0)) 16 (some ws) 5 = some (nI P0) := oI_mk (show ws ∈ ZL S1 from by rw [e1.1]; exact ha.1) (show ZF S1 ws = _ from by rw [e1.2.1]; exact ha.2.1) ha.2.2.2.1
    unfold f_runCall_88
    refine Rt.bd (v := nI i) (oI_mk (by rw [e1.1]; exact ha.1) (by rw [e1.2.1]; exact ha.2.1) ha.2.2.1) (Rt.ip (nI_le (Nat.le_refl _) (by omega)) ?_)
    exact Rt.bd (v := Ui S1 73 (nI p0)) rfl (Rt.bd q5 (Rt.bd (v := Ui (Ui S1 73 (nI p0)) 77 (nI P0)) rfl (Rt.rt (kf S1 c l fl1 t1 q))))
  | r + 1, i, d + 1, S1, c, l, fl1, t1, hi, hd, q => by
    have hin : i < n := by omega
    obtain ⟨g1, g2, ⟨g31, g32, g33⟩, g4, ⟨g51, g52, g53⟩, g6, g7⟩ := q
    have e1 := e.tr g1.1
    obtain ⟨va, z, mu, v1, v2, v3, v4⟩ := hv i hin
    have oR4 : oR S1 16 (some ws) 17 = some (some aw) := oR_mk (v := some aw) (by rw [e1.1]; exact ha.1) (by rw [e1.2.1]; exact ha.2.1) ha.2.2.2.2
    have aq : aQ R.K 5 S1 (some aw) (nI i) = some (some va) := by
      rw [← v1]; exact aQ_n (by rw [e1.1]; exact hw.1) (by rw [e1.2.1]; exact hw.2) (by omega) (by omega)
    obtain ⟨sl1, sl2⟩ := slo_ (R := R) (f := f + 1) (S := S1) e1 v2 ((g1.2.1 76 (by decide)).trans h76)
    -- what is told of nodes
    have hLm : ∀ a : Nat, psN (fun j => cnN a (L j)) i + cnN a (L i) ≤ psN (fun j => cnN a (L j)) n := fun a => psN_sl (w := fun j => cnN a (L j)) (Nat.le_refl i) hin
    have ind1 : ∀ s a : Nat, ind s a ≤ 1 ∧ (1 ≤ ind s a → 1 ≤ a ∧ a ≤ s) := fun s a => by
      unfold ind
      by_cases cc : 1 ≤ a ∧ a ≤ s
      · rw [if_pos cc]; exact ⟨Nat.le_refl _, fun _ => cc⟩
      · rw [if_neg cc]; exact ⟨by omega, fun w => by omega⟩
    have hLi : ∀ a ∈ L i, a ∉ fl ∧ a ≤ t ∧ 1 ≤ a := fun a hai => by
      have w1 := cnN_mem.mp hai
      have w2 := hLm a
      have w3 := hsub a
      obtain ⟨w4, w5⟩ := ind1 t a
      obtain ⟨w6, w7⟩ := w5 (by omega)
      exact ⟨fun w => by have := cnN_mem.mp w; omega, w7, w6⟩
    have hold : ∀ j : Nat, j < i → ∀ a : Nat, (a ∈ c j ∨ a ∈ l j) → a ∉ fl1 ∧ a ≤ t1 := fun j hj a haj => by
      have w1 : 1 ≤ cnN a (c j) + cnN a (l j) := by
        rcases haj with w | w
        · have := cnN_mem.mp w; omega
        · have := cnN_mem.mp w; omega
      have w2 := psN_i1 (v := fun j => cnN a (c j) + cnN a (l j)) hj
      have w2 : cnN a (c j) + cnN a (l j) ≤ psN (fun j => cnN a (c j) + cnN a (l j)) i := w2
      have w3 := g7 a
      have w4 := hLm a
      have w5 := hsub a
      obtain ⟨w6, w7⟩ := ind1 t1 a
      exact ⟨fun w => by have := cnN_mem.mp w; omega, (w7 (by omega)).2⟩
    have hvi : vaR (yT R S0) (szN R S0) (nMS S1) (ty i) (W i) (Zl S 72 (p0 + i)) (L i) (H i) := (hva i hin).st (g1.ag (fun a hai w => by
      obtain ⟨w1, w2, _⟩ := hLi a hai
      rcases w with w | w
      · exact w1 w
      · omega))
    unfold f_runCall_88
    refine Rt.bd (v := nI n) (oI_mk (by rw [e1.1]; exact ha.1) (by rw [e1.2.1]; exact ha.2.1) ha.2.2.1) (Rt.iq (fun w => by have := (nI_leI (by omega) (by omega)).mp w; omega) ?_)
    refine Rt.bd oR4 (Rt.bd aq (Rt.be sl1 (Rt.bd oR4 (Rt.bd aq (Rt.bd sl2 ?_)))))
    rw [nI_add]
    refine Rt.bd (rJ_n (show p0 + i < rlen 72 from by show _ < 20000; omega) (by decide)) ?_
    rw [g33]
    refine Rt.bn (fpl_ (T := ty i) (W := W i) (l := L i) (h := H i) (fl := fl1) (t := t1) hL hx e1 v3 v4 hvi g4 (fun a w => h1 a (g53 a w)) (by omega) (fun a hai => ⟨fun w => (hLi a hai).1 (g53 a w), by have := (hLi a hai).2.1; omega⟩)) (fun S5 r5 ⟨c5, l5, fl3, t3, k3, b1, b2, b3, b4, b5, ⟨b71, b72, b73, b74⟩, b6⟩ => ?_)
    rw [b1]
    refine Rt.bd (wRI_n (show 40 * (f + 1) + i < rlen 74 from by show _ < 2440; omega) (by decide)) ?_
    have go6 : GO (fun _ => False) (fun _ => False) (fun p => p = 40 * (f + 1) + i) S5 (Ur S5 74 (upd (Zr S5 74) (40 * (f + 1) + i) (nI (hdN c5)))) := Ur.go rfl
    have y6 : Zr (Ur S5 74 (upd (Zr S5 74) (40 * (f + 1) + i) (nI (hdN c5)))) 74 = upd (Zr S5 74) (40 * (f + 1) + i) (nI (hdN c5)) := Zr_us
    have i6 : Zi (Ur S5 74 (upd (Zr S5 74) (40 * (f + 1) + i) (nI (hdN c5)))) = Zi S5 := rfl
    have l6 : Zl (Ur S5 74 (upd (Zr S5 74) (40 * (f + 1) + i) (nI (hdN c5)))) = Zl S5 := rfl
    have r6 : ∀ q : Nat, q ≠ 74 → Zr (Ur S5 74 (upd (Zr S5 74) (40 * (f + 1) + i) (nI (hdN c5)))) q = Zr S5 q := fun q hq => Zr_u9 hq
    have f6 : FLs (Ur S5 74 (upd (Zr S5 74) (40 * (f + 1) + i) (nI (hdN c5)))) fl3 t3 := b4.eq rfl rfl (r6 63 (by decide))
    generalize Ur S5 74 (upd (Zr S5 74) (40 * (f + 1) + i) (nI (hdN c5))) = S6 at go6 y6 i6 l6 r6 f6
    have n6 : nMS S6 = nMS S5 := by
      show (Zl S6 61, Zr S6 62, Zr S6 63) = (Zl S5 61, Zr S5 62, Zr S5 63)
      rw [l6, r6 62 (by decide), r6 63 (by decide)]
    have hag : ∀ j : Nat, j < i → ∀ a : Nat, (a ∈ c j ∨ a ∈ l j) → Zl S6 61 a = Zl S1 61 a ∧ Zr S6 62 a = Zr S1 62 a ∧ Zr S6 63 a = Zr S1 63 a := fun j hj a haj => by
      rw [l6, r6 62 (by decide), r6 63 (by decide)]
      obtain ⟨w1, w2⟩ := hold j hj a haj
      exact b5.2.2.2.2.2.2.2.2 a (fun w => by
        rcases w.1 with w | w
        · exact w1 w
        · omega)
    rw [nI_1]
    refine rc88 hL hx e h76 hf ha hw hn hnc hv hva h1 hro hsub hp0 kf r (i + 1) d S6 (lUp c i c5) (lUp l i l5) fl3 t3 (by omega) (by omega) ⟨?_, fun w => ((b5.wq (g2 w)).eq (by rw [i6]) (by rw [i6])), ⟨?_, ?_, ?_⟩, f6, ⟨by omega, by omega, fun a w => g53 a (b73 a w)⟩, fun j hj => ?_, fun a => ?_⟩
    · refine ((g1.mo (fun a w => w) (fun _ w => w) (fun p ⟨j, j1, j2⟩ => ⟨j, by omega, j2⟩)).tr (b5.go.mo (fun a w => ?_) (fun _ w => w) (fun _ w => w))).tr (go6.mo (fun _ w => w.elim) (fun _ w => w) (fun p w => ⟨i, Nat.lt_succ_self i, w⟩))
      rcases w.1 with w | w
      · exact Or.inl (g53 a w)
      · exact Or.inr (by omega)
    · rw [i6, b5.2.2.2.2.2.2.2.1 73 (by decide) (by decide)]; exact g31
    · rw [i6, b5.2.2.2.2.2.2.2.1 81 (by decide) (by decide)]; exact g32
    · rw [l6, b5.2.2.2.2.2.1 72 (by decide)]; exact g33
    · by_cases cj : j = i
      · subst cj
        rw [lUp_eq, lUp_eq, n6, y6, upd_s, r6 63 (by decide), l6]
        exact ⟨⟨k3, b2⟩, b3, rfl, b74⟩
      · have hji : j < i := by omega
        obtain ⟨⟨k, w1⟩, w2, w3, w4⟩ := g6 j hji
        rw [lUp_ne cj, lUp_ne cj, y6, upd_n (by omega), b5.2.2.2.2.2.2.1 74 (by decide) (by decide)]
        refine ⟨⟨k, w1.st (M2 := nMS S6) (fun a haj => ?_) (fun a haj => hag j hji a (Or.inr haj))⟩, w2.cg (fun a haj => (hag j hji a (Or.inl haj)).2.2), w3, fun w => ?_⟩
        · obtain ⟨x1, x2, _⟩ := hag j hji a (Or.inl haj)
          exact ⟨x1, x2⟩
        · obtain ⟨m, m1, m2⟩ := w4 w
          exact ⟨m, m1, (hag j hji m (Or.inl (by rw [m1]; exact List.mem_singleton_self m))).1.trans m2⟩
    · show psN (fun j => cnN a (lUp c i c5 j) + cnN a (lUp l i l5 j)) i + (cnN a (lUp c i c5 i) + cnN a (lUp l i l5 i)) + cnN a fl3 + ind t a = psN (fun j => cnN a (L j)) i + cnN a (L i) + cnN a fl + ind t3 a
      rw [lUp_eq, lUp_eq, psN_cg (w2 := fun j => cnN a (c j) + cnN a (l j)) (fun j hj => by rw [lUp_ne (by omega), lUp_ne (by omega)])]
      have w1 := g7 a
      have w2 := b6 a
      omega
end PS103
