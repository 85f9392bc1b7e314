/-- while things are dropped: nodes of A, cells of B, the work from d on -/
def DO (A B : Nat → Prop) (d : Nat) (S S2 : Sg) : Prop := ZL S2 = ZL S ∧ ZF S2 = ZF S ∧ (Zz S2 = Zz S ∧ Zn S2 = Zn S) ∧ Zq S2 = Zq S ∧ Zf S2 = Zf S ∧ (∀ r : Nat, r ≠ 61 → Zl S2 r = Zl S r) ∧ (∀ r : Nat, (r ≠ 62 ∧ r ≠ 63) → r ≠ 67 → (r ≠ 78 ∧ r ≠ 79 ∧ r ≠ 80) → r ≠ 82 → Zr S2 r = Zr S r) ∧ (∀ j : Nat, (j ≠ 64 ∧ j ≠ 65) → (j ≠ 68 ∧ j ≠ 69) → j ≠ 81 → j ≠ 84 → Zi S2 j = Zi S j) ∧ (∀ n : Nat, ¬ A n → Zl S2 61 n = Zl S 61 n ∧ Zr S2 62 n = Zr S 62 n ∧ Zr S2 63 n = Zr S 63 n) ∧ (∀ q : Nat, ¬ B q → Zr S2 67 q = Zr S 67 q) ∧ ∀ i : Nat, i < d → Zr S2 78 i = Zr S 78 i ∧ Zr S2 79 i = Zr S 79 i ∧ Zr S2 80 i = Zr S 80 i
/-- a piece of work: what, on which type, at which node -/
def wkA (S : Sg) (d w : Nat) (o : Option Nat) (n : Nat) : Prop := Zr S 78 d = nI w ∧ (∃ t : Nat, Zr S 79 d = nI t ∧ t < 2000 ∧ ∀ x : Nat, o = some x → Zq S 18 t = some x) ∧ Zr S 80 d = nI n
/-- nodes as they are -/
def nMS (S : Sg) : nM := (Zl S 61, Zr S 62, Zr S 63)
section PS36
variable {R : yR} {K : Ky} {S0 Sl S S1 S2 : Sg} {g : Nat → Int32} {A B A2 B2 : Nat → Prop} {d d2 : Nat}
theorem DO.rf : DO A B d S S := ⟨rfl, rfl, ⟨rfl, rfl⟩, rfl, rfl, fun _ _ => rfl, fun _ _ _ _ _ => rfl, fun _ _ _ _ _ => rfl, fun _ _ => ⟨rfl, rfl, rfl⟩, fun _ _ => rfl, fun _ _ => ⟨rfl, rfl, rfl⟩⟩
theorem DO.tr (a : DO A B d S S1) (b : DO A B d S1 S2) : DO A B d S S2 := by
  obtain ⟨a1, a2, a3, a4, a5, a6, a7, a8, a9, a10, a11⟩ := a
  obtain ⟨b1, b2, b3, b4, b5, b6, b7, b8, b9, b10, b11⟩ := b
  exact ⟨b1.trans a1, b2.trans a2, ⟨b3.1.trans a3.1, b3.2.trans a3.2⟩, b4.trans a4, b5.trans a5, fun r h => (b6 r h).trans (a6 r h), fun r h1 h2 h3 h4 => (b7 r h1 h2 h3 h4).trans (a7 r h1 h2 h3 h4), fun r h1 h2 h3 h4 => (b8 r h1 h2 h3 h4).trans (a8 r h1 h2 h3 h4), fun n h => ⟨(b9 n h).1.trans (a9 n h).1, (b9 n h).2.1.trans (a9 n h).2.1, (b9 n h).2.2.trans (a9 n h).2.2⟩, fun q h => (b10 q h).trans (a10 q h), fun i h => ⟨(b11 i h).1.trans (a11 i h).1, (b11 i h).2.1.trans (a11 i h).2.1, (b11 i h).2.2.trans (a11 i h).2.2⟩⟩
theorem DO.mo (a : DO A B d S S2) (h1 : ∀ n : Nat, A n → A2 n) (h2 : ∀ n : Nat, B n → B2 n) (h3 : d2 ≤ d) : DO A2 B2 d2 S S2 := by
  obtain ⟨a1, a2, a3, a4, a5, a6, a7, a8, a9, a10, a11⟩ := a
  exact ⟨a1, a2, a3, a4, a5, a6, a7, a8, fun n h => a9 n (fun w => h (h1 n w)), fun n h => a10 n (fun w => h (h2 n w)), fun i h => a11 i (by omega)⟩
theorem NO.do (e : NO A S S2) : DO A B d S S2 := by
  obtain ⟨a1, a2, a3, a4, a5, a6, a7, a8, a9⟩ := e
  exact ⟨a1, a2, a3, a4, a5, a6, fun r h1 h2 h3 h4 => a7 r h1.1 h1.2, fun j h1 h2 h3 h4 => a8 j h1.1 h1.2, a9, fun q _ => by rw [a7 67 (by decide) (by decide)], fun i _ => ⟨by rw [a7 78 (by decide) (by decide)], by rw [a7 79 (by decide) (by decide)], by rw [a7 80 (by decide) (by decide)]⟩⟩
theorem HO.do (e : HO B S S2) : DO A B d S S2 := by
  obtain ⟨a1, a2, a3, a4, a5, a6, a7, a8, a9⟩ := e
  exact ⟨a1, a2, a3, a4, a5, fun r _ => by rw [a6], fun r h1 h2 h3 h4 => a7 r h2, fun j h1 h2 h3 h4 => a8 j h2.1 h2.2, fun n _ => ⟨by rw [a6], by rw [a7 62 (by decide)], by rw [a7 63 (by decide)]⟩, a9, fun i _ => ⟨by rw [a7 78 (by decide)], by rw [a7 79 (by decide)], by rw [a7 80 (by decide)]⟩⟩
theorem WO.do (e : WO S S2) : DO A B d S S2 := by
  obtain ⟨a1, a2, a3, a4, a5, a6, a7, a8⟩ := e
  exact ⟨a1, a2, a3, a4, a5, fun r _ => by rw [a6], fun r h1 h2 h3 h4 => a7 r h4, fun j h1 h2 h3 h4 => a8 j h4, fun n _ => ⟨by rw [a6], by rw [a7 62 (by decide)], by rw [a7 63 (by decide)]⟩, fun q _ => by rw [a7 67 (by decide)], fun i _ => ⟨by rw [a7 78 (by decide)], by rw [a7 79 (by decide)], by rw [a7 80 (by decide)]⟩⟩
theorem DO.rn (e : DO A B d S S2) : RNx S S2 := by
  obtain ⟨a1, a2, a3, a4, a5, a6, a7, a8, a9⟩ := e
  exact ⟨a1, a2, a3, a4, a5, fun r h => a7 r (by omega) (by omega) (by omega) (by omega), fun r h => a6 r (by omega), fun j h _ => a8 j (by omega) (by omega) (by omega) (by omega)⟩
theorem DO.ag (e : DO A B d S S2) {l : List Nat} (h : ∀ a ∈ l, ¬ A a) : agN (nMS S) (nMS S2) l := fun a ha => e.2.2.2.2.2.2.2.2.1 a (h a ha)
theorem DO.wk (e : DO A B d S S2) {i w n : Nat} {o : Option Nat} (h : wkA S i w o n) (hi : i < d) : wkA S2 i w o n := by
  obtain ⟨h1, ⟨t, h2, h3, h4⟩, h5⟩ := h
  obtain ⟨c1, c2, c3⟩ := e.2.2.2.2.2.2.2.2.2.2 i hi
  exact ⟨c1.trans h1, ⟨t, c2.trans h2, h3, fun x hx => by rw [e.2.2.2.1]; exact h4 x hx⟩, c3.trans h5⟩
theorem Ui.do {v : Int32} : DO A B d S (Ui S 81 v) := ⟨rfl, rfl, ⟨rfl, rfl⟩, rfl, rfl, fun _ _ => rfl, fun _ _ _ _ _ => rfl, fun _ _ _ h _ => Zi_n h, fun _ _ => ⟨rfl, rfl, rfl⟩, fun _ _ => rfl, fun _ _ => ⟨rfl, rfl, rfl⟩⟩
/-- a row of work is written, from d on -/
theorem Ur.do {r i : Nat} {v : Int32} (hr : r = 78 ∨ r = 79 ∨ r = 80) (hi : d ≤ i) : DO A B d S (Ur S r (upd (Zr S r) i v)) := ⟨rfl, rfl, ⟨rfl, rfl⟩, rfl, rfl, fun _ _ => rfl, fun s h1 h2 h3 h4 => Zr_u9 (by omega), fun _ _ _ _ _ => rfl, fun n _ => ⟨rfl, congrFun (Zr_u9 (by omega)) n, congrFun (Zr_u9 (by omega)) n⟩, fun q _ => congrFun (Zr_u9 (by omega)) q, fun j hj => by
  have hh : ∀ s : Nat, Zr (Ur S r (upd (Zr S r) i v)) s j = Zr S s j := fun s => by
    by_cases w : s = r
    · subst w; rw [Zr_us]; exact upd_n (by omega)
    · rw [Zr_u9 w]
  exact ⟨hh 78, hh 79, hh 80⟩⟩
/-- of the work alone, from d on -/
def KO (d : Nat) (S S2 : Sg) : Prop := DO (fun _ => False) (fun _ => False) d S S2 ∧ Zi S2 64 = Zi S 64 ∧ Zi S2 65 = Zi S 65 ∧ Zi S2 84 = Zi S 84
theorem KO.rf : KO d S S := ⟨DO.rf, rfl, rfl, rfl⟩
theorem KO.tr (a : KO d S S1) (b : KO d S1 S2) : KO d S S2 := ⟨a.1.tr b.1, b.2.1.trans a.2.1, b.2.2.1.trans a.2.2.1, b.2.2.2.trans a.2.2.2⟩
theorem KO.mo (a : KO d S S2) (h : d2 ≤ d) : KO d2 S S2 := ⟨a.1.mo (fun _ w => w) (fun _ w => w) h, a.2⟩
theorem KO.do (a : KO d S S2) : DO A B d S S2 := a.1.mo (fun _ w => w.elim) (fun _ w => w.elim) (Nat.le_refl _)
theorem KO.nm (a : KO d S S2) : nMS S2 = nMS S := by
  have h := a.1.2.2.2.2.2.2.2.2.1
  show (Zl S2 61, Zr S2 62, Zr S2 63) = (Zl S 61, Zr S 62, Zr S 63)
  rw [show Zl S2 61 = Zl S 61 from funext (fun n => (h n (fun w => w)).1), show Zr S2 62 = Zr S 62 from funext (fun n => (h n (fun w => w)).2.1), show Zr S2 63 = Zr S 63 from funext (fun n => (h n (fun w => w)).2.2)]
theorem KO.x3 (a : KO d S S2) : Zr S2 63 = Zr S 63 := congrArg (fun m : nM => m.2.2) a.nm
theorem KO.fl (a : KO d S S2) {l : List Nat} {t : Nat} (h : FLs S l t) : FLs S2 l t := by
  obtain ⟨h1, h2, ⟨x, h3, h4⟩, h5, h6⟩ := h
  exact ⟨a.2.1.trans h1, h2, ⟨x, a.2.2.1.trans h3, by rw [a.x3]; exact h4⟩, h5, h6⟩
theorem KO.wq (a : KO d S S2) (h : wq S) : wq S2 := by
  obtain ⟨f, l, h1, h2, h3, h4⟩ := h
  exact ⟨f, l, (a.1.2.2.2.2.2.2.2.1 83 ⟨by decide, by decide⟩ ⟨by decide, by decide⟩ (by decide) (by decide)).trans h1, h2, a.2.2.2.trans h3, h4⟩
theorem Ui.ko {v : Int32} : KO d S (Ui S 81 v) := ⟨Ui.do, Zi_n (by decide), Zi_n (by decide), Zi_n (by decide)⟩
theorem Ur.ko {r i : Nat} {v : Int32} (hr : r = 78 ∨ r = 79 ∨ r = 80) (hi : d ≤ i) : KO d S (Ur S r (upd (Zr S r) i v)) := ⟨Ur.do hr hi, rfl, rfl, rfl⟩
/-- later: one more piece of work -/
theorem ltr_ {w n : Nat} {o : Option Nat} (hd : Zi S 81 = nI d) (h9 : d < 90000) (ho : ∀ x : Nat, o = some x → ∃ (kd ix : Int32) (u : Option Nat), isTy S x kd ix u) (ht : tmS S ≤ 2000) : Rt (f_later K S (nI w) o (nI n)) (fun S2 _ => KO d S S2 ∧ Zi S2 81 = nI (d + 1) ∧ wkA S2 d w o n) := by
  unfold f_later
  rw [hd]
  refine Rt.bd (wRI_n (show d < rlen 78 from h9) (by decide)) ?_
  have e1 : KO d S (Ur S 78 (upd (Zr S 78) d (nI w))) := Ur.ko (Or.inl rfl) (Nat.le_refl _)
  have v1 : Zr (Ur S 78 (upd (Zr S 78) d (nI w))) 78 d = nI w := by rw [Zr_us, upd_s]
  have d1 : Zi (Ur S 78 (upd (Zr S 78) d (nI w))) 81 = nI d := hd
  have q1 : Zq (Ur S 78 (upd (Zr S 78) d (nI w))) = Zq S := rfl
  have l1 : ZL (Ur S 78 (upd (Zr S 78) d (nI w))) = ZL S := rfl
  have f1 : ZF (Ur S 78 (upd (Zr S 78) d (nI w))) = ZF S := rfl
  generalize Ur S 78 (upd (Zr S 78) d (nI w)) = Sa at e1 v1 d1 q1 l1 f1
  have h30 : ∀ t : Nat, t < 2000 → (∀ x : Nat, o = some x → Zq S 18 t = some x) → Rt (f_later_30 K Sa (nI n) (nI t) (Zi Sa 81)) (fun S2 _ => KO d S S2 ∧ Zi S2 81 = nI (d + 1) ∧ wkA S2 d w o n) := fun t t2 tx => by
    unfold f_later_30
    rw [d1]
    refine Rt.bd (wRI_n (show d < rlen 79 from h9) (by decide)) ?_
    have e2 : KO d Sa (Ur Sa 79 (upd (Zr Sa 79) d (nI t))) := Ur.ko (Or.inr (Or.inl rfl)) (Nat.le_refl _)
    have v2 : Zr (Ur Sa 79 (upd (Zr Sa 79) d (nI t))) 79 d = nI t := by rw [Zr_us, upd_s]
    have w2 : Zr (Ur Sa 79 (upd (Zr Sa 79) d (nI t))) 78 d = nI w := by rw [Zr_u9 (by decide)]; exact v1
    have d2 : Zi (Ur Sa 79 (upd (Zr Sa 79) d (nI t))) 81 = nI d := d1
    have q2 : Zq (Ur Sa 79 (upd (Zr Sa 79) d (nI t))) = Zq S := q1
    generalize Ur Sa 79 (upd (Zr Sa 79) d (nI t)) = Sb at e2 v2 w2 d2 q2
    rw [d2]
    refine Rt.bd (wRI_n (show d < rlen 80 from h9) (by decide)) ?_
    have e3 : KO d Sb (Ur Sb 80 (upd (Zr Sb 80) d (nI n))) := Ur.ko (Or.inr (Or.inr rfl)) (Nat.le_refl _)
    have v3 : Zr (Ur Sb 80 (upd (Zr Sb 80) d (nI n))) 80 d = nI n := by rw [Zr_us, upd_s]
    have w3 : Zr (Ur Sb 80 (upd (Zr Sb 80) d (nI n))) 78 d = nI w := by rw [Zr_u9 (by decide)]; exact w2
    have u3 : Zr (Ur Sb 80 (upd (Zr Sb 80) d (nI n))) 79 d = nI t := by rw [Zr_u9 (by decide)]; exact v2
    have d3 : Zi (Ur Sb 80 (upd (Zr Sb 80) d (nI n))) 81 = nI d := d2
    have q3 : Zq (Ur Sb 80 (upd (Zr Sb 80) d (nI n))) = Zq S := q2
    generalize Ur Sb 80 (upd (Zr Sb 80) d (nI n)) = Sc at e3 v3 w3 u3 d3 q3
    refine Rt.bd (v := Ui Sc 81 (nI (d + 1))) (by rw [d3, nI_1]; rfl) (Rt.rt ⟨((e1.tr e2).tr e3).tr Ui.ko, Zi_s, w3, ⟨t, u3, t2, fun x hx => ?_⟩, v3⟩)
    show Zq Sc 18 t = some x
    rw [q3]; exact tx x hx
  cases o with
  | none => exact Rt.ip rfl (h30 0 (by decide) (fun x hx => by cases hx))
  | some x =>
    obtain ⟨kd, ix, u, t, t1, t2, t3, t4⟩ := ho x rfl
    refine Rt.iq (by simp) (Rt.bd (v := nI t) (oI_mk (by rw [l1]; exact t3) (by rw [f1]; exact t4) rfl) (h30 t (by omega) (fun y hy => by cases hy; exact t2)))
/-- the work that a part asks for -/
def WP (S : Sg) (d fr mn i : Nat) (o : Option Nat) (c : List Nat) : Prop := (fr = 1 → wkA S (d + (1 + fr) * (mn - 1 - i)) 1 o (hdN c)) ∧ wkA S (d + (1 + fr) * (mn - 1 - i) + fr) 0 o (hdN c)
theorem KO.wp (a : KO d S S2) {b fr mn i : Nat} {o : Option Nat} {c : List Nat} (h : WP S b fr mn i o c) (hf : fr ≤ 1) (hd : b + (1 + fr) * (mn - 1 - i) + fr < d) : WP S2 b fr mn i o c := ⟨fun w => a.1.wk (h.1 w) (by omega), a.1.wk h.2 hd⟩
/-- laterParts -/
theorem lpt5 {ta cap mn fr : Nat} {f : Nat → Option Nat} {cs : Nat → List Nat} (hL : LFS R S0 g) (hx : LX S0 Sl) (e : RNx Sl S) (ht : ta ∈ ZL Sl ∧ ZF Sl ta = .inl (R.K.1 4, cap, .inr (.inr (.inr (.inr f))))) (hc : mn ≤ cap ∧ cap < 100) (hf : ∀ k : Nat, k < mn → ∃ x : Nat, f k = some x ∧ rTy S0 x) (hk : lkN (Zr S 63) (ftN cs mn)) (hl : ∀ i : Nat, i < mn → (cs i).length = zN R S0 (abU S0 (f i))) (h1 : ∀ i : Nat, 1 ≤ zN R S0 (abU S0 (f i))) (h100 : (ftN cs mn).length < 100) (hfr : fr = 0 ∨ fr = 1) (h9 : d + (1 + fr) * mn ≤ 90000) : ∀ (j n : Nat) (S1 : Sg), j ≤ mn → j < n → KO d S S1 → Zi S1 81 = nI (d + (1 + fr) * (mn - j)) → (∀ i : Nat, j ≤ i → i < mn → WP S1 d fr mn i (f i) (cs i)) → Rt (f_laterParts_5 R.K n S1 (some ta) (nI (hdN (ftN cs mn))) (nI fr) (nI j - 1)) (fun S2 _ => KO d S S2 ∧ Zi S2 81 = nI (d + (1 + fr) * mn) ∧ ∀ i : Nat, i < mn → WP S2 d fr mn i (f i) (cs i))
  | j, 0, S1, _, hn, _, _, _ => by omega
  | 0, n + 1, S1, _, hn, e1, hi, hw => by
    unfold f_laterParts_5
    exact Rt.ip (by decide) (Rt.rt ⟨e1, by rw [hi, Nat.sub_zero], fun i h => hw i (Nat.zero_le _) h⟩)
  | j + 1, n + 1, S1, hj, hn, e1, hi, hw => by
    unfold f_laterParts_5
    rw [nI_pred]
    refine Rt.iq (nI_nn (by omega)) ?_
    have hf1 : fr ≤ 1 := by omega
    obtain ⟨x, x1, x2⟩ := hf j (by omega)
    have eR : RNx Sl S1 := e.tr e1.1.rn
    have h0 : 1 ≤ (ftN cs mn).length := ftN_0 (s := fun i => zN R S0 (abU S0 (f i))) hl h1 (show j < mn by omega)
    have hp : f_partOf R.K S1 (some ta) (nI (hdN (ftN cs mn))) (nI j) = some (S1, nI (hdN (cs j))) := by
      have hb := ftN_hd (s := fun i => zN R S0 (abU S0 (f i))) hl (h1 j) (show j < mn by omega)
      refine pof_ hL hx eR ht ⟨by omega, hc.2⟩ (fun i y hi hy => ?_) (by rw [e1.x3]; exact hk) (hdN_0 h0) hb ?_
      · obtain ⟨z, z1, z2⟩ := hf i (by omega)
        rw [hy] at z1; cases z1; exact z2
      · obtain ⟨q, _⟩ := List.getElem?_eq_some_iff.mp hb
        omega
    refine Rt.be hp ?_
    obtain ⟨kd, ix, u, q, _⟩ := x2.ty
    have hT : ∀ S3 : Sg, RNx Sl S3 → (∀ y : Nat, f j = some y → ∃ (kd ix : Int32) (u : Option Nat), isTy S3 y kd ix u) ∧ tmS S3 ≤ 2000 := fun S3 e3 => ⟨fun y hy => by
      rw [x1] at hy; cases hy
      exact ⟨kd, ix, u, e3.ty (hx.ty q)⟩, by
      have : tmS S3 = tmS S0 := by
        unfold tmS
        rw [e3.2.2.2.2.2.2.2 19 (by decide) (by decide), hx.2.1 19 (by decide) (by decide) (by decide) ⟨by decide, by decide⟩]
      rw [this]; exact hL.1.1⟩
    have hQ : ∀ S3 : Sg, RNx Sl S3 → aQ R.K 4 S3 (some ta) (nI j) = some (f j) := fun S3 e3 => aQ_n (by rw [e3.1]; exact ht.1) (by rw [e3.2.1]; exact ht.2) (show j < cap by omega) (by omega)
    have h36 : ∀ (b : Nat) (S3 : Sg), KO d S S3 → KO (d + (1 + fr) * (mn - (j + 1))) S1 S3 → Zi S3 81 = nI b → b = d + (1 + fr) * (mn - (j + 1)) + fr → (fr = 1 → wkA S3 (d + (1 + fr) * (mn - 1 - j)) 1 (f j) (hdN (cs j))) → Rt (f_laterParts_36 R.K (f_laterParts_5 R.K n) S3 (some ta) (nI (hdN (ftN cs mn))) (nI fr) (nI j) (nI (hdN (cs j)))) (fun S2 _ => KO d S S2 ∧ Zi S2 81 = nI (d + (1 + fr) * mn) ∧ ∀ i : Nat, i < mn → WP S2 d fr mn i (f i) (cs i)) := fun b S3 e3 e4 hb eb hw1 => by
      have eR3 : RNx Sl S3 := e.tr e3.1.rn
      unfold f_laterParts_36
      refine Rt.bd (hQ S3 eR3) (Rt.bn (ltr_ (w := 0) hb (by rcases hfr with w | w <;> subst w <;> omega) (hT S3 eR3).1 (hT S3 eR3).2) (fun S4 _ ⟨k1, k2, k3⟩ => ?_))
      have hdb : d ≤ b := by omega
      rw [show nI j + (-1) = nI j - 1 from (Int32.sub_eq_add_neg _ _).symm]
      refine lpt5 hL hx e ht hc hf hk hl h1 h100 hfr h9 j n S4 (by omega) (by omega) (e3.tr (k1.mo hdb)) ?_ (fun i q1 q2 => ?_)
      · rw [k2, eb]; congr 1; rcases hfr with w | w <;> subst w <;> omega
      · by_cases w : i = j
        · subst w
          refine ⟨fun w1 => k1.1.wk (hw1 w1) (by rcases hfr with w | w <;> subst w <;> omega), ?_⟩
          rw [show d + (1 + fr) * (mn - 1 - i) + fr = b by rw [eb]; rcases hfr with w | w <;> subst w <;> omega]
          exact k3
        · exact (e4.tr (k1.mo (by omega))).wp (hw i (by omega) q2) hf1 (by rcases hfr with w | w <;> subst w <;> omega)
    rcases hfr with w | w
    · subst w
      exact Rt.ip rfl (h36 _ S1 e1 KO.rf hi (by omega) (fun w => by cases w))
    · subst w
      refine Rt.iq (by decide) (Rt.bd (hQ S1 eR) (Rt.bn (ltr_ (w := 1) hi (by omega) (hT S1 eR).1 (hT S1 eR).2) (fun S3 _ ⟨k1, k2, k3⟩ => ?_)))
      refine h36 _ S3 (e1.tr (k1.mo (by omega))) k1 k2 rfl (fun _ => ?_)
      rw [show d + (1 + 1) * (mn - 1 - j) = d + (1 + 1) * (mn - (j + 1)) by omega]
      exact k3
end PS36
