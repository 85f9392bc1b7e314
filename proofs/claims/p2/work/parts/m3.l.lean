theorem psN_i1 {v : Nat → Nat} {i : Nat} : ∀ {n : Nat}, i < n → v i ≤ psN v n
  | n + 1, h => by
    show v i ≤ psN v n + v n
    by_cases w : i = n
    · subst w; omega
    · have := psN_i1 (v := v) (i := i) (n := n) (by omega); omega
theorem psN_ij {v : Nat → Nat} {i j : Nat} (hij : i ≠ j) : ∀ {n : Nat}, i < n → j < n → v i + v j ≤ psN v n
  | n + 1, hi, hj => by
    show v i + v j ≤ psN v n + v n
    by_cases w : i = n
    · subst w; have := psN_i1 (v := v) (i := j) (n := i) (by omega); omega
    · by_cases w2 : j = n
      · subst w2; have := psN_i1 (v := v) (i := i) (n := j) (by omega); omega
      · have := psN_ij (v := v) hij (n := n) (by omega) (by omega); omega
theorem psN_m9 {v : Nat → Nat} {i : Nat} : ∀ {n : Nat}, i ≤ n → psN v i ≤ psN v n
  | 0, h => by obtain rfl : i = 0 := by omega
               exact Nat.le_refl _
  | n + 1, h => by
    show psN v i ≤ psN v n + v n
    by_cases w : i = n + 1
    · subst w; exact Nat.le_refl _
    · have := psN_m9 (v := v) (i := i) (n := n) (by omega); omega
theorem psN_p9 {v w : Nat → Nat} : ∀ {n : Nat}, (∀ i : Nat, i < n → v i ≤ w i) → psN v n ≤ psN w n
  | 0, _ => Nat.le_refl _
  | n + 1, h => by
    show psN v n + v n ≤ psN w n + w n
    have h1 := psN_p9 (n := n) (fun i hi => h i (by omega))
    have h2 := h n (by omega)
    omega
theorem psN_k9 {c : Nat} {v : Nat → Nat} : ∀ {n : Nat}, psN (fun i => c * v i) n = c * psN v n
  | 0 => rfl
  | n + 1 => by
    show psN (fun i => c * v i) n + c * v n = c * (psN v n + v n)
    rw [psN_k9, Nat.mul_add]
theorem psN_c9 {c : Nat} : ∀ {n : Nat}, psN (fun _ => c) n = n * c
  | 0 => by rw [Nat.zero_mul]; rfl
  | n + 1 => by
    show psN (fun _ => c) n + c = (n + 1) * c
    rw [psN_c9, Nat.add_mul, Nat.one_mul]
theorem psN_g9 {v : Nat → Nat} {j n : Nat} (h : ∀ i : Nat, i < n → 1 ≤ v i) (hj : j < n) : v j + n ≤ psN v n + 1 := by
  have key : ∀ m : Nat, m ≤ n → m ≤ psN v m ∧ (j < m → v j + m ≤ psN v m + 1) := fun m => by
    induction m with
    | zero => exact fun _ => ⟨Nat.zero_le _, fun w => by omega⟩
    | succ m ih =>
      intro hm
      obtain ⟨i1, i2⟩ := ih (by omega)
      have := h m (by omega)
      refine ⟨?_, fun w => ?_⟩
      · show m + 1 ≤ psN v m + v m; omega
      · show v j + (m + 1) ≤ psN v m + v m + 1
        by_cases q : j = m
        · subst q; omega
        · have := i2 (by omega); omega
  exact (key n (Nat.le_refl _)).2 hj
theorem ftN_cn {f : Nat → List Nat} {a : Nat} : ∀ {n : Nat}, cnN a (ftN f n) = psN (fun i => cnN a (f i)) n
  | 0 => rfl
  | n + 1 => by
    show cnN a (ftN f n ++ f n) = psN (fun i => cnN a (f i)) n + cnN a (f n)
    rw [cnN_app, ftN_cn]
theorem cnN_rev {a : Nat} : ∀ {l : List Nat}, cnN a l.reverse = cnN a l
  | [] => rfl
  | x :: l => by
    rw [List.reverse_cons, cnN_app, cnN_rev]
    show cnN a l + ((if x = a then 1 else 0) + 0) = (if x = a then 1 else 0) + cnN a l
    omega
/-- nodes are told apart, none is free, all are made -/
def cvN (c l fl : List Nat) (t : Nat) : Prop := ∀ a : Nat, cnN a c + cnN a l + cnN a fl ≤ 1 ∧ (1 ≤ cnN a c + cnN a l → 1 ≤ a ∧ a ≤ t)
/-- a place was dropped: its own nodes are empty, those below are free -/
def DPo (c l h fl : List Nat) (t d : Nat) (S S2 : Sg) (fl2 : List Nat) : Prop := DO (fun a => a ∈ c ∨ a ∈ l) (fun q => q ∈ h) d S S2 ∧ Zi S2 81 = nI d ∧ FLs S2 fl2 t ∧ (∀ a : Nat, cnN a fl2 = cnN a l + cnN a fl) ∧ (∀ a ∈ c, Zr S2 62 a = 0 ∧ Zr S2 63 a = Zr S 63 a) ∧ (∀ q ∈ h, Zr S2 67 q = 0) ∧ wq S2
/-- the work comes, in N steps at most, to where P holds -/
def drN (K : Ky) (N : Nat) (P : Sg → List Nat → Prop) (S : Sg) : Prop := ∀ (e : Nat) (Q : Sg → Unit → Prop), N ≤ e → (∀ (S3 : Sg) (fl : List Nat) (e2 : Nat), P S3 fl → e ≤ e2 + N → Rt (f_doAll_0 K e2 S3) Q) → Rt (f_doAll_0 K e S) Q
section PS37
variable {R : yR} {K : Ky} {S0 Sl S S1 S2 : Sg} {g : Nat → Int32} {A B : Nat → Prop} {d t N N2 m : Nat} {P P2 : Sg → List Nat → Prop} {c l h fl fl2 : List Nat}
theorem drN.mo (q : drN K N P S) (hn : N ≤ N2) (hp : ∀ (S3 : Sg) (fl : List Nat), P S3 fl → P2 S3 fl) : drN K N2 P2 S := fun e Q he k => q e Q (by omega) (fun S3 fl e2 h1 h2 => k S3 fl e2 (hp S3 fl h1) (by omega))
theorem drN.rf (h : P S fl) : drN K 0 P S := fun e Q _ k => k S fl e h (by omega)
theorem drN.tr (q : drN K N P S) (k : ∀ (S3 : Sg) (fl : List Nat), P S3 fl → drN K N2 P2 S3) : drN K (N + N2) P2 S := fun e Q he kk => q e Q (by omega) (fun S3 fl e2 h1 h2 => k S3 fl h1 e2 Q (by omega) (fun S4 fl4 e4 h3 h4 => kk S4 fl4 e4 h3 (by omega)))
theorem NO.wq (e : NO A S S2) (h : wq S) : wq S2 := by
  obtain ⟨f, l, h1, h2, h3, h4⟩ := h
  exact ⟨f, l, (e.2.2.2.2.2.2.2.1 83 (by decide) (by decide)).trans h1, h2, (e.2.2.2.2.2.2.2.1 84 (by decide) (by decide)).trans h3, h4⟩
theorem HO.wq (e : HO B S S2) (h : wq S) : wq S2 := by
  obtain ⟨f, l, h1, h2, h3, h4⟩ := h
  exact ⟨f, l, (e.2.2.2.2.2.2.2.1 83 (by decide) (by decide)).trans h1, h2, (e.2.2.2.2.2.2.2.1 84 (by decide) (by decide)).trans h3, h4⟩
theorem HO.fls (e : HO B S S2) (h : FLs S fl t) : FLs S2 fl t := by
  obtain ⟨h1, h2, ⟨x, h3, h4⟩, h5, h6⟩ := h
  exact ⟨(e.2.2.2.2.2.2.2.1 64 (by decide) (by decide)).trans h1, h2, ⟨x, (e.2.2.2.2.2.2.2.1 65 (by decide) (by decide)).trans h3, by rw [e.2.2.2.2.2.2.1 63 (by decide)]; exact h4⟩, h5, h6⟩
/-- one step of the work -/
theorem dA1 {w n e : Nat} {o : Option Nat} {Q : Sg → Unit → Prop} (hd : Zi S 81 = nI (d + 1)) (h9 : d < 90000) (hw : wkA S d w o n) (k : ∀ (S1 : Sg) (v : Option Nat), KO d S S1 → Zi S1 81 = nI d → (∀ x : Nat, o = some x → v = some x) → Rt (if nI w = 0 then (bnd (f_dropPlace K S1 v (nI n)) fun S6 v7 =>
    f_doAll_0 K e S6) else (if nI w = 1 then (bnd (f_freePlace K S1 v (nI n)) fun S8 v9 =>
    f_doAll_0 K e S8) else (if nI w = 2 then (bnd (f_freeBlock K S1 (nI n)) fun S10 v11 =>
    bnd (f_freeNode K S10 (nI n)) fun S12 v13 =>
    f_doAll_0 K e S12) else (bnd (f_freeNode K S1 (nI n)) fun S14 v15 =>
    f_doAll_0 K e S14)))) Q) : Rt (f_doAll_0 K (e + 1) S) Q := by
  obtain ⟨w1, ⟨u, w2, w3, w4⟩, w5⟩ := hw
  unfold f_doAll_0
  rw [hd, nI_pred]
  refine Rt.iq (fun w => ?_) (Rt.bd (v := Ui S 81 (nI d)) rfl ?_)
  · have := nI_le0 (by omega) w; omega
  · have e1 : KO d S (Ui S 81 (nI d)) := Ui.ko
    have i1 : Zi (Ui S 81 (nI d)) 81 = nI d := Zi_s
    have a1 : Zr (Ui S 81 (nI d)) = Zr S := rfl
    have a2 : Zq (Ui S 81 (nI d)) = Zq S := rfl
    generalize Ui S 81 (nI d) = Sa at e1 i1 a1 a2
    rw [i1]
    refine Rt.bd (rI_n (show d < rlen 79 from h9) (by decide)) (Rt.bd (v := Zq Sa 18 u) (by rw [a1, w2]; exact rQ_n (show u < rlen 18 from w3) (by decide)) (Rt.bd (rI_n (show d < rlen 80 from h9) (by decide)) (Rt.bd (rI_n (show d < rlen 78 from h9) (by decide)) ?_)))
    rw [a1, w1, w5]
    exact k Sa _ e1 i1 (fun x hx => by rw [a2]; exact w4 x hx)
/-- .. a place's nodes are given back -/
theorem dAf {x : Nat} (hL : LFS R S0 g) (hx : LX S0 Sl) (e : RNx Sl S) (hr : rTy S0 x) (hd : Zi S 81 = nI (d + 1)) (h9 : d < 90000) (hw : wkA S d 1 (some x) (hdN c)) (hf : FLs S fl t) (hq : wq S) (hl : c.length = zN R S0 (abT S0 x)) (h1 : 1 ≤ c.length) (h16 : c.length ≤ 16) (hk : lkN (Zr S 63) c) (hc : cvN c [] fl t) : drN R.K 1 (fun S3 fl3 => DO (fun a => a ∈ c) (fun _ => False) d S S3 ∧ Zi S3 81 = nI d ∧ FLs S3 fl3 t ∧ (∀ a : Nat, cnN a fl3 = cnN a c + cnN a fl) ∧ wq S3) S := fun e9 Q he kk => by
  obtain ⟨e9, rfl⟩ : ∃ k : Nat, e9 = k + 1 := ⟨e9 - 1, by omega⟩
  refine dA1 hd h9 hw (fun S1 v k1 i1 hv => ?_)
  rw [hv x rfl]
  refine Rt.iq (by decide) (Rt.ip (by decide) (Rt.bn (frp_ (L := c) (a := hdN c) hL hx (e.tr k1.1.rn) (fun y hy => by cases hy; exact hr) (by show zN R S0 (abT S0 x) ≤ 16; omega) (k1.fl hf) hl (by rw [k1.x3]; exact hk) (cnN_nd.mpr (fun a => by have := (hc a).1; omega)) (fun a ha => ?_) (hdN_0 h1)) (fun S3 _ ⟨q1, q2, _⟩ => ?_)))
  · have h2 := cnN_mem.mp ha
    refine ⟨((hc a).2 (by omega)).2, fun w => ?_⟩
    have h3 := cnN_mem.mp w
    have := (hc a).1; omega
  · exact kk S3 _ e9 ⟨k1.do.tr q2.do, (q2.2.2.2.2.2.2.2.1 81 (by decide) (by decide)).trans i1, q1, fun a => by rw [cnN_app, cnN_rev], q2.wq (k1.wq hq)⟩ (by omega)
/-- .. a node -/
theorem dAn {o : Option Nat} (hd : Zi S 81 = nI (d + 1)) (h9 : d < 90000) (hw : wkA S d 3 o m) (hf : FLs S fl t) (hq : wq S) (h1 : 1 ≤ m) (hm : m ≤ t) (hl : m ∉ fl) : drN K 1 (fun S3 fl3 => DO (fun a => a = m) (fun _ => False) d S S3 ∧ Zi S3 81 = nI d ∧ FLs S3 fl3 t ∧ fl3 = m :: fl ∧ wq S3) S := fun e9 Q he kk => by
  obtain ⟨e9, rfl⟩ : ∃ k : Nat, e9 = k + 1 := ⟨e9 - 1, by omega⟩
  refine dA1 hd h9 hw (fun S1 v k1 i1 hv => ?_)
  refine Rt.iq (by decide) (Rt.iq (by decide) (Rt.iq (by decide) (Rt.bn (frn_ (k1.fl hf) h1 hm hl) (fun S3 _ ⟨q1, q2, _⟩ => ?_))))
  exact kk S3 _ e9 ⟨k1.do.tr q2.do, (q2.2.2.2.2.2.2.2.1 81 (by decide) (by decide)).trans i1, q1, rfl, q2.wq (k1.wq hq)⟩ (by omega)
/-- .. a box's cells and its node -/
theorem dAb {o : Option Nat} {f s : Nat} (hd : Zi S 81 = nI (d + 1)) (h9 : d < 90000) (hw : wkA S d 2 o m) (hf : FLs S fl t) (hq : wq S) (h1 : 1 ≤ m) (hm : m ≤ t) (hl : m ∉ fl) (hb : blW (Zl S 61 m) = nI s) (hv : vrW (Zl S 61 m) = nI f) (h4 : f + s ≤ 4000) : drN K 1 (fun S3 fl3 => DO (fun a => a = m) (fun q => q ∈ rgN f s) d S S3 ∧ Zi S3 81 = nI d ∧ FLs S3 fl3 t ∧ fl3 = m :: fl ∧ (∀ q ∈ rgN f s, Zr S3 67 q = 0) ∧ wq S3) S := fun e9 Q he kk => by
  obtain ⟨e9, rfl⟩ : ∃ k : Nat, e9 = k + 1 := ⟨e9 - 1, by omega⟩
  refine dA1 hd h9 hw (fun S1 v k1 i1 _ => ?_)
  have hm4 : m < 430000 := by have := hf.2.1; omega
  have ez : Zl S1 61 = Zl S 61 := congrArg (fun x : nM => x.1) k1.nm
  refine Rt.iq (by decide) (Rt.iq (by decide) (Rt.ip (by decide) ?_))
  have hfb : Rt (f_freeBlock K S1 (nI m)) (fun S3 _ => HO (fun q => f ≤ q ∧ q < f + s) S1 S3 ∧ ∀ q : Nat, f ≤ q → q < f + s → Zr S3 67 q = 0) := by
    unfold f_freeBlock
    refine Rt.be (S := S1) (r := nI s) (by unfold f_blockLong; rw [rJ_n (show m < rlen 61 from hm4) (by decide), ez, ← hb]; rfl) (Rt.be (S := S1) (r := nI f) (by unfold f_variantOf_; rw [rJ_n (show m < rlen 61 from hm4) (by decide), ez, ← hv]; rfl) ?_)
    exact (fb15 (S := S1) h4 bigN 0 S1 (by unfold bigN; omega) (Nat.zero_le _) HO.rf rfl (fun q a b => by omega)).mo (fun S3 _ ⟨q1, _, _, q4⟩ => ⟨q1, q4⟩)
  refine Rt.bn hfb (fun S3 _ ⟨p1, p2⟩ => Rt.bn (frn_ (p1.fls (k1.fl hf)) h1 hm hl) (fun S4 _ ⟨q1, q2, _⟩ => ?_))
  refine kk S4 _ e9 ⟨(k1.do.tr (p1.do.mo (fun _ w => w) (fun q w => rgN_mem.mpr w) (Nat.le_refl _))).tr q2.do, (q2.2.2.2.2.2.2.2.1 81 (by decide) (by decide)).trans ((p1.2.2.2.2.2.2.2.1 81 (by decide) (by decide)).trans i1), q1, rfl, fun q hq => ?_, q2.wq (p1.wq (k1.wq hq))⟩ (by omega)
  rw [q2.2.2.2.2.2.2.1 67 (by decide) (by decide)]
  exact p2 q (rgN_mem.mp hq).1 (rgN_mem.mp hq).2
end PS37
