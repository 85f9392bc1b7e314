/-- the laying's counters as a function's laying sets them -/
def rst (S : Sg) : Sg := Ui (Ui (Ui S 47 0) 48 0) 50 0
section PS19
variable {R : yR} {S0 S S1 S2 S3 S4 S5 Sa : Sg} {i P P2 h L : Nat} {Γ : List Nat} {g : Nat → Int32} {bw : Nat → Nat}
theorem FnQ.st (hx : LX S S2) (hp : PX P S S2) (hi : ∀ fs : List Value, ZF S (R.ws i) = .inr (16, fs) → ZF S2 (R.ws i) = .inr (16, fs)) (h2 : P ≤ P2) (q : FnQ R S0 S P i) : FnQ R S0 S2 P2 i := by
  obtain ⟨Λ, gv, mn, Ps, Pe, L0, L, I, st, W, rc, tv, mv, lv, H, ql, q1, ⟨q2, q3, fs, q4, q5⟩, q6, q7, q8⟩ := q
  exact ⟨Λ, gv, mn, Ps, Pe, L0, L, I, st, W, rc, tv, mv, lv, H, ql, q1, ⟨q2, q3, fs, hi fs q4, q5⟩, fun k a b => (q6 k a b).st hx (hp k (by omega)), q7, by omega⟩
theorem rst_z {j : Nat} (h1 : j ≠ 47) (h2 : j ≠ 48) (h3 : j ≠ 50) : Zi (rst S) j = Zi S j := ((Zi_n h3).trans (Zi_n h2)).trans (Zi_n h1)
theorem rst_0 {j : Nat} (h : j = 47 ∨ j = 48 ∨ j = 50) : Zi (rst S) j = 0 := by
  rcases h with h | h | h <;> subst h
  · exact (Zi_n (by decide)).trans ((Zi_n (by decide)).trans Zi_s)
  · exact (Zi_n (by decide)).trans Zi_s
  · exact Zi_s
theorem rst_i : rst (rst S) = rst S := by
  refine Prod.ext (funext (fun j => ?_)) rfl
  show Zi (rst (rst S)) j = Zi (rst S) j
  by_cases h : j = 47 ∨ j = 48 ∨ j = 50
  · rw [rst_0 h, rst_0 h]
  · exact rst_z (fun e => h (Or.inl e)) (fun e => h (Or.inr (Or.inl e))) (fun e => h (Or.inr (Or.inr e)))
theorem rst_lx : LX S (rst S) := ((LZ.ui (P := 0) (L := 0) (Or.inr (Or.inl rfl))).1.tr (LZ.ui (P := 0) (L := 0) (Or.inr (Or.inr (Or.inl rfl)))).1).tr (LZ.ui (P := 0) (L := 0) (Or.inr (Or.inr (Or.inr rfl)))).1
theorem pV_rst {ci k : Nat} {o : Option Nat} {v : Value} : pV (rst S) ci o k v = (pV S ci o k v).map rst := by
  unfold pV
  cases o with
  | none => rfl
  | some a =>
    by_cases q : a ∈ ZL S
    · have q2 : a ∈ ZL (rst S) := q
      simp only [if_pos q, if_pos q2]
      rw [show ZF (rst S) a = ZF S a from rfl]
      cases ZF S a with
      | inl r => rfl
      | inr p =>
        obtain ⟨d, fs⟩ := p
        by_cases w : d = ci ∧ k < fs.length
        · simp only [if_pos w]; rfl
        · simp only [if_neg w]; rfl
    · have q2 : ¬ a ∈ ZL (rst S) := q
      simp only [if_neg q, if_neg q2]; rfl
theorem lfn_eq {K : Ky} {x : Int32} : f_layFunction K S x = f_layFunction K (rst S) x := by
  unfold f_layFunction
  show (rQ S 11 x).bind _ = (rQ S 11 x).bind _
  refine congrArg (fun f => (rQ S 11 x).bind f) (funext (fun v1 => ?_))
  rw [pV_rst, rst_z (by decide) (by decide) (by decide)]
  cases pV S 16 v1 5 (.int (Zi S 26)) with
  | none => rfl
  | some S2 =>
    show f_layFunction_32 K bigN (rst S2) v1 0 = f_layFunction_32 K bigN (rst (rst S2)) v1 0
    rw [rst_i]
theorem LC.rs (c : LC R S0 S P h Γ L) : LC R S0 (rst S) P 0 [] 0 := ((c.ll (L2 := 0) (fun l _ h2 => by rw [show Zi (Ui S 47 (nI 0)) 47 = nI 0 from Zi_s] at h2; exact absurd h2 (nI_pos (n := l) (by omega)))).hh (h2 := 0)).a0
theorem lc0 (h51 : ∀ u : Nat, u < 256 → Zq S0 51 u = none ∨ ∃ (a : Nat) (f : Nat → Int32), Zq S0 51 u = some a ∧ a ∈ ZL S0 ∧ ZF S0 a = .inl (R.K.1 0, 1, .inl f) ∧ f 0 = nI u) (hz : ∀ a ∈ ZL S0, a < Zz S0) : LC R S0 (rst (Ui S0 26 0)) 0 0 [] 0 := by
  refine ⟨(LZ.ui (P := 0) (L := 0) (Or.inl rfl)).1.tr rst_lx, (rst_z (by decide) (by decide) (by decide)).trans Zi_s, rst_0 (by decide), ⟨rst_0 (by decide), fun k v e => by cases e⟩, rst_0 (by decide), ⟨h51, fun l hl h2 => ?_⟩, fun a ix nm ty mu q => ⟨.null, q.1, q.2, Or.inl rfl⟩, hz⟩
  rw [rst_0 (by decide)] at h2
  exact absurd h2 (nI_nn (by omega))
/-- what the laying leaves behind -/
def LyE (R : yR) (S0 Sa : Sg) (z n : Nat) (S2 : Sg) : Prop := (Zi S2 3 = 0 ∧ (∃ P : Nat, LC R S0 (rst S2) P 0 [] 0 ∧ ∀ j : Nat, j < R.im → R.ik j = 12 → FnQ R S0 S2 P j) ∧ Zz S2 ≤ Zz Sa + z ∧ Zn S2 ≤ Zn Sa + n) ∨ ∃ (S3 : Sg) (wh x : Int32) (P : Nat), (wh = 5 ∨ wh = 6) ∧ LC R S0 (rst S3) P 0 [] 0 ∧ Zi S3 3 = 0 ∧ Zz S3 ≤ Zz Sa + z ∧ Zn S3 ≤ Zn Sa + n ∧ S2 = flS S3 wh x
theorem lay_e {Q : Sg → Unit → Prop} (h3 : ¬ Zi S 3 = 0) (q : Q S ()) : ∀ {d : Nat}, 0 < d → Rt (f_layAll_7 R.K d S (nI i)) Q
  | 0, hd => by omega
  | d + 1, _ => by
    unfold f_layAll_7
    refine Rt.it (fun _ => ?_) (fun _ => Rt.ok (fun w => absurd w h3) (fun _ => ?_))
    · unfold f_layAll_84; exact Rt.rt q
    · unfold f_layAll_84; exact Rt.rt q
theorem flS_z {wh x : Int32} (h : Zi S 3 = 0) : flS S wh x = Ui (Ui S 3 wh) 4 x := if_pos h
theorem prx_ (hR : RIn R S0) (hx : LX S0 S) (hT : FnT R S0 i) : ∃ mn : Nat, PRx R S (R.ws i) mn := by
  obtain ⟨fs, mn, ta, pa, bl, va, b, gv, f, fp, Λ, ⟨a1, a2, a3, a4, a5, a6, a7, a8⟩, b1, b2, ⟨b3, b3x, b4⟩, b5, b12, _⟩ := hT
  obtain ⟨c1, f2, c2, c3, c4⟩ := hx.it (hR _ a1.1) a2
  obtain ⟨d1, d2⟩ := hx.ro (hR _ b3) b4
  refine ⟨mn, a4, f2, pa, 13, fp, c1, c2, by rw [c4 3 (by decide) (Or.inl (by decide))]; exact a3, by rw [c4 17 (by decide) (Or.inl (by decide))]; exact a8, d1, d2, by omega, by omega, fun q hq => ?_⟩
  obtain ⟨v, x, nm, v1, v2, v3, v4⟩ := b12 q hq
  have : isU S0 v q (some x) 0 := ⟨v4.1, nm, .null, v4.2⟩
  exact ⟨v, q, some x, 0, v2, this.st hx, by omega⟩
theorem rl7 (hx : LX S0 S) (hR : RIn R S0) (hA : ITA R S0) (hi : i < R.im) (hik : R.ik i = 12) : oI S 16 (some (R.ws i)) 7 = some (rlS R S0 i) := by
  obtain ⟨n1, n2, fs2, mn2, na, g2, n3, n4, n5, n6, n7, n8, n9, n10, n11⟩ := hA i hi
  rcases n11 with ⟨w, _⟩ | ⟨w, _⟩ | ⟨_, ta, gv, lo, f, go, rl, _, _, _, _, w1, _⟩
  · rw [hik] at w; exact absurd w (by decide)
  · rw [hik] at w; exact absurd w (by decide)
  · obtain ⟨c1, f2, c2, c3, c4⟩ := hx.it (hR _ n1.1) n3
    have e : rlS R S0 i = rl := by
      unfold rlS iN
      rw [obF_o n3, w1]
    rw [e]
    exact oI_mk c1 c2 (by rw [c4 7 (by decide) (Or.inl (by decide))]; exact w1)
/-- one function behind its laying -/
theorem fn1_ {Λ : List Nat} {gv mn Ps Pe L0 Le h2 : Nat} {Γ2 : List Nat} {k78 : Sg → Int32 → Option (Sg × Unit)} {Q : Sg → Unit → Prop} (hE : ENb R S0) (hL : LFS R S0 g) (hi : i < R.im) (hik : R.ik i = 12) (hT : FnT R S0 i) (hF : FnL R S0 S Λ gv i mn Ps Pe L0 Le) (c : LC R S0 S Pe h2 Γ2 Le) (h3 : Zi S 3 = 0)
  (kG : ∀ S5 : Sg, PSx S S5 → FnQ R S0 S5 Pe i → Rt (k78 S5 (nI i)) Q) (kB : ∀ (S5 : Sg) (wh x : Int32), PSx S S5 → (wh = 5 ∨ wh = 6) → Rt (k78 (flS S5 wh x) (nI i)) Q) : Rt (bnd (f_reach R.K S (some (R.ws i))) fun S9 v10 =>
    (rQ S9 11 (nI i)).bind fun v11 =>
    bnd (f_checkMoves R.K S9 v11) fun S12 v13 =>
    bnd (f_ok R.K S12) fun S14 v15 =>
    if v15 = 0 then (k78 S14 (nI i)) else ((rQ S14 11 (nI i)).bind fun v16 =>
    bnd (f_checkLoans R.K S14 v16) fun S17 v18 =>
    k78 S17 (nI i))) Q := by
  have hE2 := hE
  obtain ⟨hR, hY, _, hIT, ⟨h11, _⟩, hT3, _, _⟩ := hE2
  obtain ⟨f1, f2, f3, f4, f5, f6, f7, f8, f9, f10, f11, fs, f12, f13, f14, f15⟩ := hF
  obtain ⟨I, st, W, hI⟩ := f2.ch
  have hx0 := c.1
  have hws : R.ws i ∈ ZL S := (hx0.1 _ (hR _ (hIT i hi).1.1)).1
  have hC : PCx R S0 S (R.ws i) Ps Pe I := hI.pc f5 f11 f15 ⟨hws, fs, f12, f13, f14⟩
  have hM : ∀ k : Nat, Ps ≤ k → k < Pe → mBd (I k) := fun k a b => (hI.hb f5 k a b).2.1
  have h25 : ∀ k : Nat, Ps ≤ k → k < Pe → (I k).kd = 25 → (I k).n1 < 256 := fun k a b => (hI.hb f5 k a b).2.2.1
  refine Rt.bn (rch_ hC) (fun S3 _ t3 => ?_)
  obtain ⟨e3, hC3, r2, r1, r3, _, _⟩ := t3
  have hx3 := hx0.tr e3.lx
  refine Rt.bd (it11 hL hx3 hi) ?_
  obtain ⟨mp, hP⟩ := prx_ hR hx3 hT
  refine Rt.bn (ckm_ hT3 hL hx3 hC3 hM hP) (fun S4 _ t4 => ?_)
  rcases t4 with ⟨e4, f, m1, m2⟩ | ⟨S4', t, e4, _, e5⟩
  · have e34 := e3.tr e4.1
    have h34 : Zi S4 3 = 0 := (e34.2.2.2.2.2.2.1 3 (by decide)).trans h3
    refine Rt.ok (fun _ => ?_) (fun w => absurd h34 w)
    have hx4 := hx0.tr e34.lx
    refine Rt.bd (it11 hL hx4 hi) ?_
    have c4 := c.ps e34
    refine Rt.bn (ckl_ hT3 hY f5 (hC3.ps e4.1) hx4 (rl7 hx4 hR hIT hi hik) h25 c4.2.2.2.2.1 c4.2.2.2.2.2.1.2) (fun S5 _ t5 => ?_)
    rcases t5 with ⟨e5, hl⟩ | ⟨S5', t, e5, _, e6⟩
    · obtain ⟨rc, tv, mv, lv, H, ql, hq⟩ := fnp_ f1 hx0 hI f6 f3 f4 f5 f15 e3 r1 r2 r3 m1 m2 e4.1 e4.2.2 hl
      have e35 := e34.tr e5.1
      refine kG S5 e35 ⟨Λ, gv, mn, Ps, Pe, L0, Le, I, st, W, rc, tv, mv, lv, H, ql, ⟨f1, f6, f7, f8, f9, f10⟩, ⟨f11, f15, fs, by rw [e35.2.1]; exact f12, f13, f14⟩, fun k a b => ((hI.2.2 k a b).1.ps e35).q, hq, Nat.le_refl _⟩
    · rw [e6]
      exact kB S5' 6 _ (e34.tr e5.1) (Or.inr rfl)
  · have e34 := e3.tr e4.1
    have h34 : Zi S4' 3 = 0 := (e34.2.2.2.2.2.2.1 3 (by decide)).trans h3
    have h44 : ¬ Zi S4 3 = 0 := by rw [e5]; exact flS_n0 (by decide)
    refine Rt.ok (fun w => absurd w h44) (fun _ => ?_)
    rw [e5]
    exact kB S4' 5 _ e34 (Or.inl rfl)
/-- the loop of layAll -/
theorem lay7 (hE : ENb R S0) (hL : LFS R S0 g) (hFT : ∀ i : Nat, i < R.im → R.ik i = 12 → FnT R S0 i) (hB : BWt R bw) (hmo : ∀ i j : Nat, i ≤ j → j ≤ R.im → R.ps i ≤ R.ps j) (hpT : R.ps R.im ≤ R.T) (hpm : ∀ i : Nat, i < R.im → R.ik i = 12 → R.ps i < R.ms i) (hinj : ∀ i j : Nat, i < R.im → j < R.im → i ≠ j → R.ws i ≠ R.ws j) (h12 : Zi S0 12 = nI R.im) (hbw : 8 * (bw (R.ps R.im) - bw (R.ps 0)) < 24000) (hr : RMl R Sa (20 * (bw (R.ps R.im) - bw (R.ps 0)) + 40 * R.im) (60 * (bw (R.ps R.im) - bw (R.ps 0)) + 100 * R.im)) : ∀ (d i : Nat) (S : Sg) (P : Nat), R.im < i + d → i ≤ R.im → LC R S0 (rst S) P 0 [] 0 → (P = 0 ∨ K0 S P) → P ≤ 8 * (bw (R.ps i) - bw (R.ps 0)) → Zz S ≤ Zz Sa + (20 * (bw (R.ps i) - bw (R.ps 0)) + 40 * i) → Zn S ≤ Zn Sa + (60 * (bw (R.ps i) - bw (R.ps 0)) + 100 * i) → Zi S 3 = 0 → (∀ j : Nat, j < i → R.ik j = 12 → FnQ R S0 S P j) → Rt (f_layAll_7 R.K d S (nI i)) (fun S2 _ => LyE R S0 Sa (20 * (bw (R.ps R.im) - bw (R.ps 0)) + 40 * R.im) (60 * (bw (R.ps R.im) - bw (R.ps 0)) + 100 * R.im) S2)
  | 0, i, S, P, hd, hi, _, _, _, _, _, _, _ => by omega
  | d + 1, i, S, P, hd, hi, c, kk, hP, hz, hn, h3, hq => by
    have hE2 := hE
    obtain ⟨hR, hY, _, hIT, ⟨h11, _⟩, hT3, _, _⟩ := hE2
    have him := hY.2.1
    have e12 : Zi S 12 = nI R.im := (rst_z (by decide) (by decide) (by decide)).symm.trans ((c.1.2.1 12 (by decide) (by decide) (by decide) (by decide)).trans h12)
    have hbm : ∀ a b : Nat, a ≤ b → b ≤ R.im → bw (R.ps a) ≤ bw (R.ps b) := fun a b h1 h2 => by
      have := hB.mo (p := R.ps a) (q := R.ps b) (hmo a b h1 h2) (by have := hmo b R.im h2 (Nat.le_refl _); omega)
      omega
    unfold f_layAll_7
    rw [e12]
    refine Rt.it (fun w => ?_) (fun w => ?_)
    · have : R.im ≤ i := (nI_leI (by omega) (by omega)).mp w
      obtain rfl : i = R.im := by omega
      unfold f_layAll_84
      exact Rt.rt (Or.inl ⟨h3, ⟨P, c, fun j hj hk => hq j hj hk⟩, hz, hn⟩)
    · have hlt : i < R.im := by
        by_cases q : i < R.im
        · exact q
        · exact absurd (nI_le (a := R.im) (b := i) (by omega) (by omega)) w
      refine Rt.ok (fun _ => ?_) (fun w => absurd h3 w)
      obtain ⟨n1, n2, fs2, mn2, na, g2, n3, n4, n5⟩ := hIT i hlt
      obtain ⟨c1, f2, c2, c3, c4⟩ := c.1.it (hR _ n1.1) n3
      have o2 : oI (rst S) 16 (some (R.ws i)) 2 = some (R.ik i) := oI_mk c1 c2 (by rw [c4 2 (by decide) (Or.inl (by decide))]; exact n4)
      have o1 : rQ (rst S) 11 (nI i) = some (some (R.ws i)) := it11 hL c.1 hlt
      refine Rt.bd (show rQ S 11 (nI i) = some (some (R.ws i)) from o1) (Rt.bd (show oI S 16 (some (R.ws i)) 2 = some (R.ik i) from o2) ?_)
      have b1 := hbm 0 i (Nat.zero_le _) hi
      have b2 := hbm i (i + 1) (by omega) (by omega)
      have b3 := hbm (i + 1) R.im (by omega) (Nat.le_refl _)
      refine Rt.it (fun hik => ?_) (fun hik => ?_)
      · have hrm : RMl R (rst S) (20 * (bw (R.ps (i + 1)) - bw (R.ps i)) + 40) (60 * (bw (R.ps (i + 1)) - bw (R.ps i)) + 100) := by
          have a1 := hr.1
          have a2 := hr.2
          have z1 : Zz (rst S) = Zz S := rfl
          have z2 : Zn (rst S) = Zn S := rfl
          exact ⟨by omega, by omega⟩
        refine Rt.bn (by rw [lfn_eq]; exact lfn_ hE hlt hik (hFT i hlt hik) hB (hpm i hlt hik) c kk (by omega) hrm) (fun S2 _ t2 => ?_)
        obtain ⟨Λ, gv, mn, Pe, L0, Le, h2, Γ2, u1, u2, u3, u4, u5, u6, u7, u8, u9⟩ := t2
        have zr1 : Zz (rst S) = Zz S := rfl
        have zr2 : Zn (rst S) = Zn S := rfl
        refine Rt.bd (it11 hL u2.1 hlt) ?_
        have h32 : Zi S2 3 = 0 := (u3.2.1 3 (by decide) (by decide) (by decide) (by decide)).trans ((rst_z (by decide) (by decide) (by decide)).trans h3)
        have hPe : P ≤ Pe := by
          obtain ⟨_, _, _, _, _, _, _, _, _, _, w, _⟩ := u1
          omega
        refine fn1_ hE hL hlt hik (hFT i hlt hik) u1 u2 h32 (fun S5 e5 q5 => ?_) (fun S5 wh x e5 hw => ?_)
        · have z5 : Zz S5 = Zz S2 := e5.2.2.1.1
          have n5 : Zn S5 = Zn S2 := e5.2.2.1.2
          unfold f_layAll_78
          rw [nI_1]
          refine lay7 hE hL hFT hB hmo hpT hpm hinj h12 hbw hr d (i + 1) S5 Pe (by omega) (by omega) (u2.ps e5).rs (Or.inr ?_) (by omega) (by omega) (by omega) ((e5.2.2.2.2.2.2.1 3 (by decide)).trans h32) (fun j hj hk => ?_)
          · obtain ⟨y1, y2⟩ := u9
            refine ⟨y1, ?_⟩
            rw [e5.2.2.2.2.2.1 27 (by decide)]; exact y2
          · by_cases ej : j = i
            · subst ej; exact q5
            · have q1 := hq j (by omega) hk
              have q2 := q1.st (P2 := Pe) u3 u4 (u5 j (by omega) ej (hinj j i (by omega) hlt ej)) hPe
              exact q2.st e5.lx e5.px (fun fs w => by rw [e5.2.1]; exact w) (Nat.le_refl _)
        · have z5 : Zz S5 = Zz S2 := e5.2.2.1.1
          have n5 : Zn S5 = Zn S2 := e5.2.2.1.2
          unfold f_layAll_78
          rw [nI_1]
          cases d with
          | zero => omega
          | succ d =>
            refine lay_e (flS_n0 (by rcases hw with w | w <;> rw [w] <;> decide)) (Or.inr ⟨S5, wh, x, Pe, hw, (u2.ps e5).rs, (e5.2.2.2.2.2.2.1 3 (by decide)).trans h32, by omega, by omega, rfl⟩) (by omega)
      · unfold f_layAll_78
        rw [nI_1]
        refine lay7 hE hL hFT hB hmo hpT hpm hinj h12 hbw hr d (i + 1) S P (by omega) (by omega) c kk (by omega) (by omega) (by omega) h3 (fun j hj hk => ?_)
        by_cases ej : j = i
        · subst ej; exact absurd hk hik
        · exact hq j (by omega) hk
/-- layAll -/
theorem lyA_ (hE : ENb R S0) (hL : LFS R S0 g) (hFT : ∀ i : Nat, i < R.im → R.ik i = 12 → FnT R S0 i) (hB : BWt R bw) (hmo : ∀ i j : Nat, i ≤ j → j ≤ R.im → R.ps i ≤ R.ps j) (hpT : R.ps R.im ≤ R.T) (hpm : ∀ i : Nat, i < R.im → R.ik i = 12 → R.ps i < R.ms i) (hinj : ∀ i j : Nat, i < R.im → j < R.im → i ≠ j → R.ws i ≠ R.ws j) (h12 : Zi S0 12 = nI R.im) (hbw : 8 * (bw (R.ps R.im) - bw (R.ps 0)) < 24000) (hr : RMl R S0 (20 * (bw (R.ps R.im) - bw (R.ps 0)) + 40 * R.im) (60 * (bw (R.ps R.im) - bw (R.ps 0)) + 100 * R.im)) (c : LC R S0 (rst (Ui S0 26 0)) 0 0 [] 0) (h3 : Zi S0 3 = 0) : Rt (f_layAll R.K S0) (fun S2 _ => LyE R S0 S0 (20 * (bw (R.ps R.im) - bw (R.ps 0)) + 40 * R.im) (60 * (bw (R.ps R.im) - bw (R.ps 0)) + 100 * R.im) S2) := by
  unfold f_layAll
  refine Rt.bd (v := Ui S0 26 0) rfl ?_
  exact lay7 (Sa := S0) hE hL hFT hB hmo hpT hpm hinj h12 hbw hr bigN 0 (Ui S0 26 0) 0 (by unfold bigN; have := hE.2.1.2.1; omega) (Nat.zero_le _) c (Or.inl rfl) (Nat.zero_le _) (Nat.le_add_right _ _) (Nat.le_add_right _ _) ((Zi_n (by decide)).trans h3) (fun j hj => by omega)
end PS19
