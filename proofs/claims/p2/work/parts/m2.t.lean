-- m2.t.lean.txt
section
/-- the laying's counters as a function's laying sets them -/
def rst (S : Sg) : Sg := Ui (Ui (Ui S 47 0) 48 0) 50 0
section PS19
variable {R : yR} {S0 S S1 S2 S3 S4 S5 Sa : Sg} {i P P2 h L : Nat} {Γ : List Nat} {g : Nat → Int32} {bw : Nat → Nat}
theorem FnQ.st (hx : LX S S2) (hp : PX P S S2) (hi : ∀ fs : List Value, ZF S (R.ws i) = .inr (16, fs) → ZF S2 (R.ws i) = .inr (16, fs)) (h2 : P ≤ P2) (q : FnQ R S0 S P i) : FnQ R S0 S2 P2 i := by
  obtain ⟨Λ, gv, mn, Ps, Pe, L0, L, I, st, W, rc, tv, mv, lv, H, ql, q1, ⟨q2, q3, fs, q4, q5⟩, q6, q7, q8⟩ := q
  exact ⟨Λ, gv, mn, Ps, Pe, L0, L, I, st, W, rc, tv, mv, lv, H, ql, q1, ⟨q2, q3, fs, hi fs q4, q5⟩, fun k a b => (q6 k a b).st hx (hp k (by omega)), q7, by omega⟩
theorem rst_z {j : Nat} (h1 : j ≠ 47) (h2 : j ≠ 48) (h3 : j ≠ 50) : Zi (rst S) j = Zi S j := ((Zi_n h3).trans (Zi_n h2)).trans (Zi_n h1)
theorem rst_0 {j : Nat} (h : j = 47 ∨ j = 48 ∨ j = 50) : Zi (rst S) j = 0 := by
  rcases h with h | h | h <;> subst h
  · exact (Zi_n (by decide)).trans ((Zi_n (by decide)).trans Zi_s)
  · exact (Zi_n (by decide)).trans Zi_s
  · exact Zi_s
theorem rst_i : rst (rst S) = rst S := by
  refine Prod.ext (funext (fun j => ?_)) rfl
  show Zi (rst (rst S)) j = Zi (rst S) j
  by_cases h : j = 47 ∨ j = 48 ∨ j = 50
  · rw [rst_0 h, rst_0 h]
  · exact rst_z (fun e => h (Or.inl e)) (fun e => h (Or.inr (Or.inl e))) (fun e => h (Or.inr (Or.inr e)))
theorem rst_lx : LX S (rst S) := ((LZ.ui (P := 0) (L := 0) (Or.inr (Or.inl rfl))).1.tr (LZ.ui (P := 0) (L := 0) (Or.inr (Or.inr (Or.inl rfl)))).1).tr (LZ.ui (P := 0) (L := 0) (Or.inr (Or.inr (Or.inr rfl)))).1
theorem pV_rst {ci k : Nat} {o : Option Nat} {v : Value} : pV (rst S) ci o k v = (pV S ci o k v).map rst := by
  unfold pV
  cases o with
  | none => rfl
  | some a =>
    by_cases q : a ∈ ZL S
    · have q2 : a ∈ ZL (rst S) := q
      simp only [if_pos q, if_pos q2]
      rw [show ZF (rst S) a = ZF S a from rfl]
      cases ZF S a with
      | inl r => rfl
      | inr p =>
        obtain ⟨d, fs⟩ := p
        by_cases w : d = ci ∧ k < fs.length
        · simp only [if_pos w]; rfl
        · simp only [if_neg w]; rfl
    · have q2 : ¬ a ∈ ZL (rst S) := q
      simp only [if_neg q, if_neg q2]; rfl
theorem lfn_eq {K : Ky} {x : Int32} : f_layFunction K S x = f_layFunction K (rst S) x := by
  unfold f_layFunction
  show (rQ S 11 x).bind _ = (rQ S 11 x).bind _
  refine congrArg (fun f => (rQ S 11 x).bind f) (funext (fun v1 => ?_))
  rw [pV_rst, rst_z (by decide) (by decide) (by decide)]
  cases pV S 16 v1 5 (.int (Zi S 26)) with
  | none => rfl
  | some S2 =>
    show f_layFunction_32 K bigN (rst S2) v1 0 = f_layFunction_32 K bigN (rst (rst S2)) v1 0
    rw [rst_i]
theorem LC.rs (c : LC R S0 S P h Γ L) : LC R S0 (rst S) P 0 [] 0 := ((c.ll (L2 := 0) (fun l _ h2 => by rw [show Zi (Ui S 47 (nI 0)) 47 = nI 0 from Zi_s] at h2; exact absurd h2 (nI_pos (n := l) (by omega)))).hh (h2 := 0)).a0
theorem lc0 (h51 : ∀ u : Nat, u < 256 → Zq S0 51 u = none ∨ ∃ (a : Nat) (f : Nat → Int32), Zq S0 51 u = some a ∧ a ∈ ZL S0 ∧ ZF S0 a = .inl (R.K.1 0, 1, .inl f) ∧ f 0 = nI u) (hz : ∀ a ∈ ZL S0, a < Zz S0) : LC R S0 (rst (Ui S0 26 0)) 0 0 [] 0 := by
  refine ⟨(LZ.ui (P := 0) (L := 0) (Or.inl rfl)).1.tr rst_lx, (rst_z (by decide) (by decide) (by decide)).trans Zi_s, rst_0 (by decide), ⟨rst_0 (by decide), fun k v e => by cases e⟩, rst_0 (by decide), ⟨h51, fun l hl h2 => ?_⟩, fun a ix nm ty mu q => ⟨.null, q.1, q.2, Or.inl rfl⟩, hz⟩
  rw [rst_0 (by decide)] at h2
  exact absurd h2 (nI_nn (by omega))
/-- what the laying leaves behind -/
def LyE (R : yR) (S0 Sa : Sg) (z n : Nat) (S2 : Sg) : Prop := (Zi S2 3 = 0 ∧ (∃ P : Nat, LC R S0 (rst S2) P 0 [] 0 ∧ ∀ j : Nat, j < R.im → R.ik j = 12 → FnQ R S0 S2 P j) ∧ Zz S2 ≤ Zz Sa + z ∧ Zn S2 ≤ Zn Sa + n) ∨ ∃ (S3 : Sg) (wh x : Int32) (P : Nat), (wh = 5 ∨ wh = 6) ∧ LC R S0 (rst S3) P 0 [] 0 ∧ Zi S3 3 = 0 ∧ Zz S3 ≤ Zz Sa + z ∧ Zn S3 ≤ Zn Sa + n ∧ S2 = flS S3 wh x
theorem lay_e {Q : Sg → Unit → Prop} (h3 : ¬ Zi S 3 = 0) (q : Q S ()) : ∀ {d : Nat}, 0 < d → Rt (f_layAll_7 R.K d S (nI i)) Q
  | 0, hd => by omega
  | d + 1, _ => by
    unfold f_layAll_7
    refine Rt.it (fun _ => ?_) (fun _ => Rt.ok (fun w => absurd w h3) (fun _ => ?_))
    · unfold f_layAll_84; exact Rt.rt q
    · unfold f_layAll_84; exact Rt.rt q
theorem flS_z {wh x : Int32} (h : Zi S 3 = 0) : flS S wh x = Ui (Ui S 3 wh) 4 x := if_pos h
theorem prx_ (hR : RIn R S0) (hx : LX S0 S) (hT : FnT R S0 i) : ∃ mn : Nat, PRx R S (R.ws i) mn := by
  obtain ⟨fs, mn, ta, pa, bl, va, b, gv, f, fp, Λ, ⟨a1, a2, a3, a4, a5, a6, a7, a8⟩, b1, b2, ⟨b3, b3x, b4⟩, b5, b12, _⟩ := hT
  obtain ⟨c1, f2, c2, c3, c4⟩ := hx.it (hR _ a1.1) a2
  obtain ⟨d1, d2⟩ := hx.ro (hR _ b3) b4
  refine ⟨mn, a4, f2, pa, 13, fp, c1, c2, by rw [c4 3 (by decide) (Or.inl (by decide))]; exact a3, by rw [c4 17 (by decide) (Or.inl (by decide))]; exact a8, d1, d2, by omega, by omega, fun q hq => ?_⟩
  obtain ⟨v, x, nm, v1, v2, v3, v4⟩ := b12 q hq
  have : isU S0 v q (some x) 0 := ⟨v4.1, nm, .null, v4.2⟩
  exact ⟨v, q, some x, 0, v2, this.st hx, by omega⟩
theorem rl7 (hx : LX S0 S) (hR : RIn R S0) (hA : ITA R S0) (hi : i < R.im) (hik : R.ik i = 12) : oI S 16 (some (R.ws i)) 7 = some (rlS R S0 i) := by
  obtain ⟨n1, n2, fs2, mn2, na, g2, n3, n4, n5, n6, n7, n8, n9, n10, n11⟩ := hA i hi
  rcases n11 with ⟨w, _⟩ | ⟨w, _⟩ | ⟨_, ta, gv, lo, f, go, rl, _, _, _, _, w1, _⟩
  · rw [hik] at w; exact absurd w (by decide)
  · rw [hik] at w; exact absurd w (by decide)
  · obtain ⟨c1, f2, c2, c3, c4⟩ := hx.it (hR _ n1.1) n3
    have e : rlS R S0 i = rl := by
      unfold rlS iN
      rw [obF_o n3, w1]
    rw [e]
    exact oI_mk c1 c2 (by rw [c4 7 (by decide) (Or.inl (by decide))]; exact w1)
/-- one function behind its laying -/
theorem fn1_ {Λ : List Nat} {gv mn Ps Pe L0 Le h2 : Nat} {Γ2 : List Nat} {k78 : Sg → Int32 → Option (Sg × Unit)} {Q : Sg → Unit → Prop} (hE : ENb R S0) (hL : LFS R S0 g) (hi : i < R.im) (hik : R.ik i = 12) (hT : FnT R S0 i) (hF : FnL R S0 S Λ gv i mn Ps Pe L0 Le) (c : LC R S0 S Pe h2 Γ2 Le) (h3 : Zi S 3 = 0)
  (kG : ∀ S5 : Sg, PSx S S5 → FnQ R S0 S5 Pe i → Rt (k78 S5 (nI i)) Q) (kB : ∀ (S5 : Sg) (wh x : Int32), PSx S S5 → (wh = 5 ∨ wh = 6) → Rt (k78 (flS S5 wh x) (nI i)) Q) : Rt (bnd (f_reach R.K S (some (R.ws i))) fun S9 v10 =>
    (rQ S9 11 (nI i)).bind fun v11 =>
    bnd (f_checkMoves R.K S9 v11) fun S12 v13 =>
    bnd (f_ok R.K S12) fun S14 v15 =>
    if v15 = 0 then (k78 S14 (nI i)) else ((rQ S14 11 (nI i)).bind fun v16 =>
    bnd (f_checkLoans R.K S14 v16) fun S17 v18 =>
    k78 S17 (nI i))) Q := by
  have hE2 := hE
  obtain ⟨hR, hY, _, hIT, ⟨h11, _⟩, hT3, _, _⟩ := hE2
  obtain ⟨f1, f2, f3, f4, f5, f6, f7, f8, f9, f10, f11, fs, f12, f13, f14, f15⟩ := hF
  obtain ⟨I, st, W, hI⟩ := f2.ch
  have hx0 := c.1
  have hws : R.ws i ∈ ZL S := (hx0.1 _ (hR _ (hIT i hi).1.1)).1
  have hC : PCx R S0 S (R.ws i) Ps Pe I := hI.pc f5 f11 f15 ⟨hws, fs, f12, f13, f14⟩
  have hM : ∀ k : Nat, Ps ≤ k → k < Pe → mBd (I k) := fun k a b => (hI.hb f5 k a b).2.1
  have h25 : ∀ k : Nat, Ps ≤ k → k < Pe → (I k).kd = 25 → (I k).n1 < 256 := fun k a b => (hI.hb f5 k a b).2.2.1
  refine Rt.bn (rch_ hC) (fun S3 _ t3 => ?_)
  obtain ⟨e3, hC3, r2, r1, r3, _, _⟩ := t3
  have hx3 := hx0.tr e3.lx
  refine Rt.bd (it11 hL hx3 hi) ?_
  obtain ⟨mp, hP⟩ := prx_ hR hx3 hT
  refine Rt.bn (ckm_ hT3 hL hx3 hC3 hM hP) (fun S4 _ t4 => ?_)
  rcases t4 with ⟨e4, f, m1, m2⟩ | ⟨S4', t, e4, _, e5⟩
  · have e34 := e3.tr e4.1
    have h34 : Zi S4 3 = 0 := (e34.2.2.2.2.2.2.1 3 (by decide)).trans h3
    refine Rt.ok (fun _ => ?_) (fun w => absurd h34 w)
    have hx4 := hx0.tr e34.lx
    refine Rt.bd (it11 hL hx4 hi) ?_
    have c4 := c.ps e34
    refine Rt.bn (ckl_ hT3 hY f5 (hC3.ps e4.1) hx4 (rl7 hx4 hR hIT hi hik) h25 c4.2.2.2.2.1 c4.2.2.2.2.2.1.2) (fun S5 _ t5 => ?_)
    rcases t5 with ⟨e5, hl⟩ | ⟨S5', t, e5, _, e6⟩
    · obtain ⟨rc, tv, mv, lv, H, ql, hq⟩ := fnp_ f1 hx0 hI f6 f3 f4 f5 f15 e3 r1 r2 r3 m1 m2 e4.1 e4.2.2 hl
      have e35 := e34.tr e5.1
      refine kG S5 e35 ⟨Λ, gv, mn, Ps, Pe, L0, Le, I, st, W, rc, tv, mv, lv, H, ql, ⟨f1, f6, f7, f8, f9, f10⟩, ⟨f11, f15, fs, by rw [e35.2.1]; exact f12, f13, f14⟩, fun k a b => ((hI.2.2 k a b).1.ps e35).q, hq, Nat.le_refl _⟩
    · rw [e6]
      exact kB S5' 6 _ (e34.tr e5.1) (Or.inr rfl)
  · have e34 := e3.tr e4.1
    have h34 : Zi S4' 3 = 0 := (e34.2.2.2.2.2.2.1 3 (by decide)).trans h3
    have h44 : ¬ Zi S4 3 = 0 := by rw [e5]; exact flS_n0 (by decide)
    refine Rt.ok (fun w => absurd w h44) (fun _ => ?_)
    rw [e5]
    exact kB S4' 5 _ e34 (Or.inl rfl)
/-- the loop of layAll -/
theorem lay7 (hE : ENb R S0) (hL : LFS R S0 g) (hFT : ∀ i : Nat, i < R.im → R.ik i = 12 → FnT R S0 i) (hB : BWt R bw) (hmo : ∀ i j : Nat, i ≤ j → j ≤ R.im → R.ps i ≤ R.ps j) (hpT : R.ps R.im ≤ R.T) (hpm : ∀ i : Nat, i < R.im → R.ik i = 12 → R.ps i < R.ms i) (hinj : ∀ i j : Nat, i < R.im → j < R.im → i ≠ j → R.ws i ≠ R.ws j) (h12 : Zi S0 12 = nI R.im) (hbw : 8 * (bw (R.ps R.im) - bw (R.ps 0)) < 24000) (hr : RMl R Sa (20 * (bw (R.ps R.im) - bw (R.ps 0)) + 40 * R.im) (60 * (bw (R.ps R.im) - bw (R.ps 0)) + 100 * R.im)) : ∀ (d i : Nat) (S : Sg) (P : Nat), R.im < i + d → i ≤ R.im → LC R S0 (rst S) P 0 [] 0 → (P = 0 ∨ K0 S P) → P ≤ 8 * (bw (R.ps i) - bw (R.ps 0)) → Zz S ≤ Zz Sa + (20 * (bw (R.ps i) - bw (R.ps 0)) + 40 * i) → Zn S ≤ Zn Sa + (60 * (bw (R.ps i) - bw (R.ps 0)) + 100 * i) → Zi S 3 = 0 → (∀ j : Nat, j < i → R.ik j = 12 → FnQ R S0 S P j) → Rt (f_layAll_7 R.K d S (nI i)) (fun S2 _ => LyE R S0 Sa (20 * (bw (R.ps R.im) - bw (R.ps 0)) + 40 * R.im) (60 * (bw (R.ps R.im) - bw (R.ps 0)) + 100 * R.im) S2)
  | 0, i, S, P, hd, hi, _, _, _, _, _, _, _ => by omega
  | d + 1, i, S, P, hd, hi, c, kk, hP, hz, hn, h3, hq => by
    have hE2 := hE
    obtain ⟨hR, hY, _, hIT, ⟨h11, _⟩, hT3, _, _⟩ := hE2
    have him := hY.2.1
    have e12 : Zi S 12 = nI R.im := (rst_z (by decide) (by decide) (by decide)).symm.trans ((c.1.2.1 12 (by decide) (by decide) (by decide) (by decide)).trans h12)
    have hbm : ∀ a b : Nat, a ≤ b → b ≤ R.im → bw (R.ps a) ≤ bw (R.ps b) := fun a b h1 h2 => by
      have := hB.mo (p := R.ps a) (q := R.ps b) (hmo a b h1 h2) (by have := hmo b R.im h2 (Nat.le_refl _); omega)
      omega
    unfold f_layAll_7
    rw [e12]
    refine Rt.it (fun w => ?_) (fun w => ?_)
    · have : R.im ≤ i := (nI_leI (by omega) (by omega)).mp w
      obtain rfl : i = R.im := by omega
      unfold f_layAll_84
      exact Rt.rt (Or.inl ⟨h3, ⟨P, c, fun j hj hk => hq j hj hk⟩, hz, hn⟩)
    · have hlt : i < R.im := by
        by_cases q : i < R.im
        · exact q
        · exact absurd (nI_le (a := R.im) (b := i) (by omega) (by omega)) w
      refine Rt.ok (fun _ => ?_) (fun w => absurd h3 w)
      obtain ⟨n1, n2, fs2, mn2, na, g2, n3, n4, n5⟩ := hIT i hlt
      obtain ⟨c1, f2, c2, c3, c4⟩ := c.1.it (hR _ n1.1) n3
      have o2 : oI (rst S) 16 (some (R.ws i)) 2 = some (R.ik i) := oI_mk c1 c2 (by rw [c4 2 (by decide) (Or.inl (by decide))]; exact n4)
      have o1 : rQ (rst S) 11 (nI i) = some (some (R.ws i)) := it11 hL c.1 hlt
      refine Rt.bd (show rQ S 11 (nI i) = some (some (R.ws i)) from o1) (Rt.bd (show oI S 16 (some (R.ws i)) 2 = some (R.ik i) from o2) ?_)
      have b1 := hbm 0 i (Nat.zero_le _) hi
      have b2 := hbm i (i + 1) (by omega) (by omega)
      have b3 := hbm (i + 1) R.im (by omega) (Nat.le_refl _)
      refine Rt.it (fun hik => ?_) (fun hik => ?_)
      · have hrm : RMl R (rst S) (20 * (bw (R.ps (i + 1)) - bw (R.ps i)) + 40) (60 * (bw (R.ps (i + 1)) - bw (R.ps i)) + 100) := by
          have a1 := hr.1
          have a2 := hr.2
          have z1 : Zz (rst S) = Zz S := rfl
          have z2 : Zn (rst S) = Zn S := rfl
          exact ⟨by omega, by omega⟩
        refine Rt.bn (by rw [lfn_eq]; exact lfn_ hE hlt hik (hFT i hlt hik) hB (hpm i hlt hik) c kk (by omega) hrm) (fun S2 _ t2 => ?_)
        obtain ⟨Λ, gv, mn, Pe, L0, Le, h2, Γ2, u1, u2, u3, u4, u5, u6, u7, u8, u9⟩ := t2
        have zr1 : Zz (rst S) = Zz S := rfl
        have zr2 : Zn (rst S) = Zn S := rfl
        refine Rt.bd (it11 hL u2.1 hlt) ?_
        have h32 : Zi S2 3 = 0 := (u3.2.1 3 (by decide) (by decide) (by decide) (by decide)).trans ((rst_z (by decide) (by decide) (by decide)).trans h3)
        have hPe : P ≤ Pe := by
          obtain ⟨_, _, _, _, _, _, _, _, _, _, w, _⟩ := u1
          omega
        refine fn1_ hE hL hlt hik (hFT i hlt hik) u1 u2 h32 (fun S5 e5 q5 => ?_) (fun S5 wh x e5 hw => ?_)
        · have z5 : Zz S5 = Zz S2 := e5.2.2.1.1
          have n5 : Zn S5 = Zn S2 := e5.2.2.1.2
          unfold f_layAll_78
          rw [nI_1]
          refine lay7 hE hL hFT hB hmo hpT hpm hinj h12 hbw hr d (i + 1) S5 Pe (by omega) (by omega) (u2.ps e5).rs (Or.inr ?_) (by omega) (by omega) (by omega) ((e5.2.2.2.2.2.2.1 3 (by decide)).trans h32) (fun j hj hk => ?_)
          · obtain ⟨y1, y2⟩ := u9
            refine ⟨y1, ?_⟩
            rw [e5.2.2.2.2.2.1 27 (by decide)]; exact y2
          · by_cases ej : j = i
            · subst ej; exact q5
            · have q1 := hq j (by omega) hk
              have q2 := q1.st (P2 := Pe) u3 u4 (u5 j (by omega) ej (hinj j i (by omega) hlt ej)) hPe
              exact q2.st e5.lx e5.px (fun fs w => by rw [e5.2.1]; exact w) (Nat.le_refl _)
        · have z5 : Zz S5 = Zz S2 := e5.2.2.1.1
          have n5 : Zn S5 = Zn S2 := e5.2.2.1.2
          unfold f_layAll_78
          rw [nI_1]
          cases d with
          | zero => omega
          | succ d =>
            refine lay_e (flS_n0 (by rcases hw with w | w <;> rw [w] <;> decide)) (Or.inr ⟨S5, wh, x, Pe, hw, (u2.ps e5).rs, (e5.2.2.2.2.2.2.1 3 (by decide)).trans h32, by omega, by omega, rfl⟩) (by omega)
      · unfold f_layAll_78
        rw [nI_1]
        refine lay7 hE hL hFT hB hmo hpT hpm hinj h12 hbw hr d (i + 1) S P (by omega) (by omega) c kk (by omega) (by omega) (by omega) h3 (fun j hj hk => ?_)
        by_cases ej : j = i
        · subst ej; exact absurd hk hik
        · exact hq j (by omega) hk
/-- layAll -/
theorem lyA_ (hE : ENb R S0) (hL : LFS R S0 g) (hFT : ∀ i : Nat, i < R.im → R.ik i = 12 → FnT R S0 i) (hB : BWt R bw) (hmo : ∀ i j : Nat, i ≤ j → j ≤ R.im → R.ps i ≤ R.ps j) (hpT : R.ps R.im ≤ R.T) (hpm : ∀ i : Nat, i < R.im → R.ik i = 12 → R.ps i < R.ms i) (hinj : ∀ i j : Nat, i < R.im → j < R.im → i ≠ j → R.ws i ≠ R.ws j) (h12 : Zi S0 12 = nI R.im) (hbw : 8 * (bw (R.ps R.im) - bw (R.ps 0)) < 24000) (hr : RMl R S0 (20 * (bw (R.ps R.im) - bw (R.ps 0)) + 40 * R.im) (60 * (bw (R.ps R.im) - bw (R.ps 0)) + 100 * R.im)) (c : LC R S0 (rst (Ui S0 26 0)) 0 0 [] 0) (h3 : Zi S0 3 = 0) : Rt (f_layAll R.K S0) (fun S2 _ => LyE R S0 S0 (20 * (bw (R.ps R.im) - bw (R.ps 0)) + 40 * R.im) (60 * (bw (R.ps R.im) - bw (R.ps 0)) + 100 * R.im) S2) := by
  unfold f_layAll
  refine Rt.bd (v := Ui S0 26 0) rfl ?_
  exact lay7 (Sa := S0) hE hL hFT hB hmo hpT hpm hinj h12 hbw hr bigN 0 (Ui S0 26 0) 0 (by unfold bigN; have := hE.2.1.2.1; omega) (Nat.zero_le _) c (Or.inl rfl) (Nat.zero_le _) (Nat.le_add_right _ _) (Nat.le_add_right _ _) ((Zi_n (by decide)).trans h3) (fun j hj => by omega)
end PS19
end
-- m2.u.lean.txt
section
section PS20
variable {R : yR} {S0 : Sg} {nv : Nat}
/-- behind the typing: all that the laying asks for -/
theorem enb_ (hD : RDI R) (hT : R.T ≤ 3001) (hp : R.ps R.im ≤ 1990) (h : TYF R nv S0) (h3 : Zi S0 3 = 0) : ENb R S0 ∧ (∃ g : Nat → Int32, LFS R S0 g) ∧ (∀ i : Nat, i < R.im → R.ik i = 12 → FnT R S0 i) ∧ MN R S0 ∧ (∀ a ∈ ZL S0, a < Zz S0) ∧ Zi S0 12 = nI R.im := by
  obtain ⟨c2, nv2, t1, t2, hS, t4⟩ := h
  obtain ⟨hA, hW, hFT, hM, g, hg⟩ := t4 h3
  have hc : c2 ≤ 1990 := by omega
  have hS2 := hS
  obtain ⟨G, tm, Y, ad, s1, s2, s3, s4, s5, s6, s7⟩ := hS2
  have htm : tm ≤ 2000 := by have := ptN_ge (Y := Y) (tm := tm); omega
  have hR : RIn R S0 := fun a ha => (s2 a ha).1
  have hY : YK R S0 := ⟨by rw [s1.tm9 htm]; exact htm, hD.1, fun x kd ix o q => (hS.at hc q).1⟩
  have h11 : Zq S0 11 = Zq R.S 11 := s7 11 (by decide) (by decide)
  have hM1 : MN1 R S0 := fun i mn fs hi hk e1 e2 e3 => by
    obtain ⟨s, _, _, fs2, mn2, q1, q2, q3, q4, _⟩ := hg.1 i hi hk
    have : fs2 = fs := by rw [e1] at q1; cases q1; rfl
    subst this
    rw [q2] at e2
    have := nI_e (by omega) (by omega) (Value.int.inj (Option.some.inj e2))
    omega
  have hN : SNH R S0 := by
    refine ⟨hT, ⟨s5 0 (by decide), s5 6 (by decide), s5 7 (by decide)⟩, fun t ht => ?_⟩
    obtain ⟨⟨⟨k1, k2, ⟨a, b, k3, _⟩, k4, k5, k6⟩, k7, k8⟩, _⟩ := s1.1
    by_cases e : t = R.T - 1
    · subst e
      exact ⟨R.zs, R.zs, k5, k6, Nat.le_refl _, k7⟩
    · obtain ⟨g1, g2, g3, g4, _⟩ := k3 t (by omega)
      exact ⟨a t, b t, g1, g2, by omega, by omega⟩
  exact ⟨⟨hR, hY, hS.keq, hA, ⟨h11, s5 5 (by decide)⟩, hT, hM1, hN⟩, ⟨g, hY, hR, hA, h11, hg⟩, hFT, hM, s1.2.2.2.2.2.2, s1.2.2.1⟩
/-- the items' addresses differ, their heads are ahead of their bodies -/
theorem RDI.wi (hD : RDI R) {i j : Nat} (hi : i < R.im) (hj : j < R.im) (h : i ≠ j) : R.ws i ≠ R.ws j := by
  have key : ∀ i j : Nat, i < j → j < R.im → R.ws i < R.ws j := fun i j hij hj => by
    obtain ⟨_, k2, _⟩ := hD.2.2.2.2 i (by omega)
    have m1 : R.ws i ∈ iv (R.ws i) (R.ws (i + 1)) := k2.1
    have m2 : R.ws i < R.ws (i + 1) := by
      unfold iv at m1
      have := List.mem_range'_1.mp m1
      omega
    have := (hD.2.2.1 (i + 1) j (by omega) (by omega)).2
    omega
  rcases Nat.lt_or_gt_of_ne h with w | w
  · exact Nat.ne_of_lt (key i j w hj)
  · exact Nat.ne_of_gt (key j i w hi)
end PS20
end
-- m2.v.lean.txt
section
section PS21
variable {R : yR} {S0 : Sg} {nv c : Nat}
/-- weights of tokens: where they begin -/
theorem bw_ (h : TS R c nv S0) : ∃ bw : Nat → Nat, BWt R bw ∧ ∀ j : Nat, j < R.T → bw j ≤ R.zs := by
  have e5 : Zr S0 5 = Zr R.S 5 := h.fk (by decide)
  obtain ⟨G, tm, Y, ad, s1, _⟩ := h
  obtain ⟨⟨⟨k1, k2, ⟨a, b, k3, k9⟩, k4, k5, k6⟩, k7, k8⟩, _⟩ := s1.1
  rw [e5] at k3 k4
  refine ⟨fun j => if j < R.T - 1 then a j else R.zs + (j - (R.T - 1)), fun j hj => ?_, fun j hj => ?_⟩
  · dsimp only
    by_cases q : j < R.T - 1
    · obtain ⟨g1, g2, g3, g4, g5, g6⟩ := k3 j q
      rw [if_pos q]
      by_cases q2 : j + 1 < R.T - 1
      · have := k9 j q2
        rw [if_pos q2]
        exact ⟨by omega, fun w => by have := g6 w; omega⟩
      · rw [if_neg q2]
        exact ⟨by omega, fun w => by have := g6 w; omega⟩
    · have e : j = R.T - 1 := by omega
      rw [if_neg q, if_neg (by omega)]
      refine ⟨by omega, fun w => ?_⟩
      rw [e, k4] at w
      exact absurd w (by decide)
  · dsimp only
    by_cases q : j < R.T - 1
    · rw [if_pos q]; have := k3 j q; omega
    · rw [if_neg q]; omega
theorem LyE.mo {R : yR} {S0 Sa S2 : Sg} {z n z2 n2 : Nat} (h : LyE R S0 Sa z n S2) (hz : z ≤ z2) (hn : n ≤ n2) : LyE R S0 Sa z2 n2 S2 := h.imp (fun ⟨a, b, c, d⟩ => ⟨a, b, by omega, by omega⟩) (fun ⟨S3, wh, x, P, a, b, c, d, e, f⟩ => ⟨S3, wh, x, P, a, b, c, by omega, by omega, f⟩)
/-- the laying of a typed text -/
theorem lyT_ (hK : yRm R) (hD : RDI R) (hT : R.T ≤ 3001) (hpT : R.ps R.im < R.T) (hp : R.ps R.im ≤ 1990) (hzs : R.zs ≤ 1300) (hnv : nv ≤ 10) (h : TYF R nv S0) (h3 : Zi S0 3 = 0) (h51 : ∀ u : Nat, u < 256 → Zq S0 51 u = none ∨ ∃ (a : Nat) (f : Nat → Int32), Zq S0 51 u = some a ∧ a ∈ ZL S0 ∧ ZF S0 a = .inl (R.K.1 0, 1, .inl f) ∧ f 0 = nI u) : Rt (f_layAll R.K S0) (fun S2 _ => LyE R S0 S0 29000 90000 S2) := by
  obtain ⟨hE, ⟨g, hL⟩, hFT, hM, hz, h12⟩ := enb_ hD hT hp h h3
  obtain ⟨c2, nv2, t1, t2, hS, t4⟩ := h
  obtain ⟨bw, hB, hb⟩ := bw_ hS
  have him := hD.1
  have hb2 := hb (R.ps R.im) hpT
  obtain ⟨G, tm, Y, ad, s1, s2, s3, _⟩ := hS
  have htm : tm ≤ 2000 := by have := ptN_ge (Y := Y) (tm := tm); omega
  have hz1 := s1.2.2.2.2.1
  have hz2 := s1.2.2.2.2.2.1
  have hk1 := hK.1
  have hk2 := hK.2.1
  refine (lyA_ hE hL hFT hB (fun i j a b => (hD.2.2.1 i j a b).1) hD.2.2.2.1 (fun i hi hk => ?_) (fun i j hi hj hne => hD.wi hi hj hne) h12 (by omega) ⟨by omega, by omega⟩ (lc0 h51 hz) h3).mo (fun S2 _ q => q.mo (by omega) (by omega))
  obtain ⟨_, k2, _⟩ := hD.2.2.2.2 i hi
  have := k2.2.1
  omega
end PS21
end
-- m2.w.lean.txt
section
theorem jT_i {k : Nat} (h : k ≤ 18) : (Int64.ofNat (10 ^ k)).toInt = (10 : Int) ^ k := by
  have h2 : 10 ^ k ≤ 10 ^ 18 := Nat.pow_le_pow_right (by decide) h
  rw [Int64.toInt_ofNat_of_lt (Nat.lt_of_le_of_lt h2 (by decide))]
  exact Int.natCast_pow 10 k
theorem jT_p {k : Nat} : (1 : Int) ≤ (10 : Int) ^ k := by
  have : 1 ≤ 10 ^ k := Nat.one_le_pow _ _ (by decide)
  have h := Int.ofNat_le.mpr this
  rw [Int.natCast_pow] at h
  exact h
theorem jT_0 {k : Nat} (h : k ≤ 18) : Int64.ofNat (10 ^ k) ≠ 0 := fun e => by
  have a := jT_i h
  rw [e] at a
  have b := jT_p (k := k)
  have : (0 : Int64).toInt = 0 := rfl
  omega
theorem jT_18 {x : Int64} : ¬ x / Int64.ofNat (10 ^ 18) > 9 ∧ ¬ x / Int64.ofNat (10 ^ 18) < -9 := by
  have e := Int64.toInt_div_of_ne_right x (Int64.ofNat (10 ^ 18)) (by decide)
  rw [show (Int64.ofNat (10 ^ 18)).toInt = 1000000000000000000 from rfl] at e
  have h1 := Int64.toInt_lt x
  have h2 := Int64.le_toInt x
  have h9 : (9 : Int64).toInt = 9 := rfl
  have h8 : (-9 : Int64).toInt = -9 := rfl
  constructor
  · intro w
    have w := Int64.lt_iff_toInt_lt.mp w
    rw [e, h9] at w
    by_cases q : 0 ≤ x.toInt
    · rw [Int.tdiv_eq_ediv_of_nonneg q] at w; omega
    · have t1 := Int.neg_tdiv (a := -x.toInt) (b := 1000000000000000000)
      have t2 := Int.tdiv_eq_ediv_of_nonneg (a := -x.toInt) (b := 1000000000000000000) (by omega)
      rw [Int.neg_neg, t2] at t1
      omega
  · intro w
    have w := Int64.lt_iff_toInt_lt.mp w
    rw [e, h8] at w
    by_cases q : 0 ≤ x.toInt
    · rw [Int.tdiv_eq_ediv_of_nonneg q] at w; omega
    · have t1 := Int.neg_tdiv (a := -x.toInt) (b := 1000000000000000000)
      have t2 := Int.tdiv_eq_ediv_of_nonneg (a := -x.toInt) (b := 1000000000000000000) (by omega)
      rw [Int.neg_neg, t2] at t1
      omega
theorem d10 {x : Int64} (h : 0 ≤ x.toInt) : (x / 10).toInt = x.toInt / 10 := by
  rw [Int64.toInt_div_of_ne_right x 10 (by decide), show (10 : Int64).toInt = 10 from rfl, Int.tdiv_eq_ediv_of_nonneg h]
theorem i4000 {a : Nat} (h : a < 8000) : Int32.ofNat a - Int32.ofNat a / 4000 * 4000 = Int32.ofNat (a % 4000) := by
  have e : Int32.ofNat a / 4000 = Int32.ofNat (a / 4000) := by
    refine Int32.toInt_inj.mp ?_
    rw [Int32.toInt_div_of_ne_right _ _ (by decide), show (4000 : Int32).toInt = 4000 from rfl, Int32.toInt_ofNat_of_lt (by omega), Int32.toInt_ofNat_of_lt (by omega), Int.tdiv_eq_ediv_of_nonneg (by omega)]
    omega
  rw [e, show (4000 : Int32) = Int32.ofNat 4000 from rfl, ← Int32.ofNat_mul, Int32.ofNat_sub _ _ (by omega) |>.symm]
  congr 1
  omega
/-- only what is written for the reader changes -/
def WO (S S2 : Sg) : Prop := ZL S2 = ZL S ∧ ZF S2 = ZF S ∧ (Zz S2 = Zz S ∧ Zn S2 = Zn S) ∧ Zq S2 = Zq S ∧ Zf S2 = Zf S ∧ Zl S2 = Zl S ∧ (∀ r : Nat, r ≠ 82 → Zr S2 r = Zr S r) ∧ ∀ j : Nat, j ≠ 84 → Zi S2 j = Zi S j
/-- the queue of what is written is inside -/
def wq (S : Sg) : Prop := ∃ f l : Nat, Zi S 83 = nI f ∧ f < 4000 ∧ Zi S 84 = nI l ∧ l ≤ 4000
section PS22
variable {K : Ky} {S S1 S2 : Sg}
theorem WO.rf : WO S S := ⟨rfl, rfl, ⟨rfl, rfl⟩, rfl, rfl, rfl, fun _ _ => rfl, fun _ _ => rfl⟩
theorem WO.tr (a : WO S S1) (b : WO S1 S2) : WO S S2 := ⟨b.1.trans a.1, b.2.1.trans a.2.1, ⟨b.2.2.1.1.trans a.2.2.1.1, b.2.2.1.2.trans a.2.2.1.2⟩, b.2.2.2.1.trans a.2.2.2.1, b.2.2.2.2.1.trans a.2.2.2.2.1, b.2.2.2.2.2.1.trans a.2.2.2.2.2.1, fun r h => (b.2.2.2.2.2.2.1 r h).trans (a.2.2.2.2.2.2.1 r h), fun r h => (b.2.2.2.2.2.2.2 r h).trans (a.2.2.2.2.2.2.2 r h)⟩
theorem nI_4000 {a : Nat} (h : a < 8000) : nI a - nI a / 4000 * 4000 = nI (a % 4000) := i4000 h
/-- write -/
theorem wrt_ {b : Int32} (h : wq S) : Rt (f_write K S b) (fun S2 _ => WO S S2 ∧ wq S2) := by
  have h0 := h
  obtain ⟨f, l, h1, h2, h3, h4⟩ := h
  unfold f_write
  refine Rt.it (fun w => Rt.rt ⟨WO.rf, h0⟩) (fun w => Rt.bd (show nzI 4000 = some () from rfl) ?_)
  have hl : l < 4000 := by
    rcases Nat.lt_or_ge l 4000 with q | q
    · exact q
    · exact absurd (by rw [h3, show l = 4000 by omega]; rfl) w
  rw [h1, h3, nI_add, nI_4000 (by omega)]
  refine Rt.bd (wRI_n (show (f + l) % 4000 < rlen 82 from by show _ < 4000; omega) (by decide)) ?_
  refine Rt.bd (v := Ui (Ur S 82 (upd (Zr S 82) ((f + l) % 4000) b)) 84 (nI (l + 1))) (by
    show some (Ui _ 84 (Zi S 84 + 1)) = _
    rw [h3, nI_1]) (Rt.rt ⟨⟨rfl, rfl, ⟨rfl, rfl⟩, rfl, rfl, rfl, fun r hr => va_up_ne _ _ hr, fun j hj => Zi_n hj⟩, f, l + 1, ?_, h2, Zi_s, by omega⟩)
  exact (Zi_n (by decide)).trans h1
theorem wn46 : ∀ (d n : Nat) (S1 : Sg) (x y : Int64), n < d → 0 ≤ y.toInt → y.toInt < (10 : Int) ^ n → WO S S1 → wq S1 → Rt (f_writeNumber_46 K d S1 x y) (fun S2 _ => WO S S2 ∧ wq S2)
  | 0, n, S1, x, y, hd, _, _, _, _ => by omega
  | d + 1, n, S1, x, y, hd, h0, h1, e, hq => by
    unfold f_writeNumber_46
    refine Rt.it (fun w => Rt.rt ⟨e, hq⟩) (fun w => ?_)
    have hy : y ≠ 0 := fun e9 => w (by rw [e9]; decide)
    have hy2 : 1 ≤ y.toInt := by
      rcases Int.lt_or_eq_of_le h0 with q | q
      · exact q
      · exact absurd (Int64.toInt_inj.mp (show y.toInt = (0 : Int64).toInt from q.symm)) hy
    cases n with
    | zero => rw [Int.pow_zero] at h1; omega
    | succ n =>
      rw [Int.pow_succ] at h1
      have go : ∀ a b : Int64, Rt (f_writeNumber_82 K (f_writeNumber_46 K d) S1 x y a b) (fun S2 _ => WO S S2 ∧ wq S2) := fun a b => by
        unfold f_writeNumber_82
        refine Rt.bn (wrt_ hq) (fun S2 _ t2 => Rt.bd (show nzL 10 = some () from rfl) ?_)
        have e10 := d10 h0
        exact wn46 d n S2 x (y / 10) (by omega) (by omega) (by omega) (e.tr t2.1) t2.2
      exact Rt.bd (show nzL y = some () from if_neg hy) (Rt.bd (show nzL 10 = some () from rfl) (Rt.it (fun _ => go _ _) (fun _ => go _ _)))
theorem wn14 : ∀ (d k : Nat) (x : Int64), 19 ≤ k + d → k ≤ 18 → 1 ≤ d → wq S → Rt (f_writeNumber_14 K d S x (Int64.ofNat (10 ^ k))) (fun S2 _ => WO S S2 ∧ wq S2)
  | 0, k, x, hd, hk, h1, hq => by omega
  | d + 1, k, x, hd, hk, h1, hq => by
    have nz : nzL (Int64.ofNat (10 ^ k)) = some () := if_neg (jT_0 hk)
    have go : k < 18 → Rt (f_writeNumber_34 K (f_writeNumber_14 K d) S x (Int64.ofNat (10 ^ k))) (fun S2 _ => WO S S2 ∧ wq S2) := fun h => by
      unfold f_writeNumber_34
      rw [show Int64.ofNat (10 ^ k) * 10 = Int64.ofNat (10 ^ (k + 1)) by rw [Nat.pow_succ, Int64.ofNat_mul]; rfl]
      exact wn14 d (k + 1) x (by omega) (by omega) (by omega) hq
    unfold f_writeNumber_14
    refine Rt.bd nz (Rt.it (fun w => go ?_) (fun w => Rt.bd nz (Rt.it (fun w2 => ?_) (fun w2 => go ?_))))
    · rcases Nat.lt_or_ge k 18 with q | q
      · exact q
      · obtain rfl : k = 18 := by omega
        refine absurd ?_ (jT_18 (x := x)).1
        unfold lg_cmp at w
        by_cases q1 : x / Int64.ofNat (10 ^ 18) > 9
        · exact q1
        · rw [if_neg q1] at w
          by_cases q2 : x / Int64.ofNat (10 ^ 18) = 9
          · rw [if_pos q2] at w; exact absurd w (by decide)
          · rw [if_neg q2] at w; exact absurd w (by decide)
    · refine wn46 bigN (k + 1) S x _ (by unfold bigN; omega) (by rw [jT_i hk]; have := jT_p (k := k); omega) (by rw [jT_i hk, Int.pow_succ]; have := jT_p (k := k); omega) WO.rf hq
    · rcases Nat.lt_or_ge k 18 with q | q
      · exact q
      · obtain rfl : k = 18 := by omega
        refine absurd ?_ (jT_18 (x := x)).2
        unfold lg_cmp at w2
        by_cases q1 : x / Int64.ofNat (10 ^ 18) > -9
        · rw [if_pos q1] at w2; exact absurd (by decide) w2
        · rw [if_neg q1] at w2
          by_cases q2 : x / Int64.ofNat (10 ^ 18) = -9
          · rw [if_pos q2] at w2; exact absurd (by decide) w2
          · exact Int64.lt_of_le_of_ne (Int64.not_lt.mp q1) q2
/-- writeNumber -/
theorem wnm_ {x : Int64} (h : wq S) : Rt (f_writeNumber K S x) (fun S2 _ => WO S S2 ∧ wq S2) := by
  unfold f_writeNumber f_writeNumber_12
  refine Rt.it (fun _ => ?_) (fun _ => ?_)
  · exact wn14 (S := S) bigN 0 x (by unfold bigN; omega) (by omega) (by unfold bigN; omega) h
  · refine Rt.bn (wrt_ h) (fun S2 _ t2 => ?_)
    exact (wn14 (S := S2) bigN 0 x (by unfold bigN; omega) (by omega) (by unfold bigN; omega) t2.2).mo (fun S3 _ q => ⟨t2.1.tr q.1, q.2⟩)
end PS22
end
-- m2.x.lean.txt
section
/-- of the nodes only those of A are written -/
def NO (A : Nat → Prop) (S S2 : Sg) : Prop := ZL S2 = ZL S ∧ ZF S2 = ZF S ∧ (Zz S2 = Zz S ∧ Zn S2 = Zn S) ∧ Zq S2 = Zq S ∧ Zf S2 = Zf S ∧ (∀ r : Nat, r ≠ 61 → Zl S2 r = Zl S r) ∧ (∀ r : Nat, r ≠ 62 → r ≠ 63 → Zr S2 r = Zr S r) ∧ (∀ j : Nat, j ≠ 64 → j ≠ 65 → Zi S2 j = Zi S j) ∧ ∀ n : Nat, ¬ A n → Zl S2 61 n = Zl S 61 n ∧ Zr S2 62 n = Zr S 62 n ∧ Zr S2 63 n = Zr S 63 n
/-- a chain of nodes that ends -/
def chF9 (f : Nat → Int32) : List Nat → Nat → Prop
  | [], x => x = 0
  | n :: l, x => x = n ∧ 1 ≤ n ∧ ∃ y : Nat, f n = nI y ∧ chF9 f l y
/-- the free nodes; t: how many there are -/
def FLs (S : Sg) (l : List Nat) (t : Nat) : Prop := Zi S 64 = nI t ∧ t < 430000 ∧ (∃ x : Nat, Zi S 65 = nI x ∧ chF9 (Zr S 63) l x) ∧ l.Nodup ∧ ∀ n ∈ l, n ≤ t
section PS23
variable {K : Ky} {S S1 S2 : Sg} {A B : Nat → Prop} {l : List Nat} {t n : Nat}
theorem NO.rf : NO A S S := ⟨rfl, rfl, ⟨rfl, rfl⟩, rfl, rfl, fun _ _ => rfl, fun _ _ _ => rfl, fun _ _ _ => rfl, fun _ _ => ⟨rfl, rfl, rfl⟩⟩
theorem NO.tr (a : NO A S S1) (b : NO A S1 S2) : NO A S S2 := ⟨b.1.trans a.1, b.2.1.trans a.2.1, ⟨b.2.2.1.1.trans a.2.2.1.1, b.2.2.1.2.trans a.2.2.1.2⟩, b.2.2.2.1.trans a.2.2.2.1, b.2.2.2.2.1.trans a.2.2.2.2.1, fun r h => (b.2.2.2.2.2.1 r h).trans (a.2.2.2.2.2.1 r h), fun r h h2 => (b.2.2.2.2.2.2.1 r h h2).trans (a.2.2.2.2.2.2.1 r h h2), fun r h h2 => (b.2.2.2.2.2.2.2.1 r h h2).trans (a.2.2.2.2.2.2.2.1 r h h2), fun n h => ⟨(b.2.2.2.2.2.2.2.2 n h).1.trans (a.2.2.2.2.2.2.2.2 n h).1, (b.2.2.2.2.2.2.2.2 n h).2.1.trans (a.2.2.2.2.2.2.2.2 n h).2.1, (b.2.2.2.2.2.2.2.2 n h).2.2.trans (a.2.2.2.2.2.2.2.2 n h).2.2⟩⟩
theorem NO.mo (a : NO A S S2) (h : ∀ n : Nat, A n → B n) : NO B S S2 := ⟨a.1, a.2.1, a.2.2.1, a.2.2.2.1, a.2.2.2.2.1, a.2.2.2.2.2.1, a.2.2.2.2.2.2.1, a.2.2.2.2.2.2.2.1, fun n q => a.2.2.2.2.2.2.2.2 n (fun w => q (h n w))⟩
theorem Zr_u9 {r r2 : Nat} {f : Nat → Int32} (h : r2 ≠ r) : Zr (Ur S r f) r2 = Zr S r2 := va_up_ne _ _ h
theorem NO.w1 {v : Int64} (h : A n) : NO A S (Ul S 61 (vp_updL (Zl S 61) n v)) := ⟨rfl, rfl, ⟨rfl, rfl⟩, rfl, rfl, fun r hr => Zl_un hr, fun _ _ _ => rfl, fun _ _ _ => rfl, fun m hm => ⟨by rw [Zl_us]; exact upL_n (fun e : m = n => hm (by rw [e]; exact h)), rfl, rfl⟩⟩
theorem NO.w2 {v : Int32} (h : A n) : NO A S (Ur S 62 (upd (Zr S 62) n v)) := ⟨rfl, rfl, ⟨rfl, rfl⟩, rfl, rfl, fun _ _ => rfl, fun r hr _ => va_up_ne _ _ hr, fun _ _ _ => rfl, fun m hm => ⟨rfl, by rw [Zr_us]; exact upd_n (fun e : m = n => hm (by rw [e]; exact h)), congrFun (Zr_u9 (S := S) (r := 62) (r2 := 63) (by decide)) m⟩⟩
theorem NO.w3 {v : Int32} (h : A n) : NO A S (Ur S 63 (upd (Zr S 63) n v)) := ⟨rfl, rfl, ⟨rfl, rfl⟩, rfl, rfl, fun _ _ => rfl, fun r _ hr => va_up_ne _ _ hr, fun _ _ _ => rfl, fun m hm => ⟨rfl, congrFun (Zr_u9 (S := S) (r := 63) (r2 := 62) (by decide)) m, by rw [Zr_us]; exact upd_n (fun e : m = n => hm (by rw [e]; exact h))⟩⟩
theorem NO.ui {j : Nat} {v : Int32} (h : j = 64 ∨ j = 65) : NO A S (Ui S j v) := ⟨rfl, rfl, ⟨rfl, rfl⟩, rfl, rfl, fun _ _ => rfl, fun _ _ _ => rfl, fun i a b => Zi_n (by omega), fun _ _ => ⟨rfl, rfl, rfl⟩⟩
theorem chF9.cg {f g : Nat → Int32} : ∀ {l : List Nat} {x : Nat}, (∀ n ∈ l, g n = f n) → chF9 f l x → chF9 g l x
  | [], _, _, h => h
  | n :: l, x, hg, ⟨h1, h2, y, h3, h4⟩ => ⟨h1, h2, y, (hg n (List.mem_cons_self ..)).trans h3, chF9.cg (fun m hm => hg m (List.mem_cons_of_mem n hm)) h4⟩
/-- the free nodes stay, if none of them is written -/
theorem FLs.no (h : FLs S l t) (e : NO A S S2) (hl : ∀ n ∈ l, ¬ A n) (h4 : Zi S2 64 = Zi S 64) (h5 : Zi S2 65 = Zi S 65) : FLs S2 l t := by
  obtain ⟨h1, h2, ⟨x, h3, h3b⟩, h6⟩ := h
  exact ⟨h4.trans h1, h2, ⟨x, h5.trans h3, h3b.cg (fun n hn => (e.2.2.2.2.2.2.2.2 n (hl n hn)).2.2)⟩, h6⟩
/-- node -/
theorem nod_ (h : FLs S l t) (hr : l = [] → t + 1 < 430000) : Rt (f_node K S) (fun S2 r => ∃ (n : Nat) (l2 : List Nat) (t2 : Nat), r = nI n ∧ 1 ≤ n ∧ n ≤ t2 ∧ n ∉ l2 ∧ FLs S2 l2 t2 ∧ NO (fun m => m = n) S S2 ∧ Zl S2 61 n = 0 ∧ Zr S2 62 n = 0 ∧ Zr S2 63 n = 0 ∧ ((l = n :: l2 ∧ t2 = t) ∨ (l = [] ∧ l2 = [] ∧ n = t + 1 ∧ t2 = t + 1))) := by
  obtain ⟨h1, h2, ⟨x, h3, h4⟩, h5, h6⟩ := h
  -- the last three writes
  have h37 : ∀ (Sx : Sg) (n : Nat), n < 430000 → NO (fun m => m = n) S Sx → Rt (f_node_37 K Sx (nI n)) (fun S2 r => r = nI n ∧ NO (fun m => m = n) S S2 ∧ NO (fun m => m = n) Sx S2 ∧ Zi S2 = Zi Sx ∧ Zl S2 61 n = 0 ∧ Zr S2 62 n = 0 ∧ Zr S2 63 n = 0) := fun Sx n hn e => by
    unfold f_node_37
    refine Rt.bd (wJ_n (show n < rlen 61 from hn) (by decide)) ?_
    have e1 : NO (fun m => m = n) Sx (Ul Sx 61 (vp_updL (Zl Sx 61) n 0)) := NO.w1 rfl
    have v1 : Zl (Ul Sx 61 (vp_updL (Zl Sx 61) n 0)) 61 n = 0 := by rw [Zl_us, upL_s]
    have i1 : Zi (Ul Sx 61 (vp_updL (Zl Sx 61) n 0)) = Zi Sx := rfl
    generalize Ul Sx 61 (vp_updL (Zl Sx 61) n 0) = Sa at e1 v1 i1
    refine Rt.bd (wZ_n (show n < rlen 62 from hn) (by decide) (Or.inl rfl)) ?_
    have e2 : NO (fun m => m = n) Sa (Ur Sa 62 (upd (Zr Sa 62) n 0)) := NO.w2 rfl
    have v2 : Zr (Ur Sa 62 (upd (Zr Sa 62) n 0)) 62 n = 0 := by rw [Zr_us, upd_s]
    have w2 : Zl (Ur Sa 62 (upd (Zr Sa 62) n 0)) 61 n = 0 := v1
    have i2 : Zi (Ur Sa 62 (upd (Zr Sa 62) n 0)) = Zi Sa := rfl
    generalize Ur Sa 62 (upd (Zr Sa 62) n 0) = Sb at e2 v2 w2 i2
    refine Rt.bd (wRI_n (show n < rlen 63 from hn) (by decide)) ?_
    have e3 : NO (fun m => m = n) Sb (Ur Sb 63 (upd (Zr Sb 63) n 0)) := NO.w3 rfl
    have e123 := (e1.tr e2).tr e3
    refine Rt.rt ⟨rfl, e.tr e123, e123, i2.trans i1, w2, ?_, by rw [Zr_us, upd_s]⟩
    rw [Zr_u9 (by decide)]; exact v2
  cases l with
  | nil =>
    have hx : x = 0 := h4
    subst hx
    have ht := hr rfl
    unfold f_node
    refine Rt.ip (by rw [h3]; rfl) (Rt.bd (v := Ui S 64 (nI (t + 1))) (by show some (Ui S 64 (Zi S 64 + 1)) = _; rw [h1, nI_1]) ?_)
    rw [show Zi (Ui S 64 (nI (t + 1))) 64 = nI (t + 1) from Zi_s]
    refine (h37 (Ui S 64 (nI (t + 1))) (t + 1) ht (NO.ui (Or.inl rfl))).mo (fun S2 r ⟨q1, q2, q3, q4, q5, q6, q7⟩ => ⟨t + 1, [], t + 1, q1, by omega, Nat.le_refl _, by simp, ⟨by rw [q4]; exact Zi_s, ht, ⟨0, by rw [q4]; exact (Zi_n (by decide)).trans h3, rfl⟩, List.nodup_nil, fun n hn => by cases hn⟩, q2, q5, q6, q7, Or.inr ⟨rfl, rfl, rfl, rfl⟩⟩)
  | cons n l2 =>
    obtain ⟨x1, x2, y, x3, x4⟩ := h4
    subst x1
    have hn := h6 x (List.mem_cons_self ..)
    obtain ⟨d1, d2⟩ := List.nodup_cons.mp h5
    unfold f_node
    rw [h3]
    refine Rt.iq (fun w => ?_) (Rt.bd (rI_n (show x < rlen 63 from by show x < 430000; omega) (by decide)) (Rt.bd (v := Ui S 65 (Zr S 63 x)) rfl ?_))
    · have := nI_e (a := x) (b := 0) (by omega) (by decide) w; omega
    · refine (h37 (Ui S 65 (Zr S 63 x)) x (by omega) (NO.ui (Or.inr rfl))).mo (fun S2 r ⟨q1, q2, q3, q4, q5, q6, q7⟩ => ⟨x, l2, t, q1, x2, hn, d1, ⟨by rw [q4]; exact (Zi_n (by decide)).trans h1, h2, ⟨y, by rw [q4, ← x3]; exact Zi_s, ?_⟩, d2, fun m hm => h6 m (List.mem_cons_of_mem x hm)⟩, q2, q5, q6, q7, Or.inl ⟨rfl, rfl⟩⟩)
      exact x4.cg (fun m hm => (q2.2.2.2.2.2.2.2.2 m (fun e : m = x => d1 (by rw [← e]; exact hm))).2.2)
/-- freeNode -/
theorem frn_ (h : FLs S l t) (h1 : 1 ≤ n) (hn : n ≤ t) (hl : n ∉ l) : Rt (f_freeNode K S (nI n)) (fun S2 _ => FLs S2 (n :: l) t ∧ NO (fun m => m = n) S S2 ∧ Zl S2 = Zl S ∧ Zr S2 62 = Zr S 62) := by
  obtain ⟨g1, g2, ⟨x, g3, g4⟩, g5, g6⟩ := h
  unfold f_freeNode
  refine Rt.bd (wRI_n (show n < rlen 63 from by show n < 430000; omega) (by decide)) ?_
  have e1 : NO (fun m => m = n) S (Ur S 63 (upd (Zr S 63) n (Zi S 65))) := NO.w3 rfl
  have r1 : Zr (Ur S 63 (upd (Zr S 63) n (Zi S 65))) 63 = upd (Zr S 63) n (Zi S 65) := Zr_us
  have r2 : Zr (Ur S 63 (upd (Zr S 63) n (Zi S 65))) 62 = Zr S 62 := Zr_u9 (by decide)
  have r3 : Zl (Ur S 63 (upd (Zr S 63) n (Zi S 65))) = Zl S := rfl
  have r4 : Zi (Ur S 63 (upd (Zr S 63) n (Zi S 65))) = Zi S := rfl
  generalize Ur S 63 (upd (Zr S 63) n (Zi S 65)) = Sa at e1 r1 r2 r3 r4
  refine Rt.bd (v := Ui Sa 65 (nI n)) rfl (Rt.rt ⟨⟨(Zi_n (by decide)).trans (by rw [r4]; exact g1), g2, ⟨n, Zi_s, rfl, h1, x, ?_, ?_⟩, List.nodup_cons.mpr ⟨hl, g5⟩, fun m hm => ?_⟩, e1.tr (NO.ui (Or.inr rfl)), r3, r2⟩)
  · show Zr Sa 63 n = nI x
    rw [r1, upd_s, g3]
  · refine g4.cg (fun m hm => ?_)
    show Zr Sa 63 m = Zr S 63 m
    rw [r1]; exact upd_n (fun e : m = n => hl (by rw [← e]; exact hm))
  · rcases List.mem_cons.mp hm with e | e
    · omega
    · exact g6 m e
end PS23
end
-- m2.y.lean.txt
section
/-- nodes that are linked one to the next -/
def lkN (f : Nat → Int32) (L : List Nat) : Prop := (∀ a ∈ L, 1 ≤ a ∧ a < 430000) ∧ ∀ i a b : Nat, L[i]? = some a → L[i + 1]? = some b → f a = nI b
section PS24
variable {K : Ky} {S S1 S2 : Sg} {l L : List Nat} {t n : Nat}
theorem lkN.tl {f : Nat → Int32} {a : Nat} (h : lkN f (a :: L)) : lkN f L := ⟨fun b hb => h.1 b (List.mem_cons_of_mem a hb), fun i x y h1 h2 => h.2 (i + 1) x y (by rw [List.getElem?_cons_succ]; exact h1) (by rw [List.getElem?_cons_succ]; exact h2)⟩
theorem lkN.cg {f g : Nat → Int32} (h : lkN f L) (e : ∀ a ∈ L, g a = f a) : lkN g L := ⟨h.1, fun i a b h1 h2 => (e a (List.mem_of_getElem? h1)).trans (h.2 i a b h1 h2)⟩
theorem nI_m1 (n : Nat) : nI (n + 1) + (-1) = nI n := by rw [← Int32.sub_eq_add_neg]; exact nI_pred n
theorem al5 (h : lkN (Zr S 63) L) {i m a b : Nat} (hm : m < 100) (hb : L[i + m]? = some b) : ∀ (d j c : Nat), m < j + d → j ≤ m → L[i + j]? = some c → f_along_5 K d S (nI m) (nI c) (nI j) = some (S, nI b)
  | 0, j, c, hd, hj, _ => by omega
  | d + 1, j, c, hd, hj, hc => by
    unfold f_along_5
    by_cases e : j = m
    · subst e
      rw [if_pos (nI_le (Nat.le_refl _) (by omega))]
      rw [hb] at hc; cases hc; rfl
    · have hlt : i + j + 1 < L.length := by
        have := (List.getElem?_eq_some_iff.mp hb).1
        omega
      have hg := List.getElem?_eq_getElem hlt
      have hc2 := h.1 c (List.mem_of_getElem? hc)
      rw [if_neg (Int32.not_le.mpr (nI_lt (by omega) (by omega))), rI_n (show c < rlen 63 from hc2.2) (by decide), h.2 (i + j) c _ hc hg, nI_1]
      exact al5 (a := a) h hm hb d (j + 1) _ (by omega) (by omega) hg
/-- along -/
theorem alg_ (h : lkN (Zr S 63) L) {i m a b : Nat} (hm : m < 100) (ha : L[i]? = some a) (hb : L[i + m]? = some b) : f_along K S (nI a) (nI m) = some (S, nI b) := by
  unfold f_along
  exact al5 (a := a) h hm hb bigN 0 a (by unfold bigN; omega) (Nat.zero_le _) ha
/-- the nodes of a place are given back -/
theorem fp9 : ∀ (L : List Nat) (d : Nat) (S : Sg) (l : List Nat) (x : Int32), L.length < d → L.length < 100 → FLs S l t → lkN (Zr S 63) L → L.Nodup → (∀ a ∈ L, a ≤ t ∧ a ∉ l) → (∀ a : Nat, L[0]? = some a → x = nI a) → Rt (f_freePlace_9 K d S x (nI L.length)) (fun S2 _ => FLs S2 (L.reverse ++ l) t ∧ NO (fun m => m ∈ L) S S2 ∧ Zl S2 = Zl S ∧ Zr S2 62 = Zr S 62)
  | _, 0, S, l, x, hd, _, _, _, _, _, _ => by omega
  | [], d + 1, S, l, x, hd, h1, hf, hk, hn, ha, hx => by
    unfold f_freePlace_9
    exact Rt.ip (by decide) (Rt.rt ⟨hf, NO.rf, rfl, rfl⟩)
  | a :: L, d + 1, S, l, x, hd, h1, hf, hk, hn, ha, hx => by
    have h1 : L.length + 1 < 100 := h1
    have hd : L.length + 1 < d + 1 := hd
    obtain ⟨n1, n2⟩ := List.nodup_cons.mp hn
    obtain ⟨a1, a2⟩ := ha a (List.mem_cons_self ..)
    obtain ⟨k1, k2⟩ := hk.1 a (List.mem_cons_self ..)
    have ex := hx a rfl
    subst ex
    unfold f_freePlace_9
    refine Rt.iq (Int32.not_le.mpr (show (0 : Int32) < nI (L.length + 1) from nI_lt (a := 0) (b := L.length + 1) (by omega) (by omega))) (Rt.bd (rI_n (show a < rlen 63 from k2) (by decide)) ?_)
    refine Rt.bn (frn_ hf k1 a1 a2) (fun S4 _ t4 => ?_)
    obtain ⟨f4, e4, z4, y4⟩ := t4
    rw [show nI (a :: L).length + (-1) = nI L.length from nI_m1 L.length]
    have hk4 : lkN (Zr S4 63) L := hk.tl.cg (fun b hb => (e4.2.2.2.2.2.2.2.2 b (fun e => n1 (by rw [← e]; exact hb))).2.2)
    refine (fp9 L d S4 (a :: l) (Zr S 63 a) (by omega) (by omega) f4 hk4 n2 (fun b hb => ⟨(ha b (List.mem_cons_of_mem a hb)).1, fun w => ?_⟩) (fun b hb => hk.2 0 a b rfl (by rw [List.getElem?_cons_succ]; exact hb))).mo (fun S5 _ ⟨q1, q2, q3, q4⟩ => ⟨?_, (e4.mo (fun m e => by rw [e]; exact List.mem_cons_self ..)).tr (q2.mo (fun m e => List.mem_cons_of_mem a e)), q3.trans z4, q4.trans y4⟩)
    · rcases List.mem_cons.mp w with e | e
      · exact n1 (by rw [← e]; exact hb)
      · exact (ha b (List.mem_cons_of_mem a hb)).2 e
    · rw [List.reverse_cons, List.append_assoc]; exact q1
end PS24
end
-- m2.z.lean.txt
section
/-- new nodes L: out of the free ones, or above -/
def Frs (l : List Nat) (t : Nat) (L l2 : List Nat) (t2 : Nat) : Prop := (∀ n ∈ L, n ∉ l2 ∧ n ≤ t2 ∧ (n ∈ l ∨ t < n)) ∧ t ≤ t2 ∧ (∀ m ∈ l2, m ∈ l) ∧ (∀ m : Nat, m ≤ t2 → m ∉ l2 → m ∈ L ∨ (m ≤ t ∧ m ∉ l)) ∧ l2.length + L.length + t = l.length + t2
section PS25
variable {K : Ky} {S S1 S2 : Sg} {l l2 l3 L : List Nat} {t t2 t3 n : Nat}
theorem Frs.nil : Frs l t [] l t := ⟨fun n h => (by cases h), Nat.le_refl _, fun _ h => h, fun m h1 h2 => Or.inr ⟨h1, h2⟩, by simp⟩
theorem Frs.one (hd : l.Nodup) (hl : ∀ m ∈ l, m ≤ t) (h : (l = n :: l2 ∧ t2 = t) ∨ (l = [] ∧ l2 = [] ∧ n = t + 1 ∧ t2 = t + 1)) : Frs l t [n] l2 t2 := by
  rcases h with ⟨e1, e2⟩ | ⟨e1, e2, e3, e4⟩
  · subst e1; subst e2
    obtain ⟨d1, d2⟩ := List.nodup_cons.mp hd
    refine ⟨fun m hm => ?_, Nat.le_refl _, fun m hm => List.mem_cons_of_mem n hm, fun m h1 h2 => ?_, by simp⟩
    · rw [List.mem_singleton] at hm; subst hm
      exact ⟨d1, hl m (List.mem_cons_self ..), Or.inl (List.mem_cons_self ..)⟩
    · by_cases e : m = n
      · exact Or.inl (by rw [e]; exact List.mem_singleton_self n)
      · exact Or.inr ⟨h1, fun w => (List.mem_cons.mp w).elim e h2⟩
  · subst e1; subst e2; subst e3; subst e4
    refine ⟨fun m hm => ?_, by omega, fun m hm => hm, fun m h1 h2 => ?_, by simp; omega⟩
    · rw [List.mem_singleton] at hm
      exact ⟨by simp, by omega, Or.inr (by omega)⟩
    · by_cases e : m = t + 1
      · exact Or.inl (by rw [e]; exact List.mem_singleton_self _)
      · exact Or.inr ⟨by omega, by simp⟩
theorem Frs.cons {L2 : List Nat} (h : Frs l t [n] l2 t2) (g : Frs l2 t2 L2 l3 t3) : Frs l t (n :: L2) l3 t3 := by
  obtain ⟨h1, h2, h3, h4, h5⟩ := h
  obtain ⟨g1, g2, g3, g4, g5⟩ := g
  obtain ⟨a1, a2, a3⟩ := h1 n (List.mem_singleton_self n)
  refine ⟨fun m hm => ?_, by omega, fun m hm => h3 m (g3 m hm), fun m q1 q2 => ?_, ?_⟩
  · rcases List.mem_cons.mp hm with e | e
    · subst e; exact ⟨fun w => a1 (g3 m w), by omega, a3⟩
    · obtain ⟨b1, b2, b3⟩ := g1 m e
      refine ⟨b1, b2, ?_⟩
      rcases b3 with b3 | b3
      · exact Or.inl (h3 m b3)
      · exact Or.inr (by omega)
  · rcases g4 m q1 q2 with w | ⟨w1, w2⟩
    · exact Or.inl (List.mem_cons_of_mem n w)
    · rcases h4 m w1 w2 with w | w
      · exact Or.inl (by rw [List.mem_singleton] at w; rw [w]; exact List.mem_cons_self ..)
      · exact Or.inr w
  · have : (n :: L2).length = L2.length + 1 := rfl
    have : [n].length = 1 := rfl
    omega
/-- the further nodes of a new place -/
theorem np14 {x : Int32} : ∀ (k d : Nat) (S : Sg) (l : List Nat) (t last : Nat), k < d → k < 100 → FLs S l t → 1 ≤ last → last ≤ t → last ∉ l → k + t ≤ l.length + 429999 → Rt (f_newPlace_14 K d S x (nI last) (nI (k + 1))) (fun S2 r => r = x ∧ ∃ (L l2 : List Nat) (t2 : Nat), L.length = k ∧ lkN (Zr S2 63) (last :: L) ∧ (last :: L).Nodup ∧ FLs S2 l2 t2 ∧ NO (fun m => m = last ∨ m ∈ L) S S2 ∧ Frs l t L l2 t2 ∧ Zl S2 61 last = Zl S 61 last ∧ Zr S2 62 last = Zr S 62 last ∧ ∀ n ∈ L, Zr S2 62 n = 0)
  | k, 0, S, l, t, last, hd, _, _, _, _, _, _ => by omega
  | 0, d + 1, S, l, t, last, hd, h1, hf, a1, a2, a3, hr => by
    have := hf.2.1
    unfold f_newPlace_14
    exact Rt.ip (nI_le (a := 1) (b := 1) (Nat.le_refl _) (by decide)) (Rt.rt ⟨rfl, [], l, t, rfl, ⟨fun a ha => by rw [List.mem_singleton] at ha; subst ha; exact ⟨a1, by omega⟩, fun i a b _ e2 => by rw [List.getElem?_cons_succ] at e2; cases e2⟩, by simp, hf, NO.rf, Frs.nil, rfl, rfl, fun n hn => by cases hn⟩)
  | k + 1, d + 1, S, l, t, last, hd, h1, hf, a1, a2, a3, hr => by
    have ht := hf.2.1
    unfold f_newPlace_14
    refine Rt.iq (Int32.not_le.mpr (nI_lt (a := 1) (b := k + 1 + 1) (by omega) (by omega))) ?_
    refine Rt.bn (nod_ hf (fun e => by rw [e] at hr; simp at hr; omega)) (fun S5 r5 t5 => ?_)
    obtain ⟨n, l2, t2, rfl, n1, n2, n3, f5, e5, _, v5, _, dj⟩ := t5
    have fr1 : Frs l t [n] l2 t2 := Frs.one hf.2.2.2.1 hf.2.2.2.2 dj
    obtain ⟨p1, p2, p3, p4, p5⟩ := fr1
    have hne : last ≠ n := fun e => by
      rcases (p1 n (List.mem_singleton_self n)).2.2 with w | w
      · exact a3 (by rw [e]; exact w)
      · omega
    have hl2 : last ∉ l2 := fun w => a3 (p3 last w)
    refine Rt.bd (wRI_n (show last < rlen 63 from by show last < 430000; omega) (by decide)) ?_
    have e7 : NO (fun m => m = last) S5 (Ur S5 63 (upd (Zr S5 63) last (nI n))) := NO.w3 rfl
    have r7 : Zr (Ur S5 63 (upd (Zr S5 63) last (nI n))) 63 = upd (Zr S5 63) last (nI n) := Zr_us
    have r8 : Zr (Ur S5 63 (upd (Zr S5 63) last (nI n))) 62 = Zr S5 62 := Zr_u9 (by decide)
    have r9 : Zl (Ur S5 63 (upd (Zr S5 63) last (nI n))) = Zl S5 := rfl
    have f7 : FLs (Ur S5 63 (upd (Zr S5 63) last (nI n))) l2 t2 := f5.no e7 (fun m hm e => hl2 (by rw [← e]; exact hm)) rfl rfl
    generalize Ur S5 63 (upd (Zr S5 63) last (nI n)) = S7 at e7 r7 r8 r9 f7
    rw [nI_m1 (k + 1)]
    refine (np14 k d S7 l2 t2 n (by omega) (by omega) f7 n1 n2 n3 (by have : [n].length = 1 := rfl; omega)).mo (fun S2 r ⟨q1, L, l3, t3, q2, q3, q4, q5, q6, q7, q8, q9, q10⟩ => ⟨q1, n :: L, l3, t3, by rw [List.length_cons, q2], ?_, ?_, q5, ?_, Frs.cons ⟨p1, p2, p3, p4, p5⟩ q7, ?_, ?_, ?_⟩)
    · have hnl : ¬ (last = n ∨ last ∈ L) := fun w => by
        rcases w with w | w
        · exact hne w
        · rcases (q7.1 last w).2.2 with z | z
          · exact hl2 z
          · omega
      refine ⟨fun b hb => ?_, fun i b c e1 e2 => ?_⟩
      · rcases List.mem_cons.mp hb with e | e
        · subst e; exact ⟨a1, by omega⟩
        · exact q3.1 b e
      · cases i with
        | zero =>
          cases e1
          rw [List.getElem?_cons_succ] at e2
          cases e2
          rw [(q6.2.2.2.2.2.2.2.2 last hnl).2.2, r7, upd_s]
        | succ i =>
          rw [List.getElem?_cons_succ] at e1 e2
          exact q3.2 i b c e1 e2
    · refine List.nodup_cons.mpr ⟨fun w => ?_, q4⟩
      rcases List.mem_cons.mp w with e | e
      · exact hne e
      · rcases (q7.1 last e).2.2 with z | z
        · exact hl2 z
        · omega
    · exact ((e5.mo (fun m e => Or.inr (by rw [e]; exact List.mem_cons_self ..))).tr (e7.mo (fun m e => Or.inl e))).tr (q6.mo (fun m e => Or.inr (List.mem_cons.mpr e)))
    · have hnl : ¬ (last = n ∨ last ∈ L) := fun w => by
        rcases w with w | w
        · exact hne w
        · rcases (q7.1 last w).2.2 with z | z
          · exact hl2 z
          · omega
      rw [(q6.2.2.2.2.2.2.2.2 last hnl).1, r9, (e5.2.2.2.2.2.2.2.2 last hne).1]
    · have hnl : ¬ (last = n ∨ last ∈ L) := fun w => by
        rcases w with w | w
        · exact hne w
        · rcases (q7.1 last w).2.2 with z | z
          · exact hl2 z
          · omega
      rw [(q6.2.2.2.2.2.2.2.2 last hnl).2.1, r8, (e5.2.2.2.2.2.2.2.2 last hne).2.1]
    · intro m hm
      rcases List.mem_cons.mp hm with e | e
      · subst e; rw [q9, r8]; exact v5
      · exact q10 m e
end PS25
end
-- m3.a.lean.txt
section
/-- while it runs: what was laid stays -/
def RNx (Sl S : Sg) : Prop := ZL S = ZL Sl ∧ ZF S = ZF Sl ∧ (Zz S = Zz Sl ∧ Zn S = Zn Sl) ∧ Zq S = Zq Sl ∧ Zf S = Zf Sl ∧ (∀ r : Nat, r < 61 → Zr S r = Zr Sl r) ∧ (∀ r : Nat, r < 61 → Zl S r = Zl Sl r) ∧ ∀ j : Nat, j < 61 → j ≠ 3 → Zi S j = Zi Sl j
section PS26
variable {R : yR} {S0 Sl S S2 : Sg} {g : Nat → Int32} {A : Nat → Prop}
theorem RNx.rf : RNx S S := ⟨rfl, rfl, ⟨rfl, rfl⟩, rfl, rfl, fun _ _ => rfl, fun _ _ => rfl, fun _ _ _ => rfl⟩
theorem RNx.tr {S1 : Sg} (a : RNx S S1) (b : RNx S1 S2) : RNx S S2 := ⟨b.1.trans a.1, b.2.1.trans a.2.1, ⟨b.2.2.1.1.trans a.2.2.1.1, b.2.2.1.2.trans a.2.2.1.2⟩, b.2.2.2.1.trans a.2.2.2.1, b.2.2.2.2.1.trans a.2.2.2.2.1, fun r h => (b.2.2.2.2.2.1 r h).trans (a.2.2.2.2.2.1 r h), fun r h => (b.2.2.2.2.2.2.1 r h).trans (a.2.2.2.2.2.2.1 r h), fun r h h2 => (b.2.2.2.2.2.2.2 r h h2).trans (a.2.2.2.2.2.2.2 r h h2)⟩
theorem NO.rn (e : NO A S S2) : RNx S S2 := ⟨e.1, e.2.1, e.2.2.1, e.2.2.2.1, e.2.2.2.2.1, fun r h => e.2.2.2.2.2.2.1 r (by omega) (by omega), fun r h => e.2.2.2.2.2.1 r (by omega), fun j h _ => e.2.2.2.2.2.2.2.1 j (by omega) (by omega)⟩
theorem WO.rn (e : WO S S2) : RNx S S2 := ⟨e.1, e.2.1, e.2.2.1, e.2.2.2.1, e.2.2.2.2.1, fun r h => e.2.2.2.2.2.2.1 r (by omega), fun r h => by rw [e.2.2.2.2.2.1], fun j h _ => e.2.2.2.2.2.2.2 j (by omega)⟩
/-- a type, while it runs -/
theorem RNx.ty (e : RNx Sl S) {x : Nat} {kd ix : Int32} {o : Option Nat} (q : isTy Sl x kd ix o) : isTy S x kd ix o := by
  obtain ⟨t, h1, h2, h3, h4⟩ := q
  have e19 : Zi S 19 = Zi Sl 19 := e.2.2.2.2.2.2.2 19 (by decide) (by decide)
  exact ⟨t, by unfold tmS at h1 ⊢; rw [e19]; exact h1, by rw [e.2.2.2.1]; exact h2, by rw [e.1]; exact h3, by rw [e.2.1]; exact h4⟩
theorem it11r (hL : LFS R S0 g) (hx : LX S0 Sl) (e : RNx Sl S) {j : Nat} (hj : j < R.im) : rQ S 11 (nI j) = some (some (R.ws j)) := by
  have := it11 hL hx hj
  have h70 : j < 70 := by have := hL.1.2.1; omega
  rw [rQ_n (show j < rlen 11 from h70) (by decide)] at this ⊢
  rw [e.2.2.2.1]; exact this
/-- leavesOf -/
theorem lvo_ (hL : LFS R S0 g) (hx : LX S0 Sl) (e : RNx Sl S) {o : Option Nat} (ho : ∀ x : Nat, o = some x → rTy S0 x) : f_leavesOf R.K S o = some (S, nI (zN R S0 (abU S0 o))) := by
  cases o with
  | none =>
    rw [show abU S0 none = 0 from rfl, zN_0]
    unfold f_leavesOf
    rw [if_pos rfl]; rfl
  | some x =>
    obtain ⟨kd, ix, o, q, _⟩ := (ho x rfl).ty
    have hy := hL.1.2.2 _ _ _ _ q
    obtain ⟨t, _, _, xl, xf⟩ := e.ty (hx.ty q)
    have o0 : oI S 20 (some x) 0 = some kd := oI_mk xl xf rfl
    have o1 : oI S 20 (some x) 1 = some ix := oI_mk xl xf rfl
    have htl := tyLv_of hL q
    obtain ⟨kd2, ix2, o2, q3, q4⟩ := htl
    obtain ⟨e1, e2, e3⟩ := isTy_fn q q3
    subst e1; subst e2; subst e3
    show f_leavesOf R.K S (some x) = some (S, nI (zN R S0 (abT S0 x)))
    unfold f_leavesOf
    rw [if_neg (by simp), o0]
    simp only [Option.bind_some]
    rcases q4 with ⟨k3, j, hj, ej, hk, _, ⟨fs, f1, f2, f3⟩, _⟩ | ⟨k3, e9⟩
    · subst ej
      rw [if_pos k3, o1]
      simp only [Option.bind_some]
      rw [it11r hL hx e hj]
      simp only [Option.bind_some]
      obtain ⟨c1, g2, c2, c3, c4⟩ := hx.it (hL.2.1 _ (hL.2.2.1 j hj).1.1) f1
      rw [oI_mk (v := nI (zN R S0 (abT S0 x))) (by rw [e.1]; exact c1) (by rw [e.2.1]; exact c2) (by rw [c4 20 (by decide) (Or.inl (by decide))]; exact f2)]
      rfl
    · rw [if_neg k3, e9]; rfl
end PS26
end
-- m3.b.lean.txt
section
section PS27
variable {R : yR} {S0 Sl S S2 : Sg} {g : Nat → Int32} {l L : List Nat} {t : Nat} {o : Option Nat}
/-- newPlace -/
theorem npl_ (hL : LFS R S0 g) (hx : LX S0 Sl) (e : RNx Sl S) (ho : ∀ x : Nat, o = some x → rTy S0 x) (h1 : 1 ≤ zN R S0 (abU S0 o)) (h16 : zN R S0 (abU S0 o) ≤ 16) (hf : FLs S l t) (hr : zN R S0 (abU S0 o) + t ≤ l.length + 429999) : Rt (f_newPlace R.K S o) (fun S2 r => ∃ (L l2 : List Nat) (t2 a : Nat), L.length = zN R S0 (abU S0 o) ∧ L[0]? = some a ∧ r = nI a ∧ lkN (Zr S2 63) L ∧ L.Nodup ∧ FLs S2 l2 t2 ∧ NO (fun m => m ∈ L) S S2 ∧ Frs l t L l2 t2 ∧ ∀ n ∈ L, Zr S2 62 n = 0) := by
  unfold f_newPlace
  refine Rt.bn (nod_ hf (fun w => by rw [w] at hr; simp at hr; omega)) (fun S1 r1 t1 => ?_)
  obtain ⟨n, l1, t2, rfl, n1, n2, n3, f5, e5, _, v5, _, dj⟩ := t1
  have fr1 : Frs l t [n] l1 t2 := Frs.one hf.2.2.2.1 hf.2.2.2.2 dj
  refine Rt.be (lvo_ hL hx (e.tr e5.rn) ho) ?_
  have hk : nI (zN R S0 (abU S0 o)) = nI (zN R S0 (abU S0 o) - 1 + 1) := by rw [show zN R S0 (abU S0 o) - 1 + 1 = zN R S0 (abU S0 o) by omega]
  rw [hk]
  have hc := fr1.2.2.2.2
  have : [n].length = 1 := rfl
  refine (np14 (zN R S0 (abU S0 o) - 1) bigN S1 l1 t2 n (by unfold bigN; omega) (by omega) f5 n1 n2 n3 (by omega)).mo (fun S2 r ⟨q1, L, l3, t3, q2, q3, q4, q5, q6, q7, q8, q9, q10⟩ => ⟨n :: L, l3, t3, n, by rw [List.length_cons, q2]; omega, rfl, q1, q3, q4, q5, (e5.mo (fun m w => by rw [w]; exact List.mem_cons_self ..)).tr (q6.mo (fun m w => List.mem_cons.mpr w)), fr1.cons q7, fun m hm => ?_⟩)
  rcases List.mem_cons.mp hm with w | w
  · subst w; rw [q9]; exact v5
  · exact q10 m w
/-- freePlace -/
theorem frp_ {a : Nat} (hL : LFS R S0 g) (hx : LX S0 Sl) (e : RNx Sl S) (ho : ∀ x : Nat, o = some x → rTy S0 x) (h16 : zN R S0 (abU S0 o) ≤ 16) (hf : FLs S l t) (hl : L.length = zN R S0 (abU S0 o)) (hk : lkN (Zr S 63) L) (hd : L.Nodup) (hn : ∀ a ∈ L, a ≤ t ∧ a ∉ l) (ha : L[0]? = some a) : Rt (f_freePlace R.K S o (nI a)) (fun S2 _ => FLs S2 (L.reverse ++ l) t ∧ NO (fun m => m ∈ L) S S2 ∧ Zl S2 = Zl S ∧ Zr S2 62 = Zr S 62) := by
  unfold f_freePlace
  refine Rt.be (lvo_ hL hx e ho) ?_
  rw [← hl]
  exact fp9 L bigN S l (nI a) (by unfold bigN; omega) (by omega) hf hk hd hn (fun b hb => by rw [ha] at hb; cases hb; rfl)
theorem po6 {ta cap i a b : Nat} {G : Nat → Option Nat} (hL : LFS R S0 g) (hx : LX S0 Sl) (e : RNx Sl S) (ht : ta ∈ ZL Sl ∧ ZF Sl ta = .inl (R.K.1 4, cap, .inr (.inr (.inr (.inr G))))) (hc : i ≤ cap ∧ cap < 100) (hG : ∀ j x : Nat, j < i → G j = some x → rTy S0 x) (hk : lkN (Zr S 63) L) (ha : L[0]? = some a) (hb : L[psN (fun j => zN R S0 (abU S0 (G j))) i]? = some b) (h100 : psN (fun j => zN R S0 (abU S0 (G j))) i < 100) : ∀ (d j : Nat), i < j + d → j ≤ i → f_partOf_6 R.K d S (some ta) (nI a) (nI i) (nI (psN (fun j => zN R S0 (abU S0 (G j))) j)) (nI j) = some (S, nI b)
  | 0, j, hd, hj => by omega
  | d + 1, j, hd, hj => by
    unfold f_partOf_6
    by_cases w : j = i
    · subst w
      rw [if_pos (nI_le (Nat.le_refl _) (by omega)), alg_ (i := 0) hk h100 ha (by rw [Nat.zero_add]; exact hb)]
      rfl
    · rw [if_neg (Int32.not_le.mpr (nI_lt (by omega) (by omega))), aQ_n (by rw [e.1]; exact ht.1) (by rw [e.2.1]; exact ht.2) (show j < cap by omega) (by omega)]
      simp only [Option.bind_some]
      rw [lvo_ hL hx e (fun x q => hG j x (by omega) q)]
      show f_partOf_6 R.K d S (some ta) (nI a) (nI i) (nI (psN (fun j => zN R S0 (abU S0 (G j))) j) + nI (zN R S0 (abU S0 (G j)))) (nI j + 1) = _
      rw [nI_add, nI_1]
      exact po6 hL hx e ht hc hG hk ha hb h100 d (j + 1) (by omega) (by omega)
/-- partOf -/
theorem pof_ {ta cap i a b : Nat} {G : Nat → Option Nat} (hL : LFS R S0 g) (hx : LX S0 Sl) (e : RNx Sl S) (ht : ta ∈ ZL Sl ∧ ZF Sl ta = .inl (R.K.1 4, cap, .inr (.inr (.inr (.inr G))))) (hc : i ≤ cap ∧ cap < 100) (hG : ∀ j x : Nat, j < i → G j = some x → rTy S0 x) (hk : lkN (Zr S 63) L) (ha : L[0]? = some a) (hb : L[psN (fun j => zN R S0 (abU S0 (G j))) i]? = some b) (h100 : psN (fun j => zN R S0 (abU S0 (G j))) i < 100) : f_partOf R.K S (some ta) (nI a) (nI i) = some (S, nI b) := by
  unfold f_partOf
  exact po6 hL hx e ht hc hG hk ha hb h100 bigN 0 (by unfold bigN; omega) (Nat.zero_le _)
/-- leaf -/
theorem lea_ {K : Ky} {v : Int64} (hf : FLs S l t) (hr : l = [] → t + 1 < 430000) : Rt (f_leaf K S v) (fun S2 r => ∃ (n : Nat) (l2 : List Nat) (t2 : Nat), r = nI n ∧ 1 ≤ n ∧ n < 430000 ∧ FLs S2 l2 t2 ∧ NO (fun m => m = n) S S2 ∧ Zl S2 61 n = v ∧ Zr S2 62 n = 1 ∧ Frs l t [n] l2 t2) := by
  unfold f_leaf
  refine Rt.bn (nod_ hf hr) (fun S1 r1 t1 => ?_)
  obtain ⟨n, l1, t2, rfl, n1, n2, n3, f5, e5, _, v5, _, dj⟩ := t1
  have fr1 : Frs l t [n] l1 t2 := Frs.one hf.2.2.2.1 hf.2.2.2.2 dj
  have hn : n < 430000 := by have := f5.2.1; omega
  refine Rt.bd (wJ_n (show n < rlen 61 from hn) (by decide)) ?_
  have e1 : NO (fun m => m = n) S1 (Ul S1 61 (vp_updL (Zl S1 61) n v)) := NO.w1 rfl
  have f6 : FLs (Ul S1 61 (vp_updL (Zl S1 61) n v)) l1 t2 := f5.no e1 (fun m hm w => n3 (by rw [← w]; exact hm)) rfl rfl
  have v1 : Zl (Ul S1 61 (vp_updL (Zl S1 61) n v)) 61 n = v := by rw [Zl_us, upL_s]
  generalize Ul S1 61 (vp_updL (Zl S1 61) n v) = Sa at e1 f6 v1
  refine Rt.bd (wZ_n (show n < rlen 62 from hn) (by decide) (Or.inr rfl)) ?_
  have e2 : NO (fun m => m = n) Sa (Ur Sa 62 (upd (Zr Sa 62) n 1)) := NO.w2 rfl
  exact Rt.rt ⟨n, l1, t2, rfl, n1, hn, f6.no e2 (fun m hm w => n3 (by rw [← w]; exact hm)) rfl rfl, (e5.tr e1).tr e2, v1, by rw [Zr_us, upd_s], fr1⟩
end PS27
end
-- m3.c.lean.txt
section
section PS28
variable {K : Ky} {S S2 : Sg} {l : List Nat} {t : Nat}
/-- a struct's leaves are laid into a place; their nodes are given back -/
theorem st37 : ∀ (L M : List Nat) (d : Nat) (S : Sg) (l : List Nat) (x y : Int32), L.length = M.length → L.length < d → L.length < 100 → FLs S l t → lkN (Zr S 63) L → lkN (Zr S 63) M → L.Nodup → M.Nodup → (∀ a ∈ L, a ≤ t ∧ a ∉ l ∧ a ∉ M) → (∀ b ∈ M, b ∉ l) → (∀ a : Nat, L[0]? = some a → x = nI a) → (∀ b : Nat, M[0]? = some b → y = nI b) → Rt (f_setPlace_37 K d S x y (nI L.length)) (fun S2 _ => FLs S2 (L.reverse ++ l) t ∧ NO (fun m => m ∈ L ∨ m ∈ M) S S2 ∧ ∀ i a b : Nat, L[i]? = some a → M[i]? = some b → Zl S2 61 b = Zl S 61 a ∧ Zr S2 62 b = 1 ∧ Zr S2 63 b = Zr S 63 b)
  | _, _, 0, S, l, x, y, _, hd, _, _, _, _, _, _, _, _, _, _ => by omega
  | [], M, d + 1, S, l, x, y, he, hd, h1, hf, hk, hm, hn, hn2, ha, hb, hx, hy => by
    unfold f_setPlace_37
    exact Rt.ip (by decide) (Rt.rt ⟨hf, NO.rf, fun i a b e => by cases e⟩)
  | a :: L, [], d + 1, S, l, x, y, he, hd, h1, hf, hk, hm, hn, hn2, ha, hb, hx, hy => by cases he
  | a :: L, b :: M, d + 1, S, l, x, y, he, hd, h1, hf, hk, hm, hn, hn2, ha, hb, hx, hy => by
    have he : L.length = M.length := Nat.succ.inj he
    have h1 : L.length + 1 < 100 := h1
    have hd : L.length + 1 < d + 1 := hd
    obtain ⟨n1, n2⟩ := List.nodup_cons.mp hn
    obtain ⟨m1, m2⟩ := List.nodup_cons.mp hn2
    obtain ⟨a1, a2, a3⟩ := ha a (List.mem_cons_self ..)
    obtain ⟨k1, k2⟩ := hk.1 a (List.mem_cons_self ..)
    obtain ⟨j1, j2⟩ := hm.1 b (List.mem_cons_self ..)
    have hab : a ≠ b := fun w => a3 (by rw [w]; exact List.mem_cons_self ..)
    have hbl := hb b (List.mem_cons_self ..)
    have ex := hx a rfl
    have ey := hy b rfl
    subst ex; subst ey
    unfold f_setPlace_37
    refine Rt.iq (Int32.not_le.mpr (show (0 : Int32) < nI (L.length + 1) from nI_lt (a := 0) (b := L.length + 1) (by omega) (by omega))) (Rt.bd (rJ_n (show a < rlen 61 from k2) (by decide)) (Rt.bd (wJ_n (show b < rlen 61 from j2) (by decide)) ?_))
    have e1 : NO (fun m => m = b) S (Ul S 61 (vp_updL (Zl S 61) b (Zl S 61 a))) := NO.w1 rfl
    have v1 : Zl (Ul S 61 (vp_updL (Zl S 61) b (Zl S 61 a))) 61 b = Zl S 61 a := by rw [Zl_us, upL_s]
    have w1 : Zr (Ul S 61 (vp_updL (Zl S 61) b (Zl S 61 a))) 63 b = Zr S 63 b := rfl
    have f1 : FLs (Ul S 61 (vp_updL (Zl S 61) b (Zl S 61 a))) l t := hf.no e1 (fun m hm w => hbl (by rw [← w]; exact hm)) rfl rfl
    generalize Ul S 61 (vp_updL (Zl S 61) b (Zl S 61 a)) = Sa at e1 v1 w1 f1
    refine Rt.bd (wZ_n (show b < rlen 62 from j2) (by decide) (Or.inr rfl)) ?_
    have e2 : NO (fun m => m = b) Sa (Ur Sa 62 (upd (Zr Sa 62) b 1)) := NO.w2 rfl
    have v2 : Zl (Ur Sa 62 (upd (Zr Sa 62) b 1)) 61 b = Zl S 61 a := v1
    have u2 : Zr (Ur Sa 62 (upd (Zr Sa 62) b 1)) 62 b = 1 := by rw [Zr_us, upd_s]
    have w2 : Zr (Ur Sa 62 (upd (Zr Sa 62) b 1)) 63 b = Zr S 63 b := by rw [Zr_u9 (by decide)]; exact w1
    have f2 : FLs (Ur Sa 62 (upd (Zr Sa 62) b 1)) l t := f1.no e2 (fun m hm w => hbl (by rw [← w]; exact hm)) rfl rfl
    generalize Ur Sa 62 (upd (Zr Sa 62) b 1) = Sb at e2 v2 u2 w2 f2
    have e12 := e1.tr e2
    refine Rt.bd (rI_n (show a < rlen 63 from k2) (by decide)) ?_
    refine Rt.bn (frn_ f2 k1 a1 a2) (fun S4 _ t4 => ?_)
    obtain ⟨f4, e4, z4, y4⟩ := t4
    refine Rt.bd (rI_n (show b < rlen 63 from j2) (by decide)) ?_
    rw [show nI (a :: L).length + (-1) = nI L.length from nI_m1 L.length]
    have e14 : NO (fun m => m = a ∨ m = b) S S4 := (e12.mo (fun m w => Or.inr w)).tr (e4.mo (fun m w => Or.inl w))
    have hLn : ∀ c ∈ L, ¬ (c = a ∨ c = b) := fun c hc w => by
      rcases w with w | w
      · exact n1 (by rw [← w]; exact hc)
      · exact (ha c (List.mem_cons_of_mem a hc)).2.2 (by rw [w]; exact List.mem_cons_self ..)
    have hMn : ∀ c ∈ M, ¬ (c = a ∨ c = b) := fun c hc w => by
      rcases w with w | w
      · exact a3 (by rw [← w]; exact List.mem_cons_of_mem b hc)
      · exact m1 (by rw [← w]; exact hc)
    have nb : Zr S4 63 b = Zr S 63 b := ((e4.2.2.2.2.2.2.2.2 b (fun w => hab w.symm)).2.2).trans w2
    have na : Zr Sb 63 a = Zr S 63 a := (e12.2.2.2.2.2.2.2.2 a hab).2.2
    refine (st37 L M d S4 (a :: l) (Zr Sb 63 a) (Zr S4 63 b) he (by omega) (by omega) f4 (hk.tl.cg (fun c hc => (e14.2.2.2.2.2.2.2.2 c (hLn c hc)).2.2)) (hm.tl.cg (fun c hc => (e14.2.2.2.2.2.2.2.2 c (hMn c hc)).2.2)) n2 m2 (fun c hc => ⟨(ha c (List.mem_cons_of_mem a hc)).1, fun w => ?_, fun w => (ha c (List.mem_cons_of_mem a hc)).2.2 (List.mem_cons_of_mem b w)⟩) (fun c hc w => ?_) (fun c hc => by rw [na]; exact hk.2 0 a c rfl (by rw [List.getElem?_cons_succ]; exact hc)) (fun c hc => by rw [nb]; exact hm.2 0 b c rfl (by rw [List.getElem?_cons_succ]; exact hc))).mo (fun S5 _ ⟨q1, q2, q3⟩ => ⟨?_, (e14.mo (fun m w => w.imp (fun w => by rw [w]; exact List.mem_cons_self ..) (fun w => by rw [w]; exact List.mem_cons_self ..))).tr (q2.mo (fun m w => w.imp (List.mem_cons_of_mem a) (List.mem_cons_of_mem b))), fun i c c2 g1 g2 => ?_⟩)
    · rcases List.mem_cons.mp w with w | w
      · exact n1 (by rw [← w]; exact hc)
      · exact (ha c (List.mem_cons_of_mem a hc)).2.1 w
    · rcases List.mem_cons.mp w with w | w
      · exact a3 (by rw [← w]; exact List.mem_cons_of_mem b hc)
      · exact hb c (List.mem_cons_of_mem b hc) w
    · rw [List.reverse_cons, List.append_assoc]; exact q1
    · cases i with
      | zero =>
        cases g1; cases g2
        have hbn : ¬ (b ∈ L ∨ b ∈ M) := fun w => by
          rcases w with w | w
          · exact hLn b w (Or.inr rfl)
          · exact m1 w
        obtain ⟨r1, r2, r3⟩ := q2.2.2.2.2.2.2.2.2 b hbn
        exact ⟨r1.trans (by rw [z4]; exact v2), r2.trans (by rw [y4]; exact u2), r3.trans nb⟩
      | succ i =>
        rw [List.getElem?_cons_succ] at g1 g2
        obtain ⟨r1, r2, r3⟩ := q3 i c c2 g1 g2
        have hc := List.mem_of_getElem? g1
        have hc2 := List.mem_of_getElem? g2
        exact ⟨r1.trans (e14.2.2.2.2.2.2.2.2 c (hLn c hc)).1, r2, r3.trans (e14.2.2.2.2.2.2.2.2 c2 (hMn c2 hc2)).2.2⟩
end PS28
end
-- m3.d.lean.txt
section
section PS29
variable {K : Ky} {S S2 : Sg} {l : List Nat} {t : Nat}
/-- a struct's leaves are taken out of a place (M) into new nodes (L) -/
theorem tk41 {z : Int32} : ∀ (L M : List Nat) (d : Nat) (S : Sg) (x y : Int32), L.length = M.length → L.length < d → L.length < 100 → FLs S l t → lkN (Zr S 63) L → lkN (Zr S 63) M → L.Nodup → M.Nodup → (∀ a ∈ L, a ∉ l ∧ a ∉ M) → (∀ b ∈ M, b ∉ l) → (∀ a : Nat, L[0]? = some a → x = nI a) → (∀ b : Nat, M[0]? = some b → y = nI b) → Rt (f_takePlace_41 K d S z x y (nI L.length)) (fun S2 r => r = Int32.toInt64 z ∧ FLs S2 l t ∧ NO (fun m => m ∈ L ∨ m ∈ M) S S2 ∧ Zr S2 63 = Zr S 63 ∧ ∀ i a b : Nat, L[i]? = some a → M[i]? = some b → Zl S2 61 a = Zl S 61 b ∧ Zr S2 62 a = 1 ∧ Zr S2 62 b = 0 ∧ Zl S2 61 b = Zl S 61 b)
  | _, _, 0, S, x, y, _, hd, _, _, _, _, _, _, _, _, _, _ => by omega
  | [], M, d + 1, S, x, y, he, hd, h1, hf, hk, hm, hn, hn2, ha, hb, hx, hy => by
    unfold f_takePlace_41
    exact Rt.ip (by decide) (Rt.rt ⟨rfl, hf, NO.rf, rfl, fun i a b e => by cases e⟩)
  | a :: L, [], d + 1, S, x, y, he, hd, h1, hf, hk, hm, hn, hn2, ha, hb, hx, hy => by cases he
  | a :: L, b :: M, d + 1, S, x, y, he, hd, h1, hf, hk, hm, hn, hn2, ha, hb, hx, hy => by
    have he : L.length = M.length := Nat.succ.inj he
    have h1 : L.length + 1 < 100 := h1
    have hd : L.length + 1 < d + 1 := hd
    obtain ⟨n1, n2⟩ := List.nodup_cons.mp hn
    obtain ⟨m1, m2⟩ := List.nodup_cons.mp hn2
    obtain ⟨a2, a3⟩ := ha a (List.mem_cons_self ..)
    obtain ⟨k1, k2⟩ := hk.1 a (List.mem_cons_self ..)
    obtain ⟨j1, j2⟩ := hm.1 b (List.mem_cons_self ..)
    have hab : a ≠ b := fun w => a3 (by rw [w]; exact List.mem_cons_self ..)
    have hbl := hb b (List.mem_cons_self ..)
    have ex := hx a rfl
    have ey := hy b rfl
    subst ex; subst ey
    unfold f_takePlace_41
    refine Rt.iq (Int32.not_le.mpr (show (0 : Int32) < nI (L.length + 1) from nI_lt (a := 0) (b := L.length + 1) (by omega) (by omega))) (Rt.bd (rJ_n (show b < rlen 61 from j2) (by decide)) (Rt.bd (wJ_n (show a < rlen 61 from k2) (by decide)) ?_))
    have e1 : NO (fun m => m = a) S (Ul S 61 (vp_updL (Zl S 61) a (Zl S 61 b))) := NO.w1 rfl
    have v1 : Zl (Ul S 61 (vp_updL (Zl S 61) a (Zl S 61 b))) 61 a = Zl S 61 b := by rw [Zl_us, upL_s]
    have w1 : Zr (Ul S 61 (vp_updL (Zl S 61) a (Zl S 61 b))) 63 = Zr S 63 := rfl
    have f1 : FLs (Ul S 61 (vp_updL (Zl S 61) a (Zl S 61 b))) l t := hf.no e1 (fun m hm w => a2 (by rw [← w]; exact hm)) rfl rfl
    generalize Ul S 61 (vp_updL (Zl S 61) a (Zl S 61 b)) = Sa at e1 v1 w1 f1
    refine Rt.bd (wZ_n (show a < rlen 62 from k2) (by decide) (Or.inr rfl)) ?_
    have e2 : NO (fun m => m = a) Sa (Ur Sa 62 (upd (Zr Sa 62) a 1)) := NO.w2 rfl
    have v2 : Zl (Ur Sa 62 (upd (Zr Sa 62) a 1)) = Zl Sa := rfl
    have u2 : Zr (Ur Sa 62 (upd (Zr Sa 62) a 1)) 62 a = 1 := by rw [Zr_us, upd_s]
    have w2 : Zr (Ur Sa 62 (upd (Zr Sa 62) a 1)) 63 = Zr S 63 := by rw [Zr_u9 (by decide)]; exact w1
    have f2 : FLs (Ur Sa 62 (upd (Zr Sa 62) a 1)) l t := f1.no e2 (fun m hm w => a2 (by rw [← w]; exact hm)) rfl rfl
    generalize Ur Sa 62 (upd (Zr Sa 62) a 1) = Sb at e2 v2 u2 w2 f2
    refine Rt.bd (wZ_n (show b < rlen 62 from j2) (by decide) (Or.inl rfl)) ?_
    have e3 : NO (fun m => m = b) Sb (Ur Sb 62 (upd (Zr Sb 62) b 0)) := NO.w2 rfl
    have v3 : Zl (Ur Sb 62 (upd (Zr Sb 62) b 0)) = Zl Sb := rfl
    have u3 : Zr (Ur Sb 62 (upd (Zr Sb 62) b 0)) 62 b = 0 := by rw [Zr_us, upd_s]
    have w3 : Zr (Ur Sb 62 (upd (Zr Sb 62) b 0)) 63 = Zr S 63 := by rw [Zr_u9 (by decide)]; exact w2
    have f3 : FLs (Ur Sb 62 (upd (Zr Sb 62) b 0)) l t := f2.no e3 (fun m hm w => hbl (by rw [← w]; exact hm)) rfl rfl
    generalize Ur Sb 62 (upd (Zr Sb 62) b 0) = S4 at e3 v3 u3 w3 f3
    refine Rt.bd (rI_n (show a < rlen 63 from k2) (by decide)) (Rt.bd (rI_n (show b < rlen 63 from j2) (by decide)) ?_)
    rw [show nI (a :: L).length + (-1) = nI L.length from nI_m1 L.length]
    have e12 := e1.tr e2
    have e14 : NO (fun m => m = a ∨ m = b) S S4 := (e12.mo (fun m w => Or.inl w)).tr (e3.mo (fun m w => Or.inr w))
    have hLn : ∀ c ∈ L, ¬ (c = a ∨ c = b) := fun c hc w => by
      rcases w with w | w
      · exact n1 (by rw [← w]; exact hc)
      · exact (ha c (List.mem_cons_of_mem a hc)).2 (by rw [w]; exact List.mem_cons_self ..)
    have hMn : ∀ c ∈ M, ¬ (c = a ∨ c = b) := fun c hc w => by
      rcases w with w | w
      · exact a3 (by rw [← w]; exact List.mem_cons_of_mem b hc)
      · exact m1 (by rw [← w]; exact hc)
    refine (tk41 L M d S4 (Zr S4 63 a) (Zr S4 63 b) he (by omega) (by omega) f3 (by rw [w3]; exact hk.tl) (by rw [w3]; exact hm.tl) n2 m2 (fun c hc => ⟨(ha c (List.mem_cons_of_mem a hc)).1, fun w => (ha c (List.mem_cons_of_mem a hc)).2 (List.mem_cons_of_mem b w)⟩) (fun c hc => hb c (List.mem_cons_of_mem b hc)) (fun c hc => by rw [w3]; exact hk.2 0 a c rfl (by rw [List.getElem?_cons_succ]; exact hc)) (fun c hc => by rw [w3]; exact hm.2 0 b c rfl (by rw [List.getElem?_cons_succ]; exact hc))).mo (fun S5 r ⟨q0, q1, q2, q3, q4⟩ => ⟨q0, q1, (e14.mo (fun m w => w.imp (fun w => by rw [w]; exact List.mem_cons_self ..) (fun w => by rw [w]; exact List.mem_cons_self ..))).tr (q2.mo (fun m w => w.imp (List.mem_cons_of_mem a) (List.mem_cons_of_mem b))), q3.trans w3, fun i c c2 g1 g2 => ?_⟩)
    cases i with
    | zero =>
      cases g1; cases g2
      have han : ¬ (a ∈ L ∨ a ∈ M) := fun w => w.elim n1 (fun w => a3 (List.mem_cons_of_mem b w))
      have hbn : ¬ (b ∈ L ∨ b ∈ M) := fun w => w.elim (fun w => hLn b w (Or.inr rfl)) m1
      obtain ⟨r1, r2, _⟩ := q2.2.2.2.2.2.2.2.2 a han
      obtain ⟨s1, s2, _⟩ := q2.2.2.2.2.2.2.2.2 b hbn
      refine ⟨r1.trans (by rw [v3, v2]; exact v1), r2.trans (((e3.2.2.2.2.2.2.2.2 a hab).2.1).trans u2), s2.trans u3, s1.trans (by rw [v3, v2]; exact (e1.2.2.2.2.2.2.2.2 b (fun w => hab w.symm)).1)⟩
    | succ i =>
      rw [List.getElem?_cons_succ] at g1 g2
      obtain ⟨r1, r2, r3, r4⟩ := q4 i c c2 g1 g2
      have hz := (e14.2.2.2.2.2.2.2.2 c2 (hMn c2 (List.mem_of_getElem? g2))).1
      exact ⟨r1.trans hz, r2, r3, r4.trans hz⟩
end PS29
end
-- m3.e.lean.txt
section
section PS30
variable {K : Ky} {S S1 S2 : Sg}
theorem nI_sm {k m : Nat} (h : m ≤ k + 1) : nI k - nI m + 1 = nI (k + 1 - m) := by
  rw [Int32.sub_eq_add_neg, Int32.add_assoc, Int32.add_comm (-nI m) 1, ← Int32.add_assoc, nI_1, ← Int32.sub_eq_add_neg]
  exact (Int32.ofNat_sub (k + 1) m h).symm
theorem fr4 {H m : Nat} (h66 : Zi S 66 = nI H) (hH : H ≤ 4000) (hm : 1 ≤ m) (hm2 : m < 100000) : ∀ (d k u : Nat), H < k + d → k ≤ H → u ≤ k → u < m → (∀ q : Nat, k ≤ q + u → q < k → Zr S 67 q = 0) → Rt (f_findRoom_4 K d S (nI m) (nI u) (nI k)) (fun S2 r => S2 = S ∧ (r = -1 ∨ ∃ p : Nat, r = nI p ∧ p + m ≤ H ∧ ∀ q : Nat, p ≤ q → q < p + m → Zr S 67 q = 0))
  | 0, k, u, hd, hk, _, _, _ => by omega
  | d + 1, k, u, hd, hk, h1, h2, h3 => by
    unfold f_findRoom_4
    rw [h66]
    refine Rt.it (fun w => Rt.rt ⟨rfl, Or.inl rfl⟩) (fun w => ?_)
    have hlt : k < H := by
      by_cases q : k < H
      · exact q
      · exact absurd (nI_le (a := H) (b := k) (by omega) (by omega)) w
    refine Rt.bd (rI_n (show k < rlen 67 from by show k < 4000; omega) (by decide)) (Rt.it (fun w0 => ?_) (fun w0 => ?_))
    · rw [nI_1]
      unfold f_findRoom_28
      refine Rt.it (fun w1 => ?_) (fun w1 => ?_)
      · have em : u + 1 = m := nI_e (by omega) (by omega) w1
        rw [nI_sm (by omega)]
        refine Rt.rt ⟨rfl, Or.inr ⟨k + 1 - m, rfl, by omega, fun q q1 q2 => ?_⟩⟩
        by_cases e : q = k
        · rw [e]; exact w0
        · exact h3 q (by omega) (by omega)
      · rw [nI_1]
        have : u + 1 ≠ m := fun e => w1 (by rw [e])
        refine fr4 h66 hH hm hm2 d (k + 1) (u + 1) (by omega) (by omega) (by omega) (by omega) (fun q q1 q2 => ?_)
        by_cases e : q = k
        · rw [e]; exact w0
        · exact h3 q (by omega) (by omega)
    · unfold f_findRoom_28
      refine Rt.iq (fun w1 => ?_) ?_
      · have := nI_e (a := 0) (b := m) (by omega) (by omega) w1; omega
      · rw [nI_1]
        exact fr4 h66 hH hm hm2 d (k + 1) 0 (by omega) (by omega) (by omega) (by omega) (fun q q1 q2 => by omega)
/-- findRoom -/
theorem fnr_ {H m : Nat} (h66 : Zi S 66 = nI H) (hH : H ≤ 4000) (hm : 1 ≤ m) (hm2 : m < 100000) : Rt (f_findRoom K S (nI m)) (fun S2 r => S2 = S ∧ (r = -1 ∨ ∃ p : Nat, r = nI p ∧ p + m ≤ H ∧ ∀ q : Nat, p ≤ q → q < p + m → Zr S 67 q = 0)) := by
  unfold f_findRoom
  exact fr4 h66 hH hm hm2 bigN 0 0 (by unfold bigN; omega) (Nat.zero_le _) (Nat.le_refl _) (by omega) (fun q q1 q2 => by omega)
theorem nI_m8 (n : Nat) : nI (n + 8) + (-8) = nI n := by
  rw [← nI_add, Int32.add_assoc, show nI 8 + (-8) = 0 by decide, Int32.add_zero]
theorem ww3 {x : Int64} : ∀ (n d : Nat) (S1 : Sg), n ≤ 7 → n + 1 < d → WO S S1 → wq S1 → Rt (f_writeWord_3 K d S1 x (nI (8 * n))) (fun S2 _ => WO S S2 ∧ wq S2)
  | n, 0, S1, _, hd, _, _ => by omega
  | n, d + 1, S1, hn, hd, e, hq => by
    have go : ∀ S2 : Sg, WO S S2 → wq S2 → Rt (f_writeWord_31 K (f_writeWord_3 K d) S2 x (nI (8 * n))) (fun S2 _ => WO S S2 ∧ wq S2) := fun S2 e2 q2 => by
      unfold f_writeWord_31
      cases n with
      | zero =>
        cases d with
        | zero => omega
        | succ d =>
          unfold f_writeWord_3
          exact Rt.ip (by decide) (Rt.rt ⟨e2, q2⟩)
      | succ n =>
        rw [show 8 * (n + 1) = 8 * n + 8 by omega, nI_m8]
        exact ww3 n d S2 (by omega) (by omega) e2 q2
    unfold f_writeWord_3
    refine Rt.iq (nI_nn (by omega)) (Rt.it (fun _ => go S1 e hq) (fun _ => ?_))
    refine Rt.bn (wrt_ hq) (fun S2 _ t2 => go S2 (e.tr t2.1) t2.2)
/-- writeWord -/
theorem wrw_ {x : Int64} (h : wq S) : Rt (f_writeWord K S x) (fun S2 _ => WO S S2 ∧ wq S2) := by
  unfold f_writeWord
  exact ww3 (S := S) 7 bigN S (by omega) (by unfold bigN; omega) WO.rf h
end PS30
end
-- m3.f.lean.txt
section
/-- of the heap only the cells of A are written -/
def HO (A : Nat → Prop) (S S2 : Sg) : Prop := ZL S2 = ZL S ∧ ZF S2 = ZF S ∧ (Zz S2 = Zz S ∧ Zn S2 = Zn S) ∧ Zq S2 = Zq S ∧ Zf S2 = Zf S ∧ Zl S2 = Zl S ∧ (∀ r : Nat, r ≠ 67 → Zr S2 r = Zr S r) ∧ (∀ j : Nat, j ≠ 68 → j ≠ 69 → Zi S2 j = Zi S j) ∧ ∀ q : Nat, ¬ A q → Zr S2 67 q = Zr S 67 q
/-- the inputs alone change -/
def InO (S S2 : Sg) : Prop := ZL S2 = ZL S ∧ ZF S2 = ZF S ∧ (Zz S2 = Zz S ∧ Zn S2 = Zn S) ∧ Zq S2 = Zq S ∧ Zf S2 = Zf S ∧ (∀ r : Nat, r ≠ 85 → Zl S2 r = Zl S r) ∧ Zr S2 = Zr S ∧ ∀ j : Nat, j ≠ 86 → Zi S2 j = Zi S j
section PS31
variable {K : Ky} {S S1 S2 : Sg} {A : Nat → Prop}
theorem HO.rf : HO A S S := ⟨rfl, rfl, ⟨rfl, rfl⟩, rfl, rfl, rfl, fun _ _ => rfl, fun _ _ _ => rfl, fun _ _ => rfl⟩
theorem HO.tr (a : HO A S S1) (b : HO A S1 S2) : HO A S S2 := ⟨b.1.trans a.1, b.2.1.trans a.2.1, ⟨b.2.2.1.1.trans a.2.2.1.1, b.2.2.1.2.trans a.2.2.1.2⟩, b.2.2.2.1.trans a.2.2.2.1, b.2.2.2.2.1.trans a.2.2.2.2.1, b.2.2.2.2.2.1.trans a.2.2.2.2.2.1, fun r h => (b.2.2.2.2.2.2.1 r h).trans (a.2.2.2.2.2.2.1 r h), fun r h h2 => (b.2.2.2.2.2.2.2.1 r h h2).trans (a.2.2.2.2.2.2.2.1 r h h2), fun q h => (b.2.2.2.2.2.2.2.2 q h).trans (a.2.2.2.2.2.2.2.2 q h)⟩
theorem HO.w {q : Nat} {v : Int32} (h : A q) : HO A S (Ur S 67 (upd (Zr S 67) q v)) := ⟨rfl, rfl, ⟨rfl, rfl⟩, rfl, rfl, rfl, fun r hr => Zr_u9 hr, fun _ _ _ => rfl, fun p hp => by rw [Zr_us]; exact upd_n (fun e : p = q => hp (by rw [e]; exact h))⟩
/-- cells of the heap are given back -/
theorem fb15 {p m : Nat} (hp : p + m ≤ 4000) : ∀ (d k : Nat) (S1 : Sg), m < k + d → k ≤ m → HO (fun q => p ≤ q ∧ q < p + m) S S1 → Zi S1 68 = Zi S 68 → (∀ q : Nat, p ≤ q → q < p + k → Zr S1 67 q = 0) → Rt (f_freeBlock_15 K d S1 (nI m) (nI p) (nI k)) (fun S2 _ => HO (fun q => p ≤ q ∧ q < p + m) S S2 ∧ Zi S2 68 = Zi S 68 - nI m ∧ Zi S2 69 = Zi S1 69 ∧ ∀ q : Nat, p ≤ q → q < p + m → Zr S2 67 q = 0)
  | 0, k, S1, hd, hk, _, _, _ => by omega
  | d + 1, k, S1, hd, hk, e, h68, hz => by
    unfold f_freeBlock_15
    refine Rt.it (fun w => ?_) (fun w => ?_)
    · have : m ≤ k := (nI_leI (by omega) (by omega)).mp w
      obtain rfl : k = m := by omega
      refine Rt.bd (v := Ui S1 68 (Zi S1 68 - nI k)) rfl (Rt.rt ⟨e.tr ⟨rfl, rfl, ⟨rfl, rfl⟩, rfl, rfl, rfl, fun _ _ => rfl, fun j h1 h2 => Zi_n h1, fun _ _ => rfl⟩, ?_, Zi_n (by decide), hz⟩)
      rw [← h68]; exact Zi_s
    · have hlt : k < m := by
        by_cases q : k < m
        · exact q
        · exact absurd (nI_le (a := m) (b := k) (by omega) (by omega)) w
      rw [nI_add]
      refine Rt.bd (wZ_n (show p + k < rlen 67 from by show _ < 4000; omega) (by decide) (Or.inl rfl)) ?_
      rw [nI_1]
      have e2 : HO (fun q => p ≤ q ∧ q < p + m) S1 (Ur S1 67 (upd (Zr S1 67) (p + k) 0)) := HO.w ⟨by omega, by omega⟩
      refine (fb15 hp d (k + 1) _ (by omega) (by omega) (e.tr e2) h68 (fun q q1 q2 => ?_)).mo (fun S2 _ q => q)
      rw [Zr_us]
      by_cases w2 : q = p + k
      · rw [w2, upd_s]
      · rw [upd_n w2]; exact hz q q1 (by omega)
theorem InO.rf : InO S S := ⟨rfl, rfl, ⟨rfl, rfl⟩, rfl, rfl, fun _ _ => rfl, rfl, fun _ _ => rfl⟩
theorem InO.tr (a : InO S S1) (b : InO S1 S2) : InO S S2 := ⟨b.1.trans a.1, b.2.1.trans a.2.1, ⟨b.2.2.1.1.trans a.2.2.1.1, b.2.2.1.2.trans a.2.2.1.2⟩, b.2.2.2.1.trans a.2.2.2.1, b.2.2.2.2.1.trans a.2.2.2.2.1, fun r h => (b.2.2.2.2.2.1 r h).trans (a.2.2.2.2.2.1 r h), b.2.2.2.2.2.2.1.trans a.2.2.2.2.2.2.1, fun r h => (b.2.2.2.2.2.2.2 r h).trans (a.2.2.2.2.2.2.2 r h)⟩
theorem in28 {c : Nat} {x : Int64} (hc : c < 60) : ∀ (d k : Nat) (S1 : Sg), c < k + d → k ≤ c → InO S S1 → Zi S1 86 = nI c → Rt (f_nextInput_28 K d S1 x (nI k)) (fun S2 _ => InO S S2 ∧ Zi S2 86 = nI c)
  | 0, k, S1, hd, hk, _, _ => by omega
  | d + 1, k, S1, hd, hk, e, h86 => by
    unfold f_nextInput_28
    rw [h86]
    refine Rt.it (fun w => Rt.rt ⟨e, h86⟩) (fun w => ?_)
    have hlt : k < c := by
      by_cases q : k < c
      · exact q
      · exact absurd (nI_le (a := c) (b := k) (by omega) (by omega)) w
    rw [nI_1]
    refine Rt.bd (rJ_n (show k + 1 < rlen 85 from by show _ < 60; omega) (by decide)) (Rt.bd (wJ_n (show k < rlen 85 from by show k < 60; omega) (by decide)) ?_)
    exact in28 hc d (k + 1) _ (by omega) (by omega) (e.tr ⟨rfl, rfl, ⟨rfl, rfl⟩, rfl, rfl, fun r hr => Zl_un hr, rfl, fun _ _ => rfl⟩) h86
/-- nextInput -/
theorem nin_ {c : Nat} (h : Zi S 86 = nI c) (hc : c ≤ 60) : Rt (f_nextInput K S) (fun S2 _ => InO S S2 ∧ ∃ c2 : Nat, c2 ≤ c ∧ Zi S2 86 = nI c2) := by
  unfold f_nextInput
  refine Rt.it (fun w => Rt.rt ⟨InO.rf, c, Nat.le_refl _, h⟩) (fun w => ?_)
  cases c with
  | zero => exact absurd h w
  | succ c =>
    refine Rt.bd (rJ_n (j := 0) (show 0 < rlen 85 from by decide) (by decide)) (Rt.bd (v := Ui S 86 (nI c)) (by show some (Ui S 86 (Zi S 86 - 1)) = _; rw [h, nI_pred c]) ?_)
    exact (in28 (S := S) (by omega) bigN 0 (Ui S 86 (nI c)) (by unfold bigN; omega) (Nat.zero_le _) ⟨rfl, rfl, ⟨rfl, rfl⟩, rfl, rfl, fun _ _ => rfl, rfl, fun j hj => Zi_n hj⟩ Zi_s).mo (fun S2 _ ⟨q1, q2⟩ => ⟨q1, c, by omega, q2⟩)
end PS31
end
