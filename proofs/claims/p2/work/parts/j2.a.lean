-- j2.a.lean.txt
section
theorem va_P.nt {D : va_G} {cl : List vw_C} {f T : va_W} {c : Nat × va_E} {H : Heap} (h : va_P D cl ((f ++ T) ++ [c]) H) : va_P D cl ((f ++ [c]) ++ T) H := h.turn (fun q hq => by
  simp only [List.mem_append] at hq ⊢
  rcases hq with (hq | hq) | hq
  · exact Or.inl (Or.inl hq)
  · exact Or.inr hq
  · exact Or.inl (Or.inr hq))
theorem va_D.nt {A : Nat → Prop} {f T : va_W} {c : Nat × va_E} (h : va_D A ((f ++ T) ++ [c])) : va_D A ((f ++ [c]) ++ T) := h.perm (by
  rw [List.append_assoc, List.append_assoc]
  exact List.Perm.append_left f List.perm_append_comm)
/-- cells go into the store -/
theorem st_fileL {D : va_G} {cl : List vw_C} {A : Nat → Prop} {H : Heap} (g : va_W) : ∀ {f : va_W} {L : List Nat} {F : Nat → va_E}, va_P D cl ((f ++ g) ++ sT L F) H → va_D A ((f ++ g) ++ sT L F) → ∃ (L2 : List Nat) (F2 : Nat → va_E), exS L F L2 F2 ∧ (∀ q ∈ g, q.1 ∈ L2 ∧ F2 q.1 = q.2) ∧ va_P D cl (f ++ sT L2 F2) H ∧ va_D A (f ++ sT L2 F2) := by
  induction g with
  | nil =>
    intro f L F hP hD
    rw [List.append_nil] at hP hD
    exact ⟨L, F, exS.rf, fun q h => absurd h List.not_mem_nil, hP, hD⟩
  | cons c g ih =>
    intro f L F hP hD
    have e : f ++ (c :: g) = (f ++ [c]) ++ g := by rw [List.append_assoc]; rfl
    rw [e] at hP hD
    obtain ⟨L1, F1, h1, h2, h3, h4⟩ := ih hP hD
    have hn := va_D.nin (a := c.1) (c := c.2) h4
    refine ⟨c.1 :: L1, updE F1 c.1 c.2, h1.tr (exS.fi hn), ?_, va_P.fi (a := c.1) (c := c.2) h3 h4, va_D.fi (a := c.1) (c := c.2) h4⟩
    intro q hq
    rcases List.mem_cons.mp hq with rfl | hq
    · exact ⟨List.mem_cons_self, updE_s⟩
    · obtain ⟨g1, g2⟩ := h2 q hq
      exact ⟨List.mem_cons_of_mem _ g1, (updE_n (show q.1 ≠ c.1 from fun e => hn (e ▸ g1))).trans g2⟩

/-- the nest of the reference, and its rows of references -/
def nsM (U : State) : Prop := (va_Nw (.methodLinkNest RX23 109 yX22_init "OwnedPlacesModel") U ∧ va_Nw (.methodLinkNest RX23 158 yX17_init "OwnedPlacesModel") U ∧ va_Nw (.methodLinkNest RX23 224 yX16_init "OwnedPlacesModel") U ∧ va_Nw (.methodLinkNest RX23 238 yX14_init "OwnedPlacesModel") U ∧ va_Nw (.methodLinkNest RX23 254 yX19_init "OwnedPlacesModel") U ∧ va_Nw (.methodLinkNest RX23 325 yX13_init "OwnedPlacesModel") U ∧ va_Nw (.methodLinkNest RX23 349 yX15_init "OwnedPlacesModel") U ∧ va_Nw (.methodLinkNest RX23 393 yX20_init "OwnedPlacesModel") U ∧ va_Nw (.methodLinkNest RX23 465 yX21_init "OwnedPlacesModel") U) ∧ (va_AO RX15 U ∧ va_AO RX19 U ∧ va_AO RX14 U ∧ va_AO RX13 U ∧ va_AO RX22 U ∧ va_AO RX20 U ∧ va_AO RX17 U ∧ va_AO RX21 U)
theorem nsM.same {u U : State} (e : u.vm = U.vm) (h : nsM u) : nsM U := ⟨⟨va_Nw.same rfl e h.1.1, va_Nw.same rfl e h.1.2.1, va_Nw.same rfl e h.1.2.2.1, va_Nw.same rfl e h.1.2.2.2.1, va_Nw.same rfl e h.1.2.2.2.2.1, va_Nw.same rfl e h.1.2.2.2.2.2.1, va_Nw.same rfl e h.1.2.2.2.2.2.2.1, va_Nw.same rfl e h.1.2.2.2.2.2.2.2.1, va_Nw.same rfl e h.1.2.2.2.2.2.2.2.2⟩, ⟨va_AO.moved (by rw [e]; exact Vm.Alike.refl _) h.2.1, va_AO.moved (by rw [e]; exact Vm.Alike.refl _) h.2.2.1, va_AO.moved (by rw [e]; exact Vm.Alike.refl _) h.2.2.2.1, va_AO.moved (by rw [e]; exact Vm.Alike.refl _) h.2.2.2.2.1, va_AO.moved (by rw [e]; exact Vm.Alike.refl _) h.2.2.2.2.2.1, va_AO.moved (by rw [e]; exact Vm.Alike.refl _) h.2.2.2.2.2.2.1, va_AO.moved (by rw [e]; exact Vm.Alike.refl _) h.2.2.2.2.2.2.2.1, va_AO.moved (by rw [e]; exact Vm.Alike.refl _) h.2.2.2.2.2.2.2.2⟩⟩
theorem nsM.warm {s U : State} (hW : s.WarmedH U.vm) (h : nsM s) : nsM U := ⟨⟨va_Nw.warmM hW h.1.1, va_Nw.warmM hW h.1.2.1, va_Nw.warmM hW h.1.2.2.1, va_Nw.warmM hW h.1.2.2.2.1, va_Nw.warmM hW h.1.2.2.2.2.1, va_Nw.warmM hW h.1.2.2.2.2.2.1, va_Nw.warmM hW h.1.2.2.2.2.2.2.1, va_Nw.warmM hW h.1.2.2.2.2.2.2.2.1, va_Nw.warmM hW h.1.2.2.2.2.2.2.2.2⟩, ⟨va_AO.moved hW.alike h.2.1, va_AO.moved hW.alike h.2.2.1, va_AO.moved hW.alike h.2.2.2.1, va_AO.moved hW.alike h.2.2.2.2.1, va_AO.moved hW.alike h.2.2.2.2.2.1, va_AO.moved hW.alike h.2.2.2.2.2.2.1, va_AO.moved hW.alike h.2.2.2.2.2.2.2.1, va_AO.moved hW.alike h.2.2.2.2.2.2.2.2⟩⟩
theorem kne3 {fk : Nat → Int32} {T p : Nat} {K : Int32} (h0 : fk (T - 1) = 0) (hp : p < T) (hk : fk p = K) (hK : K ≠ 0) : p + 1 < T := by
  rcases Nat.lt_or_ge (p + 1) T with z | z
  · exact z
  · exact absurd (hk.symm.trans (by rw [show p = T - 1 by omega]; exact h0)) hK
end
-- j2.d.lean.txt
section
/-- a type as it was written: the tokens p to q -/
def isT (L : List Nat) (F : Nat → va_E) (fk : Nat → Int32) : Nat → Nat → Nat → Nat → Prop
  | 0, _, _, _ => False
  | n + 1, a, p, q => a ∈ L ∧ ((F a = .inr (22, [.int (fk p), .int (nI p), .int 0, .int (-1), .null]) ∧ (fk p = 26 ∨ fk p = 27 ∨ fk p = 25 ∨ fk p = 2) ∧ q = p + 1) ∨
      (fk p = 23 ∧ ∃ o : Nat, F a = .inr (22, [.int (fk p), .int (nI p), .int 0, .int (-1), .ref o]) ∧ isT L F fk n o (p + 1) q) ∨
      (fk p = 55 ∧ ∃ (o p' : Nat) (mu lf : Int32), F a = .inr (22, [.int (fk p), .int (nI p), .int mu, .int lf, .ref o]) ∧ p < p' ∧ (mu = 0 ∨ mu = 1) ∧ (lf = -1 ∨ lf = nI (p + 1)) ∧ isT L F fk n o p' q))
theorem isT_lt {L : List Nat} {F : Nat → va_E} {fk : Nat → Int32} : ∀ {n a p q : Nat}, isT L F fk n a p q → p < q
  | 0, _, _, _, h => h.elim
  | n + 1, a, p, q, h => by
    rcases h.2 with ⟨_, _, h⟩ | ⟨_, o, _, h⟩ | ⟨_, o, p', _, _, _, h1, _, _, h⟩
    · omega
    · have := isT_lt h; omega
    · have := isT_lt h; omega
theorem isT_ex {L L2 : List Nat} {F F2 : Nat → va_E} {fk : Nat → Int32} (hx : exS L F L2 F2) : ∀ {n a p q : Nat}, isT L F fk n a p q → isT L2 F2 fk n a p q
  | 0, _, _, _, h => h.elim
  | n + 1, a, p, q, h => by
    obtain ⟨h1, h2⟩ := hx a h.1
    refine ⟨h1, ?_⟩
    rw [h2]
    rcases h.2 with h | ⟨h0, o, h, g⟩ | ⟨h0, o, p', mu, lf, h, g1, g2, g3, g⟩
    · exact Or.inl h
    · exact Or.inr (Or.inl ⟨h0, o, h, isT_ex hx g⟩)
    · exact Or.inr (Or.inr ⟨h0, o, p', mu, lf, h, g1, g2, g3, isT_ex hx g⟩)
theorem isT_up {L : List Nat} {F : Nat → va_E} {fk : Nat → Int32} : ∀ {n a p q : Nat}, isT L F fk n a p q → isT L F fk (n + 1) a p q
  | 0, _, _, _, h => h.elim
  | n + 1, a, p, q, h => by
    refine ⟨h.1, ?_⟩
    rcases h.2 with h | ⟨h0, o, h, g⟩ | ⟨h0, o, p', mu, lf, h, g1, g2, g3, g⟩
    · exact Or.inl h
    · exact Or.inr (Or.inl ⟨h0, o, h, isT_up g⟩)
    · exact Or.inr (Or.inr ⟨h0, o, p', mu, lf, h, g1, g2, g3, isT_up g⟩)
theorem isT_le {L : List Nat} {F : Nat → va_E} {fk : Nat → Int32} {n m a p q : Nat} (h : isT L F fk n a p q) (hm : n ≤ m) : isT L F fk m a p q := by
  obtain ⟨d, rfl⟩ : ∃ d, m = n + d := ⟨m - n, by omega⟩
  clear hm
  induction d with
  | zero => exact h
  | succ d ih => exact isT_up ih
end
-- j3.a.lean.txt
section
/-- an exp as its reader makes it -/
def xpC (kd : Int32) (tk : Nat) (sg nm : Int32) (num : Int64) (mu : Int32) (vo li si : Value) (mn : Nat) : va_E := .inr (15, [.int kd, .int (nI tk), .int sg, .int nm, .int 0, .int 0, .long num, .int mu, vo, li, si, .int (nI mn), .null, .null])
/-- n exps in a row, f their addresses, g their signs: the tokens p to q, the borrows b to c -/
def chP (z : Nat) (P : Nat → Nat → Nat → Nat → Nat → Prop) (f : Nat → Option Nat) (g : Nat → Int32) (n p q b c : Nat) : Prop :=
  ∃ ps bs : Nat → Nat, p ≤ ps 0 ∧ ps n = q ∧ bs 0 = b ∧ bs n = c ∧ ∀ i : Nat, i < n → ∃ x p' s : Nat, f i = some x ∧ ps i < p' ∧ P x p' (ps (i + 1)) (bs i) (bs (i + 1)) ∧ g i = nI s ∧ ((s = 0 ∧ z = 0) ∨ (ps i ≤ s ∧ s < p'))
theorem chP_0 {P : Nat → Nat → Nat → Nat → Nat → Prop} {f : Nat → Option Nat} {g : Nat → Int32} {z p q b : Nat} (h : p ≤ q) : chP z P f g 0 p q b b := ⟨fun _ => q, fun _ => b, h, rfl, rfl, rfl, fun i hi => absurd hi (by omega)⟩
theorem chP_add {P : Nat → Nat → Nat → Nat → Nat → Prop} {f f2 : Nat → Option Nat} {g g2 : Nat → Int32} {z n p q b c x p' s q2 c2 : Nat} (h : chP z P f g n p q b c) (hs : ∀ i : Nat, i < n → f2 i = f i ∧ g2 i = g i) (hf : f2 n = some x) (hg : g2 n = nI s) (hp : q < p') (hP : P x p' q2 c c2) (hsg : (s = 0 ∧ z = 0) ∨ (q ≤ s ∧ s < p')) : chP z P f2 g2 (n + 1) p q2 b c2 := by
  obtain ⟨ps, bs, h1, h2, h3, h4, h5⟩ := h
  refine ⟨fun j => if j = n + 1 then q2 else ps j, fun j => if j = n + 1 then c2 else bs j, ?_, if_pos rfl, ?_, if_pos rfl, fun i hi => ?_⟩
  · show p ≤ if 0 = n + 1 then q2 else ps 0
    rw [if_neg (by omega)]; exact h1
  · show (if 0 = n + 1 then c2 else bs 0) = b
    rw [if_neg (by omega)]; exact h3
  · show ∃ x p' s : Nat, f2 i = some x ∧ (if i = n + 1 then q2 else ps i) < p' ∧ P x p' (if i + 1 = n + 1 then q2 else ps (i + 1)) (if i = n + 1 then c2 else bs i) (if i + 1 = n + 1 then c2 else bs (i + 1)) ∧ g2 i = nI s ∧ ((s = 0 ∧ z = 0) ∨ ((if i = n + 1 then q2 else ps i) ≤ s ∧ s < p'))
    rw [if_neg (show i ≠ n + 1 by omega), if_neg (show i ≠ n + 1 by omega)]
    by_cases e : i = n
    · subst e
      rw [if_pos rfl, if_pos rfl, h2, h4]
      exact ⟨x, p', s, hf, hp, hP, hg, hsg⟩
    · rw [if_neg (by omega), if_neg (by omega), (hs i (by omega)).1, (hs i (by omega)).2]
      exact h5 i (by omega)
theorem chP_im {P P2 : Nat → Nat → Nat → Nat → Nat → Prop} {f : Nat → Option Nat} {g : Nat → Int32} {z n p q b c : Nat} (hP : ∀ x p q b c : Nat, P x p q b c → P2 x p q b c) (h : chP z P f g n p q b c) : chP z P2 f g n p q b c := by
  obtain ⟨ps, bs, h1, h2, h3, h4, h5⟩ := h
  refine ⟨ps, bs, h1, h2, h3, h4, fun i hi => ?_⟩
  obtain ⟨x, p', s, g1, g2, g3, g4⟩ := h5 i hi
  exact ⟨x, p', s, g1, g2, hP _ _ _ _ _ g3, g4⟩
/-- exps that stand in a row of the store: li their addresses, si their signs, mn of them -/
def isQl (z : Nat) (P : Nat → Nat → Nat → Nat → Nat → Prop) (L : List Nat) (F : Nat → va_E) (kE kI : ClassId) (li si : Value) (mn p q b c : Nat) : Prop :=
  (mn = 0 ∧ li = .null ∧ b = c ∧ p ≤ q) ∨ ∃ (la sa cap q0 : Nat) (f : Nat → Option Nat) (g : Nat → Int32), li = .ref la ∧ si = .ref sa ∧ la ∈ L ∧ sa ∈ L ∧
    F la = .inl (kE, cap, .inr (.inr (.inr (.inr f)))) ∧ F sa = .inl (kI, cap, .inl g) ∧ mn ≤ cap ∧ q0 ≤ q ∧ chP z P f g mn p q0 b c
theorem isQl_im {z : Nat} {P P2 : Nat → Nat → Nat → Nat → Nat → Prop} {L L2 : List Nat} {F F2 : Nat → va_E} {kE kI : ClassId} {li si : Value} {mn p q b c : Nat} (hx : exS L F L2 F2) (hP : ∀ x p q b c : Nat, P x p q b c → P2 x p q b c) (h : isQl z P L F kE kI li si mn p q b c) : isQl z P2 L2 F2 kE kI li si mn p q b c := by
  rcases h with h | ⟨la, sa, cap, q0, f, g, h1, h2, h3, h4, h5, h6, h7, h8, h9⟩
  · exact Or.inl h
  · exact Or.inr ⟨la, sa, cap, q0, f, g, h1, h2, (hx la h3).1, (hx sa h4).1, (hx la h3).2.trans h5, (hx sa h4).2.trans h6, h7, h8, chP_im hP h9⟩
/-- .. one level of brackets deeper -/
def isQk (z k : Nat) (P : Nat → Nat → Nat → Nat → Nat → Nat → Prop) (L : List Nat) (F : Nat → va_E) (kE kI : ClassId) (li si : Value) (mn p q b c : Nat) : Prop := ∃ k2 : Nat, (k = k2 + 1 ∨ mn = 0) ∧ isQl z (P k2) L F kE kI li si mn p q b c
theorem isQk_im {z k k2 : Nat} {P P2 : Nat → Nat → Nat → Nat → Nat → Nat → Prop} {L L2 : List Nat} {F F2 : Nat → va_E} {kE kI : ClassId} {li si : Value} {mn p q b c : Nat} (hx : exS L F L2 F2) (hk : k ≤ k2) (hP : ∀ k k2 x p q b c : Nat, k ≤ k2 → P k x p q b c → P2 k2 x p q b c) (h : isQk z k P L F kE kI li si mn p q b c) : isQk z k2 P2 L2 F2 kE kI li si mn p q b c := by
  obtain ⟨kz, e, h⟩ := h
  rcases e with e | e
  · exact ⟨k2 - 1, Or.inl (by omega), isQl_im hx (fun x p q b c => hP kz (k2 - 1) x p q b c (by omega)) h⟩
  · exact ⟨kz, Or.inr e, isQl_im hx (fun x p q b c => hP kz kz x p q b c (Nat.le_refl _)) h⟩
def isE (L : List Nat) (F : Nat → va_E) (kE kI : ClassId) : Nat → Nat → Nat → Nat → Nat → Nat → Nat → Prop
  | 0, _, _, _, _, _, _ => False
  | n + 1, k, e, p, q, b, c => e ∈ L ∧ p < q ∧
    ((∃ (kd : Int32) (num : Int64), (kd = 0 ∨ kd = 1 ∨ kd = 15) ∧ F e = xpC kd p 0 0 num 0 .null .null .null 0 ∧ b = c) ∨
     (F e = xpC 2 p 0 (nI p) 0 0 .null .null .null 0 ∧ b = c) ∨
     (∃ (kd : Int32) (o p' q' : Nat), (kd = 4 ∨ kd = 7 ∨ kd = 9 ∨ kd = 10 ∨ kd = 11 ∨ kd = 13) ∧ F e = xpC kd p 0 0 0 0 (.ref o) .null .null 0 ∧ p < p' ∧ q' ≤ q ∧ isE L F kE kI n k o p' q' b c) ∨
     (∃ (mu : Int32) (o p' : Nat), (mu = 0 ∨ mu = 1) ∧ F e = xpC 12 p 0 0 0 mu (.ref o) .null .null 0 ∧ p < p' ∧ isE L F kE kI n k o p' q (b + 1) c) ∨
     (∃ o nm q' : Nat, F e = xpC 14 p 0 (nI nm) 0 0 (.ref o) .null .null 0 ∧ q' < nm ∧ nm < q ∧ isE L F kE kI n k o p q' b c) ∨
     (∃ (o q1 b1 mn : Nat) (li si : Value), F e = xpC 8 p 0 0 0 0 (.ref o) li si mn ∧ 1 ≤ mn ∧ isE L F kE kI n k o p q1 b b1 ∧ isQk 1 k (isE L F kE kI n) L F kE kI li si mn q1 q b1 c) ∨
     (∃ (kd sg nm : Int32) (mn p' z : Nat) (li si : Value), F e = xpC kd p sg nm 0 0 .null li si mn ∧ ((kd = 3 ∧ nm = nI p ∧ sg = 0) ∨ (kd = 5 ∧ nm = nI (p + 1) ∧ sg = 0 ∧ p + 1 < q ∧ z = 1) ∨ (kd = 6 ∧ nm = nI p ∧ sg = nI (p + 2) ∧ p + 2 < q)) ∧ p < p' ∧ isQk z k (isE L F kE kI n) L F kE kI li si mn p' q b c))
theorem isE_im0 {L L2 : List Nat} {F F2 : Nat → va_E} {kE kI : ClassId} (hx : exS L F L2 F2) : ∀ {n : Nat} (m : Nat), n ≤ m → ∀ {k k2 e p q b c : Nat}, k ≤ k2 → isE L F kE kI n k e p q b c → isE L2 F2 kE kI m k2 e p q b c
  | 0, _, _, _, _, _, _, _, _, _, _, h => h.elim
  | n + 1, 0, hm, _, _, _, _, _, _, _, _, _ => absurd hm (by omega)
  | n + 1, m + 1, hm, k, k2, e, p, q, b, c, hk, h => by
    have hm : n ≤ m := by omega
    obtain ⟨h1, h2⟩ := hx e h.1
    refine ⟨h1, h.2.1, ?_⟩
    rw [h2]
    rcases h.2.2 with h | h | ⟨kd, o, p', q', k1, k2', k3, k4, k5⟩ | ⟨mu, o, p', k1, k2', k3, k5⟩ | ⟨o, nm, q', k1, k2', k3, k5⟩ | ⟨o, q1, b1, mn, li, si, k1, k2', k3, k5⟩ | ⟨kd, sg, nm, mn, p', z, li, si, k1, k2', k3, k5⟩
    · exact Or.inl h
    · exact Or.inr (Or.inl h)
    · exact Or.inr (Or.inr (Or.inl ⟨kd, o, p', q', k1, k2', k3, k4, isE_im0 hx m hm hk k5⟩))
    · exact Or.inr (Or.inr (Or.inr (Or.inl ⟨mu, o, p', k1, k2', k3, isE_im0 hx m hm hk k5⟩)))
    · exact Or.inr (Or.inr (Or.inr (Or.inr (Or.inl ⟨o, nm, q', k1, k2', k3, isE_im0 hx m hm hk k5⟩))))
    · exact Or.inr (Or.inr (Or.inr (Or.inr (Or.inr (Or.inl ⟨o, q1, b1, mn, li, si, k1, k2', isE_im0 hx m hm hk k3, isQk_im hx hk (fun k k2 x p q b c hk z => isE_im0 hx m hm hk z) k5⟩)))))
    · exact Or.inr (Or.inr (Or.inr (Or.inr (Or.inr (Or.inr ⟨kd, sg, nm, mn, p', z, li, si, k1, k2', k3, isQk_im hx hk (fun k k2 x p q b c hk z => isE_im0 hx m hm hk z) k5⟩)))))
theorem isE_im {L L2 : List Nat} {F F2 : Nat → va_E} {kE kI : ClassId} (hx : exS L F L2 F2) {n : Nat} (m : Nat) (hm : n ≤ m) {k k2 e p q b c : Nat} (h : isE L F kE kI n k e p q b c) (hk : k ≤ k2 := by omega) : isE L2 F2 kE kI m k2 e p q b c := isE_im0 hx m hm hk h
/-- an exp's object in the store -/
def xO (L : List Nat) (F : Nat → va_E) (x : Nat) : Prop := x ∈ L ∧ ∃ vs : List Value, F x = .inr (15, vs)
theorem xO_ex {L L2 : List Nat} {F F2 : Nat → va_E} {x : Nat} (hx : exS L F L2 F2) (h : xO L F x) : xO L2 F2 x := ⟨(hx x h.1).1, by rw [(hx x h.1).2]; exact h.2⟩
theorem va_AO.row {D : va_G} {cl : List vw_C} {tys : List (ClassId × FieldType)} {s : State} {C : String} (h : va_AO C s) (hK : va_K D cl tys s) : ∃ cA : ClassId, va_K D cl (tys ++ [(cA, .object C)]) s := by
  obtain ⟨comp, c, k, h1, h2, h3, h4, h5⟩ := Cond.arrayOver_spec h
  refine ⟨c, hK.1, fun i x hx => ?_⟩
  by_cases hl : i < tys.length
  · rw [List.getElem?_append_left hl] at hx
    exact hK.2 i x hx
  · rw [List.getElem?_append_right (by omega)] at hx
    have hz : i - tys.length < 1 := (List.getElem?_eq_some_iff.mp hx).1
    rw [show i - tys.length = 0 by omega] at hx
    cases hx
    exact ⟨fun N z => ⟨(fun k h => by cases h), k, h3, comp, h4⟩, k, comp, h3, h4, h1, h5⟩
section IE
variable {L : List Nat} {F : Nat → va_E} {kE kI : ClassId} {n k e p q b c : Nat}
theorem isE_1 {kd : Int32} {num : Int64} (h1 : e ∈ L) (h2 : p < q) (hk : kd = 0 ∨ kd = 1 ∨ kd = 15) (hF : F e = xpC kd p 0 0 num 0 .null .null .null 0) : isE L F kE kI (n + 1) k e p q b b := ⟨h1, h2, Or.inl ⟨kd, num, hk, hF, rfl⟩⟩
theorem isE_2 (h1 : e ∈ L) (h2 : p < q) (hF : F e = xpC 2 p 0 (nI p) 0 0 .null .null .null 0) : isE L F kE kI (n + 1) k e p q b b := ⟨h1, h2, Or.inr (Or.inl ⟨hF, rfl⟩)⟩
theorem isE_3 {kd : Int32} {o p' q' : Nat} (h1 : e ∈ L) (h2 : p < q) (hk : kd = 4 ∨ kd = 7 ∨ kd = 9 ∨ kd = 10 ∨ kd = 11 ∨ kd = 13) (hF : F e = xpC kd p 0 0 0 0 (.ref o) .null .null 0) (h3 : p < p') (h4 : q' ≤ q) (h : isE L F kE kI n k o p' q' b c) : isE L F kE kI (n + 1) k e p q b c := ⟨h1, h2, Or.inr (Or.inr (Or.inl ⟨kd, o, p', q', hk, hF, h3, h4, h⟩))⟩
theorem isE_4 {mu : Int32} {o p' : Nat} (h1 : e ∈ L) (h2 : p < q) (hk : mu = 0 ∨ mu = 1) (hF : F e = xpC 12 p 0 0 0 mu (.ref o) .null .null 0) (h3 : p < p') (h : isE L F kE kI n k o p' q (b + 1) c) : isE L F kE kI (n + 1) k e p q b c := ⟨h1, h2, Or.inr (Or.inr (Or.inr (Or.inl ⟨mu, o, p', hk, hF, h3, h⟩)))⟩
theorem isE_5 {o nm q' : Nat} (h1 : e ∈ L) (h2 : p < q) (hF : F e = xpC 14 p 0 (nI nm) 0 0 (.ref o) .null .null 0) (h3 : q' < nm) (h4 : nm < q) (h : isE L F kE kI n k o p q' b c) : isE L F kE kI (n + 1) k e p q b c := ⟨h1, h2, Or.inr (Or.inr (Or.inr (Or.inr (Or.inl ⟨o, nm, q', hF, h3, h4, h⟩))))⟩
theorem isE_6 {o q1 b1 mn : Nat} {li si : Value} (h1 : e ∈ L) (h2 : p < q) (hF : F e = xpC 8 p 0 0 0 0 (.ref o) li si mn) (h3 : 1 ≤ mn) (h : isE L F kE kI n k o p q1 b b1) (h4 : isQk 1 k (isE L F kE kI n) L F kE kI li si mn q1 q b1 c) : isE L F kE kI (n + 1) k e p q b c := ⟨h1, h2, Or.inr (Or.inr (Or.inr (Or.inr (Or.inr (Or.inl ⟨o, q1, b1, mn, li, si, hF, h3, h, h4⟩)))))⟩
theorem isE_7 {kd sg nm : Int32} {mn p' z : Nat} {li si : Value} (h1 : e ∈ L) (h2 : p < q) (hF : F e = xpC kd p sg nm 0 0 .null li si mn) (hk : (kd = 3 ∧ nm = nI p ∧ sg = 0) ∨ (kd = 5 ∧ nm = nI (p + 1) ∧ sg = 0 ∧ p + 1 < q ∧ z = 1) ∨ (kd = 6 ∧ nm = nI p ∧ sg = nI (p + 2) ∧ p + 2 < q)) (h3 : p < p') (h4 : isQk z k (isE L F kE kI n) L F kE kI li si mn p' q b c) : isE L F kE kI (n + 1) k e p q b c := ⟨h1, h2, Or.inr (Or.inr (Or.inr (Or.inr (Or.inr (Or.inr ⟨kd, sg, nm, mn, p', z, li, si, hF, hk, h3, h4⟩)))))⟩
theorem isE_mem : ∀ {n : Nat}, isE L F kE kI n k e p q b c → e ∈ L ∧ p < q
  | 0, h => h.elim
  | _ + 1, h => ⟨h.1, h.2.1⟩
theorem isE_tok : ∀ {n : Nat}, isE L F kE kI n k e p q b c → ∃ vs : List Value, F e = .inr (15, vs) ∧ vs[1]? = some (.int (nI p))
  | 0, h => h.elim
  | _ + 1, h => by
    rcases h.2.2 with ⟨kd, num, k1, k2, k3⟩ | ⟨k2, k3⟩ | ⟨kd, o, p', q', k1, k2, k3, k4, k5⟩ | ⟨mu, o, p', k1, k2, k3, k5⟩ | ⟨o, nm, q', k2, k3, k5⟩ | ⟨o, q1, b1, mn, li, si, k2, k3, k5⟩ | ⟨kd, sg, nm, mn, p', z, li, si, k2, k3, k5⟩ <;> exact ⟨_, k2, rfl⟩
end IE
theorem vu_s {α : Type} {f : Nat → α} {k : Nat} {v : α} : va_up f k v k = v := if_pos rfl
theorem vu_n {α : Type} {f : Nat → α} {k j : Nat} {v : α} (h : j ≠ k) : va_up f k v j = f j := if_neg h
theorem nI_2 (n : Nat) : 2 * nI n = nI (2 * n) := by
  rw [Int32.two_mul, nI_add, show n + n = 2 * n by omega]
theorem isQl_w {z : Nat} {P : Nat → Nat → Nat → Nat → Nat → Prop} {L : List Nat} {F : Nat → va_E} {kE kI : ClassId} {li si : Value} {mn p p0 q b c : Nat} (h : isQl z P L F kE kI li si mn p q b c) (hp : p0 ≤ p) : isQl z P L F kE kI li si mn p0 q b c := by
  rcases h with ⟨h1, h2, h3, h4⟩ | ⟨la, sa, cap, q0, f, g, h1, h2, h3, h4, h5, h6, h7, h8, ps, bs, g1, g2⟩
  · exact Or.inl ⟨h1, h2, h3, by omega⟩
  · exact Or.inr ⟨la, sa, cap, q0, f, g, h1, h2, h3, h4, h5, h6, h7, h8, ps, bs, by omega, g2⟩
end
-- j4.a.lean.txt
section
/-- an exp's way down over brackets, members and stars: enough to look whether it is a place -/
def pwE (L : List Nat) (F : Nat → va_E) : Nat → Nat → Prop
  | 0, _ => False
  | n + 1, a => a ∈ L ∧ ∃ (kd : Int32) (vo : Value) (fs : List Value), F a = .inr (15, fs) ∧ fs[0]? = some (.int kd) ∧ fs[8]? = some vo ∧ ((kd = 7 ∨ kd = 14 ∨ kd = 11) → ∃ o : Nat, vo = .ref o ∧ pwE L F n o)
/-- it is a place -/
def plE (F : Nat → va_E) : Nat → Nat → Prop
  | 0, _ => False
  | n + 1, a => ∃ (kd : Int32) (vo : Value) (fs : List Value), F a = .inr (15, fs) ∧ fs[0]? = some (.int kd) ∧ fs[8]? = some vo ∧ (kd = 2 ∨ ((kd = 7 ∨ kd = 14 ∨ kd = 11) ∧ ∃ o : Nat, vo = .ref o ∧ plE F n o))
theorem plE_dn {F : Nat → va_E} {n a o : Nat} {kd : Int32} {fs : List Value} (h1 : F a = .inr (15, fs)) (h2 : fs[0]? = some (.int kd)) (h3 : fs[8]? = some (.ref o)) (hk : kd = 7 ∨ kd = 14 ∨ kd = 11) : plE F (n + 1) a ↔ plE F n o := by
  constructor
  · rintro ⟨kd', vo', fs', g1, g2, g3, g4⟩
    obtain rfl : fs' = fs := by rw [h1] at g1; cases g1; rfl
    obtain rfl : kd' = kd := by rw [h2] at g2; cases g2; rfl
    obtain rfl : vo' = .ref o := by rw [h3] at g3; cases g3; rfl
    rcases g4 with g4 | ⟨_, o', e, g4⟩
    · rcases hk with hk | hk | hk <;> rw [hk] at g4 <;> exact absurd g4 (by decide)
    · cases e; exact g4
  · intro h
    exact ⟨kd, .ref o, fs, h1, h2, h3, Or.inr ⟨hk, o, rfl, h⟩⟩
theorem plE_end {F : Nat → va_E} {n a : Nat} {kd : Int32} {vo : Value} {fs : List Value} (h1 : F a = .inr (15, fs)) (h2 : fs[0]? = some (.int kd)) (h3 : fs[8]? = some vo) (hk : ¬ (kd = 7 ∨ kd = 14 ∨ kd = 11)) : plE F (n + 1) a ↔ kd = 2 := by
  constructor
  · rintro ⟨kd', vo', fs', g1, g2, g3, g4⟩
    obtain rfl : fs' = fs := by rw [h1] at g1; cases g1; rfl
    obtain rfl : kd' = kd := by rw [h2] at g2; cases g2; rfl
    rcases g4 with g4 | ⟨g4, _⟩
    · exact g4
    · exact absurd g4 hk
  · intro h
    exact ⟨kd, vo, fs, h1, h2, h3, Or.inl h⟩
theorem isE_pw {L : List Nat} {F : Nat → va_E} {kE kI : ClassId} : ∀ {n k a p q b c : Nat}, isE L F kE kI n k a p q b c → pwE L F n a
  | 0, _, _, _, _, _, _, h => h.elim
  | n + 1, k, a, p, q, b, c, h => by
    refine ⟨h.1, ?_⟩
    rcases h.2.2 with ⟨kd, num, k1, k2, k3⟩ | ⟨k2, k3⟩ | ⟨kd, o, p', q', k1, k2, k3, k4, k5⟩ | ⟨mu, o, p', k1, k2, k3, k5⟩ | ⟨o, nm, q', k2, k3, k4, k5⟩ | ⟨o, q1, b1, mn, li, si, k2, k3, k5, k6⟩ | ⟨kd, sg, nm, mn, p', z9, li, si, k2, k3, k5⟩
    · exact ⟨kd, _, _, k2, rfl, rfl, fun z => by rcases k1 with rfl | rfl | rfl <;> exact absurd z (by decide)⟩
    · exact ⟨2, _, _, k2, rfl, rfl, fun z => absurd z (by decide)⟩
    · exact ⟨kd, _, _, k2, rfl, rfl, fun _ => ⟨o, rfl, isE_pw k5⟩⟩
    · exact ⟨12, _, _, k2, rfl, rfl, fun z => absurd z (by decide)⟩
    · exact ⟨14, _, _, k2, rfl, rfl, fun _ => ⟨o, rfl, isE_pw k5⟩⟩
    · exact ⟨8, _, _, k2, rfl, rfl, fun z => absurd z (by decide)⟩
    · exact ⟨kd, _, _, k2, rfl, rfl, fun z => by rcases k3 with ⟨rfl, _⟩ | ⟨rfl, _⟩ | ⟨rfl, _⟩ <;> exact absurd z (by decide)⟩
end
-- j5.a.lean.txt
section
/-- a statement as its reader makes it -/
def sxC (kd : Int32) (tk : Nat) (nm mu rf : Int32) (wr ex pl bl cs bs ar : Value) (mn : Nat) : va_E := .inr (19, [.int kd, .int (nI tk), .int nm, .int mu, .int rf, wr, ex, pl, .null, bl, cs, bs, ar, .int (nI mn)])
/-- n nodes in a row: tokens p to q, borrows b to c, variables v to w -/
def chN (P : Nat → Nat → Nat → Nat → Nat → Nat → Nat → Prop) (f : Nat → Option Nat) (n p q b c v w : Nat) : Prop :=
  ∃ ps bs vs : Nat → Nat, ps 0 = p ∧ ps n = q ∧ bs 0 = b ∧ bs n = c ∧ vs 0 = v ∧ vs n = w ∧ ∀ i : Nat, i < n → ∃ x : Nat, f i = some x ∧ P x (ps i) (ps (i + 1)) (bs i) (bs (i + 1)) (vs i) (vs (i + 1))
theorem chN_im {P P2 : Nat → Nat → Nat → Nat → Nat → Nat → Nat → Prop} {f : Nat → Option Nat} {n p q b c v w : Nat} (hP : ∀ x p q b c v w : Nat, P x p q b c v w → P2 x p q b c v w) (h : chN P f n p q b c v w) : chN P2 f n p q b c v w := by
  obtain ⟨ps, bs, vs, h1, h2, h3, h4, h5, h6, h7⟩ := h
  refine ⟨ps, bs, vs, h1, h2, h3, h4, h5, h6, fun i hi => ?_⟩
  obtain ⟨x, g1, g2⟩ := h7 i hi
  exact ⟨x, g1, hP _ _ _ _ _ _ _ g2⟩
theorem chN_0 {P : Nat → Nat → Nat → Nat → Nat → Nat → Nat → Prop} {f : Nat → Option Nat} {p b v : Nat} : chN P f 0 p p b b v v := ⟨fun _ => p, fun _ => b, fun _ => v, rfl, rfl, rfl, rfl, rfl, rfl, fun i hi => absurd hi (by omega)⟩
theorem chN_add {P : Nat → Nat → Nat → Nat → Nat → Nat → Nat → Prop} {f f2 : Nat → Option Nat} {n p q b c v w x q2 c2 w2 : Nat} (h : chN P f n p q b c v w) (hs : ∀ i : Nat, i < n → f2 i = f i) (hf : f2 n = some x) (hP : P x q q2 c c2 w w2) : chN P f2 (n + 1) p q2 b c2 v w2 := by
  obtain ⟨ps, bs, vs, h1, h2, h3, h4, h5, h6, h7⟩ := h
  refine ⟨fun j => if j = n + 1 then q2 else ps j, fun j => if j = n + 1 then c2 else bs j, fun j => if j = n + 1 then w2 else vs j, (if_neg (by omega)).trans h1, if_pos rfl, (if_neg (by omega)).trans h3, if_pos rfl, (if_neg (by omega)).trans h5, if_pos rfl, fun i hi => ?_⟩
  dsimp only
  rw [if_neg (show i ≠ n + 1 by omega), if_neg (show i ≠ n + 1 by omega), if_neg (show i ≠ n + 1 by omega)]
  by_cases e : i = n
  · subst e
    rw [if_pos rfl, if_pos rfl, if_pos rfl, h2, h4, h6]
    exact ⟨x, hf, hP⟩
  · rw [if_neg (by omega), if_neg (by omega), if_neg (by omega), hs i (by omega)]
    exact h7 i (by omega)
/-- the same, the place in the row told -/
def chJ (P : Nat → Nat → Nat → Nat → Nat → Nat → Nat → Nat → Prop) (f : Nat → Option Nat) (n p q b c v w : Nat) : Prop :=
  ∃ ps bs vs : Nat → Nat, ps 0 = p ∧ ps n = q ∧ bs 0 = b ∧ bs n = c ∧ vs 0 = v ∧ vs n = w ∧ ∀ i : Nat, i < n → ∃ x : Nat, f i = some x ∧ P i x (ps i) (ps (i + 1)) (bs i) (bs (i + 1)) (vs i) (vs (i + 1))
theorem chJ_im {P P2 : Nat → Nat → Nat → Nat → Nat → Nat → Nat → Nat → Prop} {f : Nat → Option Nat} {n p q b c v w : Nat} (hP : ∀ i x p q b c v w : Nat, i < n → P i x p q b c v w → P2 i x p q b c v w) (h : chJ P f n p q b c v w) : chJ P2 f n p q b c v w := by
  obtain ⟨ps, bs, vs, h1, h2, h3, h4, h5, h6, h7⟩ := h
  refine ⟨ps, bs, vs, h1, h2, h3, h4, h5, h6, fun i hi => ?_⟩
  obtain ⟨x, g1, g2⟩ := h7 i hi
  exact ⟨x, g1, hP _ _ _ _ _ _ _ _ hi g2⟩
theorem chJ_0 {P : Nat → Nat → Nat → Nat → Nat → Nat → Nat → Nat → Prop} {f : Nat → Option Nat} {p b v : Nat} : chJ P f 0 p p b b v v := ⟨fun _ => p, fun _ => b, fun _ => v, rfl, rfl, rfl, rfl, rfl, rfl, fun i hi => absurd hi (by omega)⟩
theorem chJ_add {P : Nat → Nat → Nat → Nat → Nat → Nat → Nat → Nat → Prop} {f f2 : Nat → Option Nat} {n p q b c v w x q2 c2 w2 : Nat} (h : chJ P f n p q b c v w) (hs : ∀ i : Nat, i < n → f2 i = f i) (hf : f2 n = some x) (hP : P n x q q2 c c2 w w2) : chJ P f2 (n + 1) p q2 b c2 v w2 := by
  obtain ⟨ps, bs, vs, h1, h2, h3, h4, h5, h6, h7⟩ := h
  refine ⟨fun j => if j = n + 1 then q2 else ps j, fun j => if j = n + 1 then c2 else bs j, fun j => if j = n + 1 then w2 else vs j, (if_neg (by omega)).trans h1, if_pos rfl, (if_neg (by omega)).trans h3, if_pos rfl, (if_neg (by omega)).trans h5, if_pos rfl, fun i hi => ?_⟩
  dsimp only
  rw [if_neg (show i ≠ n + 1 by omega), if_neg (show i ≠ n + 1 by omega), if_neg (show i ≠ n + 1 by omega)]
  by_cases e : i = n
  · subst e
    rw [if_pos rfl, if_pos rfl, if_pos rfl, h2, h4, h6]
    exact ⟨x, hf, hP⟩
  · rw [if_neg (by omega), if_neg (by omega), if_neg (by omega), hs i (by omega)]
    exact h7 i (by omega)
/-- an exp that may be wanting -/
def oxE (P : Nat → Nat → Nat → Nat → Nat → Prop) (y : Value) (p q b c : Nat) : Prop := (y = .null ∧ b = c) ∨ ∃ a p' q' : Nat, y = .ref a ∧ p < p' ∧ q' < q ∧ P a p' q' b c
theorem oxE_im {P P2 : Nat → Nat → Nat → Nat → Nat → Prop} {y : Value} {p q b c : Nat} (hP : ∀ x p q b c : Nat, P x p q b c → P2 x p q b c) (h : oxE P y p q b c) : oxE P2 y p q b c := h.elim Or.inl (fun ⟨a, p', q', h1, h2, h3, h4⟩ => Or.inr ⟨a, p', q', h1, h2, h3, hP _ _ _ _ _ h4⟩)
/-- statements (0), blocks (1), arms (2) in the store -/
def isN (L : List Nat) (F : Nat → va_E) (fk : Nat → Int32) (kE kI kS kB kA kV : ClassId) : Nat → Nat → Nat → Nat → Nat → Nat → Nat → Nat → Nat → Prop
  | 0, _, _, _, _, _, _, _, _ => False
  | n + 1, 0, a, p, q, b, c, v, w => a ∈ L ∧ p < q ∧
    ((∃ (nm pm : Nat) (mu : Int32) (wr ex : Value), F a = sxC 0 p (nI nm) mu 0 wr ex .null .null .null .null .null 0 ∧ p < nm ∧ nm < q ∧ (mu = 0 ∨ mu = 1) ∧ w = v + 1 ∧ (p ≤ pm ∧ pm < q) ∧ (wr = .null ∨ ∃ t p' q' : Nat, wr = .ref t ∧ p < p' ∧ q' ≤ pm ∧ isT L F fk 17 t p' q') ∧ oxE (isE L F kE kI 408 16) ex pm q b c) ∨
     (∃ (kd : Int32) (x p' q' : Nat), (kd = 1 ∨ kd = 7) ∧ F a = sxC kd p 0 0 0 .null (.ref x) .null .null .null .null .null 0 ∧ p ≤ p' ∧ q' < q ∧ isE L F kE kI 408 16 x p' q' b c ∧ w = v) ∨
     (∃ x y q1 p2 q2 b1 : Nat, F a = sxC 2 p 0 0 0 .null (.ref x) (.ref y) .null .null .null .null 0 ∧ isE L F kE kI 408 16 y p q1 b b1 ∧ plE F 408 y ∧ q1 < p2 ∧ q2 < q ∧ isE L F kE kI 408 16 x p2 q2 b1 c ∧ w = v) ∨
     (∃ (ca ba cap mn : Nat) (f g : Nat → Option Nat), F a = sxC 3 p 0 0 0 .null .null .null .null (.ref ca) (.ref ba) .null mn ∧ 1 ≤ mn ∧ mn ≤ cap ∧ ca ∈ L ∧ ba ∈ L ∧ F ca = .inl (kE, cap, .inr (.inr (.inr (.inr f)))) ∧ F ba = .inl (kB, cap, .inr (.inr (.inr (.inr g)))) ∧
       (∀ i : Nat, i < mn → f i = none → i + 1 = mn) ∧ chJ (fun i y p1 q1 b1 c1 v1 w1 => ∃ p0 b0 : Nat, ((f i = none ∧ b0 = b1) ∨ ∃ x p' q0 : Nat, f i = some x ∧ p1 < p' ∧ q0 ≤ p0 ∧ isE L F kE kI 408 16 x p' q0 b1 b0) ∧ p1 ≤ p0 ∧ isN L F fk kE kI kS kB kA kV n 1 y p0 q1 b0 c1 v1 w1) g mn p q b c v w) ∨
     (∃ x y q0 b1 : Nat, F a = sxC 4 p 0 0 0 .null (.ref x) .null (.ref y) .null .null .null 0 ∧ isE L F kE kI 408 16 x (p + 1) q0 b b1 ∧ isN L F fk kE kI kS kB kA kV n 1 y q0 q b1 c v w) ∨
     (∃ (x ar cap mn p0 q0 b0 b1 : Nat) (mu rf : Int32) (f : Nat → Option Nat), F a = sxC 5 p 0 mu rf .null (.ref x) .null .null .null .null (.ref ar) mn ∧ ((rf = 0 ∧ mu = 0 ∧ b0 = b) ∨ (rf = 1 ∧ (mu = 0 ∨ mu = 1) ∧ b0 = b + 1 ∧ plE F 408 x)) ∧ p < p0 ∧ isE L F kE kI 408 16 x p0 q0 b0 b1 ∧ ar ∈ L ∧ F ar = .inl (kA, cap, .inr (.inr (.inr (.inr f)))) ∧ mn ≤ cap ∧ chN (isN L F fk kE kI kS kB kA kV n 2) f mn (q0 + 1) (q - 1) b1 c v w) ∨
     (∃ ex : Value, F a = sxC 6 p 0 0 0 .null ex .null .null .null .null .null 0 ∧ oxE (isE L F kE kI 408 16) ex p q b c ∧ w = v ∧ fk p = 19) ∨
     (∃ y : Nat, F a = sxC 8 p 0 0 0 .null .null .null (.ref y) .null .null .null 0 ∧ isN L F fk kE kI kS kB kA kV n 1 y p q b c v w))
  | n + 1, 1, a, p, q, b, c, v, w => a ∈ L ∧ p < q ∧ ∃ (la cap mn : Nat) (f : Nat → Option Nat), F a = .inr (14, [.int (nI p), .int (nI (q - 1)), .ref la, .int (nI mn)]) ∧ la ∈ L ∧ F la = .inl (kS, cap, .inr (.inr (.inr (.inr f)))) ∧ mn ≤ cap ∧ chN (isN L F fk kE kI kS kB kA kV n 0) f mn (p + 1) (q - 1) b c v w
  | n + 1, _ + 2, a, p, q, b, c, v, w => a ∈ L ∧ p < q ∧ ∃ (na va bk mn p' : Nat) (g : Nat → Int32), F a = .inr (13, [.int (nI p), .int 0, .ref na, .int (nI mn), .ref va, .ref bk]) ∧ na ∈ L ∧ va ∈ L ∧ F na = .inl (kI, 12, .inl g) ∧ F va = .inl (kV, 12, .inr (.inr (.inr (.inr (fun _ => none))))) ∧ mn ≤ 12 ∧ (∀ i : Nat, i < mn → ∃ s : Nat, g i = nI s ∧ p < s ∧ s < q) ∧ p + mn < p' ∧ isN L F fk kE kI kS kB kA kV n 1 bk p' q b c (v + mn) w ∧ va = a + 2
theorem plE_ex {L L2 : List Nat} {F F2 : Nat → va_E} (hx : exS L F L2 F2) : ∀ {n a : Nat}, pwE L F n a → plE F n a → plE F2 n a
  | 0, _, h, _ => h.elim
  | n + 1, a, h, g => by
    obtain ⟨kd, vo, fs, g1, g2, g3, g4⟩ := g
    refine ⟨kd, vo, fs, (hx a h.1).2.trans g1, g2, g3, ?_⟩
    rcases g4 with g4 | ⟨hk, o, ho, g4⟩
    · exact Or.inl g4
    · obtain ⟨_, kd', vo', fs', k1, k2, k3, k4⟩ := h
      obtain rfl : fs' = fs := by rw [g1] at k1; cases k1; rfl
      obtain rfl : kd' = kd := by rw [g2] at k2; cases k2; rfl
      obtain rfl : vo' = vo := by rw [g3] at k3; cases k3; rfl
      obtain ⟨o', e1, k5⟩ := k4 hk
      rw [ho] at e1
      cases e1
      exact Or.inr ⟨hk, o, ho, plE_ex hx k5 g4⟩
theorem isN_im {L L2 : List Nat} {F F2 : Nat → va_E} {fk : Nat → Int32} {kE kI kS kB kA kV : ClassId} (hx : exS L F L2 F2) : ∀ {n : Nat} (m : Nat), n ≤ m → ∀ {t a p q b c v w : Nat}, isN L F fk kE kI kS kB kA kV n t a p q b c v w → isN L2 F2 fk kE kI kS kB kA kV m t a p q b c v w
  | 0, _, _, _, _, _, _, _, _, _, _, h => h.elim
  | n + 1, 0, hm, _, _, _, _, _, _, _, _, _ => absurd hm (by omega)
  | n + 1, m + 1, hm, 0, a, p, q, b, c, v, w, h => by
    have hm : n ≤ m := by omega
    have hE : ∀ x p q b c : Nat, isE L F kE kI 408 16 x p q b c → isE L2 F2 kE kI 408 16 x p q b c := fun x p q b c z => isE_im hx _ (Nat.le_refl _) z
    obtain ⟨h1, h2⟩ := hx a h.1
    refine ⟨h1, h.2.1, ?_⟩
    rw [h2]
    rcases h.2.2 with ⟨nm, pm, mu, wr, ex, k1, k2, k3, k4, k5, k8, k6, k7⟩ | ⟨kd, x, p', q', k1, k2, k3, k4, k5, k6⟩ | ⟨x, y, q1, p2, q2, b1, k1, k2, k3, k4, k5, k6, k7⟩ | ⟨ca, ba, cap, mn, f, g, k1, k2, k3, k4, k5, k6, k7, k8, k9⟩ | ⟨x, y, q0, b1, k1, k2, k3⟩ | ⟨x, ar, cap, mn, p0, q0, b0, b1, mu, rf, f, k1, k2, k3, k4, k5, k6, k7, k8⟩ | ⟨ex, k1, k2, k3⟩ | ⟨y, k1, k2⟩
    · refine Or.inl ⟨nm, pm, mu, wr, ex, k1, k2, k3, k4, k5, k8, ?_, oxE_im hE k7⟩
      rcases k6 with k6 | ⟨t, p', q', e1, e2, e3, e4⟩
      · exact Or.inl k6
      · exact Or.inr ⟨t, p', q', e1, e2, e3, isT_ex hx e4⟩
    · exact Or.inr (Or.inl ⟨kd, x, p', q', k1, k2, k3, k4, hE _ _ _ _ _ k5, k6⟩)
    · exact Or.inr (Or.inr (Or.inl ⟨x, y, q1, p2, q2, b1, k1, hE _ _ _ _ _ k2, plE_ex hx (isE_pw k2) k3, k4, k5, hE _ _ _ _ _ k6, k7⟩))
    · refine Or.inr (Or.inr (Or.inr (Or.inl ⟨ca, ba, cap, mn, f, g, k1, k2, k3, (hx ca k4).1, (hx ba k5).1, (hx ca k4).2.trans k6, (hx ba k5).2.trans k7, k8, chJ_im ?_ k9⟩)))
      rintro i y p1 q1 b1 c1 v1 w1 _ ⟨p0, b0, g3, g4, g5⟩
      refine ⟨p0, b0, ?_, g4, isN_im hx m hm g5⟩
      rcases g3 with g3 | ⟨x, p', q0, e1, e2, e3, e4⟩
      · exact Or.inl g3
      · exact Or.inr ⟨x, p', q0, e1, e2, e3, hE _ _ _ _ _ e4⟩
    · exact Or.inr (Or.inr (Or.inr (Or.inr (Or.inl ⟨x, y, q0, b1, k1, hE _ _ _ _ _ k2, isN_im hx m hm k3⟩))))
    · refine Or.inr (Or.inr (Or.inr (Or.inr (Or.inr (Or.inl ⟨x, ar, cap, mn, p0, q0, b0, b1, mu, rf, f, k1, ?_, k3, hE _ _ _ _ _ k4, (hx ar k5).1, (hx ar k5).2.trans k6, k7, chN_im (fun y p q b c v w z => isN_im hx m hm z) k8⟩)))))
      rcases k2 with k2 | ⟨e1, e2, e3, e4⟩
      · exact Or.inl k2
      · exact Or.inr ⟨e1, e2, e3, plE_ex hx (isE_pw k4) e4⟩
    · exact Or.inr (Or.inr (Or.inr (Or.inr (Or.inr (Or.inr (Or.inl ⟨ex, k1, oxE_im hE k2, k3⟩))))))
    · exact Or.inr (Or.inr (Or.inr (Or.inr (Or.inr (Or.inr (Or.inr ⟨y, k1, isN_im hx m hm k2⟩))))))
  | n + 1, m + 1, hm, 1, a, p, q, b, c, v, w, h => by
    have hm : n ≤ m := by omega
    obtain ⟨h1, h2⟩ := hx a h.1
    obtain ⟨la, cap, mn, f, k1, k2, k3, k4, k5⟩ := h.2.2
    exact ⟨h1, h.2.1, la, cap, mn, f, h2.trans k1, (hx la k2).1, (hx la k2).2.trans k3, k4, chN_im (fun y p q b c v w z => isN_im hx m hm z) k5⟩
  | n + 1, m + 1, hm, t + 2, a, p, q, b, c, v, w, h => by
    have hm : n ≤ m := by omega
    obtain ⟨h1, h2⟩ := hx a h.1
    obtain ⟨na, va, bk, mn, p', g, k1, k2, k3, k4, k5, k6, k7, k8, k9, l1⟩ := h.2.2
    exact ⟨h1, h.2.1, na, va, bk, mn, p', g, h2.trans k1, (hx na k2).1, (hx va k3).1, (hx na k2).2.trans k4, (hx va k3).2.trans k5, k6, k7, k8, isN_im hx m hm k9, l1⟩
theorem isN_lt {L : List Nat} {F : Nat → va_E} {fk : Nat → Int32} {kE kI kS kB kA kV : ClassId} : ∀ {n t a p q b c v w : Nat}, isN L F fk kE kI kS kB kA kV n t a p q b c v w → a ∈ L ∧ p < q
  | 0, _, _, _, _, _, _, _, _, h => h.elim
  | _ + 1, 0, _, _, _, _, _, _, _, h => ⟨h.1, h.2.1⟩
  | _ + 1, 1, _, _, _, _, _, _, _, h => ⟨h.1, h.2.1⟩
  | _ + 1, _ + 2, _, _, _, _, _, _, _, h => ⟨h.1, h.2.1⟩
/-- an object of the store, of the class i -/
def oN (i : Nat) (L : List Nat) (F : Nat → va_E) (x : Nat) : Prop := x ∈ L ∧ ∃ vs : List Value, F x = .inr (i, vs)
theorem oN_ex {i : Nat} {L L2 : List Nat} {F F2 : Nat → va_E} {x : Nat} (hx : exS L F L2 F2) (h : oN i L F x) : oN i L2 F2 x := ⟨(hx x h.1).1, by rw [(hx x h.1).2]; exact h.2⟩
theorem isN_B {L : List Nat} {F : Nat → va_E} {fk : Nat → Int32} {kE kI kS kB kA kV : ClassId} {n a p q b c v w la cap mn : Nat} {f : Nat → Option Nat} (h1 : a ∈ L) (h2 : la ∈ L) (h3 : F a = .inr (14, [.int (nI p), .int (nI q), .ref la, .int (nI mn)])) (h4 : F la = .inl (kS, cap, .inr (.inr (.inr (.inr f))))) (h5 : p ≤ q) (h6 : mn ≤ cap) (h7 : chN (isN L F fk kE kI kS kB kA kV n 0) f mn (p + 1) q b c v w) : isN L F fk kE kI kS kB kA kV (n + 1) 1 a p (q + 1) b c v w := ⟨h1, by omega, la, cap, mn, f, h3, h2, h4, h6, h7⟩
theorem isN_A {L : List Nat} {F : Nat → va_E} {fk : Nat → Int32} {kE kI kS kB kA kV : ClassId} {n a p q b c v w na va bk mn p' : Nat} {g : Nat → Int32} (h1 : a ∈ L) (h2 : na ∈ L) (h3 : va ∈ L) (h4 : F a = .inr (13, [.int (nI p), .int 0, .ref na, .int (nI mn), .ref va, .ref bk])) (h5 : F na = .inl (kI, 12, .inl g)) (h6 : F va = .inl (kV, 12, .inr (.inr (.inr (.inr (fun _ => none)))))) (h7 : mn ≤ 12) (h8 : ∀ i : Nat, i < mn → ∃ s : Nat, g i = nI s ∧ p < s ∧ s < q) (h9 : p + mn < p') (h10 : isN L F fk kE kI kS kB kA kV n 1 bk p' q b c (v + mn) w) (h11 : va = a + 2) : isN L F fk kE kI kS kB kA kV (n + 1) 2 a p q b c v w := ⟨h1, by have := (isN_lt h10).2; omega, na, va, bk, mn, p', g, h4, h2, h3, h5, h6, h7, h8, h9, h10, h11⟩
/-- one branch of an if: its condition, its block -/
def brP (L : List Nat) (F : Nat → va_E) (fk : Nat → Int32) (kE kI kS kB kA kV : ClassId) (n : Nat) (f : Nat → Option Nat) (i y p1 q1 b1 c1 v1 w1 : Nat) : Prop := ∃ p0 b0 : Nat, ((f i = none ∧ b0 = b1) ∨ ∃ x p' q0 : Nat, f i = some x ∧ p1 < p' ∧ q0 ≤ p0 ∧ isE L F kE kI 408 16 x p' q0 b1 b0) ∧ p1 ≤ p0 ∧ isN L F fk kE kI kS kB kA kV n 1 y p0 q1 b0 c1 v1 w1
theorem brP_im {L L2 : List Nat} {F F2 : Nat → va_E} {fk : Nat → Int32} {kE kI kS kB kA kV : ClassId} (hx : exS L F L2 F2) {n m : Nat} (hm : n ≤ m) {f f2 : Nat → Option Nat} {i y p1 q1 b1 c1 v1 w1 : Nat} (hf : f2 i = f i) (h : brP L F fk kE kI kS kB kA kV n f i y p1 q1 b1 c1 v1 w1) : brP L2 F2 fk kE kI kS kB kA kV m f2 i y p1 q1 b1 c1 v1 w1 := by
  obtain ⟨p0, b0, g3, g4, g5⟩ := h
  refine ⟨p0, b0, ?_, g4, isN_im hx m hm g5⟩
  rw [hf]
  rcases g3 with g3 | ⟨x, p', q0, e1, e2, e3, e4⟩
  · exact Or.inl g3
  · exact Or.inr ⟨x, p', q0, e1, e2, e3, isE_im hx _ (Nat.le_refl _) e4⟩
theorem isN_R {L : List Nat} {F : Nat → va_E} {fk : Nat → Int32} {kE kI kS kB kA kV : ClassId} {n a p q b c v w ca ba cap mn : Nat} {f g : Nat → Option Nat} (h1 : a ∈ L) (h2 : p < q) (h3 : F a = sxC 3 p 0 0 0 .null .null .null .null (.ref ca) (.ref ba) .null mn) (h4 : 1 ≤ mn) (h5 : mn ≤ cap) (h6 : ca ∈ L) (h7 : ba ∈ L) (h8 : F ca = .inl (kE, cap, .inr (.inr (.inr (.inr f))))) (h9 : F ba = .inl (kB, cap, .inr (.inr (.inr (.inr g))))) (h10 : ∀ i : Nat, i < mn → f i = none → i + 1 = mn) (h11 : chJ (brP L F fk kE kI kS kB kA kV n f) g mn p q b c v w) : isN L F fk kE kI kS kB kA kV (n + 1) 0 a p q b c v w := ⟨h1, h2, Or.inr (Or.inr (Or.inr (Or.inl ⟨ca, ba, cap, mn, f, g, h3, h4, h5, h6, h7, h8, h9, h10, h11⟩)))⟩
theorem isN_M {L : List Nat} {F : Nat → va_E} {fk : Nat → Int32} {kE kI kS kB kA kV : ClassId} {n a p q b c v w x ar cap mn p0 q0 b0 b1 : Nat} {mu rf : Int32} {f : Nat → Option Nat} (h1 : a ∈ L) (h2 : p < q) (h3 : F a = sxC 5 p 0 mu rf .null (.ref x) .null .null .null .null (.ref ar) mn) (h4 : (rf = 0 ∧ mu = 0 ∧ b0 = b) ∨ (rf = 1 ∧ (mu = 0 ∨ mu = 1) ∧ b0 = b + 1 ∧ plE F 408 x)) (h5 : p < p0) (h6 : isE L F kE kI 408 16 x p0 q0 b0 b1) (h7 : ar ∈ L) (h8 : F ar = .inl (kA, cap, .inr (.inr (.inr (.inr f))))) (h9 : mn ≤ cap) (h10 : chN (isN L F fk kE kI kS kB kA kV n 2) f mn (q0 + 1) q b1 c v w) : isN L F fk kE kI kS kB kA kV (n + 1) 0 a p (q + 1) b c v w := ⟨h1, by omega, Or.inr (Or.inr (Or.inr (Or.inr (Or.inr (Or.inl ⟨x, ar, cap, mn, p0, q0, b0, b1, mu, rf, f, h3, h4, h5, h6, h7, h8, h9, h10⟩)))))⟩
/-- a cell that came after the start lies behind all that was there -/
theorem nw_g1 {A : Nat → Prop} {f f2 t : va_W} {sz k q : Nat} {c : va_E} (hAe : va_A (f ++ t) sz = A) (hD : va_D A (f2 ++ t)) (hk : f2[k]? = some (q, c)) (hm : (f2.map Prod.fst).take f.length = f.map Prod.fst) (hk0 : f.length ≤ k) : sz ≤ q := by
  have hk2 : (f2 ++ t)[k]? = some (q, c) := by rw [List.getElem?_append_left (List.getElem?_eq_some_iff.mp hk).1]; exact hk
  have h := hD.2 k _ hk2
  rw [← hAe] at h
  rcases h with ⟨i, e, hi⟩ | h
  · exfalso
    by_cases hl : i < f.length
    · rw [List.getElem?_append_left hl] at hi
      have h1 : (f.map Prod.fst)[i]? = some q := by rw [List.getElem?_map, hi]; rfl
      rw [← hm, List.getElem?_take, if_pos hl, List.getElem?_map] at h1
      cases h2 : f2[i]? with
      | none => rw [h2] at h1; cases h1
      | some x =>
        rw [h2] at h1
        have h3 : x.1 = q := Option.some.inj h1
        have h4 : (f2 ++ t)[i]? = some x := by rw [List.getElem?_append_left (List.getElem?_eq_some_iff.mp h2).1]; exact h2
        have := hD.1 i k _ _ h4 hk2 h3
        omega
    · rw [List.getElem?_append_right (by omega)] at hi
      exact hD.ft hk hi rfl
  · exact h
theorem nw_g0 {A : Nat → Prop} {f f2 : va_W} {sz k q : Nat} {c : va_E} (hAe : va_A f sz = A) (hD : va_D A f2) (hk : f2[k]? = some (q, c)) (hm : (f2.map Prod.fst).take f.length = f.map Prod.fst) (hk0 : f.length ≤ k) : sz ≤ q :=
  nw_g1 (A := A) (f := f) (f2 := f2) (t := []) ((congrArg (fun z => va_A z sz) (List.append_nil f)).trans hAe) (by rw [List.append_nil]; exact hD) hk hm hk0
end
-- j6.a.lean.txt
section
/-- an item as its reader makes it -/
def itC (tk nm : Nat) (kd : Int32) (mn : Nat) (lv : Nat) (na : Nat) (wr ty vr lf lo rs bl pm : Value) (va : Nat) : va_E := .inr (16, [.int (nI tk), .int (nI nm), .int kd, .int (nI mn), .int 0, .int 0, .int (nI lv), .int 0, .ref na, wr, ty, vr, lf, lo, rs, .null, bl, pm, .int (nI va), .int 0, .int 0, .int 0])
/-- types as written in a row: their tokens one behind the other -/
def chT (L : List Nat) (F : Nat → va_E) (fk : Nat → Int32) (f : Nat → Option Nat) (n p q : Nat) : Prop :=
  ∃ ps : Nat → Nat, ps 0 = p ∧ ps n = q ∧ ∀ i : Nat, i < n → ∃ t p' q' : Nat, f i = some t ∧ ps i ≤ p' ∧ q' ≤ ps (i + 1) ∧ isT L F fk 17 t p' q'
theorem chT_0 {L : List Nat} {F : Nat → va_E} {fk : Nat → Int32} {f : Nat → Option Nat} {p : Nat} : chT L F fk f 0 p p := ⟨fun _ => p, rfl, rfl, fun i hi => absurd hi (by omega)⟩
theorem chT_im {L L2 : List Nat} {F F2 : Nat → va_E} {fk : Nat → Int32} {f f2 : Nat → Option Nat} {n p q : Nat} (hx : exS L F L2 F2) (hf : ∀ i : Nat, i < n → f2 i = f i) (h : chT L F fk f n p q) : chT L2 F2 fk f2 n p q := by
  obtain ⟨ps, h1, h2, h3⟩ := h
  refine ⟨ps, h1, h2, fun i hi => ?_⟩
  obtain ⟨t, p', q', g1, g2, g3, g4⟩ := h3 i hi
  exact ⟨t, p', q', (hf i hi).trans g1, g2, g3, isT_ex hx g4⟩
theorem chT_add {L : List Nat} {F : Nat → va_E} {fk : Nat → Int32} {f f2 : Nat → Option Nat} {n p q t p' q' q2 : Nat} (h : chT L F fk f n p q) (hs : ∀ i : Nat, i < n → f2 i = f i) (hf : f2 n = some t) (h1 : q ≤ p') (h2 : q' ≤ q2) (ht : isT L F fk 17 t p' q') : chT L F fk f2 (n + 1) p q2 := by
  obtain ⟨ps, g1, g2, g3⟩ := h
  refine ⟨fun j => if j = n + 1 then q2 else ps j, (if_neg (by omega)).trans g1, if_pos rfl, fun i hi => ?_⟩
  dsimp only
  rw [if_neg (show i ≠ n + 1 by omega)]
  by_cases e : i = n
  · subst e
    rw [if_pos rfl, g2]
    exact ⟨t, p', q', hf, h1, h2, ht⟩
  · rw [if_neg (by omega), hs i (by omega)]
    exact g3 i (by omega)
/-- the parts of a variant -/
def isPa (L : List Nat) (F : Nat → va_E) (fk : Nat → Int32) (kW kT : ClassId) (a p q : Nat) : Prop :=
  a ∈ L ∧ p ≤ q ∧ (F a = .inr (17, [.int 0, .null, .null]) ∨ ∃ (wa ta mk q' : Nat) (f : Nat → Option Nat), F a = .inr (17, [.int (nI mk), .ref wa, .ref ta]) ∧ mk ≤ 12 ∧ wa ∈ L ∧ ta ∈ L ∧ F wa = .inl (kW, 12, .inr (.inr (.inr (.inr f)))) ∧ F ta = .inl (kT, 12, .inr (.inr (.inr (.inr (fun _ => none))))) ∧ q' ≤ q ∧ chT L F fk f mk p q')
theorem isPa_ex {L L2 : List Nat} {F F2 : Nat → va_E} {fk : Nat → Int32} {kW kT : ClassId} {a p q : Nat} (hx : exS L F L2 F2) (h : isPa L F fk kW kT a p q) : isPa L2 F2 fk kW kT a p q := by
  obtain ⟨h1, h2⟩ := hx a h.1
  refine ⟨h1, h.2.1, ?_⟩
  rw [h2]
  rcases h.2.2 with h | ⟨wa, ta, mk, q', f, k1, k2, k3, k4, k5, k6, k7, k8⟩
  · exact Or.inl h
  · exact Or.inr ⟨wa, ta, mk, q', f, k1, k2, (hx wa k3).1, (hx ta k4).1, (hx wa k3).2.trans k5, (hx ta k4).2.trans k6, k7, chT_im hx (fun _ _ => rfl) k8⟩
/-- the row of types of a variant's parts -/
def taOf (F : Nat → va_E) (t ta : Nat) : Prop := ∃ x y : Value, F t = .inr (17, [x, y, .ref ta])
theorem isPa_ta {L : List Nat} {F : Nat → va_E} {fk : Nat → Int32} {kW kT : ClassId} {a p q ta : Nat} (h : isPa L F fk kW kT a p q) (g : taOf F a ta) : ta ∈ L := by
  obtain ⟨x, y, g⟩ := g
  rcases h.2.2 with h | ⟨wa, ta2, mk, q', f, k1, k2, k3, k4, k5⟩
  · rw [h] at g; cases g
  · rw [k1] at g; cases g; exact k4
/-- variants in a row, each with rows of its own -/
def chV (L : List Nat) (F : Nat → va_E) (fk : Nat → Int32) (kW kT : ClassId) (f : Nat → Option Nat) (n p q : Nat) : Prop :=
  ∃ ps : Nat → Nat, ps 0 = p ∧ ps n = q ∧ (∀ i : Nat, i < n → ∃ t p' q' : Nat, f i = some t ∧ ps i ≤ p' ∧ q' ≤ ps (i + 1) ∧ isPa L F fk kW kT t p' q') ∧ ∀ i j t u ta : Nat, i < j → j < n → f i = some t → f j = some u → taOf F t ta → taOf F u ta → False
theorem chV_0 {L : List Nat} {F : Nat → va_E} {fk : Nat → Int32} {kW kT : ClassId} {f : Nat → Option Nat} {p : Nat} : chV L F fk kW kT f 0 p p := ⟨fun _ => p, rfl, rfl, fun i hi => absurd hi (by omega), fun i j t u ta h1 h2 => absurd h2 (by omega)⟩
theorem chV_im {L L2 : List Nat} {F F2 : Nat → va_E} {fk : Nat → Int32} {kW kT : ClassId} {f f2 : Nat → Option Nat} {n p q : Nat} (hx : exS L F L2 F2) (hf : ∀ i : Nat, i < n → f2 i = f i) (h : chV L F fk kW kT f n p q) : chV L2 F2 fk kW kT f2 n p q := by
  obtain ⟨ps, h1, h2, h3, h4⟩ := h
  refine ⟨ps, h1, h2, fun i hi => ?_, fun i j t u ta hij hj e1 e2 g1 g2 => ?_⟩
  · obtain ⟨t, p', q', g1, g2, g3, g4⟩ := h3 i hi
    exact ⟨t, p', q', (hf i hi).trans g1, g2, g3, isPa_ex hx g4⟩
  · rw [hf i (by omega)] at e1
    rw [hf j hj] at e2
    obtain ⟨t2, _, _, k1, _, _, k2⟩ := h3 i (by omega)
    obtain ⟨u2, _, _, k3, _, _, k4⟩ := h3 j hj
    rw [k1] at e1; cases e1
    rw [k3] at e2; cases e2
    unfold taOf at g1 g2
    rw [(hx _ k2.1).2] at g1
    rw [(hx _ k4.1).2] at g2
    exact h4 i j _ _ ta hij hj k1 k3 g1 g2
theorem chV_add {L : List Nat} {F : Nat → va_E} {fk : Nat → Int32} {kW kT : ClassId} {f f2 : Nat → Option Nat} {n p q t p' q' q2 : Nat} (h : chV L F fk kW kT f n p q) (hs : ∀ i : Nat, i < n → f2 i = f i) (hf : f2 n = some t) (h1 : q ≤ p') (h2 : q' ≤ q2) (ht : isPa L F fk kW kT t p' q') (hn : ∀ i u ta : Nat, i < n → f i = some u → taOf F u ta → taOf F t ta → False) : chV L F fk kW kT f2 (n + 1) p q2 := by
  obtain ⟨ps, g1, g2, g3, g4⟩ := h
  refine ⟨fun j => if j = n + 1 then q2 else ps j, (if_neg (by omega)).trans g1, if_pos rfl, fun i hi => ?_, fun i j t9 u ta hij hj e1 e2 k1 k2 => ?_⟩
  · dsimp only
    rw [if_neg (show i ≠ n + 1 by omega)]
    by_cases e : i = n
    · subst e
      rw [if_pos rfl, g2]
      exact ⟨t, p', q', hf, h1, h2, ht⟩
    · rw [if_neg (by omega), hs i (by omega)]
      exact g3 i (by omega)
  · rw [hs i (by omega)] at e1
    by_cases e : j = n
    · subst e
      rw [hf] at e2; cases e2
      exact hn i t9 ta hij e1 k1 k2
    · rw [hs j (by omega)] at e2
      exact g4 i j t9 u ta hij (by omega) e1 e2 k1 k2
/-- an item in the store: tokens p to q, its body (of a function) from m on -/
def isI (L : List Nat) (F : Nat → va_E) (fk : Nat → Int32) (kE kI kS kB kA kV kW kT kP : ClassId) (a p m q : Nat) : Prop :=
  a ∈ L ∧ p + 1 < m ∧ m ≤ q ∧ ∃ (mn na : Nat) (g : Nat → Int32), na ∈ L ∧ F na = .inl (kI, 13, .inl g) ∧ mn ≤ 12 ∧ (∀ i : Nat, i < mn → ∃ s : Nat, g i = nI s ∧ p < s ∧ s < m) ∧
   ((∃ (wa ta q' : Nat) (f : Nat → Option Nat), F a = itC p (p + 1) 10 mn 0 na (.ref wa) (.ref ta) .null .null .null .null .null .null 0 ∧ (m = q ∧ 1 ≤ mn) ∧ wa ∈ L ∧ ta ∈ L ∧ F wa = .inl (kW, 13, .inr (.inr (.inr (.inr f)))) ∧ F ta = .inl (kT, 13, .inr (.inr (.inr (.inr (fun _ => none))))) ∧ q' ≤ m ∧ chT L F fk f mn (p + 1) q') ∨
    (∃ (vr q' : Nat) (f : Nat → Option Nat), F a = itC p (p + 1) 11 mn 0 na .null .null (.ref vr) .null .null .null .null .null 0 ∧ (m = q ∧ 1 ≤ mn) ∧ vr ∈ L ∧ F vr = .inl (kP, 13, .inr (.inr (.inr (.inr f)))) ∧ q' ≤ m ∧ chV L F fk kW kT f mn (p + 1) q') ∨
    (∃ (lv wa ta pa lf lo q' va b bl : Nat) (rs : Value) (f : Nat → Option Nat) (gl : Nat → Int32), F a = itC p (p + 1) 12 mn lv na (.ref wa) (.ref ta) .null (.ref lf) (.ref lo) rs (.ref bl) (.ref pa) va ∧ wa ∈ L ∧ ta ∈ L ∧ pa ∈ L ∧ lf ∈ L ∧ lo ∈ L ∧ F wa = .inl (kW, 13, .inr (.inr (.inr (.inr f)))) ∧ F ta = .inl (kT, 13, .inr (.inr (.inr (.inr (fun _ => none))))) ∧ F pa = .inl (kV, 13, .inr (.inr (.inr (.inr (fun _ => none))))) ∧ F lf = .inl (kI, 8, .inl gl) ∧ F lo = .inl (kI, 13, .inl (fun _ => 0)) ∧ lv ≤ 8 ∧ (∀ i : Nat, i < lv → ∃ s : Nat, gl i = nI s ∧ p < s ∧ s < m) ∧ chT L F fk f mn (p + 1) q' ∧ q' ≤ m ∧ (rs = .null ∨ ∃ t p' q2 : Nat, rs = .ref t ∧ q' ≤ p' ∧ q2 ≤ m ∧ isT L F fk 17 t p' q2) ∧ va ≤ 40 ∧ b ≤ 54 ∧ isN L F fk kE kI kS kB kA kV 40 1 bl m q 0 b mn va))
theorem isI_ex {L L2 : List Nat} {F F2 : Nat → va_E} {fk : Nat → Int32} {kE kI kS kB kA kV kW kT kP : ClassId} {a p m q : Nat} (hx : exS L F L2 F2) (h : isI L F fk kE kI kS kB kA kV kW kT kP a p m q) : isI L2 F2 fk kE kI kS kB kA kV kW kT kP a p m q := by
  obtain ⟨h1, h2, h3, mn, na, g, h4, h5, h6, h7, h8⟩ := h
  refine ⟨(hx a h1).1, h2, h3, mn, na, g, (hx na h4).1, (hx na h4).2.trans h5, h6, h7, ?_⟩
  rw [(hx a h1).2]
  rcases h8 with ⟨wa, ta, q', f, k1, k2, k3, k4, k5, k6, k7, k8⟩ | ⟨vr, q', f, k1, k2, k3, k4, k5, k6⟩ | ⟨lv, wa, ta, pa, lf, lo, q', va, b, bl, rs, f, gl, k1, k2, k3, k4, k5, k6, k7, k8, k9, l1, l2, l3, l4, l5, l6, l7, l8, l9, m1⟩
  · exact Or.inl ⟨wa, ta, q', f, k1, k2, (hx wa k3).1, (hx ta k4).1, (hx wa k3).2.trans k5, (hx ta k4).2.trans k6, k7, chT_im hx (fun _ _ => rfl) k8⟩
  · exact Or.inr (Or.inl ⟨vr, q', f, k1, k2, (hx vr k3).1, (hx vr k3).2.trans k4, k5, chV_im hx (fun _ _ => rfl) k6⟩)
  · refine Or.inr (Or.inr ⟨lv, wa, ta, pa, lf, lo, q', va, b, bl, rs, f, gl, k1, (hx wa k2).1, (hx ta k3).1, (hx pa k4).1, (hx lf k5).1, (hx lo k6).1, (hx wa k2).2.trans k7, (hx ta k3).2.trans k8, (hx pa k4).2.trans k9, (hx lf k5).2.trans l1, (hx lo k6).2.trans l2, l3, l4, chT_im hx (fun _ _ => rfl) l5, l6, ?_, l8, l9, isN_im hx _ (Nat.le_refl _) m1⟩)
    rcases l7 with l7 | ⟨t, p', q2, e1, e2, e3, e4⟩
    · exact Or.inl l7
    · exact Or.inr ⟨t, p', q2, e1, e2, e3, isT_ex hx e4⟩
/-- its row of parameters came behind the store L -/
def paN (F : Nat → va_E) (a : Nat) (L : List Nat) : Prop := ∀ (fs : List Value) (pa : Nat), F a = .inr (16, fs) → fs[17]? = some (.ref pa) → pa ∉ L
/-- items in a row; their rows of parameters are not the same -/
def chI (L : List Nat) (F : Nat → va_E) (fk : Nat → Int32) (kE kI kS kB kA kV kW kT kP : ClassId) (f : Nat → Option Nat) (n q : Nat) : Prop :=
  ∃ ps ms xs : Nat → Nat, ps 0 = 0 ∧ ps n = q ∧ (∀ i : Nat, i < n → f i = some (xs i) ∧ isI L F fk kE kI kS kB kA kV kW kT kP (xs i) (ps i) (ms i) (ps (i + 1))) ∧ ∀ i j pa : Nat, i < j → j < n → ∀ fs gs : List Value, F (xs i) = .inr (16, fs) → F (xs j) = .inr (16, gs) → fs[17]? = some (.ref pa) → gs[17]? = some (.ref pa) → False
theorem chI_0 {L : List Nat} {F : Nat → va_E} {fk : Nat → Int32} {kE kI kS kB kA kV kW kT kP : ClassId} {f : Nat → Option Nat} : chI L F fk kE kI kS kB kA kV kW kT kP f 0 0 := ⟨fun _ => 0, fun _ => 0, fun _ => 0, rfl, rfl, fun i hi => absurd hi (by omega), fun i j pa _ hj => absurd hj (by omega)⟩
theorem isI_pa {L : List Nat} {F : Nat → va_E} {fk : Nat → Int32} {kE kI kS kB kA kV kW kT kP : ClassId} {a p m q pa : Nat} {fs : List Value} (h : isI L F fk kE kI kS kB kA kV kW kT kP a p m q) (hF : F a = .inr (16, fs)) (hp : fs[17]? = some (.ref pa)) : pa ∈ L := by
  obtain ⟨h1, h2, h3, mn, na, g, h4, h5, h6, h7, h8⟩ := h
  rcases h8 with ⟨wa, ta, q', f, k1, _⟩ | ⟨vr, q', f, k1, _⟩ | ⟨lv, wa, ta, pa2, lf, lo, q', va, b, bl, rs, f, gl, k1, k2, k3, k4, _⟩
  · rw [k1] at hF; cases hF; cases hp
  · rw [k1] at hF; cases hF; cases hp
  · rw [k1] at hF; cases hF; cases hp; exact k4
theorem chI_add {L L2 : List Nat} {F F2 : Nat → va_E} {fk : Nat → Int32} {kE kI kS kB kA kV kW kT kP : ClassId} {f f2 : Nat → Option Nat} {n q x m q2 : Nat} (hx : exS L F L2 F2) (h : chI L F fk kE kI kS kB kA kV kW kT kP f n q) (hs : ∀ i : Nat, i < n → f2 i = f i) (hf : f2 n = some x) (hi : isI L2 F2 fk kE kI kS kB kA kV kW kT kP x q m q2) (hp : paN F2 x L) : chI L2 F2 fk kE kI kS kB kA kV kW kT kP f2 (n + 1) q2 := by
  obtain ⟨ps, ms, xs, g1, g2, g3, g4⟩ := h
  refine ⟨fun j => if j = n + 1 then q2 else ps j, fun j => if j = n then m else ms j, fun j => if j = n then x else xs j, (if_neg (by omega)).trans g1, if_pos rfl, fun i hi2 => ?_, fun i j pa hij hj fs gs e1 e2 e3 e4 => ?_⟩
  · dsimp only
    rw [if_neg (show i ≠ n + 1 by omega)]
    by_cases e : i = n
    · subst e
      rw [if_pos rfl, if_pos rfl, if_pos rfl, g2]
      exact ⟨hf, hi⟩
    · rw [if_neg e, if_neg e, if_neg (by omega), hs i (by omega)]
      obtain ⟨k1, k2⟩ := g3 i (by omega)
      exact ⟨k1, isI_ex hx k2⟩
  · dsimp only at e1 e2
    rw [if_neg (show i ≠ n by omega)] at e1
    obtain ⟨k1, k2⟩ := g3 i (by omega)
    rw [(hx _ k2.1).2] at e1
    by_cases e : j = n
    · rw [if_pos e] at e2
      exact hp gs pa e2 e4 (isI_pa k2 e1 e3)
    · rw [if_neg e] at e2
      rw [(hx _ (g3 j (by omega)).2.1).2] at e2
      exact g4 i j pa hij (by omega) fs gs e1 e2 e3 e4
end
-- j6.f.lean.txt
section
theorem isT_kd {L : List Nat} {F : Nat → va_E} {fk : Nat → Int32} : ∀ {n a p q : Nat}, isT L F fk n a p q → fk p = 26 ∨ fk p = 27 ∨ fk p = 25 ∨ fk p = 2 ∨ fk p = 23 ∨ fk p = 55
  | 0, _, _, _, h => h.elim
  | _ + 1, _, _, _, h => by
    rcases h.2 with ⟨_, h1 | h1 | h1 | h1, _⟩ | ⟨h1, _⟩ | ⟨h1, _⟩
    · exact Or.inl h1
    · exact Or.inr (Or.inl h1)
    · exact Or.inr (Or.inr (Or.inl h1))
    · exact Or.inr (Or.inr (Or.inr (Or.inl h1)))
    · exact Or.inr (Or.inr (Or.inr (Or.inr (Or.inl h1))))
    · exact Or.inr (Or.inr (Or.inr (Or.inr (Or.inr h1))))
def noT (k : Int32) : Prop := k ≠ 26 ∧ k ≠ 27 ∧ k ≠ 25 ∧ k ≠ 2 ∧ k ≠ 23 ∧ k ≠ 55
theorem noT_isT {L : List Nat} {F : Nat → va_E} {fk : Nat → Int32} {n a p q : Nat} (h : noT (fk p)) (g : isT L F fk n a p q) : False := by
  rcases isT_kd g with e | e | e | e | e | e
  · exact h.1 e
  · exact h.2.1 e
  · exact h.2.2.1 e
  · exact h.2.2.2.1 e
  · exact h.2.2.2.2.1 e
  · exact h.2.2.2.2.2 e
end
-- j7.a.lean.txt
section
def mT (mr : Nat → Nat) (mv : Nat → Int32) (vf : Value) (x_fault x_faultAt x_tokens x_itemMany x_typeMany x_main x_scopeMany x_variableMany : Int32) : List Value := [.ref (mr 0), .int (mv 1), .int (mv 2), .int x_fault, .int x_faultAt, .ref (mr 5), .ref (mr 6), .ref (mr 7), .ref (mr 8), .int x_tokens, .int (mv 10), .ref (mr 11), .int x_itemMany, .int (mv 13), .int (mv 14), .int (mv 15), .int (mv 16), .int (mv 17), .ref (mr 18), .int x_typeMany, .ref (mr 20), .int x_main, .ref (mr 22), .int x_scopeMany, .int x_variableMany, vf, .int (mv 26), .ref (mr 27), .ref (mr 28), .ref (mr 29), .ref (mr 30), .ref (mr 31), .ref (mr 32), .ref (mr 33), .ref (mr 34), .ref (mr 35), .ref (mr 36), .ref (mr 37), .ref (mr 38), .ref (mr 39), .ref (mr 40), .ref (mr 41), .ref (mr 42), .ref (mr 43), .ref (mr 44), .ref (mr 45), .ref (mr 46), .int (mv 47), .int (mv 48), .ref (mr 49), .int (mv 50), .ref (mr 51), .ref (mr 52), .ref (mr 53), .ref (mr 54), .ref (mr 55), .ref (mr 56), .int (mv 57), .ref (mr 58), .ref (mr 59), .ref (mr 60), .ref (mr 61), .ref (mr 62), .ref (mr 63), .int (mv 64), .int (mv 65), .int (mv 66), .ref (mr 67), .int (mv 68), .int (mv 69), .int (mv 70), .int (mv 71), .ref (mr 72), .int (mv 73), .ref (mr 74), .ref (mr 75), .int (mv 76), .int (mv 77), .ref (mr 78), .ref (mr 79), .ref (mr 80), .int (mv 81), .ref (mr 82), .int (mv 83), .int (mv 84), .ref (mr 85), .int (mv 86), .int (mv 87), .int (mv 88)]
theorem nI_sub (a b : Nat) : nI (a + b) - nI b = nI a := by
  rw [← nI_add]; exact Int32.add_sub_cancel _ _
theorem nI_sb {a b : Nat} (h : b ≤ a) : nI a - nI b = nI (a - b) := by
  have := nI_sub (a - b) b
  rw [show a - b + b = a by omega] at this; exact this
/-- where a token lies -/
theorem tk_pl {fk fa fe : Nat → Int32} {T zs : Nat} (h : tkF fk fa fe T zs) {j : Nat} (hj : j < T) : ∃ a b : Nat, fa j = nI a ∧ fe j = nI b ∧ a ≤ b ∧ b ≤ zs := by
  obtain ⟨h1, h2, ⟨a, b, h3, h4⟩, h5, h6, h7⟩ := h
  rcases Nat.lt_or_ge j (T - 1) with z | z
  · obtain ⟨g1, g2, g3, g4, g5⟩ := h3 j z
    exact ⟨a j, b j, g1, g2, by omega, g4⟩
  · obtain rfl : j = T - 1 := by omega
    exact ⟨zs, zs, h6, h7, Nat.le_refl _, Nat.le_refl _⟩
/-- the table of types: t lies at ad t; Y t: kind, index, what it is of -/
def tyW (L : List Nat) (F : Nat → va_E) (fy : Nat → Option Nat) (tm : Nat) (Y : Nat → Int32 × Int32 × Option Nat) (ad : Nat → Nat) : Prop :=
  (∀ t : Nat, t < tm → fy t = some (ad t) ∧ ad t ∈ L ∧ F (ad t) = .inr (20, [.int (Y t).1, .int (Y t).2.1, .int (nI t), va_rf (Y t).2.2]) ∧ ((Y t).2.2 = none ∨ ∃ u : Nat, u < t ∧ (Y t).2.2 = some (ad u))) ∧ ∀ t u : Nat, t < tm → u < tm → Y t = Y u → t = u
theorem tyW_ex {L L2 : List Nat} {F F2 : Nat → va_E} {fy : Nat → Option Nat} {tm : Nat} {Y : Nat → Int32 × Int32 × Option Nat} {ad : Nat → Nat} (hx : exS L F L2 F2) (h : tyW L F fy tm Y ad) : tyW L2 F2 fy tm Y ad :=
  ⟨fun t ht => by obtain ⟨h1, h2, h3, h4⟩ := h.1 t ht; exact ⟨h1, (hx _ h2).1, (hx _ h2).2.trans h3, h4⟩, h.2⟩
/-- 0: the plain type of this kind is in the table; else 1 -/
def plY (Y : Nat → Int32 × Int32 × Option Nat) : Nat → Int32 → Nat
  | 0, _ => 1
  | n + 1, kd => if (Y n).1 = kd ∧ (Y n).2.1 = 0 ∧ (Y n).2.2 = none then 0 else plY Y n kd
theorem plY_le {Y : Nat → Int32 × Int32 × Option Nat} {kd : Int32} : ∀ n : Nat, plY Y n kd ≤ 1
  | 0 => Nat.le_refl _
  | n + 1 => by
    show (if _ then 0 else plY Y n kd) ≤ 1
    split
    · omega
    · exact plY_le n
theorem plY_s {Y : Nat → Int32 × Int32 × Option Nat} {n : Nat} {kd : Int32} : plY Y (n + 1) kd ≤ plY Y n kd := by
  show (if _ then 0 else plY Y n kd) ≤ _
  split
  · exact Nat.zero_le _
  · exact Nat.le_refl _
theorem plY_in {Y : Nat → Int32 × Int32 × Option Nat} {kd : Int32} : ∀ {n : Nat}, (∀ t : Nat, t < n → ¬ Y t = (kd, 0, none)) → plY Y n kd = 1
  | 0, _ => rfl
  | n + 1, h => by
    show (if _ then 0 else plY Y n kd) = 1
    rw [if_neg (fun q => h n (Nat.lt_succ_self n) (by rw [← q.1, ← q.2.1, ← q.2.2]))]
    exact plY_in (fun t ht => h t (by omega))
theorem plY_eq {Y Y2 : Nat → Int32 × Int32 × Option Nat} {kd : Int32} : ∀ {n : Nat}, (∀ t : Nat, t < n → Y2 t = Y t) → plY Y2 n kd = plY Y n kd
  | 0, _ => rfl
  | n + 1, h => by
    show (if _ then 0 else plY Y2 n kd) = if _ then 0 else plY Y n kd
    rw [h n (Nat.lt_succ_self n), plY_eq (fun t ht => h t (by omega))]
/-- types, and the plain ones that may still come -/
def ptN (Y : Nat → Int32 × Int32 × Option Nat) (tm : Nat) : Nat := tm + (plY Y tm 0) + (plY Y tm 1) + (plY Y tm 2) + (plY Y tm 8)
end
-- j7.d.lean.txt
section
theorem tyW_new {L L2 : List Nat} {F F2 : Nat → va_E} {fy : Nat → Option Nat} {tm : Nat} {Y : Nat → Int32 × Int32 × Option Nat} {ad : Nat → Nat} {q : Nat} {kd ix : Int32} {o : Option Nat} (hx : exS L F L2 F2) (h : tyW L F fy tm Y ad) (hq : q ∈ L2) (hF : F2 q = .inr (20, [.int kd, .int ix, .int (nI tm), va_rf o])) (ho : o = none ∨ ∃ u : Nat, u < tm ∧ o = some (ad u)) (hn : ∀ t : Nat, t < tm → ¬ Y t = (kd, ix, o)) : tyW L2 F2 (va_up fy tm (some q)) (tm + 1) (fun t => if t = tm then (kd, ix, o) else Y t) (fun t => if t = tm then q else ad t) := by
  refine ⟨fun t ht => ?_, fun t u ht hu => ?_⟩
  · dsimp only
    by_cases e : t = tm
    · subst e
      rw [if_pos rfl, if_pos rfl]
      refine ⟨vu_s, hq, hF, ho.elim Or.inl (fun ⟨u, h1, h2⟩ => Or.inr ⟨u, h1, ?_⟩)⟩
      rw [if_neg (by omega)]; exact h2
    · rw [if_neg e, if_neg e, vu_n e]
      obtain ⟨h1, h2, h3, h4⟩ := h.1 t (by omega)
      refine ⟨h1, (hx _ h2).1, (hx _ h2).2.trans h3, h4.elim Or.inl (fun ⟨u, g1, g2⟩ => Or.inr ⟨u, g1, ?_⟩)⟩
      rw [if_neg (by omega)]; exact g2
  · dsimp only
    by_cases e : t = tm
    · by_cases e2 : u = tm
      · intro _; omega
      · rw [if_pos e, if_neg e2]; intro q9; exact absurd q9.symm (hn u (by omega))
    · by_cases e2 : u = tm
      · rw [if_neg e, if_pos e2]; intro q9; exact absurd q9 (hn t (by omega))
      · rw [if_neg e, if_neg e2]; exact h.2 t u (by omega) (by omega)
theorem ptN_new {Y : Nat → Int32 × Int32 × Option Nat} {tm : Nat} {kd ix : Int32} {o : Option Nat} (hn : ∀ t : Nat, t < tm → ¬ Y t = (kd, ix, o)) : ptN (fun t => if t = tm then (kd, ix, o) else Y t) (tm + 1) ≤ ptN Y tm + 1 ∧ (ix = 0 → o = none → kd = 0 ∨ kd = 1 ∨ kd = 2 ∨ kd = 8 → ptN (fun t => if t = tm then (kd, ix, o) else Y t) (tm + 1) ≤ ptN Y tm) := by
  have hY : ∀ k : Int32, plY (fun t => if t = tm then (kd, ix, o) else Y t) (tm + 1) k ≤ plY Y tm k := fun k => by
    refine Nat.le_trans plY_s (Nat.le_of_eq (plY_eq (fun t ht => if_neg (by omega))))
  have hp : ix = 0 → o = none → plY (fun t => if t = tm then (kd, ix, o) else Y t) (tm + 1) kd = 0 ∧ plY Y tm kd = 1 := fun h1 h2 => by
    subst h1; subst h2
    refine ⟨?_, plY_in hn⟩
    have e : (fun t => if t = tm then (kd, (0 : Int32), (none : Option Nat)) else Y t) tm = (kd, 0, none) := if_pos rfl
    exact if_pos ⟨congrArg Prod.fst e, congrArg (fun z => z.2.1) e, congrArg (fun z => z.2.2) e⟩
  unfold ptN
  have h0 := hY 0; have h1 := hY 1; have h2 := hY 2; have h8 := hY 8
  refine ⟨by omega, fun a b c => ?_⟩
  have hp := hp a b
  rcases c with c | c | c | c <;> rw [c] at hp ⊢ <;> rw [c] at h0 h1 h2 h8 <;> omega
theorem vr_nar {C : String} (o : Option Nat) : narrow (.object C) (va_rf o) = va_rf o := by cases o <;> rfl
theorem vr_fit {C : String} (o : Option Nat) : fits (.object C) (va_rf o) = true := by cases o <;> rfl
end
-- j7.f.lean.txt
section
/-- what a row holds -/
abbrev vRw : Type := (Nat → Int32) ⊕ (Nat → Int64) ⊕ (Nat → UInt32) ⊕ (Nat → UInt64) ⊕ (Nat → Option Nat)
/-- fields that the typing, the laying and the passes write -/
def mtF (c k : Nat) : Bool := (c == 15 && (k == 4 || k == 5 || k == 12 || k == 13)) || (c == 19 && k == 8) || (c == 13 && k == 1) || (c == 16 && (k == 4 || k == 5 || k == 7 || k == 15 || k == 19 || k == 20 || k == 21)) || (c == 21 && (k == 2 || k == 4))
/-- a row that was blank when it was read may hold anything -/
def blk : vRw → vRw → Prop
  | .inl g, .inl _ => ∀ i : Nat, g i = 0
  | .inr (.inr (.inr (.inr h))), .inr (.inr (.inr (.inr _))) => ∀ i : Nat, h i = none
  | _, _ => False
/-- what lies there now (y) is as it was read (x), but for what may be written -/
def cs : va_E → va_E → Prop
  | .inr (c, fs), .inr (d, gs) => c = d ∧ gs.length = fs.length ∧ ∀ k : Nat, mtF c k = false → gs[k]? = fs[k]?
  | .inl (k, n, f), .inl (k2, n2, f2) => k2 = k ∧ n2 = n ∧ (f2 = f ∨ blk f f2)
  | _, _ => False
theorem cs_rf : ∀ x : va_E, cs x x
  | .inr _ => ⟨rfl, rfl, fun _ _ => rfl⟩
  | .inl _ => ⟨rfl, rfl, Or.inl rfl⟩
def rl (L : List Nat) (F G : Nat → va_E) : Prop := ∀ a ∈ L, cs (G a) (F a)
theorem rl_ob {L : List Nat} {F G : Nat → va_E} {a c : Nat} {fs : List Value} (h : rl L F G) (ha : a ∈ L) (hG : G a = .inr (c, fs)) : ∃ gs : List Value, F a = .inr (c, gs) ∧ gs.length = fs.length ∧ ∀ k : Nat, mtF c k = false → gs[k]? = fs[k]? := by
  have h1 := h a ha
  rw [hG] at h1
  cases e : F a with
  | inl x => rw [e] at h1; exact h1.elim
  | inr x =>
    obtain ⟨d, gs⟩ := x
    rw [e] at h1
    obtain ⟨rfl, h2, h3⟩ := h1
    exact ⟨gs, rfl, h2, h3⟩
theorem rl_ro {L : List Nat} {F G : Nat → va_E} {a n : Nat} {k : ClassId} {f : vRw} (h : rl L F G) (ha : a ∈ L) (hG : G a = .inl (k, n, f)) : ∃ f2 : vRw, F a = .inl (k, n, f2) ∧ (f2 = f ∨ blk f f2) := by
  have h1 := h a ha
  rw [hG] at h1
  cases e : F a with
  | inr x => rw [e] at h1; exact h1.elim
  | inl x =>
    obtain ⟨k2, n2, f2⟩ := x
    rw [e] at h1
    obtain ⟨rfl, rfl, h3⟩ := h1
    exact ⟨f2, rfl, h3⟩
theorem rl_ri {L : List Nat} {F G : Nat → va_E} {a n i : Nat} {k : ClassId} {g : Nat → Int32} (h : rl L F G) (ha : a ∈ L) (hG : G a = .inl (k, n, .inl g)) (hi : g i ≠ 0) : F a = .inl (k, n, .inl g) := by
  obtain ⟨f2, h1, h2 | h2⟩ := rl_ro h ha hG
  · rw [h1, h2]
  · cases f2 with
    | inl g2 => exact absurd (h2 i) hi
    | inr _ => exact h2.elim
theorem rl_rr {L : List Nat} {F G : Nat → va_E} {a n i x : Nat} {k : ClassId} {g : Nat → Option Nat} (h : rl L F G) (ha : a ∈ L) (hG : G a = .inl (k, n, .inr (.inr (.inr (.inr g))))) (hi : g i = some x) : F a = .inl (k, n, .inr (.inr (.inr (.inr g)))) := by
  obtain ⟨f2, h1, h2 | h2⟩ := rl_ro h ha hG
  · rw [h1, h2]
  · match f2, h2 with
    | .inr (.inr (.inr (.inr g2))), h2 => exact absurd (h2 i) (by rw [hi]; exact fun q => by cases q)
/-- a blank row of references, as it is now -/
theorem rl_rb {L : List Nat} {F G : Nat → va_E} {a n : Nat} {k : ClassId} {g : Nat → Option Nat} (h : rl L F G) (ha : a ∈ L) (hG : G a = .inl (k, n, .inr (.inr (.inr (.inr g))))) : ∃ g2 : Nat → Option Nat, F a = .inl (k, n, .inr (.inr (.inr (.inr g2)))) := by
  obtain ⟨f2, h1, h2 | h2⟩ := rl_ro h ha hG
  · exact ⟨g, by rw [h1, h2]⟩
  · match f2, h2, h1 with
    | .inr (.inr (.inr (.inr g2))), _, h1 => exact ⟨g2, h1⟩
theorem rl_rz {L : List Nat} {F G : Nat → va_E} {a n : Nat} {k : ClassId} {g : Nat → Int32} (h : rl L F G) (ha : a ∈ L) (hG : G a = .inl (k, n, .inl g)) : ∃ g2 : Nat → Int32, F a = .inl (k, n, .inl g2) := by
  obtain ⟨f2, h1, h2 | h2⟩ := rl_ro h ha hG
  · exact ⟨g, by rw [h1, h2]⟩
  · cases f2 with
    | inl g2 => exact ⟨g2, h1⟩
    | inr _ => exact h2.elim
/-- one cell is written -/
theorem rl_up {L : List Nat} {F G : Nat → va_E} {a : Nat} {x : va_E} (h : rl L F G) (hx : cs (G a) x) : rl L (updE F a x) G := fun b hb => by
  by_cases e : b = a
  · subst e; rw [updE_s]; exact hx
  · rw [updE_n e]; exact h b hb
theorem cs_put {c k : Nat} {gs : List Value} {v : Value} {x : va_E} (h : cs x (.inr (c, gs))) (hk : mtF c k = true) : cs x (.inr (c, gs.set k v)) := by
  match x, h with
  | .inr (d, fs), ⟨h1, h2, h3⟩ =>
    subst h1
    refine ⟨rfl, by rw [List.length_set]; exact h2, fun j hj => ?_⟩
    rw [List.getElem?_set_ne (fun e => by subst e; rw [hk] at hj; cases hj)]
    exact h3 j hj
/-- the store grows: the reading grows with it -/
def grG (L : List Nat) (G F : Nat → va_E) : Nat → va_E := fun a => if a ∈ L then G a else F a
theorem grG_ex {L L2 : List Nat} {F F2 G : Nat → va_E} (hx : exS L F L2 F2) : exS L G L2 (grG L G F2) := fun a ha => ⟨(hx a ha).1, if_pos ha⟩
theorem grG_rl {L L2 : List Nat} {F F2 G : Nat → va_E} (hx : exS L F L2 F2) (h : rl L F G) : rl L2 F2 (grG L G F2) := fun a ha => by
  unfold grG
  by_cases e : a ∈ L
  · rw [if_pos e, (hx a e).2]; exact h a e
  · rw [if_neg e]; exact cs_rf _
end
-- j7.g.lean.txt
section
/-- a type of the table is one: plain, an item's, or of another -/
def yOK (im : Nat) (ik : Nat → Int32) (y : Int32 × Int32 × Option Nat) : Prop :=
  ((y.1 = 0 ∨ y.1 = 1 ∨ y.1 = 2 ∨ y.1 = 8) ∧ y.2.1 = 0 ∧ y.2.2 = none) ∨ (y.1 = 3 ∧ (∃ i : Nat, i < im ∧ y.2.1 = nI i ∧ ik i = 10) ∧ y.2.2 = none) ∨ (y.1 = 4 ∧ (∃ i : Nat, i < im ∧ y.2.1 = nI i ∧ ik i = 11) ∧ y.2.2 = none) ∨ ((y.1 = 5 ∨ y.1 = 6 ∨ y.1 = 7) ∧ y.2.1 = 0 ∧ ∃ a : Nat, y.2.2 = some a)
/-- the items as they were read: their addresses, tokens, kinds -/
def itD (L : List Nat) (G : Nat → va_E) (fk : Nat → Int32) (kE kI kS kB kA kV kW kT kP : ClassId) (fi : Nat → Option Nat) (im : Nat) (xI ps ms : Nat → Nat) (ik : Nat → Int32) (qz : Nat) : Prop :=
  im ≤ 70 ∧ ps 0 = 0 ∧ ps im = qz ∧ (∀ i : Nat, i < im → fi i = some (xI i) ∧ isI L G fk kE kI kS kB kA kV kW kT kP (xI i) (ps i) (ms i) (ps (i + 1)) ∧ (∃ fs : List Value, G (xI i) = .inr (16, fs) ∧ fs[2]? = some (.int (ik i)))) ∧ ∀ i j pa : Nat, i < j → j < im → ∀ fs gs : List Value, G (xI i) = .inr (16, fs) → G (xI j) = .inr (16, gs) → fs[17]? = some (.ref pa) → gs[17]? = some (.ref pa) → False
theorem itD_ex {L L2 : List Nat} {G G2 : Nat → va_E} {fk : Nat → Int32} {kE kI kS kB kA kV kW kT kP : ClassId} {fi : Nat → Option Nat} {im : Nat} {xI ps ms : Nat → Nat} {ik : Nat → Int32} {qz : Nat} (hx : exS L G L2 G2) (h : itD L G fk kE kI kS kB kA kV kW kT kP fi im xI ps ms ik qz) : itD L2 G2 fk kE kI kS kB kA kV kW kT kP fi im xI ps ms ik qz := by
  refine ⟨h.1, h.2.1, h.2.2.1, fun i hi => ?_, fun i j pa hij hj fs gs e1 e2 => ?_⟩
  · obtain ⟨h1, h2, fs, h3, h4⟩ := h.2.2.2.1 i hi
    exact ⟨h1, isI_ex hx h2, fs, (hx _ h2.1).2.trans h3, h4⟩
  · rw [(hx _ (h.2.2.2.1 i (by omega)).2.1.1).2] at e1
    rw [(hx _ (h.2.2.2.1 j hj).2.1.1).2] at e2
    exact h.2.2.2.2 i j pa hij hj fs gs e1 e2
theorem itD_ps {L : List Nat} {G : Nat → va_E} {fk : Nat → Int32} {kE kI kS kB kA kV kW kT kP : ClassId} {fi : Nat → Option Nat} {im : Nat} {xI ps ms : Nat → Nat} {ik : Nat → Int32} {qz : Nat} (h : itD L G fk kE kI kS kB kA kV kW kT kP fi im xI ps ms ik qz) : ∀ d i : Nat, i + d = im → ps i ≤ qz
  | 0, i, e => by rw [show i = im by omega, h.2.2.1]; exact Nat.le_refl _
  | d + 1, i, e => by
    have h1 := itD_ps h d (i + 1) (by omega)
    obtain ⟨_, h2, _⟩ := h.2.2.2.1 i (by omega)
    have := h2.2.1; have := h2.2.2.1
    omega
theorem itD_of {L : List Nat} {G : Nat → va_E} {fk : Nat → Int32} {kE kI kS kB kA kV kW kT kP : ClassId} {fi : Nat → Option Nat} {im qz : Nat} (hm : im ≤ 70) (h : chI L G fk kE kI kS kB kA kV kW kT kP fi im qz) : ∃ (xI ps ms : Nat → Nat) (ik : Nat → Int32), itD L G fk kE kI kS kB kA kV kW kT kP fi im xI ps ms ik qz := by
  obtain ⟨ps, ms, xs, h1, h2, h3, h0⟩ := h
  have hk : ∀ i : Nat, ∃ z : Int32, i < im → fi i = some (xs i) ∧ isI L G fk kE kI kS kB kA kV kW kT kP (xs i) (ps i) (ms i) (ps (i + 1)) ∧ ∃ fs : List Value, G (xs i) = .inr (16, fs) ∧ fs[2]? = some (.int z) := fun i => by
    by_cases hi : i < im
    · obtain ⟨g1, g2⟩ := h3 i hi
      have g3 := g2
      obtain ⟨_, _, _, mn, na, g, _, _, _, _, h8⟩ := g3
      rcases h8 with ⟨wa, ta, q', f, k1, _⟩ | ⟨vr, q', f, k1, _⟩ | ⟨lv, wa, ta, pa, lf, lo, q', va, b, bl, rs, f, gl, k1, _⟩
      · exact ⟨10, fun _ => ⟨g1, g2, _, k1, rfl⟩⟩
      · exact ⟨11, fun _ => ⟨g1, g2, _, k1, rfl⟩⟩
      · exact ⟨12, fun _ => ⟨g1, g2, _, k1, rfl⟩⟩
    · exact ⟨0, fun q => absurd q hi⟩
  exact ⟨xs, ps, ms, fun i => Classical.choose (hk i), hm, h1, h2, fun i hi => Classical.choose_spec (hk i) hi, h0⟩
/-- the typing's state -/
def tgd (L : List Nat) (F G : Nat → va_E) (fk fa fe : Nat → Int32) (T zs : Nat) (kE kI kS kB kA kV kW kT kP : ClassId) (fi : Nat → Option Nat) (im : Nat) (xI ps ms : Nat → Nat) (ik : Nat → Int32) (qz : Nat) (fy : Nat → Option Nat) (tm : Nat) (Y : Nat → Int32 × Int32 × Option Nat) (ad : Nat → Nat) : Prop :=
  (tkF fk fa fe T zs ∧ zs ≤ 3000 ∧ qz < T) ∧ rl L F G ∧ itD L G fk kE kI kS kB kA kV kW kT kP fi im xI ps ms ik qz ∧ tyW L G fy tm Y ad ∧ ∀ t : Nat, t < tm → yOK im ik (Y t)
/-- what was read, and the table of types, have only grown -/
def tX (L : List Nat) (G : Nat → va_E) (tm : Nat) (Y : Nat → Int32 × Int32 × Option Nat) (ad : Nat → Nat) (L2 : List Nat) (G2 : Nat → va_E) (tm2 : Nat) (Y2 : Nat → Int32 × Int32 × Option Nat) (ad2 : Nat → Nat) : Prop := exS L G L2 G2 ∧ tm ≤ tm2 ∧ ∀ t : Nat, t < tm → Y2 t = Y t ∧ ad2 t = ad t
theorem tX.rf {L : List Nat} {G : Nat → va_E} {tm : Nat} {Y : Nat → Int32 × Int32 × Option Nat} {ad : Nat → Nat} : tX L G tm Y ad L G tm Y ad := ⟨exS.rf, Nat.le_refl _, fun _ _ => ⟨rfl, rfl⟩⟩
theorem tX.tr {L L1 L2 : List Nat} {G G1 G2 : Nat → va_E} {tm tm1 tm2 : Nat} {Y Y1 Y2 : Nat → Int32 × Int32 × Option Nat} {ad ad1 ad2 : Nat → Nat} (h : tX L G tm Y ad L1 G1 tm1 Y1 ad1) (g : tX L1 G1 tm1 Y1 ad1 L2 G2 tm2 Y2 ad2) : tX L G tm Y ad L2 G2 tm2 Y2 ad2 :=
  ⟨h.1.tr g.1, Nat.le_trans h.2.1 g.2.1, fun t ht => ⟨(g.2.2 t (Nat.lt_of_lt_of_le ht h.2.1)).1.trans (h.2.2 t ht).1, (g.2.2 t (Nat.lt_of_lt_of_le ht h.2.1)).2.trans (h.2.2 t ht).2⟩⟩
theorem ptN_ge {Y : Nat → Int32 × Int32 × Option Nat} {tm : Nat} : tm ≤ ptN Y tm := by unfold ptN; omega
/-- a class without fields that may be written -/
theorem rl_st {L : List Nat} {F G : Nat → va_E} {a c : Nat} {fs : List Value} (h : rl L F G) (ha : a ∈ L) (hG : G a = .inr (c, fs)) (hc : ∀ k : Nat, mtF c k = false) : F a = .inr (c, fs) := by
  obtain ⟨gs, h1, h2, h3⟩ := rl_ob h ha hG
  rw [h1, show gs = fs from List.ext_getElem? (fun k => h3 k (hc k))]
theorem mtF_20 (k : Nat) : mtF 20 k = false := rfl
theorem mtF_22 (k : Nat) : mtF 22 k = false := rfl
theorem tyW_rl {L : List Nat} {F G : Nat → va_E} {fy : Nat → Option Nat} {tm : Nat} {Y : Nat → Int32 × Int32 × Option Nat} {ad : Nat → Nat} (hr : rl L F G) (h : tyW L G fy tm Y ad) : tyW L F fy tm Y ad :=
  ⟨fun t ht => by obtain ⟨h1, h2, h3, h4⟩ := h.1 t ht; exact ⟨h1, h2, rl_st hr h2 h3 mtF_20, h4⟩, h.2⟩
theorem tyW_lr {L L2 : List Nat} {F F2 G : Nat → va_E} {fy : Nat → Option Nat} {tm : Nat} {Y : Nat → Int32 × Int32 × Option Nat} {ad : Nat → Nat} (hx : exS L F L2 F2) (hr : rl L F G) (h : tyW L2 F2 fy tm Y ad) : tyW L2 (grG L G F2) fy tm Y ad := by
  refine ⟨fun t ht => ?_, h.2⟩
  obtain ⟨h1, h2, h3, h4⟩ := h.1 t ht
  refine ⟨h1, h2, ?_, h4⟩
  unfold grG
  by_cases e : ad t ∈ L
  · rw [if_pos e]
    have g1 := hr _ e
    rw [← (hx _ e).2, h3] at g1
    cases eG : G (ad t) with
    | inl x => rw [eG] at g1; exact g1.elim
    | inr x =>
      obtain ⟨c, fs⟩ := x
      rw [eG] at g1
      obtain ⟨rfl, g2, g3⟩ := g1
      rw [show fs = _ from (List.ext_getElem? (fun k => g3 k (mtF_20 k))).symm]
  · rw [if_neg e]; exact h3
theorem tgd_ty {L L2 : List Nat} {F F2 G : Nat → va_E} {fk fa fe : Nat → Int32} {T zs : Nat} {kE kI kS kB kA kV kW kT kP : ClassId} {fi : Nat → Option Nat} {im : Nat} {xI ps ms : Nat → Nat} {ik : Nat → Int32} {qz : Nat} {fy fy2 : Nat → Option Nat} {tm tm2 : Nat} {Y Y2 : Nat → Int32 × Int32 × Option Nat} {ad ad2 : Nat → Nat} (h : tgd L F G fk fa fe T zs kE kI kS kB kA kV kW kT kP fi im xI ps ms ik qz fy tm Y ad) (hx : exS L F L2 F2) {t2 : Nat} (h1 : tm2 = tm ∨ (tm2 = tm + 1 ∧ t2 = tm)) (h2 : ∀ t : Nat, t < tm → Y2 t = Y t ∧ ad2 t = ad t) (h3 : tyW L2 F2 fy2 tm2 Y2 ad2) {y : Int32 × Int32 × Option Nat} (h4 : t2 < tm2 ∧ Y2 t2 = y) (hy : yOK im ik y) : tgd L2 F2 (grG L G F2) fk fa fe T zs kE kI kS kB kA kV kW kT kP fi im xI ps ms ik qz fy2 tm2 Y2 ad2 ∧ tX L G tm Y ad L2 (grG L G F2) tm2 Y2 ad2 := by
  have hg : exS L G L2 (grG L G F2) := grG_ex hx
  refine ⟨⟨h.1, grG_rl hx h.2.1, itD_ex hg h.2.2.1, tyW_lr hx h.2.1 h3, fun t ht => ?_⟩, hg, by omega, h2⟩
  by_cases e : t < tm
  · rw [(h2 t e).1]; exact h.2.2.2.2 t e
  · rw [show t = t2 by omega, h4.2]; exact hy
end
-- j7.h.lean.txt
section
theorem it_nm {L : List Nat} {F G : Nat → va_E} {fk fa fe : Nat → Int32} {T zs : Nat} {kE kI kS kB kA kV kW kT kP : ClassId} {fi : Nat → Option Nat} {im : Nat} {xI ps ms : Nat → Nat} {ik : Nat → Int32} {qz : Nat} {fy : Nat → Option Nat} {tm : Nat} {Y : Nat → Int32 × Int32 × Option Nat} {ad : Nat → Nat} (h : tgd L F G fk fa fe T zs kE kI kS kB kA kV kW kT kP fi im xI ps ms ik qz fy tm Y ad) {i : Nat} (hi : i < im) : xI i ∈ L ∧ ps i + 1 < T ∧ fi i = some (xI i) ∧ (ik i = 10 ∨ ik i = 11 ∨ ik i = 12) ∧ ∃ gs : List Value, F (xI i) = .inr (16, gs) ∧ gs[1]? = some (.int (nI (ps i + 1))) ∧ gs[2]? = some (.int (ik i)) := by
  obtain ⟨h1, h2, fs, h3, h4⟩ := h.2.2.1.2.2.2.1 i hi
  have hq : ps (i + 1) ≤ qz := itD_ps h.2.2.1 (im - (i + 1)) (i + 1) (by omega)
  have hT := h.1.2.2
  have h5 := h2.2.1; have h6 := h2.2.2.1
  obtain ⟨gs, g1, g2, g3⟩ := rl_ob h.2.1 h2.1 h3
  refine ⟨h2.1, by omega, h1, ?_, gs, g1, ?_, (g3 2 rfl).trans h4⟩
  · obtain ⟨_, _, _, mn, na, g, _, _, _, _, h8⟩ := h2
    rcases h8 with ⟨wa, ta, q', f, k1, _⟩ | ⟨vr, q', f, k1, _⟩ | ⟨lv, wa, ta, pa, lf, lo, q', va, b, bl, rs, f, gl, k1, _⟩ <;> (rw [k1] at h3; cases h3)
    · exact Or.inl (Value.int.inj (Option.some.inj h4)).symm
    · exact Or.inr (Or.inl (Value.int.inj (Option.some.inj h4)).symm)
    · exact Or.inr (Or.inr (Value.int.inj (Option.some.inj h4)).symm)
  · rw [g3 1 rfl]
    obtain ⟨_, _, _, mn, na, g, _, _, _, _, h8⟩ := h2
    rcases h8 with ⟨wa, ta, q', f, k1, _⟩ | ⟨vr, q', f, k1, _⟩ | ⟨lv, wa, ta, pa, lf, lo, q', va, b, bl, rs, f, gl, k1, _⟩ <;> (rw [k1] at h3; cases h3; rfl)
end
-- j7.l.lean.txt
section
theorem isT_c {L : List Nat} {F : Nat → va_E} {fk : Nat → Int32} {n a p q : Nat} (h : isT L F fk (n + 1) a p q) : a ∈ L ∧ ∃ vs : List Value, F a = .inr (22, vs) ∧ vs[0]? = some (.int (fk p)) ∧ vs[1]? = some (.int (nI p)) := by
  refine ⟨h.1, ?_⟩
  rcases h.2 with ⟨h1, _⟩ | ⟨_, o, h1, _⟩ | ⟨_, o, p', mu, lf, h1, _⟩ <;> exact ⟨_, h1, rfl, rfl⟩
theorem isT_23 {L : List Nat} {F : Nat → va_E} {fk : Nat → Int32} {n a p q : Nat} (h : isT L F fk (n + 1) a p q) (hk : fk p = 23) : ∃ (o : Nat) (vs : List Value), F a = .inr (22, vs) ∧ vs[4]? = some (.ref o) ∧ isT L F fk n o (p + 1) q := by
  rcases h.2 with ⟨_, h1, _⟩ | ⟨_, o, h1, h2⟩ | ⟨h1, _⟩
  · rcases h1 with h1 | h1 | h1 | h1 <;> exact absurd (h1.symm.trans hk) (by decide)
  · exact ⟨o, _, h1, rfl, h2⟩
  · exact absurd (h1.symm.trans hk) (by decide)
theorem isT_55 {L : List Nat} {F : Nat → va_E} {fk : Nat → Int32} {n a p q : Nat} (h : isT L F fk (n + 1) a p q) (hk : fk p = 55) : ∃ (o p' : Nat) (mu lf : Int32) (vs : List Value), F a = .inr (22, vs) ∧ vs[2]? = some (.int mu) ∧ vs[3]? = some (.int lf) ∧ vs[4]? = some (.ref o) ∧ p < p' ∧ (mu = 0 ∨ mu = 1) ∧ (lf = -1 ∨ lf = nI (p + 1)) ∧ isT L F fk n o p' q := by
  rcases h.2 with ⟨_, h1, _⟩ | ⟨h1, _⟩ | ⟨_, o, p', mu, lf, h1, h2, h3, h4, h5⟩
  · rcases h1 with h1 | h1 | h1 | h1 <;> exact absurd (h1.symm.trans hk) (by decide)
  · exact absurd (h1.symm.trans hk) (by decide)
  · exact ⟨o, p', mu, lf, _, h1, rfl, rfl, rfl, h2, h3, h4, h5⟩
end
-- j8.a.lean.txt
section
/-- a cell that was taken out of the store goes back, changed -/
theorem va_P.bk {D : va_G} {cl : List vw_C} {f : va_W} {L : List Nat} {F : Nat → va_E} {H : Heap} {a : Nat} {c : va_E} (ha : a ∈ L) (h : va_P D cl ((f ++ [(a, c)]) ++ sT (L.erase a) F) H) : va_P D cl (f ++ sT L (updE F a c)) H :=
  h.turn (fun q hq => by
    rcases List.mem_append.mp hq with hq | hq
    · exact List.mem_append_left _ (List.mem_append_left _ hq)
    · obtain ⟨b, hb, rfl⟩ := List.mem_map.mp hq
      by_cases e : b = a
      · subst e; rw [updE_s]; exact List.mem_append_left _ (List.mem_append_right _ (List.mem_singleton.mpr rfl))
      · rw [updE_n e]; exact List.mem_append_right _ (sT_mem ((List.mem_erase_of_ne e).mpr hb)))
theorem va_D.bk {A : Nat → Prop} {f : va_W} {L : List Nat} {F : Nat → va_E} {a : Nat} {c : va_E} (ha : a ∈ L) (h : va_D A ((f ++ [(a, c)]) ++ sT (L.erase a) F)) : va_D A (f ++ sT L (updE F a c)) := by
  have hn := h.nin
  refine h.perm ?_
  rw [List.append_assoc]
  refine List.Perm.append_left f ?_
  have e : ([(a, c)] : va_W) ++ sT (L.erase a) F = sT (a :: L.erase a) (updE F a c) := by
    show (a, c) :: sT (L.erase a) F = (a, updE F a c a) :: sT (L.erase a) (updE F a c)
    rw [updE_s, sT_upd hn]
  rw [e]
  exact ((List.perm_cons_erase ha).map (fun b => (b, updE F a c b))).symm
theorem mem_er {L : List Nat} {F : Nat → va_E} {a b : Nat} (hb : b ∈ L) (h : F b ≠ F a) : b ∈ L.erase a := (List.mem_erase_of_ne (fun e => h (by rw [e]))).mpr hb
/-- an entry of a blank row is written -/
theorem cs_ro {n : Nat} {k : ClassId} {f f3 : Nat → Option Nat} {x : va_E} (hx : x = .inl (k, n, .inr (.inr (.inr (.inr f))))) (hf : ∀ i : Nat, f i = none) : cs x (.inl (k, n, .inr (.inr (.inr (.inr f3))))) := by
  subst hx; exact ⟨rfl, rfl, Or.inr hf⟩
theorem cs_ri {n : Nat} {k : ClassId} {f f3 : Nat → Int32} {x : va_E} (hx : x = .inl (k, n, .inl f)) (hf : ∀ i : Nat, f i = 0) : cs x (.inl (k, n, .inl f3)) := by
  subst hx; exact ⟨rfl, rfl, Or.inr hf⟩
/-- the store is written at a: the typing's state stays -/
theorem tgd_up {L : List Nat} {F G : Nat → va_E} {fk fa fe : Nat → Int32} {T zs : Nat} {kE kI kS kB kA kV kW kT kP : ClassId} {fi : Nat → Option Nat} {im : Nat} {xI ps ms : Nat → Nat} {ik : Nat → Int32} {qz : Nat} {fy : Nat → Option Nat} {tm : Nat} {Y : Nat → Int32 × Int32 × Option Nat} {ad : Nat → Nat} {a : Nat} {x : va_E} (h : tgd L F G fk fa fe T zs kE kI kS kB kA kV kW kT kP fi im xI ps ms ik qz fy tm Y ad) (hx : cs (G a) x) : tgd L (updE F a x) G fk fa fe T zs kE kI kS kB kA kV kW kT kP fi im xI ps ms ik qz fy tm Y ad := ⟨h.1, rl_up h.2.1 hx, h.2.2⟩
end
-- j8.b.lean.txt
section
theorem tgd_T {L : List Nat} {F G : Nat → va_E} {fk fa fe : Nat → Int32} {T zs : Nat} {kE kI kS kB kA kV kW kT kP : ClassId} {fi : Nat → Option Nat} {im : Nat} {xI ps ms : Nat → Nat} {ik : Nat → Int32} {qz : Nat} {fy : Nat → Option Nat} {tm : Nat} {Y : Nat → Int32 × Int32 × Option Nat} {ad : Nat → Nat} (h : tgd L F G fk fa fe T zs kE kI kS kB kA kV kW kT kP fi im xI ps ms ik qz fy tm Y ad) : T ≤ 3001 := by have := h.1.1.2.1; have := h.1.2.1; omega
theorem tgd_q {L : List Nat} {F G : Nat → va_E} {fk fa fe : Nat → Int32} {T zs : Nat} {kE kI kS kB kA kV kW kT kP : ClassId} {fi : Nat → Option Nat} {im : Nat} {xI ps ms : Nat → Nat} {ik : Nat → Int32} {qz : Nat} {fy : Nat → Option Nat} {tm : Nat} {Y : Nat → Int32 × Int32 × Option Nat} {ad : Nat → Nat} (h : tgd L F G fk fa fe T zs kE kI kS kB kA kV kW kT kP fi im xI ps ms ik qz fy tm Y ad) {i : Nat} (hi : i < im) : ps i + 1 < ms i ∧ ms i ≤ ps (i + 1) ∧ ps (i + 1) < T := by
  obtain ⟨_, h2, _⟩ := h.2.2.1.2.2.2.1 i hi
  have hq : ps (i + 1) ≤ qz := itD_ps h.2.2.1 (im - (i + 1)) (i + 1) (by omega)
  have hT := h.1.2.2
  exact ⟨h2.2.1, h2.2.2.1, by omega⟩
/-- the lifetimes of a function's item -/
theorem it_lv {L : List Nat} {F G : Nat → va_E} {fk fa fe : Nat → Int32} {T zs : Nat} {kE kI kS kB kA kV kW kT kP : ClassId} {fi : Nat → Option Nat} {im : Nat} {xI ps ms : Nat → Nat} {ik : Nat → Int32} {qz : Nat} {fy : Nat → Option Nat} {tm : Nat} {Y : Nat → Int32 × Int32 × Option Nat} {ad : Nat → Nat} (h : tgd L F G fk fa fe T zs kE kI kS kB kA kV kW kT kP fi im xI ps ms ik qz fy tm Y ad) {i : Nat} (hi : i < im) (hk : ik i = 12) : ∃ (lv lf : Nat) (gl : Nat → Int32) (gs : List Value), F (xI i) = .inr (16, gs) ∧ gs[6]? = some (.int (nI lv)) ∧ gs[12]? = some (.ref lf) ∧ lf ∈ L ∧ lv ≤ 8 ∧ (0 < lv → F lf = .inl (kI, 8, .inl gl)) ∧ ∀ j : Nat, j < lv → ∃ s : Nat, gl j = nI s ∧ s < T := by
  obtain ⟨h1, h2, fs, h3, h4⟩ := h.2.2.1.2.2.2.1 i hi
  obtain ⟨hq1, hq2, hq3⟩ := tgd_q h hi
  have hT := tgd_T h
  obtain ⟨gs, g1, g2, g3⟩ := rl_ob h.2.1 h2.1 h3
  obtain ⟨_, _, _, mn, na, g, _, _, _, _, h8⟩ := h2
  rcases h8 with ⟨wa, ta, q', f, k1, _⟩ | ⟨vr, q', f, k1, _⟩ | ⟨lv, wa, ta, pa, lf, lo, q', va, b, bl, rs, f, gl, k1, k2, k3, k4, k5, k6, k7, k8, k9, l1, l2, l3, l4, l5⟩
  · rw [k1] at h3; cases h3; rw [hk] at h4; exact absurd (Value.int.inj (Option.some.inj h4)) (by decide)
  · rw [k1] at h3; cases h3; rw [hk] at h4; exact absurd (Value.int.inj (Option.some.inj h4)) (by decide)
  · rw [k1] at h3; cases h3
    refine ⟨lv, lf, gl, gs, g1, (g3 6 rfl).trans rfl, (g3 12 rfl).trans rfl, k5, l3, fun h0 => ?_, fun j hj => ?_⟩
    · obtain ⟨s, e1, e2, e3⟩ := l4 0 h0
      exact rl_ri h.2.1 k5 l1 (i := 0) (by rw [e1]; exact nI_ne0 (by omega) (by omega))
    · obtain ⟨s, e1, e2, e3⟩ := l4 j hj
      exact ⟨s, e1, by omega⟩
end
