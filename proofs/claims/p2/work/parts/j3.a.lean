/-- an exp as its reader makes it -/
def xpC (kd : Int32) (tk : Nat) (sg nm : Int32) (num : Int64) (mu : Int32) (vo li si : Value) (mn : Nat) : va_E := .inr (15, [.int kd, .int (nI tk), .int sg, .int nm, .int 0, .int 0, .long num, .int mu, vo, li, si, .int (nI mn), .null, .null])
/-- n exps in a row, f their addresses, g their signs: the tokens p to q, the borrows b to c -/
def chP (z : Nat) (P : Nat → Nat → Nat → Nat → Nat → Prop) (f : Nat → Option Nat) (g : Nat → Int32) (n p q b c : Nat) : Prop :=
  ∃ ps bs : Nat → Nat, p ≤ ps 0 ∧ ps n = q ∧ bs 0 = b ∧ bs n = c ∧ ∀ i : Nat, i < n → ∃ x p' s : Nat, f i = some x ∧ ps i < p' ∧ P x p' (ps (i + 1)) (bs i) (bs (i + 1)) ∧ g i = nI s ∧ ((s = 0 ∧ z = 0) ∨ (ps i ≤ s ∧ s < p'))
theorem chP_0 {P : Nat → Nat → Nat → Nat → Nat → Prop} {f : Nat → Option Nat} {g : Nat → Int32} {z p q b : Nat} (h : p ≤ q) : chP z P f g 0 p q b b := ⟨fun _ => q, fun _ => b, h, rfl, rfl, rfl, fun i hi => absurd hi (by omega)⟩
theorem chP_add {P : Nat → Nat → Nat → Nat → Nat → Prop} {f f2 : Nat → Option Nat} {g g2 : Nat → Int32} {z n p q b c x p' s q2 c2 : Nat} (h : chP z P f g n p q b c) (hs : ∀ i : Nat, i < n → f2 i = f i ∧ g2 i = g i) (hf : f2 n = some x) (hg : g2 n = nI s) (hp : q < p') (hP : P x p' q2 c c2) (hsg : (s = 0 ∧ z = 0) ∨ (q ≤ s ∧ s < p')) : chP z P f2 g2 (n + 1) p q2 b c2 := by
  obtain ⟨ps, bs, h1, h2, h3, h4, h5⟩ := h
  refine ⟨fun j => if j = n + 1 then q2 else ps j, fun j => if j = n + 1 then c2 else bs j, ?_, if_pos rfl, ?_, if_pos rfl, fun i hi => ?_⟩
  · show p ≤ if 0 = n + 1 then q2 else ps 0
    rw [if_neg (by omega)]; exact h1
  · show (if 0 = n + 1 then c2 else bs 0) = b
    rw [if_neg (by omega)]; exact h3
  · show ∃ x p' s : Nat, f2 i = some x ∧ (if i = n + 1 then q2 else ps i) < p' ∧ P x p' (if i + 1 = n + 1 then q2 else ps (i + 1)) (if i = n + 1 then c2 else bs i) (if i + 1 = n + 1 then c2 else bs (i + 1)) ∧ g2 i = nI s ∧ ((s = 0 ∧ z = 0) ∨ ((if i = n + 1 then q2 else ps i) ≤ s ∧ s < p'))
    rw [if_neg (show i ≠ n + 1 by omega), if_neg (show i ≠ n + 1 by omega)]
    by_cases e : i = n
    · subst e
      rw [if_pos rfl, if_pos rfl, h2, h4]
      exact ⟨x, p', s, hf, hp, hP, hg, hsg⟩
    · rw [if_neg (by omega), if_neg (by omega), (hs i (by omega)).1, (hs i (by omega)).2]
      exact h5 i (by omega)
theorem chP_im {P P2 : Nat → Nat → Nat → Nat → Nat → Prop} {f : Nat → Option Nat} {g : Nat → Int32} {z n p q b c : Nat} (hP : ∀ x p q b c : Nat, P x p q b c → P2 x p q b c) (h : chP z P f g n p q b c) : chP z P2 f g n p q b c := by
  obtain ⟨ps, bs, h1, h2, h3, h4, h5⟩ := h
  refine ⟨ps, bs, h1, h2, h3, h4, fun i hi => ?_⟩
  obtain ⟨x, p', s, g1, g2, g3, g4⟩ := h5 i hi
  exact ⟨x, p', s, g1, g2, hP _ _ _ _ _ g3, g4⟩
/-- exps that stand in a row of the store: li their addresses, si their signs, mn of them -/
def isQl (z : Nat) (P : Nat → Nat → Nat → Nat → Nat → Prop) (L : List Nat) (F : Nat → va_E) (kE kI : ClassId) (li si : Value) (mn p q b c : Nat) : Prop :=
  (mn = 0 ∧ li = .null ∧ b = c ∧ p ≤ q) ∨ ∃ (la sa cap q0 : Nat) (f : Nat → Option Nat) (g : Nat → Int32), li = .ref la ∧ si = .ref sa ∧ la ∈ L ∧ sa ∈ L ∧
    F la = .inl (kE, cap, .inr (.inr (.inr (.inr f)))) ∧ F sa = .inl (kI, cap, .inl g) ∧ mn ≤ cap ∧ q0 ≤ q ∧ chP z P f g mn p q0 b c
theorem isQl_im {z : Nat} {P P2 : Nat → Nat → Nat → Nat → Nat → Prop} {L L2 : List Nat} {F F2 : Nat → va_E} {kE kI : ClassId} {li si : Value} {mn p q b c : Nat} (hx : exS L F L2 F2) (hP : ∀ x p q b c : Nat, P x p q b c → P2 x p q b c) (h : isQl z P L F kE kI li si mn p q b c) : isQl z P2 L2 F2 kE kI li si mn p q b c := by
  rcases h with h | ⟨la, sa, cap, q0, f, g, h1, h2, h3, h4, h5, h6, h7, h8, h9⟩
  · exact Or.inl h
  · exact Or.inr ⟨la, sa, cap, q0, f, g, h1, h2, (hx la h3).1, (hx sa h4).1, (hx la h3).2.trans h5, (hx sa h4).2.trans h6, h7, h8, chP_im hP h9⟩
/-- .. one level of brackets deeper -/
def isQk (z k : Nat) (P : Nat → Nat → Nat → Nat → Nat → Nat → Prop) (L : List Nat) (F : Nat → va_E) (kE kI : ClassId) (li si : Value) (mn p q b c : Nat) : Prop := ∃ k2 : Nat, (k = k2 + 1 ∨ mn = 0) ∧ isQl z (P k2) L F kE kI li si mn p q b c
theorem isQk_im {z k k2 : Nat} {P P2 : Nat → Nat → Nat → Nat → Nat → Nat → Prop} {L L2 : List Nat} {F F2 : Nat → va_E} {kE kI : ClassId} {li si : Value} {mn p q b c : Nat} (hx : exS L F L2 F2) (hk : k ≤ k2) (hP : ∀ k k2 x p q b c : Nat, k ≤ k2 → P k x p q b c → P2 k2 x p q b c) (h : isQk z k P L F kE kI li si mn p q b c) : isQk z k2 P2 L2 F2 kE kI li si mn p q b c := by
  obtain ⟨kz, e, h⟩ := h
  rcases e with e | e
  · exact ⟨k2 - 1, Or.inl (by omega), isQl_im hx (fun x p q b c => hP kz (k2 - 1) x p q b c (by omega)) h⟩
  · exact ⟨kz, Or.inr e, isQl_im hx (fun x p q b c => hP kz kz x p q b c (Nat.le_refl _)) h⟩
def isE (L : List Nat) (F : Nat → va_E) (kE kI : ClassId) : Nat → Nat → Nat → Nat → Nat → Nat → Nat → Prop
  | 0, _, _, _, _, _, _ => False
  | n + 1, k, e, p, q, b, c => e ∈ L ∧ p < q ∧
    ((∃ (kd : Int32) (num : Int64), (kd = 0 ∨ kd = 1 ∨ kd = 15) ∧ F e = xpC kd p 0 0 num 0 .null .null .null 0 ∧ b = c) ∨
     (F e = xpC 2 p 0 (nI p) 0 0 .null .null .null 0 ∧ b = c) ∨
     (∃ (kd : Int32) (o p' q' : Nat), (kd = 4 ∨ kd = 7 ∨ kd = 9 ∨ kd = 10 ∨ kd = 11 ∨ kd = 13) ∧ F e = xpC kd p 0 0 0 0 (.ref o) .null .null 0 ∧ p < p' ∧ q' ≤ q ∧ isE L F kE kI n k o p' q' b c) ∨
     (∃ (mu : Int32) (o p' : Nat), (mu = 0 ∨ mu = 1) ∧ F e = xpC 12 p 0 0 0 mu (.ref o) .null .null 0 ∧ p < p' ∧ isE L F kE kI n k o p' q (b + 1) c) ∨
     (∃ o nm q' : Nat, F e = xpC 14 p 0 (nI nm) 0 0 (.ref o) .null .null 0 ∧ q' < nm ∧ nm < q ∧ isE L F kE kI n k o p q' b c) ∨
     (∃ (o q1 b1 mn : Nat) (li si : Value), F e = xpC 8 p 0 0 0 0 (.ref o) li si mn ∧ 1 ≤ mn ∧ isE L F kE kI n k o p q1 b b1 ∧ isQk 1 k (isE L F kE kI n) L F kE kI li si mn q1 q b1 c) ∨
     (∃ (kd sg nm : Int32) (mn p' z : Nat) (li si : Value), F e = xpC kd p sg nm 0 0 .null li si mn ∧ ((kd = 3 ∧ nm = nI p ∧ sg = 0) ∨ (kd = 5 ∧ nm = nI (p + 1) ∧ sg = 0 ∧ p + 1 < q ∧ z = 1) ∨ (kd = 6 ∧ nm = nI p ∧ sg = nI (p + 2) ∧ p + 2 < q)) ∧ p < p' ∧ isQk z k (isE L F kE kI n) L F kE kI li si mn p' q b c))
theorem isE_im0 {L L2 : List Nat} {F F2 : Nat → va_E} {kE kI : ClassId} (hx : exS L F L2 F2) : ∀ {n : Nat} (m : Nat), n ≤ m → ∀ {k k2 e p q b c : Nat}, k ≤ k2 → isE L F kE kI n k e p q b c → isE L2 F2 kE kI m k2 e p q b c
  | 0, _, _, _, _, _, _, _, _, _, _, h => h.elim
  | n + 1, 0, hm, _, _, _, _, _, _, _, _, _ => absurd hm (by omega)
  | n + 1, m + 1, hm, k, k2, e, p, q, b, c, hk, h => by
    have hm : n ≤ m := by omega
    obtain ⟨h1, h2⟩ := hx e h.1
    refine ⟨h1, h.2.1, ?_⟩
    rw [h2]
    rcases h.2.2 with h | h | ⟨kd, o, p', q', k1, k2', k3, k4, k5⟩ | ⟨mu, o, p', k1, k2', k3, k5⟩ | ⟨o, nm, q', k1, k2', k3, k5⟩ | ⟨o, q1, b1, mn, li, si, k1, k2', k3, k5⟩ | ⟨kd, sg, nm, mn, p', z, li, si, k1, k2', k3, k5⟩
    · exact Or.inl h
    · exact Or.inr (Or.inl h)
    · exact Or.inr (Or.inr (Or.inl ⟨kd, o, p', q', k1, k2', k3, k4, isE_im0 hx m hm hk k5⟩))
    · exact Or.inr (Or.inr (Or.inr (Or.inl ⟨mu, o, p', k1, k2', k3, isE_im0 hx m hm hk k5⟩)))
    · exact Or.inr (Or.inr (Or.inr (Or.inr (Or.inl ⟨o, nm, q', k1, k2', k3, isE_im0 hx m hm hk k5⟩))))
    · exact Or.inr (Or.inr (Or.inr (Or.inr (Or.inr (Or.inl ⟨o, q1, b1, mn, li, si, k1, k2', isE_im0 hx m hm hk k3, isQk_im hx hk (fun k k2 x p q b c hk z => isE_im0 hx m hm hk z) k5⟩)))))
    · exact Or.inr (Or.inr (Or.inr (Or.inr (Or.inr (Or.inr ⟨kd, sg, nm, mn, p', z, li, si, k1, k2', k3, isQk_im hx hk (fun k k2 x p q b c hk z => isE_im0 hx m hm hk z) k5⟩)))))
theorem isE_im {L L2 : List Nat} {F F2 : Nat → va_E} {kE kI : ClassId} (hx : exS L F L2 F2) {n : Nat} (m : Nat) (hm : n ≤ m) {k k2 e p q b c : Nat} (h : isE L F kE kI n k e p q b c) (hk : k ≤ k2 := by omega) : isE L2 F2 kE kI m k2 e p q b c := isE_im0 hx m hm hk h
/-- an exp's object in the store -/
def xO (L : List Nat) (F : Nat → va_E) (x : Nat) : Prop := x ∈ L ∧ ∃ vs : List Value, F x = .inr (15, vs)
theorem xO_ex {L L2 : List Nat} {F F2 : Nat → va_E} {x : Nat} (hx : exS L F L2 F2) (h : xO L F x) : xO L2 F2 x := ⟨(hx x h.1).1, by rw [(hx x h.1).2]; exact h.2⟩
theorem va_AO.row {D : va_G} {cl : List vw_C} {tys : List (ClassId × FieldType)} {s : State} {C : String} (h : va_AO C s) (hK : va_K D cl tys s) : ∃ cA : ClassId, va_K D cl (tys ++ [(cA, .object C)]) s := by
  obtain ⟨comp, c, k, h1, h2, h3, h4, h5⟩ := Cond.arrayOver_spec h
  refine ⟨c, hK.1, fun i x hx => ?_⟩
  by_cases hl : i < tys.length
  · rw [List.getElem?_append_left hl] at hx
    exact hK.2 i x hx
  · rw [List.getElem?_append_right (by omega)] at hx
    have hz : i - tys.length < 1 := (List.getElem?_eq_some_iff.mp hx).1
    rw [show i - tys.length = 0 by omega] at hx
    cases hx
    exact ⟨fun N z => ⟨(fun k h => by cases h), k, h3, comp, h4⟩, k, comp, h3, h4, h1, h5⟩
section IE
variable {L : List Nat} {F : Nat → va_E} {kE kI : ClassId} {n k e p q b c : Nat}
theorem isE_1 {kd : Int32} {num : Int64} (h1 : e ∈ L) (h2 : p < q) (hk : kd = 0 ∨ kd = 1 ∨ kd = 15) (hF : F e = xpC kd p 0 0 num 0 .null .null .null 0) : isE L F kE kI (n + 1) k e p q b b := ⟨h1, h2, Or.inl ⟨kd, num, hk, hF, rfl⟩⟩
theorem isE_2 (h1 : e ∈ L) (h2 : p < q) (hF : F e = xpC 2 p 0 (nI p) 0 0 .null .null .null 0) : isE L F kE kI (n + 1) k e p q b b := ⟨h1, h2, Or.inr (Or.inl ⟨hF, rfl⟩)⟩
theorem isE_3 {kd : Int32} {o p' q' : Nat} (h1 : e ∈ L) (h2 : p < q) (hk : kd = 4 ∨ kd = 7 ∨ kd = 9 ∨ kd = 10 ∨ kd = 11 ∨ kd = 13) (hF : F e = xpC kd p 0 0 0 0 (.ref o) .null .null 0) (h3 : p < p') (h4 : q' ≤ q) (h : isE L F kE kI n k o p' q' b c) : isE L F kE kI (n + 1) k e p q b c := ⟨h1, h2, Or.inr (Or.inr (Or.inl ⟨kd, o, p', q', hk, hF, h3, h4, h⟩))⟩
theorem isE_4 {mu : Int32} {o p' : Nat} (h1 : e ∈ L) (h2 : p < q) (hk : mu = 0 ∨ mu = 1) (hF : F e = xpC 12 p 0 0 0 mu (.ref o) .null .null 0) (h3 : p < p') (h : isE L F kE kI n k o p' q (b + 1) c) : isE L F kE kI (n + 1) k e p q b c := ⟨h1, h2, Or.inr (Or.inr (Or.inr (Or.inl ⟨mu, o, p', hk, hF, h3, h⟩)))⟩
theorem isE_5 {o nm q' : Nat} (h1 : e ∈ L) (h2 : p < q) (hF : F e = xpC 14 p 0 (nI nm) 0 0 (.ref o) .null .null 0) (h3 : q' < nm) (h4 : nm < q) (h : isE L F kE kI n k o p q' b c) : isE L F kE kI (n + 1) k e p q b c := ⟨h1, h2, Or.inr (Or.inr (Or.inr (Or.inr (Or.inl ⟨o, nm, q', hF, h3, h4, h⟩))))⟩
theorem isE_6 {o q1 b1 mn : Nat} {li si : Value} (h1 : e ∈ L) (h2 : p < q) (hF : F e = xpC 8 p 0 0 0 0 (.ref o) li si mn) (h3 : 1 ≤ mn) (h : isE L F kE kI n k o p q1 b b1) (h4 : isQk 1 k (isE L F kE kI n) L F kE kI li si mn q1 q b1 c) : isE L F kE kI (n + 1) k e p q b c := ⟨h1, h2, Or.inr (Or.inr (Or.inr (Or.inr (Or.inr (Or.inl ⟨o, q1, b1, mn, li, si, hF, h3, h, h4⟩)))))⟩
theorem isE_7 {kd sg nm : Int32} {mn p' z : Nat} {li si : Value} (h1 : e ∈ L) (h2 : p < q) (hF : F e = xpC kd p sg nm 0 0 .null li si mn) (hk : (kd = 3 ∧ nm = nI p ∧ sg = 0) ∨ (kd = 5 ∧ nm = nI (p + 1) ∧ sg = 0 ∧ p + 1 < q ∧ z = 1) ∨ (kd = 6 ∧ nm = nI p ∧ sg = nI (p + 2) ∧ p + 2 < q)) (h3 : p < p') (h4 : isQk z k (isE L F kE kI n) L F kE kI li si mn p' q b c) : isE L F kE kI (n + 1) k e p q b c := ⟨h1, h2, Or.inr (Or.inr (Or.inr (Or.inr (Or.inr (Or.inr ⟨kd, sg, nm, mn, p', z, li, si, hF, hk, h3, h4⟩)))))⟩
theorem isE_mem : ∀ {n : Nat}, isE L F kE kI n k e p q b c → e ∈ L ∧ p < q
  | 0, h => h.elim
  | _ + 1, h => ⟨h.1, h.2.1⟩
theorem isE_tok : ∀ {n : Nat}, isE L F kE kI n k e p q b c → ∃ vs : List Value, F e = .inr (15, vs) ∧ vs[1]? = some (.int (nI p))
  | 0, h => h.elim
  | _ + 1, h => by
    rcases h.2.2 with ⟨kd, num, k1, k2, k3⟩ | ⟨k2, k3⟩ | ⟨kd, o, p', q', k1, k2, k3, k4, k5⟩ | ⟨mu, o, p', k1, k2, k3, k5⟩ | ⟨o, nm, q', k2, k3, k5⟩ | ⟨o, q1, b1, mn, li, si, k2, k3, k5⟩ | ⟨kd, sg, nm, mn, p', z, li, si, k2, k3, k5⟩ <;> exact ⟨_, k2, rfl⟩
end IE
theorem vu_s {α : Type} {f : Nat → α} {k : Nat} {v : α} : va_up f k v k = v := if_pos rfl
theorem vu_n {α : Type} {f : Nat → α} {k j : Nat} {v : α} (h : j ≠ k) : va_up f k v j = f j := if_neg h
theorem nI_2 (n : Nat) : 2 * nI n = nI (2 * n) := by
  rw [Int32.two_mul, nI_add, show n + n = 2 * n by omega]
theorem isQl_w {z : Nat} {P : Nat → Nat → Nat → Nat → Nat → Prop} {L : List Nat} {F : Nat → va_E} {kE kI : ClassId} {li si : Value} {mn p p0 q b c : Nat} (h : isQl z P L F kE kI li si mn p q b c) (hp : p0 ≤ p) : isQl z P L F kE kI li si mn p0 q b c := by
  rcases h with ⟨h1, h2, h3, h4⟩ | ⟨la, sa, cap, q0, f, g, h1, h2, h3, h4, h5, h6, h7, h8, ps, bs, g1, g2⟩
  · exact Or.inl ⟨h1, h2, h3, by omega⟩
  · exact Or.inr ⟨la, sa, cap, q0, f, g, h1, h2, h3, h4, h5, h6, h7, h8, ps, bs, by omega, g2⟩
