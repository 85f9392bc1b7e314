/-- of the nodes only those of A are written -/
def NO (A : Nat → Prop) (S S2 : Sg) : Prop := ZL S2 = ZL S ∧ ZF S2 = ZF S ∧ (Zz S2 = Zz S ∧ Zn S2 = Zn S) ∧ Zq S2 = Zq S ∧ Zf S2 = Zf S ∧ (∀ r : Nat, r ≠ 61 → Zl S2 r = Zl S r) ∧ (∀ r : Nat, r ≠ 62 → r ≠ 63 → Zr S2 r = Zr S r) ∧ (∀ j : Nat, j ≠ 64 → j ≠ 65 → Zi S2 j = Zi S j) ∧ ∀ n : Nat, ¬ A n → Zl S2 61 n = Zl S 61 n ∧ Zr S2 62 n = Zr S 62 n ∧ Zr S2 63 n = Zr S 63 n
/-- a chain of nodes that ends -/
def chF9 (f : Nat → Int32) : List Nat → Nat → Prop
  | [], x => x = 0
  | n :: l, x => x = n ∧ 1 ≤ n ∧ ∃ y : Nat, f n = nI y ∧ chF9 f l y
/-- the free nodes; t: how many there are -/
def FLs (S : Sg) (l : List Nat) (t : Nat) : Prop := Zi S 64 = nI t ∧ t < 430000 ∧ (∃ x : Nat, Zi S 65 = nI x ∧ chF9 (Zr S 63) l x) ∧ l.Nodup ∧ ∀ n ∈ l, n ≤ t
section PS23
variable {K : Ky} {S S1 S2 : Sg} {A B : Nat → Prop} {l : List Nat} {t n : Nat}
theorem NO.rf : NO A S S := ⟨rfl, rfl, ⟨rfl, rfl⟩, rfl, rfl, fun _ _ => rfl, fun _ _ _ => rfl, fun _ _ _ => rfl, fun _ _ => ⟨rfl, rfl, rfl⟩⟩
theorem NO.tr (a : NO A S S1) (b : NO A S1 S2) : NO A S S2 := ⟨b.1.trans a.1, b.2.1.trans a.2.1, ⟨b.2.2.1.1.trans a.2.2.1.1, b.2.2.1.2.trans a.2.2.1.2⟩, b.2.2.2.1.trans a.2.2.2.1, b.2.2.2.2.1.trans a.2.2.2.2.1, fun r h => (b.2.2.2.2.2.1 r h).trans (a.2.2.2.2.2.1 r h), fun r h h2 => (b.2.2.2.2.2.2.1 r h h2).trans (a.2.2.2.2.2.2.1 r h h2), fun r h h2 => (b.2.2.2.2.2.2.2.1 r h h2).trans (a.2.2.2.2.2.2.2.1 r h h2), fun n h => ⟨(b.2.2.2.2.2.2.2.2 n h).1.trans (a.2.2.2.2.2.2.2.2 n h).1, (b.2.2.2.2.2.2.2.2 n h).2.1.trans (a.2.2.2.2.2.2.2.2 n h).2.1, (b.2.2.2.2.2.2.2.2 n h).2.2.trans (a.2.2.2.2.2.2.2.2 n h).2.2⟩⟩
theorem NO.mo (a : NO A S S2) (h : ∀ n : Nat, A n → B n) : NO B S S2 := ⟨a.1, a.2.1, a.2.2.1, a.2.2.2.1, a.2.2.2.2.1, a.2.2.2.2.2.1, a.2.2.2.2.2.2.1, a.2.2.2.2.2.2.2.1, fun n q => a.2.2.2.2.2.2.2.2 n (fun w => q (h n w))⟩
theorem Zr_u9 {r r2 : Nat} {f : Nat → Int32} (h : r2 ≠ r) : Zr (Ur S r f) r2 = Zr S r2 := va_up_ne _ _ h
theorem NO.w1 {v : Int64} (h : A n) : NO A S (Ul S 61 (vp_updL (Zl S 61) n v)) := ⟨rfl, rfl, ⟨rfl, rfl⟩, rfl, rfl, fun r hr => Zl_un hr, fun _ _ _ => rfl, fun _ _ _ => rfl, fun m hm => ⟨by rw [Zl_us]; exact upL_n (fun e : m = n => hm (by rw [e]; exact h)), rfl, rfl⟩⟩
theorem NO.w2 {v : Int32} (h : A n) : NO A S (Ur S 62 (upd (Zr S 62) n v)) := ⟨rfl, rfl, ⟨rfl, rfl⟩, rfl, rfl, fun _ _ => rfl, fun r hr _ => va_up_ne _ _ hr, fun _ _ _ => rfl, fun m hm => ⟨rfl, by rw [Zr_us]; exact upd_n (fun e : m = n => hm (by rw [e]; exact h)), congrFun (Zr_u9 (S := S) (r := 62) (r2 := 63) (by decide)) m⟩⟩
theorem NO.w3 {v : Int32} (h : A n) : NO A S (Ur S 63 (upd (Zr S 63) n v)) := ⟨rfl, rfl, ⟨rfl, rfl⟩, rfl, rfl, fun _ _ => rfl, fun r _ hr => va_up_ne _ _ hr, fun _ _ _ => rfl, fun m hm => ⟨rfl, congrFun (Zr_u9 (S := S) (r := 63) (r2 := 62) (by decide)) m, by rw [Zr_us]; exact upd_n (fun e : m = n => hm (by rw [e]; exact h))⟩⟩
theorem NO.ui {j : Nat} {v : Int32} (h : j = 64 ∨ j = 65) : NO A S (Ui S j v) := ⟨rfl, rfl, ⟨rfl, rfl⟩, rfl, rfl, fun _ _ => rfl, fun _ _ _ => rfl, fun i a b => Zi_n (by omega), fun _ _ => ⟨rfl, rfl, rfl⟩⟩
theorem chF9.cg {f g : Nat → Int32} : ∀ {l : List Nat} {x : Nat}, (∀ n ∈ l, g n = f n) → chF9 f l x → chF9 g l x
  | [], _, _, h => h
  | n :: l, x, hg, ⟨h1, h2, y, h3, h4⟩ => ⟨h1, h2, y, (hg n (List.mem_cons_self ..)).trans h3, chF9.cg (fun m hm => hg m (List.mem_cons_of_mem n hm)) h4⟩
/-- the free nodes stay, if none of them is written -/
theorem FLs.no (h : FLs S l t) (e : NO A S S2) (hl : ∀ n ∈ l, ¬ A n) (h4 : Zi S2 64 = Zi S 64) (h5 : Zi S2 65 = Zi S 65) : FLs S2 l t := by
  obtain ⟨h1, h2, ⟨x, h3, h3b⟩, h6⟩ := h
  exact ⟨h4.trans h1, h2, ⟨x, h5.trans h3, h3b.cg (fun n hn => (e.2.2.2.2.2.2.2.2 n (hl n hn)).2.2)⟩, h6⟩
/-- node -/
theorem nod_ (h : FLs S l t) (hr : l = [] → t + 1 < 430000) : Rt (f_node K S) (fun S2 r => ∃ (n : Nat) (l2 : List Nat) (t2 : Nat), r = nI n ∧ 1 ≤ n ∧ n ≤ t2 ∧ n ∉ l2 ∧ FLs S2 l2 t2 ∧ NO (fun m => m = n) S S2 ∧ Zl S2 61 n = 0 ∧ Zr S2 62 n = 0 ∧ Zr S2 63 n = 0 ∧ ((l = n :: l2 ∧ t2 = t) ∨ (l = [] ∧ l2 = [] ∧ n = t + 1 ∧ t2 = t + 1))) := by
  obtain ⟨h1, h2, ⟨x, h3, h4⟩, h5, h6⟩ := h
  -- the last three writes
  have h37 : ∀ (Sx : Sg) (n : Nat), n < 430000 → NO (fun m => m = n) S Sx → Rt (f_node_37 K Sx (nI n)) (fun S2 r => r = nI n ∧ NO (fun m => m = n) S S2 ∧ NO (fun m => m = n) Sx S2 ∧ Zi S2 = Zi Sx ∧ Zl S2 61 n = 0 ∧ Zr S2 62 n = 0 ∧ Zr S2 63 n = 0) := fun Sx n hn e => by
    unfold f_node_37
    refine Rt.bd (wJ_n (show n < rlen 61 from hn) (by decide)) ?_
    have e1 : NO (fun m => m = n) Sx (Ul Sx 61 (vp_updL (Zl Sx 61) n 0)) := NO.w1 rfl
    have v1 : Zl (Ul Sx 61 (vp_updL (Zl Sx 61) n 0)) 61 n = 0 := by rw [Zl_us, upL_s]
    have i1 : Zi (Ul Sx 61 (vp_updL (Zl Sx 61) n 0)) = Zi Sx := rfl
    generalize Ul Sx 61 (vp_updL (Zl Sx 61) n 0) = Sa at e1 v1 i1
    refine Rt.bd (wZ_n (show n < rlen 62 from hn) (by decide) (Or.inl rfl)) ?_
    have e2 : NO (fun m => m = n) Sa (Ur Sa 62 (upd (Zr Sa 62) n 0)) := NO.w2 rfl
    have v2 : Zr (Ur Sa 62 (upd (Zr Sa 62) n 0)) 62 n = 0 := by rw [Zr_us, upd_s]
    have w2 : Zl (Ur Sa 62 (upd (Zr Sa 62) n 0)) 61 n = 0 := v1
    have i2 : Zi (Ur Sa 62 (upd (Zr Sa 62) n 0)) = Zi Sa := rfl
    generalize Ur Sa 62 (upd (Zr Sa 62) n 0) = Sb at e2 v2 w2 i2
    refine Rt.bd (wRI_n (show n < rlen 63 from hn) (by decide)) ?_
    have e3 : NO (fun m => m = n) Sb (Ur Sb 63 (upd (Zr Sb 63) n 0)) := NO.w3 rfl
    have e123 := (e1.tr e2).tr e3
    refine Rt.rt ⟨rfl, e.tr e123, e123, i2.trans i1, w2, ?_, by rw [Zr_us, upd_s]⟩
    rw [Zr_u9 (by decide)]; exact v2
  cases l with
  | nil =>
    have hx : x = 0 := h4
    subst hx
    have ht := hr rfl
    unfold f_node
    refine Rt.ip (by rw [h3]; rfl) (Rt.bd (v := Ui S 64 (nI (t + 1))) (by show some (Ui S 64 (Zi S 64 + 1)) = _; rw [h1, nI_1]) ?_)
    rw [show Zi (Ui S 64 (nI (t + 1))) 64 = nI (t + 1) from Zi_s]
    refine (h37 (Ui S 64 (nI (t + 1))) (t + 1) ht (NO.ui (Or.inl rfl))).mo (fun S2 r ⟨q1, q2, q3, q4, q5, q6, q7⟩ => ⟨t + 1, [], t + 1, q1, by omega, Nat.le_refl _, by simp, ⟨by rw [q4]; exact Zi_s, ht, ⟨0, by rw [q4]; exact (Zi_n (by decide)).trans h3, rfl⟩, List.nodup_nil, fun n hn => by cases hn⟩, q2, q5, q6, q7, Or.inr ⟨rfl, rfl, rfl, rfl⟩⟩)
  | cons n l2 =>
    obtain ⟨x1, x2, y, x3, x4⟩ := h4
    subst x1
    have hn := h6 x (List.mem_cons_self ..)
    obtain ⟨d1, d2⟩ := List.nodup_cons.mp h5
    unfold f_node
    rw [h3]
    refine Rt.iq (fun w => ?_) (Rt.bd (rI_n (show x < rlen 63 from by show x < 430000; omega) (by decide)) (Rt.bd (v := Ui S 65 (Zr S 63 x)) rfl ?_))
    · have := nI_e (a := x) (b := 0) (by omega) (by decide) w; omega
    · refine (h37 (Ui S 65 (Zr S 63 x)) x (by omega) (NO.ui (Or.inr rfl))).mo (fun S2 r ⟨q1, q2, q3, q4, q5, q6, q7⟩ => ⟨x, l2, t, q1, x2, hn, d1, ⟨by rw [q4]; exact (Zi_n (by decide)).trans h1, h2, ⟨y, by rw [q4, ← x3]; exact Zi_s, ?_⟩, d2, fun m hm => h6 m (List.mem_cons_of_mem x hm)⟩, q2, q5, q6, q7, Or.inl ⟨rfl, rfl⟩⟩)
      exact x4.cg (fun m hm => (q2.2.2.2.2.2.2.2.2 m (fun e : m = x => d1 (by rw [← e]; exact hm))).2.2)
/-- freeNode -/
theorem frn_ (h : FLs S l t) (h1 : 1 ≤ n) (hn : n ≤ t) (hl : n ∉ l) : Rt (f_freeNode K S (nI n)) (fun S2 _ => FLs S2 (n :: l) t ∧ NO (fun m => m = n) S S2 ∧ Zl S2 = Zl S ∧ Zr S2 62 = Zr S 62) := by
  obtain ⟨g1, g2, ⟨x, g3, g4⟩, g5, g6⟩ := h
  unfold f_freeNode
  refine Rt.bd (wRI_n (show n < rlen 63 from by show n < 430000; omega) (by decide)) ?_
  have e1 : NO (fun m => m = n) S (Ur S 63 (upd (Zr S 63) n (Zi S 65))) := NO.w3 rfl
  have r1 : Zr (Ur S 63 (upd (Zr S 63) n (Zi S 65))) 63 = upd (Zr S 63) n (Zi S 65) := Zr_us
  have r2 : Zr (Ur S 63 (upd (Zr S 63) n (Zi S 65))) 62 = Zr S 62 := Zr_u9 (by decide)
  have r3 : Zl (Ur S 63 (upd (Zr S 63) n (Zi S 65))) = Zl S := rfl
  have r4 : Zi (Ur S 63 (upd (Zr S 63) n (Zi S 65))) = Zi S := rfl
  generalize Ur S 63 (upd (Zr S 63) n (Zi S 65)) = Sa at e1 r1 r2 r3 r4
  refine Rt.bd (v := Ui Sa 65 (nI n)) rfl (Rt.rt ⟨⟨(Zi_n (by decide)).trans (by rw [r4]; exact g1), g2, ⟨n, Zi_s, rfl, h1, x, ?_, ?_⟩, List.nodup_cons.mpr ⟨hl, g5⟩, fun m hm => ?_⟩, e1.tr (NO.ui (Or.inr rfl)), r3, r2⟩)
  · show Zr Sa 63 n = nI x
    rw [r1, upd_s, g3]
  · refine g4.cg (fun m hm => ?_)
    show Zr Sa 63 m = Zr S 63 m
    rw [r1]; exact upd_n (fun e : m = n => hl (by rw [← e]; exact hm))
  · rcases List.mem_cons.mp hm with e | e
    · omega
    · exact g6 m e
end PS23
