/-- what a piece's laying leaves, its code aside -/
def FRM (R : yR) (S0 S S2 : Sg) (P P2 h2 : Nat) (Γ2 : List Nat) (L L2 z n : Nat) : Prop := LC R S0 S2 P2 h2 Γ2 L2 ∧ LZ P L S S2 ∧ Zz S2 ≤ Zz S + z ∧ Zn S2 ≤ Zn S + n ∧ P ≤ P2 ∧ L ≤ L2 ∧ RFx S0 S P S2 P2
section LY34
variable {R : yR} {S0 Sb S S1 S2 S3 : Sg} {P P1 P2 P3 h h0 h1 h2 hc L L1 L2 Lb z n z2 n2 : Nat} {Γ Γ0 Γ1 Γ2 Λ : List Nat} {E : eV} {s s1 s2 yD : List tE} {cl cl2 cD cD2 : Prop} {D D2 : Nat → Prop} {a m : Nat} {f f2 : Nat → Int32} {x : pRc}
theorem GV.frm (g : GV R S0 S S2 E P P2 h h2 Γ Γ2 L L2 s s2 cl z n) : FRM R S0 S S2 P P2 h2 Γ2 L L2 z n := ⟨g.1, g.2.1, g.2.2.2⟩
theorem GVo.frm (g : GVo R S0 S S2 E P P2 h2 Γ2 L L2 s s2 D yD cl cD z n) : FRM R S0 S S2 P P2 h2 Γ2 L L2 z n := ⟨g.1, g.2.1, g.2.2.2⟩
theorem GVo.mk (F : FRM R S0 S S2 P P2 h2 Γ2 L L2 z n) (t : tsgo R S0 S2 E L2 P P2 s s2 D yD cl cD) : GVo R S0 S S2 E P P2 h2 Γ2 L L2 s s2 D yD cl cD z n := ⟨F.1, F.2.1, t, F.2.2⟩
theorem LPt.frm (p : LPt R S0 Sb S P h Γ L Lb x z n) : FRM R S0 Sb S P (P + 1) h Γ Lb L z n := ⟨p.1, p.2.1, p.2.2.2.1, p.2.2.2.2.1, Nat.le_succ _, p.2.2.2.2.2.1, p.2.2.2.2.2.2⟩
theorem FRM.tr (F : FRM R S0 S S1 P P1 h1 Γ1 L L1 z n) (G : FRM R S0 S1 S2 P1 P2 h2 Γ2 L1 L2 z2 n2) : FRM R S0 S S2 P P2 h2 Γ2 L L2 (z + z2) (n + n2) := by
  obtain ⟨a1, a2, a4, a5, a6, a7, a8⟩ := F
  obtain ⟨b1, b2, b4, b5, b6, b7, b8⟩ := G
  exact ⟨b1, a2.tr b2 a6 a7, by omega, by omega, by omega, by omega, a8.tr b8 a2.1 b2⟩
theorem FRM.uF (F : FRM R S0 S S2 P P2 h2 Γ2 L L2 z n) (v : PVc R S0 S2 P P2 a m f) (hn : a ∉ ZL S) : FRM R S0 S (UF S2 a (.inl (R.K.1 0, m, .inl f2))) P P2 h2 Γ2 L L2 z n := ⟨F.1.uF v.2.1 v.2.2.1 v.2.2.2.1, LZ.uF F.2.1 hn, F.2.2.1, F.2.2.2.1, F.2.2.2.2.1, F.2.2.2.2.2.1, F.2.2.2.2.2.2.uF⟩
theorem FRM.ur {k : Nat} {w : Int32} (F : FRM R S0 S S2 P P2 h2 Γ2 L L2 z n) (hk : P ≤ k) : FRM R S0 S (Ur S2 30 (upd (Zr S2 30) k w)) P P2 h2 Γ2 L L2 z n := ⟨F.1.ur (Or.inl (by decide)), F.2.1.tr (LZ.ur (by decide) hk) (Nat.le_refl _) (Nat.le_refl _), F.2.2.1, F.2.2.2.1, F.2.2.2.2.1, F.2.2.2.2.2.1, F.2.2.2.2.2.2⟩
theorem FRM.rm {z3 n3 : Nat} (F : FRM R S0 S S2 P P2 h2 Γ2 L L2 z n) (r : RMl R S z3 n3) (hz : z + z2 ≤ z3) (hn : n + n2 ≤ n3) : RMl R S2 z2 n2 := ⟨by have := F.2.2.1; have := r.1; omega, by have := F.2.2.2.1; have := r.2; omega⟩
theorem FRM.mo {z2 n2 : Nat} (F : FRM R S0 S S2 P P2 h2 Γ2 L L2 z n) (hz : z ≤ z2) (hn : n ≤ n2) : FRM R S0 S S2 P P2 h2 Γ2 L L2 z2 n2 := ⟨F.1, F.2.1, by have := F.2.2.1; omega, by have := F.2.2.2.1; omega, F.2.2.2.2⟩
/-- a row of the maker's stays his -/
theorem PVc.fr (v : PVc R S0 S P P1 a m f) (F : FRM R S0 S S2 P1 P2 h2 Γ2 L L2 z n) : PVc R S0 S2 P P2 a m f := by
  obtain ⟨v1, v2, v3, v4, v5⟩ := v
  have hx : LX S S2 := F.2.1.1
  obtain ⟨r1, r2⟩ := hx.ro v1 v2
  refine ⟨r1, r2, v3, fun w => v4 (F.2.2.2.2.2.2.1 a v1 w), fun k h1 h2 => ?_⟩
  by_cases e : k < P1
  · obtain ⟨q1, q2⟩ := v5 k h1 e
    have hq : ∀ r : Nat, 36 ≤ r → r ≤ 42 → Zq S2 r k = Zq S r k := (F.2.1.2.1 k e).2.2
    refine ⟨fun h => q1 ?_, fun w hw => ?_⟩
    · rcases h with h | h | h | ⟨w, gs, h3, h4, h5⟩
      · exact Or.inl (by rw [← hq 36 (by decide) (by decide)]; exact h)
      · exact Or.inr (Or.inl (by rw [← hq 37 (by decide) (by decide)]; exact h))
      · exact Or.inr (Or.inr (Or.inl (by rw [← hq 42 (by decide) (by decide)]; exact h)))
      · rw [hq 38 (by decide) (by decide)] at h3
        exact Or.inr (Or.inr (Or.inr ⟨w, gs, h3, (hx.1 w (q2 w h3)).2.back h4 (by decide) (by decide), h5⟩))
    · rw [hq 38 (by decide) (by decide)] at hw
      exact (hx.1 w (q2 w hw)).1
  · obtain ⟨q1, q2⟩ := F.2.2.2.2.2.2.2 k (by omega) h2
    exact ⟨fun w => v4 (q1 a v1 w), q2⟩
theorem PVc.ur {k : Nat} {w : Int32} (v : PVc R S0 S P P2 a m f) : PVc R S0 (Ur S 30 (upd (Zr S 30) k w)) P P2 a m f := v
theorem PVc.su {P0 : Nat} (v : PVc R S0 S P P2 a m f) (h : P ≤ P0) : PVc R S0 S P0 P2 a m f := ⟨v.1, v.2.1, v.2.2.1, v.2.2.2.1, fun k h1 h2 => v.2.2.2.2 k (by omega) h2⟩
/-- a jump outside of the piece is set -/
theorem tsgo.jp {n : Nat} {w : Int32} {x y : List tE} (q : tsgo R S0 S E L P P2 x y D yD cl cD) (hn : n < P ∨ P2 ≤ n) : tsgo R S0 (Ur S 30 (upd (Zr S 30) n w)) E L P P2 x y D yD cl cD := by
  obtain ⟨st, W, h1, h2, h3, h4, h5, h6, h7, h8⟩ := q
  refine ⟨st, W, h1, h2, h3, h4, h5, h6, h7, fun k hk hb => ?_⟩
  obtain ⟨q0, q1, q2⟩ := h8 k hk hb
  have hrk : RK S (Ur S 30 (upd (Zr S 30) n w)) k := ⟨fun r h1 h2 => by
    by_cases e : r = 30
    · subst e; rw [Zr_us, upd_n (by omega)]
    · rw [Zr_un e], rfl, fun _ _ _ => rfl⟩
  have hx : LX S (Ur S 30 (upd (Zr S 30) n w)) := (LZ.ur (P := 0) (L := 0) (by decide) (Nat.zero_le _)).1
  refine ⟨q0, fun hd => ?_, fun hd T hT hT2 => ?_⟩
  · obtain ⟨i, p1, p2, p3, p4⟩ := q1 hd
    exact ⟨i, p1.st hx hrk (fun l e => ⟨rfl, fun r h1 h2 => by rw [Zr_un (by omega)]⟩), p2, fun j hj => ⟨(p3 j hj).1, (p3 j hj).2.1, (p3 j hj).2.2.1, (p3 j hj).2.2.2.ur⟩, p4⟩
  · obtain ⟨i, p1, p2, p3⟩ := q2 hd T hT hT2
    exact ⟨i, p1.st (LX_j hx) (RK_j hrk) (fun l e => by rw [p2] at e; cases e), p2, p3⟩
/-- a condition ahead of a piece: the way that is not gone leads to its end -/
theorem tsgo.uns {k0 pp : Nat} {x : List tE} (q : tsgo R S0 S E L (k0 + 1) P2 x x D yD cl cD) (hb : k0 + 1 < P2) (hz : rz R S0 S k0 ((17, 0, none, (none, none), ([], []), [k0 + 1, P2], (0, 0, 0), []) : iR)) (hw : wl x + 1 ≤ 177) : tsgo R S0 S E L k0 P2 ((0, 2, 0) :: x) x D yD False cD := by
  obtain ⟨st, W, h1, h2, h3, h4, h5, h6, h7, h8⟩ := q
  have hj : ∀ {j : Nat} {t : List tE}, k0 + 1 ≤ j → wkS t (st j) → wkS t (pcE k0 ((0, 2, 0) :: x) st j) := fun hjb j3 => by rw [pcE_n (by omega)]; exact j3
  refine ⟨pcE k0 ((0, 2, 0) :: x) st, fun k => k = k0 ∨ k = P2 ∨ W k, by rw [pcE_s]; exact wkS.rf, by rw [pcE_n (by omega)]; exact h2, Or.inl rfl, fun w => w.elim, by omega, fun k hk => by have := h6 k hk; omega, fun w k hk z => ?_, fun k hk hb2 => ?_⟩
  · have := h6 k hk
    rcases z with z | z | z
    · omega
    · omega
    · exact h7 w k hk z
  · by_cases e : k = k0
    · subst e
      have hnd : ¬ D k := fun w => by have := h6 k w; omega
      rw [pcE_s]
      refine ⟨by rw [wl_0t]; exact hw, fun _ => ⟨_, hz, (fun l e => by cases e), fun j hj2 => ?_, tP_17 rfl ⟨iD0_0, 2, P2, x, Or.inr rfl, rfl, rfl, ⟨by omega, by omega, hj (Nat.le_refl _) h1⟩, by omega, Nat.le_refl _, hj (by omega) (by rw [h2]; exact wkS.rf)⟩⟩, fun w => absurd w hnd⟩
      rcases List.mem_cons.mp hj2 with e | e
      · rw [e]; exact ⟨by omega, by omega, fun _ => Or.inr (Or.inr h3), Or.inl (by omega)⟩
      · rw [List.mem_singleton.mp e]; exact ⟨by omega, Nat.le_refl _, fun _ => Or.inr (Or.inl rfl), Or.inl (by omega)⟩
    · obtain ⟨q0, q1, q2⟩ := h8 k (by omega) hb2
      have eW : (k = k0 ∨ k = P2 ∨ W k) → W k := fun w => by
        rcases w with w | w | w
        · omega
        · omega
        · exact w
      rw [pcE_n e]
      refine ⟨q0, fun hd => ?_, fun hd T hT hT2 => ?_⟩
      · obtain ⟨i, p1, p2, p3, p4⟩ := q1 hd
        refine ⟨i, p1, p2, fun j hj2 => ?_, p4.im eW (fun j t ⟨j1, j2, j3⟩ => ⟨by omega, j2, hj j1 j3⟩)⟩
        obtain ⟨j1, j2, j3, j4⟩ := p3 j hj2
        exact ⟨by omega, j2, fun w => Or.inr (Or.inr (j3 (eW w))), j4⟩
      · obtain ⟨i, p1, p2, p3, p4⟩ := q2 hd T hT hT2
        refine ⟨i, p1, p2, fun j hj2 => (p3 j hj2).imp id (fun ⟨w1, w2⟩ => ⟨w1, fun w => Or.inr (Or.inr (w2 (eW w)))⟩), p4.im eW (fun j t w => w.imp id (fun ⟨j1, j3⟩ => ⟨j1, hj (by omega) j3⟩))⟩
end LY34
