/-- where a running stands, with its calls: calls, function, base, callers' rows, cells' length, and as above -/
abbrev qmT := Nat → Nat → Nat → (Nat → Option Nat) → (Nat → Int32) → (Nat → Int32) → Nat → qaT
/-- a function that may be called -/
def caF (nc : Nat → Nat → Int32) (nr : Nat → Nat → Nat → Int32) (g cf ac vc vn np lv : Nat) : Prop := g < 40 ∧ nc g 9 = nI cf ∧ nc g 4 = nI ac ∧ nc g 8 = nI vc ∧ (nc g 7 = nI vn ∧ vn ≤ 40) ∧ (nc g 3 = nI np ∧ np ≤ 40) ∧ nc g 2 = nI lv ∧ (∀ v : Nat, v < np → ∃ u : Nat, nr g 3 v = nI u ∧ u < 3040) ∧ vc ≤ 1000
/-- cells after room was made up to e -/
def grC (fc gc : Nat → Int64) (mln ml2 e : Nat) : Prop := (e ≤ mln ∧ ml2 = mln ∧ gc = fc) ∨ (mln < e ∧ ml2 = max e (2 * mln) ∧ ∀ j : Nat, j < mln → gc j = fc j)
/-- the filled bits of a new call -/
def fiC (az : Nat → Int32) (nr : Nat → Nat → Nat → Int32) (g2 cl vn np : Nat) (ff gf : Nat → Int32) : Prop := ∀ j : Nat, gf j = if 40 * cl ≤ j ∧ j < 40 * cl + vn then (if j - 40 * cl < np then fuI az (nr g2 3 (j - 40 * cl)).toNatClampNeg else 0) else ff j
/-- a step of a running, calls and returns too -/
def stM (C : tF) (FG : Nat → tF) (na : Nat → Nat → Nat) (nc : Nat → Nat → Int32) (nr : Nat → Nat → Nat → Int32) (ak ao fpa fpt fof : Nat → Int32) (mh : Nat) (QM : qmT) : Prop := ∀ (kn g bs mln : Nat) (k0 : Nat → Option Nat) (k1 k2 : Nat → Int32),
  stV (FG g) bs (40 * (kn - 1)) mh mln (QM kn g bs k0 k1 k2 mln) ∧ stG (FG g) mln (QM kn g bs k0 k1 k2 mln) ∧ stE (FG g) (nr g 3) ak ao fpa fpt fof bs (40 * (kn - 1)) mh mln (QM kn g bs k0 k1 k2 mln) ∧
  ∀ (i : Nat) (ft : Nat → Int32) (fc : Nat → Int64) (tp : Nat) (ff : Nat → Int32), QM kn g bs k0 k1 k2 mln i ft fc tp ff →
    (1 ≤ kn ∧ kn ≤ 60 ∧ g < 40 ∧ mh ≤ mln ∧ mln ≤ 600000 ∧ tp ≤ 248000 ∧ ∃ oo : Nat, oo < 33 ∧ FG g 0 i = nI oo) ∧
    (∃ lv np vn : Nat, nc g 2 = nI lv ∧ nc g 3 = nI np ∧ nc g 7 = nI vn ∧ vn ≤ 40) ∧
    (C 0 i = nI 21 → ∃ g2 cf ac vc vn np lv : Nat, C 1 i = nI g2 ∧ caF nc nr g2 cf ac vc vn np lv ∧ ac ≤ tp ∧
      ∀ (ml2 : Nat) (gc : Nat → Int64) (gf : Nat → Int32) (g0 : Nat → Option Nat) (g1 g3 : Nat → Int32), kn < 60 → grC fc gc mln ml2 (tp - ac + vc + 3600) → (∀ j : Nat, g0 j = if j = kn then some (na g 0) else k0 j) → (∀ j : Nat, g1 j = if j = kn then nI (i + 1) else k1 j) → (∀ j : Nat, g3 j = if j = kn then nI bs else k2 j) → fiC (C 22) nr g2 kn vn np ff gf → QM (kn + 1) g2 (tp - ac) g0 g1 g3 ml2 cf ft gc (tp - ac + vc) gf) ∧
    (C 0 i = nI 22 → ∃ (T m : Nat) (P : Nat → Nat → Int32 → Prop) (B : Nat → Prop), C 1 i = nI T ∧ T < 3040 ∧ C 22 T = nI m ∧ m ≤ tp ∧ tp ≤ mln ∧ bs + m ≤ mln ∧ drK ak ao (C 22) (C 23) fpa fpt fof fc mh mln P B ∧
      (∀ v vn : Nat, nc g 7 = nI vn → vn ≤ 40 → v < vn → ff (40 * (kn - 1) + v) ≠ 0 → ∃ u o : Nat, nr g 3 v = nI u ∧ u < 3040 ∧ nr g 5 v = nI o ∧ (C 23 u ≠ 0 → P u (bs + o) (ff (40 * (kn - 1) + v)))) ∧
      (1 < kn → ∃ g0 i0 b0 : Nat, g0 < 40 ∧ k0 (kn - 1) = some (na g0 0) ∧ k1 (kn - 1) = nI i0 ∧ k2 (kn - 1) = nI b0 ∧ ∀ (gt gf : Nat → Int32) (vn : Nat), gtB ft gt B → nc g 7 = nI vn → vn ≤ 40 → (∀ j : Nat, gf j = if 40 * (kn - 1) ≤ j ∧ j < 40 * (kn - 1) + vn then 0 else ff j) → QM (kn - 1) g0 b0 k0 k1 k2 mln i0 gt (va_cpy fc fc (tp - m) bs m) (bs + m) gf))
/-- the rows of a function: those of the code and of the types, and its offsets -/
def fgR (C : tF) (FG : Nat → tF) (nr : Nat → Nat → Nat → Int32) : Prop := ∀ g : Nat, FG g 0 = C 0 ∧ FG g 1 = C 1 ∧ FG g 2 = C 2 ∧ FG g 3 = C 3 ∧ FG g 5 = C 5 ∧ FG g 6 = C 6 ∧ FG g 9 = C 9 ∧ FG g 10 = C 10 ∧ FG g 12 = C 12 ∧ FG g 13 = C 13 ∧ FG g 17 = nr g 5 ∧ FG g 22 = C 22 ∧ FG g 23 = C 23
/-- the callers' row holds functions -/
def fkO (na : Nat → Nat → Nat) (k0 : Nat → Option Nat) : Prop := ∀ j : Nat, k0 j = none ∨ ∃ g : Nat, g < 40 ∧ k0 j = some (na g 0)
