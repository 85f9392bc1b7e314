/-- where a running stands: at i, with taken cells, cells, top, filled bits -/
abbrev qaT := Nat → (Nat → Int32) → (Nat → Int64) → Nat → (Nat → Int32) → Prop
/-- a place, as the class's rows tell it; ad: the addresses on its way -/
def plC (F : tF) (fc : Nat → Int64) (bs mln p v u s q : Nat) (ad : Nat → Nat) : Prop := p < 3002 ∧ v < 40 ∧ F 6 p = nI v ∧ (F 9 p &&& 15 = nI q ∧ q ≤ 15) ∧ nI bs + F 17 v + ((F 9 p >>> ((4 : Int32) &&& 31)) &&& 15) = nI (ad 0) ∧ (∀ i : Nat, i < q → ad i < mln ∧ (fc (ad i)).toInt32 + ((F 9 p >>> ((4 + 4 * nI (i + 1)) &&& 31)) &&& 15) = nI (ad (i + 1))) ∧ F 10 p = nI u ∧ u < 3040 ∧ F 22 u = nI s ∧ s ≤ 16 ∧ ad q + s ≤ mln
/-- a step of an instruction that works on values -/
def stV (F : tF) (bs b9 mh mln : Nat) (QA : qaT) : Prop := ∀ (i tp : Nat) (ft ff : Nat → Int32) (fc : Nat → Int64), QA i ft fc tp ff → (i < 6000 ∧ tp + 40 ≤ mln) ∧
  ((F 0 i = nI 0 ∨ F 0 i = nI 1) → ∀ gc : Nat → Int64, (∀ k : Nat, k < tp → gc k = fc k) → QA (i + 1) ft gc (tp + 1) ff) ∧
  (F 0 i = nI 2 → ∃ (p v u s q : Nat) (ad : Nat → Nat), F 1 i = nI p ∧ plC F fc bs mln p v u s q ad ∧ QA (i + 1) ft (va_cpy fc fc (ad q) tp s) (tp + s) ff) ∧
  (F 0 i = nI 3 → ∃ (p v u s q : Nat) (ad : Nat → Nat), F 1 i = nI p ∧ plC F fc bs mln p v u s q ad ∧ (0 < q → ad q + s ≤ mh) ∧ b9 + v < 2400 ∧ ∀ gt : Nat → Int32, ((q = 0 ∧ gt = ft) ∨ (0 < q ∧ ∀ j : Nat, gt j = if ad q ≤ j ∧ j < ad q + s then 0 else ft j)) → QA (i + 1) gt (va_cpy fc fc (ad q) tp s) (tp + s) (upd ff (b9 + v) (ff (b9 + v) &&& (F 12 p ^^^ -1)))) ∧
  (F 0 i = nI 4 → ∃ (p v u s q : Nat) (ad : Nat → Nat), F 1 i = nI p ∧ plC F fc bs mln p v u s q ad ∧ QA (i + 1) ft (vp_updL fc tp (nI (ad q)).toInt64) (tp + 1) ff) ∧
  ((F 0 i = nI 5 ∨ F 0 i = nI 6) → 1 ≤ tp ∧ ∀ gc : Nat → Int64, (∀ k : Nat, k + 1 < tp → gc k = fc k) → QA (i + 1) ft gc tp ff) ∧
  (F 0 i = nI 7 → 2 ≤ tp ∧ ∀ gc : Nat → Int64, (∀ k : Nat, k + 2 < tp → gc k = fc k) → QA (i + 1) ft gc (tp - 1) ff) ∧
  (F 0 i = nI 8 → ∃ T m : Nat, F 1 i = nI T ∧ T < 3040 ∧ F 22 T = nI m ∧ 1 ≤ m ∧ m ≤ 16 ∧ m ≤ tp ∧ ∀ (a : Nat) (gt : Nat → Int32), a + m ≤ mh → (∀ j : Nat, a ≤ j → j < a + m → ft j = 0) → (∀ j : Nat, gt j = if a ≤ j ∧ j < a + m then 1 else ft j) → QA (i + 1) gt (vp_updL (va_cpy fc fc (tp - m) a m) (tp - m) (nI a).toInt64) (tp - m + 1) ff) ∧
  ((F 0 i = nI 9 ∨ F 0 i = nI 12) → ∃ m : Nat, F 1 i = nI m ∧ m ≤ 16 ∧ QA (i + 1) ft fc (tp + m) ff) ∧
  (F 0 i = nI 10 → ∃ off m sz : Nat, F 1 i = nI off ∧ F 2 i = nI m ∧ F 3 i = nI sz ∧ off + m ≤ sz ∧ sz ≤ 16 ∧ sz + m ≤ tp ∧ QA (i + 1) ft (va_cpy fc fc (tp - m) (tp - m - sz + off) m) (tp - m) ff) ∧
  (F 0 i = nI 11 → ∃ gg : Nat, F 1 i = nI gg ∧ QA (i + 1) ft (vp_updL fc tp (nI gg).toInt64) (tp + 1) ff)
/-- a step of an instruction that goes elsewhere -/
def stG (F : tF) (mln : Nat) (QA : qaT) : Prop := ∀ (i tp : Nat) (ft ff : Nat → Int32) (fc : Nat → Int64), QA i ft fc tp ff → (i < 6000 ∧ tp + 40 ≤ mln) ∧
  ((F 0 i = nI 13 ∨ F 0 i = nI 14 ∨ F 0 i = nI 23) → QA (i + 1) ft fc tp ff) ∧
  ((F 0 i = nI 15 ∨ F 0 i = nI 16) → ∃ l j : Nat, l < 1100 ∧ F 1 i = nI l ∧ F 5 l = nI j ∧ QA j ft fc tp ff) ∧
  (F 0 i = nI 17 → 1 ≤ tp ∧ QA (i + 1) ft fc (tp - 1) ff ∧ ∃ l j : Nat, l < 1100 ∧ F 1 i = nI l ∧ F 5 l = nI j ∧ QA j ft fc (tp - 1) ff) ∧
  ((F 0 i = nI 18 ∨ F 0 i = nI 19) → 1 ≤ tp ∧ QA (i + 1) ft fc (tp - 1) ff ∧ ∃ l j : Nat, l < 1100 ∧ F 1 i = nI l ∧ F 5 l = nI j ∧ QA j ft fc tp ff) ∧
  (F 0 i = nI 20 → ∃ tc gg l j : Nat, F 1 i = nI tc ∧ tc + gg < 3002 ∧ F 13 (tc + gg) = nI l ∧ l < 1100 ∧ F 5 l = nI j ∧ ((∃ sz : Nat, F 2 i = nI sz ∧ 1 ≤ sz ∧ sz ≤ 16 ∧ sz ≤ tp ∧ (fc (tp - sz)).toInt32 = nI gg) ∨ (F 2 i = nI 0 ∧ 1 ≤ tp ∧ ∃ ad : Nat, (fc (tp - 1)).toInt32 = nI ad ∧ ad < mln ∧ (fc ad).toInt32 = nI gg)) ∧ QA j ft fc tp ff)
/-- what is still taken after a drop that may free B -/
def gtB (ft gt : Nat → Int32) (B : Nat → Prop) : Prop := ∀ j : Nat, gt j = ft j ∨ (gt j = 0 ∧ B j)
/-- a step of an instruction that works on variables; et: the raw types of the function's variables, ak .. fof: the types' raw rows -/
def stE (F : tF) (et ak ao fpa fpt fof : Nat → Int32) (bs b9 mh mln : Nat) (QA : qaT) : Prop := ∀ (i tp : Nat) (ft ff : Nat → Int32) (fc : Nat → Int64), QA i ft fc tp ff → (i < 6000 ∧ tp + 40 ≤ mln) ∧
  (F 0 i = nI 24 → ∃ v T m o : Nat, F 1 i = nI v ∧ v < 40 ∧ et v = nI T ∧ T < 3040 ∧ F 22 T = nI m ∧ F 17 v = nI o ∧ bs + o + m ≤ mln ∧ m ≤ tp ∧ b9 + v < 2400 ∧ QA (i + 1) ft (va_cpy fc fc (tp - m) (bs + o) m) (tp - m) (upd ff (b9 + v) (fuI (F 22) T))) ∧
  (F 0 i = nI 25 → ∃ v : Nat, F 1 i = nI v ∧ b9 + v < 2400 ∧ QA (i + 1) ft fc tp (upd ff (b9 + v) 0)) ∧
  (F 0 i = nI 26 → ∃ (p v u s q : Nat) (ad : Nat → Nat) (P : Nat → Nat → Int32 → Prop) (B : Nat → Prop), F 1 i = nI p ∧ plC F fc bs mln p v u s q ad ∧ s ≤ tp ∧ b9 + v < 2400 ∧ drK ak ao (F 22) (F 23) fpa fpt fof fc mh mln P B ∧ (q = 0 → F 23 u ≠ 0 → P u (ad q) ((ff (b9 + v) &&& F 12 p) >>> (((F 9 p >>> ((4 : Int32) &&& 31)) &&& 15) &&& 31))) ∧ (0 < q → F 23 u ≠ 0 → P u (ad q) 65535) ∧ ∀ gt gf : Nat → Int32, gtB ft gt B → ((q = 0 ∧ gf = upd ff (b9 + v) (ff (b9 + v) ||| F 12 p)) ∨ (0 < q ∧ gf = ff)) → QA (i + 1) gt (va_cpy fc fc (tp - s) (ad q) s) (tp - s) gf) ∧
  (F 0 i = nI 27 → ∃ (T m : Nat) (P : Nat → Nat → Int32 → Prop) (B : Nat → Prop), F 1 i = nI T ∧ T < 3040 ∧ F 22 T = nI m ∧ m ≤ tp ∧ drK ak ao (F 22) (F 23) fpa fpt fof fc mh mln P B ∧ (F 23 T ≠ 0 → P T (tp - m) 65535) ∧ ∀ gt : Nat → Int32, gtB ft gt B → QA (i + 1) gt fc (tp - m) ff) ∧
  (F 0 i = nI 28 → 1 ≤ tp ∧ QA (i + 1) ft fc (tp - 1) ff) ∧
  (F 0 i = nI 29 → ∃ v T m o off sz : Nat, F 1 i = nI v ∧ v < 40 ∧ et v = nI T ∧ T < 3040 ∧ F 22 T = nI m ∧ F 17 v = nI o ∧ bs + o + m ≤ mln ∧ F 2 i = nI off ∧ F 3 i = nI sz ∧ off + m ≤ sz ∧ sz ≤ tp ∧ b9 + v < 2400 ∧ QA (i + 1) ft (va_cpy fc fc (tp - sz + off) (bs + o) m) tp (upd ff (b9 + v) (fuI (F 22) T))) ∧
  (F 0 i = nI 30 → ∃ v o off : Nat, F 1 i = nI v ∧ v < 40 ∧ F 17 v = nI o ∧ bs + o < mln ∧ F 2 i = nI off ∧ 1 ≤ tp ∧ b9 + v < 2400 ∧ QA (i + 1) ft (vp_updL fc (bs + o) (fc (tp - 1) + (nI off).toInt64)) tp (upd ff (b9 + v) 1)) ∧
  (F 0 i = nI 31 → ∃ m : Nat, F 1 i = nI m ∧ m ≤ tp ∧ QA (i + 1) ft fc (tp - m) ff) ∧
  (F 0 i = nI 32 → ∃ (v0 v1 : Nat) (P : Nat → Nat → Int32 → Prop) (B : Nat → Prop), F 1 i = nI v0 ∧ F 2 i = nI v1 ∧ v0 ≤ v1 ∧ v1 ≤ 40 ∧ b9 + 40 ≤ 2400 ∧ drK ak ao (F 22) (F 23) fpa fpt fof fc mh mln P B ∧ (∀ v : Nat, v0 ≤ v → v < v1 → ff (b9 + v) ≠ 0 → ∃ u o : Nat, et v = nI u ∧ u < 3040 ∧ F 17 v = nI o ∧ (F 23 u ≠ 0 → P u (bs + o) (ff (b9 + v)))) ∧ ∀ gt gf : Nat → Int32, gtB ft gt B → (∀ j : Nat, gf j = if b9 + v0 ≤ j ∧ j < b9 + v1 then 0 else ff j) → QA (i + 1) gt fc tp gf)
