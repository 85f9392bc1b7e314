theorem isI_ob {L : List Nat} {F : Nat → va_E} {fk : Nat → Int32} {kE kI kS kB kA kV kW kT kP : ClassId} {a p m q : Nat} (h : isI L F fk kE kI kS kB kA kV kW kT kP a p m q) : oN 16 L F a := by
  obtain ⟨h1, h2, h3, mn, na, g, h4, h5, h6, h7, h8⟩ := h
  rcases h8 with ⟨wa, ta, q', f, k1, k2⟩ | ⟨vr, q', f, k1, k2⟩ | ⟨lv, wa, ta, pa, lf, lo, q', va, b, bl, rs, f, gl, k1, k2⟩ <;> exact ⟨h1, _, k1⟩
