theorem fam_no {g : Nat → ClassId} {L : List Nat} {f : Nat → va_E} {rf : Nat → Option Nat} {lb lw : Nat → Nat} {lz : Nat → Int32} {ld : Nat → Nat → Int64} (e : LF g L f rf lb lw lz ld) {b ci : Nat} {ys : List Value} (hb : f b = .inr (ci, ys)) (h : ci ≠ 1) : ∀ j, j < 20 → b ≠ lb j ∧ b ≠ lw j :=
  fun j hj => ⟨ne_rr (e j hj).2.2.1 hb h, ne_ir (e j hj).2.2.2.2 hb⟩
theorem fam_na {g : Nat → ClassId} {L : List Nat} {f : Nat → va_E} {rf : Nat → Option Nat} {lb lw : Nat → Nat} {lz : Nat → Int32} {ld : Nat → Nat → Int64} (e : LF g L f rf lb lw lz ld) {b n : Nat} {c : ClassId} {y} (hb : f b = .inl (c, n, y)) (h : n ≠ 64) : ∀ j, j < 20 → b ≠ lb j ∧ b ≠ lw j :=
  fun j hj => ⟨ne_ri (e j hj).2.2.1 hb, ne_len (e j hj).2.2.2.2 hb h⟩
theorem fam_sy {lb lw : Nat → Nat} {b : Nat} (h : ∀ j, j < 20 → b ≠ lb j ∧ b ≠ lw j) : ∀ j, j < 20 → lb j ≠ b ∧ lw j ≠ b := fun j hj => ⟨Ne.symm (h j hj).1, Ne.symm (h j hj).2⟩
