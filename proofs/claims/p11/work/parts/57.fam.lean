/-! ===== a family of twenty bit rows (the layers) ===== -/
def LF (g : Nat → ClassId) (L : List Nat) (f : Nat → va_E) (rf : Nat → Option Nat) (lb lw : Nat → Nat) (lz : Nat → Int32) (ld : Nat → Nat → Int64) : Prop :=
  ∀ j, j < 20 → rf j = some (lb j) ∧ lb j ∈ L ∧ f (lb j) = .inr (1, [.ref (lw j), .int (lz j)]) ∧ lw j ∈ L ∧ f (lw j) = .inl (g 1, 64, .inr (.inl (ld j)))
def LD (lb lw : Nat → Nat) : Prop := ∀ i j, i < 20 → j < 20 → i ≠ j → lb i ≠ lb j ∧ lw i ≠ lw j
theorem LF_ext {g : Nat → ClassId} {L : List Nat} {f f1 : Nat → va_E} {rf : Nat → Option Nat} {lb lw : Nat → Nat} {lz : Nat → Int32} {ld : Nat → Nat → Int64} (e : LF g L f rf lb lw lz ld) (h : ∀ j, j < 20 → lb j ∈ L → lw j ∈ L → f1 (lb j) = f (lb j) ∧ f1 (lw j) = f (lw j)) : LF g L f1 rf lb lw lz ld := by
  intro j hj
  obtain ⟨h1, h2, h3, h4, h5⟩ := e j hj
  obtain ⟨k1, k2⟩ := h j hj h2 h4
  exact ⟨h1, h2, k1.trans h3, h4, k2.trans h5⟩
theorem LF_up {g : Nat → ClassId} {L : List Nat} {f f1 : Nat → va_E} {rf : Nat → Option Nat} {lb lw : Nat → Nat} {lz : Nat → Int32} {ld : Nat → Nat → Int64} (e : LF g L f rf lb lw lz ld) {a : Nat} {x : va_E} (ef : f1 = va_up f a x) (h : ∀ j, j < 20 → lb j ≠ a ∧ lw j ≠ a) : LF g L f1 rf lb lw lz ld :=
  LF_ext e (fun j hj _ _ => ⟨up_ne ef (h j hj).1 rfl, up_ne ef (h j hj).2 rfl⟩)
theorem vp_lt {i : Int32} {n : Nat} (h : vp_in i n) : i.toNatClampNeg < n := Nat.lt_of_not_le (fun q => h (Or.inr q))
theorem LF_at {g : Nat → ClassId} {L : List Nat} {f : Nat → va_E} {rf : Nat → Option Nat} {lb lw : Nat → Nat} {lz : Nat → Int32} {ld : Nat → Nat → Int64} (e : LF g L f rf lb lw lz ld) {i : Int32} (hi : vp_in i 20) :
    ∃ rb rw : Nat, rb = lb i.toNatClampNeg ∧ rw = lw i.toNatClampNeg ∧ rf i.toNatClampNeg = some rb ∧ rb ∈ L ∧ f rb = .inr (1, [.ref rw, .int (lz i.toNatClampNeg)]) ∧ rw ∈ L ∧ f rw = .inl (g 1, 64, .inr (.inl (ld i.toNatClampNeg))) := by
  obtain ⟨h1, h2, h3, h4, h5⟩ := e _ (vp_lt hi)
  exact ⟨_, _, rfl, rfl, h1, h2, h3, h4, h5⟩
theorem LF_set {g : Nat → ClassId} {L : List Nat} {f f1 : Nat → va_E} {rf : Nat → Option Nat} {lb lw : Nat → Nat} {lz : Nat → Int32} {ld : Nat → Nat → Int64} (e : LF g L f rf lb lw lz ld) (hd : LD lb lw) {i : Int32} (hi : vp_in i 20) {rb rw : Nat} (eb : rb = lb i.toNatClampNeg) (ew : rw = lw i.toNatClampNeg) {z1 : Int32} {d1 : Nat → Int64} (E1 : f1 rb = .inr (1, [.ref rw, .int z1])) (E2 : f1 rw = .inl (g 1, 64, .inr (.inl d1)))
    (h : ∀ j, j < 20 → lb j ∈ L → lw j ∈ L → lb j ≠ rb → lw j ≠ rw → f1 (lb j) = f (lb j) ∧ f1 (lw j) = f (lw j)) : LF g L f1 rf lb lw (upd lz i.toNatClampNeg z1) (va_up ld i.toNatClampNeg d1) := by
  intro j hj
  obtain ⟨h1, h2, h3, h4, h5⟩ := e j hj
  by_cases hij : j = i.toNatClampNeg
  · subst eb ew
    rw [← hij] at E1 E2
    refine ⟨h1, h2, ?_, h4, ?_⟩
    · rw [E1, hij]; simp [upd]
    · rw [E2, hij, va_up_self]
  · obtain ⟨n1, n2⟩ := hd j _ hj (vp_lt hi) hij
    obtain ⟨k1, k2⟩ := h j hj h2 h4 (eb ▸ n1) (ew ▸ n2)
    refine ⟨h1, h2, ?_, h4, ?_⟩
    · rw [k1, h3]; simp [upd, hij]
    · rw [k2, h5, va_up_ne _ _ hij]
