/-! ===== taking off: counts at places ===== -/
def cnt (pl : Nat → Nat → Nat) (c : Nat) (off : Nat → Bool) : Nat → Nat → Nat
  | 0, _ => 0
  | t + 1, p => cnt pl c off t p + (if off t = false ∧ pl t (p / c) = p then 1 else 0)
def xr (pl : Nat → Nat → Nat) (c : Nat) (off : Nat → Bool) : Nat → Nat → Nat
  | 0, _ => 0
  | t + 1, p => xr pl c off t p ^^^ (if off t = false ∧ pl t (p / c) = p then t else 0)
def offU (off : Nat → Bool) (t0 : Nat) : Nat → Bool := fun t => (t0 == t) || off t
def offB (T : Nat → Nat) : Nat → Nat → Bool
  | 0 => fun _ => false
  | i + 1 => offU (offB T i) (T i)
section TakeOff
variable {pl : Nat → Nat → Nat} {c : Nat}
theorem cnt_le (off : Nat → Bool) (n p : Nat) : cnt pl c off n p ≤ n := by
  induction n with
  | zero => exact Nat.le_refl _
  | succ t ih =>
    show cnt pl c off t p + _ ≤ t + 1
    split <;> omega
theorem cnt0 {off : Nat → Bool} {n p : Nat} (h : cnt pl c off n p = 0) : xr pl c off n p = 0 ∧ ∀ t, t < n → ¬ (off t = false ∧ pl t (p / c) = p) := by
  induction n with
  | zero => exact ⟨rfl, fun t ht => absurd ht (by omega)⟩
  | succ t ih =>
    have h' : cnt pl c off t p + (if off t = false ∧ pl t (p / c) = p then 1 else 0) = 0 := h
    by_cases q : off t = false ∧ pl t (p / c) = p
    · rw [if_pos q] at h'; omega
    · rw [if_neg q] at h'
      obtain ⟨h1, h2⟩ := ih (by omega)
      refine ⟨?_, fun u hu => ?_⟩
      · show xr pl c off t p ^^^ (if off t = false ∧ pl t (p / c) = p then t else 0) = 0
        rw [if_neg q, h1]; rfl
      · by_cases e : u = t
        · subst e; exact q
        · exact h2 u (by omega)
theorem cnt1 {off : Nat → Bool} {n p : Nat} (h : cnt pl c off n p = 1) : ∃ t, t < n ∧ off t = false ∧ pl t (p / c) = p ∧ xr pl c off n p = t ∧ ∀ u, u < n → off u = false → pl u (p / c) = p → u = t := by
  induction n with
  | zero => exact absurd (show (0 : Nat) = 1 from h) (by decide)
  | succ t ih =>
    have h' : cnt pl c off t p + (if off t = false ∧ pl t (p / c) = p then 1 else 0) = 1 := h
    by_cases q : off t = false ∧ pl t (p / c) = p
    · rw [if_pos q] at h'
      obtain ⟨h1, h2⟩ := cnt0 (pl := pl) (c := c) (off := off) (n := t) (p := p) (by omega)
      refine ⟨t, by omega, q.1, q.2, ?_, fun u hu a b => ?_⟩
      · show xr pl c off t p ^^^ (if off t = false ∧ pl t (p / c) = p then t else 0) = t
        rw [if_pos q, h1, Nat.zero_xor]
      · by_cases e : u = t
        · exact e
        · exact absurd ⟨a, b⟩ (h2 u (by omega))
    · rw [if_neg q] at h'
      obtain ⟨u, hu, a, b, e, hq⟩ := ih (by omega)
      refine ⟨u, by omega, a, b, ?_, fun w hw a1 b1 => ?_⟩
      · show xr pl c off t p ^^^ (if off t = false ∧ pl t (p / c) = p then t else 0) = u
        rw [if_neg q, Nat.xor_zero, e]
      · by_cases e2 : w = t
        · subst e2; exact absurd ⟨a1, b1⟩ q
        · exact hq w (by omega) a1 b1
theorem cnt_off {off : Nat → Bool} {t0 : Nat} (h : off t0 = false) (n p : Nat) : cnt pl c off n p = cnt pl c (offU off t0) n p + (if t0 < n ∧ pl t0 (p / c) = p then 1 else 0) := by
  induction n with
  | zero => rw [if_neg (fun q => by omega)]; rfl
  | succ t ih =>
    show cnt pl c off t p + (if off t = false ∧ pl t (p / c) = p then 1 else 0) = cnt pl c (offU off t0) t p + (if offU off t0 t = false ∧ pl t (p / c) = p then 1 else 0) + _
    rw [ih]
    by_cases e : t = t0
    · subst e
      have h2 : offU off t t = true := by simp [offU]
      rw [h2, h]
      by_cases q : pl t (p / c) = p
      · simp [q]
      · simp [q]
    · have h2 : offU off t0 t = off t := by
        have : (t0 == t) = false := by simp; omega
        simp [offU, this]
      rw [h2]
      have h3 : (t0 < t + 1 ∧ pl t0 (p / c) = p) ↔ (t0 < t ∧ pl t0 (p / c) = p) := by
        constructor
        · intro q; exact ⟨by omega, q.2⟩
        · intro q; exact ⟨by omega, q.2⟩
      simp only [h3]
      omega
theorem xr_off {off : Nat → Bool} {t0 : Nat} (h : off t0 = false) (n p : Nat) : xr pl c off n p = xr pl c (offU off t0) n p ^^^ (if t0 < n ∧ pl t0 (p / c) = p then t0 else 0) := by
  induction n with
  | zero => rw [if_neg (fun q => by omega), Nat.xor_zero]; rfl
  | succ t ih =>
    show xr pl c off t p ^^^ (if off t = false ∧ pl t (p / c) = p then t else 0) = (xr pl c (offU off t0) t p ^^^ (if offU off t0 t = false ∧ pl t (p / c) = p then t else 0)) ^^^ _
    rw [ih]
    by_cases e : t = t0
    · subst e
      have h2 : offU off t t = true := by simp [offU]
      rw [h2, h, if_neg (show ¬ (t < t ∧ pl t (p / c) = p) from fun q => by omega)]
      by_cases q : pl t (p / c) = p
      · simp [q]
      · simp [q]
    · have h2 : offU off t0 t = off t := by
        have : (t0 == t) = false := by simp; omega
        simp [offU, this]
      rw [h2]
      have h3 : (t0 < t + 1 ∧ pl t0 (p / c) = p) ↔ (t0 < t ∧ pl t0 (p / c) = p) := by
        constructor
        · intro q; exact ⟨by omega, q.2⟩
        · intro q; exact ⟨by omega, q.2⟩
      simp only [h3]
      rw [Nat.xor_assoc, Nat.xor_assoc, Nat.xor_comm (if t0 < t ∧ pl t0 (p / c) = p then t0 else 0)]
/-- i things are taken off, T j at P j -/
def RunS (pl : Nat → Nat → Nat) (c n : Nat) (T P : Nat → Nat) (i : Nat) : Prop :=
  ∀ j, j < i → T j < n ∧ offB T j (T j) = false ∧ P j < 3 * c ∧ pl (T j) (P j / c) = P j ∧ cnt pl c (offB T j) n (P j) = 1 ∧ ∀ q, q < P j → cnt pl c (offB T j) n q ≠ 1
theorem offB_congr {T T2 : Nat → Nat} {i : Nat} (h : ∀ j, j < i → T j = T2 j) : offB T i = offB T2 i := by
  induction i with
  | zero => rfl
  | succ i ih =>
    show offU (offB T i) (T i) = offU (offB T2 i) (T2 i)
    rw [ih (fun j hj => h j (by omega)), h i (by omega)]
theorem RunS_add {n i t p : Nat} {T P : Nat → Nat} (h : RunS pl c n T P i) (ht : t < n) (ho : offB T i t = false) (hp : p < 3 * c) (hpl : pl t (p / c) = p) (h1 : cnt pl c (offB T i) n p = 1) (hl : ∀ q, q < p → cnt pl c (offB T i) n q ≠ 1) : RunS pl c n (va_up T i t) (va_up P i p) (i + 1) := by
  intro j hj
  have ec : ∀ k, k ≤ i → offB (va_up T i t) k = offB T k := fun k hk => offB_congr (fun m hm => va_up_ne _ _ (by omega))
  rw [ec j (by omega)]
  by_cases e : j = i
  · subst e
    rw [va_up_self, va_up_self]
    exact ⟨ht, ho, hp, hpl, h1, hl⟩
  · rw [va_up_ne _ _ e, va_up_ne _ _ e]
    exact h j (by omega)
theorem offB_add {i t : Nat} {T : Nat → Nat} : offB (va_up T i t) (i + 1) = offU (offB T i) t := by
  show offU (offB (va_up T i t) i) (va_up T i t i) = _
  rw [va_up_self, offB_congr (T := va_up T i t) (T2 := T) (fun m hm => va_up_ne _ _ (by omega))]
/-- two runs agree -/
theorem RunS_uniq {n : Nat} {T P T2 P2 : Nat → Nat} {i : Nat} (h : RunS pl c n T P i) (h2 : RunS pl c n T2 P2 i) : ∀ j, j < i → T j = T2 j ∧ P j = P2 j := by
  induction i with
  | zero => intro j hj; omega
  | succ i ih =>
    have ih' := ih (fun j hj => h j (by omega)) (fun j hj => h2 j (by omega))
    intro j hj
    by_cases e : j = i
    · subst e
      obtain ⟨a1, a2, a3, a4, a5, a6⟩ := h j (by omega)
      obtain ⟨b1, b2, b3, b4, b5, b6⟩ := h2 j (by omega)
      have eo : offB T2 j = offB T j := offB_congr (fun m hm => (ih' m hm).1.symm)
      rw [eo] at b2 b5 b6
      have ep : P j = P2 j := by
        rcases Nat.lt_trichotomy (P j) (P2 j) with q | q | q
        · exact absurd a5 (b6 _ q)
        · exact q
        · exact absurd b5 (a6 _ q)
      obtain ⟨t, -, -, -, -, hu⟩ := cnt1 a5
      rw [← ep] at b4
      exact ⟨(hu _ a1 a2 a4).trans (hu _ b1 b2 b4).symm, ep⟩
    · exact ih' j (by omega)
end TakeOff
