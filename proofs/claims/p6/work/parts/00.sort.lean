/-! ===== rising rows: what countBelow counts ===== -/
def rising (v : Nat → Int64) (n : Nat) : Prop := ∀ i j, i ≤ j → j < n → v i ≤ v j
theorem cbk_spec {v : Nat → Int64} {n : Nat} {t : Int64} (hs : rising v n) : ∀ (k b : Nat), b ≤ n → (∀ i, i < b → v i < t) → (∀ i, b + (2 ^ k - 1) ≤ i → i < n → ¬ v i < t) →
    (∀ i, i < cbk v n t k b → v i < t) ∧ (∀ i, cbk v n t k b ≤ i → i < n → ¬ v i < t) := by
  intro k
  induction k with
  | zero =>
    intro b hb h1 h2
    exact ⟨h1, fun i hi hn => h2 i (by have hi2 : b ≤ i := hi; simpa using hi2) hn⟩
  | succ k ih =>
    intro b hb h1 h2
    have hp : 0 < 2 ^ k := Nat.two_pow_pos k
    have hq : 2 ^ (k + 1) = 2 ^ k + 2 ^ k := by rw [Nat.pow_succ]; omega
    show (∀ i, i < cbk v n t k (if b + 2 ^ k - 1 < n ∧ v (b + 2 ^ k - 1) < t then b + 2 ^ k else b) → v i < t) ∧ (∀ i, cbk v n t k (if b + 2 ^ k - 1 < n ∧ v (b + 2 ^ k - 1) < t then b + 2 ^ k else b) ≤ i → i < n → ¬ v i < t)
    by_cases h : b + 2 ^ k - 1 < n ∧ v (b + 2 ^ k - 1) < t
    · rw [if_pos h]
      exact ih (b + 2 ^ k) (by omega) (fun i hi => Int64.lt_of_le_of_lt (hs i (b + 2 ^ k - 1) (by omega) h.1) h.2) (fun i hi hn => h2 i (by omega) hn)
    · rw [if_neg h]
      refine ih b hb h1 (fun i hi hn hlt => h ⟨by omega, ?_⟩)
      exact Int64.lt_of_le_of_lt (hs (b + 2 ^ k - 1) i (by omega) hn) hlt
theorem cb_spec {v : Nat → Int64} {n : Nat} {t : Int64} (hs : rising v n) (hn : n ≤ 1000) : (∀ i, i < cb v n t → v i < t) ∧ (∀ i, cb v n t ≤ i → i < n → ¬ v i < t) :=
  cbk_spec hs 10 0 (Nat.zero_le n) (fun i h => absurd h (Nat.not_lt_zero i)) (fun i h h2 => absurd h2 (by omega))
theorem has_iff {v : Nat → Int64} {n : Nat} {t : Int64} (hs : rising v n) (hn : n ≤ 1000) : (cb v n t < n ∧ v (cb v n t) = t) ↔ ∃ i, i < n ∧ v i = t := by
  obtain ⟨h1, h2⟩ := cb_spec (t := t) hs hn
  constructor
  · intro h; exact ⟨_, h.1, h.2⟩
  · rintro ⟨i, hi, e⟩
    have hc : cb v n t ≤ i := Nat.le_of_not_lt (fun q => by have := h1 i q; rw [e] at this; exact Int64.lt_irrefl this)
    have hl : cb v n t < n := by omega
    refine ⟨hl, ?_⟩
    have a1 : v (cb v n t) ≤ t := by have := hs (cb v n t) i hc hi; rw [e] at this; exact this
    have a2 : t ≤ v (cb v n t) := Int64.not_lt.mp (h2 _ (Nat.le_refl _) hl)
    exact Int64.le_antisymm a1 a2
theorem insR_lo {v : Nat → Int64} {n : Nat} {t : Int64} {a : Nat} (h : a < cb v n t) : insR v n t a = v a := by
  unfold insR
  rw [pk_uLn (by omega)]
  exact pk_cpy_out (Or.inl (by omega))
theorem insR_at {v : Nat → Int64} {n : Nat} {t : Int64} : insR v n t (cb v n t) = t := pk_uLs
theorem insR_hi {v : Nat → Int64} {n : Nat} {t : Int64} {a : Nat} (h : cb v n t < a) (ha : a ≤ n) : insR v n t a = v (a - 1) := by
  have hc := cb_le v n t
  unfold insR
  rw [pk_uLn (by omega), pk_cpy_in (by omega) (by omega)]
  congr 1
  omega
theorem insR_rising {v : Nat → Int64} {n : Nat} {t : Int64} (hs : rising v n) (hn : n ≤ 1000) : rising (insR v n t) (n + 1) := by
  obtain ⟨h1, h2⟩ := cb_spec (t := t) hs hn
  have hc := cb_le v n t
  intro i j hij hj
  rcases Nat.lt_trichotomy i (cb v n t) with a | a | a
  · rw [insR_lo a]
    rcases Nat.lt_trichotomy j (cb v n t) with b | b | b
    · rw [insR_lo b]; exact hs i j hij (by omega)
    · rw [b, insR_at]; exact Int64.le_of_lt (h1 i a)
    · rw [insR_hi b (by omega)]; exact hs i (j - 1) (by omega) (by omega)
  · rcases Nat.lt_trichotomy j (cb v n t) with b | b | b
    · omega
    · rw [a, b]; exact Int64.le_refl _
    · rw [a, insR_at, insR_hi b (by omega)]; exact Int64.not_lt.mp (h2 (j - 1) (by omega) (by omega))
  · rw [insR_hi a (by omega), insR_hi (a := j) (by omega) (by omega)]
    exact hs (i - 1) (j - 1) (by omega) (by omega)
/-- what takeOne leaves: the place c goes -/
def delR (v : Nat → Int64) (n c : Nat) : Nat → Int64 := va_cpy v v (c + 1) c (n - c - 1)
theorem delR_lo {v : Nat → Int64} {n c a : Nat} (h : a < c) : delR v n c a = v a := pk_cpy_out (Or.inl h)
theorem delR_hi {v : Nat → Int64} {n c a : Nat} (h : c ≤ a) (ha : a + 1 < n) : delR v n c a = v (a + 1) := by
  unfold delR
  rw [pk_cpy_in h (by omega)]
  congr 1
  omega
theorem delR_rising {v : Nat → Int64} {n c : Nat} (hs : rising v n) (hc : c < n) : rising (delR v n c) (n - 1) := by
  intro i j hij hj
  by_cases a : i < c
  · rw [delR_lo a]
    by_cases b : j < c
    · rw [delR_lo b]; exact hs i j hij (by omega)
    · rw [delR_hi (by omega) (by omega)]; exact hs i (j + 1) (by omega) (by omega)
  · rw [delR_hi (by omega) (by omega), delR_hi (by omega) (by omega)]
    exact hs (i + 1) (j + 1) (by omega) (by omega)
/-- a world: rising, and no thing twice -/
def worldR (v : Nat → Int64) (n : Nat) : Prop := ∀ i j, i < j → j < n → v i < v j
theorem worldR.rising {v : Nat → Int64} {n : Nat} (h : worldR v n) : rising v n := by
  intro i j hij hj
  rcases Nat.lt_or_eq_of_le hij with a | a
  · exact Int64.le_of_lt (h i j a hj)
  · rw [a]; exact Int64.le_refl _
theorem worldR.inj {v : Nat → Int64} {n : Nat} (h : worldR v n) {i j : Nat} (hi : i < n) (hj : j < n) (e : v i = v j) : i = j := by
  rcases Nat.lt_trichotomy i j with a | a | a
  · have := h i j a hj; rw [e] at this; exact absurd this (Int64.lt_irrefl)
  · exact a
  · have := h j i a hi; rw [e] at this; exact absurd this (Int64.lt_irrefl)
theorem worldR_ins {v : Nat → Int64} {n : Nat} {t : Int64} (h : worldR v n) (hn : n ≤ 1000) (ht : ∀ i, i < n → v i ≠ t) : worldR (insR v n t) (n + 1) := by
  obtain ⟨h1, h2⟩ := cb_spec (t := t) h.rising hn
  have hc := cb_le v n t
  intro i j hij hj
  rcases Nat.lt_trichotomy i (cb v n t) with a | a | a
  · rw [insR_lo a]
    rcases Nat.lt_trichotomy j (cb v n t) with b | b | b
    · rw [insR_lo b]; exact h i j hij (by omega)
    · rw [b, insR_at]; exact h1 i a
    · rw [insR_hi b (by omega)]
      rcases Nat.lt_or_eq_of_le (show i ≤ j - 1 by omega) with q | q
      · exact h i (j - 1) q (by omega)
      · omega
  · have hj2 : cb v n t < j := by omega
    rw [a, insR_at, insR_hi hj2 (by omega)]
    have q := Int64.not_lt.mp (h2 (j - 1) (by omega) (by omega))
    exact Int64.lt_of_le_of_ne q (fun e => ht (j - 1) (by omega) e.symm)
  · rw [insR_hi a (by omega), insR_hi (a := j) (by omega) (by omega)]
    exact h (i - 1) (j - 1) (by omega) (by omega)
theorem worldR_del {v : Nat → Int64} {n c : Nat} (h : worldR v n) (hc : c < n) : worldR (delR v n c) (n - 1) := by
  intro i j hij hj
  by_cases a : i < c
  · rw [delR_lo a]
    by_cases b : j < c
    · rw [delR_lo b]; exact h i j hij (by omega)
    · rw [delR_hi (by omega) (by omega)]; exact h i (j + 1) (by omega) (by omega)
  · rw [delR_hi (by omega) (by omega), delR_hi (by omega) (by omega)]
    exact h (i + 1) (j + 1) (by omega) (by omega)
/-- the place where the reference enters a thing is the class's -/
theorem cb_eq {v : Nat → Int64} {n : Nat} {t : Int64} (h : worldR v n) (hn : n ≤ 1000) {k : Nat} (hk : k ≤ n) (hlo : ∀ i, i < k → v i < t) (hhi : ∀ i, k ≤ i → i < n → ¬ v i < t) : cb v n t = k := by
  obtain ⟨h1, h2⟩ := cb_spec (t := t) h.rising hn
  have hc := cb_le v n t
  rcases Nat.lt_trichotomy (cb v n t) k with a | a | a
  · exact absurd (hlo _ a) (h2 _ (Nat.le_refl _) (by omega))
  · exact a
  · exact absurd (h1 k a) (hhi k (Nat.le_refl _) (by omega))
