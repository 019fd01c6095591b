theorem cb_1 {v : Nat → Int64} {t : Int64} (h : v 0 = t) : cb v 1 t = 0 := by
  have e : ∀ k b : Nat, 1 ≤ k → cbk v 1 t (k + 1) 0 = cbk v 1 t k 0 := by
    intro k b hk
    show cbk v 1 t k _ = cbk v 1 t k 0
    have : 2 ≤ 2 ^ k := by
      calc 2 = 2 ^ 1 := rfl
        _ ≤ 2 ^ k := Nat.pow_le_pow_right (by decide) hk
    rw [if_neg (fun q => absurd q.1 (by omega))]
  unfold cb
  rw [e 9 0 (by decide), e 8 0 (by decide), e 7 0 (by decide), e 6 0 (by decide), e 5 0 (by decide), e 4 0 (by decide), e 3 0 (by decide), e 2 0 (by decide), e 1 0 (by decide)]
  show cbk v 1 t 0 (if 0 + 2 ^ 0 - 1 < 1 ∧ v (0 + 2 ^ 0 - 1) < t then 0 + 2 ^ 0 else 0) = 0
  rw [if_neg (fun q => by have q2 : v 0 < t := q.2; rw [h] at q2; exact Int64.lt_irrefl q2)]
  rfl
theorem insR_mem {v : Nat → Int64} {n : Nat} {t : Int64} {a : Nat} (ha : a ≤ n) : insR v n t a = t ∨ ∃ b, b < n ∧ insR v n t a = v b := by
  have hc := cb_le v n t
  unfold insR
  generalize cb v n t = q at hc
  by_cases h1 : a = q
  · subst h1; exact Or.inl pk_uLs
  · rw [pk_uLn h1]
    by_cases h2 : a < q
    · exact Or.inr ⟨a, by omega, pk_cpy_out (Or.inl (by omega))⟩
    · exact Or.inr ⟨q + (a - (q + 1)), by omega, pk_cpy_in (by omega) (by omega)⟩
