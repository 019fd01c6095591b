theorem pu_dec {n : Nat} (h : 0 < n) : nI n - 1 = nI (n - 1) := by
  obtain ⟨k, rfl⟩ : ∃ k, n = k + 1 := ⟨n - 1, by omega⟩
  exact nI_pred k
theorem pu_sub1 {n q : Nat} (h : q < n) : nI n - nI q - 1 = nI (n - q - 1) := by
  rw [pk_sub (by omega)]
  exact pu_dec (by omega)
