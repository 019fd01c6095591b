theorem pu_ix {j i : Nat} : nI j * 1000 + nI i = nI (j * 1000 + i) := by rw [show (1000 : Int32) = nI 1000 from rfl, pk_mul, nI_add]
theorem pu_ix1 {j k : Nat} (h : 0 < k) : nI j * 1000 + nI k - 1 = nI (j * 1000 + (k - 1)) := by
  rw [pu_ix, show j * 1000 + k = (j * 1000 + (k - 1)) + 1 by omega, nI_pred]
