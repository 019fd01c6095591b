def mr (step : Int32) (i : Nat) : Nat := if step = 0 then min i 1 else i
def tk (first : Int64) (step : Int32) (i : Nat) : Int64 := first + (nI i).toInt64 * step.toInt64
theorem mr_le (step : Int32) (i : Nat) : mr step i ≤ i := by unfold mr; split <;> omega
theorem mr_s {step : Int32} {i : Nat} (h : ¬ step = 0) : mr step (i + 1) = mr step i + 1 := by simp [mr, h]
theorem mr_0 {step : Int32} {i : Nat} (h : i = 0) : mr step (i + 1) = mr step i + 1 := by subst h; unfold mr; split <;> rfl
theorem mr_k {step : Int32} {i : Nat} (h : step = 0) (hi : i ≠ 0) : mr step (i + 1) = mr step i := by simp only [mr, if_pos h]; omega
theorem tk_inj {first : Int64} {step : Int32} {a b : Nat} (h : ¬ step = 0) (ha : a ≤ 1000) (hb : b ≤ 1000) (e : tk first step a = tk first step b) : a = b := by
  have e1 : (nI a).toInt64 * step.toInt64 = (nI b).toInt64 * step.toInt64 := by
    have e0 := congrArg (fun z => z - first) e
    simpa [tk, Int64.add_comm, Int64.add_sub_cancel] using e0
  rw [nI_l (by omega), nI_l (by omega)] at e1
  have hs : step.toInt ≠ 0 := fun q => h (Int32.toInt_inj.mp (by rw [q]; rfl))
  have hlo := Int32.le_toInt step
  have hhi := Int32.toInt_lt step
  have m1 : ∀ c : Nat, c ≤ 1000 → (lN c * step.toInt64).toInt = (c : Int) * step.toInt := by
    intro c hc
    rw [Int64.toInt_mul, lN_toInt (by omega), Int32.toInt_toInt64]
    apply Int.bmod_eq_of_le
    · have : (c : Int) * step.toInt ≥ -(1000 * 2147483648) := by
        have h1 : (c : Int) ≤ 1000 := by omega
        have h2 : (0 : Int) ≤ c := by omega
        rcases Int.le_total 0 step.toInt with q | q
        · have := Int.mul_nonneg h2 q; omega
        · have := Int.mul_le_mul_of_nonpos_right h1 q
          have q2 : (1000 : Int) * step.toInt ≥ 1000 * (-2147483648) := by omega
          omega
      omega
    · have : (c : Int) * step.toInt ≤ 1000 * 2147483648 := by
        have h1 : (c : Int) ≤ 1000 := by omega
        have h2 : (0 : Int) ≤ c := by omega
        rcases Int.le_total 0 step.toInt with q | q
        · have := Int.mul_le_mul_of_nonneg_right h1 q; omega
        · have := Int.mul_nonneg_of_nonpos_of_nonpos (a := -c) (b := step.toInt) (by omega) q
          rw [Int.neg_mul] at this
          omega
      omega
  have e2 := congrArg Int64.toInt e1
  rw [m1 a ha, m1 b hb] at e2
  have := Int.eq_of_mul_eq_mul_right hs e2
  omega
theorem tk_0 {first : Int64} {step : Int32} (h : step = 0) (a b : Nat) : tk first step a = tk first step b := by
  subst h
  have z : (0 : Int32).toInt64 = 0 := rfl
  simp [tk, z]
