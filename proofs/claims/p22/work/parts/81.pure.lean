def ntT (t : Int32) : Option (Int32) := if 0 < t then (if t ≤ (65536 : Int32) then (if t ≤ (256 : Int32) then (if t ≤ (16 : Int32) then (if t ≤ (4 : Int32) then (some ((1 : Int32) + (iush_ t (1 : Int32)))) else (lt_ (iush_ t (2 : Int32)) fun y73 => some (((1 : Int32) + 2) + (iush_ y73 (1 : Int32))))) else (lt_ (iush_ t (4 : Int32)) fun y61 => if y61 ≤ (4 : Int32) then (some (((1 : Int32) + 4) + (iush_ y61 (1 : Int32)))) else (some ((((1 : Int32) + 4) + 2) + (iush_ (iush_ y61 (2 : Int32)) (1 : Int32)))))) else (lt_ (iush_ t (8 : Int32)) fun y48 => if y48 ≤ (16 : Int32) then (if y48 ≤ (4 : Int32) then (some (((1 : Int32) + 8) + (iush_ y48 (1 : Int32)))) else (some ((((1 : Int32) + 8) + 2) + (iush_ (iush_ y48 (2 : Int32)) (1 : Int32))))) else (if (iush_ y48 (4 : Int32)) ≤ (4 : Int32) then (some ((((1 : Int32) + 8) + 4) + (iush_ (iush_ y48 (4 : Int32)) (1 : Int32)))) else (some (((((1 : Int32) + 8) + 4) + 2) + (iush_ (iush_ (iush_ y48 (4 : Int32)) (2 : Int32)) (1 : Int32))))))) else (lt_ (iush_ t (16 : Int32)) fun y33 => if y33 ≤ (256 : Int32) then (if y33 ≤ (16 : Int32) then (if y33 ≤ (4 : Int32) then (some (((1 : Int32) + 16) + (iush_ y33 (1 : Int32)))) else (some ((((1 : Int32) + 16) + 2) + (iush_ (iush_ y33 (2 : Int32)) (1 : Int32))))) else (if (iush_ y33 (4 : Int32)) ≤ (4 : Int32) then (some ((((1 : Int32) + 16) + 4) + (iush_ (iush_ y33 (4 : Int32)) (1 : Int32)))) else (some (((((1 : Int32) + 16) + 4) + 2) + (iush_ (iush_ (iush_ y33 (4 : Int32)) (2 : Int32)) (1 : Int32)))))) else (if (iush_ y33 (8 : Int32)) ≤ (16 : Int32) then (if (iush_ y33 (8 : Int32)) ≤ (4 : Int32) then (some ((((1 : Int32) + 16) + 8) + (iush_ (iush_ y33 (8 : Int32)) (1 : Int32)))) else (some (((((1 : Int32) + 16) + 8) + 2) + (iush_ (iush_ (iush_ y33 (8 : Int32)) (2 : Int32)) (1 : Int32))))) else (if (iush_ (iush_ y33 (8 : Int32)) (4 : Int32)) ≤ (4 : Int32) then (some (((((1 : Int32) + 16) + 8) + 4) + (iush_ (iush_ (iush_ y33 (8 : Int32)) (4 : Int32)) (1 : Int32)))) else (lt_ (iush_ (iush_ (iush_ y33 (8 : Int32)) (4 : Int32)) (2 : Int32)) fun y73 => some ((((((1 : Int32) + 16) + 8) + 4) + 2) + (iush_ y73 (1 : Int32)))))))) else (some (t &&& (32 : Int32)))
theorem ntT_eq (x : Int32) : mJ6_numberOfTrailingZeros_0f7a4 x = ntT ((x ^^^ (-1 : Int32)) &&& (x - (1 : Int32))) := rfl
theorem ntT_v : ∀ k : Fin 32, ntT (nI (2 ^ k.val - 1)) = some (nI k.val) := by decide +kernel
theorem bt_nI {n : Nat} (h : n < 2 ^ 32) (i : Nat) : bt (nI n) i = n.testBit i := by
  unfold bt
  rw [BitVec.getLsbD, show (nI n).toBitVec.toNat = n from pk_tn h]
theorem low_t {x : Int32} (hx : x ≠ 0) : ∃ k, k < 32 ∧ (x ^^^ (-1 : Int32)) &&& (x - (1 : Int32)) = nI (2 ^ k - 1) ∧ bt x k = true ∧ ∀ i, i < k → bt x i = false := by
  obtain ⟨n, hn, rfl⟩ := wb_of32 x
  have hn0 : n ≠ 0 := fun h => hx (by rw [h]; rfl)
  obtain ⟨k, hk, hl⟩ := pk_least (fun i => n.testBit i = true) (Nat.exists_testBit_of_ne_zero hn0)
  have hk32 : k < 32 := by
    apply Nat.lt_of_not_le
    intro h
    rw [Nat.testBit_lt_two_pow (Nat.lt_of_lt_of_le hn (Nat.pow_le_pow_right (by decide) h))] at hk
    exact absurd hk (by decide)
  have hmod : n % 2 ^ k = 0 := by
    apply Nat.eq_of_testBit_eq
    intro i
    rw [Nat.testBit_mod_two_pow, Nat.zero_testBit]
    by_cases hi : i < k
    · have := hl i hi
      simp at this
      simp [this]
    · simp [hi]
  have hodd : n / 2 ^ k % 2 = 1 := by
    have := hk
    rw [Nat.testBit_eq_decide_div_mod_eq] at this
    simpa using this
  obtain ⟨q, hq⟩ : ∃ q, n / 2 ^ k = 2 * q + 1 := ⟨n / 2 ^ k / 2, by omega⟩
  have hn2 : n = 2 ^ k * (2 * q + 1) := by
    have := Nat.div_add_mod n (2 ^ k)
    rw [hmod, hq] at this
    omega
  have hp : 0 < 2 ^ k := Nat.two_pow_pos k
  have hn1 : n - 1 = 2 ^ k * (2 * q) + (2 ^ k - 1) := by rw [hn2, Nat.mul_add, Nat.mul_one]; omega
  have hs : nI n - (1 : Int32) = nI (n - 1) := by
    rw [show n = (n - 1) + 1 by omega, nI_pred]; simp
  refine ⟨k, hk32, ?_, by rw [bt_nI hn]; exact hk, fun i hi => by rw [bt_nI hn]; simpa using hl i hi⟩
  rw [hs]
  have hlt : 2 ^ k - 1 < 2 ^ 32 := by
    have : 2 ^ k ≤ 2 ^ 32 := Nat.pow_le_pow_right (by decide) (by omega)
    omega
  apply b_ext
  intro i hi
  rw [b_and, b_xor, b_m1 i hi, bt_nI hn, bt_nI (by omega), bt_nI hlt, hn1, Nat.testBit_two_pow_mul_add _ (by omega), Nat.testBit_two_pow_sub_one]
  rw [show n.testBit i = (2 ^ k * (2 * q + 1) + 0).testBit i by rw [Nat.add_zero, ← hn2], Nat.testBit_two_pow_mul_add _ hp, Nat.zero_testBit]
  by_cases hik : i < k
  · simp [hik]
  · simp only [hik, if_false, decide_false]
    rcases Nat.eq_zero_or_pos (i - k) with h0 | h0
    · rw [h0]; simp
    · obtain ⟨j, hj⟩ : ∃ j, i - k = j + 1 := ⟨i - k - 1, by omega⟩
      rw [hj, Nat.testBit_succ, Nat.testBit_succ]
      have e1 : (2 * q + 1) / 2 = q := by omega
      have e2 : 2 * q / 2 = q := by omega
      rw [e1, e2]
      cases q.testBit j <;> rfl
theorem ntz32 {x : Int32} (hx : x ≠ 0) : ∃ k, k < 32 ∧ mJ6_numberOfTrailingZeros_0f7a4 x = some (nI k) ∧ bt x k = true ∧ ∀ i, i < k → bt x i = false := by
  obtain ⟨k, hk, ht, h1, h2⟩ := low_t hx
  refine ⟨k, hk, ?_, h1, h2⟩
  rw [ntT_eq, ht]
  exact ntT_v ⟨k, hk⟩
/-! bits of a row of words -/
def bw (x : Int64) (i : Nat) : Bool := x.toBitVec.getLsbD i
def bts (v : Nat → Int64) (p : Nat) : Bool := bw (v (p / 64)) (p % 64)
theorem bw_low (x : Int64) {i : Nat} (h : i < 32) : bt x.toInt32 i = bw x i := by
  obtain ⟨n, hn, rfl⟩ := wb_of x
  unfold bw
  rw [lN_i, show nI n = nI (n % 2 ^ 32) from Int32.toBitVec_inj.mp (by show BitVec.ofNat 32 n = BitVec.ofNat 32 _; apply BitVec.eq_of_toNat_eq; simp), bt_nI (Nat.mod_lt _ (by decide)), Nat.testBit_mod_two_pow, BitVec.getLsbD, wb_tn hn]
  simp [h]
theorem lush_N {n k : Nat} (hn : n < 2 ^ 64) (hk : k < 64) : lush_ (lN n) (nI k) = lN (n / 2 ^ k) := wb_shr hn hk
theorem bw_high (x : Int64) {i : Nat} (h : i < 32) : bt (lush_ x (32 : Int32)).toInt32 i = bw x (i + 32) := by
  obtain ⟨n, hn, rfl⟩ := wb_of x
  rw [bw_low _ h, show (32 : Int32) = nI 32 from rfl, lush_N hn (by decide)]
  unfold bw
  rw [BitVec.getLsbD, BitVec.getLsbD, wb_tn hn, wb_tn (Nat.lt_of_le_of_lt (Nat.div_le_self _ _) hn), Nat.testBit_div_two_pow]
theorem bw_ext {x y : Int64} (h : ∀ i, i < 64 → bw x i = bw y i) : x = y := wb_inj (BitVec.eq_of_getLsbD_eq (fun i hi => h i hi))
theorem ntz64 {x : Int64} (hx : x ≠ 0) : ∃ k, k < 64 ∧ mJ13_numberOfTrailingZeros_95d88 x = some (nI k) ∧ bw x k = true ∧ ∀ i, i < k → bw x i = false := by
  unfold mJ13_numberOfTrailingZeros_95d88
  by_cases h0 : x.toInt32 = 0
  · have hl : ∀ i, i < 32 → bw x i = false := fun i hi => by rw [← bw_low x hi, h0]; exact b_0 i
    have hh : (lush_ x (32 : Int32)).toInt32 ≠ 0 := by
      intro q
      apply hx
      apply bw_ext
      intro i hi
      rw [show bw 0 i = false from BitVec.getLsbD_zero]
      by_cases h : i < 32
      · exact hl i h
      · have := bw_high x (i := i - 32) (by omega)
        rw [q, b_0, show i - 32 + 32 = i by omega] at this
        exact this.symm
    obtain ⟨k, hk, e, h1, h2⟩ := ntz32 hh
    rw [bw_high x hk] at h1
    refine ⟨k + 32, by omega, ?_, h1, ?_⟩
    · rw [if_pos h0, e, sb_, show (32 : Int32) = nI 32 from rfl, nI_add, Nat.add_comm]
    · intro i hi
      by_cases h : i < 32
      · exact hl i h
      · have := h2 (i - 32) (by omega)
        rw [bw_high x (by omega), show i - 32 + 32 = i by omega] at this
        exact this
  · obtain ⟨k, hk, e, h1, h2⟩ := ntz32 h0
    rw [bw_low x hk] at h1
    refine ⟨k, by omega, by rw [if_neg h0, e, sb_], h1, fun i hi => ?_⟩
    have := h2 i hi
    rw [bw_low x (by omega)] at this
    exact this
theorem twoP : ∀ k : Fin 64, (lsh_ (1 : Int64) (nI k.val)).toBitVec = BitVec.twoPow 64 k.val := by decide +kernel
theorem bw_or {x : Int64} {k i : Nat} (hk : k < 64) (hi : i < 64) : bw (x ||| lsh_ (1 : Int64) (nI k)) i = (bw x i || decide (i = k)) := by
  unfold bw
  rw [Int64.toBitVec_or, BitVec.getLsbD_or, twoP ⟨k, hk⟩, BitVec.getLsbD_twoPow]
  simp [hk]
  by_cases h : k = i <;> simp [h, eq_comm]
theorem bw_m1 : ∀ i : Fin 64, bw (-1) i.val = true := by decide +kernel
theorem bw_cl {x : Int64} {k i : Nat} (hk : k < 64) (hi : i < 64) : bw (x &&& (lsh_ (1 : Int64) (nI k) ^^^ (-1 : Int64))) i = (bw x i && !decide (i = k)) := by
  have h1 := bw_m1 ⟨i, hi⟩
  unfold bw at *
  rw [Int64.toBitVec_and, BitVec.getLsbD_and, Int64.toBitVec_xor, BitVec.getLsbD_xor, twoP ⟨k, hk⟩, BitVec.getLsbD_twoPow, h1]
  by_cases h : k = i
  · subst h; simp [hk]
  · have : ¬ i = k := fun q => h q.symm
    simp [h, this]
theorem bw_has {x : Int64} {k : Nat} (hk : k < 64) : lg_cmp ((lush_ x (nI k)) &&& (1 : Int64)) (1 : Int64) = 0 ↔ bw x k = true := by
  obtain ⟨n, hn, rfl⟩ := wb_of x
  rw [lg_cmp_eq, lush_N hn hk, wb_a1 (Nat.lt_of_le_of_lt (Nat.div_le_self _ _) hn), show (1 : Int64) = lN 1 from rfl, pk_lEQ (by have := Nat.mod_lt (n / 2 ^ k) (show 0 < 2 by decide); omega) (by decide)]
  unfold bw
  rw [BitVec.getLsbD, wb_tn hn, Nat.testBit_eq_decide_div_mod_eq]
  simp
