/-! ===== how many bits are set ===== -/
theorem bcn_fa (P : Nat → Prop) (a : Nat) : ∀ b, fC P (a + b) = fC P a + fC (fun i => P (a + i)) b := by
  intro b
  induction b with
  | zero => exact (Nat.add_zero (fC P a)).symm
  | succ b ih =>
    show fC P (a + b + 1) = fC P a + fC (fun i => P (a + i)) (b + 1)
    by_cases h : P (a + b)
    · have e1 := fC_y (P := P) (n := a + b) h
      have e2 : fC (fun i => P (a + i)) (b + 1) = fC (fun i => P (a + i)) b + 1 := fC_y (P := fun i => P (a + i)) (n := b) h
      omega
    · have e1 := fC_n (P := P) (n := a + b) h
      have e2 : fC (fun i => P (a + i)) (b + 1) = fC (fun i => P (a + i)) b := fC_n (P := fun i => P (a + i)) (n := b) h
      omega
theorem bcn_no {P : Nat → Prop} : ∀ d, (∀ i, i < d → ¬ P i) → fC P d = 0 := by
  intro d
  induction d with
  | zero => intro _; rfl
  | succ d ih =>
    intro h
    rw [fC_n (P := P) (h d (Nat.lt_succ_self d))]
    exact ih (fun i hi => h i (by omega))
theorem bcn_and {a b c d : Nat} (ha : a < 256) (hc : c < 256) : (a + 256 * b) &&& (c + 256 * d) = (a &&& c) + 256 * (b &&& d) := by
  have h1 : ((a + 256 * b) &&& (c + 256 * d)) % 2 ^ 8 = a &&& c := by
    rw [Nat.and_mod_two_pow, show (a + 256 * b) % 2 ^ 8 = a by omega, show (c + 256 * d) % 2 ^ 8 = c by omega]
  have h2 : ((a + 256 * b) &&& (c + 256 * d)) / 2 ^ 8 = b &&& d := by
    rw [Nat.and_div_two_pow, show (a + 256 * b) / 2 ^ 8 = b by omega, show (c + 256 * d) / 2 ^ 8 = d by omega]
  have h3 := Nat.div_add_mod ((a + 256 * b) &&& (c + 256 * d)) (2 ^ 8)
  rw [h1, h2] at h3
  exact h3.symm.trans (Nat.add_comm _ _)
theorem bcn_ar1 {lo hi u w : Nat} (h1 : u ≤ lo / 2) (h2 : w ≤ hi / 2) : lo + 256 * hi - (u + 256 * w) = (lo - u) + 256 * (hi - w) := by omega
theorem bcn_ar2 {y z u w : Nat} : (y + 256 * z) + (u + 256 * w) = (y + u) + 256 * (z + w) := by omega
theorem bcn_ar3 {u w : Nat} (h : u % 16 ≤ 4) : (u + 256 * w) % 16 ≤ 4 := by omega
def bcn_q : Nat → Nat
  | 0 => 1
  | n + 1 => 256 * bcn_q n
def bcn_k (c : Nat) : Nat → Nat
  | 0 => 0
  | n + 1 => c + 256 * bcn_k c n
theorem bcn_ks (c n : Nat) : bcn_k c (n + 1) = c + 256 * bcn_k c n := rfl
def bcn_1 (m X : Nat) : Nat := X - ((X / 2) &&& m)
def bcn_2 (m X : Nat) : Nat := (X &&& m) + ((X / 4) &&& m)
def bcn_3 (m X : Nat) : Nat := (X + X / 16) &&& m
theorem bcn_d1 : ∀ lo : Fin 256, ∀ e : Fin 2, (lo.val / 2 + 128 * e.val) &&& 85 = (lo.val / 2) &&& 85 := by decide +kernel
theorem bcn_d2 : ∀ lo : Fin 256, ∀ e : Fin 4, (lo.val / 4 + 64 * e.val) &&& 51 = (lo.val / 4) &&& 51 := by decide +kernel
theorem bcn_d3 : ∀ lo : Fin 69, ∀ e : Fin 5, (lo.val + lo.val / 16 + 16 * e.val) &&& 15 = (lo.val + lo.val / 16) &&& 15 := by decide +kernel
theorem bcn_b1 {lo hi n : Nat} (hl : lo < 256) : bcn_1 (bcn_k 85 (n + 1)) (lo + 256 * hi) = bcn_1 85 lo + 256 * bcn_1 (bcn_k 85 n) hi := by
  have e1 : (lo + 256 * hi) / 2 = (lo / 2 + 128 * (hi % 2)) + 256 * (hi / 2) := by omega
  have e2 : (lo / 2 + 128 * (hi % 2)) &&& 85 = (lo / 2) &&& 85 := bcn_d1 ⟨lo, hl⟩ ⟨hi % 2, Nat.mod_lt _ (by decide)⟩
  have h1 : (lo / 2) &&& 85 ≤ lo / 2 := Nat.and_le_left
  have h2 : (hi / 2) &&& bcn_k 85 n ≤ hi / 2 := Nat.and_le_left
  have e3 : (lo + 256 * hi) / 2 &&& bcn_k 85 (n + 1) = ((lo / 2) &&& 85) + 256 * ((hi / 2) &&& bcn_k 85 n) := by
    rw [e1, bcn_ks, bcn_and (a := lo / 2 + 128 * (hi % 2)) (by omega) (by decide), e2]
  unfold bcn_1
  rw [e3]
  exact bcn_ar1 h1 h2
theorem bcn_b2 {lo hi n : Nat} (hl : lo < 256) : bcn_2 (bcn_k 51 (n + 1)) (lo + 256 * hi) = bcn_2 51 lo + 256 * bcn_2 (bcn_k 51 n) hi := by
  have e1 : (lo + 256 * hi) / 4 = (lo / 4 + 64 * (hi % 4)) + 256 * (hi / 4) := by omega
  have e2 : (lo / 4 + 64 * (hi % 4)) &&& 51 = (lo / 4) &&& 51 := bcn_d2 ⟨lo, hl⟩ ⟨hi % 4, Nat.mod_lt _ (by decide)⟩
  have e3 : (lo + 256 * hi) / 4 &&& bcn_k 51 (n + 1) = ((lo / 4) &&& 51) + 256 * ((hi / 4) &&& bcn_k 51 n) := by
    rw [e1, bcn_ks, bcn_and (a := lo / 4 + 64 * (hi % 4)) (by omega) (by decide), e2]
  have e4 : (lo + 256 * hi) &&& bcn_k 51 (n + 1) = (lo &&& 51) + 256 * (hi &&& bcn_k 51 n) := by
    rw [bcn_ks, bcn_and hl (by decide)]
  unfold bcn_2
  rw [e3, e4]
  exact bcn_ar2
theorem bcn_b3 {lo hi n : Nat} (hl : lo ≤ 68) (hh : hi % 16 ≤ 4) : bcn_3 (bcn_k 15 (n + 1)) (lo + 256 * hi) = bcn_3 15 lo + 256 * bcn_3 (bcn_k 15 n) hi := by
  have e1 : lo + 256 * hi + (lo + 256 * hi) / 16 = (lo + lo / 16 + 16 * (hi % 16)) + 256 * (hi + hi / 16) := by omega
  have e2 : (lo + lo / 16 + 16 * (hi % 16)) &&& 15 = (lo + lo / 16) &&& 15 := bcn_d3 ⟨lo, by omega⟩ ⟨hi % 16, by omega⟩
  unfold bcn_3
  rw [e1, bcn_ks, bcn_and (a := lo + lo / 16 + 16 * (hi % 16)) (by omega) (by decide), e2]
theorem bcn_b12 {lo hi n : Nat} (hl : lo < 256) : bcn_2 (bcn_k 51 (n + 1)) (bcn_1 (bcn_k 85 (n + 1)) (lo + 256 * hi)) = bcn_2 51 (bcn_1 85 lo) + 256 * bcn_2 (bcn_k 51 n) (bcn_1 (bcn_k 85 n) hi) := by
  have h : bcn_1 85 lo < 256 := Nat.lt_of_le_of_lt (show lo - ((lo / 2) &&& 85) ≤ lo from Nat.sub_le _ _) hl
  rw [bcn_b1 hl, bcn_b2 h]
theorem bcn_lo : ∀ lo : Fin 256, bcn_2 51 (bcn_1 85 lo.val) ≤ 68 ∧ bcn_2 51 (bcn_1 85 lo.val) % 16 ≤ 4 := by decide +kernel
theorem bcn_z : bcn_2 (bcn_k 51 0) (bcn_1 (bcn_k 85 0) 0) % 16 ≤ 4 := by decide +kernel
theorem bcn_l4 : ∀ (n X : Nat), X < bcn_q n → bcn_2 (bcn_k 51 n) (bcn_1 (bcn_k 85 n) X) % 16 ≤ 4 := by
  intro n X h
  cases n with
  | zero =>
    have h2 : X < 1 := h
    have e : X = 0 := by omega
    rw [e]
    exact bcn_z
  | succ n =>
    have hm : X % 256 < 256 := Nat.mod_lt _ (by decide)
    have e : X % 256 + 256 * (X / 256) = X := by omega
    have h3 : bcn_2 51 (bcn_1 85 (X % 256)) % 16 ≤ 4 := (bcn_lo ⟨X % 256, hm⟩).2
    have h4 := bcn_b12 (lo := X % 256) (hi := X / 256) (n := n) hm
    rw [e] at h4
    rw [h4]
    exact bcn_ar3 h3
def bcn_S (n X : Nat) : Nat := bcn_3 (bcn_k 15 n) (bcn_2 (bcn_k 51 n) (bcn_1 (bcn_k 85 n) X))
def bcn_p (lo : Nat) : Nat := bcn_3 15 (bcn_2 51 (bcn_1 85 lo))
theorem bcn_s {n X : Nat} (h : X < bcn_q (n + 1)) : bcn_S (n + 1) X = bcn_p (X % 256) + 256 * bcn_S n (X / 256) := by
  have hm : X % 256 < 256 := Nat.mod_lt _ (by decide)
  have hd : X / 256 < bcn_q n := Nat.div_lt_of_lt_mul (show X < 256 * bcn_q n from h)
  have h1 : bcn_2 51 (bcn_1 85 (X % 256)) ≤ 68 := (bcn_lo ⟨X % 256, hm⟩).1
  have e : X % 256 + 256 * (X / 256) = X := by omega
  have h4 := bcn_b12 (lo := X % 256) (hi := X / 256) (n := n) hm
  rw [e] at h4
  unfold bcn_S bcn_p
  rw [h4, bcn_b3 h1 (bcn_l4 n _ hd)]
theorem bcn_p8 : ∀ lo : Fin 256, bcn_p lo.val = lo.val % 2 + lo.val / 2 % 2 + lo.val / 4 % 2 + lo.val / 8 % 2 + lo.val / 16 % 2 + lo.val / 32 % 2 + lo.val / 64 % 2 + lo.val / 128 % 2 := by decide +kernel
theorem bcn_p9 : ∀ lo : Fin 256, bcn_p lo.val ≤ 8 := by decide +kernel
theorem bcn_c1 (X k : Nat) : fC (fun i => X.testBit i = true) (k + 1) = fC (fun i => X.testBit i = true) k + X / 2 ^ k % 2 := by
  by_cases h : X.testBit k = true
  · rw [fC_y (P := fun i => X.testBit i = true) h]
    rw [Nat.testBit_eq_decide_div_mod_eq] at h
    rw [of_decide_eq_true h]
  · rw [fC_n (P := fun i => X.testBit i = true) h]
    rw [Nat.testBit_eq_decide_div_mod_eq] at h
    have h2 : ¬ X / 2 ^ k % 2 = 1 := fun e => h (decide_eq_true e)
    rw [(Nat.mod_two_eq_zero_or_one (X / 2 ^ k)).resolve_right h2, Nat.add_zero]
theorem bcn_g7 (X : Nat) : X / 128 % 2 = X % 256 / 128 % 2 := by omega
theorem bcn_g6 (X : Nat) : X / 64 % 2 = X % 256 / 64 % 2 := by omega
theorem bcn_g5 (X : Nat) : X / 32 % 2 = X % 256 / 32 % 2 := by omega
theorem bcn_g4 (X : Nat) : X / 16 % 2 = X % 256 / 16 % 2 := by omega
theorem bcn_g3 (X : Nat) : X / 8 % 2 = X % 256 / 8 % 2 := by omega
theorem bcn_g2 (X : Nat) : X / 4 % 2 = X % 256 / 4 % 2 := by omega
theorem bcn_g1 (X : Nat) : X / 2 % 2 = X % 256 / 2 % 2 := by omega
theorem bcn_g0 (X : Nat) : X / 1 % 2 = X % 256 % 2 := by omega
theorem bcn_c8 (X k : Nat) : fC (fun i => X.testBit i = true) (8 + k) = bcn_p (X % 256) + fC (fun i => (X / 256).testBit i = true) k := by
  have hm : X % 256 < 256 := Nat.mod_lt _ (by decide)
  have h8 : bcn_p (X % 256) = X % 256 % 2 + X % 256 / 2 % 2 + X % 256 / 4 % 2 + X % 256 / 8 % 2 + X % 256 / 16 % 2 + X % 256 / 32 % 2 + X % 256 / 64 % 2 + X % 256 / 128 % 2 := bcn_p8 ⟨X % 256, hm⟩
  have c0 : fC (fun i => X.testBit i = true) 1 = fC (fun i => X.testBit i = true) 0 + X / 1 % 2 := bcn_c1 X 0
  have c1 : fC (fun i => X.testBit i = true) 2 = fC (fun i => X.testBit i = true) 1 + X / 2 % 2 := bcn_c1 X 1
  have c2 : fC (fun i => X.testBit i = true) 3 = fC (fun i => X.testBit i = true) 2 + X / 4 % 2 := bcn_c1 X 2
  have c3 : fC (fun i => X.testBit i = true) 4 = fC (fun i => X.testBit i = true) 3 + X / 8 % 2 := bcn_c1 X 3
  have c4 : fC (fun i => X.testBit i = true) 5 = fC (fun i => X.testBit i = true) 4 + X / 16 % 2 := bcn_c1 X 4
  have c5 : fC (fun i => X.testBit i = true) 6 = fC (fun i => X.testBit i = true) 5 + X / 32 % 2 := bcn_c1 X 5
  have c6 : fC (fun i => X.testBit i = true) 7 = fC (fun i => X.testBit i = true) 6 + X / 64 % 2 := bcn_c1 X 6
  have c7 : fC (fun i => X.testBit i = true) 8 = fC (fun i => X.testBit i = true) 7 + X / 128 % 2 := bcn_c1 X 7
  have z0 : fC (fun i => X.testBit i = true) 0 = 0 := rfl
  have d0 := bcn_g0 X
  have d1 := bcn_g1 X
  have d2 := bcn_g2 X
  have d3 := bcn_g3 X
  have d4 := bcn_g4 X
  have d5 := bcn_g5 X
  have d6 := bcn_g6 X
  have d7 := bcn_g7 X
  have e0 : fC (fun i => X.testBit i = true) 8 = bcn_p (X % 256) := by
    rw [h8, c7, c6, c5, c4, c3, c2, c1, c0, z0, Nat.zero_add, d0, d1, d2, d3, d4, d5, d6, d7]
  have et : ∀ i, (X / 256).testBit i = X.testBit (8 + i) := fun i => by rw [show X / 256 = X / 2 ^ 8 from rfl, Nat.testBit_div_two_pow, Nat.add_comm]
  rw [bcn_fa, e0]
  exact congrArg (fun z => bcn_p (X % 256) + z) (fC_ext (P := fun i => X.testBit (8 + i) = true) (Q := fun i => (X / 256).testBit i = true) (fun i _ => by
    show X.testBit (8 + i) = true ↔ (X / 256).testBit i = true
    rw [et]))
theorem bcn_dv {a b k q : Nat} (h : a < k) (e : q = a + k * b) : q / k = b := by
  rw [e, Nat.add_mul_div_left _ _ (by omega), Nat.div_eq_of_lt h, Nat.zero_add]
theorem bcn_fin {w0 w1 w2 w3 w4 w5 w6 w7 W t y : Nat} (h0 : w0 ≤ 8) (h1 : w1 ≤ 8) (h2 : w2 ≤ 8) (h3 : w3 ≤ 8) (h4 : w4 ≤ 8) (h5 : w5 ≤ 8) (h6 : w6 ≤ 8) (h7 : w7 ≤ 8) (hW : W = w0 + 256 * (w1 + 256 * (w2 + 256 * (w3 + 256 * (w4 + 256 * (w5 + 256 * (w6 + 256 * (w7 + 256 * 0)))))))) (ht : t = W + W / 256) (hy : y = t + t / 65536) : (y + y / 4294967296) % 128 = w0 + (w1 + (w2 + (w3 + (w4 + (w5 + (w6 + (w7 + 0))))))) := by
  have e1 : W / 256 = w1 + 256 * (w2 + 256 * (w3 + 256 * (w4 + 256 * (w5 + 256 * (w6 + 256 * (w7)))))) := bcn_dv (a := w0) (by omega) (hW.trans (by omega))
  have e2 : t = ((w0 + w1) + 256 * (w1 + w2)) + 65536 * ((w2 + w3) + 256 * ((w3 + w4) + 256 * ((w4 + w5) + 256 * ((w5 + w6) + 256 * ((w6 + w7) + 256 * (w7)))))) := by rw [ht, e1, hW]; omega
  have e3 : t / 65536 = (w2 + w3) + 256 * ((w3 + w4) + 256 * ((w4 + w5) + 256 * ((w5 + w6) + 256 * ((w6 + w7) + 256 * (w7))))) := bcn_dv (by omega) e2
  have e4 : y = ((w0 + w1 + w2 + w3) + 256 * ((w1 + w2 + w3 + w4) + 256 * ((w2 + w3 + w4 + w5) + 256 * (w3 + w4 + w5 + w6)))) + 4294967296 * ((w4 + w5 + w6 + w7) + 256 * ((w5 + w6 + w7) + 256 * ((w6 + w7) + 256 * (w7)))) := by rw [hy, e3, e2]; omega
  have e5 : y / 4294967296 = (w4 + w5 + w6 + w7) + 256 * ((w5 + w6 + w7) + 256 * ((w6 + w7) + 256 * (w7))) := bcn_dv (by omega) e4
  rw [e5, e4]
  clear e1 e2 e3 e4 e5 hW ht hy
  omega
theorem bcn_main {X t y : Nat} (hX : X < 2 ^ 64) (ht : t = bcn_S 8 X + bcn_S 8 X / 256) (hy : y = t + t / 65536) : (y + y / 4294967296) % 128 = fC (fun i => X.testBit i = true) 64 := by
  obtain ⟨X1, x1⟩ : ∃ q, X / 256 = q := ⟨_, rfl⟩
  obtain ⟨X2, x2⟩ : ∃ q, X1 / 256 = q := ⟨_, rfl⟩
  obtain ⟨X3, x3⟩ : ∃ q, X2 / 256 = q := ⟨_, rfl⟩
  obtain ⟨X4, x4⟩ : ∃ q, X3 / 256 = q := ⟨_, rfl⟩
  obtain ⟨X5, x5⟩ : ∃ q, X4 / 256 = q := ⟨_, rfl⟩
  obtain ⟨X6, x6⟩ : ∃ q, X5 / 256 = q := ⟨_, rfl⟩
  obtain ⟨X7, x7⟩ : ∃ q, X6 / 256 = q := ⟨_, rfl⟩
  obtain ⟨X8, x8⟩ : ∃ q, X7 / 256 = q := ⟨_, rfl⟩
  have b0 : X < bcn_q 8 := Nat.lt_of_lt_of_le hX (by decide +kernel)
  have b1 : X1 < bcn_q 7 := by rw [← x1]; exact Nat.div_lt_of_lt_mul b0
  have b2 : X2 < bcn_q 6 := by rw [← x2]; exact Nat.div_lt_of_lt_mul b1
  have b3 : X3 < bcn_q 5 := by rw [← x3]; exact Nat.div_lt_of_lt_mul b2
  have b4 : X4 < bcn_q 4 := by rw [← x4]; exact Nat.div_lt_of_lt_mul b3
  have b5 : X5 < bcn_q 3 := by rw [← x5]; exact Nat.div_lt_of_lt_mul b4
  have b6 : X6 < bcn_q 2 := by rw [← x6]; exact Nat.div_lt_of_lt_mul b5
  have b7 : X7 < bcn_q 1 := by rw [← x7]; exact Nat.div_lt_of_lt_mul b6
  have b8 : X8 = 0 := by
    rw [← x8]
    exact Nat.div_eq_of_lt (show X7 < 256 from b7)
  have s0 : bcn_S 8 X = bcn_p (X % 256) + 256 * bcn_S 7 X1 := by
    rw [← x1]
    exact bcn_s b0
  have s1 : bcn_S 7 X1 = bcn_p (X1 % 256) + 256 * bcn_S 6 X2 := by
    rw [← x2]
    exact bcn_s b1
  have s2 : bcn_S 6 X2 = bcn_p (X2 % 256) + 256 * bcn_S 5 X3 := by
    rw [← x3]
    exact bcn_s b2
  have s3 : bcn_S 5 X3 = bcn_p (X3 % 256) + 256 * bcn_S 4 X4 := by
    rw [← x4]
    exact bcn_s b3
  have s4 : bcn_S 4 X4 = bcn_p (X4 % 256) + 256 * bcn_S 3 X5 := by
    rw [← x5]
    exact bcn_s b4
  have s5 : bcn_S 3 X5 = bcn_p (X5 % 256) + 256 * bcn_S 2 X6 := by
    rw [← x6]
    exact bcn_s b5
  have s6 : bcn_S 2 X6 = bcn_p (X6 % 256) + 256 * bcn_S 1 X7 := by
    rw [← x7]
    exact bcn_s b6
  have s7 : bcn_S 1 X7 = bcn_p (X7 % 256) + 256 * bcn_S 0 X8 := by
    rw [← x8]
    exact bcn_s b7
  have s8 : bcn_S 0 X8 = 0 := by
    rw [b8]
    decide +kernel
  have c0 : fC (fun i => X.testBit i = true) 64 = bcn_p (X % 256) + fC (fun i => X1.testBit i = true) 56 := by
    rw [← x1]
    exact bcn_c8 X 56
  have c1 : fC (fun i => X1.testBit i = true) 56 = bcn_p (X1 % 256) + fC (fun i => X2.testBit i = true) 48 := by
    rw [← x2]
    exact bcn_c8 X1 48
  have c2 : fC (fun i => X2.testBit i = true) 48 = bcn_p (X2 % 256) + fC (fun i => X3.testBit i = true) 40 := by
    rw [← x3]
    exact bcn_c8 X2 40
  have c3 : fC (fun i => X3.testBit i = true) 40 = bcn_p (X3 % 256) + fC (fun i => X4.testBit i = true) 32 := by
    rw [← x4]
    exact bcn_c8 X3 32
  have c4 : fC (fun i => X4.testBit i = true) 32 = bcn_p (X4 % 256) + fC (fun i => X5.testBit i = true) 24 := by
    rw [← x5]
    exact bcn_c8 X4 24
  have c5 : fC (fun i => X5.testBit i = true) 24 = bcn_p (X5 % 256) + fC (fun i => X6.testBit i = true) 16 := by
    rw [← x6]
    exact bcn_c8 X5 16
  have c6 : fC (fun i => X6.testBit i = true) 16 = bcn_p (X6 % 256) + fC (fun i => X7.testBit i = true) 8 := by
    rw [← x7]
    exact bcn_c8 X6 8
  have c7 : fC (fun i => X7.testBit i = true) 8 = bcn_p (X7 % 256) + fC (fun i => X8.testBit i = true) 0 := by
    rw [← x8]
    exact bcn_c8 X7 0
  have c8 : fC (fun i => X8.testBit i = true) 0 = 0 := rfl
  have p0 : bcn_p (X % 256) ≤ 8 := bcn_p9 ⟨X % 256, Nat.mod_lt _ (by decide)⟩
  have p1 : bcn_p (X1 % 256) ≤ 8 := bcn_p9 ⟨X1 % 256, Nat.mod_lt _ (by decide)⟩
  have p2 : bcn_p (X2 % 256) ≤ 8 := bcn_p9 ⟨X2 % 256, Nat.mod_lt _ (by decide)⟩
  have p3 : bcn_p (X3 % 256) ≤ 8 := bcn_p9 ⟨X3 % 256, Nat.mod_lt _ (by decide)⟩
  have p4 : bcn_p (X4 % 256) ≤ 8 := bcn_p9 ⟨X4 % 256, Nat.mod_lt _ (by decide)⟩
  have p5 : bcn_p (X5 % 256) ≤ 8 := bcn_p9 ⟨X5 % 256, Nat.mod_lt _ (by decide)⟩
  have p6 : bcn_p (X6 % 256) ≤ 8 := bcn_p9 ⟨X6 % 256, Nat.mod_lt _ (by decide)⟩
  have p7 : bcn_p (X7 % 256) ≤ 8 := bcn_p9 ⟨X7 % 256, Nat.mod_lt _ (by decide)⟩
  rw [c0, c1, c2, c3, c4, c5, c6, c7, c8]
  exact bcn_fin p0 p1 p2 p3 p4 p5 p6 p7 (by rw [s0, s1, s2, s3, s4, s5, s6, s7, s8]) ht hy
/-! the same, as the machine does it -/
theorem bcn_sub {a b : Nat} (h : b ≤ a) : lN a - lN b = lN (a - b) := by
  have e : lN (a - b) + lN b = lN a := by rw [lN_add, Nat.sub_add_cancel h]
  exact Int64.sub_eq_iff_eq_add.mpr e.symm
theorem bcn_k85 : bcn_k 85 8 = 6148914691236517205 := by decide +kernel
theorem bcn_k51 : bcn_k 51 8 = 3689348814741910323 := by decide +kernel
theorem bcn_k15 : bcn_k 15 8 = 1085102592571150095 := by decide +kernel
theorem bcn_l85 : (6148914691236517205 : Int64) = lN (bcn_k 85 8) := by rw [bcn_k85]; rfl
theorem bcn_l51 : (3689348814741910323 : Int64) = lN (bcn_k 51 8) := by rw [bcn_k51]; rfl
theorem bcn_l15 : (1085102592571150095 : Int64) = lN (bcn_k 15 8) := by rw [bcn_k15]; rfl
theorem bcn_e1 {X : Nat} (hX : X < 2 ^ 64) : lN X - ((lush_ (lN X) (1 : Int32)) &&& (6148914691236517205 : Int64)) = lN (bcn_1 (bcn_k 85 8) X) := by
  have hd : X / 2 ^ 1 < 2 ^ 64 := Nat.lt_of_le_of_lt (Nat.div_le_self _ _) hX
  have hk : bcn_k 85 8 < 2 ^ 64 := by rw [bcn_k85]; decide
  have hs : (X / 2 ^ 1) &&& bcn_k 85 8 ≤ X := Nat.le_trans Nat.and_le_left (Nat.div_le_self _ _)
  rw [show (1 : Int32) = nI 1 from rfl, lush_N hX (by decide), bcn_l85, wb_and hd hk, bcn_sub hs]
  rfl
theorem bcn_e2 {X : Nat} (hX : X < 2 ^ 64) : (lN X &&& (3689348814741910323 : Int64)) + ((lush_ (lN X) (2 : Int32)) &&& (3689348814741910323 : Int64)) = lN (bcn_2 (bcn_k 51 8) X) := by
  have hd : X / 2 ^ 2 < 2 ^ 64 := Nat.lt_of_le_of_lt (Nat.div_le_self _ _) hX
  have hk : bcn_k 51 8 < 2 ^ 64 := by rw [bcn_k51]; decide
  rw [show (2 : Int32) = nI 2 from rfl, lush_N hX (by decide), bcn_l51, wb_and hX hk, wb_and hd hk, lN_add]
  rfl
theorem bcn_u2 (X : Nat) : bcn_2 (bcn_k 51 8) X ≤ 7378697629483820646 := by
  have h1 : X &&& bcn_k 51 8 ≤ bcn_k 51 8 := Nat.and_le_right
  have h2 : (X / 4) &&& bcn_k 51 8 ≤ bcn_k 51 8 := Nat.and_le_right
  have h3 : bcn_2 (bcn_k 51 8) X ≤ bcn_k 51 8 + bcn_k 51 8 := Nat.add_le_add h1 h2
  rw [show bcn_k 51 8 + bcn_k 51 8 = 7378697629483820646 by decide +kernel] at h3
  exact h3
theorem bcn_e3 {X : Nat} (hX : X ≤ 7378697629483820646) : (lN X + (lush_ (lN X) (4 : Int32))) &&& (1085102592571150095 : Int64) = lN (bcn_3 (bcn_k 15 8) X) := by
  have h0 : X < 2 ^ 64 := by omega
  have hd : X + X / 2 ^ 4 < 2 ^ 64 := by omega
  have hk : bcn_k 15 8 < 2 ^ 64 := by rw [bcn_k15]; decide
  rw [show (4 : Int32) = nI 4 from rfl, lush_N h0 (by decide), lN_add, bcn_l15, wb_and hd hk]
  rfl
theorem bcn_u3 (X : Nat) : bcn_3 (bcn_k 15 8) X ≤ 1085102592571150095 := by
  have h1 : (X + X / 16) &&& bcn_k 15 8 ≤ bcn_k 15 8 := Nat.and_le_right
  rw [bcn_k15] at h1
  unfold bcn_3
  rw [bcn_k15]
  exact h1
theorem bcn_127 (m : Nat) : nI m &&& (127 : Int32) = nI (m % 128) := by
  apply Int32.toBitVec_inj.mp
  apply BitVec.eq_of_toNat_eq
  rw [Int32.toBitVec_and, BitVec.toNat_and, show (127 : Int32).toBitVec.toNat = 2 ^ 7 - 1 by decide +kernel, show (nI m).toBitVec.toNat = m % 2 ^ 32 from rfl, show (nI (m % 128)).toBitVec.toNat = m % 128 % 2 ^ 32 from rfl, Nat.and_two_pow_sub_one_eq_mod]
  omega
theorem bcn_lt {α β : Type} (a : α) (k : α → β) : lt_ a k = k a := rfl
theorem bitCount_x (x : Int64) : mJ13_bitCount_95d88 x = some (nI (fC (fun i => bw x i = true) 64)) := by
  obtain ⟨X, hX, rfl⟩ := wb_of x
  have h1 : bcn_1 (bcn_k 85 8) X < 2 ^ 64 := Nat.lt_of_le_of_lt (show X - ((X / 2) &&& bcn_k 85 8) ≤ X from Nat.sub_le _ _) hX
  have h2 := bcn_u2 (bcn_1 (bcn_k 85 8) X)
  have h3 := bcn_u3 (bcn_2 (bcn_k 51 8) (bcn_1 (bcn_k 85 8) X))
  have key := bcn_main hX rfl rfl
  unfold mJ13_bitCount_95d88
  rw [bcn_e1 hX, bcn_lt, bcn_e2 h1, bcn_lt, bcn_e3 h2, bcn_lt]
  unfold bcn_S at key
  generalize bcn_3 (bcn_k 15 8) (bcn_2 (bcn_k 51 8) (bcn_1 (bcn_k 85 8) X)) = W at h3 key ⊢
  clear h1 h2
  have q1 : W < 2 ^ 64 := by omega
  rw [show (8 : Int32) = nI 8 from rfl, lush_N q1 (by decide), lN_add, show W / 2 ^ 8 = W / 256 from rfl]
  have q2 : W + W / 256 < 2 ^ 61 := by omega
  generalize W + W / 256 = t at key q2 ⊢
  clear h3 q1
  rw [show (16 : Int32) = nI 16 from rfl, lush_N (by omega) (by decide), lN_add, show t / 2 ^ 16 = t / 65536 from rfl, bcn_lt]
  have q3 : t + t / 65536 < 2 ^ 62 := by omega
  generalize t + t / 65536 = y at key q3 ⊢
  clear q2
  rw [show (32 : Int32) = nI 32 from rfl, lush_N (by omega) (by decide), lN_add, show y / 2 ^ 32 = y / 4294967296 from rfl, lN_i, bcn_127, key]
  refine congrArg (fun z => some (nI z)) (fC_ext (P := fun i => X.testBit i = true) (Q := fun i => bw (lN X) i = true) (fun i _ => ?_))
  show X.testBit i = true ↔ bw (lN X) i = true
  unfold bw
  rw [BitVec.getLsbD, wb_tn hX]
theorem total_x (v : Nat → Int64) : OK (mX1_total v) (fun z => z = nI (fC (fun p => bts v p = true) 4096)) := by
  unfold mX1_total
  refine OK_bind (P := fun z => z.2 = nI (fC (fun p => bts v p = true) 4096)) ?_ (fun z hz => OK_some hz)
  refine OK_for (fun fu i (s : Int32) => mX1_total_L4 v fu i s) 64 (by decide) (fun k s => s = nI (fC (fun p => bts v p = true) (64 * k))) _ (s := 0) (show (0 : Int32) = nI (fC (fun p => bts v p = true) 0) from rfl) ?_ ?_
  · intro fu s hs
    show OK (mX1_total_L4 v (fu + 1) (nI 64) s) _
    rw [mX1_total_L4]
    exact OK_T (by decide) (OK_some hs)
  · intro fu i s hi hs ih
    show OK (mX1_total_L4 v (fu + 1) (nI i) s) _
    have e : fC (fun q => bts v (64 * i + q) = true) 64 = fC (fun q => bw (v i) q = true) 64 := fC_ext (P := fun q => bts v (64 * i + q) = true) (Q := fun q => bw (v i) q = true) (fun q hq => by
      show bts v (64 * i + q) = true ↔ bw (v i) q = true
      unfold bts
      rw [show (64 * i + q) / 64 = i by omega, show (64 * i + q) % 64 = q by omega])
    rw [mX1_total_L4, clN (k := i) (by omega), nI_s]
    refine OK_F (nI_ge (b := 64) hi (by decide)) (OK_T (ix_nI hi) (OK_be (bitCount_x (v i)) (ih _ ?_)))
    show s + nI (fC (fun q => bw (v i) q = true) 64) = nI (fC (fun p => bts v p = true) (64 * i + 64))
    rw [hs, nI_add, ← e, bcn_fa (fun p => bts v p = true) (64 * i) 64]
/-! the reference's layer -/
theorem rb_val {x : Int32} {k : Nat} (hk : k < 32) : ((x >>> (nI k &&& 31)) &&& (1 : Int32)) = (if bt x k = true then (1 : Int32) else 0) := by
  by_cases h : bt x k = true
  · rw [if_pos h]
    exact (rb_has hk).mpr h
  · rw [if_neg h]
    have h2 : bt x k = false := by
      cases hq : bt x k with
      | false => rfl
      | true => exact absurd hq h
    have e0 : bt (x >>> (nI k &&& 31)) 0 = bt x k := by
      rw [b_sshr k hk x (by decide), Nat.add_zero, if_pos hk]
    apply b_ext
    intro i hi
    rw [b_and, b_one i hi, b_0]
    by_cases e : i = 0
    · rw [e, e0, h2, Bool.false_and]
    · rw [decide_eq_false e, Bool.and_false]
theorem rtot_x {s i a : Nat} (hs : s < 30) (hi : i < 20) (ha : a ≤ 12) {vB vL : Nat → Int32} (e : vL (20 * s + i) = nI (2 ^ a)) : OK (mX9_layer_L89 vB vL (nI s) (nI i) FU 0 0) (fun z => z.2 = nI (fC (fun p => rbt vB (20 * s + i) p = true) (2 ^ a))) := by
  have hp2 : 2 ^ a ≤ 2 ^ 12 := pow_up ha
  refine OK_for (fun fu k (x : Int32) => mX9_layer_L89 vB vL (nI s) (nI i) fu k x) (2 ^ a) (by omega) (fun k x => x = nI (fC (fun p => rbt vB (20 * s + i) p = true) k)) _ (s := 0) rfl ?_ ?_
  · intro fu x hx
    show OK (mX9_layer_L89 vB vL (nI s) (nI i) (fu + 1) (nI (2 ^ a)) x) _
    rw [mX9_layer_L89, m20, clN (k := 20 * s + i) (by omega), e]
    exact OK_T (ix_nI (by omega)) (OK_T (Int32.le_refl _) (OK_some hx))
  · intro fu k x hk hx ih
    show OK (mX9_layer_L89 vB vL (nI s) (nI i) (fu + 1) (nI k) x) _
    rw [mX9_layer_L89, m20, clN (k := 20 * s + i) (by omega), e, show nI k / (32 : Int32) = nI (k / 32) from q_d (by omega) (by decide) (by decide), show irm (nI k) (32 : Int32) = nI (k % 32) from r_d (by omega) (by decide) (by decide), m128, nI_s, clN (k := 128 * (20 * s + i) + k / 32) (by omega)]
    refine OK_T (ix_nI (by omega)) (OK_F (nI_ge hk (by omega)) (OK_T (ix_nI (by omega)) (OK_lt (ih _ ?_))))
    rw [rb_val (by omega)]
    by_cases q : rbt vB (20 * s + i) k = true
    · rw [if_pos (show bt (vB (128 * (20 * s + i) + k / 32)) (k % 32) = true from q), fC_y (P := fun p => rbt vB (20 * s + i) p = true) q, hx, nI_1]
    · rw [if_neg (show ¬ bt (vB (128 * (20 * s + i) + k / 32)) (k % 32) = true from q), fC_n (P := fun p => rbt vB (20 * s + i) p = true) q, hx, Int32.add_zero]
theorem layer_cut {n : Nat} {cv dw : Nat → Int64} {sd : Int32} (h : ∀ p, p < 4096 → (bts dw p = true ↔ fS n cv sd (szA n) 3 p)) : fC (fun p => bts dw p = true) 4096 = fC (fun p => bts dw p = true) (2 ^ szA n) := by
  have hp := szA_pow n
  obtain ⟨d, hd⟩ : ∃ d, 2 ^ szA n + d = 4096 := ⟨4096 - 2 ^ szA n, by omega⟩
  have h0 : fC (fun i => bts dw (2 ^ szA n + i) = true) d = 0 := bcn_no d (fun i hi hb => by
    obtain ⟨t, -, j, -, e⟩ := (h _ (show 2 ^ szA n + i < 4096 by omega)).mp hb
    have hl := fP_lt (cv t) sd (szA n) j
    omega)
  have e := bcn_fa (fun p => bts dw p = true) (2 ^ szA n) d
  rw [hd, h0, Nat.add_zero] at e
  exact e
theorem aF_layer {wN wN1 : Nat → Nat} {wV wV1 : Nat → Nat → Int64} {M M1 : Nat} {σ σ1 : Nat → SlT} {r r1 : RT} {sq i wh : Int32} {x8 x9 : Int32} (H : SimH wN wV M σ r) (Y : ExH M σ r) (h8 : T8_layer sq i wh wN wV M σ x8 wN1 wV1 M1 σ1) (h9 : S9_layer sq i wh r x9 r1) : x8 = x9 := by
  obtain ⟨many, vW, vIW, vK, vZ, vM, vS, vCt, vC, vRow, vB, vL, vLC, vRe, vR⟩ := r
  obtain ⟨rfl, hM, hK, hs⟩ := H
  obtain ⟨h8, -⟩ := h8
  obtain ⟨z, hz, ez, -⟩ := h9
  rw [ez]
  unfold mX9_layer at hz
  rcases h8 with ⟨hn, e⟩ | ⟨j, hj, rfl, hP⟩
  · rw [is_n hM hn, sb_, if_pos rfl] at hz
    rw [e]
    exact Option.some.inj hz
  · have hj30 : j < 30 := by omega
    have a1 := (hs j hj).1
    obtain ⟨y1, y2⟩ := Y j hj
    rcases eσ : σ j with ⟨kd, sz, mk, sd, kc, n, v, lc, lsd, kca, rn, rv, lz, ld⟩
    rw [eσ] at a1 y2
    replace hP : P8_layer i wh (σ j) x8 := hP
    rw [eσ] at hP
    obtain ⟨q1, q2⟩ := hP
    obtain ⟨b1, -⟩ := a1
    have i30 := ix_nI (k := j) (n := 30) hj30
    rw [is_y hM hj, sb_, if_neg (show ¬ (1 : Int32) = 0 by decide), clN (k := j) (by omega)] at hz
    by_cases w0 : wh < 0
    · rw [if_pos w0] at hz
      by_cases k4 : kd = 4
      · have h8 := q2 k4
        unfold mX8_layerL at h8
        rw [if_pos w0] at h8
        exact Option.some.inj (h8.symm.trans hz)
      · have h8 := q1 k4
        unfold mX8_layerG at h8
        rw [if_pos w0] at h8
        exact Option.some.inj (h8.symm.trans hz)
    · by_cases w2 : wh ≤ 2
      · rw [if_neg w0, if_pos w2, if_pos i30, ← b1] at hz
        by_cases k4 : kd = 4
        · have h8 := q2 k4
          unfold mX8_layerL at h8
          rw [if_neg w0, if_pos w2, if_pos k4] at h8
          rw [if_pos k4] at hz
          obtain ⟨c, N_, V_, R, g1, g2, g3, g4, g5, g6, g7, -⟩ := y2 k4
          obtain ⟨z8, h8a, h8b⟩ := bind_some h8
          have e8 : z8 = x8 := Option.some.inj h8b
          unfold mX3_factF at h8a
          rw [g4] at h8a
          rw [g3] at hz
          by_cases n0 : i < 0
          · rw [if_pos n0] at h8a hz
            rw [← e8]
            exact Option.some.inj (h8a.symm.trans hz)
          · rw [if_neg n0] at h8a hz
            rw [if_pos i30] at hz
            by_cases nc : i < nI c
            · rw [if_pos nc] at h8a hz
              obtain ⟨q, hqc, rfl⟩ := nI_of2 (M := nI c) (n := c) (nI_toInt (by omega)) n0 (Int32.le_of_lt nc)
              have hq : q < c := by
                rcases Nat.lt_or_ge q c with w | w
                · exact w
                · exact absurd nc (Int32.not_lt.mpr (nI_le w (by omega)))
              obtain ⟨f1, f2, f3, f4⟩ := g6 q hq
              obtain ⟨r1, r2, r3, r4⟩ := g7 q hq
              have i20 := ix_nI (k := q) (n := 20) (by omega)
              have i600 := ix_nI (k := 20 * j + q) (n := 600) (by omega)
              have hcase : wh = 0 ∨ wh = 1 ∨ wh = 2 := by
                obtain ⟨u, hu, e⟩ := nI_of2 (M := nI 2) (n := 2) (nI_toInt (by omega)) w0 w2
                rw [e]
                rcases (show u = 0 ∨ u = 1 ∨ u = 2 by omega) with e | e | e
                · rw [e]; exact Or.inl rfl
                · rw [e]; exact Or.inr (Or.inl rfl)
                · rw [e]; exact Or.inr (Or.inr rfl)
              rw [m20, clN (k := 20 * j + q) (by omega)] at hz
              rw [clN (k := q) (by omega)] at h8a
              rw [← e8]
              rcases hcase with e | e | e
              · rw [e] at h8a hz
                rw [if_pos rfl, if_pos i20] at h8a
                rw [if_neg (show ¬ (2 : Int32) ≤ 0 by decide), if_pos rfl, if_pos i600] at hz
                have h8c : some (lz q) = some z8 := h8a
                rw [f3] at h8c
                rw [r3] at hz
                exact Option.some.inj (h8c.symm.trans hz)
              · rw [e] at h8a hz
                rw [if_neg (show ¬ (1 : Int32) = 0 by decide), if_pos rfl, if_pos i20, f2] at h8a
                rw [if_neg (show ¬ (2 : Int32) ≤ 1 by decide), if_neg (show ¬ (1 : Int32) = 0 by decide), if_pos i600, r2] at hz
                exact Option.some.inj (h8a.symm.trans hz)
              · rw [e] at h8a hz
                rw [if_neg (show ¬ (2 : Int32) = 0 by decide), if_neg (show ¬ (2 : Int32) = 1 by decide), if_pos rfl, if_pos i20] at h8a
                rw [if_pos (show (2 : Int32) ≤ 2 from Int32.le_refl _)] at hz
                obtain ⟨o8, t8, u8⟩ := bind_some h8a
                obtain ⟨o9, t9, u9⟩ := bind_some hz
                have v8 := OK_use (total_x (ld q)) t8
                have v9 := OK_use (rtot_x hj30 (by omega) (szA_le (N_ q)).2 r3) t9
                have e1 : o8 = z8 := Option.some.inj u8
                have e2 : o9.2 = z := Option.some.inj u9
                rw [← e1, ← e2, v8, v9, layer_cut f4]
                refine congrArg nI (fC_ext (P := fun p => bts (ld q) p = true) (Q := fun p => rbt vB (20 * j + q) p = true) (fun p hp => ?_))
                have hp4 := szA_pow (N_ q)
                exact (f4 p (by omega)).trans (r4 p hp).symm
            · rw [if_neg nc] at h8a hz
              rw [← e8]
              exact Option.some.inj (h8a.symm.trans hz)
        · have h8 := q1 k4
          unfold mX8_layerG at h8
          rw [if_neg w0, if_pos w2, if_neg k4] at h8
          rw [if_neg k4] at hz
          exact Option.some.inj (h8.symm.trans hz)
      · rw [if_neg w0, if_neg w2] at hz
        by_cases k4 : kd = 4
        · have h8 := q2 k4
          unfold mX8_layerL at h8
          rw [if_neg w0, if_neg w2] at h8
          exact Option.some.inj (h8.symm.trans hz)
        · have h8 := q1 k4
          unfold mX8_layerG at h8
          rw [if_neg w0, if_neg w2] at h8
          exact Option.some.inj (h8.symm.trans hz)
