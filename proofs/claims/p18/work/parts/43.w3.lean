/-! ===== span, as a value: the things come one behind the other ===== -/
def memW (n : Nat) (v : Nat → Int64) (t : Int64) : Prop := ∃ a, a < n ∧ v a = t
noncomputable def spn (n0 : Nat) (v0 : Nat → Int64) (first : Int64) (step : Int32) : Nat → Nat × (Nat → Int64)
  | 0 => (n0, v0)
  | i + 1 => @ite _ (memW (spn n0 v0 first step i).1 (spn n0 v0 first step i).2 (tk first step i)) (Classical.propDecidable _) (spn n0 v0 first step i) ((spn n0 v0 first step i).1 + 1, insR (spn n0 v0 first step i).2 (spn n0 v0 first step i).1 (tk first step i))
section Spn
variable {n0 : Nat} {v0 : Nat → Int64} {first : Int64} {step : Int32}
theorem spn_y {i : Nat} (h : memW (spn n0 v0 first step i).1 (spn n0 v0 first step i).2 (tk first step i)) : spn n0 v0 first step (i + 1) = spn n0 v0 first step i := @if_pos _ (Classical.propDecidable _) h _ _ _
theorem spn_n {i : Nat} (h : ¬ memW (spn n0 v0 first step i).1 (spn n0 v0 first step i).2 (tk first step i)) : spn n0 v0 first step (i + 1) = ((spn n0 v0 first step i).1 + 1, insR (spn n0 v0 first step i).2 (spn n0 v0 first step i).1 (tk first step i)) := @if_neg _ (Classical.propDecidable _) h _ _ _
theorem spn_le (i : Nat) : (spn n0 v0 first step i).1 ≤ (spn n0 v0 first step (i + 1)).1 := by
  by_cases h : memW (spn n0 v0 first step i).1 (spn n0 v0 first step i).2 (tk first step i)
  · rw [spn_y h]; exact Nat.le_refl _
  · rw [spn_n h]; exact Nat.le_succ _
theorem spn_mono {i j : Nat} (h : i ≤ j) : (spn n0 v0 first step i).1 ≤ (spn n0 v0 first step j).1 := by
  induction j with
  | zero => rw [Nat.le_zero.mp h]; exact Nat.le_refl _
  | succ j ih =>
    rcases Nat.lt_or_eq_of_le h with q | q
    · exact Nat.le_trans (ih (by omega)) (spn_le j)
    · rw [q]; exact Nat.le_refl _
theorem insR_has {v : Nat → Int64} {n : Nat} {t z : Int64} : memW (n + 1) (insR v n t) z ↔ z = t ∨ memW n v z := by
  have hc := cb_le v n t
  constructor
  · rintro ⟨a, ha, e⟩
    rcases Nat.lt_trichotomy a (cb v n t) with q | q | q
    · exact Or.inr ⟨a, by omega, (insR_lo q).symm.trans e⟩
    · rw [q, insR_at] at e; exact Or.inl e.symm
    · exact Or.inr ⟨a - 1, by omega, (insR_hi q (by omega)).symm.trans e⟩
  · rintro (e | ⟨a, ha, e⟩)
    · exact ⟨cb v n t, by omega, insR_at.trans e.symm⟩
    · by_cases q : a < cb v n t
      · exact ⟨a, by omega, (insR_lo q).trans e⟩
      · exact ⟨a + 1, by omega, (insR_hi (by omega) (by omega)).trans (by rw [Nat.add_sub_cancel]; exact e)⟩
theorem spn_mem (i : Nat) (z : Int64) : memW (spn n0 v0 first step i).1 (spn n0 v0 first step i).2 z ↔ memW n0 v0 z ∨ ∃ b, b < i ∧ z = tk first step b := by
  induction i with
  | zero => exact ⟨Or.inl, fun h => h.elim id (fun ⟨b, hb, _⟩ => absurd hb (Nat.not_lt_zero b))⟩
  | succ i ih =>
    by_cases h : memW (spn n0 v0 first step i).1 (spn n0 v0 first step i).2 (tk first step i)
    · rw [spn_y h, ih]
      constructor
      · rintro (q | ⟨b, hb, e⟩)
        · exact Or.inl q
        · exact Or.inr ⟨b, by omega, e⟩
      · rintro (q | ⟨b, hb, e⟩)
        · exact Or.inl q
        · rcases Nat.lt_or_eq_of_le (show b ≤ i by omega) with c | c
          · exact Or.inr ⟨b, c, e⟩
          · have e2 : z = tk first step i := by rw [e, c]
            subst e2
            exact ih.mp h
    · rw [spn_n h, insR_has, ih]
      constructor
      · rintro (q | q | ⟨b, hb, e⟩)
        · exact Or.inr ⟨i, by omega, q⟩
        · exact Or.inl q
        · exact Or.inr ⟨b, by omega, e⟩
      · rintro (q | ⟨b, hb, e⟩)
        · exact Or.inr (Or.inl q)
        · rcases Nat.lt_or_eq_of_le (show b ≤ i by omega) with c | c
          · exact Or.inr (Or.inr ⟨b, c, e⟩)
          · rw [c] at e; exact Or.inl e
theorem spn_world (hw : worldR v0 n0) (h0 : n0 ≤ 1000) : ∀ i, (spn n0 v0 first step i).1 ≤ 1001 → worldR (spn n0 v0 first step i).2 (spn n0 v0 first step i).1 := by
  intro i
  induction i with
  | zero => intro _; exact hw
  | succ i ih =>
    intro h1
    by_cases h : memW (spn n0 v0 first step i).1 (spn n0 v0 first step i).2 (tk first step i)
    · rw [spn_y h] at h1 ⊢; exact ih h1
    · rw [spn_n h] at h1 ⊢
      have h2 : (spn n0 v0 first step i).1 + 1 ≤ 1001 := h1
      exact worldR_ins (ih (by omega)) (by omega) (fun a ha e => h ⟨a, ha, e⟩)
/-- the reference's count of what is new -/
theorem spn_new {i : Nat} (hi : i < 1000) : (spn n0 v0 first step (i + 1)).1 = (spn n0 v0 first step i).1 + 1 ↔ ¬ memW n0 v0 (tk first step i) ∧ (¬ step = 0 ∨ i = 0) := by
  have hm := spn_mem (n0 := n0) (v0 := v0) (first := first) (step := step) i (tk first step i)
  by_cases h : memW (spn n0 v0 first step i).1 (spn n0 v0 first step i).2 (tk first step i)
  · rw [spn_y h]
    constructor
    · intro q; omega
    · rintro ⟨q1, q2⟩
      rcases hm.mp h with c | ⟨b, hb, e⟩
      · exact absurd c q1
      · rcases q2 with q2 | q2
        · have := tk_inj q2 (by omega) (by omega) e; omega
        · omega
  · rw [spn_n h]
    refine ⟨fun _ => ⟨fun q => h (hm.mpr (Or.inl q)), ?_⟩, fun _ => rfl⟩
    by_cases hs : step = 0
    · by_cases hz : i = 0
      · exact Or.inr hz
      · exact absurd (hm.mpr (Or.inr ⟨0, by omega, tk_0 hs i 0⟩)) h
    · exact Or.inl hs
end Spn
theorem spn_ge {n0 : Nat} {v0 : Nat → Int64} {first : Int64} {step : Int32} (i : Nat) : n0 ≤ (spn n0 v0 first step i).1 := spn_mono (i := 0) (Nat.zero_le i)
theorem spn_or {n0 : Nat} {v0 : Nat → Int64} {first : Int64} {step : Int32} (i : Nat) : (spn n0 v0 first step (i + 1)).1 = (spn n0 v0 first step i).1 ∨ (spn n0 v0 first step (i + 1)).1 = (spn n0 v0 first step i).1 + 1 := by
  by_cases h : memW (spn n0 v0 first step i).1 (spn n0 v0 first step i).2 (tk first step i)
  · rw [spn_y h]; exact Or.inl rfl
  · rw [spn_n h]; exact Or.inr rfl
theorem pu_new1 {n0 : Nat} {v0 : Nat → Int64} {first : Int64} {step : Int32} {i : Nat} (hi : i < 1000) (h : ¬ memW n0 v0 (tk first step i)) (h2 : ¬ step = 0 ∨ i = 0) : (spn n0 v0 first step i).1 - n0 + 1 = (spn n0 v0 first step (i + 1)).1 - n0 := by
  have := (spn_new (n0 := n0) (v0 := v0) (first := first) (step := step) hi).mpr ⟨h, h2⟩
  have := spn_ge (n0 := n0) (v0 := v0) (first := first) (step := step) i
  omega
theorem pu_new0 {n0 : Nat} {v0 : Nat → Int64} {first : Int64} {step : Int32} {i : Nat} (hi : i < 1000) (h : memW n0 v0 (tk first step i) ∨ (step = 0 ∧ i ≠ 0)) : (spn n0 v0 first step i).1 - n0 = (spn n0 v0 first step (i + 1)).1 - n0 := by
  rcases spn_or (n0 := n0) (v0 := v0) (first := first) (step := step) i with q | q
  · rw [q]
  · obtain ⟨a, b⟩ := (spn_new hi).mp q
    rcases h with c | ⟨c, d⟩
    · exact absurd c a
    · rcases b with b | b
      · exact absurd c b
      · exact absurd b d
theorem spn_up {n0 : Nat} {v0 : Nat → Int64} {first : Int64} {step : Int32} (i : Nat) : (spn n0 v0 first step i).1 ≤ n0 + i := by
  induction i with
  | zero => exact Nat.le_refl _
  | succ i ih =>
    rcases spn_or (n0 := n0) (v0 := v0) (first := first) (step := step) i with q | q <;> omega
/-- what the reference's enter gives is insR -/
theorem enter_ins {v u : Nat → Int64} {n k : Nat} {t : Int64} (hw : worldR v n) (hn : n ≤ 1000) (hno : ∀ i, i < n → v i ≠ t) (hk : k ≤ n) (h1 : k = 0 ∨ v (k - 1) ≤ t) (h2 : ∀ i, k ≤ i → i < n → t < v i) (u1 : ∀ i, i < k → u i = v i) (u2 : u k = t) (u3 : ∀ i, k < i → i ≤ n → u i = v (i - 1)) : ∀ a, a < n + 1 → u a = insR v n t a := by
  have hc : cb v n t = k := by
    refine cb_eq hw hn hk (fun i hi => ?_) (fun i hi hin => Int64.not_lt.mpr (Int64.le_of_lt (h2 i hi hin)))
    rcases h1 with h1 | h1
    · omega
    · exact Int64.lt_of_le_of_ne (Int64.le_trans (hw.rising i (k - 1) (by omega) (by omega)) h1) (hno i (by omega))
  intro a ha
  rcases Nat.lt_trichotomy a k with q | q | q
  · rw [u1 a q, insR_lo (by rw [hc]; exact q)]
  · subst q; rw [u2]; exact (by rw [← hc]; exact insR_at.symm)
  · rw [u3 a q (by omega), insR_hi (by rw [hc]; exact q) (by omega)]
