/-! ===== worlds, exact: the reference ===== -/
def wOf (vW : Nat → Int64) (w : Nat) : Nat → Int64 := fun i => vW (1000 * w + i)
theorem rplace_v {vIW : Nat → Int32} {w n : Nat} (hw : w < 8) (hn : n ≤ 1000) (e : vIW w = nI n) (vW : Nat → Int64) (t : Int64) : OK (mX9_placeOf vW vIW (nI w) t) (fun z => (z = -1 ∧ ¬ memW n (wOf vW w) t) ∨ ∃ c, c < n ∧ z = nI c ∧ wOf vW w c = t) := by
  unfold mX9_placeOf
  refine OK_bind (P := fun o => (∃ x, o = .inr x ∧ ¬ memW n (wOf vW w) t) ∨ ∃ c, c < n ∧ o = .inl (nI c) ∧ wOf vW w c = t) ?_ ?_
  · refine OK_for (fun fu k (_ : Unit) => mX9_placeOf_L3 vW vIW (nI w) t fu k) n (by omega) (fun k _ => ∀ a, a < k → wOf vW w a ≠ t) _ (s := ()) (fun a ha => absurd ha (Nat.not_lt_zero a)) ?_ ?_
    · intro fu _ h
      show OK (mX9_placeOf_L3 vW vIW (nI w) t (fu + 1) (nI n)) _
      rw [mX9_placeOf_L3, clN (k := w) (by omega), e]
      exact OK_T (ix_nI hw) (OK_T (Int32.le_refl _) (OK_some (Or.inl ⟨_, rfl, fun ⟨a, ha, q⟩ => h a ha q⟩)))
    · intro fu k _ hk h ih
      show OK (mX9_placeOf_L3 vW vIW (nI w) t (fu + 1) (nI k)) _
      rw [mX9_placeOf_L3, clN (k := w) (by omega), e, m1000, nI_s, clN (k := 1000 * w + k) (by omega)]
      refine OK_T (ix_nI hw) (OK_F (nI_ge hk (by omega)) (OK_T (ix_nI (by omega)) (OK_ite (fun q => OK_some (Or.inr ⟨k, hk, rfl, (lg_cmp_eq _ _).mp q⟩)) (fun q => ih () ?_))))
      intro a ha
      rcases Nat.lt_succ_iff_lt_or_eq.mp ha with r | r
      · exact h a r
      · subst r
        exact fun z => q ((lg_cmp_eq _ _).mpr z)
  · rintro o (⟨x, rfl, h⟩ | ⟨c, hc, rfl, h⟩)
    · exact OK_some (Or.inl ⟨rfl, h⟩)
    · exact OK_some (Or.inr ⟨c, hc, rfl, h⟩)
def EnI (w n : Nat) (vW : Nat → Int64) (t : Int64) (k : Nat) (ca : Nat → Int64) : Prop := (∀ i, i < k → ca (1000 * w + i) = vW (1000 * w + i)) ∧ (∀ i, k < i → i ≤ n → ca (1000 * w + i) = vW (1000 * w + (i - 1))) ∧ (∀ i, k ≤ i → i < n → t < vW (1000 * w + i)) ∧ ∀ q, (q < 1000 * w ∨ 1000 * w + n < q) → ca q = vW q
theorem enter_loop {w n : Nat} (hw : w < 8) (hn : n < 1000) (vW : Nat → Int64) (t : Int64) : ∀ (k fu : Nat) (ca : Nat → Int64), k ≤ n → k < fu → EnI w n vW t k ca → OK (mX9_enter_L8 (nI w) t fu (nI k) ca) (fun z => ∃ c, c ≤ n ∧ z.1 = nI c ∧ EnI w n vW t c z.2 ∧ (c = 0 ∨ vW (1000 * w + (c - 1)) ≤ t)) := by
  intro k
  induction k with
  | zero =>
    intro fu ca hk hf h
    obtain ⟨fu, rfl⟩ : ∃ q, fu = q + 1 := ⟨fu - 1, by omega⟩
    rw [mX9_enter_L8]
    exact OK_T (by decide) (OK_some ⟨0, hk, rfl, h, Or.inl rfl⟩)
  | succ k ih =>
    intro fu ca hk hf h
    obtain ⟨fu, rfl⟩ : ∃ q, fu = q + 1 := ⟨fu - 1, by omega⟩
    obtain ⟨h1, h2, h3, h4⟩ := h
    rw [mX9_enter_L8, m1_pred (by omega), m1000, show nI (1000 * w + (k + 1)) - (1 : Int32) = nI (1000 * w + k) from pk_sub (b := 1) (by omega), clN (k := 1000 * w + k) (by omega), clN (k := 1000 * w + (k + 1)) (by omega), h1 k (by omega)]
    have ii : ix (nI (1000 * w + k)) 8000 = true := ix_nI (by omega)
    refine OK_F (nI_ge (a := 0) (by omega) (by omega)) (OK_T ii (OK_ite (fun q => OK_some ⟨k + 1, hk, rfl, ⟨h1, h2, h3, h4⟩, Or.inr (by rw [Nat.add_sub_cancel]; exact (lg_cmp_le _ _).mp q)⟩) (fun q => OK_T ii (OK_T (ix_nI (by omega)) (ih fu _ (by omega) (by omega) ?_)))))
    refine ⟨fun i hi => ?_, fun i hi hin => ?_, fun i hi hin => ?_, fun p hp => ?_⟩
    · rw [pk_uLn (by omega)]
      exact h1 i (by omega)
    · rcases Nat.lt_or_ge (k + 1) i with r | r
      · rw [pk_uLn (by omega)]
        exact h2 i r hin
      · obtain rfl : i = k + 1 := by omega
        rw [pk_uLs, Nat.add_sub_cancel]
    · rcases Nat.lt_or_ge k i with r | r
      · exact h3 i (by omega) hin
      · obtain rfl : i = k := by omega
        exact Int64.not_le.mp (fun z => q ((lg_cmp_le _ _).mpr z))
    · rw [pk_uLn (by omega)]
      exact h4 p hp
theorem renter_v {vIW : Nat → Int32} {w n : Nat} (hw : w < 8) (hn : n < 1000) (e : vIW w = nI n) {vW : Nat → Int64} (hr : worldR (wOf vW w) n) {t : Int64} (hm : ¬ memW n (wOf vW w) t) : OK (mX9_enter vW vIW (nI w) t) (fun z => z.2 = upd vIW w (nI (n + 1)) ∧ AG (n + 1) (wOf z.1 w) (insR (wOf vW w) n t) ∧ ∀ q, (q < 1000 * w ∨ 1000 * w + 1000 ≤ q) → z.1 q = vW q) := by
  unfold mX9_enter
  rw [clN (k := w) (by omega), e]
  have i8 := ix_nI (k := w) (n := 8) hw
  refine OK_T i8 (OK_bind (enter_loop hw hn vW t n FU vW (Nat.le_refl _) (show n < 5000 by omega) ⟨fun _ _ => rfl, fun i h1 h2 => absurd h1 (by omega), fun i h1 h2 => absurd h1 (by omega), fun _ _ => rfl⟩) ?_)
  rintro z ⟨c, hc, ez, ⟨h1, h2, h3, h4⟩, h5⟩
  rw [ez, m1000, clN (k := 1000 * w + c) (by omega), nI_s]
  refine OK_T (ix_nI (by omega)) (OK_T i8 (OK_T i8 (OK_some ⟨rfl, ?_, fun q hq => ?_⟩)))
  · refine enter_ins hr (by omega) (fun i hi z => hm ⟨i, hi, z⟩) hc h5 h3 (fun i hi => ?_) ?_ (fun i hi hin => ?_)
    · show vp_updL z.2 (1000 * w + c) t (1000 * w + i) = _
      rw [pk_uLn (by omega)]
      exact h1 i hi
    · exact pk_uLs
    · show vp_updL z.2 (1000 * w + c) t (1000 * w + i) = _
      rw [pk_uLn (by omega)]
      exact h2 i hi hin
  · show vp_updL z.2 (1000 * w + c) t q = _
    rw [pk_uLn (by omega)]
    exact h4 q (by omega)
