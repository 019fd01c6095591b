/-! ===== the class's contents, exact (kinds that are not NESTED) ===== -/
def PuC (n : Nat) (v : Nat → Int64) (t : Int64) (x n1 : Int32) (v1 : Nat → Int64) : Prop := (n = 1000 ∧ x = -4 ∧ n1 = nI n ∧ v1 = v) ∨ (n < 1000 ∧ x = nI (n + 1) ∧ n1 = nI (n + 1) ∧ v1 = insR v n t)
theorem enter_x {kd mk : Int32} (hm : MN mk) (hk : ¬ kd = 2) {n : Nat} (hn : n ≤ 1000) (sz sd : Int32) (kc : Nat → Int32) (v : Nat → Int64) (t : Int64) : OK (mX6_enter kd sz mk sd kc (nI n) v t) (fun z => PuC n v t z.1 z.2.2.1 z.2.2.2) := by
  unfold mX6_enter
  rcases Nat.lt_or_ge n 1000 with h | h
  · refine OK_be (bag_full0 h) (OK_T rfl (OK_be (mix_c t sd) (OK_F hk (OK_F hk ?_))))
    obtain ⟨b, eb, -⟩ := raise_ok hm kd sz kc (mixV t sd)
    exact OK_be eb (OK_be (bag_ins h) (OK_be rfl (OK_some (Or.inr ⟨h, rfl, rfl, rfl⟩))))
  · exact OK_be (bag_full1 (by omega)) (OK_F (by decide) (OK_some (Or.inl ⟨by omega, rfl, rfl, rfl⟩)))
theorem sput_x {mk : Int32} (hm : MN mk) {n : Nat} (hn : n ≤ 1000) (sz sd : Int32) (kc : Nat → Int32) (v : Nat → Int64) (t : Int64) : OK (mX8_put t 0 sz mk sd kc (nI n) v) (fun z => PuC n v t z.1 z.2.2.1 z.2.2.2) := by
  unfold mX8_put
  exact OK_be rfl (OK_F (by decide) (OK_bind (enter_x hm (by decide) hn _ _ _ _ _) (fun _ h => OK_some h)))
/-- n and the first m of a row -/
def Grw (n m : Nat) (v wv : Nat → Int64) (n1 : Int32) (v1 : Nat → Int64) : Prop := n1 = nI (n + m) ∧ n + m ≤ 1000 ∧ rising v1 (n + m) ∧ ∀ t, cB (n + m) v1 t = cB n v t + cB m wv t
theorem sputAll_x {mk : Int32} (hm : MN mk) {n N : Nat} (hn : n ≤ 1000) (hN : N ≤ 1000) (sz sd : Int32) (kc : Nat → Int32) (v wv : Nat → Int64) (hr : rising v n) : OK (mX8_putAllG (nI N) wv 0 sz mk sd kc (nI n) v) (fun z => z.1 = nI (min N (1000 - n)) ∧ Grw n (min N (1000 - n)) v wv z.2.2.1 z.2.2.2) := by
  unfold mX8_putAllG
  refine OK_be rfl (OK_F (by decide) (OK_bind (P := fun o => (∃ x, o = .inl x ∧ x.1 = nI (min N (1000 - n)) ∧ Grw n (min N (1000 - n)) v wv x.2.2.1 x.2.2.2) ∨ ∃ x, o = .inr x ∧ min N (1000 - n) = N ∧ Grw n N v wv x.2.2.1 x.2.2.2) ?_ ?_))
  · refine OK_for (fun fu k (x : (Nat → Int32) × Int32 × (Nat → Int64)) => mX8_putAllG_L37 (nI N) wv 0 sz mk sd fu k x.1 x.2.1 x.2.2) N (by omega) (fun k x => Grw n k v wv x.2.1 x.2.2) _ (s := (kc, nI n, v)) ⟨rfl, hn, hr, fun t => rfl⟩ ?_ ?_
    · rintro fu ⟨x1, x2, x3⟩ h
      show OK (mX8_putAllG_L37 (nI N) wv 0 sz mk sd (fu + 1) (nI N) x1 x2 x3) _
      rw [mX8_putAllG_L37]
      have h2 := h.2.1
      exact OK_be rfl (OK_T (Int32.le_refl _) (OK_some (Or.inr ⟨_, rfl, by omega, h⟩)))
    · rintro fu k ⟨x1, x2, x3⟩ hk ⟨h1, h2, h3, h4⟩ ih
      show OK (mX8_putAllG_L37 (nI N) wv 0 sz mk sd (fu + 1) (nI k) x1 x2 x3) _
      dsimp only at h1 h2 h3 h4
      subst h1
      rw [mX8_putAllG_L37, nI_s]
      refine OK_be rfl (OK_F (nI_ge hk (by omega)) (OK_be (bag_atN hN hk) (OK_bind (enter_x hm (by decide) h2 sz sd x1 x3 (wv k)) ?_)))
      rintro z (⟨e, z1, z2, z3⟩ | ⟨e, z1, z2, z3⟩)
      · rw [z1]
        refine OK_F (by decide) (OK_some (Or.inl ⟨_, rfl, ?_, ?_⟩))
        · show nI k = _
          congr 1
          omega
        · show Grw n (min N (1000 - n)) v wv z.2.2.1 z.2.2.2
          rw [show min N (1000 - n) = k by omega, z2, z3]
          exact ⟨rfl, h2, h3, h4⟩
      · rw [z1]
        refine OK_T (nI_pos' (by omega)) (ih (z.2.1, z.2.2.1, z.2.2.2) ⟨z2, by omega, ?_, fun t => ?_⟩)
        · show rising z.2.2.2 (n + k + 1)
          rw [z3]
          exact insR_rising h3 h2
        · show cB (n + k + 1) z.2.2.2 t = _
          rw [z3, cB_ins, h4, cB_s]
          omega
  · rintro o (⟨x, rfl, h1, h2⟩ | ⟨x, rfl, h1, h2⟩)
    · exact OK_some ⟨h1, h2⟩
    · refine OK_be rfl (OK_some ⟨?_, ?_⟩)
      · show nI N = _
        rw [h1]
      · show Grw n (min N (1000 - n)) v wv x.2.2.1 x.2.2.2
        rw [h1]
        exact h2
/-! ===== the reference: putAll, drop, join, fold ===== -/
/-- the contents of the other sieves stand -/
def FrC (s : Nat) (vC : Nat → Int32) (vCt : Nat → Int64) (vC1 : Nat → Int32) (vCt1 : Nat → Int64) : Prop := ∀ q, q ≠ s → vC1 q = vC q ∧ AG 1000 (slC vCt1 q) (slC vCt q)
theorem FrC_r (s : Nat) (vC : Nat → Int32) (vCt : Nat → Int64) : FrC s vC vCt vC vCt := fun _ _ => ⟨rfl, AG_r _ _⟩
theorem FrC_t {s : Nat} {vC vC1 vC2 : Nat → Int32} {vCt vCt1 vCt2 : Nat → Int64} (h : FrC s vC vCt vC1 vCt1) (h2 : FrC s vC1 vCt1 vC2 vCt2) : FrC s vC vCt vC2 vCt2 := fun q hq => ⟨(h2 q hq).1.trans (h q hq).1, AG_t (h2 q hq).2 (h q hq).2⟩
theorem PuR_fr {vC vC1 : Nat → Int32} {vCt vCt1 : Nat → Int64} {s : Nat} {t : Int64} {x : Int32} (h : PuR vC vCt s t x vCt1 vC1) : FrC s vC vCt vC1 vCt1 := by
  rcases h with ⟨-, e1, e2⟩ | ⟨n, hn, -, -, e1, e2⟩
  · subst e1 e2; exact FrC_r _ _ _
  · subst e1 e2; exact fun q hq => ⟨upo hq, slC_o hq hn⟩
theorem rput_x {many : Int32} {vIW vK vZ vM vC vR vL : Nat → Int32} (h : RI many vIW vK vZ vM vC vR vL) {M s : Nat} (eM : many = nI M) (hM : M ≤ 30) (hs : s < M) (vS : Nat → Int32) (vCt : Nat → Int64) (row kept : Nat → Int32) (t : Int64) : OK (mX9_put many vK vZ vM vS vCt vC row kept (nI s) t) (fun z => FrC s vC vCt z.2.2.1 z.2.1 ∧ (vK s = 0 → PuR vC vCt s t z.1 z.2.1 z.2.2.1 ∧ (z.1 < 0 ↔ vC s = 1000)) ∧ (¬ vK s ≤ 2 → z.1 = -2 ∧ z.2.1 = vCt ∧ z.2.2.1 = vC)) := by
  have hS : RS vK vZ vM vC vR vL s := by
    obtain ⟨⟨M', hM', eM', hs'⟩, -⟩ := h
    have : M = M' := (nI_eq (by omega) (by omega)).mp (eM.symm.trans eM')
    exact hs' s (by omega)
  unfold mX9_put
  rcases is_v hM eM (nI s) with e | ⟨e, -⟩
  · exfalso
    unfold mX9_is at e
    rw [if_neg (nI_pos (by omega)), if_neg (by rw [eM]; exact nI_ge hs (by omega))] at e
    exact absurd e (by decide)
  · refine OK_be e (OK_F (by decide) (OK_T (ix_nI (by omega)) ?_))
    rw [clN (k := s) (by omega)]
    refine OK_ite (fun hk => OK_bind (doPut_x (by omega) hS hk vS vCt row kept t) (fun z hz => OK_some ⟨PuR_fr hz.1, fun h0 => ⟨hz.1, hz.2 (by rw [h0]; decide)⟩, fun h2 => absurd hk h2⟩)) (fun hk => OK_some ⟨FrC_r _ _ _, fun h0 => absurd (show vK s ≤ 2 by rw [h0]; decide) hk, fun _ => ⟨rfl, rfl, rfl⟩⟩)
