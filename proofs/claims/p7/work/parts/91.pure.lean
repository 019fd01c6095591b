/-! ===== the reference: solve, lay, layered ===== -/
theorem rTries_v {w n : Nat} (hw : w < 8) (hn : n ≤ 1000) {vIW : Nat → Int32} (eW : vIW w = nI n) (vW : Nat → Int64) (od oa io al : Nat → Int32) (sd : Int32) :
    OK (mX9_solve_L32 vW vIW (nI w) sd (nI (cOf n)) FU 0 (-1) od oa io al) (fun z => (z.2.1 = -1 ∧ ∀ τ, τ < 50 → ¬ Solv (fun u => vW (1000 * w + u)) (sd + nI τ) (cOf n) n) ∨ ∃ τ, τ < 50 ∧ z.2.1 = nI τ ∧ (∀ σ, σ < τ → ¬ Solv (fun u => vW (1000 * w + u)) (sd + nI σ) (cOf n) n) ∧ ∃ T P : Nat → Nat, RunS (plc (fun u => vW (1000 * w + u)) (sd + nI τ) (cOf n)) (cOf n) n T P n ∧ ∀ j, j < n → z.2.2.1 j = nI (T j) ∧ z.2.2.2.1 j = nI (P j)) := by
  refine OK_for (fun fu i (s : Int32 × (Nat → Int32) × (Nat → Int32) × (Nat → Int32) × (Nat → Int32)) => mX9_solve_L32 vW vIW (nI w) sd (nI (cOf n)) fu i s.1 s.2.1 s.2.2.1 s.2.2.2.1 s.2.2.2.2) 50 (by decide)
    (fun i s => (s.1 = -1 ∧ ∀ τ, τ < i → ¬ Solv (fun u => vW (1000 * w + u)) (sd + nI τ) (cOf n) n) ∨ ∃ τ, τ < 50 ∧ s.1 = nI τ ∧ (∀ σ, σ < τ → ¬ Solv (fun u => vW (1000 * w + u)) (sd + nI σ) (cOf n) n) ∧ ∃ T P : Nat → Nat, RunS (plc (fun u => vW (1000 * w + u)) (sd + nI τ) (cOf n)) (cOf n) n T P n ∧ ∀ j, j < n → s.2.1 j = nI (T j) ∧ s.2.2.1 j = nI (P j)) _ (s := (-1, od, oa, io, al)) (Or.inl ⟨rfl, fun τ ht => absurd ht (by omega)⟩) ?_ ?_
  · rintro fu ⟨a, b, d, e, f⟩ hs
    show OK (mX9_solve_L32 vW vIW (nI w) sd (nI (cOf n)) (fu + 1) (nI 50) a b d e f) _
    rw [mX9_solve_L32]
    exact OK_T (by decide) (OK_some hs)
  · rintro fu i ⟨a, b, d, e, f⟩ hi hs ih
    show OK (mX9_solve_L32 vW vIW (nI w) sd (nI (cOf n)) (fu + 1) (nI i) a b d e f) _
    rw [mX9_solve_L32]
    refine OK_F (nI_ge (b := 50) hi (by decide)) (OK_ite (fun h => OK_some ?_) (fun h => ?_))
    · rcases hs with ⟨h1, -⟩ | hs
      · dsimp only at h1; rw [h1] at h; exact absurd h (by decide)
      · exact Or.inr hs
    · have hs' : ∀ τ, τ < i → ¬ Solv (fun u => vW (1000 * w + u)) (sd + nI τ) (cOf n) n := by
        rcases hs with ⟨-, h1⟩ | ⟨τ, ht, h1, -⟩
        · exact h1
        · dsimp only at h1; rw [h1] at h; exact absurd (nI_pos' (by omega)) h
      refine OK_bind (rTakeOff_v hw hn eW vW b d e f (sd + nI i)) ?_
      rintro z ⟨T, P, j, r1, r2, r3⟩
      rw [nI_s]
      rcases r3 with ⟨e1, rfl⟩ | ⟨e1, hj, hst⟩
      · exact OK_F (by rw [e1]; decide) (ih (nI i, z.2.1, z.2.2.1, z.2.2.2.1, z.2.2.2.2) (Or.inr ⟨i, hi, rfl, hs', T, P, r1, r2⟩))
      · refine OK_T e1 (ih (-1, z.2.1, z.2.2.1, z.2.2.2.1, z.2.2.2.2) (Or.inl ⟨rfl, fun τ ht => ?_⟩))
        by_cases e2 : τ = i
        · subst e2; exact stuck_no r1 hj hst
        · exact hs' τ (by omega)
theorem rfill_in {c s : Nat} (h0 : 0 < c) (hc : c ≤ 1258) (hs : s < 30) (zz : Int32 × Int32 × (Nat → Int32) × (Nat → Int32) × (Nat → Int32) × (Nat → Int32) × (Nat → Int32) × (Nat → Int32) × (Nat → Int32)) (ez : zz.1 = nI s) (mx : Int64) (row : Nat → Int32) (x0 : Int32) : OK (mX9_solve_L153 (nI c) zz mx row FU 0 x0) (fun _ => True) := by
  refine OK_for (fun fu i (x : Int32) => mX9_solve_L153 (nI c) zz mx row fu i x) 3 (by decide) (fun _ _ => True) _ trivial ?_ ?_
  · intro fu x _
    show OK (mX9_solve_L153 (nI c) zz mx row (fu + 1) (nI 3) x) _
    rw [mX9_solve_L153]
    exact OK_T (by decide) (OK_some trivial)
  · intro fu k x hk _ ih
    show OK (mX9_solve_L153 (nI c) zz mx row (fu + 1) (nI k) x) _
    have := spN_lt (n := nM mx) (c := c) h0 hk
    rw [mX9_solve_L153, ez]
    refine OK_F (nI_ge (b := 3) hk (by decide)) (OK_be (sp_r mx hk h0 (by omega)) ?_)
    rw [m4096, nI_s]
    exact OK_T (ix_nI (by omega)) (OK_lt (ih _ trivial))
theorem rfill_loop {w n c s : Nat} (hw : w < 8) (hn : n ≤ 1000) (h0 : 0 < c) (hc : c ≤ 1258) (hs : s < 30) (vW : Nat → Int64) (sd : Int32) (o : Int32 × Int32 × (Nat → Int32) × (Nat → Int32) × (Nat → Int32) × (Nat → Int32)) {T P : Nat → Nat} (hT : ∀ j, j < n → T j < n ∧ P j < 3 * c ∧ o.2.2.1 j = nI (T j) ∧ o.2.2.2.1 j = nI (P j)) (zz : Int32 × Int32 × (Nat → Int32) × (Nat → Int32) × (Nat → Int32) × (Nat → Int32) × (Nat → Int32) × (Nat → Int32) × (Nat → Int32)) (ez : zz.1 = nI s) : ∀ (k fu : Nat) (row : Nat → Int32), k ≤ n → k < fu → OK (mX9_solve_L111 vW (nI w) sd (nI c) o zz fu (nI k + (-1)) row) (fun _ => True) := by
  intro k
  induction k with
  | zero =>
    intro fu row _ hf
    obtain ⟨fu, rfl⟩ : ∃ q, fu = q + 1 := ⟨fu - 1, by omega⟩
    rw [mX9_solve_L111]
    exact OK_T (by decide) (OK_some trivial)
  | succ k ih =>
    intro fu row hk hf
    obtain ⟨fu, rfl⟩ : ∃ q, fu = q + 1 := ⟨fu - 1, by omega⟩
    obtain ⟨h1, h2, h3, h4⟩ := hT k (by omega)
    rw [mX9_solve_L111, pk_m1, show Int32.toNatClampNeg (nI k) = k from clN (by omega), h3, h4, ez, m1000, m4096, clN (k := 4096 * s + P k) (by omega)]
    exact OK_F (nI_pos (by omega)) (OK_T (ix_nI (by omega)) (OK_T (ix_nI (by omega)) (OK_be (mix_r _ _) (OK_be (stag_r _) (OK_bind (rfill_in h0 hc hs zz ez _ _ _) (fun _ _ => OK_T (ix_nI (by omega)) (OK_T (ix_nI (by omega)) (ih fu _ (by omega) (by omega)))))))))
theorem isW_v (wi : Int32) : (mX9_isWorld wi = some 0) ∨ (mX9_isWorld wi = some 1 ∧ ∃ j, j < 8 ∧ wi = nI j) := by
  unfold mX9_isWorld
  by_cases h0 : wi < 0
  · rw [if_pos h0]; exact Or.inl rfl
  · rw [if_neg h0]
    by_cases h8 : (8 : Int32) ≤ wi
    · rw [if_pos h8]; exact Or.inl rfl
    · rw [if_neg h8]; exact Or.inr ⟨rfl, pu_of (n := 8) h0 h8 (by decide)⟩
theorem rsolve_ok {many : Int32} {vIW vK vZ vM vC vR vL : Nat → Int32} (h : RI many vIW vK vZ vM vC vR vL) (vW : Nat → Int64) (vS : Nat → Int32) (vCt : Nat → Int64) (vRow od oa io al : Nat → Int32) (wi sd : Int32) : OK (mX9_solve many vW vIW vK vZ vM vS vCt vC vRow vR od oa io al wi sd) (fun z => RI z.2.1 vIW z.2.2.1 z.2.2.2.1 z.2.2.2.2.1 z.2.2.2.2.2.2.2.1 z.2.2.2.2.2.2.2.2.2.1 vL) := by
  unfold mX9_solve
  rcases isW_v wi with e | ⟨e, j, hj, rfl⟩
  · exact OK_be e (OK_T rfl (OK_some h))
  · obtain ⟨n, hn, eW⟩ := h.2 j hj
    obtain ⟨hc8, hc⟩ := cOf_b hn
    obtain ⟨M, hM, rfl, hs⟩ := h.1
    have h30 : ¬ nI M = (30 : Int32) → M < 30 := fun q => by
      have : M ≠ 30 := fun e => q (by rw [e]; rfl)
      omega
    refine OK_be e (OK_F (by decide) (OK_T (ix_nI hj) (OK_lt ?_)))
    rw [clN (k := j) (by omega), eW, cOf_I hn]
    refine OK_bind (rTries_v hj hn eW vW od oa io al sd) ?_
    rintro o (⟨e1, -⟩ | ⟨τ, hτ, e1, -, T, P, r1, r2⟩)
    · exact OK_F (by rw [e1]; decide) (OK_some h)
    · refine OK_T (by rw [e1]; exact nI_pos' (by omega)) (OK_ite (fun _ => OK_some h) (fun q => OK_be (rbegin_v (h30 q) _ _ _ _ _ _ _ _ _ _ _) (OK_lt (OK_bind (P := fun _ => True) ?_ (fun y _ => OK_bind (fillFrom_ok (h30 q) hj ⟨n, hn, eW⟩ _ _) (fun x hx => OK_some ?_))))))
      · rw [show nI n - (1 : Int32) = nI n + (-1) by rw [Int32.sub_eq_add_neg]]
        exact rfill_loop hj hn (by omega) hc (h30 q) vW sd o (T := T) (P := P) (fun j hj => ⟨(r1 j hj).1, (r1 j hj).2.2.1, (r2 j hj).1, (r2 j hj).2⟩) _ rfl n FU _ (Nat.le_refl _) (by show n < 5000; omega)
      · dsimp only
        rw [hx]
        have := RI_begin (h30 q) h (K := 3) (Z := cOf n) (m := 0) (k0 := 3) (k1 := nI (cOf n)) (k2 := 0) rfl rfl rfl (Or.inr (Or.inr (Or.inl ⟨rfl, hc8, hc, rfl⟩))) (fun q => absurd q (by decide)) (c := vIW j) (r := 0) ⟨n, hn, eW⟩ BN_0
        have e5 : upd (upd vC M 0) M (vIW j) = upd vC M (vIW j) := by
          funext k
          unfold upd
          by_cases ek : k = M
          · rw [if_pos ek, if_pos ek]
          · rw [if_neg ek, if_neg ek, if_neg ek]
        rw [e5]
        exact this
