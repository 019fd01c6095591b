/-! ===== the reference: join, fold, and what asks only ===== -/
theorem join_row {M a b Z : Nat} (hM : M < 30) (ha : a < M) (hb : b < M) (hZ : Z ≤ 4096) (ho : Int32) (zz : Int32 × Int32 × (Nat → Int32) × (Nat → Int32) × (Nat → Int32) × (Nat → Int32) × (Nat → Int32) × (Nat → Int32) × (Nat → Int32)) (ez : zz.1 = nI M) (eZ : zz.2.2.2.1 a = nI Z) (row : Nat → Int32) : OK (mX9_join_L156 ho (nI a) (nI b) zz FU 0 row) (fun _ => True) := by
  refine OK_for (fun fu k (x : Nat → Int32) => mX9_join_L156 ho (nI a) (nI b) zz fu k x) Z (by omega) (fun _ _ => True) _ trivial ?_ ?_
  · intro fu x _
    show OK (mX9_join_L156 ho (nI a) (nI b) zz (fu + 1) (nI Z) x) _
    rw [mX9_join_L156, clN (k := a) (by omega), eZ]
    exact OK_T (ix_nI (by omega)) (OK_T (Int32.le_refl _) (OK_some trivial))
  · intro fu k x hk _ ih
    show OK (mX9_join_L156 ho (nI a) (nI b) zz (fu + 1) (nI k) x) _
    rw [mX9_join_L156, clN (k := a) (by omega), eZ, ez, m4096, m4096, m4096, nI_s]
    exact OK_T (ix_nI (by omega)) (OK_F (nI_ge hk (by omega)) (OK_T (ix_nI (by omega)) (OK_lt (OK_T (ix_nI (by omega)) (OK_lt (OK_ite (fun _ => OK_T (ix_nI (by omega)) (ih _ trivial)) (fun _ => OK_T (ix_nI (by omega)) (ih _ trivial))))))))
theorem upd_upd (f : Nat → Int32) (k : Nat) (x y : Int32) : upd (upd f k x) k y = upd f k y := by
  funext j
  unfold upd
  by_cases h : j = k
  · rw [if_pos h, if_pos h]
  · rw [if_neg h, if_neg h, if_neg h]
theorem join_a {M a b A : Nat} (hM : M < 30) (ha : a < M) (hb : b < M) (hA : A ≤ 1000) (ho : Int32) (zz : Int32 × Int32 × (Nat → Int32) × (Nat → Int32) × (Nat → Int32) × (Nat → Int32) × (Nat → Int32) × (Nat → Int32) × (Nat → Int32)) (ez : zz.1 = nI M) {vC : Nat → Int32} (eA : vC a = nI A) (hB : BN (vC b)) (ct : Nat → Int64) : OK (mX9_join_L237 ho (nI a) (nI b) zz FU 0 ct (upd vC M 0)) (fun z => ∃ n, n ≤ A ∧ z.2.2 = upd vC M (nI n)) := by
  have i30 := ix_nI (k := M) (n := 30) hM
  refine OK_for (fun fu k (x : (Nat → Int64) × (Nat → Int32)) => mX9_join_L237 ho (nI a) (nI b) zz fu k x.1 x.2) A (by omega) (fun k x => ∃ n, n ≤ k ∧ x.2 = upd vC M (nI n)) _ (s := (ct, upd vC M 0)) ⟨0, by omega, rfl⟩ ?_ ?_
  · rintro fu ⟨x1, x2⟩ ⟨n, hn, e⟩
    show OK (mX9_join_L237 ho (nI a) (nI b) zz (fu + 1) (nI A) x1 x2) _
    dsimp only at e
    rw [mX9_join_L237, clN (k := a) (by omega), e, pk_un (by omega), eA]
    exact OK_T (ix_nI (by omega)) (OK_T (Int32.le_refl _) (OK_some ⟨n, hn, rfl⟩))
  · rintro fu k ⟨x1, x2⟩ hk ⟨n, hn, e⟩ ih
    show OK (mX9_join_L237 ho (nI a) (nI b) zz (fu + 1) (nI k) x1 x2) _
    dsimp only at e
    subst e
    rw [mX9_join_L237, clN (k := a) (by omega), ez, clN (k := M) (by omega), pk_un (show a ≠ M by omega), eA, pk_us, m1000, m1000, nI_s, show nI n + (1 : Int32) = nI (n + 1) from nI_1 n, upd_upd]
    have grow : ∀ t : Int64, OK (if ix (nI M) 30 = true then (if ix (nI (1000 * M + n)) 30000 = true then (if ix (nI M) 30 = true then (if ix (nI M) 30 = true then (mX9_join_L237 ho (nI a) (nI b) zz fu (nI (k + 1)) (vp_updL x1 (Int32.toNatClampNeg (nI (1000 * M + n))) t) (upd vC M (nI (n + 1)))) else none) else none) else none) else none) (fun z => ∃ n, n ≤ A ∧ z.2.2 = upd vC M (nI n)) := fun t => OK_T i30 (OK_T (ix_nI (by omega)) (OK_T i30 (OK_T i30 (ih (_, upd vC M (nI (n + 1))) ⟨n + 1, by omega, rfl⟩))))
    refine OK_T (ix_nI (by omega)) (OK_F (nI_ge hk (by omega)) (OK_T (ix_nI (by omega)) (OK_lt (OK_ite (fun _ => grow _) (fun _ => OK_bind (times_ok hM (by rw [pk_us]; exact ⟨n, by omega, rfl⟩) _) (fun _ _ => OK_bind (times_ok (by omega) (by rw [pk_un (by omega)]; exact hB) _) (fun _ _ => OK_ite (fun _ => ih (x1, upd vC M (nI n)) ⟨n, by omega, rfl⟩) (fun _ => grow _))))))))
theorem join_b {M b A B n : Nat} (hM : M < 30) (hb : b < M) (ho : Int32) (hAB : ho = 0 → A + B ≤ 1000) (hB : B ≤ 1000) (hA : A ≤ 1000) (hn : n ≤ A) (zz : Int32 × Int32 × (Nat → Int32) × (Nat → Int32) × (Nat → Int32) × (Nat → Int32) × (Nat → Int32) × (Nat → Int32) × (Nat → Int32)) (ez : zz.1 = nI M) {vC : Nat → Int32} (eB : vC b = nI B) (ct : Nat → Int64) : OK (mX9_join_L326 ho (nI b) zz FU 0 ct (upd vC M (nI n))) (fun z => ∃ c, BN c ∧ z.2.2 = upd vC M c) := by
  have i30 := ix_nI (k := M) (n := 30) hM
  refine OK_for (fun fu k (x : (Nat → Int64) × (Nat → Int32)) => mX9_join_L326 ho (nI b) zz fu k x.1 x.2) B (by omega) (fun k x => ∃ m, (ho = 0 → m ≤ A + k) ∧ m ≤ 1000 ∧ x.2 = upd vC M (nI m)) _ (s := (ct, upd vC M (nI n))) ⟨n, fun _ => by omega, by omega, rfl⟩ ?_ ?_
  · rintro fu ⟨x1, x2⟩ ⟨m, hm, hm2, e⟩
    show OK (mX9_join_L326 ho (nI b) zz (fu + 1) (nI B) x1 x2) _
    dsimp only at e
    rw [mX9_join_L326, clN (k := b) (by omega), e, pk_un (by omega), eB]
    exact OK_T (ix_nI (by omega)) (OK_T (Int32.le_refl _) (OK_some ⟨_, ⟨m, hm2, rfl⟩, rfl⟩))
  · rintro fu k ⟨x1, x2⟩ hk ⟨m, hm, hm2, e⟩ ih
    show OK (mX9_join_L326 ho (nI b) zz (fu + 1) (nI k) x1 x2) _
    dsimp only at e
    subst e
    rw [mX9_join_L326, clN (k := b) (by omega), ez, clN (k := M) (by omega), pk_un (show b ≠ M by omega), eB, pk_us, m1000, m1000, nI_s, show nI m + (1 : Int32) = nI (m + 1) from nI_1 m, upd_upd]
    refine OK_T (ix_nI (by omega)) (OK_F (nI_ge hk (by omega)) (OK_ite (fun h0 => ?_) (fun _ => OK_some ⟨_, ⟨m, hm2, rfl⟩, rfl⟩)))
    have h1 := hm h0
    have h2 := hAB h0
    exact OK_T i30 (OK_T (ix_nI (by omega)) (OK_T (ix_nI (by omega)) (OK_T i30 (OK_T i30 (ih (_, upd vC M (nI (m + 1))) ⟨m + 1, fun _ => by omega, by omega, rfl⟩)))))
theorem rjoin_ok {many : Int32} {vIW vK vZ vM vC vR vL : Nat → Int32} (h : RI many vIW vK vZ vM vC vR vL) (vS : Nat → Int32) (vCt : Nat → Int64) (row : Nat → Int32) (ho aq bq : Int32) : OK (mX9_join many vK vZ vM vS vCt vC row vR ho aq bq) (fun z => RI z.2.1 vIW z.2.2.1 z.2.2.2.1 z.2.2.2.2.1 z.2.2.2.2.2.2.2.1 z.2.2.2.2.2.2.2.2.2 vL) := by
  have hh := h
  obtain ⟨⟨M, hM, rfl, hs⟩, hw⟩ := hh
  have h30 : ¬ nI M = (30 : Int32) → M < 30 := fun q => by
    have : M ≠ 30 := fun e => q (by rw [e]; rfl)
    omega
  unfold mX9_join
  refine OK_ite (fun _ => OK_some h) (fun _ => OK_ite (fun _ => OK_some h) (fun _ => ?_))
  rcases is_v hM rfl aq with e | ⟨e, a, ha, rfl⟩
  · exact OK_be e (OK_T rfl (OK_some h))
  rcases is_v hM rfl bq with e2 | ⟨e2, b, hb, rfl⟩
  · exact OK_be e (OK_F (by decide) (OK_be e2 (OK_T rfl (OK_some h))))
  refine OK_be e (OK_F (by decide) (OK_be e2 (OK_F (by decide) ?_)))
  have ia := ix_nI (k := a) (n := 30) (by omega)
  have ib := ix_nI (k := b) (n := 30) (by omega)
  rw [clN (k := a) (by omega), clN (k := b) (by omega)]
  obtain ⟨A, hA, eA⟩ := RS_cm (hs a ha)
  obtain ⟨B, hB, eB⟩ := RS_cm (hs b hb)
  refine OK_T ia (OK_ite (fun hk => ?_) (fun _ => OK_some h))
  obtain ⟨x, m, hx3, hx12, hm, eZ, eMk⟩ := RS_01 (hs a ha) (by rw [hk]; decide) (by rw [hk]; decide)
  have hp := pow_up hx12
  have main : ∀ (q : ¬ nI M = (30 : Int32)) (hAB : ho = 0 → A + B ≤ 1000), OK ((mX9_begin (nI M) vK vZ vM vS vC row vR (0 : Int32) (vZ a) (vM a) (vS a)).bind fun z148 => (mX9_join_L156 ho (nI a) (nI b) z148 FU (0 : Int32) z148.2.2.2.2.2.2.2.1).bind fun o156 => (mX9_join_L237 ho (nI a) (nI b) z148 FU (0 : Int32) vCt z148.2.2.2.2.2.2.1).bind fun o237 => (mX9_join_L326 ho (nI b) z148 FU (0 : Int32) o237.2.1 o237.2.2).bind fun o326 => some (z148.1, z148.2.1, z148.2.2.1, z148.2.2.2.1, z148.2.2.2.2.1, z148.2.2.2.2.2.1, o326.2.1, o326.2.2, o156.2, z148.2.2.2.2.2.2.2.2)) (fun z => RI z.2.1 vIW z.2.2.1 z.2.2.2.1 z.2.2.2.2.1 z.2.2.2.2.2.2.2.1 z.2.2.2.2.2.2.2.2.2 vL) := by
    intro q hAB
    refine OK_be (rbegin_v (h30 q) _ _ _ _ _ _ _ _ _ _ _) (OK_bind (join_row (h30 q) ha hb (by omega) ho _ rfl (show upd vZ M (vZ a) a = nI (2 ^ x) by rw [pk_un (by omega)]; exact eZ) _) (fun _ _ => OK_bind (join_a (h30 q) ha hb hA ho _ rfl eA ⟨B, hB, eB⟩ _) ?_))
    rintro z ⟨n, hn, ez⟩
    rw [ez]
    refine OK_bind (join_b (h30 q) hb ho hAB hB hA hn _ rfl eB _) ?_
    rintro y ⟨c, hc, ec⟩
    refine OK_some ?_
    dsimp only
    rw [ec]
    exact RI_begin (h30 q) h (K := 0) (Z := 2 ^ x) (m := m) rfl eZ eMk (Or.inl ⟨Or.inl rfl, ⟨x, hx3, hx12, rfl⟩, hm⟩) (fun q => absurd q (by decide)) hc BN_0
  refine OK_T ib (OK_ite (fun _ => OK_T ia (OK_T ib (OK_ite (fun _ => OK_T ia (OK_T ib (OK_ite (fun _ => OK_T ia (OK_T ib (OK_ite (fun _ => OK_ite (fun _ => OK_some h) (fun q => OK_ite (fun h0 => OK_T ia (OK_T ib (OK_ite (fun hle => OK_T ia (OK_T ia (OK_T ia (main q (fun _ => ?_))))) (fun _ => OK_some h)))) (fun h0 => OK_T ia (OK_T ia (OK_T ia (main q (fun q0 => absurd q0 h0))))))) (fun _ => OK_some h)))) (fun _ => OK_some h)))) (fun _ => OK_some h)))) (fun _ => OK_some h))
  rw [eA, eB, nI_add] at hle
  exact (nI_leI (b := 1000) (by omega) (by decide)).mp hle
theorem fold_cp {M a A : Nat} (hM : M < 30) (ha : a < M) (hA : A ≤ 1000) (zz : Int32 × Int32 × (Nat → Int32) × (Nat → Int32) × (Nat → Int32) × (Nat → Int32) × (Nat → Int32) × (Nat → Int32) × (Nat → Int32)) (ez : zz.1 = nI M) (eC : zz.2.2.2.2.2.2.1 a = nI A) (ct : Nat → Int64) : OK (mX9_fold_L133 (nI a) zz FU 0 ct) (fun _ => True) := by
  refine OK_for (fun fu k (y : Nat → Int64) => mX9_fold_L133 (nI a) zz fu k y) A (by omega) (fun _ _ => True) _ trivial ?_ ?_
  · intro fu y _
    show OK (mX9_fold_L133 (nI a) zz (fu + 1) (nI A) y) _
    rw [mX9_fold_L133, clN (k := a) (by omega), eC]
    exact OK_T (ix_nI (by omega)) (OK_T (Int32.le_refl _) (OK_some trivial))
  · intro fu k y hk _ ih
    show OK (mX9_fold_L133 (nI a) zz (fu + 1) (nI k) y) _
    rw [mX9_fold_L133, clN (k := a) (by omega), eC, ez, m1000, m1000, nI_s]
    exact OK_T (ix_nI (by omega)) (OK_F (nI_ge hk (by omega)) (OK_T (ix_nI (by omega)) (OK_T (ix_nI (by omega)) (ih _ trivial))))
theorem rfold_ok {many : Int32} {vIW vK vZ vM vC vR vL : Nat → Int32} (h : RI many vIW vK vZ vM vC vR vL) (vS : Nat → Int32) (vCt : Nat → Int64) (row : Nat → Int32) (oq : Int32) : OK (mX9_fold many vK vZ vM vS vCt vC row vR oq) (fun z => RI z.2.1 vIW z.2.2.1 z.2.2.2.1 z.2.2.2.2.1 z.2.2.2.2.2.2.2.1 z.2.2.2.2.2.2.2.2.2 vL) := by
  have hh := h
  obtain ⟨⟨M, hM, rfl, hs⟩, hw⟩ := hh
  have h30 : ¬ nI M = (30 : Int32) → M < 30 := fun q => by
    have : M ≠ 30 := fun e => q (by rw [e]; rfl)
    omega
  unfold mX9_fold
  rcases is_v hM rfl oq with e | ⟨e, a, ha, rfl⟩
  · exact OK_be e (OK_T rfl (OK_some h))
  refine OK_be e (OK_F (by decide) ?_)
  have ia := ix_nI (k := a) (n := 30) (by omega)
  rw [clN (k := a) (by omega)]
  obtain ⟨A, hA, eA⟩ := RS_cm (hs a ha)
  refine OK_T ia (OK_ite (fun hk => ?_) (fun _ => OK_some h))
  obtain ⟨x, m, hx3, hx12, hm, eZ, eMk⟩ := RS_01 (hs a ha) (by rw [hk]; decide) (by rw [hk]; decide)
  have hp := pow_up hx12
  refine OK_T ia (OK_ite (fun _ => OK_some h) (fun h8 => OK_ite (fun _ => OK_some h) (fun q => OK_T ia (OK_lt (OK_T ia (OK_T ia ?_))))))
  have hx4 : 4 ≤ x := by
    have : x ≠ 3 := fun q3 => h8 (by rw [eZ, q3]; rfl)
    omega
  have e2 : vZ a / (2 : Int32) = nI (2 ^ (x - 1)) := by
    rw [eZ, show nI (2 ^ x) / (2 : Int32) = nI (2 ^ x / 2) from q_d (by omega) (by decide) (by decide)]
    congr 1
    obtain ⟨y, rfl⟩ : ∃ y, x = y + 1 := ⟨x - 1, by omega⟩
    rw [Nat.pow_succ]
    simp
  have hp1 := pow_up (a := x - 1) (b := 11) (by omega)
  rw [e2]
  refine OK_be (rbegin_v (h30 q) _ _ _ _ _ _ _ _ _ _ _) (OK_bind (P := fun _ => True) ?_ (fun o76 _ => OK_bind (P := fun _ => True) ?_ (fun o133 _ => ?_)))
  · refine OK_for (fun fu k (y : Nat → Int32) => mX9_fold_L76 (nI a) (nI (2 ^ (x - 1))) _ fu k y) (2 ^ (x - 1)) (by omega) (fun _ _ => True) _ trivial ?_ ?_
    · intro fu y _
      show OK (mX9_fold_L76 (nI a) (nI (2 ^ (x - 1))) _ (fu + 1) (nI (2 ^ (x - 1))) y) _
      rw [mX9_fold_L76]
      exact OK_T (Int32.le_refl _) (OK_some trivial)
    · intro fu k y hk _ ih
      show OK (mX9_fold_L76 (nI a) (nI (2 ^ (x - 1))) _ (fu + 1) (nI k) y) _
      have hM30 := h30 q
      rw [mX9_fold_L76, nI_s]
      dsimp only
      rw [m4096, m4096, m4096, nI_add]
      exact OK_F (nI_ge hk (by omega)) (OK_T (ix_nI (by omega)) (OK_T (ix_nI (by omega)) (OK_T (ix_nI (by omega)) (ih _ trivial))))
  · exact fold_cp (h30 q) ha hA _ rfl (show upd vC M 0 a = nI A by rw [pk_un (by omega)]; exact eA) _
  · dsimp only
    rw [clN (k := M) (by omega), upd_upd, pk_un (show a ≠ M by omega)]
    refine OK_T ia (OK_T (ix_nI (h30 q)) (OK_some ?_))
    exact RI_begin (h30 q) h (K := 0) (Z := 2 ^ (x - 1)) (m := m) rfl rfl eMk (Or.inl ⟨Or.inl rfl, ⟨x - 1, by omega, by omega, rfl⟩, hm⟩) (fun q => absurd q (by decide)) ⟨A, hA, eA⟩ BN_0
