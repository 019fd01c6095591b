/-! ===== the reference's rows: what the makers leave as it was, join and fold exact ===== -/
def RF (s : Nat) (row row1 : Nat → Int32) : Prop := ∀ q, (q < 4096 * s ∨ 4096 * s + 4096 ≤ q) → row1 q = row q
theorem RF_r (s : Nat) (row : Nat → Int32) : RF s row row := fun _ _ => rfl
theorem RF_c (s : Nat) (row : Nat → Int32) : RF s row (clrR s row) := fun q hq => if_neg (by omega)
theorem clr_Is (s : Nat) (row : Nat → Int32) : RowIs s row (clrR s row) (fun _ => 0) := ⟨fun i hi => if_pos (by omega), RF_c s row⟩
theorem rfill_fr {w n c s : Nat} (hw : w < 8) (hn : n ≤ 1000) (h0 : 0 < c) (hc : c ≤ 1258) (hs : s < 30) (vW : Nat → Int64) (sd : Int32) (o : Int32 × Int32 × (Nat → Int32) × (Nat → Int32) × (Nat → Int32) × (Nat → Int32)) {T P : Nat → Nat} (hT : ∀ j, j < n → T j < n ∧ P j < 3 * c ∧ o.2.2.1 j = nI (T j) ∧ o.2.2.2.1 j = nI (P j)) (zz : Int32 × Int32 × (Nat → Int32) × (Nat → Int32) × (Nat → Int32) × (Nat → Int32) × (Nat → Int32) × (Nat → Int32) × (Nat → Int32)) (ez : zz.1 = nI s) : ∀ (k fu : Nat) (row : Nat → Int32), k ≤ n → k < fu → OK (mX9_solve_L111 vW (nI w) sd (nI c) o zz fu (nI k + (-1)) row) (fun z => RF s row z.2) := by
  intro k
  induction k with
  | zero =>
    intro fu row _ hf
    obtain ⟨fu, rfl⟩ : ∃ q, fu = q + 1 := ⟨fu - 1, by omega⟩
    rw [mX9_solve_L111]
    exact OK_T (by decide) (OK_some (RF_r _ _))
  | succ k ih =>
    intro fu row hk hf
    obtain ⟨fu, rfl⟩ : ∃ q, fu = q + 1 := ⟨fu - 1, by omega⟩
    obtain ⟨h1, h2, h3, h4⟩ := hT k (by omega)
    rw [mX9_solve_L111, pk_m1, show Int32.toNatClampNeg (nI k) = k from clN (by omega), h3, h4, ez, m1000, m4096, clN (k := 4096 * s + P k) (by omega)]
    refine OK_F (nI_pos (by omega)) (OK_T (ix_nI (by omega)) (OK_T (ix_nI (by omega)) (OK_be (mix_r _ _) (OK_be (stag_r _) (OK_bind (rfill_in h0 hc hs zz ez _ _ _) (fun x _ => OK_T (ix_nI (by omega)) (OK_T (ix_nI (by omega)) (OK_mono (ih fu _ (by omega) (by omega)) (fun z hz q hq => ?_)))))))))
    rw [hz q hq]
    exact upo (by omega)
theorem rsolve_row {M : Nat} (hM : M ≤ 30) {w N : Nat} (hw : w < 8) (hN : N ≤ 1000) {vIW : Nat → Int32} (eW : vIW w = nI N) (vW : Nat → Int64) (vK vZ vM vS : Nat → Int32) (vCt : Nat → Int64) (vC vRow vR od oa io al : Nat → Int32) (sd : Int32) : OK (mX9_solve (nI M) vW vIW vK vZ vM vS vCt vC vRow vR od oa io al (nI w) sd) (fun z => RF M vRow z.2.2.2.2.2.2.2.2.1) := by
  unfold mX9_solve
  obtain ⟨hc8, hc⟩ := cOf_b hN
  refine OK_be (isW1 hw) (OK_F (by decide) (OK_T (ix_nI hw) (OK_lt ?_)))
  rw [clN (k := w) (by omega), eW, cOf_I hN]
  refine OK_bind (rTries_v hw hN eW vW od oa io al sd) ?_
  rintro o (⟨e1, hno⟩ | ⟨τ, hτ, e1, hno, T, P, r1, r2⟩)
  · exact OK_F (by rw [e1]; decide) (OK_some (RF_r _ _))
  · refine OK_T (by rw [e1]; exact nI_pos' (by omega)) (OK_ite (fun q => OK_some (RF_r _ _)) (fun q => OK_be (rbegin_v (m30 hM q) _ _ _ _ _ _ _ _ _ _ _) (OK_lt (OK_bind (P := fun z => RF M (clrR M vRow) z.2) ?_ (fun y hy => OK_bind (fillFrom_x (m30 hM q) hw hN eW vW vCt _) (fun x hx => OK_some ?_))))))
    · rw [show nI N - (1 : Int32) = nI N + (-1) by rw [Int32.sub_eq_add_neg]]
      exact rfill_fr hw hN (by omega) hc (m30 hM q) vW sd o (T := T) (P := P) (fun j hj => ⟨(r1 j hj).1, (r1 j hj).2.2.1, (r2 j hj).1, (r2 j hj).2⟩) _ rfl N FU _ (Nat.le_refl _) (by show N < 5000; omega)
    · exact fun q hq => (hy q hq).trans (RF_c M vRow q hq)
theorem rlayered_row {M : Nat} (hM : M ≤ 30) {w u N U : Nat} (hw : w < 8) (hu : u < 8) (hN : N ≤ 1000) (hU : U ≤ 1000) {vIW : Nat → Int32} (eW : vIW w = nI N) (eU : vIW u = nI U) (vW : Nat → Int64) (vK vZ vM vS : Nat → Int32) (vCt : Nat → Int64) (vC vRow vB vL vLC : Nat → Int32) (vRe : Nat → Int64) (vR : Nat → Int32) (vCo vRi vGo : Nat → Int64) (sd : Int32) : OK (mX9_layered (nI M) vW vIW vK vZ vM vS vCt vC vRow vB vL vLC vRe vR vCo vRi vGo (nI w) (nI u) sd) (fun z => RF M vRow z.2.2.2.2.2.2.2.2.1) := by
  unfold mX9_layered
  refine OK_be (isW1 hw) (OK_F (by decide) (OK_be (isW1 hu) (OK_F (by decide) (OK_ite (fun q => OK_some (RF_r _ _)) (fun q => OK_be (rbegin_v (m30 hM q) _ _ _ _ _ _ _ _ _ _ _) (OK_bind (fillFrom_x (m30 hM q) hw hN eW vW vCt _) (fun x hx => OK_T (ix_nI hw) (OK_bind (P := fun _ => True) ?_ (fun o59 _ => OK_bind (P := fun z => ∃ A, A ≤ 1000 ∧ z.2.1 = nI A) ?_ ?_)))))))))
  · refine OK_for (fun fu k (c : Nat → Int64) => mX9_layered_L59 vW vIW (nI w) fu k c) N (by omega) (fun _ _ => True) _ trivial ?_ ?_
    · intro fu c _
      show OK (mX9_layered_L59 vW vIW (nI w) (fu + 1) (nI N) c) _
      rw [mX9_layered_L59, clN (k := w) (by omega), eW]
      exact OK_T (Int32.le_refl _) (OK_some trivial)
    · intro fu k c hk _ ih
      show OK (mX9_layered_L59 vW vIW (nI w) (fu + 1) (nI k) c) _
      rw [mX9_layered_L59, clN (k := w) (by omega), eW, m1000, nI_s]
      exact OK_F (nI_ge hk (by omega)) (OK_T (ix_nI (by omega)) (OK_T (ix_nI (by omega)) (ih _ trivial)))
  · refine OK_for (fun fu k (c : Int32 × (Nat → Int64)) => mX9_layered_L95 vW vIW (nI w) (nI u) fu k c.1 c.2) U (by omega) (fun k c => ∃ A, A ≤ k ∧ c.1 = nI A) _ (s := (0, vRi)) ⟨0, by omega, rfl⟩ ?_ ?_
    · rintro fu c ⟨A, hA, eA⟩
      show OK (mX9_layered_L95 vW vIW (nI w) (nI u) (fu + 1) (nI U) c.1 c.2) _
      rw [mX9_layered_L95, clN (k := u) (by omega), eU]
      exact OK_T (ix_nI hu) (OK_T (Int32.le_refl _) (OK_some ⟨A, by omega, eA⟩))
    · rintro fu k ⟨c1, c2⟩ hk ⟨A, hA, eA⟩ ih
      show OK (mX9_layered_L95 vW vIW (nI w) (nI u) (fu + 1) (nI k) c1 c2) _
      dsimp only at eA
      subst eA
      rw [mX9_layered_L95, clN (k := u) (by omega), eU, m1000, nI_s, show nI A + (1 : Int32) = nI (A + 1) from nI_1 A]
      exact OK_T (ix_nI hu) (OK_F (nI_ge hk (by omega)) (OK_T (ix_nI (by omega)) (OK_bind (place_ok hw ⟨N, hN, eW⟩ _ _) (fun _ _ => OK_ite (fun _ => ih (nI A, c2) ⟨A, by omega, rfl⟩) (fun _ => OK_T (ix_nI (by omega)) (OK_T (ix_nI (by omega)) (ih (nI (A + 1), _) ⟨A + 1, by omega, rfl⟩)))))))
  · rintro o ⟨A, hA, eA⟩
    rw [eA, clN (k := w) (by omega), eW]
    refine OK_bind (layered_loop (m30 hM q) _ rfl (upd vZ M 0) vL (upd vR M 0) 20 0 FU (by decide) (by decide) A N _ _ _ _ _ _ _ _ _ hA hN ⟨pk_us, fun j hj => absurd hj (by omega), by dsimp only; rw [pk_us]; exact BN_0, fun q _ => ⟨rfl, rfl⟩, fun _ _ => rfl⟩) ?_
    rintro z -
    exact OK_some (RF_c M vRow)
/-! bits together, bits folded -/
def jnF (ho : Int32) (x y : Int32) : Int32 := if ho = 0 then x ||| y else x &&& y
theorem joinBits_x {Z : Nat} (hZ : Z ≤ 4096) (kc akc bkc : Nat → Int32) (both : Int32) : OK (mX6_joinBits (nI Z) kc akc bkc both) (fun z => ∀ i, z i = if i < Z then jnF both (akc i) (bkc i) else kc i) := by
  unfold mX6_joinBits
  refine OK_bind (P := fun z => ∀ i, z.2 i = if i < Z then jnF both (akc i) (bkc i) else kc i) ?_ (fun z hz => OK_some hz)
  refine OK_for (fun fu k (x : Nat → Int32) => mX6_joinBits_L3 (nI Z) akc bkc both fu k x) Z (by omega) (fun k x => ∀ i, x i = if i < k then jnF both (akc i) (bkc i) else kc i) _ (s := kc) (fun i => by rw [if_neg (Nat.not_lt_zero i)]) ?_ ?_
  · intro fu x hx
    show OK (mX6_joinBits_L3 (nI Z) akc bkc both (fu + 1) (nI Z) x) _
    rw [mX6_joinBits_L3]
    exact OK_T (Int32.le_refl _) (OK_some hx)
  · intro fu k x hk hx ih
    show OK (mX6_joinBits_L3 (nI Z) akc bkc both (fu + 1) (nI k) x) _
    have step : ∀ y : Int32, y = jnF both (akc k) (bkc k) → ∀ i, upd x k y i = if i < k + 1 then jnF both (akc i) (bkc i) else kc i := by
      intro y hy i
      by_cases e : i = k
      · rw [e, ups, if_pos (by omega)]
        exact hy
      · rw [upo e, hx i]
        by_cases w : i < k
        · rw [if_pos w, if_pos (by omega)]
        · rw [if_neg w, if_neg (by omega)]
    rw [mX6_joinBits_L3, nI_s]
    refine OK_F (nI_ge hk (by omega)) (OK_be (cell_in (by omega)) (OK_be (cell_in (by omega)) (OK_ite (fun q => OK_be (setc_in (by omega)) (ih _ (step _ ?_))) (fun q => OK_be (setc_in (by omega)) (ih _ (step _ ?_))))))
    · unfold jnF
      rw [if_pos q]
    · unfold jnF
      rw [if_neg q]
theorem join_rowx {M a b Z : Nat} (hM : M < 30) (ha : a < M) (hb : b < M) (hZ : Z ≤ 4096) (ho : Int32) (zz : Int32 × Int32 × (Nat → Int32) × (Nat → Int32) × (Nat → Int32) × (Nat → Int32) × (Nat → Int32) × (Nat → Int32) × (Nat → Int32)) (ez : zz.1 = nI M) (eZ : zz.2.2.2.1 a = nI Z) {row0 row f fa fb : Nat → Int32} (hR : RowIs M row0 row f) (hA : ∀ i, i < 4096 → row (4096 * a + i) = fa i) (hB : ∀ i, i < 4096 → row (4096 * b + i) = fb i) : OK (mX9_join_L156 ho (nI a) (nI b) zz FU 0 row) (fun z => RowIs M row0 z.2 (fun i => if i < Z then jnF ho (fa i) (fb i) else f i)) := by
  refine OK_for (fun fu k (x : Nat → Int32) => mX9_join_L156 ho (nI a) (nI b) zz fu k x) Z (by omega) (fun k x => RowIs M row0 x (fun i => if i < k then jnF ho (fa i) (fb i) else f i) ∧ RF M row x) _ (s := row) ⟨⟨fun i hi => (hR.1 i hi).trans (if_neg (Nat.not_lt_zero i)).symm, hR.2⟩, RF_r _ _⟩ ?_ ?_
  · intro fu x hx
    show OK (mX9_join_L156 ho (nI a) (nI b) zz (fu + 1) (nI Z) x) _
    rw [mX9_join_L156, clN (k := a) (by omega), eZ]
    exact OK_T (ix_nI (by omega)) (OK_T (Int32.le_refl _) (OK_some hx.1))
  · rintro fu k x hk ⟨h1, h2⟩ ih
    show OK (mX9_join_L156 ho (nI a) (nI b) zz (fu + 1) (nI k) x) _
    have e1 : x (4096 * a + k) = fa k := (h2 _ (by omega)).trans (hA k (by omega))
    have e2 : x (4096 * b + k) = fb k := (h2 _ (by omega)).trans (hB k (by omega))
    have step : ∀ y : Int32, y = jnF ho (fa k) (fb k) → RowIs M row0 (upd x (4096 * M + k) y) (fun i => if i < k + 1 then jnF ho (fa i) (fb i) else f i) ∧ RF M row (upd x (4096 * M + k) y) := by
      intro y hy
      refine ⟨⟨fun i hi => ?_, fun q hq => ?_⟩, fun q hq => ?_⟩
      · dsimp only
        by_cases e : i = k
        · rw [e, ups, if_pos (by omega)]
          exact hy
        · rw [upo (show 4096 * M + i ≠ 4096 * M + k by omega), h1.1 i hi]
          dsimp only
          by_cases w : i < k
          · rw [if_pos w, if_pos (by omega)]
          · rw [if_neg w, if_neg (by omega)]
      · rw [upo (show q ≠ 4096 * M + k by omega)]
        exact h1.2 q hq
      · rw [upo (show q ≠ 4096 * M + k by omega)]
        exact h2 q hq
    rw [mX9_join_L156, clN (k := a) (by omega), eZ, ez, m4096, m4096, m4096, nI_s, clN (k := 4096 * a + k) (by omega), clN (k := 4096 * b + k) (by omega), clN (k := 4096 * M + k) (by omega), e1, e2]
    refine OK_T (ix_nI (by omega)) (OK_F (nI_ge hk (by omega)) (OK_T (ix_nI (by omega)) (OK_lt (OK_T (ix_nI (by omega)) (OK_lt (OK_ite (fun q => OK_T (ix_nI (by omega)) (ih _ (step _ ?_))) (fun q => OK_T (ix_nI (by omega)) (ih _ (step _ ?_)))))))))
    · unfold jnF
      rw [if_pos q]
    · unfold jnF
      rw [if_neg q]
theorem rjoin_row {M : Nat} {vIW vK vZ vM vC vR vL : Nat → Int32} (h : RI (nI M) vIW vK vZ vM vC vR vL) (hM : M ≤ 30) {a b A B Z : Nat} (ha : a < M) (hb : b < M) (hA : A ≤ 1000) (eA : vC a = nI A) (hB : B ≤ 1000) (eB : vC b = nI B) (hZ : Z ≤ 4096) (eZ : vZ a = nI Z) (vS : Nat → Int32) (vCt : Nat → Int64) {row fa fb : Nat → Int32} (rA : ∀ i, i < 4096 → row (4096 * a + i) = fa i) (rB : ∀ i, i < 4096 → row (4096 * b + i) = fb i) {ho : Int32} (h0 : ¬ ho < 0) (h1 : ho ≤ 1) : OK (mX9_join (nI M) vK vZ vM vS vCt vC row vR ho (nI a) (nI b)) (fun z => z.1 = nI M → M < 30 → RowIs M row z.2.2.2.2.2.2.2.2.1 (fun i => if i < Z then jnF ho (fa i) (fb i) else 0)) := by
  have ia := ix_nI (k := a) (n := 30) (by omega)
  have ib := ix_nI (k := b) (n := 30) (by omega)
  have no2 : ∀ {z : Int32 × Int32 × (Nat → Int32) × (Nat → Int32) × (Nat → Int32) × (Nat → Int32) × (Nat → Int64) × (Nat → Int32) × (Nat → Int32) × (Nat → Int32)}, z.1 = -2 → z.1 = nI M → M < 30 → RowIs M row z.2.2.2.2.2.2.2.2.1 (fun i => if i < Z then jnF ho (fa i) (fb i) else 0) := by
    intro z e1 e2 hM30
    exact absurd (show nI M < 0 by rw [← e2, e1]; decide) (nI_pos (by omega))
  have no4 : ∀ {z : Int32 × Int32 × (Nat → Int32) × (Nat → Int32) × (Nat → Int32) × (Nat → Int32) × (Nat → Int64) × (Nat → Int32) × (Nat → Int32) × (Nat → Int32)}, z.1 = -4 → z.1 = nI M → M < 30 → RowIs M row z.2.2.2.2.2.2.2.2.1 (fun i => if i < Z then jnF ho (fa i) (fb i) else 0) := by
    intro z e1 e2 hM30
    exact absurd (show nI M < 0 by rw [← e2, e1]; decide) (nI_pos (by omega))
  unfold mX9_join
  refine OK_F h0 (OK_F (Int32.not_lt.mpr h1) (OK_be (is_y hM ha) (OK_F (by decide) (OK_be (is_y hM hb) (OK_F (by decide) ?_)))))
  rw [clN (k := a) (by omega), clN (k := b) (by omega)]
  refine OK_T ia (OK_ite (fun k1 => OK_T ib (OK_ite (fun k2 => OK_T ia (OK_T ib (OK_ite (fun k3 => OK_T ia (OK_T ib (OK_ite (fun k4 => OK_T ia (OK_T ib (OK_ite (fun k5 => ?_) (fun k5 => OK_some (no2 rfl))))) (fun k4 => OK_some (no2 rfl))))) (fun k3 => OK_some (no2 rfl))))) (fun k2 => OK_some (no2 rfl)))) (fun k1 => OK_some (no2 rfl)))
  refine OK_ite (fun q => OK_some (no4 rfl)) (fun q => ?_)
  have hM30 := m30 hM q
  have rr : ∀ i, i < 4096 → clrR M row (4096 * a + i) = fa i := fun i hi => (RF_c M row _ (by omega)).trans (rA i hi)
  have rb : ∀ i, i < 4096 → clrR M row (4096 * b + i) = fb i := fun i hi => (RF_c M row _ (by omega)).trans (rB i hi)
  refine OK_ite (fun g0 => OK_T ia (OK_T ib (OK_ite (fun hle => OK_T ia (OK_T ia (OK_T ia ?_))) (fun hle => OK_some (no4 rfl))))) (fun g0 => OK_T ia (OK_T ia (OK_T ia ?_)))
  · rw [eA, eB, nI_add] at hle
    have hAB : A + B ≤ 1000 := (nI_leI (b := 1000) (by omega) (by decide)).mp hle
    subst g0
    refine OK_be (rbegin_v hM30 _ _ _ _ _ _ _ _ _ _ _) (OK_bind (join_rowx hM30 ha hb hZ 0 _ rfl (show upd vZ M (vZ a) a = nI Z by rw [pk_un (by omega)]; exact eZ) (clr_Is M row) rr rb) (fun y hy => OK_bind (join_ax hM30 ha hb hA hB 0 _ rfl eA eB vCt) ?_))
    rintro z ⟨n, hn, e1, e2, e3, -⟩
    obtain ⟨en, e4⟩ := e3 rfl
    subst en
    rw [e1]
    exact OK_bind (join_bx hM30 hb hAB _ rfl eB z.2.1) (fun x _ => OK_some (fun _ _ => hy))
  · refine OK_be (rbegin_v hM30 _ _ _ _ _ _ _ _ _ _ _) (OK_bind (join_rowx hM30 ha hb hZ ho _ rfl (show upd vZ M (vZ a) a = nI Z by rw [pk_un (by omega)]; exact eZ) (clr_Is M row) rr rb) (fun y hy => OK_bind (join_ax hM30 ha hb hA hB ho _ rfl eA eB vCt) ?_))
    rintro z ⟨n, hn, e1, e2, -, e3⟩
    rw [e1]
    exact OK_bind (join_b1 hM30 hb g0 _ z.2.1) (fun x _ => OK_some (fun _ _ => hy))
theorem foldBits_x {Z : Nat} (hZ : Z ≤ 2048) (kc akc : Nat → Int32) : OK (mX6_foldBits (nI Z) kc akc) (fun z => ∀ i, z i = if i < Z then akc i ||| akc (Z + i) else kc i) := by
  unfold mX6_foldBits
  refine OK_bind (P := fun z => ∀ i, z.2 i = if i < Z then akc i ||| akc (Z + i) else kc i) ?_ (fun z hz => OK_some hz)
  refine OK_for (fun fu k (x : Nat → Int32) => mX6_foldBits_L2 (nI Z) akc fu k x) Z (by omega) (fun k x => ∀ i, x i = if i < k then akc i ||| akc (Z + i) else kc i) _ (s := kc) (fun i => by rw [if_neg (Nat.not_lt_zero i)]) ?_ ?_
  · intro fu x hx
    show OK (mX6_foldBits_L2 (nI Z) akc (fu + 1) (nI Z) x) _
    rw [mX6_foldBits_L2]
    exact OK_T (Int32.le_refl _) (OK_some hx)
  · intro fu k x hk hx ih
    show OK (mX6_foldBits_L2 (nI Z) akc (fu + 1) (nI k) x) _
    rw [mX6_foldBits_L2, nI_s, nI_add]
    refine OK_F (nI_ge hk (by omega)) (OK_be (cell_in (by omega)) (OK_be (cell_in (by omega)) (OK_be (setc_in (by omega)) (ih _ (fun i => ?_)))))
    by_cases e : i = k
    · rw [e, ups, if_pos (by omega), Nat.add_comm Z k]
    · rw [upo e, hx i]
      by_cases w : i < k
      · rw [if_pos w, if_pos (by omega)]
      · rw [if_neg w, if_neg (by omega)]
theorem fold_rowx {M a Z : Nat} (hM : M < 30) (ha : a < M) (hZ : Z ≤ 2048) (zz : Int32 × Int32 × (Nat → Int32) × (Nat → Int32) × (Nat → Int32) × (Nat → Int32) × (Nat → Int32) × (Nat → Int32) × (Nat → Int32)) (ez : zz.1 = nI M) {row0 row f fa : Nat → Int32} (hR : RowIs M row0 row f) (hA : ∀ i, i < 4096 → row (4096 * a + i) = fa i) : OK (mX9_fold_L76 (nI a) (nI Z) zz FU 0 row) (fun z => RowIs M row0 z.2 (fun i => if i < Z then fa i ||| fa (Z + i) else f i)) := by
  refine OK_for (fun fu k (x : Nat → Int32) => mX9_fold_L76 (nI a) (nI Z) zz fu k x) Z (by omega) (fun k x => RowIs M row0 x (fun i => if i < k then fa i ||| fa (Z + i) else f i) ∧ RF M row x) _ (s := row) ⟨⟨fun i hi => (hR.1 i hi).trans (if_neg (Nat.not_lt_zero i)).symm, hR.2⟩, RF_r _ _⟩ ?_ ?_
  · intro fu x hx
    show OK (mX9_fold_L76 (nI a) (nI Z) zz (fu + 1) (nI Z) x) _
    rw [mX9_fold_L76]
    exact OK_T (Int32.le_refl _) (OK_some hx.1)
  · rintro fu k x hk ⟨h1, h2⟩ ih
    show OK (mX9_fold_L76 (nI a) (nI Z) zz (fu + 1) (nI k) x) _
    have e1 : x (4096 * a + k) = fa k := (h2 _ (by omega)).trans (hA k (by omega))
    have e2 : x (4096 * a + (Z + k)) = fa (Z + k) := (h2 _ (by omega)).trans (hA (Z + k) (by omega))
    rw [mX9_fold_L76, ez, m4096, m4096, m4096, nI_add, nI_s, show 4096 * a + Z + k = 4096 * a + (Z + k) by omega, clN (k := 4096 * a + k) (by omega), clN (k := 4096 * a + (Z + k)) (by omega), clN (k := 4096 * M + k) (by omega), e1, e2]
    refine OK_F (nI_ge hk (by omega)) (OK_T (ix_nI (by omega)) (OK_T (ix_nI (by omega)) (OK_T (ix_nI (by omega)) (ih _ ⟨⟨fun i hi => ?_, fun q hq => ?_⟩, fun q hq => ?_⟩))))
    · dsimp only
      by_cases e : i = k
      · rw [e, ups, if_pos (by omega)]
      · rw [upo (show 4096 * M + i ≠ 4096 * M + k by omega), h1.1 i hi]
        dsimp only
        by_cases w : i < k
        · rw [if_pos w, if_pos (by omega)]
        · rw [if_neg w, if_neg (by omega)]
    · rw [upo (show q ≠ 4096 * M + k by omega)]
      exact h1.2 q hq
    · rw [upo (show q ≠ 4096 * M + k by omega)]
      exact h2 q hq
theorem rfold_row {M : Nat} {vIW vK vZ vM vC vR vL : Nat → Int32} (h : RI (nI M) vIW vK vZ vM vC vR vL) (hM : M ≤ 30) {a A Z : Nat} (ha : a < M) (hA : A ≤ 1000) (eA : vC a = nI A) (hZ : Z ≤ 2048) (eZ : vZ a / 2 = nI Z) (vS : Nat → Int32) (vCt : Nat → Int64) {row fa : Nat → Int32} (rA : ∀ i, i < 4096 → row (4096 * a + i) = fa i) : OK (mX9_fold (nI M) vK vZ vM vS vCt vC row vR (nI a)) (fun z => z.1 = nI M → M < 30 → RowIs M row z.2.2.2.2.2.2.2.2.1 (fun i => if i < Z then fa i ||| fa (Z + i) else 0)) := by
  have no2 : ∀ {z : Int32 × Int32 × (Nat → Int32) × (Nat → Int32) × (Nat → Int32) × (Nat → Int32) × (Nat → Int64) × (Nat → Int32) × (Nat → Int32) × (Nat → Int32)}, z.1 = -2 → z.1 = nI M → M < 30 → RowIs M row z.2.2.2.2.2.2.2.2.1 (fun i => if i < Z then fa i ||| fa (Z + i) else 0) := by
    intro z e1 e2 hM30
    exact absurd (show nI M < 0 by rw [← e2, e1]; decide) (nI_pos (by omega))
  have no4 : ∀ {z : Int32 × Int32 × (Nat → Int32) × (Nat → Int32) × (Nat → Int32) × (Nat → Int32) × (Nat → Int64) × (Nat → Int32) × (Nat → Int32) × (Nat → Int32)}, z.1 = -4 → z.1 = nI M → M < 30 → RowIs M row z.2.2.2.2.2.2.2.2.1 (fun i => if i < Z then fa i ||| fa (Z + i) else 0) := by
    intro z e1 e2 hM30
    exact absurd (show nI M < 0 by rw [← e2, e1]; decide) (nI_pos (by omega))
  unfold mX9_fold
  refine OK_be (is_y hM ha) (OK_F (by decide) ?_)
  have ia := ix_nI (k := a) (n := 30) (by omega)
  rw [clN (k := a) (by omega)]
  refine OK_T ia (OK_ite (fun hk => OK_T ia (OK_ite (fun h8 => OK_some (no2 rfl)) (fun h8 => OK_ite (fun q => OK_some (no4 rfl)) (fun q => OK_T ia (OK_lt (OK_T ia (OK_T ia ?_))))))) (fun hk => OK_some (no2 rfl)))
  have hM30 := m30 hM q
  rw [eZ]
  refine OK_be (rbegin_v hM30 _ _ _ _ _ _ _ _ _ _ _) (OK_bind (fold_rowx hM30 ha hZ _ rfl (clr_Is M row) (fun i hi => (RF_c M row _ (by omega)).trans (rA i hi))) (fun y hy => OK_bind (fold_cpx hM30 ha hA _ rfl (show upd vC M 0 a = nI A by rw [pk_un (by omega)]; exact eA) vCt) (fun o133 ho => ?_)))
  dsimp only
  rw [clN (k := M) (by omega)]
  exact OK_T ia (OK_T (ix_nI hM30) (OK_some (fun _ _ => hy)))
