/-! ===== the reference: missed, falses, falseOne ===== -/
theorem missedR_x {M s k : Nat} (hM : M ≤ 30) (hs : s < M) {vK vZ vM vS : Nat → Int32} {vCt : Nat → Int64} {vC vRow vB vL : Nat → Int32} {vRe : Nat → Int64} {vR : Nat → Int32} (hk : k ≤ 1000) (en : vC s = nI k) (hp : ∀ t, ∃ z, (z = 0 ∨ z = 1) ∧ mX9_letsThrough vK vZ vM vS vRow vB vL vRe vR (nI s) t = some z) : OK (mX9_missed (nI M) vK vZ vM vS vCt vC vRow vB vL vRe vR (nI s)) (fun z => z = nI (fC (fun i => mX9_letsThrough vK vZ vM vS vRow vB vL vRe vR (nI s) (slC vCt s i) = some 0) k)) := by
  have i30 := ix_nI (k := s) (n := 30) (by omega)
  unfold mX9_missed
  refine OK_be (is_y hM hs) (OK_F (by decide) (OK_bind (P := fun z => z.2 = nI (fC (fun i => mX9_letsThrough vK vZ vM vS vRow vB vL vRe vR (nI s) (slC vCt s i) = some 0) k)) ?_ (fun z hz => OK_some hz)))
  refine OK_for (fun fu i (x : Int32) => mX9_missed_L14 vK vZ vM vS vCt vC vRow vB vL vRe vR (nI s) fu i x) k (by omega) (fun i x => x = nI (fC (fun i => mX9_letsThrough vK vZ vM vS vRow vB vL vRe vR (nI s) (slC vCt s i) = some 0) i)) _ (s := 0) rfl ?_ ?_
  · intro fu x hx
    show OK (mX9_missed_L14 vK vZ vM vS vCt vC vRow vB vL vRe vR (nI s) (fu + 1) (nI k) x) _
    rw [mX9_missed_L14, clN (k := s) (by omega), en]
    exact OK_T i30 (OK_T (Int32.le_refl _) (OK_some hx))
  · intro fu i x hi hx ih
    show OK (mX9_missed_L14 vK vZ vM vS vCt vC vRow vB vL vRe vR (nI s) (fu + 1) (nI i) x) _
    obtain ⟨z, h01, e9⟩ := hp (slC vCt s i)
    rw [mX9_missed_L14, clN (k := s) (by omega), en, m1000, nI_s, clN (k := 1000 * s + i) (by omega)]
    refine OK_T i30 (OK_F (nI_ge hi (by omega)) (OK_T (ix_nI (by omega)) (OK_be e9 ?_)))
    rcases h01 with rfl | rfl
    · refine OK_T rfl (ih _ ?_)
      rw [fC_y (P := fun i => mX9_letsThrough vK vZ vM vS vRow vB vL vRe vR (nI s) (slC vCt s i) = some 0) e9, hx, nI_1]
    · refine OK_F (by decide) (ih _ ?_)
      rw [fC_n (P := fun i => mX9_letsThrough vK vZ vM vS vRow vB vL vRe vR (nI s) (slC vCt s i) = some 0) (fun w => absurd (Option.some.inj (e9.symm.trans w)) (by decide)), Int32.add_zero]
      exact hx
theorem pfR_x {s k : Nat} (hs : s < 30) {vK vZ vM vS : Nat → Int32} {vCt : Nat → Int64} {vC vRow vB vL : Nat → Int32} {vRe : Nat → Int64} {vR : Nat → Int32} (hk : k ≤ 1000) (en : vC s = nI k) (hp : ∀ t, ∃ z, (z = 0 ∨ z = 1) ∧ mX9_letsThrough vK vZ vM vS vRow vB vL vRe vR (nI s) t = some z) (t : Int64) : ∃ z, (z = 0 ∨ z = 1) ∧ mX9_letsThrough vK vZ vM vS vRow vB vL vRe vR (nI s) t = some z ∧ (z = 1 → ∃ y, mX9_timesIn vCt vC (nI s) t = some y ∧ (y = 0 ↔ cB k (slC vCt s) t = 0)) := by
  obtain ⟨z, h01, e9⟩ := hp t
  refine ⟨z, h01, e9, fun _ => ?_⟩
  obtain ⟨y, ey, hy⟩ := times_x hs hk en vCt t
  have hle := cB_le k (slC vCt s) t
  refine ⟨y, ey, ?_⟩
  rw [hy]
  exact nI_eq (b := 0) (by omega) (by decide)
theorem falsesR_x {M s k w N : Nat} (hM : M ≤ 30) (hs : s < M) (hw : w < 8) (hN : N ≤ 1000) {vW : Nat → Int64} {vIW vK vZ vM vS : Nat → Int32} {vCt : Nat → Int64} {vC vRow vB vL : Nat → Int32} {vRe : Nat → Int64} {vR : Nat → Int32} (eW : vIW w = nI N) (hk : k ≤ 1000) (en : vC s = nI k) (hp : ∀ t, ∃ z, (z = 0 ∨ z = 1) ∧ mX9_letsThrough vK vZ vM vS vRow vB vL vRe vR (nI s) t = some z) : OK (mX9_falses (nI M) vW vIW vK vZ vM vS vCt vC vRow vB vL vRe vR (nI s) (nI w)) (fun z => z = nI (fC (fun i => mX9_letsThrough vK vZ vM vS vRow vB vL vRe vR (nI s) (wOf vW w i) = some 1 ∧ cB k (slC vCt s) (wOf vW w i) = 0) N)) := by
  unfold mX9_falses
  refine OK_be (is_y hM hs) (OK_F (by decide) (OK_be (isW1 hw) (OK_F (by decide) (OK_bind (P := fun z => z.2 = nI (fC (fun i => mX9_letsThrough vK vZ vM vS vRow vB vL vRe vR (nI s) (wOf vW w i) = some 1 ∧ cB k (slC vCt s) (wOf vW w i) = 0) N)) ?_ (fun z hz => OK_some hz)))))
  refine OK_for (fun fu i (x : Int32) => mX9_falses_L22 vW vIW vK vZ vM vS vCt vC vRow vB vL vRe vR (nI s) (nI w) fu i x) N (by omega) (fun i x => x = nI (fC (fun i => mX9_letsThrough vK vZ vM vS vRow vB vL vRe vR (nI s) (wOf vW w i) = some 1 ∧ cB k (slC vCt s) (wOf vW w i) = 0) i)) _ (s := 0) rfl ?_ ?_
  · intro fu x hx
    show OK (mX9_falses_L22 vW vIW vK vZ vM vS vCt vC vRow vB vL vRe vR (nI s) (nI w) (fu + 1) (nI N) x) _
    rw [mX9_falses_L22, clN (k := w) (by omega), eW]
    exact OK_T (ix_nI hw) (OK_T (Int32.le_refl _) (OK_some hx))
  · intro fu i x hi hx ih
    show OK (mX9_falses_L22 vW vIW vK vZ vM vS vCt vC vRow vB vL vRe vR (nI s) (nI w) (fu + 1) (nI i) x) _
    obtain ⟨z, h01, e9, h1⟩ := pfR_x (by omega) hk en hp (wOf vW w i)
    have no : ¬ (mX9_letsThrough vK vZ vM vS vRow vB vL vRe vR (nI s) (wOf vW w i) = some 1 ∧ cB k (slC vCt s) (wOf vW w i) = 0) → x + (0 : Int32) = nI (fC (fun i => mX9_letsThrough vK vZ vM vS vRow vB vL vRe vR (nI s) (wOf vW w i) = some 1 ∧ cB k (slC vCt s) (wOf vW w i) = 0) (i + 1)) := by
      intro h
      rw [fC_n (P := fun i => mX9_letsThrough vK vZ vM vS vRow vB vL vRe vR (nI s) (wOf vW w i) = some 1 ∧ cB k (slC vCt s) (wOf vW w i) = 0) h, Int32.add_zero]
      exact hx
    rw [mX9_falses_L22, clN (k := w) (by omega), eW, m1000, nI_s, clN (k := 1000 * w + i) (by omega)]
    refine OK_T (ix_nI hw) (OK_F (nI_ge hi (by omega)) (OK_T (ix_nI (by omega)) (OK_lt (OK_be e9 ?_))))
    rcases h01 with rfl | rfl
    · exact OK_T rfl (ih _ (no (fun l => absurd (Option.some.inj (e9.symm.trans l.1)) (by decide))))
    · obtain ⟨y, ey, hy⟩ := h1 rfl
      refine OK_F (by decide) (OK_be ey (OK_ite (fun q => ih _ ?_) (fun q => ih _ (no (fun l => q (hy.mpr l.2))))))
      rw [fC_y (P := fun i => mX9_letsThrough vK vZ vM vS vRow vB vL vRe vR (nI s) (wOf vW w i) = some 1 ∧ cB k (slC vCt s) (wOf vW w i) = 0) ⟨e9, hy.mp q⟩, hx, nI_1]
theorem foR_l {s k w N : Nat} (hs : s < 30) (hw : w < 8) (hN : N ≤ 1000) {vW : Nat → Int64} {vIW vK vZ vM vS : Nat → Int32} {vCt : Nat → Int64} {vC vRow vB vL : Nat → Int32} {vRe : Nat → Int64} {vR : Nat → Int32} (eW : vIW w = nI N) (hk : k ≤ 1000) (en : vC s = nI k) (hp : ∀ t, ∃ z, (z = 0 ∨ z = 1) ∧ mX9_letsThrough vK vZ vM vS vRow vB vL vRe vR (nI s) t = some z) : ∀ (d i fu : Nat) (x : Int32), i + d = N → d < fu → OK (mX9_falseOne_L27 vW vIW vK vZ vM vS vCt vC vRow vB vL vRe vR (nI s) (nI w) fu (nI i) x) (fun o => (∀ r, o = .inl r → r = fO (fun t => mX9_letsThrough vK vZ vM vS vRow vB vL vRe vR (nI s) t = some 1 ∧ cB k (slC vCt s) t = 0) (wOf vW w) d i x) ∧ ∀ r, o = .inr r → fO (fun t => mX9_letsThrough vK vZ vM vS vRow vB vL vRe vR (nI s) t = some 1 ∧ cB k (slC vCt s) t = 0) (wOf vW w) d i x = 0) := by
  intro d
  induction d with
  | zero =>
    intro i fu x hi hf
    obtain ⟨fu, rfl⟩ : ∃ q, fu = q + 1 := ⟨fu - 1, by omega⟩
    obtain rfl : i = N := by omega
    rw [mX9_falseOne_L27, clN (k := w) (by omega), eW]
    exact OK_T (ix_nI hw) (OK_T (Int32.le_refl _) (OK_some ⟨fun r h => (nomatch h), fun _ _ => rfl⟩))
  | succ d ih =>
    intro i fu x hi hf
    obtain ⟨fu, rfl⟩ : ∃ q, fu = q + 1 := ⟨fu - 1, by omega⟩
    obtain ⟨z, h01, e9, h1⟩ := pfR_x hs hk en hp (wOf vW w i)
    have no : ¬ (mX9_letsThrough vK vZ vM vS vRow vB vL vRe vR (nI s) (wOf vW w i) = some 1 ∧ cB k (slC vCt s) (wOf vW w i) = 0) → OK (mX9_falseOne_L27 vW vIW vK vZ vM vS vCt vC vRow vB vL vRe vR (nI s) (nI w) fu (nI (i + 1)) x) (fun o => (∀ r, o = .inl r → r = fO (fun t => mX9_letsThrough vK vZ vM vS vRow vB vL vRe vR (nI s) t = some 1 ∧ cB k (slC vCt s) t = 0) (wOf vW w) (d + 1) i x) ∧ ∀ r, o = .inr r → fO (fun t => mX9_letsThrough vK vZ vM vS vRow vB vL vRe vR (nI s) t = some 1 ∧ cB k (slC vCt s) t = 0) (wOf vW w) (d + 1) i x = 0) := by
      intro h
      rw [fO_n (P := fun t => mX9_letsThrough vK vZ vM vS vRow vB vL vRe vR (nI s) t = some 1 ∧ cB k (slC vCt s) t = 0) h]
      exact ih (i + 1) fu x (by omega) (by omega)
    rw [mX9_falseOne_L27, clN (k := w) (by omega), eW, m1000, nI_s, clN (k := 1000 * w + i) (by omega)]
    refine OK_T (ix_nI hw) (OK_F (nI_ge (by omega) (by omega)) (OK_T (ix_nI (by omega)) (OK_lt (OK_be e9 ?_))))
    rcases h01 with rfl | rfl
    · exact OK_T rfl (no (fun l => absurd (Option.some.inj (e9.symm.trans l.1)) (by decide)))
    · obtain ⟨y, ey, hy⟩ := h1 rfl
      refine OK_F (by decide) (OK_be ey (OK_ite (fun q => OK_ite (fun q0 => OK_some ⟨fun r e => ?_, fun r e => (nomatch e)⟩) (fun q0 => ?_)) (fun q => no (fun l => q (hy.mpr l.2)))))
      · injection e with e
        rw [fO_0 (P := fun t => mX9_letsThrough vK vZ vM vS vRow vB vL vRe vR (nI s) t = some 1 ∧ cB k (slC vCt s) t = 0) ⟨e9, hy.mp q⟩ q0]
        exact e.symm
      · rw [fO_s (P := fun t => mX9_letsThrough vK vZ vM vS vRow vB vL vRe vR (nI s) t = some 1 ∧ cB k (slC vCt s) t = 0) ⟨e9, hy.mp q⟩ q0]
        exact ih (i + 1) fu _ (by omega) (by omega)
theorem falseOneR_x {M s k w N : Nat} (hM : M ≤ 30) (hs : s < M) (hw : w < 8) (hN : N ≤ 1000) {vW : Nat → Int64} {vIW vK vZ vM vS : Nat → Int32} {vCt : Nat → Int64} {vC vRow vB vL : Nat → Int32} {vRe : Nat → Int64} {vR : Nat → Int32} (eW : vIW w = nI N) (hk : k ≤ 1000) (en : vC s = nI k) (hp : ∀ t, ∃ z, (z = 0 ∨ z = 1) ∧ mX9_letsThrough vK vZ vM vS vRow vB vL vRe vR (nI s) t = some z) (i : Int32) : OK (mX9_falseOne (nI M) vW vIW vK vZ vM vS vCt vC vRow vB vL vRe vR (nI s) (nI w) i) (fun z => z = if 0 ≤ i then fO (fun t => mX9_letsThrough vK vZ vM vS vRow vB vL vRe vR (nI s) t = some 1 ∧ cB k (slC vCt s) t = 0) (wOf vW w) N 0 i else 0) := by
  unfold mX9_falseOne
  refine OK_be (is_y hM hs) (OK_F (by decide) (OK_be (isW1 hw) (OK_F (by decide) (OK_ite (fun q => ?_) (fun q => OK_some (if_neg q).symm)))))
  rw [if_pos q]
  exact OK_bind (foR_l (by omega) hw hN eW hk en hp N 0 FU i (by omega) (show N < 5000 by omega)) (fun o ho => OK_sum (fun r h => OK_some (ho.1 r h)) (fun r h => OK_some (ho.2 r h).symm))
/-! ===== the answers ===== -/
/-- what a slot has, of any kind -/
theorem ct_all {s : Nat} {vK vZ vM vC vR vL vRow : Nat → Int32} {vCt : Nat → Int64} (hS : RS vK vZ vM vC vR vL s) {kd sz mk sd : Int32} {kc : Nat → Int32} {n : Int32} {v : Nat → Int64} {τ : LayT} (b1 : kd = vK s) (hG : CtG s vC vCt (kd, sz, mk, sd, kc, n, v, τ)) (hC : ClS s vCt vC vRow (kd, sz, mk, sd, kc, n, v, τ)) : ∃ k, k ≤ 1000 ∧ n = nI k ∧ vC s = nI k ∧ rising v k ∧ ∀ t, cB k v t = cB k (slC vCt s) t := by
  by_cases ho : Op3 kd
  · exact hG ho
  · have hcl := RS_cl hS (by rw [← b1]; exact ho)
    exact hC.2 (hcl.elim (fun e => Or.inl (b1.trans e)) (fun e => Or.inr (b1.trans e)))
theorem aF_lets {wN wN1 : Nat → Nat} {wV wV1 : Nat → Nat → Int64} {M M1 : Nat} {σ σ1 : Nat → SlT} {r r1 : RT} {sq : Int32} {t : Int64} {x8 x9 : Int32} (hI : RIY r) (H : SimH wN wV M σ r) (X : ExG M σ r) (Y : ExH M σ r) (h8 : T8_lets sq t wN wV M σ x8 wN1 wV1 M1 σ1) (h9 : S9_lets sq t r x9 r1) : x8 = x9 := by
  obtain ⟨many, vW, vIW, vK, vZ, vM, vS, vCt, vC, vRow, vB, vL, vLC, vRe, vR⟩ := r
  obtain ⟨rfl, hM, hK, hs⟩ := H
  obtain ⟨h8, -⟩ := h8
  obtain ⟨z, hz, rfl, -⟩ := h9
  unfold mX9_lets at hz
  rcases h8 with ⟨hn, e⟩ | ⟨j, hj, rfl, hP⟩
  · rw [is_n hM hn, sb_, if_pos rfl] at hz
    rw [e]
    exact Option.some.inj hz
  · have hS := RI_s hM hI.1 hj
    have a1 := (hs j hj).1
    obtain ⟨c1, c2⟩ := X j hj
    obtain ⟨y1, y2⟩ := Y j hj
    rcases eσ : σ j with ⟨kd, sz, mk, sd, kc, n, v, lc, lsd, kca, rn, rv, lz, ld⟩
    rw [eσ] at a1 c1 c2 y1 y2
    replace hP : P8_lets t (σ j) x8 := hP
    rw [eσ] at hP
    obtain ⟨p, p01, p9, pG, pL⟩ := pass_eq (by omega) hS a1 c1 y1 y2 t
    rw [is_y hM hj, sb_, if_neg (show ¬ (1 : Int32) = 0 by decide), p9, sb_] at hz
    obtain ⟨q1, q2⟩ := hP
    by_cases k4 : kd = 4
    · have h8 := q2 k4
      unfold mX8_letsL at h8
      rw [pL k4, sb_] at h8
      exact Option.some.inj (h8.symm.trans hz)
    · have h8 := q1 k4
      unfold mX8_letsG at h8
      rw [pG k4, sb_] at h8
      exact Option.some.inj (h8.symm.trans hz)
theorem aF_missed {wN wN1 : Nat → Nat} {wV wV1 : Nat → Nat → Int64} {M M1 : Nat} {σ σ1 : Nat → SlT} {r r1 : RT} {sq : Int32} {x8 x9 : Int32} (hI : RIY r) (H : SimH wN wV M σ r) (X : ExG M σ r) (Y : ExH M σ r) (h8 : T8_missed sq wN wV M σ x8 wN1 wV1 M1 σ1) (h9 : S9_missed sq r x9 r1) : x8 = x9 := by
  obtain ⟨many, vW, vIW, vK, vZ, vM, vS, vCt, vC, vRow, vB, vL, vLC, vRe, vR⟩ := r
  obtain ⟨rfl, hM, hK, hs⟩ := H
  obtain ⟨h8, -⟩ := h8
  obtain ⟨z, hz, rfl, -⟩ := h9
  rcases h8 with ⟨hn, e⟩ | ⟨j, hj, rfl, hP⟩
  · unfold mX9_missed at hz
    rw [is_n hM hn, sb_, if_pos rfl] at hz
    rw [e]
    exact Option.some.inj hz
  · have hS := RI_s hM hI.1 hj
    have a1 := (hs j hj).1
    obtain ⟨c1, c2⟩ := X j hj
    obtain ⟨y1, y2⟩ := Y j hj
    rcases eσ : σ j with ⟨kd, sz, mk, sd, kc, n, v, lc, lsd, kca, rn, rv, lz, ld⟩
    rw [eσ] at a1 c1 c2 y1 y2
    replace hP : P8_missed (σ j) x8 := hP
    rw [eσ] at hP
    have pa := pass_eq (by omega) hS a1 c1 y1 y2
    obtain ⟨k, hk, en, ec, hr, hc⟩ := ct_all hS a1.1 c2 y1
    have hR := OK_use (missedR_x (vCt := vCt) hM hj hk ec (fun t => by obtain ⟨p, p1, p2, -⟩ := pa t; exact ⟨p, p1, p2⟩)) hz
    obtain ⟨q1, q2⟩ := hP
    by_cases k4 : kd = 4
    · have h8 := q2 k4
      rw [en] at h8
      have hS8 := OK_use (missedL_x (F := mX9_letsThrough vK vZ vM vS vRow vB vL vRe vR (nI j)) (fun t => by obtain ⟨p, p1, p2, -, p4⟩ := pa t; exact ⟨p, p1, p2, p4 k4⟩) hk v) h8
      rw [hS8, hR, fC_perm (P := fun t => mX9_letsThrough vK vZ vM vS vRow vB vL vRe vR (nI j) t = some 0) hc]
    · have h8 := q1 k4
      rw [en] at h8
      have hS8 := OK_use (missedG_x (F := mX9_letsThrough vK vZ vM vS vRow vB vL vRe vR (nI j)) (fun t => by obtain ⟨p, p1, p2, p3, -⟩ := pa t; exact ⟨p, p1, p2, p3 k4⟩) hk v) h8
      rw [hS8, hR, fC_perm (P := fun t => mX9_letsThrough vK vZ vM vS vRow vB vL vRe vR (nI j) t = some 0) hc]
theorem aF_falses {wN wN1 : Nat → Nat} {wV wV1 : Nat → Nat → Int64} (hW : WRs wN wV) {M M1 : Nat} {σ σ1 : Nat → SlT} {r r1 : RT} {sq wi : Int32} {x8 x9 : Int32} (hI : RIY r) (H : SimH wN wV M σ r) (X : ExG M σ r) (Y : ExH M σ r) (h8 : T8_falses sq wi wN wV M σ x8 wN1 wV1 M1 σ1) (h9 : S9_falses sq wi r x9 r1) : x8 = x9 := by
  obtain ⟨many, vW, vIW, vK, vZ, vM, vS, vCt, vC, vRow, vB, vL, vLC, vRe, vR⟩ := r
  obtain ⟨rfl, hM, hK, hs⟩ := H
  obtain ⟨h8, -⟩ := h8
  obtain ⟨z, hz, rfl, -⟩ := h9
  rcases h8 with ⟨hn, e⟩ | ⟨j, hj, w, hw, rfl, rfl, hP⟩
  · rw [e]
    unfold mX9_falses at hz
    rcases is_v hM rfl sq with q | ⟨q, s, hs1, rfl⟩
    · rw [q, sb_, if_pos rfl] at hz
      exact Option.some.inj hz
    · rcases hn with hn | hn
      · rw [is_n hM hn, sb_, if_pos rfl] at hz
        exact Option.some.inj hz
      · rw [q, sb_, if_neg (show ¬ (1 : Int32) = 0 by decide), hn, sb_, if_pos rfl] at hz
        exact Option.some.inj hz
  · have hS := RI_s hM hI.1 hj
    have hN := (hW w hw).1
    have a1 := (hs j hj).1
    obtain ⟨c1, c2⟩ := X j hj
    obtain ⟨y1, y2⟩ := Y j hj
    rcases eσ : σ j with ⟨kd, sz, mk, sd, kc, n, v, lc, lsd, kca, rn, rv, lz, ld⟩
    rw [eσ] at a1 c1 c2 y1 y2
    replace hP : P8_falses (nI (wN w)) (wV w) (σ j) x8 := hP
    rw [eσ] at hP
    have pa := pass_eq (by omega) hS a1 c1 y1 y2
    obtain ⟨k, hk, en, ec, hr, hc⟩ := ct_all hS a1.1 c2 y1
    have hR := OK_use (falsesR_x (vCt := vCt) hM hj hw hN (hK w hw).1 hk ec (fun t => by obtain ⟨p, p1, p2, -⟩ := pa t; exact ⟨p, p1, p2⟩)) hz
    have ew : fC (fun i => mX9_letsThrough vK vZ vM vS vRow vB vL vRe vR (nI j) (wV w i) = some 1 ∧ cB k v (wV w i) = 0) (wN w) = fC (fun i => mX9_letsThrough vK vZ vM vS vRow vB vL vRe vR (nI j) (wOf vW w i) = some 1 ∧ cB k (slC vCt j) (wOf vW w i) = 0) (wN w) := fC_ext (fun i hi => by rw [(hK w hw).2 i hi, hc])
    obtain ⟨q1, q2⟩ := hP
    by_cases k4 : kd = 4
    · have h8 := q2 k4
      rw [en] at h8
      have hS8 := OK_use (falsesL_x (F := mX9_letsThrough vK vZ vM vS vRow vB vL vRe vR (nI j)) (fun t => by obtain ⟨p, p1, p2, -, p4⟩ := pa t; exact ⟨p, p1, p2, p4 k4⟩) hk hN hr (wV w)) h8
      rw [hS8, hR, ew]
    · have h8 := q1 k4
      rw [en] at h8
      have hS8 := OK_use (falsesG_x (F := mX9_letsThrough vK vZ vM vS vRow vB vL vRe vR (nI j)) (fun t => by obtain ⟨p, p1, p2, p3, -⟩ := pa t; exact ⟨p, p1, p2, p3 k4⟩) hk hN hr (wV w)) h8
      rw [hS8, hR, ew]
theorem aF_falseOne {wN wN1 : Nat → Nat} {wV wV1 : Nat → Nat → Int64} (hW : WRs wN wV) {M M1 : Nat} {σ σ1 : Nat → SlT} {r r1 : RT} {sq wi i : Int32} {x8 x9 : Int64} (hI : RIY r) (H : SimH wN wV M σ r) (X : ExG M σ r) (Y : ExH M σ r) (h8 : T8_falseOne sq wi i wN wV M σ x8 wN1 wV1 M1 σ1) (h9 : S9_falseOne sq wi i r x9 r1) : x8 = x9 := by
  obtain ⟨many, vW, vIW, vK, vZ, vM, vS, vCt, vC, vRow, vB, vL, vLC, vRe, vR⟩ := r
  obtain ⟨rfl, hM, hK, hs⟩ := H
  obtain ⟨h8, -⟩ := h8
  obtain ⟨z, hz, rfl, -⟩ := h9
  rcases h8 with ⟨hn, e⟩ | ⟨j, hj, w, hw, rfl, rfl, hP⟩
  · rw [e]
    unfold mX9_falseOne at hz
    rcases is_v hM rfl sq with q | ⟨q, s, hs1, rfl⟩
    · rw [q, sb_, if_pos rfl] at hz
      exact Option.some.inj hz
    · rcases hn with hn | hn
      · rw [is_n hM hn, sb_, if_pos rfl] at hz
        exact Option.some.inj hz
      · rw [q, sb_, if_neg (show ¬ (1 : Int32) = 0 by decide), hn, sb_, if_pos rfl] at hz
        exact Option.some.inj hz
  · have hS := RI_s hM hI.1 hj
    have hN := (hW w hw).1
    have a1 := (hs j hj).1
    obtain ⟨c1, c2⟩ := X j hj
    obtain ⟨y1, y2⟩ := Y j hj
    rcases eσ : σ j with ⟨kd, sz, mk, sd, kc, n, v, lc, lsd, kca, rn, rv, lz, ld⟩
    rw [eσ] at a1 c1 c2 y1 y2
    replace hP : P8_falseOne i (nI (wN w)) (wV w) (σ j) x8 := hP
    rw [eσ] at hP
    have pa := pass_eq (by omega) hS a1 c1 y1 y2
    obtain ⟨k, hk, en, ec, hr, hc⟩ := ct_all hS a1.1 c2 y1
    have hR := OK_use (falseOneR_x (vCt := vCt) hM hj hw hN (hK w hw).1 hk ec (fun t => by obtain ⟨p, p1, p2, -⟩ := pa t; exact ⟨p, p1, p2⟩) i) hz
    have ew : fO (fun t => mX9_letsThrough vK vZ vM vS vRow vB vL vRe vR (nI j) t = some 1 ∧ cB k v t = 0) (wV w) (wN w) 0 i = fO (fun t => mX9_letsThrough vK vZ vM vS vRow vB vL vRe vR (nI j) t = some 1 ∧ cB k (slC vCt j) t = 0) (wOf vW w) (wN w) 0 i := fO_ext (AG_s (hK w hw).2) (fun t => by rw [hc]) (wN w) 0 i (Nat.zero_add _)
    obtain ⟨q1, q2⟩ := hP
    by_cases k4 : kd = 4
    · have h8 := q2 k4
      rw [en] at h8
      have hS8 := OK_use (falseOneL_x (F := mX9_letsThrough vK vZ vM vS vRow vB vL vRe vR (nI j)) (fun t => by obtain ⟨p, p1, p2, -, p4⟩ := pa t; exact ⟨p, p1, p2, p4 k4⟩) hk hN hr (wV w) i) h8
      rw [hS8, hR, ew]
    · have h8 := q1 k4
      rw [en] at h8
      have hS8 := OK_use (falseOneG_x (F := mX9_letsThrough vK vZ vM vS vRow vB vL vRe vR (nI j)) (fun t => by obtain ⟨p, p1, p2, p3, -⟩ := pa t; exact ⟨p, p1, p2, p3 k4⟩) hk hN hr (wV w) i) h8
      rw [hS8, hR, ew]
