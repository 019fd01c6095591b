/-! ===== mark: its answers ===== -/
theorem HdS_01 {s : Nat} {vK vZ vM vC vR vL : Nat → Int32} (hS : RS vK vZ vM vC vR vL s) (h2 : ¬ vK s = 2) (h3 : ¬ vK s = 3) (h4 : ¬ vK s = 4) : vK s = 0 ∨ vK s = 1 := by
  obtain ⟨K, Z, eK, -, hK, -⟩ := RS_p hS
  have a2 : K ≠ 2 := fun e => h2 (by rw [eK, e]; rfl)
  have a3 : K ≠ 3 := fun e => h3 (by rw [eK, e]; rfl)
  have a4 : K ≠ 4 := fun e => h4 (by rw [eK, e]; rfl)
  rcases (show K = 0 ∨ K = 1 by omega) with e | e
  · exact Or.inl (by rw [eK, e]; rfl)
  · exact Or.inr (by rw [eK, e]; rfl)
theorem mark_eq {M s : Nat} (hM : M ≤ 30) (hs : s < M) {vK vZ vM vS vC vR vL : Nat → Int32} (hS : RS vK vZ vM vC vR vL s) {kd sz mk sd : Int32} {kc : Nat → Int32} {n : Int32} {v : Nat → Int64} {τ : LayT} (h : HdS s vK vZ vM vS (kd, sz, mk, sd, kc, n, v, τ)) {t : Int64} {j x y : Int32} (h8 : mX8_mark t j kd sz mk sd = some x) (h9 : mX9_mark (nI M) vK vZ vM vS (nI s) t j = some y) : x = y := by
  obtain ⟨h1, h2, h3, h4, h5⟩ := h
  have is30 := ix_nI (k := s) (n := 30) (by omega)
  subst h2 h3
  unfold mX9_mark at h9
  rw [is_y hM hs, sb_, if_neg (show ¬ (1 : Int32) = 0 by decide), if_pos is30, clN (k := s) (by omega)] at h9
  unfold mX8_mark at h8
  by_cases k4 : vK s = 4
  · rw [if_pos k4] at h9
    rw [if_pos (h1.trans k4)] at h8
    exact (Option.some.inj h8).symm.trans (Option.some.inj h9)
  · rw [if_neg k4, if_pos is30] at h9
    rw [if_neg (fun e => k4 (h1.symm.trans e))] at h8
    by_cases j0 : j < 0
    · rw [if_pos j0] at h8
      have e : y = -1 := by
        by_cases k2 : vK s = 2
        · rw [if_pos k2, if_pos j0] at h9
          exact (Option.some.inj h9).symm
        · rw [if_neg k2, if_pos is30] at h9
          by_cases k3 : vK s = 3
          · rw [if_pos k3, if_pos j0] at h9
            exact (Option.some.inj h9).symm
          · rw [if_neg k3, if_pos is30, if_pos j0] at h9
            exact (Option.some.inj h9).symm
      rw [e]
      exact (Option.some.inj h8).symm
    · rw [if_neg j0] at h8
      obtain ⟨q, hq, rfl⟩ := nI_of j0
      rcases RS_k hS k4 with ⟨k2, a, ha, eZ⟩ | ⟨k3, Z, hZ8, hZ, eZ⟩ | ⟨k2, k3, a, m, ha, hm, eZ, eMk⟩
      · have ek := h1.trans k2
        have es := (h4 (Or.inr (Or.inr ek))).trans eZ
        have hp := Nat.two_pow_pos a
        have hp2 := pow_up ha
        rw [if_pos k2, if_neg j0] at h9
        unfold mX6_spots at h8
        rw [if_pos ek, sb_] at h8
        by_cases jl : nI q < 2
        · rw [if_pos jl] at h8 h9
          rw [if_pos is30, mix_r, sb_, if_pos is30, if_pos k2, nestOf_v (by omega) ha eZ, sb_] at h9
          unfold mX6_spot at h8
          rw [mix_c, sb_, if_pos ek, es] at h8
          unfold nestN at h9
          by_cases jz : nI q = 0
          · rw [if_pos jz, fn_c _ hp (by omega), sb_, sb_] at h8
            rw [if_pos jz] at h9
            exact (Option.some.inj h8).symm.trans (Option.some.inj h9)
          · rw [if_neg jz] at h8 h9
            unfold mX5_secondNest at h8
            rw [fn_c _ hp (by omega), sb_, tag_c, sb_, oth_c (tagN_lt _) hp (by omega), sb_, sb_, sb_] at h8
            exact (Option.some.inj h8).symm.trans (Option.some.inj h9)
        · rw [if_neg jl] at h8 h9
          exact (Option.some.inj h8).symm.trans (Option.some.inj h9)
      · have ek := h1.trans k3
        obtain ⟨Z', hZ', eZ', es⟩ := h5 ek
        have : Z' = Z := (nI_eq (by omega) (by omega)).mp (eZ'.symm.trans eZ)
        subst this
        have k2 : ¬ vK s = 2 := by rw [k3]; decide
        rw [if_neg k2, if_pos is30, if_pos k3, if_neg j0] at h9
        unfold mX6_spots at h8
        rw [if_neg (by rw [ek]; decide), if_pos ek, sb_] at h8
        by_cases jl : nI q < 3
        · have q3 : q < 3 := (nI_ltI (b := 3) (by omega) (by decide)).mp jl
          rw [if_pos jl] at h8 h9
          rw [if_pos is30, mix_r, sb_, if_pos is30, if_neg k2, if_pos is30, if_pos k3, if_pos is30, eZ, sp_r _ q3 (by omega) (by omega), sb_] at h9
          unfold mX6_spot at h8
          rw [mix_c, sb_, if_neg (by rw [ek]; decide), if_pos ek, es, show nI (3 * Z') / (3 : Int32) = nI (3 * Z' / 3) from q_d (by omega) (by decide) (by decide), Nat.mul_div_cancel_left Z' (by decide), sp_c _ q3 (by omega) (by omega), sb_, sb_] at h8
          exact (Option.some.inj h8).symm.trans (Option.some.inj h9)
        · rw [if_neg jl] at h8 h9
          exact (Option.some.inj h8).symm.trans (Option.some.inj h9)
      · have k01 := HdS_01 hS k2 k3 k4
        have ek2 : ¬ kd = 2 := fun e => k2 (h1.symm.trans e)
        have ek3 : ¬ kd = 3 := fun e => k3 (h1.symm.trans e)
        have es := (h4 (k01.elim (fun e => Or.inl (h1.trans e)) (fun e => Or.inr (Or.inl (h1.trans e))))).trans eZ
        have hp := Nat.two_pow_pos a
        have hp2 := pow_up ha
        rw [if_neg k2, if_pos is30, if_neg k3, if_pos is30, if_neg j0] at h9
        unfold mX6_spots at h8
        rw [if_neg ek2, if_neg ek3, sb_] at h8
        by_cases jl : nI q < vM s
        · have qm : q < m := (nI_ltI (by omega) (by omega)).mp (eMk ▸ jl)
          rw [if_pos jl] at h8 h9
          rw [if_pos is30, mix_r, sb_, if_pos is30, if_neg k2, if_pos is30, if_neg k3, if_pos is30, eZ, mp_r _ (by omega) hp (by omega), sb_] at h9
          unfold mX6_spot at h8
          rw [mix_c, sb_, if_neg ek2, if_neg ek3, es, mp_c _ (by omega) ha, sb_, sb_] at h8
          exact (Option.some.inj h8).symm.trans (Option.some.inj h9)
        · rw [if_neg jl] at h8 h9
          exact (Option.some.inj h8).symm.trans (Option.some.inj h9)
theorem pH_markA {wN wN1 : Nat → Nat} {wV wV1 : Nat → Nat → Int64} {M M1 : Nat} {σ σ1 : Nat → SlT} {r r1 : RT} {sq : Int32} {t : Int64} {j x8 x9 : Int32} (hI : RIY r) (hV : ∀ j, j < M → SVs (σ j)) (hR : WRs wN wV) (H : SimH wN wV M σ r) (h8 : T8_mark sq t j wN wV M σ x8 wN1 wV1 M1 σ1) (h9 : S9_mark sq t j r x9 r1) : x8 = x9 ∧ SimH wN1 wV1 M1 σ1 r1 := by
  refine ⟨?_, pH_mark hI hV hR H h8 h9⟩
  obtain ⟨many, vW, vIW, vK, vZ, vM, vS, vCt, vC, vRow, vB, vL, vLC, vRe, vR⟩ := r
  obtain ⟨rfl, hM, hK, hs⟩ := H
  obtain ⟨h8, -⟩ := h8
  obtain ⟨z, hz, rfl, -⟩ := h9
  rcases h8 with ⟨hn, e⟩ | ⟨i, hi, rfl, hP⟩
  · unfold mX9_mark at hz
    rw [is_n hM hn, sb_, if_pos rfl] at hz
    rw [e]
    exact Option.some.inj hz
  · have hS : RS vK vZ vM vC vR vL i := by
      obtain ⟨⟨M', hM', eM', hs'⟩, -⟩ := hI.1
      have : M = M' := (nI_eq (by omega) (by omega)).mp eM'
      exact hs' i (by omega)
    have a1 := (hs i hi).1
    rcases eσ : σ i with ⟨kd, sz, mk, sd, kc, n, v, lc, lsd, kca, rn, rv, lz, ld⟩
    rw [eσ] at a1
    replace hP : P8_mark t j (σ i) x8 := hP
    rw [eσ] at hP
    exact mark_eq hM hi hS a1 hP hz
