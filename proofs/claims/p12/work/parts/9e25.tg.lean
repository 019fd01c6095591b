/-! ===== drop, the makers, the rest: cells and contents side by side ===== -/
theorem LsC_u {n k1 k2 : Nat} {v w v1 w1 : Nat → Int64} {t : Int64} (e : ∀ u, cB n v u = cB n w u) (h1 : LsC n v t k1 v1) (h2 : LsC n w t k2 w1) : k1 = k2 ∧ ∀ u, cB k1 v1 u = cB k2 w1 u := by
  rcases h1 with ⟨a1, a2, a3⟩ | ⟨a1, a2, a3, a4⟩
  · rcases h2 with ⟨b1, b2, b3⟩ | ⟨b1, -⟩
    · exact ⟨a2.trans b2.symm, fun u => by rw [a3, b3, e]⟩
    · rw [← e, a1] at b1
      exact absurd b1 (Nat.lt_irrefl 0)
  · rcases h2 with ⟨b1, -⟩ | ⟨b1, b2, b3, b4⟩
    · rw [e, b1] at a1
      exact absurd a1 (Nat.lt_irrefl 0)
    · refine ⟨a3.trans b3.symm, fun u => ?_⟩
      have h1 := a4 u
      have h2 := b4 u
      rw [e] at h1
      omega
theorem rdrop_n {M s : Nat} (hM : M ≤ 30) (hs : s < M) {vK vZ vM vS : Nat → Int32} {vCt : Nat → Int64} {vC row vB vL : Nat → Int32} {vRe : Nat → Int64} {vR : Nat → Int32} {t : Int64} {z : Int32 × (Nat → Int64) × (Nat → Int32) × (Nat → Int32)} (h : mX9_drop (nI M) vK vZ vM vS vCt vC row vB vL vRe vR (nI s) t = some z) (h1 : ¬ vK s = 1) (h2 : ¬ vK s = 2) : z = (-2, vCt, vC, row) := by
  unfold mX9_drop at h
  rw [is_y hM hs, sb_, if_neg (show ¬ (1 : Int32) = 0 by decide), if_pos (ix_nI (show s < 30 by omega)), clN (k := s) (by omega), if_neg h1, if_pos (ix_nI (show s < 30 by omega)), if_neg h2] at h
  exact (Option.some.inj h).symm
theorem pG_drop {wN wN1 : Nat → Nat} {wV wV1 : Nat → Nat → Int64} {M M1 : Nat} {σ σ1 : Nat → SlT} {r r1 : RT} {sq : Int32} {t : Int64} {x8 x9 : Int32} (hI : RIY r) (hV : ∀ j, j < M → SVs (σ j)) (hR : WRs wN wV) (H : SimH wN wV M σ r) (X : ExG M σ r) (h8 : T8_drop sq t wN wV M σ x8 wN1 wV1 M1 σ1) (h9 : S9_drop sq t r x9 r1) : x8 = x9 ∧ ExG M1 σ1 r1 := by
  rcases h8 with ⟨hn, e, rfl, rfl, rfl, rfl⟩ | ⟨j, hj, rfl, τ, hP, rfl, rfl, rfl, rfl⟩
  · obtain ⟨q1, q2⟩ := (sim_drop hI H h9).1 hn
    rw [q2]
    exact ⟨e.trans q1.symm, X⟩
  · obtain ⟨many, vW, vIW, vK, vZ, vM, vS, vCt, vC, vRow, vB, vL, vLC, vRe, vR⟩ := r
    obtain ⟨rfl, hM, hK, hs⟩ := H
    obtain ⟨z, hz, rfl, rfl⟩ := h9
    have a1 := (hs j hj).1
    obtain ⟨c1, c2⟩ := X j hj
    have hS := RI_s hM hI.1 hj
    rcases eσ : σ j with ⟨kd, sz, mk, sd, kc, n, v, lay⟩
    rw [eσ] at hP a1 c1 c2
    obtain ⟨y, hy, rfl, rfl⟩ := hP
    obtain ⟨b1, b2, b3, b4, -⟩ := a1
    subst b1 b2 b3
    by_cases h12 : vK j = 1 ∨ vK j = 2
    · have ho : Op3 (vK j) := Or.inr h12
      obtain ⟨a, m, ha, ha2, hm, eZ, eM⟩ := RS_012 hS ho
      obtain ⟨k, hk, rfl, e2, e3, e4⟩ := c2 ho
      obtain ⟨q1, q2⟩ := c1 ho
      have es := (b4 ho).trans eZ
      subst es
      rw [eM] at hy
      obtain ⟨de, dc⟩ := Dr_eq (kd := vK j) ha m (mixV t (vS j)) q2
      have h9 := OK_use (rdrop_y (vL := vL) (vR := vR) hM hj h12 ha ha2 hm eZ eM hk e2 vS vCt ⟨q1, fun _ _ => rfl⟩ q2 vB vRe t) hz
      rcases OK_use (sdrop_y h12 ha ha2 hm hk (vS j) kc e3 t) hy with ⟨l1, rfl⟩ | ⟨l1, n1, u1, u2, u3, u4, u5, u6⟩
      · rcases h9 with ⟨-, rfl⟩ | ⟨l2, -⟩
        · exact ⟨rfl, Ex_slot X (FrC_r _ _ _) (RF_r _ _) (fun _ => ⟨q1, q2⟩) (fun _ => ⟨k, hk, rfl, e2, e3, e4⟩)⟩
        · exact absurd l2 l1
      · rcases h9 with ⟨l2, -⟩ | ⟨-, n2, w1, w2, w3, w4, w5, w6⟩
        · exact absurd l1 l2
        · obtain ⟨en, ec⟩ := LsC_u e4 u6 w6
          subst en
          refine ⟨u2.trans w2.symm, Ex_slot X w5 w3.2 (fun _ => ⟨fun i hi => ?_, fun q => ?_⟩) (fun _ => ⟨n1, by omega, u4, w4, u5, ec⟩)⟩
          · show z.2.2.2 (4096 * j + i) = y.2.1 i
            rw [u3, de]
            exact w3.1 i hi
          · show C15 y.2.1
            rw [u3]
            exact dc q
    · have h1 : ¬ vK j = 1 := fun q => h12 (Or.inl q)
      have h2 : ¬ vK j = 2 := fun q => h12 (Or.inr q)
      have ez := rdrop_n hM hj hz h1 h2
      subst ez
      unfold mX8_drop at hy
      rw [if_neg h1, if_neg h2] at hy
      cases Option.some.inj hy
      exact ⟨rfl, Ex_slot X (FrC_r _ _ _) (RF_r _ _) c1 c2⟩
/-! a new number: what the answer says of the way -/
theorem nMn {M : Nat} (hM : M ≤ 30) {c : Int32} (hc : c < 0) : ¬ nI M = c := fun e => absurd (show nI M < 0 by rw [e]; exact hc) (nI_pos (by omega))
theorem Ex_same {M : Nat} {σ : Nat → SlT} {vC C1 vRow row1 : Nat → Int32} {vCt Ct1 : Nat → Int64} (X : ∀ s, s < M → CeG s vRow (σ s) ∧ CtG s vC vCt (σ s)) (hF : FrC M vC vCt C1 Ct1) (hR : RF M vRow row1) : ∀ s, s < M → CeG s row1 (σ s) ∧ CtG s C1 Ct1 (σ s) := fun _ hs => Ex_keep X hF hR hs (Nat.ne_of_lt hs)
theorem no3 {x : Int32} (h : x = 3) : ¬ Op3 x := by
  rw [h]
  rintro (e | e | e) <;> exact absurd e (by decide)
theorem no4' {x : Int32} (h : x = 4) : ¬ Op3 x := by
  rw [h]
  rintro (e | e | e) <;> exact absurd e (by decide)
theorem pG_make {wN wN1 : Nat → Nat} {wV wV1 : Nat → Nat → Int64} {M M1 : Nat} {σ σ1 : Nat → SlT} {r r1 : RT} {k0 k1 k2 k3 : Int32} {x8 x9 : Int32} (H : SimH wN wV M σ r) (X : ExG M σ r) (h8 : T8_make k0 k1 k2 k3 wN wV M σ x8 wN1 wV1 M1 σ1) (h9 : S9_make k0 k1 k2 k3 r x9 r1) : ExG M1 σ1 r1 := by
  obtain ⟨many, vW, vIW, vK, vZ, vM, vS, vCt, vC, vRow, vB, vL, vLC, vRe, vR⟩ := r
  obtain ⟨rfl, hM, -⟩ := H
  obtain ⟨z, hz, rfl, rfl⟩ := h9
  rcases OK_use (rmake_x hM vK vZ vM vS vC vRow vR k0 k1 k2 k3) hz with ⟨q, rfl⟩ | ⟨q, q30, rfl⟩ | ⟨q, q30, rfl⟩
  · rcases h8 with ⟨-, -, rfl, rfl, rfl, rfl⟩ | ⟨w, -⟩ | ⟨w, -⟩
    · exact X
    · exact absurd q w
    · exact absurd q w
  · rcases h8 with ⟨w, -⟩ | ⟨-, -, -, rfl, rfl, rfl, rfl⟩ | ⟨-, w, -⟩
    · exact absurd w q
    · exact X
    · omega
  · rcases h8 with ⟨w, -⟩ | ⟨-, w, -⟩ | ⟨-, -, -, τ, hτ, rfl, rfl, rfl, rfl⟩
    · exact absurd w q
    · omega
    · refine Ex_new X (fun s hs => ⟨upo hs, AG_r _ _⟩) (RF_c M vRow) ?_ ?_
      · obtain ⟨kd, sz, mk, sd, kc, n, v, lay⟩ := τ
        obtain ⟨t1, t2, t3, t4, t5, t6, -⟩ := hτ
        exact fun _ => ⟨fun i hi => ((clr_Is M vRow).1 i hi).trans (t5 i hi).symm, fun _ i hi => ⟨0, by decide, t5 i hi⟩⟩
      · obtain ⟨kd, sz, mk, sd, kc, n, v, lay⟩ := τ
        obtain ⟨t1, t2, t3, t4, t5, t6, -⟩ := hτ
        exact fun _ => ⟨0, by decide, t6, ups, fun i j _ hj => absurd hj (Nat.not_lt_zero j), fun t => rfl⟩
theorem pG_solve {wN wN1 : Nat → Nat} {wV wV1 : Nat → Nat → Int64} {M M1 : Nat} {σ σ1 : Nat → SlT} {r r1 : RT} {wi sd_ : Int32} {x8 x9 : Int32} (hI : RIY r) (hV : ∀ j, j < M → SVs (σ j)) (hR : WRs wN wV) (H : SimH wN wV M σ r) (X : ExG M σ r) (h8 : T8_solve wi sd_ wN wV M σ x8 wN1 wV1 M1 σ1) (h9 : S9_solve wi sd_ r x9 r1) : ExG M1 σ1 r1 := by
  have hp := (pH_solve hI hV hR H h8 h9).1
  obtain ⟨many, vW, vIW, vK, vZ, vM, vS, vCt, vC, vRow, vB, vL, vLC, vRe, vR⟩ := r
  obtain ⟨rfl, hM, hK, -⟩ := H
  obtain ⟨od, oa, io, al, z, hz, rfl, rfl⟩ := h9
  rcases isW_v wi with q | ⟨q, j, hj, rfl⟩
  · have e : mX9_solve (nI M) vW vIW vK vZ vM vS vCt vC vRow vR od oa io al wi sd_ = some (-1, nI M, vK, vZ, vM, vS, vCt, vC, vRow, vR, od, oa, io, al) := by
      unfold mX9_solve
      rw [q, sb_]
      exact if_pos rfl
    rw [e] at hz
    cases Option.some.inj hz
    rcases h8 with ⟨-, -, rfl, rfl, rfl, rfl⟩ | ⟨j, hj, rfl, -⟩
    · exact X
    · rw [isW1 hj] at q
      exact absurd q (by decide)
  · have hN := (hR j hj).1
    have hrow := OK_use (rsolve_row hM hj hN (hK j hj).1 vW vK vZ vM vS vCt vC vRow vR od oa io al sd_) hz
    rcases OK_use (rsolve_x hM hj hN (hK j hj).1 vW vK vZ vM vS vCt vC vRow vR od oa io al sd_) hz with ⟨-, e1, -, -, -, -, -, e7, e8⟩ | ⟨-, -, e1, -, -, -, -, -, e7, e8⟩ | ⟨q30, e1, -, τ, -, -, -, hF⟩
    · rcases h8 with ⟨w, -⟩ | ⟨j', -, -, ⟨-, -, rfl, rfl, rfl, rfl⟩ | ⟨-, -, -, rfl, rfl, rfl, rfl⟩ | ⟨-, e, -⟩⟩
      · rw [q] at w
        exact absurd w (by decide)
      · exact Ex_same X (by rw [e7, e8]; exact FrC_r _ _ _) hrow
      · exact Ex_same X (by rw [e7, e8]; exact FrC_r _ _ _) hrow
      · exact absurd (e.symm.trans (hp.trans e1)) (nMn hM (by decide))
    · rcases h8 with ⟨w, -⟩ | ⟨j', -, -, ⟨-, -, rfl, rfl, rfl, rfl⟩ | ⟨-, -, -, rfl, rfl, rfl, rfl⟩ | ⟨-, e, -⟩⟩
      · rw [q] at w
        exact absurd w (by decide)
      · exact Ex_same X (by rw [e7, e8]; exact FrC_r _ _ _) hrow
      · exact Ex_same X (by rw [e7, e8]; exact FrC_r _ _ _) hrow
      · exact absurd (e.symm.trans (hp.trans e1)) (nMn hM (by decide))
    · rcases h8 with ⟨w, -⟩ | ⟨j', -, -, ⟨-, e, -⟩ | ⟨-, -, e, -⟩ | ⟨-, -, τs, hτ, rfl, rfl, rfl, rfl⟩⟩
      · rw [q] at w
        exact absurd w (by decide)
      · exact absurd (e1.symm.trans (hp.symm.trans e)) (nMn hM (by decide))
      · exact absurd (e1.symm.trans (hp.symm.trans e)) (nMn hM (by decide))
      · obtain ⟨kd, sz, mk, sd, kc, n, v, lay⟩ := τs
        obtain ⟨τ2, -, t1, -⟩ := hτ
        exact Ex_new X hF hrow (fun w => absurd w (no3 t1)) (fun w => absurd w (no3 t1))
theorem pG_layered {wN wN1 : Nat → Nat} {wV wV1 : Nat → Nat → Int64} {M M1 : Nat} {σ σ1 : Nat → SlT} {r r1 : RT} {wi wa sd_ : Int32} {x8 x9 : Int32} (hI : RIY r) (hV : ∀ j, j < M → SVs (σ j)) (hR : WRs wN wV) (H : SimH wN wV M σ r) (X : ExG M σ r) (h8 : T8_layered wi wa sd_ wN wV M σ x8 wN1 wV1 M1 σ1) (h9 : S9_layered wi wa sd_ r x9 r1) : ExG M1 σ1 r1 := by
  have hp := (pH_layered hI hV hR H h8 h9).1
  obtain ⟨many, vW, vIW, vK, vZ, vM, vS, vCt, vC, vRow, vB, vL, vLC, vRe, vR⟩ := r
  obtain ⟨rfl, hM, hK, -⟩ := H
  obtain ⟨co, ri, go, z, hz, rfl, rfl⟩ := h9
  have refuse : ∀ (q : mX9_isWorld wi = some 0 ∨ (mX9_isWorld wi = some 1 ∧ mX9_isWorld wa = some 0)), mX9_layered (nI M) vW vIW vK vZ vM vS vCt vC vRow vB vL vLC vRe vR co ri go wi wa sd_ = some (-1, nI M, vK, vZ, vM, vS, vCt, vC, vRow, vB, vL, vLC, vRe, vR, co, ri, go) := by
    intro q
    unfold mX9_layered
    rcases q with q | ⟨q, q2⟩
    · rw [q, sb_]
      exact if_pos rfl
    · rw [q, sb_, if_neg (show ¬ (1 : Int32) = 0 by decide), q2, sb_]
      exact if_pos rfl
  have ref2 : (mX9_isWorld wi = some 0 ∨ (mX9_isWorld wi = some 1 ∧ mX9_isWorld wa = some 0)) → ExG M1 σ1 (z.2.1, vW, vIW, z.2.2.1, z.2.2.2.1, z.2.2.2.2.1, z.2.2.2.2.2.1, z.2.2.2.2.2.2.1, z.2.2.2.2.2.2.2.1, z.2.2.2.2.2.2.2.2.1, z.2.2.2.2.2.2.2.2.2.1, z.2.2.2.2.2.2.2.2.2.2.1, z.2.2.2.2.2.2.2.2.2.2.2.1, z.2.2.2.2.2.2.2.2.2.2.2.2.1, z.2.2.2.2.2.2.2.2.2.2.2.2.2.1) := by
    intro q
    rw [refuse q] at hz
    cases Option.some.inj hz
    rcases h8 with ⟨-, -, rfl, rfl, rfl, rfl⟩ | ⟨i, hi, j, hj, rfl, rfl, -⟩
    · exact X
    · rw [isW1 hi, isW1 hj] at q
      exact absurd q (by decide)
  rcases isW_v wi with q | ⟨q, j, hj, rfl⟩
  · exact ref2 (Or.inl q)
  · rcases isW_v wa with q2 | ⟨q2, k, hk, rfl⟩
    · exact ref2 (Or.inr ⟨q, q2⟩)
    · have hrow := OK_use (rlayered_row hM hj hk (hR j hj).1 (hR k hk).1 (hK j hj).1 (hK k hk).1 vW vK vZ vM vS vCt vC vRow vB vL vLC vRe vR co ri go sd_) hz
      rcases OK_use (rlayered_x hM hj hk (hR j hj).1 (hR k hk).1 (hK j hj).1 (hK k hk).1 vW vK vZ vM vS vCt vC vRow vB vL vLC vRe vR co ri go sd_) hz with ⟨-, e1, -, -, -, -, -, e7, e8⟩ | ⟨q30, e1, -, -, -, hF⟩
      · rcases h8 with ⟨w, -⟩ | ⟨i', -, j', -, -, -, ⟨-, -, rfl, rfl, rfl, rfl⟩ | ⟨-, e, -⟩⟩
        · rw [q, q2] at w
          exact absurd w (by decide)
        · exact Ex_same X (by rw [e7, e8]; exact FrC_r _ _ _) hrow
        · exact absurd (e.symm.trans (hp.trans e1)) (nMn hM (by decide))
      · rcases h8 with ⟨w, -⟩ | ⟨i', -, j', -, -, -, ⟨-, e, -⟩ | ⟨-, -, τs, hτ, rfl, rfl, rfl, rfl⟩⟩
        · rw [q, q2] at w
          exact absurd w (by decide)
        · exact absurd (e1.symm.trans (hp.symm.trans e)) (nMn hM (by decide))
        · obtain ⟨kd, sz, mk, sd, kc, n, v, lc, lsd, kca, rn, rv, lz, ld⟩ := τs
          obtain ⟨t1, -⟩ := hτ
          exact Ex_new X hF hrow (fun w => absurd w (no4' t1)) (fun w => absurd w (no4' t1))
/-! join, fold -/
theorem or15 : ∀ c d : Fin 16, ∃ e : Fin 16, nI c.val ||| nI d.val = nI e.val := by decide +kernel
theorem and15 : ∀ c d : Fin 16, ∃ e : Fin 16, nI c.val &&& nI d.val = nI e.val := by decide +kernel
theorem jn15 {ho x y : Int32} (hx : ∃ c, c ≤ 15 ∧ x = nI c) (hy : ∃ c, c ≤ 15 ∧ y = nI c) : ∃ c, c ≤ 15 ∧ jnF ho x y = nI c := by
  obtain ⟨c, hc, rfl⟩ := hx
  obtain ⟨d, hd, rfl⟩ := hy
  unfold jnF
  by_cases h : ho = 0
  · rw [if_pos h]
    obtain ⟨e, he⟩ := or15 ⟨c, by omega⟩ ⟨d, by omega⟩
    exact ⟨e.val, by omega, he⟩
  · rw [if_neg h]
    obtain ⟨e, he⟩ := and15 ⟨c, by omega⟩ ⟨d, by omega⟩
    exact ⟨e.val, by omega, he⟩
theorem or15' {x y : Int32} (hx : ∃ c, c ≤ 15 ∧ x = nI c) (hy : ∃ c, c ≤ 15 ∧ y = nI c) : ∃ c, c ≤ 15 ∧ x ||| y = nI c := by
  have h := jn15 (ho := 0) hx hy
  unfold jnF at h
  rw [if_pos rfl] at h
  exact h
theorem half_x {x : Nat} (h3 : 3 ≤ x) (h12 : x ≤ 12) : nI (2 ^ x) / (2 : Int32) = nI (2 ^ (x - 1)) ∧ 2 ^ (x - 1) ≤ 2048 := by
  have hp := pow_up h12
  refine ⟨?_, pow_up (b := 11) (by omega)⟩
  rw [show nI (2 ^ x) / (2 : Int32) = nI (2 ^ x / 2) from q_d (by omega) (by decide) (by decide)]
  congr 1
  obtain ⟨y, rfl⟩ : ∃ y, x = y + 1 := ⟨x - 1, by omega⟩
  rw [Nat.pow_succ]
  simp
theorem pG_join {wN wN1 : Nat → Nat} {wV wV1 : Nat → Nat → Int64} {M M1 : Nat} {σ σ1 : Nat → SlT} {r r1 : RT} {ho aq bq : Int32} {x8 x9 : Int32} (hI : RIY r) (hV : ∀ j, j < M → SVs (σ j)) (hR : WRs wN wV) (H : SimH wN wV M σ r) (X : ExG M σ r) (h8 : T8_join ho aq bq wN wV M σ x8 wN1 wV1 M1 σ1) (h9 : S9_join ho aq bq r x9 r1) : ExG M1 σ1 r1 := by
  have pS := (pH_join hI hV hR H h8 h9).2
  obtain ⟨f1, f2⟩ := sim_join hI hV H h9
  rcases h8 with ⟨hn, e, rfl, rfl, rfl, rfl⟩ | ⟨i, hi, j, hj, rfl, rfl, hh, h8⟩
  · rw [(f1 hn).2]
    exact X
  · rcases f2 i hi j hj rfl rfl hh with ⟨g1, g2, g3⟩ | ⟨g1, g2, g3, g4⟩ | ⟨g1, g2, g2b, g3, -⟩
    · rcases h8 with ⟨-, e, rfl, rfl, rfl, rfl⟩ | ⟨q, -⟩ | ⟨q, -⟩
      · rw [g3]
        exact X
      · exact absurd q g1
      · exact absurd q g1
    · rcases h8 with ⟨q, -⟩ | ⟨-, -, e, rfl, rfl, rfl, rfl⟩ | ⟨-, q, q2, -⟩
      · exact absurd g1 q
      · rw [g4]
        exact X
      · exact absurd g2 (fun w => w.elim (fun w => by omega) q2)
    · rcases h8 with ⟨q, -⟩ | ⟨-, q, -⟩ | ⟨-, -, -, e, τ, hτ, rfl, rfl, rfl, rfl⟩
      · exact absurd g1 q
      · exact absurd q (fun w => w.elim (fun w => by omega) g2b)
      · obtain ⟨many, vW, vIW, vK, vZ, vM, vS, vCt, vC, vRow, vB, vL, vLC, vRe, vR⟩ := r
        obtain ⟨rfl, hM, hK, hs⟩ := H
        obtain ⟨z, hz, rfl, rfl⟩ := h9
        have hS := RI_s hM hI.1 hi
        have a1 := (hs i hi).1
        have xa := X i hi
        have xb := X j hj
        rcases eσa : σ i with ⟨akd, asz, amk, asd, akc, an, av, alay⟩
        rcases eσb : σ j with ⟨bkd, bsz, bmk, bsd, bkc, bn, bv, blay⟩
        rw [eσa] at a1 xa
        rw [eσb] at xb
        rw [eσa, eσb] at g1 hτ
        obtain ⟨l1, l2, l3, l4, l5⟩ := like_iff.mp g1
        have oa : akd = 0 ∨ akd = 1 ∨ akd = 2 := Or.inl l1
        obtain ⟨ra, ca⟩ := xa.1 oa
        obtain ⟨rb, cbb⟩ := xb.1 (Or.inl l2)
        have ca := ca (by rw [l1]; decide)
        have cbb := cbb (by rw [l2]; decide)
        obtain ⟨Z, m, hZ12, -, -, eZ, -⟩ := RS_012 hS (Or.inl (a1.1.symm.trans l1))
        have hZ : 2 ^ Z ≤ 4096 := pow_up (b := 12) hZ12
        obtain ⟨A, hA, eA⟩ : BN (vC i) := RS_cm hS
        obtain ⟨B, hB, eB⟩ : BN (vC j) := RS_cm (RI_s hM hI.1 hj)
        have h0 : ¬ ho < 0 := fun q => hh (Or.inl q)
        have h1 : ho ≤ 1 := Decidable.byContradiction (fun q => hh (Or.inr q))
        have h01 : ho = 0 ∨ ho = 1 := by
          obtain ⟨q, hq, rfl⟩ := nI_of2 (M := nI 1) (n := 1) (nI_toInt (by omega)) h0 h1
          rcases (show q = 0 ∨ q = 1 by omega) with rfl | rfl
          · exact Or.inl rfl
          · exact Or.inr rfl
        have hrow := OK_use (rjoin_row hI.1 hM hi hj hA eA hB eB hZ eZ vS vCt ra rb h0 h1) hz g3 g2
        rcases OK_use (rjoin_x hI.1 hM hi hj hA eA hB eB vS vCt vRow h0 h1) hz with ⟨-, q2, -⟩ | ⟨-, -, q3, -⟩ | ⟨-, -, -, -, -, -, m', -, -, q9, -⟩
        · exact absurd (g3.symm.trans q2) (nMn hM (by decide))
        · exact absurd (g3.symm.trans q3) (nMn hM (by decide))
        · refine Ex_new X q9 hrow.2 ?_ ?_
          · obtain ⟨kd, sz, mk, sd, kc, n, v, lay⟩ := τ
            obtain ⟨t1, t2, t3, t4, ⟨k0, hz0, hk⟩, -⟩ := hτ
            have hb : (if ho = 1 then (1 : Int32) else 0) = ho := by
              rcases h01 with e | e
              · rw [if_neg (by rw [e]; decide), e]
              · rw [if_pos e, e]
            rw [hb, a1.2.2.2.1 oa, eZ] at hk
            have hk2 := OK_use (joinBits_x hZ k0 akc bkc ho) hk
            have key : ∀ i, i < 4096 → kc i = if i < 2 ^ Z then jnF ho (akc i) (bkc i) else 0 := by
              intro i hi
              rw [hk2 i, hz0 i hi]
            refine fun _ => ⟨fun i hi => (hrow.1 i hi).trans (key i hi).symm, fun _ i hi => ?_⟩
            rw [key i hi]
            by_cases w : i < 2 ^ Z
            · rw [if_pos w]
              exact jn15 (ca i hi) (cbb i hi)
            · rw [if_neg w]
              exact ⟨0, by decide, rfl⟩
          · have hc := (pS.2.2.2 M (Nat.lt_succ_self M)).2
            rw [nup_s] at hc
            obtain ⟨kd, sz, mk, sd, kc, n, v, lay⟩ := τ
            obtain ⟨t1, -⟩ := hτ
            exact fun _ => hc t1
theorem pG_fold {wN wN1 : Nat → Nat} {wV wV1 : Nat → Nat → Int64} {M M1 : Nat} {σ σ1 : Nat → SlT} {r r1 : RT} {aq : Int32} {x8 x9 : Int32} (hI : RIY r) (hV : ∀ j, j < M → SVs (σ j)) (hR : WRs wN wV) (H : SimH wN wV M σ r) (X : ExG M σ r) (h8 : T8_fold aq wN wV M σ x8 wN1 wV1 M1 σ1) (h9 : S9_fold aq r x9 r1) : ExG M1 σ1 r1 := by
  have pS := (pH_fold hI hV hR H h8 h9).2
  obtain ⟨f1, f2⟩ := sim_fold hI H h9
  rcases h8 with ⟨hn, e, rfl, rfl, rfl, rfl⟩ | ⟨i, hi, rfl, h8⟩
  · rw [(f1 hn).2]
    exact X
  · rcases f2 i hi rfl with ⟨g1, g2, g3⟩ | ⟨g1, g2, g3, g4⟩ | ⟨g1, g2, g3, -⟩
    · rcases h8 with ⟨-, e, rfl, rfl, rfl, rfl⟩ | ⟨q, -⟩ | ⟨q, -⟩
      · rw [g3]
        exact X
      · exact absurd q g1
      · exact absurd q g1
    · rcases h8 with ⟨q, -⟩ | ⟨-, -, e, rfl, rfl, rfl, rfl⟩ | ⟨-, q, -⟩
      · exact absurd g1 q
      · rw [g4]
        exact X
      · omega
    · rcases h8 with ⟨q, -⟩ | ⟨-, q, -⟩ | ⟨-, -, e, τ, hτ, rfl, rfl, rfl, rfl⟩
      · exact absurd g1 q
      · omega
      · obtain ⟨many, vW, vIW, vK, vZ, vM, vS, vCt, vC, vRow, vB, vL, vLC, vRe, vR⟩ := r
        obtain ⟨rfl, hM, hK, hs⟩ := H
        obtain ⟨z, hz, rfl, rfl⟩ := h9
        have hS := RI_s hM hI.1 hi
        have a1 := (hs i hi).1
        have xa := X i hi
        rcases eσa : σ i with ⟨akd, asz, amk, asd, akc, an, av, alay⟩
        rw [eσa] at a1 xa g1 hτ
        obtain ⟨l1, l2⟩ := g1
        have oa : akd = 0 ∨ akd = 1 ∨ akd = 2 := Or.inl l1
        obtain ⟨ra, ca⟩ := xa.1 oa
        have ca := ca (by rw [l1]; decide)
        have k0i : vK i = 0 := a1.1.symm.trans l1
        obtain ⟨x, m, hx3, hx12, -, eZ, -⟩ := RS_01 hS (by rw [k0i]; decide) (by rw [k0i]; decide)
        obtain ⟨hf1, hf2⟩ := half_x hx3 hx12
        obtain ⟨A, hA, eA⟩ : BN (vC i) := RS_cm hS
        have hrow := OK_use (rfold_row hI.1 hM hi hA eA hf2 (by rw [eZ]; exact hf1) vS vCt ra) hz g3 g2
        rcases OK_use (rfold_x hI.1 hM hi hA eA vS vCt vRow) hz with ⟨-, q2, -⟩ | ⟨-, -, q3, -⟩ | ⟨-, -, -, -, -, -, q7, -⟩
        · exact absurd (g3.symm.trans q2) (nMn hM (by decide))
        · exact absurd (g3.symm.trans q3) (nMn hM (by decide))
        · refine Ex_new X q7 hrow.2 ?_ ?_
          · obtain ⟨kd, sz, mk, sd, kc, n, v, lay⟩ := τ
            obtain ⟨t1, t2, t3, t4, ⟨k0, hz0, hk⟩, -⟩ := hτ
            rw [a1.2.2.2.1 oa, eZ, hf1] at hk
            have hk2 := OK_use (foldBits_x hf2 k0 akc) hk
            have key : ∀ i, i < 4096 → kc i = if i < 2 ^ (x - 1) then akc i ||| akc (2 ^ (x - 1) + i) else 0 := by
              intro i hi
              rw [hk2 i, hz0 i hi]
            refine fun _ => ⟨fun i hi => (hrow.1 i hi).trans (key i hi).symm, fun _ i hi => ?_⟩
            rw [key i hi]
            by_cases w : i < 2 ^ (x - 1)
            · rw [if_pos w]
              exact or15' (ca i hi) (ca _ (by omega))
            · rw [if_neg w]
              exact ⟨0, by decide, rfl⟩
          · have hc := (pS.2.2.2 M (Nat.lt_succ_self M)).2
            rw [nup_s] at hc
            obtain ⟨kd, sz, mk, sd, kc, n, v, lay⟩ := τ
            obtain ⟨t1, -⟩ := hτ
            exact fun _ => hc t1
