/-! ===== put, putAll, drop, join, fold, remove: side by side ===== -/
theorem sim_slot {wN : Nat → Nat} {wV : Nat → Nat → Int64} {M j : Nat} {σ : Nat → SlT} {many : Int32} {vW : Nat → Int64} {vIW vK vZ vM vS : Nat → Int32} {vCt : Nat → Int64} {vC vRow vB vL vLC : Nat → Int32} {vRe : Nat → Int64} {vR : Nat → Int32} (H : SimH wN wV M σ (many, vW, vIW, vK, vZ, vM, vS, vCt, vC, vRow, vB, vL, vLC, vRe, vR)) {C1 : Nat → Int32} {Ct1 : Nat → Int64} (hF : FrC j vC vCt C1 Ct1) {τ : SlT} (h1 : j < M → HdS j vK vZ vM vS τ) (h2 : j < M → CtS j C1 Ct1 τ) (row : Nat → Int32) : SimH wN wV M (nup σ j τ) (many, vW, vIW, vK, vZ, vM, vS, Ct1, C1, row, vB, vL, vLC, vRe, vR) := by
  obtain ⟨e, hM2, hK, hs⟩ := H
  refine ⟨e, hM2, hK, fun s hs1 => ?_⟩
  by_cases es : s = j
  · subst es
    rw [nup_s]
    exact ⟨h1 hs1, h2 hs1⟩
  · rw [nup_n es]
    obtain ⟨a1, a2⟩ := hs s hs1
    exact ⟨a1, CtS_c a2 (hF s es).1 (hF s es).2⟩
theorem HdS_k {s : Nat} {vK vZ vM vS : Nat → Int32} {kd sz mk sd : Int32} {kc kc1 : Nat → Int32} {n n1 : Int32} {v v1 : Nat → Int64} {τ τ1 : LayT} (h : HdS s vK vZ vM vS (kd, sz, mk, sd, kc, n, v, τ)) : HdS s vK vZ vM vS (kd, sz, mk, sd, kc1, n1, v1, τ1) := h
theorem le2_0 {x : Int32} (h : x = 0) : x ≤ 2 := by rw [h]; decide
theorem sim_put {wN : Nat → Nat} {wV : Nat → Nat → Int64} {M : Nat} {σ : Nat → SlT} {r r1 : RT} {sq : Int32} {t : Int64} {x9 : Int32} (hI : RIY r) (hV : ∀ j, j < M → SVs (σ j)) (H : SimH wN wV M σ r) (h9 : S9_put sq t r x9 r1) : (NoS M sq → x9 = -1 ∧ r1 = r) ∧ ∀ j, j < M → sq = nI j → ∀ x8 τ, P8_put t (σ j) x8 τ → SimH wN wV M (nup σ j τ) r1 := by
  obtain ⟨many, vW, vIW, vK, vZ, vM, vS, vCt, vC, vRow, vB, vL, vLC, vRe, vR⟩ := r
  have H2 := H
  obtain ⟨rfl, hM, -, hs⟩ := H2
  obtain ⟨kept, z, hz, rfl, rfl⟩ := h9
  constructor
  · intro hn
    have e : mX9_put (nI M) vK vZ vM vS vCt vC vRow kept sq t = some (-1, vCt, vC, vRow, kept) := by
      unfold mX9_put
      rw [is_n hM hn, sb_]
      exact if_pos rfl
    rw [e] at hz
    cases Option.some.inj hz
    exact ⟨rfl, rfl⟩
  · rintro j hj rfl x8 τ hP
    obtain ⟨hF, h0, -⟩ := OK_use (rput_x hI.1 rfl hM hj vS vCt vRow kept t) hz
    obtain ⟨a1, a2⟩ := hs j hj
    have hv := hV j hj
    rcases eσ : σ j with ⟨kd, sz, mk, sd, kc, n, v, lay⟩
    rw [eσ] at hP a1 a2 hv
    obtain ⟨y, hy, -, rfl⟩ := hP
    refine sim_slot H hF (fun _ => HdS_k a1) (fun _ w => ?_) _
    obtain ⟨k, hk, e1, e2, e3, e4⟩ := a2 w
    subst w
    rw [e1] at hy
    obtain ⟨hPR, hlt⟩ := h0 (a1.1.symm)
    rcases OK_use (sput_x hv.1 hk sz sd kc v t) hy with ⟨q, -, q2, q3⟩ | ⟨q, -, q2, q3⟩
    · rcases hPR with ⟨-, p2, p3⟩ | ⟨m, hm, em, -⟩
      · refine ⟨k, hk, q2, ?_, ?_, fun u => ?_⟩
        · rw [p3]; exact e2
        · rw [q3]; exact e3
        · rw [q3, p2]; exact e4 u
      · have : m = k := (nI_eq (by omega) (by omega)).mp (em.symm.trans e2)
        omega
    · rcases hPR with ⟨p1, -⟩ | ⟨m, hm, em, -, p2, p3⟩
      · have := hlt.mp p1
        have : k = 1000 := (nI_eq (b := 1000) (by omega) (by omega)).mp (e2.symm.trans this)
        omega
      · have : m = k := (nI_eq (by omega) (by omega)).mp (em.symm.trans e2)
        subst this
        refine ⟨m + 1, by omega, q2, ?_, ?_, fun u => ?_⟩
        · rw [p3]; exact ups
        · rw [q3]; exact insR_rising e3 hk
        · rw [q3, p2, cB_ins, cB_push, e4]
theorem sim_putAll {wN : Nat → Nat} {wV : Nat → Nat → Int64} (hR : WRs wN wV) {M : Nat} {σ : Nat → SlT} {r r1 : RT} {sq wi x9 : Int32} (hI : RIY r) (hV : ∀ j, j < M → SVs (σ j)) (H : SimH wN wV M σ r) (h9 : S9_putAll sq wi r x9 r1) : ((NoS M sq ∨ mX9_isWorld wi = some 0) → x9 = -1 ∧ r1 = r) ∧ ∀ j, j < M → ∀ w, w < 8 → sq = nI j → wi = nI w → ∀ x8 τ, P8_putAll (nI (wN w)) (wV w) (σ j) x8 τ → SimH wN wV M (nup σ j τ) r1 := by
  obtain ⟨many, vW, vIW, vK, vZ, vM, vS, vCt, vC, vRow, vB, vL, vLC, vRe, vR⟩ := r
  have H2 := H
  obtain ⟨rfl, hM, hK, hs⟩ := H2
  obtain ⟨kept, z, hz, rfl, rfl⟩ := h9
  constructor
  · intro hn
    have e : mX9_putAll (nI M) vW vIW vK vZ vM vS vCt vC vRow kept sq wi = some (-1, vCt, vC, vRow, kept) := by
      unfold mX9_putAll
      rcases is_v hM rfl sq with q | ⟨q, s, hs1, rfl⟩
      · rw [q, sb_]
        exact if_pos rfl
      · rcases hn with hn | hn
        · rw [is_n hM hn, sb_]
          exact if_pos rfl
        · rw [q, sb_, if_neg (show ¬ (1 : Int32) = 0 by decide), hn, sb_]
          exact if_pos rfl
    rw [e] at hz
    cases Option.some.inj hz
    exact ⟨rfl, rfl⟩
  · rintro j hj w hw rfl rfl x8 τ hP
    have hN := (hR w hw).1
    obtain ⟨hF, h0⟩ := OK_use (rputAll_x hI.1 rfl hM hj hw hN (hK w hw).1 vW vS vCt vRow kept) hz
    obtain ⟨a1, a2⟩ := hs j hj
    have hv := hV j hj
    rcases eσ : σ j with ⟨kd, sz, mk, sd, kc, n, v, lay⟩
    rw [eσ] at hP a1 a2 hv
    obtain ⟨y, hy, -, rfl⟩ := hP
    refine sim_slot H hF (fun _ => HdS_k a1) (fun _ q => ?_) _
    obtain ⟨k, hk, e1, e2, e3, e4⟩ := a2 q
    subst q
    rw [e1] at hy
    obtain ⟨-, g1, g2⟩ := h0 (a1.1.symm) k hk e2
    obtain ⟨-, q1, q2, q3, q4⟩ := OK_use (sputAll_x hv.1 hk hN sz sd kc v (wV w) e3) hy
    refine ⟨k + min (wN w) (1000 - k), q2, q1, g1, q3, fun u => ?_⟩
    rw [q4, g2, e4]
    congr 1
    exact cB_ext (fun i hi => ((hK w hw).2 i (by omega)).symm)
theorem sim_drop {wN : Nat → Nat} {wV : Nat → Nat → Int64} {M : Nat} {σ : Nat → SlT} {r r1 : RT} {sq : Int32} {t : Int64} {x9 : Int32} (hI : RIY r) (H : SimH wN wV M σ r) (h9 : S9_drop sq t r x9 r1) : (NoS M sq → x9 = -1 ∧ r1 = r) ∧ ∀ j, j < M → sq = nI j → ∀ x8 τ, P8_drop t (σ j) x8 τ → SimH wN wV M (nup σ j τ) r1 := by
  obtain ⟨many, vW, vIW, vK, vZ, vM, vS, vCt, vC, vRow, vB, vL, vLC, vRe, vR⟩ := r
  have H2 := H
  obtain ⟨rfl, hM, -, hs⟩ := H2
  obtain ⟨z, hz, rfl, rfl⟩ := h9
  constructor
  · intro hn
    have e : mX9_drop (nI M) vK vZ vM vS vCt vC vRow vB vL vRe vR sq t = some (-1, vCt, vC, vRow) := by
      unfold mX9_drop
      rw [is_n hM hn, sb_]
      exact if_pos rfl
    rw [e] at hz
    cases Option.some.inj hz
    exact ⟨rfl, rfl⟩
  · rintro j hj rfl x8 τ hP
    obtain ⟨hF, h0⟩ := OK_use (rdrop_x hI.1 rfl hM hj vS vCt vRow vB vRe t) hz
    obtain ⟨a1, a2⟩ := hs j hj
    rcases eσ : σ j with ⟨kd, sz, mk, sd, kc, n, v, lay⟩
    rw [eσ] at hP a1 a2
    obtain ⟨y, hy, -, rfl⟩ := hP
    refine sim_slot H hF (fun _ => HdS_k a1) (fun _ q => ?_) _
    obtain ⟨k, hk, e1, e2, e3, e4⟩ := a2 q
    subst q
    obtain ⟨p1, p2⟩ := h0 (a1.1.symm)
    have ey : mX8_drop t 0 sz mk sd kc n v = some (-2, kc, n, v) := by
      unfold mX8_drop
      rw [if_neg (by decide), if_neg (by decide)]
    rw [ey] at hy
    cases Option.some.inj hy
    exact ⟨k, hk, e1, by rw [p2]; exact e2, e3, fun u => by rw [p1]; exact e4 u⟩
theorem like_iff {akd asz amk asd bkd bsz bmk bsd : Int32} : ¬ mX6_isMarkedLike akd asz amk asd bkd bsz bmk bsd = some 0 ↔ (akd = 0 ∧ bkd = 0 ∧ asz = bsz ∧ amk = bmk ∧ asd = bsd) := by
  unfold mX6_isMarkedLike
  constructor
  · intro h
    by_cases h1 : akd = 0
    · rw [if_pos h1] at h
      by_cases h2 : bkd = 0
      · rw [if_pos h2] at h
        by_cases h3 : asz = bsz
        · rw [if_pos h3] at h
          by_cases h4 : amk = bmk
          · rw [if_pos h4] at h
            by_cases h5 : asd = bsd
            · exact ⟨h1, h2, h3, h4, h5⟩
            · rw [if_neg h5] at h; exact absurd rfl h
          · rw [if_neg h4] at h; exact absurd rfl h
        · rw [if_neg h3] at h; exact absurd rfl h
      · rw [if_neg h2] at h; exact absurd rfl h
    · rw [if_neg h1] at h; exact absurd rfl h
  · rintro ⟨h1, h2, h3, h4, h5⟩
    rw [if_pos h1, if_pos h2, if_pos h3, if_pos h4, if_pos h5]
    decide
theorem sim_join {wN : Nat → Nat} {wV : Nat → Nat → Int64} {M : Nat} {σ : Nat → SlT} {r r1 : RT} {ho aq bq x9 : Int32} (hI : RIY r) (hV : ∀ j, j < M → SVs (σ j)) (H : SimH wN wV M σ r) (h9 : S9_join ho aq bq r x9 r1) : ((NoS M aq ∨ NoS M bq ∨ (ho < 0 ∨ ¬ ho ≤ 1)) → x9 = -1 ∧ r1 = r) ∧ ∀ i, i < M → ∀ j, j < M → aq = nI i → bq = nI j → ¬ (ho < 0 ∨ ¬ ho ≤ 1) → ((¬ JoC (σ i) (σ j) ∧ x9 = -2 ∧ r1 = r) ∨ (JoC (σ i) (σ j) ∧ (M = 30 ∨ JoFs ho (σ i) (σ j)) ∧ x9 = -4 ∧ r1 = r) ∨ (JoC (σ i) (σ j) ∧ M < 30 ∧ ¬ JoFs ho (σ i) (σ j) ∧ x9 = nI M ∧ ∀ τ, JoNs ho (σ i) (σ j) τ → SimH wN wV (M + 1) (nup σ M τ) r1)) := by
  obtain ⟨many, vW, vIW, vK, vZ, vM, vS, vCt, vC, vRow, vB, vL, vLC, vRe, vR⟩ := r
  have H2 := H
  obtain ⟨rfl, hM, hK, hs⟩ := H2
  obtain ⟨z, hz, rfl, rfl⟩ := h9
  constructor
  · intro hn
    have e : mX9_join (nI M) vK vZ vM vS vCt vC vRow vR ho aq bq = some (-1, nI M, vK, vZ, vM, vS, vCt, vC, vRow, vR) := by
      unfold mX9_join
      by_cases h0 : ho < 0
      · exact if_pos h0
      · rw [if_neg h0]
        by_cases h1 : 1 < ho
        · exact if_pos h1
        · rw [if_neg h1]
          rcases is_v hM rfl aq with q | ⟨q, s, hs1, rfl⟩
          · rw [q, sb_]
            exact if_pos rfl
          · rw [q, sb_, if_neg (show ¬ (1 : Int32) = 0 by decide)]
            rcases hn with hn | hn | hn
            · rw [is_n hM hn] at q
              exact absurd q (by decide)
            · rw [is_n hM hn, sb_]
              exact if_pos rfl
            · exact absurd (Int32.not_lt.mp h1) (hn.resolve_left h0)
    rw [e] at hz
    cases Option.some.inj hz
    exact ⟨rfl, rfl⟩
  · rintro i hi j hj rfl rfl hh
    have h0 : ¬ ho < 0 := fun q => hh (Or.inl q)
    have h1 : ho ≤ 1 := Decidable.byContradiction (fun q => hh (Or.inr q))
    have h01 : ho = 0 ∨ ho = 1 := by
      obtain ⟨q, hq, rfl⟩ := nI_of2 (M := nI 1) (n := 1) (nI_toInt (by omega)) h0 h1
      rcases (show q = 0 ∨ q = 1 by omega) with rfl | rfl
      · exact Or.inl rfl
      · exact Or.inr rfl
    obtain ⟨a1, a2⟩ := hs i hi
    obtain ⟨b1, b2⟩ := hs j hj
    have hva := hV i hi
    have hvb := hV j hj
    rcases eσa : σ i with ⟨akd, asz, amk, asd, akc, an, av, alay⟩
    rcases eσb : σ j with ⟨bkd, bsz, bmk, bsd, bkc, bn, bv, blay⟩
    rw [eσa] at a1 a2 hva
    rw [eσb] at b1 b2 hvb
    obtain ⟨A, hA, eA⟩ : BN (vC i) := by
      obtain ⟨⟨M', hM', eM', hs'⟩, -⟩ := hI.1
      have : M = M' := (nI_eq (by omega) (by omega)).mp eM'
      exact RS_cm (hs' i (by omega))
    obtain ⟨B, hB, eB⟩ : BN (vC j) := by
      obtain ⟨⟨M', hM', eM', hs'⟩, -⟩ := hI.1
      have : M = M' := (nI_eq (by omega) (by omega)).mp eM'
      exact RS_cm (hs' j (by omega))
    have hJC : JoC (akd, asz, amk, asd, akc, an, av, alay) (bkd, bsz, bmk, bsd, bkc, bn, bv, blay) ↔ LikeR vK vZ vM vS i j := by
      refine Iff.trans like_iff ?_
      constructor
      · rintro ⟨q1, q2, q3, q4, q5⟩
        exact ⟨a1.1.symm.trans q1, b1.1.symm.trans q2, (a1.2.2.2.1 (Or.inl q1)).symm.trans (q3.trans (b1.2.2.2.1 (Or.inl q2))), a1.2.1.symm.trans (q4.trans b1.2.1), a1.2.2.1.symm.trans (q5.trans b1.2.2.1)⟩
      · rintro ⟨q1, q2, q3, q4, q5⟩
        have e1 := a1.1.trans q1
        have e2 := b1.1.trans q2
        exact ⟨e1, e2, (a1.2.2.2.1 (Or.inl e1)).trans (q3.trans (b1.2.2.2.1 (Or.inl e2)).symm), a1.2.1.trans (q4.trans b1.2.1.symm), a1.2.2.1.trans (q5.trans b1.2.2.1.symm)⟩
    have cts : LikeR vK vZ vM vS i j → (an = nI A ∧ rising av A ∧ ∀ t, cB A av t = cB A (slC vCt i) t) ∧ (bn = nI B ∧ rising bv B ∧ ∀ t, cB B bv t = cB B (slC vCt j) t) := by
      intro hl
      obtain ⟨k, hk, e1, e2, e3, e4⟩ := a2 (a1.1.trans hl.1)
      obtain ⟨k', hk', f1, f2, f3, f4⟩ := b2 (b1.1.trans hl.2.1)
      have q1 : k = A := (nI_eq (by omega) (by omega)).mp (e2.symm.trans eA)
      have q2 : k' = B := (nI_eq (by omega) (by omega)).mp (f2.symm.trans eB)
      subst q1 q2
      exact ⟨⟨e1, e3, e4⟩, f1, f3, f4⟩
    have hJF : LikeR vK vZ vM vS i j → (JoFs ho (akd, asz, amk, asd, akc, an, av, alay) (bkd, bsz, bmk, bsd, bkc, bn, bv, blay) ↔ (ho = 0 ∧ ¬ A + B ≤ 1000)) := by
      intro hl
      obtain ⟨⟨e1, -⟩, f1, -⟩ := cts hl
      show (¬ ho = 1 ∧ ¬ an + bn ≤ 1000) ↔ _
      rw [e1, f1, nI_add]
      constructor
      · rintro ⟨q1, q2⟩
        exact ⟨h01.resolve_right q1, fun w => q2 (nI_le (b := 1000) w (by decide))⟩
      · rintro ⟨q1, q2⟩
        exact ⟨by rw [q1]; decide, fun w => q2 ((nI_leI (b := 1000) (by omega) (by decide)).mp w)⟩
    rcases OK_use (rjoin_x hI.1 hM hi hj hA eA hB eB vS vCt vRow h0 h1) hz with ⟨q1, q2, q3⟩ | ⟨q1, q2, q3, q4⟩ | ⟨q1, q2, q3, q4, q5, q6, m, q7, q8, q9, q10, q11⟩
    · refine Or.inl ⟨fun w => q1 (hJC.mp w), q2, ?_⟩
      obtain ⟨z1, z2⟩ := z
      dsimp only at q3
      subst q3
      rfl
    · refine Or.inr (Or.inl ⟨hJC.mpr q1, q2.imp id (hJF q1).mpr, q3, ?_⟩)
      obtain ⟨z1, z2⟩ := z
      dsimp only at q4
      subst q4
      rfl
    · refine Or.inr (Or.inr ⟨hJC.mpr q1, q2, fun w => q3 ((hJF q1).mp w), q4, fun τ hτ => ?_⟩)
      obtain ⟨⟨e1, e2, e3⟩, f1, f2, f3⟩ := cts q1
      rw [q5]
      refine sim_new H q2 q6 q9 ?_ ?_ _ _ _ _ _ _
      · obtain ⟨kd, sz, mk, sd, kc, n, v, lay⟩ := τ
        obtain ⟨t1, t2, t3, t4, -⟩ := hτ
        obtain ⟨g1, g2, g3, g4, g5⟩ := q6
        refine ⟨by rw [g1, t1]; exact ups.symm, by rw [g2, t3, a1.2.1]; exact ups.symm, by rw [g3, t4, a1.2.2.1]; exact ups.symm, fun _ => by rw [g4, t2]; exact a1.2.2.2.1 (Or.inl (a1.1.trans q1.1)), fun w => ?_⟩
        rw [t1] at w
        exact absurd w (by decide)
      · obtain ⟨kd, sz, mk, sd, kc, n, v, lay⟩ := τ
        obtain ⟨t1, t2, t3, t4, -, t5, t6, -⟩ := hτ
        intro _
        rw [q8]
        by_cases hz0 : ho = 0
        · obtain ⟨r1, r2⟩ := q10 hz0
          obtain ⟨v0, hv0⟩ := t6 (by rw [hz0]; decide)
          rw [e1, f1] at hv0
          have hAB : A + B ≤ 1000 := by omega
          obtain ⟨s1, s2, s3⟩ := OK_use (together_x hAB v0 av bv e2) hv0
          refine ⟨m, q7, by rw [r1]; exact s1, ups, by rw [r1]; exact s2, fun u => ?_⟩
          rw [r2, r1, s3, e3, f3]
        · obtain ⟨r1, r2⟩ := q11 hz0
          obtain ⟨v0, hv0⟩ := t5 (h01.resolve_left hz0)
          rw [e1, f1] at hv0
          obtain ⟨m2, s0, s1, s2, s3⟩ := OK_use (shared_x hA hB v0 av bv e2 f2) hv0
          have hmm : m2 = m := cB_eq_len (fun u => by rw [s3, r2, e3, f3])
          subst hmm
          exact ⟨m2, q7, s1, ups, s2, fun u => by rw [s3, r2, e3, f3]⟩
theorem sim_fold {wN : Nat → Nat} {wV : Nat → Nat → Int64} {M : Nat} {σ : Nat → SlT} {r r1 : RT} {aq x9 : Int32} (hI : RIY r) (H : SimH wN wV M σ r) (h9 : S9_fold aq r x9 r1) : (NoS M aq → x9 = -1 ∧ r1 = r) ∧ ∀ i, i < M → aq = nI i → ((¬ FoC (σ i) ∧ x9 = -2 ∧ r1 = r) ∨ (FoC (σ i) ∧ M = 30 ∧ x9 = -4 ∧ r1 = r) ∨ (FoC (σ i) ∧ M < 30 ∧ x9 = nI M ∧ ∀ τ, FoNs (σ i) τ → SimH wN wV (M + 1) (nup σ M τ) r1)) := by
  obtain ⟨many, vW, vIW, vK, vZ, vM, vS, vCt, vC, vRow, vB, vL, vLC, vRe, vR⟩ := r
  have H2 := H
  obtain ⟨rfl, hM, hK, hs⟩ := H2
  obtain ⟨z, hz, rfl, rfl⟩ := h9
  constructor
  · intro hn
    have e : mX9_fold (nI M) vK vZ vM vS vCt vC vRow vR aq = some (-1, nI M, vK, vZ, vM, vS, vCt, vC, vRow, vR) := by
      unfold mX9_fold
      rw [is_n hM hn, sb_]
      exact if_pos rfl
    rw [e] at hz
    cases Option.some.inj hz
    exact ⟨rfl, rfl⟩
  · rintro i hi rfl
    obtain ⟨a1, a2⟩ := hs i hi
    rcases eσa : σ i with ⟨akd, asz, amk, asd, akc, an, av, alay⟩
    rw [eσa] at a1 a2
    obtain ⟨A, hA, eA⟩ : BN (vC i) := by
      obtain ⟨⟨M', hM', eM', hs'⟩, -⟩ := hI.1
      have : M = M' := (nI_eq (by omega) (by omega)).mp eM'
      exact RS_cm (hs' i (by omega))
    have hFC : FoC (akd, asz, amk, asd, akc, an, av, alay) ↔ (vK i = 0 ∧ 8 < vZ i) := by
      show (akd = 0 ∧ 8 < asz) ↔ _
      constructor
      · rintro ⟨q1, q2⟩
        exact ⟨a1.1.symm.trans q1, a1.2.2.2.1 (Or.inl q1) ▸ q2⟩
      · rintro ⟨q1, q2⟩
        have e1 := a1.1.trans q1
        exact ⟨e1, by rw [a1.2.2.2.1 (Or.inl e1)]; exact q2⟩
    rcases OK_use (rfold_x hI.1 hM hi hA eA vS vCt vRow) hz with ⟨q1, q2, q3⟩ | ⟨q1, q2, q3, q4⟩ | ⟨q1, q2, q3, q4, q5, q6, q7, q8⟩
    · refine Or.inl ⟨fun w => q1 (hFC.mp w), q2, ?_⟩
      obtain ⟨z1, z2⟩ := z
      dsimp only at q3
      subst q3
      rfl
    · refine Or.inr (Or.inl ⟨hFC.mpr q1, q2, q3, ?_⟩)
      obtain ⟨z1, z2⟩ := z
      dsimp only at q4
      subst q4
      rfl
    · refine Or.inr (Or.inr ⟨hFC.mpr q1, q2, q3, fun τ hτ => ?_⟩)
      have ek := a1.1.trans q1.1
      obtain ⟨k, hk, e1, e2, e3, e4⟩ := a2 ek
      have hkA : k = A := (nI_eq (by omega) (by omega)).mp (e2.symm.trans eA)
      subst hkA
      rw [q4]
      refine sim_new H q2 q5 q7 ?_ ?_ _ _ _ _ _ _
      · obtain ⟨kd, sz, mk, sd, kc, n, v, lay⟩ := τ
        obtain ⟨t1, t2, t3, t4, -⟩ := hτ
        obtain ⟨g1, g2, g3, g4, g5⟩ := q5
        refine ⟨by rw [g1, t1]; exact ups.symm, by rw [g2, t3, a1.2.1]; exact ups.symm, by rw [g3, t4, a1.2.2.1]; exact ups.symm, fun _ => by rw [g4, t2, a1.2.2.2.1 (Or.inl ek)], fun w => ?_⟩
        rw [t1] at w
        exact absurd w (by decide)
      · obtain ⟨kd, sz, mk, sd, kc, n, v, lay⟩ := τ
        obtain ⟨t1, t2, t3, t4, -, ⟨v0, hv0⟩, -⟩ := hτ
        intro _
        rw [e1, bag_cpy hk] at hv0
        have hv1 := Option.some.inj hv0
        have e5 : nI k = n := congrArg Prod.fst hv1
        have e6 : va_cpy av v0 0 0 k = v := congrArg Prod.snd hv1
        subst e5 e6
        rw [q6]
        refine ⟨k, hk, rfl, ups, AG_ris (AG_cpy av v0) e3, fun u => ?_⟩
        rw [cB_ext (AG_cpy av v0), e4]
        exact cB_ext (AG_s q8)
