/-! ===== both states, side by side: numbers, headers, contents of the MARKED ones ===== -/
def SVs : SlT → Prop := fun (kd, sz, mk1, sd, kc, n, v, τ) => SV kd sz mk1 n
def HdS (s : Nat) (vK vZ vM vS : Nat → Int32) : SlT → Prop := fun (kd, sz, mk1, sd, kc, n, v, τ) => kd = vK s ∧ mk1 = vM s ∧ sd = vS s ∧ ((kd = 0 ∨ kd = 1 ∨ kd = 2) → sz = vZ s) ∧ (kd = 3 → ∃ Z, Z ≤ 1258 ∧ vZ s = nI Z ∧ sz = nI (3 * Z))
def CtS (s : Nat) (vC : Nat → Int32) (vCt : Nat → Int64) : SlT → Prop := fun (kd, sz, mk1, sd, kc, n, v, τ) => kd = 0 → ∃ k, k ≤ 1000 ∧ n = nI k ∧ vC s = nI k ∧ rising v k ∧ ∀ t, cB k v t = cB k (slC vCt s) t
def SimH (wN : Nat → Nat) (wV : Nat → Nat → Int64) (M : Nat) (σ : Nat → SlT) : RT → Prop := fun (many, vW, vIW, vK, vZ, vM, vS, vCt, vC, vRow, vB, vL, vLC, vRe, vR) => many = nI M ∧ M ≤ 30 ∧ Lk wN wV vW vIW ∧ ∀ s, s < M → HdS s vK vZ vM vS (σ s) ∧ CtS s vC vCt (σ s)
theorem HdS_c {s : Nat} {vK vZ vM vS wK wZ wM wS : Nat → Int32} {τ : SlT} (h : HdS s vK vZ vM vS τ) (e1 : wK s = vK s) (e2 : wZ s = vZ s) (e3 : wM s = vM s) (e4 : wS s = vS s) : HdS s wK wZ wM wS τ := by
  obtain ⟨kd, sz, mk, sd, kc, n, v, τ⟩ := τ
  obtain ⟨h1, h2, h3, h4, h5⟩ := h
  exact ⟨h1.trans e1.symm, h2.trans e3.symm, h3.trans e4.symm, fun q => (h4 q).trans e2.symm, fun q => by rw [e2]; exact h5 q⟩
theorem CtS_c {s : Nat} {vC wC : Nat → Int32} {vCt wCt : Nat → Int64} {τ : SlT} (h : CtS s vC vCt τ) (e1 : wC s = vC s) (e2 : AG 1000 (slC wCt s) (slC vCt s)) : CtS s wC wCt τ := by
  obtain ⟨kd, sz, mk, sd, kc, n, v, τ⟩ := τ
  intro q
  obtain ⟨k, hk, h1, h2, h3, h4⟩ := h q
  exact ⟨k, hk, h1, e1.trans h2, h3, fun t => (h4 t).trans (cB_ext (fun i hi => (e2 i (by omega)).symm))⟩
theorem sim_new {wN : Nat → Nat} {wV : Nat → Nat → Int64} {M : Nat} {σ : Nat → SlT} {many : Int32} {vW : Nat → Int64} {vIW vK vZ vM vS : Nat → Int32} {vCt : Nat → Int64} {vC vRow vB vL vLC : Nat → Int32} {vRe : Nat → Int64} {vR : Nat → Int32} (H : SimH wN wV M σ (many, vW, vIW, vK, vZ, vM, vS, vCt, vC, vRow, vB, vL, vLC, vRe, vR)) (hM : M < 30) {k0 k1 k2 k3 : Int32} {K1 Z1 M1 S1 C1 : Nat → Int32} {Ct1 : Nat → Int64} (hH : HdR M vK vZ vM vS k0 k1 k2 k3 K1 Z1 M1 S1) (hF : FrC M vC vCt C1 Ct1) {τ : SlT} (h1 : HdS M K1 Z1 M1 S1 τ) (h2 : CtS M C1 Ct1 τ) (row B L LC : Nat → Int32) (Re : Nat → Int64) (R : Nat → Int32) : SimH wN wV (M + 1) (nup σ M τ) (nI (M + 1), vW, vIW, K1, Z1, M1, S1, Ct1, C1, row, B, L, LC, Re, R) := by
  obtain ⟨e, hM2, hK, hs⟩ := H
  obtain ⟨g1, g2, g3, g4, g5⟩ := hH
  refine ⟨rfl, hM, hK, fun s hs1 => ?_⟩
  by_cases es : s = M
  · subst es
    rw [nup_s]
    exact ⟨h1, h2⟩
  · rw [nup_n es]
    obtain ⟨a1, a2⟩ := hs s (by omega)
    refine ⟨HdS_c a1 ?_ (g5 s es) ?_ ?_, CtS_c a2 (hF s es).1 (hF s es).2⟩
    · rw [g1]; exact upo es
    · rw [g2]; exact upo es
    · rw [g3]; exact upo es
theorem nI3 {k : Nat} (h : k < 2 ^ 31) (e : nI k = 3) : k = 3 := (nI_eq (b := 3) h (by decide)).mp e
/-! make -/
theorem sim_make {wN : Nat → Nat} {wV : Nat → Nat → Int64} {M : Nat} {σ : Nat → SlT} {r r1 : RT} {k0 k1 k2 k3 x8 x9 : Int32} (H : SimH wN wV M σ r) (h9 : S9_make k0 k1 k2 k3 r x9 r1) :
    (mX8_isMakeable k0 k1 k2 = some 0 ∧ x9 = -1 ∧ SimH wN wV M σ r1) ∨ (¬ mX8_isMakeable k0 k1 k2 = some 0 ∧ M = 30 ∧ x9 = -4 ∧ SimH wN wV M σ r1) ∨ (¬ mX8_isMakeable k0 k1 k2 = some 0 ∧ M < 30 ∧ x9 = nI M ∧ ∀ τ, MkNs k0 k1 k2 k3 τ → SimH wN wV (M + 1) (nup σ M τ) r1) := by
  obtain ⟨many, vW, vIW, vK, vZ, vM, vS, vCt, vC, vRow, vB, vL, vLC, vRe, vR⟩ := r
  have H2 := H
  obtain ⟨rfl, hM, -⟩ := H2
  obtain ⟨z, hz, rfl, rfl⟩ := h9
  rcases OK_use (rmake_x hM vK vZ vM vS vC vRow vR k0 k1 k2 k3) hz with ⟨q, rfl⟩ | ⟨q, q30, rfl⟩ | ⟨q, q30, rfl⟩
  · exact Or.inl ⟨q, rfl, H⟩
  · exact Or.inr (Or.inl ⟨q, q30, rfl, H⟩)
  · refine Or.inr (Or.inr ⟨q, q30, rfl, fun τ hτ => sim_new H q30 (HdR_u _ _ _ _ _ _ _ _ _) (fun s hs => ⟨upo hs, AG_r _ _⟩) ?_ ?_ _ _ _ _ _ _⟩)
    · obtain ⟨kd, sz, mk, sd, kc, n, v, τ⟩ := τ
      obtain ⟨t1, t2, t3, t4, t5, t6, t7, t8, t9⟩ := hτ
      refine ⟨t1.trans ups.symm, t3.trans ups.symm, t4.trans ups.symm, fun _ => t2.trans ups.symm, fun w => ?_⟩
      rcases t7 with ⟨e, -⟩ | ⟨e | e, -⟩
      · exact absurd (e.symm.trans (t1.symm.trans w)) (by decide)
      · exact absurd (e.symm.trans (t1.symm.trans w)) (by decide)
      · exact absurd (e.symm.trans (t1.symm.trans w)) (by decide)
    · obtain ⟨kd, sz, mk, sd, kc, n, v, τ⟩ := τ
      obtain ⟨t1, t2, t3, t4, t5, t6, t7, t8, t9⟩ := hτ
      exact fun _ => ⟨0, by decide, t6, ups, fun i j _ hj => absurd hj (Nat.not_lt_zero j), fun t => rfl⟩
/-! solve -/
theorem cnt_c {pl pl2 : Nat → Nat → Nat} {c : Nat} {off : Nat → Bool} : ∀ {n : Nat} (_ : ∀ t, t < n → pl t = pl2 t) (p : Nat), cnt pl c off n p = cnt pl2 c off n p := by
  intro n
  induction n with
  | zero => intro _ _; rfl
  | succ n ih =>
    intro h p
    show cnt pl c off n p + _ = cnt pl2 c off n p + _
    rw [ih (fun t ht => h t (by omega)) p, h n (by omega)]
theorem RunS_c {pl pl2 : Nat → Nat → Nat} {c n i : Nat} {T P : Nat → Nat} (h : ∀ t, t < n → pl t = pl2 t) (hR : RunS pl c n T P i) : RunS pl2 c n T P i := by
  intro j hj
  obtain ⟨h1, h2, h3, h4, h5, h6⟩ := hR j hj
  exact ⟨h1, h2, h3, by rw [← h _ h1]; exact h4, by rw [← cnt_c h]; exact h5, fun q hq => by rw [← cnt_c h]; exact h6 q hq⟩
theorem Solv_c {u v : Nat → Int64} {sd : Int32} {c n : Nat} (h : AG n u v) (hc : 0 < c) : Solv u sd c n → Solv v sd c n := by
  rintro ⟨T, P, hR⟩
  refine ⟨T, P, RunS_c (fun t ht => ?_) hR⟩
  funext k
  unfold plc thN
  rw [h t ht]
theorem TrV_u {N : Nat} {v : Nat → Int64} {sd : Int32} {a b : Nat} (h1 : TrV N v sd a) (h2 : TrV N v sd b) : a = b := by
  rcases Nat.lt_trichotomy a b with q | q | q
  · exact absurd h1.2.2 (h2.2.1 a q)
  · exact q
  · exact absurd h2.2.2 (h1.2.1 b q)
theorem TrV_c {N : Nat} (hN : N ≤ 1000) {u v : Nat → Int64} {sd : Int32} {a : Nat} (h : AG N u v) (h1 : TrV N u sd a) : TrV N v sd a := by
  have hc := (cOf_b hN).1
  exact ⟨h1.1, fun s hs q => h1.2.1 s hs (Solv_c (AG_s h) (by omega) q), Solv_c h (by omega) h1.2.2⟩
theorem NoV_c {N : Nat} (hN : N ≤ 1000) {u v : Nat → Int64} {sd : Int32} (h : AG N u v) (h1 : NoV N u sd) : NoV N v sd := by
  have hc := (cOf_b hN).1
  exact fun s hs q => h1 s hs (Solv_c (AG_s h) (by omega) q)
theorem sim_solve {wN : Nat → Nat} {wV : Nat → Nat → Int64} (hR : WRs wN wV) {M : Nat} {σ : Nat → SlT} {r r1 : RT} {wi sd_ x9 : Int32} (H : SimH wN wV M σ r) (h9 : S9_solve wi sd_ r x9 r1) :
    (mX9_isWorld wi = some 0 ∧ x9 = -1 ∧ SimH wN wV M σ r1) ∨ ∃ j, j < 8 ∧ wi = nI j ∧ ((NoV (wN j) (wV j) sd_ ∧ x9 = -3 ∧ SimH wN wV M σ r1) ∨ ((∃ τ, TrV (wN j) (wV j) sd_ τ) ∧ M = 30 ∧ x9 = -4 ∧ SimH wN wV M σ r1) ∨ (M < 30 ∧ x9 = nI M ∧ (∃ τ, TrV (wN j) (wV j) sd_ τ) ∧ ∀ τ, SoNs (wN j) (wV j) sd_ τ → SimH wN wV (M + 1) (nup σ M τ) r1)) := by
  obtain ⟨many, vW, vIW, vK, vZ, vM, vS, vCt, vC, vRow, vB, vL, vLC, vRe, vR⟩ := r
  have H2 := H
  obtain ⟨rfl, hM, hK, -⟩ := H2
  obtain ⟨od, oa, io, al, z, hz, rfl, rfl⟩ := h9
  rcases isW_v wi with q | ⟨q, j, hj, rfl⟩
  · have e : mX9_solve (nI M) vW vIW vK vZ vM vS vCt vC vRow vR od oa io al wi sd_ = some (-1, nI M, vK, vZ, vM, vS, vCt, vC, vRow, vR, od, oa, io, al) := by
      unfold mX9_solve
      rw [q, sb_]
      exact if_pos rfl
    rw [e] at hz
    cases Option.some.inj hz
    exact Or.inl ⟨q, rfl, H⟩
  · have hN := (hR j hj).1
    have hA := (hK j hj).2
    refine Or.inr ⟨j, hj, rfl, ?_⟩
    rcases OK_use (rsolve_x hM hj hN (hK j hj).1 vW vK vZ vM vS vCt vC vRow vR od oa io al sd_) hz with ⟨h1, e1, e2, e3, e4, e5, e6, e7, e8⟩ | ⟨⟨τ, h1⟩, q30, e1, e2, e3, e4, e5, e6, e7, e8⟩ | ⟨q30, e1, e2, τ, h1, hH, hC, hF⟩
    · refine Or.inl ⟨NoV_c hN hA h1, e1, ?_⟩
      rw [e2, e3, e4, e5, e6, e7, e8]
      exact H
    · refine Or.inr (Or.inl ⟨⟨τ, TrV_c hN hA h1⟩, q30, e1, ?_⟩)
      rw [e2, e3, e4, e5, e6, e7, e8]
      exact H
    · refine Or.inr (Or.inr ⟨q30, e1, ⟨τ, TrV_c hN hA h1⟩, fun τs hτ => ?_⟩)
      rw [e2]
      refine sim_new H q30 hH hF ?_ ?_ _ _ _ _ _ _
      · obtain ⟨kd, sz, mk, sd, kc, n, v, lay⟩ := τs
        obtain ⟨τ2, t0, t1, t2, t3, t4, -⟩ := hτ
        obtain ⟨g1, g2, g3, g4, g5⟩ := hH
        have et := TrV_u t0 (TrV_c hN hA h1)
        subst et
        refine ⟨by rw [g1, t1]; exact ups.symm, by rw [g2, t3]; exact ups.symm, by rw [g3, t4]; exact ups.symm, fun w => ?_, fun _ => ⟨cOf (wN j), (cOf_b hN).2, g4, t2⟩⟩
        rw [t1] at w
        exact absurd w (by decide)
      · obtain ⟨kd, sz, mk, sd, kc, n, v, lay⟩ := τs
        obtain ⟨τ2, t0, t1, -⟩ := hτ
        intro w
        rw [t1] at w
        exact absurd w (by decide)
/-! layered -/
theorem sim_layered {wN : Nat → Nat} {wV : Nat → Nat → Int64} (hR : WRs wN wV) {M : Nat} {σ : Nat → SlT} {r r1 : RT} {wi wa sd_ x9 : Int32} (H : SimH wN wV M σ r) (h9 : S9_layered wi wa sd_ r x9 r1) :
    ((mX9_isWorld wi = some 0 ∨ mX9_isWorld wa = some 0) ∧ x9 = -1 ∧ SimH wN wV M σ r1) ∨ ∃ j, j < 8 ∧ ∃ k, k < 8 ∧ wi = nI j ∧ wa = nI k ∧ ((M = 30 ∧ x9 = -4 ∧ SimH wN wV M σ r1) ∨ (M < 30 ∧ x9 = nI M ∧ ∀ τ, LaNs (wN j) (wV j) (wN k) (wV k) sd_ τ → SimH wN wV (M + 1) (nup σ M τ) r1)) := by
  obtain ⟨many, vW, vIW, vK, vZ, vM, vS, vCt, vC, vRow, vB, vL, vLC, vRe, vR⟩ := r
  have H2 := H
  obtain ⟨rfl, hM, hK, -⟩ := H2
  obtain ⟨co, ri, go, z, hz, rfl, rfl⟩ := h9
  have refuse : ∀ (q : mX9_isWorld wi = some 0 ∨ (mX9_isWorld wi = some 1 ∧ mX9_isWorld wa = some 0)), mX9_layered (nI M) vW vIW vK vZ vM vS vCt vC vRow vB vL vLC vRe vR co ri go wi wa sd_ = some (-1, nI M, vK, vZ, vM, vS, vCt, vC, vRow, vB, vL, vLC, vRe, vR, co, ri, go) := by
    intro q
    unfold mX9_layered
    rcases q with q | ⟨q, q2⟩
    · rw [q, sb_]
      exact if_pos rfl
    · rw [q, sb_, if_neg (show ¬ (1 : Int32) = 0 by decide), q2, sb_]
      exact if_pos rfl
  rcases isW_v wi with q | ⟨q, j, hj, rfl⟩
  · rw [refuse (Or.inl q)] at hz
    cases Option.some.inj hz
    exact Or.inl ⟨Or.inl q, rfl, H⟩
  · rcases isW_v wa with q2 | ⟨q2, k, hk, rfl⟩
    · rw [refuse (Or.inr ⟨q, q2⟩)] at hz
      cases Option.some.inj hz
      exact Or.inl ⟨Or.inr q2, rfl, H⟩
    · refine Or.inr ⟨j, hj, k, hk, rfl, rfl, ?_⟩
      rcases OK_use (rlayered_x hM hj hk (hR j hj).1 (hR k hk).1 (hK j hj).1 (hK k hk).1 vW vK vZ vM vS vCt vC vRow vB vL vLC vRe vR co ri go sd_) hz with ⟨q30, e1, e2, e3, e4, e5, e6, e7, e8⟩ | ⟨q30, e1, e2, ⟨k1, hH⟩, hC, hF⟩
      · refine Or.inl ⟨q30, e1, ?_⟩
        rw [e2, e3, e4, e5, e6, e7, e8]
        exact H
      · refine Or.inr ⟨q30, e1, fun τs hτ => ?_⟩
        rw [e2]
        refine sim_new H q30 hH hF ?_ ?_ _ _ _ _ _ _
        · obtain ⟨kd, sz, mk, sd, kc, n, v, lc, lsd, kca, rn, rv, lz, ld⟩ := τs
          obtain ⟨t1, t2, t3, t4, -⟩ := hτ
          obtain ⟨g1, g2, g3, g4, g5⟩ := hH
          refine ⟨by rw [g1, t1]; exact ups.symm, by rw [g2, t3]; exact ups.symm, by rw [g3, t4]; exact ups.symm, fun w => ?_, fun w => ?_⟩
          · rw [t1] at w
            exact absurd w (by decide)
          · rw [t1] at w
            exact absurd w (by decide)
        · obtain ⟨kd, sz, mk, sd, kc, n, v, lc, lsd, kca, rn, rv, lz, ld⟩ := τs
          obtain ⟨t1, -⟩ := hτ
          intro w
          rw [t1] at w
          exact absurd w (by decide)
