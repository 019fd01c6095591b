/-! ===== the reference: drop, putAll, join, fold, exact in headers and contents ===== -/
theorem rdrop_x {many : Int32} {vIW vK vZ vM vC vR vL : Nat → Int32} (h : RI many vIW vK vZ vM vC vR vL) {M s : Nat} (eM : many = nI M) (hM : M ≤ 30) (hsM : s < M) (vS : Nat → Int32) (vCt : Nat → Int64) (row vB : Nat → Int32) (vRe : Nat → Int64) (t : Int64) : OK (mX9_drop many vK vZ vM vS vCt vC row vB vL vRe vR (nI s) t) (fun z => FrC s vC vCt z.2.2.1 z.2.1 ∧ (vK s = 0 → z.2.1 = vCt ∧ z.2.2.1 = vC)) := by
  have hS : RS vK vZ vM vC vR vL s := by
    obtain ⟨⟨M', hM', eM', hs'⟩, -⟩ := h
    have : M = M' := (nI_eq (by omega) (by omega)).mp (eM.symm.trans eM')
    exact hs' s (by omega)
  have same : FrC s vC vCt vC vCt ∧ (vK s = 0 → vCt = vCt ∧ vC = vC) := ⟨FrC_r _ _ _, fun _ => ⟨rfl, rfl⟩⟩
  unfold mX9_drop
  have e : mX9_is many (nI s) = some 1 := by
    unfold mX9_is
    rw [if_neg (nI_pos (by omega)), if_neg (by rw [eM]; exact nI_ge hsM (by omega))]
  have hs30 : s < 30 := by omega
  have i30 := ix_nI (k := s) (n := 30) hs30
  obtain ⟨n, hn, en⟩ := RS_cm hS
  have tail : ∀ (hk0 : ¬ vK s = 0) (row1 : Nat → Int32) (o : Int32), (∃ k, k ≤ n ∧ o = nI k) → OK (if ix (nI s) 30 = true then (if (vC s) ≤ o then (if ix (nI s) 30 = true then (some ((vC s), vCt, vC, row1)) else none) else (if ix (nI s) 30 = true then (if ix (nI s) 30 = true then (if ix (nI s) 30 = true then (if ix (((nI s) * (1000 : Int32)) + ((upd vC s ((vC s) - (1 : Int32))) s)) 30000 = true then (if ix (((nI s) * (1000 : Int32)) + o) 30000 = true then (if ix (nI s) 30 = true then (some (((upd vC s ((vC s) - (1 : Int32))) s), (vp_updL vCt (Int32.toNatClampNeg (((nI s) * (1000 : Int32)) + o)) (vCt (Int32.toNatClampNeg (((nI s) * (1000 : Int32)) + ((upd vC s ((vC s) - (1 : Int32))) s))))), (upd vC s ((vC s) - (1 : Int32))), row1)) else none) else none) else none) else none) else none) else none)) else none) (fun z => FrC s vC vCt z.2.2.1 z.2.1 ∧ (vK s = 0 → z.2.1 = vCt ∧ z.2.2.1 = vC)) := by
    rintro hk0 row1 o ⟨k, hk, rfl⟩
    rw [en]
    refine OK_T i30 (OK_ite (fun _ => OK_T i30 (OK_some same)) (fun hlt => ?_))
    have hkn : k < n := Nat.lt_of_not_le (fun q => hlt (nI_le q (by omega)))
    rw [pk_us, show nI n - (1 : Int32) = nI (n - 1) from pk_sub (b := 1) (by omega), m1000, m1000, clN (k := 1000 * s + k) (by omega)]
    exact OK_T i30 (OK_T i30 (OK_T i30 (OK_T (ix_nI (by omega)) (OK_T (ix_nI (by omega)) (OK_T i30 (OK_some ⟨fun q hq => ⟨upo hq, slC_o hq (by omega)⟩, fun w => absurd w hk0⟩))))))
  refine OK_be e (OK_F (by decide) (OK_T i30 ?_))
  rw [clN (k := s) (by omega)]
  refine OK_ite (fun hk => OK_bind (lets01 hs30 hS t) (fun z hz => OK_ite (fun _ => OK_some same) (fun _ => OK_T i30 (OK_be (mix_r _ _) (OK_T i30 (OK_T hk ?_)))))) (fun hk1 => OK_T i30 (OK_ite (fun hk => OK_bind (lets01 hs30 hS t) (fun z hz => OK_ite (fun _ => OK_some same) (fun hz0 => OK_T i30 (OK_be (mix_r _ _) (OK_T i30 (OK_F hk1 ?_)))))) (fun _ => OK_some same)))
  · obtain ⟨a, m, ha, ha2, hm, eZ, eMk⟩ := RS_01 hS (by rw [hk]; decide) (by rw [hk]; decide)
    exact OK_bind (rlower_ok hs30 ha2 hm eZ eMk _ _) (fun y _ => OK_bind (rfind_ct hs30 hn en _ _) (fun o ho => tail (by rw [hk]; decide) _ o ho))
  · obtain ⟨a, ha, eZ⟩ := RS_2 hS hk
    obtain ⟨k0, hk0, hit⟩ := hz.2 a hk eZ ha (hz.1.resolve_left hz0)
    refine OK_bind (rfind_nest hs30 ha eZ t hk0 hit) ?_
    rintro y ⟨k, hk8, rfl⟩
    rw [show nI k / (4 : Int32) = nI (k / 4) from q_d (by omega) (by decide) (by decide)]
    refine OK_be (nestOf_v hs30 ha eZ t _) ?_
    rw [nestIx hk8]
    exact OK_T (ix_nI (nestAt_lt hs30 ha)) (OK_bind (rfind_ct hs30 hn en _ _) (fun o ho => tail (by rw [hk]; decide) _ o ho))
theorem rputAll_x {many : Int32} {vIW vK vZ vM vC vR vL : Nat → Int32} (h : RI many vIW vK vZ vM vC vR vL) {M s : Nat} (eM : many = nI M) (hM : M ≤ 30) (hsM : s < M) {w N : Nat} (hw : w < 8) (hN : N ≤ 1000) (eW : vIW w = nI N) (vW : Nat → Int64) (vS : Nat → Int32) (vCt : Nat → Int64) (row kept : Nat → Int32) : OK (mX9_putAll many vW vIW vK vZ vM vS vCt vC row kept (nI s) (nI w)) (fun z => FrC s vC vCt z.2.2.1 z.2.1 ∧ (vK s = 0 → ∀ n, n ≤ 1000 → vC s = nI n → z.1 = nI (min N (1000 - n)) ∧ z.2.2.1 s = nI (n + min N (1000 - n)) ∧ ∀ t, cB (n + min N (1000 - n)) (slC z.2.1 s) t = cB n (slC vCt s) t + cB (min N (1000 - n)) (wOf vW w) t)) := by
  have hM2 : ∀ {vC' : Nat → Int32}, RI many vIW vK vZ vM vC' vR vL → RS vK vZ vM vC' vR vL s := by
    intro vC' h
    obtain ⟨⟨M', hM', eM', hs'⟩, -⟩ := h
    have : M = M' := (nI_eq (by omega) (by omega)).mp (eM.symm.trans eM')
    exact hs' s (by omega)
  obtain ⟨n, hn, en⟩ := RS_cm (hM2 h)
  unfold mX9_putAll
  have e : mX9_is many (nI s) = some 1 := by
    unfold mX9_is
    rw [if_neg (nI_pos (by omega)), if_neg (by rw [eM]; exact nI_ge hsM (by omega))]
  refine OK_be e (OK_F (by decide) (OK_be (isW1 hw) (OK_F (by decide) (OK_T (ix_nI (by omega)) ?_))))
  rw [clN (k := s) (by omega)]
  have fin : ∀ {x : Int32} {c1 : Nat → Int32} {ct1 : Nat → Int64}, FrC s vC vCt c1 ct1 → (vK s = 0 → x = nI (min N (1000 - n)) ∧ c1 s = nI (n + min N (1000 - n)) ∧ ∀ t, cB (n + min N (1000 - n)) (slC ct1 s) t = cB n (slC vCt s) t + cB (min N (1000 - n)) (wOf vW w) t) → FrC s vC vCt c1 ct1 ∧ (vK s = 0 → ∀ n, n ≤ 1000 → vC s = nI n → x = nI (min N (1000 - n)) ∧ c1 s = nI (n + min N (1000 - n)) ∧ ∀ t, cB (n + min N (1000 - n)) (slC ct1 s) t = cB n (slC vCt s) t + cB (min N (1000 - n)) (wOf vW w) t) := by
    intro x c1 ct1 h1 h2
    refine ⟨h1, fun h0 n' hn' en' => ?_⟩
    have : n' = n := (nI_eq (by omega) (by omega)).mp (en'.symm.trans en)
    rw [this]
    exact h2 h0
  refine OK_ite (fun hk => OK_bind (P := fun z => FrC s vC vCt z.2.2.1 z.2.1 ∧ (vK s = 0 → z.1 = nI (min N (1000 - n)) ∧ z.2.2.1 s = nI (n + min N (1000 - n)) ∧ ∀ t, cB (n + min N (1000 - n)) (slC z.2.1 s) t = cB n (slC vCt s) t + cB (min N (1000 - n)) (wOf vW w) t)) ?_ (fun z hz => OK_some (fin hz.1 hz.2))) (fun hk => OK_some ⟨FrC_r _ _ _, fun h0 => absurd (show vK s ≤ 2 by rw [h0]; decide) hk⟩)
  refine OK_for (fun fu k (x : (Nat → Int64) × (Nat → Int32) × (Nat → Int32) × (Nat → Int32)) => mX9_putAll_L32 vW vIW vK vZ vM vS (nI s) (nI w) fu k x.1 x.2.1 x.2.2.1 x.2.2.2) N (by omega) (fun k x => RI many vIW vK vZ vM x.2.1 vR vL ∧ FrC s vC vCt x.2.1 x.1 ∧ (vK s = 0 → n + k ≤ 1000 ∧ x.2.1 s = nI (n + k) ∧ ∀ t, cB (n + k) (slC x.1 s) t = cB n (slC vCt s) t + cB k (wOf vW w) t)) _ (s := (vCt, vC, row, kept)) ⟨h, FrC_r _ _ _, fun _ => ⟨hn, en, fun t => rfl⟩⟩ ?_ ?_
  · rintro fu ⟨x1, x2, x3, x4⟩ ⟨h1, h2, h3⟩
    show OK (mX9_putAll_L32 vW vIW vK vZ vM vS (nI s) (nI w) (fu + 1) (nI N) x1 x2 x3 x4) _
    rw [mX9_putAll_L32, clN (k := w) (by omega), eW]
    refine OK_T (ix_nI hw) (OK_T (Int32.le_refl _) (OK_some ⟨h2, fun h0 => ?_⟩))
    obtain ⟨g1, g2, g3⟩ := h3 h0
    rw [show min N (1000 - n) = N by omega]
    exact ⟨rfl, g2, g3⟩
  · rintro fu k ⟨x1, x2, x3, x4⟩ hk2 ⟨h1, h2, h3⟩ ih
    show OK (mX9_putAll_L32 vW vIW vK vZ vM vS (nI s) (nI w) (fu + 1) (nI k) x1 x2 x3 x4) _
    dsimp only at h1 h2 h3
    rw [mX9_putAll_L32, clN (k := w) (by omega), eW, m1000, nI_s, clN (k := 1000 * w + k) (by omega)]
    refine OK_T (ix_nI hw) (OK_F (nI_ge hk2 (by omega)) (OK_T (ix_nI (by omega)) (OK_bind (doPut_x (by omega) (hM2 h1) hk vS x1 x3 x4 _) ?_)))
    rintro z ⟨hP, h0f⟩
    have hfr := FrC_t h2 (PuR_fr hP)
    rcases hP with ⟨z1, z2, z3⟩ | ⟨m, hm, em, z1, z2, z3⟩
    · refine OK_T (Int32.le_of_lt z1) (OK_some ⟨hfr, fun h0 => ?_⟩)
      obtain ⟨g1, g2, g3⟩ := h3 h0
      have hfull := (h0f (by rw [h0]; decide)).mp z1
      have : n + k = 1000 := (nI_eq (b := 1000) (by omega) (by omega)).mp (g2.symm.trans hfull)
      rw [show min N (1000 - n) = k by omega]
      dsimp only
      rw [z2, z3]
      exact ⟨rfl, g2, g3⟩
    · refine OK_F (by rw [z1]; exact nI_nle (by omega) (by omega)) (ih (z.2.1, z.2.2.1, z.2.2.2.1, z.2.2.2.2) ⟨?_, hfr, fun h0 => ?_⟩)
      · dsimp only
        rw [z3]
        exact RI_C h1 ⟨m + 1, by omega, rfl⟩
      · obtain ⟨g1, g2, g3⟩ := h3 h0
        have hmk : m = n + k := (nI_eq (by omega) (by omega)).mp (em.symm.trans g2)
        subst hmk
        dsimp only
        rw [z2, z3]
        refine ⟨by omega, ups, fun t => ?_⟩
        show cB (n + k + 1) _ t = _
        rw [cB_push, g3, cB_s]
        show _ + (if vW (1000 * w + k) = t then 1 else 0) = _ + (_ + if wOf vW w k = t then 1 else 0)
        unfold wOf
        omega
theorem join_ax {M a b A B : Nat} (hM : M < 30) (ha : a < M) (hb : b < M) (hA : A ≤ 1000) (hB : B ≤ 1000) (ho : Int32) (zz : Int32 × Int32 × (Nat → Int32) × (Nat → Int32) × (Nat → Int32) × (Nat → Int32) × (Nat → Int32) × (Nat → Int32) × (Nat → Int32)) (ez : zz.1 = nI M) {vC : Nat → Int32} (eA : vC a = nI A) (eB : vC b = nI B) (ct : Nat → Int64) : OK (mX9_join_L237 ho (nI a) (nI b) zz FU 0 ct (upd vC M 0)) (fun z => ∃ n, n ≤ A ∧ z.2.2 = upd vC M (nI n) ∧ FrC M vC ct z.2.2 z.2.1 ∧ (ho = 0 → n = A ∧ ∀ t, cB n (slC z.2.1 M) t = cB A (slC ct a) t) ∧ (¬ ho = 0 → ∀ t, cB n (slC z.2.1 M) t = min (cB A (slC ct a) t) (cB B (slC ct b) t))) := by
  have i30 := ix_nI (k := M) (n := 30) hM
  refine OK_for (fun fu k (x : (Nat → Int64) × (Nat → Int32)) => mX9_join_L237 ho (nI a) (nI b) zz fu k x.1 x.2) A (by omega) (fun k x => ∃ n, n ≤ k ∧ x.2 = upd vC M (nI n) ∧ FrC M vC ct x.2 x.1 ∧ (ho = 0 → n = k ∧ ∀ t, cB n (slC x.1 M) t = cB k (slC ct a) t) ∧ (¬ ho = 0 → ∀ t, cB n (slC x.1 M) t = min (cB k (slC ct a) t) (cB B (slC ct b) t))) _ (s := (ct, upd vC M 0)) ⟨0, by omega, rfl, fun q hq => ⟨upo hq, AG_r _ _⟩, fun _ => ⟨rfl, fun t => rfl⟩, fun _ t => by rw [cB_0, cB_0, Nat.zero_min]⟩ ?_ ?_
  · rintro fu ⟨x1, x2⟩ ⟨n, hn, e, h3, h4, h5⟩
    show OK (mX9_join_L237 ho (nI a) (nI b) zz (fu + 1) (nI A) x1 x2) _
    dsimp only at e h3 h4 h5
    subst e
    rw [mX9_join_L237, clN (k := a) (by omega), pk_un (show a ≠ M by omega), eA]
    exact OK_T (ix_nI (by omega)) (OK_T (Int32.le_refl _) (OK_some ⟨n, hn, rfl, h3, h4, h5⟩))
  · rintro fu k ⟨x1, x2⟩ hk ⟨n, hn, e, h3, h4, h5⟩ ih
    show OK (mX9_join_L237 ho (nI a) (nI b) zz (fu + 1) (nI k) x1 x2) _
    dsimp only at e h3 h4 h5
    subst e
    have ek : x1 (1000 * a + k) = slC ct a k := (h3 a (by omega)).2 k (by omega)
    rw [mX9_join_L237, clN (k := a) (by omega), ez, clN (k := M) (by omega), pk_un (show a ≠ M by omega), eA, pk_us, m1000, m1000, nI_s, show nI n + (1 : Int32) = nI (n + 1) from nI_1 n, upd_upd, clN (k := 1000 * a + k) (by omega), clN (k := 1000 * M + n) (by omega), ek]
    have fr2 : FrC M vC ct (upd vC M (nI (n + 1))) (vp_updL x1 (1000 * M + n) (slC ct a k)) := fun q hq => ⟨upo hq, AG_t (slC_o hq (by omega)) (h3 q hq).2⟩
    have grow : (ho = 0 ∨ (¬ ho = 0 ∧ cB n (slC x1 M) (slC ct a k) < cB B (slC ct b) (slC ct a k))) → OK (if ix (nI M) 30 = true then (if ix (nI (1000 * M + n)) 30000 = true then (if ix (nI M) 30 = true then (if ix (nI M) 30 = true then (mX9_join_L237 ho (nI a) (nI b) zz fu (nI (k + 1)) (vp_updL x1 (1000 * M + n) (slC ct a k)) (upd vC M (nI (n + 1)))) else none) else none) else none) else none) (fun z => ∃ n, n ≤ A ∧ z.2.2 = upd vC M (nI n) ∧ FrC M vC ct z.2.2 z.2.1 ∧ (ho = 0 → n = A ∧ ∀ t, cB n (slC z.2.1 M) t = cB A (slC ct a) t) ∧ (¬ ho = 0 → ∀ t, cB n (slC z.2.1 M) t = min (cB A (slC ct a) t) (cB B (slC ct b) t))) := by
      intro hg
      refine OK_T i30 (OK_T (ix_nI (by omega)) (OK_T i30 (OK_T i30 (ih (_, upd vC M (nI (n + 1))) ⟨n + 1, by omega, rfl, fr2, fun h0 => ⟨by have := (h4 h0).1; omega, fun t => ?_⟩, fun h0 t => ?_⟩))))
      · show cB (n + 1) (slC (vp_updL x1 (1000 * M + n) (slC ct a k)) M) t = cB (k + 1) (slC ct a) t
        rw [cB_push, (h4 h0).2, cB_s]
      · show cB (n + 1) (slC (vp_updL x1 (1000 * M + n) (slC ct a k)) M) t = min (cB (k + 1) (slC ct a) t) (cB B (slC ct b) t)
        rw [cB_push, cB_s]
        by_cases et : slC ct a k = t
        · subst et
          rw [if_pos rfl]
          have g1 := (hg.resolve_left h0).2
          have g2 := h5 h0 (slC ct a k)
          omega
        · rw [if_neg et]
          exact h5 h0 t
    refine OK_T (ix_nI (by omega)) (OK_F (nI_ge hk (by omega)) (OK_T (ix_nI (by omega)) (OK_lt (OK_ite (fun h0 => grow (Or.inl h0)) (fun h0 => OK_bind (times_x (n := n) hM (by omega) pk_us x1 _) (fun z1 hz1 => OK_bind (times_x (n := B) (by omega) hB (by rw [pk_un (show b ≠ M by omega)]; exact eB) x1 _) (fun z2 hz2 => OK_ite (fun q => ih (x1, upd vC M (nI n)) ⟨n, by omega, rfl, h3, fun w => absurd w h0, fun _ t => ?_⟩) (fun q => grow (Or.inr ⟨h0, ?_⟩)))))))))
    · have eb : cB B (slC x1 b) (slC ct a k) = cB B (slC ct b) (slC ct a k) := cB_ext (fun i hi => (h3 b (by omega)).2 i (by omega))
      have l1 := cB_le n (slC x1 M) (slC ct a k)
      have l2 := cB_le B (slC x1 b) (slC ct a k)
      rw [hz1, hz2] at q
      have q2 := (nI_leI (by omega) (by omega)).mp q
      rw [eb] at q2
      show cB n (slC x1 M) t = min (cB (k + 1) (slC ct a) t) (cB B (slC ct b) t)
      rw [h5 h0 t, cB_s]
      by_cases et : slC ct a k = t
      · subst et
        rw [if_pos rfl]
        have g2 := h5 h0 (slC ct a k)
        omega
      · rw [if_neg et, Nat.add_zero]
    · have eb : cB B (slC x1 b) (slC ct a k) = cB B (slC ct b) (slC ct a k) := cB_ext (fun i hi => (h3 b (by omega)).2 i (by omega))
      have l1 := cB_le n (slC x1 M) (slC ct a k)
      have l2 := cB_le B (slC x1 b) (slC ct a k)
      rw [hz1, hz2] at q
      rw [← eb]
      exact Nat.lt_of_not_le (fun w => q (nI_le w (by omega)))
theorem join_bx {M b A B : Nat} (hM : M < 30) (hb : b < M) (hAB : A + B ≤ 1000) (zz : Int32 × Int32 × (Nat → Int32) × (Nat → Int32) × (Nat → Int32) × (Nat → Int32) × (Nat → Int32) × (Nat → Int32) × (Nat → Int32)) (ez : zz.1 = nI M) {vC : Nat → Int32} (eB : vC b = nI B) (ct : Nat → Int64) : OK (mX9_join_L326 0 (nI b) zz FU 0 ct (upd vC M (nI A))) (fun z => z.2.2 = upd vC M (nI (A + B)) ∧ FrC M vC ct z.2.2 z.2.1 ∧ ∀ t, cB (A + B) (slC z.2.1 M) t = cB A (slC ct M) t + cB B (slC ct b) t) := by
  have i30 := ix_nI (k := M) (n := 30) hM
  refine OK_for (fun fu k (x : (Nat → Int64) × (Nat → Int32)) => mX9_join_L326 0 (nI b) zz fu k x.1 x.2) B (by omega) (fun k x => x.2 = upd vC M (nI (A + k)) ∧ FrC M vC ct x.2 x.1 ∧ ∀ t, cB (A + k) (slC x.1 M) t = cB A (slC ct M) t + cB k (slC ct b) t) _ (s := (ct, upd vC M (nI A))) ⟨rfl, fun q hq => ⟨upo hq, AG_r _ _⟩, fun t => rfl⟩ ?_ ?_
  · rintro fu ⟨x1, x2⟩ ⟨e, h3, h4⟩
    show OK (mX9_join_L326 0 (nI b) zz (fu + 1) (nI B) x1 x2) _
    dsimp only at e h3 h4
    subst e
    rw [mX9_join_L326, clN (k := b) (by omega), pk_un (show b ≠ M by omega), eB]
    exact OK_T (ix_nI (by omega)) (OK_T (Int32.le_refl _) (OK_some ⟨rfl, h3, h4⟩))
  · rintro fu k ⟨x1, x2⟩ hk ⟨e, h3, h4⟩ ih
    show OK (mX9_join_L326 0 (nI b) zz (fu + 1) (nI k) x1 x2) _
    dsimp only at e h3 h4
    subst e
    have ek : x1 (1000 * b + k) = slC ct b k := (h3 b (by omega)).2 k (by omega)
    rw [mX9_join_L326, clN (k := b) (by omega), ez, clN (k := M) (by omega), pk_un (show b ≠ M by omega), eB, pk_us, m1000, m1000, nI_s, show nI (A + k) + (1 : Int32) = nI (A + k + 1) from nI_1 _, upd_upd, clN (k := 1000 * b + k) (by omega), clN (k := 1000 * M + (A + k)) (by omega), ek]
    refine OK_T (ix_nI (by omega)) (OK_F (nI_ge hk (by omega)) (OK_T rfl (OK_T i30 (OK_T (ix_nI (by omega)) (OK_T (ix_nI (by omega)) (OK_T i30 (OK_T i30 (ih (_, upd vC M (nI (A + k + 1))) ⟨rfl, fun q hq => ⟨upo hq, AG_t (slC_o hq (by omega)) (h3 q hq).2⟩, fun t => ?_⟩))))))))
    show cB (A + k + 1) (slC (vp_updL x1 (1000 * M + (A + k)) (slC ct b k)) M) t = _
    rw [cB_push, h4, cB_s]
    omega
theorem join_b1 {M b n : Nat} (hM : M < 30) (hb : b < M) {ho : Int32} (h0 : ¬ ho = 0) (zz : Int32 × Int32 × (Nat → Int32) × (Nat → Int32) × (Nat → Int32) × (Nat → Int32) × (Nat → Int32) × (Nat → Int32) × (Nat → Int32)) {vC : Nat → Int32} (ct : Nat → Int64) : OK (mX9_join_L326 ho (nI b) zz FU 0 ct (upd vC M (nI n))) (fun z => z.2.2 = upd vC M (nI n) ∧ z.2.1 = ct) := by
  show OK (mX9_join_L326 ho (nI b) zz (4999 + 1) 0 ct (upd vC M (nI n))) _
  rw [mX9_join_L326, clN (k := b) (by omega)]
  exact OK_T (ix_nI (by omega)) (OK_ite (fun _ => OK_some ⟨rfl, rfl⟩) (fun _ => OK_F h0 (OK_some ⟨rfl, rfl⟩)))
