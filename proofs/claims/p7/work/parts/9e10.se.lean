/-! ===== the reference's makers, exact in headers and contents ===== -/
def HdR (M : Nat) (vK vZ vM vS : Nat → Int32) (k0 k1 k2 k3 : Int32) (K1 Z1 M1 S1 : Nat → Int32) : Prop := K1 = upd vK M k0 ∧ M1 = upd vM M k2 ∧ S1 = upd vS M k3 ∧ Z1 M = k1 ∧ ∀ q, q ≠ M → Z1 q = vZ q
theorem HdR_u (M : Nat) (vK vZ vM vS : Nat → Int32) (k0 k1 k2 k3 : Int32) : HdR M vK vZ vM vS k0 k1 k2 k3 (upd vK M k0) (upd vZ M k1) (upd vM M k2) (upd vS M k3) := ⟨rfl, rfl, rfl, ups, fun _ hq => upo hq⟩
theorem is_y {M s : Nat} (hM : M ≤ 30) (hs : s < M) : mX9_is (nI M) (nI s) = some 1 := by
  unfold mX9_is
  rw [if_neg (nI_pos (by omega)), if_neg (nI_ge hs (by omega))]
theorem is_n {M : Nat} (hM : M ≤ 30) {si : Int32} (h : NoS M si) : mX9_is (nI M) si = some 0 := by
  unfold mX9_is
  by_cases h0 : si < 0
  · rw [if_pos h0]
  · rw [if_neg h0, if_pos (h.resolve_left h0)]
theorem m30 {M : Nat} (hM : M ≤ 30) (q : ¬ nI M = (30 : Int32)) : M < 30 := by
  have : M ≠ 30 := fun e => q (by rw [e]; rfl)
  omega
theorem m30' {M : Nat} (hM : M ≤ 30) (q : nI M = (30 : Int32)) : M = 30 := (nI_eq (b := 30) (by omega) (by omega)).mp q
def LikeR (vK vZ vM vS : Nat → Int32) (a b : Nat) : Prop := vK a = 0 ∧ vK b = 0 ∧ vZ a = vZ b ∧ vM a = vM b ∧ vS a = vS b
theorem rjoin_x {M : Nat} {vIW vK vZ vM vC vR vL : Nat → Int32} (h : RI (nI M) vIW vK vZ vM vC vR vL) (hM : M ≤ 30) {a b A B : Nat} (ha : a < M) (hb : b < M) (hA : A ≤ 1000) (eA : vC a = nI A) (hB : B ≤ 1000) (eB : vC b = nI B) (vS : Nat → Int32) (vCt : Nat → Int64) (row : Nat → Int32) {ho : Int32} (h0 : ¬ ho < 0) (h1 : ho ≤ 1) : OK (mX9_join (nI M) vK vZ vM vS vCt vC row vR ho (nI a) (nI b)) (fun z => (¬ LikeR vK vZ vM vS a b ∧ z.1 = -2 ∧ z.2 = (nI M, vK, vZ, vM, vS, vCt, vC, row, vR)) ∨ (LikeR vK vZ vM vS a b ∧ (M = 30 ∨ (ho = 0 ∧ ¬ A + B ≤ 1000)) ∧ z.1 = -4 ∧ z.2 = (nI M, vK, vZ, vM, vS, vCt, vC, row, vR)) ∨ (LikeR vK vZ vM vS a b ∧ M < 30 ∧ ¬ (ho = 0 ∧ ¬ A + B ≤ 1000) ∧ z.1 = nI M ∧ z.2.1 = nI (M + 1) ∧ HdR M vK vZ vM vS 0 (vZ a) (vM a) (vS a) z.2.2.1 z.2.2.2.1 z.2.2.2.2.1 z.2.2.2.2.2.1 ∧ ∃ m, m ≤ 1000 ∧ z.2.2.2.2.2.2.2.1 = upd vC M (nI m) ∧ FrC M vC vCt z.2.2.2.2.2.2.2.1 z.2.2.2.2.2.2.1 ∧ (ho = 0 → m = A + B ∧ ∀ t, cB m (slC z.2.2.2.2.2.2.1 M) t = cB A (slC vCt a) t + cB B (slC vCt b) t) ∧ (¬ ho = 0 → m ≤ A ∧ ∀ t, cB m (slC z.2.2.2.2.2.2.1 M) t = min (cB A (slC vCt a) t) (cB B (slC vCt b) t)))) := by
  have hs : ∀ s, s < M → RS vK vZ vM vC vR vL s := by
    obtain ⟨⟨M', hM', eM', hs'⟩, -⟩ := h
    have : M = M' := (nI_eq (by omega) (by omega)).mp eM'
    exact fun s q => hs' s (by omega)
  have ia := ix_nI (k := a) (n := 30) (by omega)
  have ib := ix_nI (k := b) (n := 30) (by omega)
  unfold mX9_join
  refine OK_F h0 (OK_F (Int32.not_lt.mpr h1) (OK_be (is_y hM ha) (OK_F (by decide) (OK_be (is_y hM hb) (OK_F (by decide) ?_)))))
  rw [clN (k := a) (by omega), clN (k := b) (by omega)]
  refine OK_T ia (OK_ite (fun k1 => OK_T ib (OK_ite (fun k2 => OK_T ia (OK_T ib (OK_ite (fun k3 => OK_T ia (OK_T ib (OK_ite (fun k4 => OK_T ia (OK_T ib (OK_ite (fun k5 => ?_) (fun k5 => OK_some (Or.inl ⟨fun w => k5 w.2.2.2.2, rfl, rfl⟩))))) (fun k4 => OK_some (Or.inl ⟨fun w => k4 w.2.2.2.1, rfl, rfl⟩))))) (fun k3 => OK_some (Or.inl ⟨fun w => k3 w.2.2.1, rfl, rfl⟩))))) (fun k2 => OK_some (Or.inl ⟨fun w => k2 w.2.1, rfl, rfl⟩)))) (fun k1 => OK_some (Or.inl ⟨fun w => k1 w.1, rfl, rfl⟩)))
  have like : LikeR vK vZ vM vS a b := ⟨k1, k2, k3, k4, k5⟩
  obtain ⟨x, m0, hx3, hx12, hm, eZ, eMk⟩ := RS_01 (hs a ha) (by rw [k1]; decide) (by rw [k1]; decide)
  have hp := pow_up hx12
  refine OK_ite (fun q => OK_some (Or.inr (Or.inl ⟨like, Or.inl (m30' hM q), rfl, rfl⟩))) (fun q => ?_)
  have hM30 := m30 hM q
  refine OK_ite (fun g0 => OK_T ia (OK_T ib (OK_ite (fun hle => OK_T ia (OK_T ia (OK_T ia ?_))) (fun hle => OK_some (Or.inr (Or.inl ⟨like, Or.inr ⟨g0, fun w => hle ?_⟩, rfl, rfl⟩)))))) (fun g0 => OK_T ia (OK_T ia (OK_T ia ?_)))
  · rw [eA, eB, nI_add] at hle
    have hAB : A + B ≤ 1000 := (nI_leI (b := 1000) (by omega) (by decide)).mp hle
    subst g0
    refine OK_be (rbegin_v hM30 _ _ _ _ _ _ _ _ _ _ _) (OK_bind (join_row hM30 ha hb (by omega) 0 _ rfl (show upd vZ M (vZ a) a = nI (2 ^ x) by rw [pk_un (by omega)]; exact eZ) _) (fun _ _ => OK_bind (join_ax hM30 ha hb hA hB 0 _ rfl eA eB vCt) ?_))
    rintro z ⟨n, hn, e1, e2, e3, -⟩
    obtain ⟨en, e4⟩ := e3 rfl
    subst en
    rw [e1]
    refine OK_bind (join_bx hM30 hb hAB _ rfl eB z.2.1) ?_
    rintro y ⟨y1, y2, y3⟩
    refine OK_some (Or.inr (Or.inr ⟨like, hM30, fun w => w.2 hAB, rfl, rfl, HdR_u _ _ _ _ _ _ _ _ _, n + B, hAB, y1, fun q hq => ⟨by dsimp only; rw [y1]; exact upo hq, AG_t (y2 q hq).2 (e2 q hq).2⟩, fun _ => ⟨rfl, fun t => ?_⟩, fun w => absurd rfl w⟩))
    dsimp only
    rw [y3, e4]
    congr 1
    exact cB_ext (fun i hi => (e2 b (by omega)).2 i (by omega))
  · rw [eA, eB, nI_add]
    exact nI_le (b := 1000) w (by decide)
  · refine OK_be (rbegin_v hM30 _ _ _ _ _ _ _ _ _ _ _) (OK_bind (join_row hM30 ha hb (by omega) ho _ rfl (show upd vZ M (vZ a) a = nI (2 ^ x) by rw [pk_un (by omega)]; exact eZ) _) (fun _ _ => OK_bind (join_ax hM30 ha hb hA hB ho _ rfl eA eB vCt) ?_))
    rintro z ⟨n, hn, e1, e2, -, e3⟩
    rw [e1]
    refine OK_bind (join_b1 hM30 hb g0 _ z.2.1) ?_
    rintro y ⟨y1, y2⟩
    refine OK_some (Or.inr (Or.inr ⟨like, hM30, fun w => g0 w.1, rfl, rfl, HdR_u _ _ _ _ _ _ _ _ _, n, by omega, y1, fun q hq => ⟨by dsimp only; rw [y1]; exact upo hq, by dsimp only; rw [y2]; exact (e2 q hq).2⟩, fun w => absurd w g0, fun _ => ⟨hn, fun t => ?_⟩⟩))
    dsimp only
    rw [y2]
    exact e3 g0 t
/-! fold -/
theorem fold_cpx {M a A : Nat} (hM : M < 30) (ha : a < M) (hA : A ≤ 1000) (zz : Int32 × Int32 × (Nat → Int32) × (Nat → Int32) × (Nat → Int32) × (Nat → Int32) × (Nat → Int32) × (Nat → Int32) × (Nat → Int32)) (ez : zz.1 = nI M) (eC : zz.2.2.2.2.2.2.1 a = nI A) (ct : Nat → Int64) : OK (mX9_fold_L133 (nI a) zz FU 0 ct) (fun z => (∀ q, q ≠ M → AG 1000 (slC z.2 q) (slC ct q)) ∧ AG A (slC z.2 M) (slC ct a)) := by
  refine OK_for (fun fu k (y : Nat → Int64) => mX9_fold_L133 (nI a) zz fu k y) A (by omega) (fun k y => (∀ q, q ≠ M → AG 1000 (slC y q) (slC ct q)) ∧ AG k (slC y M) (slC ct a)) _ (s := ct) ⟨fun _ _ => AG_r _ _, fun i hi => absurd hi (Nat.not_lt_zero i)⟩ ?_ ?_
  · intro fu y hy
    show OK (mX9_fold_L133 (nI a) zz (fu + 1) (nI A) y) _
    rw [mX9_fold_L133, clN (k := a) (by omega), eC]
    exact OK_T (ix_nI (by omega)) (OK_T (Int32.le_refl _) (OK_some hy))
  · rintro fu k y hk ⟨h1, h2⟩ ih
    show OK (mX9_fold_L133 (nI a) zz (fu + 1) (nI k) y) _
    have ek : y (1000 * a + k) = slC ct a k := h1 a (by omega) k (by omega)
    rw [mX9_fold_L133, clN (k := a) (by omega), eC, ez, m1000, m1000, nI_s, clN (k := 1000 * a + k) (by omega), clN (k := 1000 * M + k) (by omega), ek]
    refine OK_T (ix_nI (by omega)) (OK_F (nI_ge hk (by omega)) (OK_T (ix_nI (by omega)) (OK_T (ix_nI (by omega)) (ih _ ⟨fun q hq => AG_t (slC_o hq (by omega)) (h1 q hq), fun i hi => ?_⟩))))
    rcases Nat.lt_succ_iff_lt_or_eq.mp hi with w | w
    · exact (slC_s i w).trans (h2 i w)
    · subst w
      exact slC_at
theorem rfold_x {M : Nat} {vIW vK vZ vM vC vR vL : Nat → Int32} (h : RI (nI M) vIW vK vZ vM vC vR vL) (hM : M ≤ 30) {a A : Nat} (ha : a < M) (hA : A ≤ 1000) (eA : vC a = nI A) (vS : Nat → Int32) (vCt : Nat → Int64) (row : Nat → Int32) : OK (mX9_fold (nI M) vK vZ vM vS vCt vC row vR (nI a)) (fun z => (¬ (vK a = 0 ∧ 8 < vZ a) ∧ z.1 = -2 ∧ z.2 = (nI M, vK, vZ, vM, vS, vCt, vC, row, vR)) ∨ ((vK a = 0 ∧ 8 < vZ a) ∧ M = 30 ∧ z.1 = -4 ∧ z.2 = (nI M, vK, vZ, vM, vS, vCt, vC, row, vR)) ∨ ((vK a = 0 ∧ 8 < vZ a) ∧ M < 30 ∧ z.1 = nI M ∧ z.2.1 = nI (M + 1) ∧ HdR M vK vZ vM vS 0 (vZ a / 2) (vM a) (vS a) z.2.2.1 z.2.2.2.1 z.2.2.2.2.1 z.2.2.2.2.2.1 ∧ z.2.2.2.2.2.2.2.1 = upd vC M (nI A) ∧ FrC M vC vCt z.2.2.2.2.2.2.2.1 z.2.2.2.2.2.2.1 ∧ AG A (slC z.2.2.2.2.2.2.1 M) (slC vCt a))) := by
  have hs : ∀ s, s < M → RS vK vZ vM vC vR vL s := by
    obtain ⟨⟨M', hM', eM', hs'⟩, -⟩ := h
    have : M = M' := (nI_eq (by omega) (by omega)).mp eM'
    exact fun s q => hs' s (by omega)
  unfold mX9_fold
  refine OK_be (is_y hM ha) (OK_F (by decide) ?_)
  have ia := ix_nI (k := a) (n := 30) (by omega)
  rw [clN (k := a) (by omega)]
  refine OK_T ia (OK_ite (fun hk => ?_) (fun hk => OK_some (Or.inl ⟨fun w => hk w.1, rfl, rfl⟩)))
  obtain ⟨x, m, hx3, hx12, hm, eZ, eMk⟩ := RS_01 (hs a ha) (by rw [hk]; decide) (by rw [hk]; decide)
  have hp := pow_up hx12
  have h8x : x = 3 ∨ 8 < vZ a := by
    by_cases e : x = 3
    · exact Or.inl e
    · refine Or.inr ?_
      rw [eZ]
      have := pow_up (a := 4) (b := x) (by omega)
      exact nI_lt (a := 8) (by omega) (by omega)
  refine OK_T ia (OK_ite (fun h8 => OK_some (Or.inl ⟨fun w => absurd w.2 (by rw [h8]; decide), rfl, rfl⟩)) (fun h8 => ?_))
  have hx4 : 4 ≤ x := by
    have : x ≠ 3 := fun q3 => h8 (by rw [eZ, q3]; rfl)
    omega
  have big : vK a = 0 ∧ 8 < vZ a := ⟨hk, h8x.resolve_left (by omega)⟩
  refine OK_ite (fun q => OK_some (Or.inr (Or.inl ⟨big, m30' hM q, rfl, rfl⟩))) (fun q => OK_T ia (OK_lt (OK_T ia (OK_T ia ?_))))
  have hM30 := m30 hM q
  have e2 : vZ a / (2 : Int32) = nI (2 ^ (x - 1)) := by
    rw [eZ, show nI (2 ^ x) / (2 : Int32) = nI (2 ^ x / 2) from q_d (by omega) (by decide) (by decide)]
    congr 1
    obtain ⟨y, rfl⟩ : ∃ y, x = y + 1 := ⟨x - 1, by omega⟩
    rw [Nat.pow_succ]
    simp
  have hp1 := pow_up (a := x - 1) (b := 11) (by omega)
  rw [e2]
  refine OK_be (rbegin_v hM30 _ _ _ _ _ _ _ _ _ _ _) (OK_bind (P := fun _ => True) ?_ (fun o76 _ => OK_bind (fold_cpx hM30 ha hA _ rfl (show upd vC M 0 a = nI A by rw [pk_un (by omega)]; exact eA) vCt) (fun o133 ho => ?_)))
  · refine OK_for (fun fu k (y : Nat → Int32) => mX9_fold_L76 (nI a) (nI (2 ^ (x - 1))) _ fu k y) (2 ^ (x - 1)) (by omega) (fun _ _ => True) _ trivial ?_ ?_
    · intro fu y _
      show OK (mX9_fold_L76 (nI a) (nI (2 ^ (x - 1))) _ (fu + 1) (nI (2 ^ (x - 1))) y) _
      rw [mX9_fold_L76]
      exact OK_T (Int32.le_refl _) (OK_some trivial)
    · intro fu k y hk _ ih
      show OK (mX9_fold_L76 (nI a) (nI (2 ^ (x - 1))) _ (fu + 1) (nI k) y) _
      rw [mX9_fold_L76, nI_s]
      dsimp only
      rw [m4096, m4096, m4096, nI_add]
      exact OK_F (nI_ge hk (by omega)) (OK_T (ix_nI (by omega)) (OK_T (ix_nI (by omega)) (OK_T (ix_nI (by omega)) (ih _ trivial))))
  · dsimp only
    rw [clN (k := M) (by omega), upd_upd, pk_un (show a ≠ M by omega), eA]
    exact OK_T ia (OK_T (ix_nI hM30) (OK_some (Or.inr (Or.inr ⟨big, hM30, rfl, rfl, HdR_u _ _ _ _ _ _ _ _ _, rfl, fun q hq => ⟨upo hq, ho.1 q hq⟩, ho.2⟩))))
/-! make -/
theorem pw_eq (a l h : Int32) : mX8_isPowerOfTwo a l h = mX9_isWide a l h := by
  unfold mX8_isPowerOfTwo mX9_isWide
  rfl
theorem rmake_x {M : Nat} (hM : M ≤ 30) (vK vZ vM vS vC vRow vR : Nat → Int32) (k0 k1 k2 k3 : Int32) : OK (mX9_make (nI M) vK vZ vM vS vC vRow vR k0 k1 k2 k3) (fun z => (mX8_isMakeable k0 k1 k2 = some 0 ∧ z = (-1, nI M, vK, vZ, vM, vS, vC, vRow, vR)) ∨ (¬ mX8_isMakeable k0 k1 k2 = some 0 ∧ M = 30 ∧ z = (-4, nI M, vK, vZ, vM, vS, vC, vRow, vR)) ∨ (¬ mX8_isMakeable k0 k1 k2 = some 0 ∧ M < 30 ∧ z = (nI M, nI (M + 1), upd vK M k0, upd vZ M k1, upd vM M (if k0 = 2 then 0 else k2), upd vS M k3, upd vC M 0, clrR M vRow, upd vR M 0))) := by
  unfold mX9_make
  refine OK_ite (fun q => OK_some (Or.inl ⟨?_, rfl⟩)) (fun h0 => OK_ite (fun h2 => OK_ite (fun hk => ?_) (fun hk => ?_)) (fun q => OK_some (Or.inl ⟨?_, rfl⟩)))
  · unfold mX8_isMakeable
    rw [if_neg (fun e => absurd (e ▸ q) (by decide)), if_neg (fun e => absurd (e ▸ q) (by decide)), if_neg (fun e => absurd (e ▸ q) (by decide))]
  · subst hk
    have em : mX8_isMakeable 2 k1 k2 = (mX9_isWide k1 1 256).bind fun z10 => if z10 = 0 ∨ z10 = 1 then (some z10) else none := by
      unfold mX8_isMakeable
      rw [if_pos rfl, pw_eq]
    obtain ⟨z, ez, hz⟩ := wide_v (k1 := k1) (l := 1) (h := 256) (by decide) (by decide) (by decide)
    rw [show mX9_isWide k1 1 256 = some z from ez, sb_] at em
    refine OK_be ez ?_
    rcases hz with rfl | ⟨rfl, -⟩
    · rw [if_pos (Or.inl rfl)] at em
      exact OK_T rfl (OK_some (Or.inl ⟨em, rfl⟩))
    · rw [if_pos (Or.inr rfl)] at em
      have ne : ¬ mX8_isMakeable 2 k1 k2 = some 0 := by rw [em]; decide
      refine OK_F (by decide) (OK_ite (fun q => OK_some (Or.inr (Or.inl ⟨ne, m30' hM q, rfl⟩))) (fun q => OK_T rfl (OK_be (rbegin_v (m30 hM q) _ _ _ _ _ _ _ _ _ _ _) (OK_some (Or.inr (Or.inr ⟨ne, m30 hM q, ?_⟩))))))
      rw [if_pos rfl]
  · have h01 : k0 = 0 ∨ k0 = 1 := by
      obtain ⟨j, hj, rfl⟩ := nI_of2 (M := nI 2) (n := 2) (nI_toInt (by omega)) h0 h2
      have : j ≠ 2 := fun e => hk (by rw [e]; rfl)
      rcases (show j = 0 ∨ j = 1 by omega) with rfl | rfl
      · exact Or.inl rfl
      · exact Or.inr rfl
    have em : mX8_isMakeable k0 k1 k2 = (mX9_isWide k1 8 4096).bind fun z31 => if z31 = 0 then (some (0 : Int32)) else (if k2 < (1 : Int32) then (some (0 : Int32)) else (if (8 : Int32) < k2 then (some (0 : Int32)) else (some (1 : Int32)))) := by
      unfold mX8_isMakeable
      rw [if_neg hk, pw_eq]
      rcases h01 with e | e
      · rw [if_pos e]
      · rw [if_neg (by rw [e]; decide), if_pos e]
    obtain ⟨z, ez, hz⟩ := wide_v (k1 := k1) (l := 8) (h := 4096) (by decide) (by decide) (by decide)
    rw [show mX9_isWide k1 8 4096 = some z from ez, sb_] at em
    refine OK_be ez ?_
    rcases hz with rfl | ⟨rfl, -⟩
    · rw [if_pos rfl] at em
      exact OK_T rfl (OK_some (Or.inl ⟨em, rfl⟩))
    · rw [if_neg (by decide)] at em
      refine OK_F (by decide) (OK_ite (fun q => OK_some (Or.inl ⟨by rw [em, if_pos q], rfl⟩)) (fun q1 => ?_))
      rw [if_neg q1] at em
      refine OK_ite (fun q8 => ?_) (fun q8 => OK_some (Or.inl ⟨by rw [em, if_pos (Int32.not_le.mp q8)], rfl⟩))
      rw [if_neg (Int32.not_lt.mpr q8)] at em
      have ne : ¬ mX8_isMakeable k0 k1 k2 = some 0 := by rw [em]; decide
      refine OK_ite (fun q => OK_some (Or.inr (Or.inl ⟨ne, m30' hM q, rfl⟩))) (fun q => OK_F hk (OK_be (rbegin_v (m30 hM q) _ _ _ _ _ _ _ _ _ _ _) (OK_some (Or.inr (Or.inr ⟨ne, m30 hM q, ?_⟩)))))
      rw [if_neg hk]
  · unfold mX8_isMakeable
    rw [if_neg (fun e => q (by rw [e]; decide)), if_neg (fun e => q (by rw [e]; decide)), if_neg (fun e => q (by rw [e]; decide))]
/-! solve -/
theorem fillFrom_x {M w N : Nat} (hM : M < 30) (hw : w < 8) (hN : N ≤ 1000) {vIW : Nat → Int32} (eW : vIW w = nI N) (vW vCt : Nat → Int64) (vC : Nat → Int32) : OK (mX9_fillFrom vW vIW vCt vC (nI M) (nI w)) (fun z => z.2 = upd vC M (nI N) ∧ (∀ q, q ≠ M → AG 1000 (slC z.1 q) (slC vCt q)) ∧ AG N (slC z.1 M) (wOf vW w)) := by
  unfold mX9_fillFrom
  rw [clN (k := M) (by omega), clN (k := w) (by omega), eW]
  refine OK_T (ix_nI hw) (OK_T (ix_nI hM) (OK_bind (P := fun z => (∀ q, q ≠ M → AG 1000 (slC z.2 q) (slC vCt q)) ∧ AG N (slC z.2 M) (wOf vW w)) ?_ (fun z hz => OK_some ⟨rfl, hz⟩)))
  refine OK_for (fun fu k (y : Nat → Int64) => mX9_fillFrom_L14 vW vIW (nI M) (nI w) fu k y) N (by omega) (fun k y => (∀ q, q ≠ M → AG 1000 (slC y q) (slC vCt q)) ∧ AG k (slC y M) (wOf vW w)) _ (s := vCt) ⟨fun _ _ => AG_r _ _, fun i hi => absurd hi (Nat.not_lt_zero i)⟩ ?_ ?_
  · intro fu y hy
    show OK (mX9_fillFrom_L14 vW vIW (nI M) (nI w) (fu + 1) (nI N) y) _
    rw [mX9_fillFrom_L14, clN (k := w) (by omega), eW]
    exact OK_T (ix_nI hw) (OK_T (Int32.le_refl _) (OK_some hy))
  · rintro fu k y hk ⟨h1, h2⟩ ih
    show OK (mX9_fillFrom_L14 vW vIW (nI M) (nI w) (fu + 1) (nI k) y) _
    rw [mX9_fillFrom_L14, clN (k := w) (by omega), eW, m1000, m1000, nI_s, clN (k := 1000 * w + k) (by omega), clN (k := 1000 * M + k) (by omega)]
    refine OK_T (ix_nI hw) (OK_F (nI_ge hk (by omega)) (OK_T (ix_nI (by omega)) (OK_T (ix_nI (by omega)) (ih _ ⟨fun q hq => AG_t (slC_o hq (by omega)) (h1 q hq), fun i hi => ?_⟩))))
    rcases Nat.lt_succ_iff_lt_or_eq.mp hi with q | q
    · exact (slC_s i q).trans (h2 i q)
    · subst q
      exact slC_at
theorem rsolve_x {M : Nat} (hM : M ≤ 30) {w N : Nat} (hw : w < 8) (hN : N ≤ 1000) {vIW : Nat → Int32} (eW : vIW w = nI N) (vW : Nat → Int64) (vK vZ vM vS : Nat → Int32) (vCt : Nat → Int64) (vC vRow vR od oa io al : Nat → Int32) (sd : Int32) : OK (mX9_solve (nI M) vW vIW vK vZ vM vS vCt vC vRow vR od oa io al (nI w) sd) (fun z => (NoV N (wOf vW w) sd ∧ z.1 = -3 ∧ z.2.1 = nI M ∧ z.2.2.1 = vK ∧ z.2.2.2.1 = vZ ∧ z.2.2.2.2.1 = vM ∧ z.2.2.2.2.2.1 = vS ∧ z.2.2.2.2.2.2.1 = vCt ∧ z.2.2.2.2.2.2.2.1 = vC) ∨ ((∃ τ, TrV N (wOf vW w) sd τ) ∧ M = 30 ∧ z.1 = -4 ∧ z.2.1 = nI M ∧ z.2.2.1 = vK ∧ z.2.2.2.1 = vZ ∧ z.2.2.2.2.1 = vM ∧ z.2.2.2.2.2.1 = vS ∧ z.2.2.2.2.2.2.1 = vCt ∧ z.2.2.2.2.2.2.2.1 = vC) ∨ (M < 30 ∧ z.1 = nI M ∧ z.2.1 = nI (M + 1) ∧ ∃ τ, TrV N (wOf vW w) sd τ ∧ HdR M vK vZ vM vS 3 (nI (cOf N)) 0 (sd + nI τ) z.2.2.1 z.2.2.2.1 z.2.2.2.2.1 z.2.2.2.2.2.1 ∧ z.2.2.2.2.2.2.2.1 = upd vC M (nI N) ∧ FrC M vC vCt z.2.2.2.2.2.2.2.1 z.2.2.2.2.2.2.1)) := by
  unfold mX9_solve
  obtain ⟨hc8, hc⟩ := cOf_b hN
  refine OK_be (isW1 hw) (OK_F (by decide) (OK_T (ix_nI hw) (OK_lt ?_)))
  rw [clN (k := w) (by omega), eW, cOf_I hN]
  refine OK_bind (rTries_v hw hN eW vW od oa io al sd) ?_
  rintro o (⟨e1, hno⟩ | ⟨τ, hτ, e1, hno, T, P, r1, r2⟩)
  · exact OK_F (by rw [e1]; decide) (OK_some (Or.inl ⟨hno, rfl, rfl, rfl, rfl, rfl, rfl, rfl, rfl⟩))
  · have hT : TrV N (wOf vW w) sd τ := ⟨hτ, hno, T, P, r1⟩
    refine OK_T (by rw [e1]; exact nI_pos' (by omega)) (OK_ite (fun q => OK_some (Or.inr (Or.inl ⟨⟨τ, hT⟩, m30' hM q, rfl, rfl, rfl, rfl, rfl, rfl, rfl, rfl⟩))) (fun q => OK_be (rbegin_v (m30 hM q) _ _ _ _ _ _ _ _ _ _ _) (OK_lt (OK_bind (P := fun _ => True) ?_ (fun y _ => OK_bind (fillFrom_x (m30 hM q) hw hN eW vW vCt _) (fun x hx => OK_some (Or.inr (Or.inr ⟨m30 hM q, rfl, rfl, τ, hT, ?_, ?_, ?_⟩))))))))
    · rw [show nI N - (1 : Int32) = nI N + (-1) by rw [Int32.sub_eq_add_neg]]
      exact rfill_loop hw hN (by omega) hc (m30 hM q) vW sd o (T := T) (P := P) (fun j hj => ⟨(r1 j hj).1, (r1 j hj).2.2.1, (r2 j hj).1, (r2 j hj).2⟩) _ rfl N FU _ (Nat.le_refl _) (by show N < 5000; omega)
    · dsimp only
      rw [e1]
      exact HdR_u _ _ _ _ _ _ _ _ _
    · dsimp only
      rw [hx.1, upd_upd]
    · dsimp only
      rw [hx.1, upd_upd]
      exact fun q hq => ⟨upo hq, hx.2.1 q hq⟩
/-! layered -/
theorem rlayered_x {M : Nat} (hM : M ≤ 30) {w u N U : Nat} (hw : w < 8) (hu : u < 8) (hN : N ≤ 1000) (hU : U ≤ 1000) {vIW : Nat → Int32} (eW : vIW w = nI N) (eU : vIW u = nI U) (vW : Nat → Int64) (vK vZ vM vS : Nat → Int32) (vCt : Nat → Int64) (vC vRow vB vL vLC : Nat → Int32) (vRe : Nat → Int64) (vR : Nat → Int32) (vCo vRi vGo : Nat → Int64) (sd : Int32) : OK (mX9_layered (nI M) vW vIW vK vZ vM vS vCt vC vRow vB vL vLC vRe vR vCo vRi vGo (nI w) (nI u) sd) (fun z => (M = 30 ∧ z.1 = -4 ∧ z.2.1 = nI M ∧ z.2.2.1 = vK ∧ z.2.2.2.1 = vZ ∧ z.2.2.2.2.1 = vM ∧ z.2.2.2.2.2.1 = vS ∧ z.2.2.2.2.2.2.1 = vCt ∧ z.2.2.2.2.2.2.2.1 = vC) ∨ (M < 30 ∧ z.1 = nI M ∧ z.2.1 = nI (M + 1) ∧ (∃ k1, HdR M vK vZ vM vS 4 k1 3 sd z.2.2.1 z.2.2.2.1 z.2.2.2.2.1 z.2.2.2.2.2.1) ∧ z.2.2.2.2.2.2.2.1 = upd vC M (nI N) ∧ FrC M vC vCt z.2.2.2.2.2.2.2.1 z.2.2.2.2.2.2.1)) := by
  unfold mX9_layered
  refine OK_be (isW1 hw) (OK_F (by decide) (OK_be (isW1 hu) (OK_F (by decide) (OK_ite (fun q => OK_some (Or.inl ⟨m30' hM q, rfl, rfl, rfl, rfl, rfl, rfl, rfl, rfl⟩)) (fun q => OK_be (rbegin_v (m30 hM q) _ _ _ _ _ _ _ _ _ _ _) (OK_bind (fillFrom_x (m30 hM q) hw hN eW vW vCt _) (fun x hx => OK_T (ix_nI hw) (OK_bind (P := fun _ => True) ?_ (fun o59 _ => OK_bind (P := fun z => ∃ A, A ≤ 1000 ∧ z.2.1 = nI A) ?_ ?_)))))))))
  · refine OK_for (fun fu k (c : Nat → Int64) => mX9_layered_L59 vW vIW (nI w) fu k c) N (by omega) (fun _ _ => True) _ trivial ?_ ?_
    · intro fu c _
      show OK (mX9_layered_L59 vW vIW (nI w) (fu + 1) (nI N) c) _
      rw [mX9_layered_L59, clN (k := w) (by omega), eW]
      exact OK_T (Int32.le_refl _) (OK_some trivial)
    · intro fu k c hk _ ih
      show OK (mX9_layered_L59 vW vIW (nI w) (fu + 1) (nI k) c) _
      rw [mX9_layered_L59, clN (k := w) (by omega), eW, m1000, nI_s]
      exact OK_F (nI_ge hk (by omega)) (OK_T (ix_nI (by omega)) (OK_T (ix_nI (by omega)) (ih _ trivial)))
  · refine OK_for (fun fu k (c : Int32 × (Nat → Int64)) => mX9_layered_L95 vW vIW (nI w) (nI u) fu k c.1 c.2) U (by omega) (fun k c => ∃ A, A ≤ k ∧ c.1 = nI A) _ (s := (0, vRi)) ⟨0, by omega, rfl⟩ ?_ ?_
    · rintro fu c ⟨A, hA, eA⟩
      show OK (mX9_layered_L95 vW vIW (nI w) (nI u) (fu + 1) (nI U) c.1 c.2) _
      rw [mX9_layered_L95, clN (k := u) (by omega), eU]
      exact OK_T (ix_nI hu) (OK_T (Int32.le_refl _) (OK_some ⟨A, by omega, eA⟩))
    · rintro fu k ⟨c1, c2⟩ hk ⟨A, hA, eA⟩ ih
      show OK (mX9_layered_L95 vW vIW (nI w) (nI u) (fu + 1) (nI k) c1 c2) _
      dsimp only at eA
      subst eA
      rw [mX9_layered_L95, clN (k := u) (by omega), eU, m1000, nI_s, show nI A + (1 : Int32) = nI (A + 1) from nI_1 A]
      exact OK_T (ix_nI hu) (OK_F (nI_ge hk (by omega)) (OK_T (ix_nI (by omega)) (OK_bind (place_ok hw ⟨N, hN, eW⟩ _ _) (fun _ _ => OK_ite (fun _ => ih (nI A, c2) ⟨A, by omega, rfl⟩) (fun _ => OK_T (ix_nI (by omega)) (OK_T (ix_nI (by omega)) (ih (nI (A + 1), _) ⟨A + 1, by omega, rfl⟩)))))))
  · rintro o ⟨A, hA, eA⟩
    rw [eA, clN (k := w) (by omega), eW]
    refine OK_bind (layered_loop (m30 hM q) _ rfl (upd vZ M 0) vL (upd vR M 0) 20 0 FU (by decide) (by decide) A N _ _ _ _ _ _ _ _ _ hA hN ⟨pk_us, fun j hj => absurd hj (by omega), by dsimp only; rw [pk_us]; exact BN_0, fun q _ => ⟨rfl, rfl⟩, fun _ _ => rfl⟩) ?_
    rintro z ⟨i, hi, h1, h2, h3, h4, h5⟩
    refine OK_some (Or.inr ⟨m30 hM q, rfl, rfl, ⟨_, rfl, rfl, rfl, rfl, fun s es => ((h4 s es).1).trans (pk_un es)⟩, ?_, ?_⟩)
    · dsimp only
      rw [hx.1, upd_upd]
    · dsimp only
      rw [hx.1, upd_upd]
      exact fun q hq => ⟨upo hq, hx.2.1 q hq⟩
