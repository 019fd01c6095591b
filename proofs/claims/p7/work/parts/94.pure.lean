theorem upd_id (f : Nat → Int32) (k : Nat) : upd f k (f k) = f := by
  funext j
  unfold upd
  by_cases h : j = k
  · rw [if_pos h, h]
  · rw [if_neg h]
theorem RS_C {vK vZ vM vC vR vL : Nat → Int32} {s q : Nat} {c : Int32} (hc : BN c) (h : RS vK vZ vM vC vR vL q) : RS vK vZ vM (upd vC s c) vR vL q := by
  obtain ⟨K, Z, m, a1, a2, a3, a4, a5, a6, a7⟩ := h
  refine ⟨K, Z, m, a1, a2, a3, a4, ?_, a6, a7⟩
  by_cases e : q = s
  · subst e; rw [pk_us]; exact hc
  · rw [pk_un e]; exact a5
theorem RI_C {many : Int32} {vIW vK vZ vM vC vR vL : Nat → Int32} (h : RI many vIW vK vZ vM vC vR vL) {s : Nat} {c : Int32} (hc : BN c) : RI many vIW vK vZ vM (upd vC s c) vR vL := by
  obtain ⟨⟨M, hM, e, hs⟩, hw⟩ := h
  exact ⟨⟨M, hM, e, fun q hq => RS_C hc (hs q hq)⟩, hw⟩
theorem four (Z : Nat) : (4 : Int32) * nI Z = nI (4 * Z) := pk_mul 4 Z
theorem kept_ok {s Z : Nat} (hs : s < 30) (hZ : Z ≤ 256) {vZ : Nat → Int32} (eZ : vZ s = nI Z) (row k0 : Nat → Int32) : OK (mX9_doPut_L35 vZ row (nI s) FU 0 k0) (fun _ => True) := by
  refine OK_for (fun fu k (x : Nat → Int32) => mX9_doPut_L35 vZ row (nI s) fu k x) (4 * Z) (by omega) (fun _ _ => True) _ trivial ?_ ?_
  · intro fu x _
    show OK (mX9_doPut_L35 vZ row (nI s) (fu + 1) (nI (4 * Z)) x) _
    rw [mX9_doPut_L35, clN (k := s) (by omega), eZ, four]
    exact OK_T (ix_nI hs) (OK_T (Int32.le_refl _) (OK_some trivial))
  · intro fu k x hk _ ih
    show OK (mX9_doPut_L35 vZ row (nI s) (fu + 1) (nI k) x) _
    rw [mX9_doPut_L35, clN (k := s) (by omega), eZ, four, m4096, nI_s]
    exact OK_T (ix_nI hs) (OK_F (nI_ge hk (by omega)) (OK_T (ix_nI (by omega)) (OK_T (ix_nI (by omega)) (ih _ trivial))))
theorem back_ok {s Z : Nat} (hs : s < 30) (hZ : Z ≤ 256) {vZ : Nat → Int32} (eZ : vZ s = nI Z) (o : Int32 × (Nat → Int32)) (row : Nat → Int32) : OK (mX9_doPut_L83 vZ (nI s) o FU 0 row) (fun _ => True) := by
  refine OK_for (fun fu k (x : Nat → Int32) => mX9_doPut_L83 vZ (nI s) o fu k x) (4 * Z) (by omega) (fun _ _ => True) _ trivial ?_ ?_
  · intro fu x _
    show OK (mX9_doPut_L83 vZ (nI s) o (fu + 1) (nI (4 * Z)) x) _
    rw [mX9_doPut_L83, clN (k := s) (by omega), eZ, four]
    exact OK_T (ix_nI hs) (OK_T (Int32.le_refl _) (OK_some trivial))
  · intro fu k x hk _ ih
    show OK (mX9_doPut_L83 vZ (nI s) o (fu + 1) (nI k) x) _
    rw [mX9_doPut_L83, clN (k := s) (by omega), eZ, four, m4096, nI_s]
    exact OK_T (ix_nI hs) (OK_F (nI_ge hk (by omega)) (OK_T (ix_nI (by omega)) (OK_T (ix_nI (by omega)) (ih _ trivial))))
theorem raiseR_ok {s a m : Nat} (hs : s < 30) (ha : a ≤ 12) (hm : m ≤ 8) {vZ vM : Nat → Int32} (eZ : vZ s = nI (2 ^ a)) (eM : vM s = nI m) (mx : Int64) (row : Nat → Int32) : OK (mX9_doPut_L154 vZ vM (nI s) mx FU 0 row) (fun _ => True) ∧ OK (mX9_doPut_L154_1 vZ vM (nI s) mx FU 0 row) (fun _ => True) := by
  have hp : 0 < 2 ^ a := Nat.two_pow_pos a
  have hp2 := pow_up ha
  constructor
  · refine OK_for (fun fu k (x : Nat → Int32) => mX9_doPut_L154 vZ vM (nI s) mx fu k x) m (by omega) (fun _ _ => True) _ trivial ?_ ?_
    · intro fu x _
      show OK (mX9_doPut_L154 vZ vM (nI s) mx (fu + 1) (nI m) x) _
      rw [mX9_doPut_L154, clN (k := s) (by omega), eM]
      exact OK_T (ix_nI hs) (OK_T (Int32.le_refl _) (OK_some trivial))
    · intro fu k x hk _ ih
      show OK (mX9_doPut_L154 vZ vM (nI s) mx (fu + 1) (nI k) x) _
      rw [mX9_doPut_L154, clN (k := s) (by omega), eM, eZ, nI_s]
      have hq : mkN (nM mx) k % 2 ^ a < 2 ^ a := Nat.mod_lt _ hp
      refine OK_T (ix_nI hs) (OK_F (nI_ge hk (by omega)) (OK_T (ix_nI hs) (OK_be (mp_r mx (by omega) hp (by omega)) ?_)))
      generalize mkN (nM mx) k % 2 ^ a = q at hq
      rw [m4096]
      have hi : ix (nI (4096 * s + q)) 122880 = true := ix_nI (by omega)
      exact OK_T hi (OK_ite (fun _ => OK_T hi (ih _ trivial)) (fun _ => OK_T hi (OK_T hi (ih _ trivial))))
  · refine OK_for (fun fu k (x : Nat → Int32) => mX9_doPut_L154_1 vZ vM (nI s) mx fu k x) m (by omega) (fun _ _ => True) _ trivial ?_ ?_
    · intro fu x _
      show OK (mX9_doPut_L154_1 vZ vM (nI s) mx (fu + 1) (nI m) x) _
      rw [mX9_doPut_L154_1, clN (k := s) (by omega), eM]
      exact OK_T (ix_nI hs) (OK_T (Int32.le_refl _) (OK_some trivial))
    · intro fu k x hk _ ih
      show OK (mX9_doPut_L154_1 vZ vM (nI s) mx (fu + 1) (nI k) x) _
      rw [mX9_doPut_L154_1, clN (k := s) (by omega), eM, eZ, nI_s]
      have hq : mkN (nM mx) k % 2 ^ a < 2 ^ a := Nat.mod_lt _ hp
      refine OK_T (ix_nI hs) (OK_F (nI_ge hk (by omega)) (OK_T (ix_nI hs) (OK_be (mp_r mx (by omega) hp (by omega)) ?_)))
      generalize mkN (nM mx) k % 2 ^ a = q at hq
      rw [m4096]
      have hi : ix (nI (4096 * s + q)) 122880 = true := ix_nI (by omega)
      exact OK_T hi (OK_ite (fun _ => OK_T hi (ih _ trivial)) (fun _ => OK_T hi (OK_T hi (ih _ trivial))))
theorem RS_2 {vK vZ vM vC vR vL : Nat → Int32} {s : Nat} (h : RS vK vZ vM vC vR vL s) (h2 : vK s = 2) : ∃ a, a ≤ 8 ∧ vZ s = nI (2 ^ a) := by
  obtain ⟨K, Z, m, a1, a2, a3, a4, -⟩ := h
  have hb := RKp_b a4
  have hK : K = 2 := (k_eq (k := 2) hb.1 (by decide)).mp (a1.symm.trans h2)
  rcases a4 with ⟨h1, _⟩ | ⟨h1, ⟨a, ha, rfl⟩, _⟩ | ⟨h1, _⟩ | ⟨h1, _⟩
  · omega
  · exact ⟨a, ha, a2⟩
  · omega
  · omega
theorem RS_01 {vK vZ vM vC vR vL : Nat → Int32} {s : Nat} (h : RS vK vZ vM vC vR vL s) (h2 : ¬ vK s = 2) (h3 : vK s ≤ 2) : ∃ a m, 3 ≤ a ∧ a ≤ 12 ∧ m ≤ 8 ∧ vZ s = nI (2 ^ a) ∧ vM s = nI m := by
  obtain ⟨K, Z, m, a1, a2, a3, a4, -⟩ := h
  have hb := RKp_b a4
  rw [a1] at h2 h3
  have hK : K ≤ 2 := (nI_leI (b := 2) (by omega) (by decide)).mp h3
  rcases a4 with ⟨h1, ⟨a, ha, ha2, rfl⟩, hm⟩ | ⟨h1, _⟩ | ⟨h1, _⟩ | ⟨h1, _⟩
  · exact ⟨a, m, ha, ha2, hm, a2, a3⟩
  · exact absurd (by rw [h1]; rfl) h2
  · omega
  · omega
theorem RS_cm {vK vZ vM vC vR vL : Nat → Int32} {s : Nat} (h : RS vK vZ vM vC vR vL s) : BN (vC s) := by
  obtain ⟨K, Z, m, a1, a2, a3, a4, a5, -⟩ := h
  exact a5
theorem doPut_ok {vK vZ vM vC vR vL : Nat → Int32} {s : Nat} (hs : s < 30) (h : RS vK vZ vM vC vR vL s) (h2 : vK s ≤ 2) (vS : Nat → Int32) (vCt : Nat → Int64) (row kept : Nat → Int32) (t : Int64) : OK (mX9_doPut vK vZ vM vS vCt vC row kept (nI s) t) (fun z => ∃ c, BN c ∧ z.2.2.1 = upd vC s c) := by
  obtain ⟨n, hn, en⟩ := RS_cm h
  have same : ∃ c, BN c ∧ vC = upd vC s c := ⟨vC s, RS_cm h, (upd_id vC s).symm⟩
  have i30 := ix_nI (k := s) (n := 30) hs
  unfold mX9_doPut
  rw [clN (k := s) (by omega)]
  refine OK_T i30 (OK_ite (fun _ => OK_some same) (fun hf => OK_T i30 ?_))
  have hn1 : n < 1000 := by
    have : n ≠ 1000 := fun q => hf (by rw [en, q]; rfl)
    omega
  have more : ∃ c, BN c ∧ upd vC s (vC s + 1) = upd vC s c := ⟨nI (n + 1), ⟨n + 1, by omega, rfl⟩, by rw [en, nI_1]⟩
  have i3 : ix (nI s * (1000 : Int32) + vC s) 30000 = true := by rw [en, m1000]; exact ix_nI (by omega)
  refine OK_ite (fun hk => ?_) (fun hk => ?_)
  · obtain ⟨a, ha, eZ⟩ := RS_2 h hk
    have := pow_up ha
    exact OK_bind (kept_ok hs (by omega) eZ _ _) (fun o _ => OK_bind (putTag_ok hs ha eZ _ _ _) (fun z _ => OK_ite (fun _ => OK_bind (back_ok hs (by omega) eZ _ _) (fun _ _ => OK_some same)) (fun _ => OK_T i30 (OK_T i3 (OK_T i30 (OK_T i30 (OK_T i30 (OK_some more))))))))
  · obtain ⟨a, m, ha, ha2, hm, eZ, eM⟩ := RS_01 h hk h2
    refine OK_T i30 (OK_be (mix_r _ _) (OK_T i30 (OK_ite (fun _ => OK_bind (raiseR_ok hs ha2 hm eZ eM _ _).2 (fun _ _ => OK_T i30 (OK_T i3 (OK_T i30 (OK_T i30 (OK_T i30 (OK_some more))))))) (fun _ => OK_bind (raiseR_ok hs ha2 hm eZ eM _ _).1 (fun _ _ => OK_T i30 (OK_T i3 (OK_T i30 (OK_T i30 (OK_T i30 (OK_some more))))))))))
theorem is_v {many : Int32} {M : Nat} (hM : M ≤ 30) (e : many = nI M) (si : Int32) : (mX9_is many si = some 0) ∨ (mX9_is many si = some 1 ∧ ∃ s, s < M ∧ si = nI s) := by
  unfold mX9_is
  by_cases h0 : si < 0
  · rw [if_pos h0]; exact Or.inl rfl
  · rw [if_neg h0]
    by_cases h8 : many ≤ si
    · rw [if_pos h8]; exact Or.inl rfl
    · rw [if_neg h8]; exact Or.inr ⟨rfl, pu_of (n := M) h0 (e ▸ h8) (by omega)⟩
theorem rput_ok {many : Int32} {vIW vK vZ vM vC vR vL : Nat → Int32} (h : RI many vIW vK vZ vM vC vR vL) (vS : Nat → Int32) (vCt : Nat → Int64) (row kept : Nat → Int32) (si : Int32) (t : Int64) : OK (mX9_put many vK vZ vM vS vCt vC row kept si t) (fun z => RI many vIW vK vZ vM z.2.2.1 vR vL) := by
  have hh := h
  obtain ⟨⟨M, hM, eM, hs⟩, hw⟩ := hh
  unfold mX9_put
  rcases is_v hM eM si with e | ⟨e, s, hsM, rfl⟩
  · exact OK_be e (OK_T rfl (OK_some h))
  · refine OK_be e (OK_F (by decide) (OK_T (ix_nI (by omega)) ?_))
    rw [clN (k := s) (by omega)]
    refine OK_ite (fun hk => OK_bind (doPut_ok (by omega) (hs s hsM) hk _ _ _ _ _) ?_) (fun _ => OK_some h)
    rintro z ⟨c, hc, ec⟩
    refine OK_some ?_
    dsimp only
    rw [ec]
    exact RI_C h hc
theorem rputAll_ok {many : Int32} {vIW vK vZ vM vC vR vL : Nat → Int32} (h : RI many vIW vK vZ vM vC vR vL) (vW : Nat → Int64) (vS : Nat → Int32) (vCt : Nat → Int64) (row kept : Nat → Int32) (si wi : Int32) : OK (mX9_putAll many vW vIW vK vZ vM vS vCt vC row kept si wi) (fun z => RI many vIW vK vZ vM z.2.2.1 vR vL) := by
  have hh := h
  obtain ⟨⟨M, hM, eM, hs⟩, hw⟩ := hh
  unfold mX9_putAll
  rcases is_v hM eM si with e | ⟨e, s, hsM, rfl⟩
  · exact OK_be e (OK_T rfl (OK_some h))
  rcases isW_v wi with e2 | ⟨e2, j, hj, rfl⟩
  · exact OK_be e (OK_F (by decide) (OK_be e2 (OK_T rfl (OK_some h))))
  obtain ⟨n, hn, eW⟩ := hw j hj
  refine OK_be e (OK_F (by decide) (OK_be e2 (OK_F (by decide) (OK_T (ix_nI (by omega)) ?_))))
  rw [clN (k := s) (by omega)]
  refine OK_ite (fun hk => OK_bind (P := fun z => RI many vIW vK vZ vM z.2.2.1 vR vL) ?_ (fun z hz => OK_some hz)) (fun _ => OK_some h)
  refine OK_for (fun fu k (x : (Nat → Int64) × (Nat → Int32) × (Nat → Int32) × (Nat → Int32)) => mX9_putAll_L32 vW vIW vK vZ vM vS (nI s) (nI j) fu k x.1 x.2.1 x.2.2.1 x.2.2.2) n (by omega) (fun _ x => RI many vIW vK vZ vM x.2.1 vR vL) _ (s := (vCt, vC, row, kept)) h ?_ ?_
  · intro fu x hx
    show OK (mX9_putAll_L32 vW vIW vK vZ vM vS (nI s) (nI j) (fu + 1) (nI n) x.1 x.2.1 x.2.2.1 x.2.2.2) _
    rw [mX9_putAll_L32, clN (k := j) (by omega), eW]
    exact OK_T (ix_nI hj) (OK_T (Int32.le_refl _) (OK_some hx))
  · intro fu k x hk2 hx ih
    show OK (mX9_putAll_L32 vW vIW vK vZ vM vS (nI s) (nI j) (fu + 1) (nI k) x.1 x.2.1 x.2.2.1 x.2.2.2) _
    have hx2 := hx
    obtain ⟨⟨M', hM', eM', hs'⟩, -⟩ := hx2
    have : M = M' := (nI_eq (by omega) (by omega)).mp (eM.symm.trans eM')
    subst this
    rw [mX9_putAll_L32, clN (k := j) (by omega), eW, m1000, nI_s]
    refine OK_T (ix_nI hj) (OK_F (nI_ge hk2 (by omega)) (OK_T (ix_nI (by omega)) (OK_bind (doPut_ok (by omega) (hs' s hsM) hk _ _ _ _ _) ?_)))
    rintro z ⟨c, hc, ec⟩
    have hR : RI many vIW vK vZ vM z.2.2.1 vR vL := by rw [ec]; exact RI_C hx hc
    exact OK_ite (fun _ => OK_some hR) (fun _ => ih (z.2.1, z.2.2.1, z.2.2.2.1, z.2.2.2.2) hR)
