/-! ===== the reference: what asks only, and remove ===== -/
theorem RS_p {vK vZ vM vC vR vL : Nat → Int32} {s : Nat} (h : RS vK vZ vM vC vR vL s) : ∃ K Z, vK s = nI K ∧ vZ s = nI Z ∧ K ≤ 4 ∧ Z ≤ 4096 ∧ (K = 2 → Z ≤ 256) ∧ (K = 3 → 8 ≤ Z ∧ Z ≤ 1258) ∧ (K = 4 → Z ≤ 20 ∧ ∀ i, i < Z → ∃ a, 3 ≤ a ∧ a ≤ 12 ∧ vL (20 * s + i) = nI (2 ^ a)) := by
  obtain ⟨K, Z, m, eK, eZ, -, hk, -, -, hl⟩ := h
  have hb := RKp_b hk
  refine ⟨K, Z, eK, eZ, hb.1, hb.2.1, fun q => ?_, fun q => ?_, fun q => ⟨?_, hl q⟩⟩
  · rcases hk with ⟨q1, _⟩ | ⟨_, ⟨a, ha, e⟩, _⟩ | ⟨q1, _⟩ | ⟨q1, _⟩
    · omega
    · have := pow_up ha
      omega
    · omega
    · omega
  · rcases hk with ⟨q1, _⟩ | ⟨q1, _⟩ | ⟨_, q2, q3, _⟩ | ⟨q1, _⟩
    · omega
    · omega
    · exact ⟨q2, q3⟩
    · omega
  · rcases hk with ⟨q1, _⟩ | ⟨q1, _⟩ | ⟨q1, _⟩ | ⟨_, q2, _⟩
    · omega
    · omega
    · omega
    · exact q2
theorem kOf {K k : Nat} {v : Int32} (e : v = nI K) (hK : K ≤ 4) (hk : k ≤ 4) (h : v = nI k) : K = k := (k_eq hK hk).mp (e.symm.trans h)
theorem kNe {K k : Nat} {v : Int32} (e : v = nI K) (h : ¬ v = nI k) : K ≠ k := fun q => h (by rw [e, q])
theorem rplaces_v {vK vZ vM vC vR vL : Nat → Int32} {s : Nat} (hs : s < 30) (h : RS vK vZ vM vC vR vL s) : ∃ p, p ≤ 4096 ∧ mX9_places vK vZ (nI s) = some (nI p) := by
  obtain ⟨K, Z, eK, eZ, hK, hZ, h2, h3, -⟩ := RS_p h
  have ia := ix_nI (k := s) (n := 30) hs
  rw [mX9_places, clN (k := s) (by omega)]
  by_cases q2 : vK s = 2
  · have z := h2 (kOf (k := 2) eK hK (by decide) q2)
    rw [if_pos ia, if_pos q2, if_pos ia, eZ, four]
    exact ⟨4 * Z, by omega, rfl⟩
  by_cases q3 : vK s = 3
  · have z := h3 (kOf (k := 3) eK hK (by decide) q3)
    rw [if_pos ia, if_neg q2, if_pos ia, if_pos q3, if_pos ia, eZ, show (3 : Int32) * nI Z = nI (3 * Z) from pk_mul 3 Z]
    exact ⟨3 * Z, by omega, rfl⟩
  · rw [if_pos ia, if_neg q2, if_pos ia, if_neg q3, if_pos ia, eZ]
    exact ⟨Z, hZ, rfl⟩
theorem rweight_ok {vK vZ vM vC vR vL : Nat → Int32} {s : Nat} (hs : s < 30) (h : RS vK vZ vM vC vR vL s) : OK (mX9_weight vK vZ vL vR (nI s)) (fun _ => True) := by
  obtain ⟨K, Z, eK, eZ, hK, hZ, h2, h3, h4⟩ := RS_p h
  have ia := ix_nI (k := s) (n := 30) hs
  rw [mX9_weight, clN (k := s) (by omega)]
  refine OK_T ia (OK_ite (fun _ => OK_T ia (OK_some trivial)) (fun n0 => OK_ite (fun _ => OK_T ia (OK_some trivial)) (fun n1 => OK_ite (fun _ => OK_T ia (OK_some trivial)) (fun n2 => OK_ite (fun _ => OK_T ia (OK_some trivial)) (fun n3 => OK_T ia (OK_lt (OK_bind (P := fun _ => True) ?_ (fun _ _ => OK_some trivial))))))))
  have z0 := kNe (k := 0) eK n0
  have z1 := kNe (k := 1) eK n1
  have z2 := kNe (k := 2) eK n2
  have z3 := kNe (k := 3) eK n3
  have z := (h4 (by omega)).1
  refine OK_for (fun fu k (x : Int32) => mX9_weight_L84 vZ vL (nI s) fu k x) Z (by omega) (fun _ _ => True) _ trivial ?_ ?_
  · intro fu x _
    show OK (mX9_weight_L84 vZ vL (nI s) (fu + 1) (nI Z) x) _
    rw [mX9_weight_L84, clN (k := s) (by omega), eZ]
    exact OK_T ia (OK_T (Int32.le_refl _) (OK_some trivial))
  · intro fu k x hk _ ih
    show OK (mX9_weight_L84 vZ vL (nI s) (fu + 1) (nI k) x) _
    rw [mX9_weight_L84, clN (k := s) (by omega), eZ, m20, nI_s]
    exact OK_T ia (OK_F (nI_ge hk (by omega)) (OK_T (ix_nI (by omega)) (OK_lt (ih _ trivial))))
theorem rfilled_ok {vK vZ vM vC vR vL : Nat → Int32} {s : Nat} (hs : s < 30) (h : RS vK vZ vM vC vR vL s) (row : Nat → Int32) : OK (mX9_filled vK vZ row vR (nI s)) (fun _ => True) := by
  obtain ⟨p, hp, e⟩ := rplaces_v hs h
  have ia := ix_nI (k := s) (n := 30) hs
  rw [mX9_filled]
  refine OK_T ia (OK_ite (fun _ => OK_T ia (OK_some trivial)) (fun _ => OK_bind (P := fun _ => True) ?_ (fun _ _ => OK_some trivial)))
  refine OK_for (fun fu k (x : Int32) => mX9_filled_L21 vK vZ row (nI s) fu k x) p (by omega) (fun _ _ => True) _ trivial ?_ ?_
  · intro fu x _
    show OK (mX9_filled_L21 vK vZ row (nI s) (fu + 1) (nI p) x) _
    rw [mX9_filled_L21]
    exact OK_be e (OK_T (Int32.le_refl _) (OK_some trivial))
  · intro fu k x hk _ ih
    show OK (mX9_filled_L21 vK vZ row (nI s) (fu + 1) (nI k) x) _
    rw [mX9_filled_L21, m4096, nI_s]
    exact OK_be e (OK_F (nI_ge hk (by omega)) (OK_T (ix_nI (by omega)) (OK_ite (fun _ => ih _ trivial) (fun _ => ih _ trivial))))
theorem rabout_ok {many : Int32} {vIW vK vZ vM vC vR vL : Nat → Int32} (h : RI many vIW vK vZ vM vC vR vL) (vS row : Nat → Int32) (si wh : Int32) : OK (mX9_about many vK vZ vM vS vC row vL vR si wh) (fun _ => True) := by
  obtain ⟨⟨M, hM, eM, hs⟩, hw⟩ := h
  unfold mX9_about
  rcases is_v hM eM si with e | ⟨e, s, hsM, rfl⟩
  · exact OK_be e (OK_T rfl (OK_some trivial))
  have ia := ix_nI (k := s) (n := 30) (by omega)
  exact OK_be e (OK_F (by decide) (OK_ite (fun _ => OK_some trivial) (fun _ => OK_ite (fun _ => OK_ite (fun _ => OK_T ia (OK_some trivial)) (fun _ => OK_ite (fun _ => OK_T ia (OK_ite (fun _ => OK_T ia (OK_some trivial)) (fun _ => OK_T ia (OK_some trivial)))) (fun _ => OK_ite (fun _ => OK_T ia (OK_some trivial)) (fun _ => OK_ite (fun _ => OK_T ia (OK_some trivial)) (fun _ => OK_ite (fun _ => OK_T ia (OK_some trivial)) (fun _ => OK_ite (fun _ => OK_bind (rweight_ok (by omega) (hs s hsM)) (fun _ _ => OK_some trivial)) (fun _ => OK_bind (rfilled_ok (by omega) (hs s hsM) row) (fun _ _ => OK_some trivial)))))))) (fun _ => OK_some trivial))))
theorem rcell_ok {many : Int32} {vIW vK vZ vM vC vR vL : Nat → Int32} (h : RI many vIW vK vZ vM vC vR vL) (row : Nat → Int32) (si i : Int32) : OK (mX9_cell many vK vZ row si i) (fun _ => True) := by
  obtain ⟨⟨M, hM, eM, hs⟩, hw⟩ := h
  unfold mX9_cell
  rcases is_v hM eM si with e | ⟨e, s, hsM, rfl⟩
  · exact OK_be e (OK_T rfl (OK_some trivial))
  have ia := ix_nI (k := s) (n := 30) (by omega)
  obtain ⟨p, hp, ep⟩ := rplaces_v (by omega) (hs s hsM)
  refine OK_be e (OK_F (by decide) (OK_T ia (OK_ite (fun _ => OK_some trivial) (fun _ => OK_ite (fun _ => OK_some trivial) (fun h0 => OK_be ep (OK_ite (fun _ => OK_some trivial) (fun h1 => ?_)))))))
  obtain ⟨k, hk, rfl⟩ := pu_of (n := p) h0 h1 (by omega)
  rw [m4096]
  exact OK_T (ix_nI (by omega)) (OK_some trivial)
theorem rlayer_ok {many : Int32} {vIW vK vZ vM vC vR vL : Nat → Int32} (h : RI many vIW vK vZ vM vC vR vL) (vB vLC : Nat → Int32) (si i wh : Int32) : OK (mX9_layer many vK vZ vB vL vLC si i wh) (fun _ => True) := by
  obtain ⟨⟨M, hM, eM, hs⟩, hw⟩ := h
  unfold mX9_layer
  rcases is_v hM eM si with e | ⟨e, s, hsM, rfl⟩
  · exact OK_be e (OK_T rfl (OK_some trivial))
  have ia := ix_nI (k := s) (n := 30) (by omega)
  obtain ⟨K, Z, eK, eZ, hK, hZ, -, -, h4⟩ := RS_p (hs s hsM)
  rw [clN (k := s) (by omega), eZ]
  refine OK_be e (OK_F (by decide) (OK_ite (fun _ => OK_some trivial) (fun _ => OK_ite (fun _ => OK_T ia (OK_ite (fun q4 => OK_ite (fun _ => OK_some trivial) (fun h0 => OK_T ia (OK_ite (fun h1 => ?_) (fun _ => OK_some trivial)))) (fun _ => OK_some trivial))) (fun _ => OK_some trivial))))
  obtain ⟨z20, hl⟩ := h4 (kOf (k := 4) eK hK (by decide) q4)
  obtain ⟨k, hk, rfl⟩ := pu_of (n := Z) h0 (Int32.not_le.mpr h1) (by omega)
  obtain ⟨a, -, ha, ea⟩ := hl k hk
  have hp := pow_up ha
  rw [m20]
  have i6 : ix (nI (20 * s + k)) 600 = true := ix_nI (by omega)
  refine OK_ite (fun _ => OK_bind (P := fun _ => True) ?_ (fun _ _ => OK_some trivial)) (fun _ => OK_ite (fun _ => OK_T i6 (OK_some trivial)) (fun _ => OK_T i6 (OK_some trivial)))
  refine OK_for (fun fu q (x : Int32) => mX9_layer_L89 vB vL (nI s) (nI k) fu q x) (2 ^ a) (by omega) (fun _ _ => True) _ trivial ?_ ?_
  · intro fu x _
    show OK (mX9_layer_L89 vB vL (nI s) (nI k) (fu + 1) (nI (2 ^ a)) x) _
    rw [mX9_layer_L89, m20, clN (k := 20 * s + k) (by omega), ea]
    exact OK_T i6 (OK_T (Int32.le_refl _) (OK_some trivial))
  · intro fu q x hq _ ih
    show OK (mX9_layer_L89 vB vL (nI s) (nI k) (fu + 1) (nI q) x) _
    rw [mX9_layer_L89, m20, clN (k := 20 * s + k) (by omega), ea, nI_s, show nI q / (32 : Int32) = nI (q / 32) from q_d (by omega) (by decide) (by decide), m128]
    exact OK_T i6 (OK_F (nI_ge hq (by omega)) (OK_T (ix_nI (by omega)) (OK_lt (ih _ trivial))))
theorem RS_k {vK vZ vM vC vR vL : Nat → Int32} {s : Nat} (h : RS vK vZ vM vC vR vL s) (h4 : ¬ vK s = 4) : (vK s = 2 ∧ ∃ a, a ≤ 8 ∧ vZ s = nI (2 ^ a)) ∨ (vK s = 3 ∧ ∃ Z, 8 ≤ Z ∧ Z ≤ 1258 ∧ vZ s = nI Z) ∨ (¬ vK s = 2 ∧ ¬ vK s = 3 ∧ ∃ a m, a ≤ 12 ∧ m ≤ 8 ∧ vZ s = nI (2 ^ a) ∧ vM s = nI m) := by
  obtain ⟨K, Z, m, eK, eZ, eM, hk, -, -, -⟩ := h
  rcases hk with ⟨q1, ⟨a, -, ha, e⟩, hm⟩ | ⟨q1, ⟨a, ha, e⟩, _⟩ | ⟨q1, q2, q3, _⟩ | ⟨q1, _⟩
  · refine Or.inr (Or.inr ⟨fun q => ?_, fun q => ?_, a, m, ha, hm, by rw [eZ, e], eM⟩)
    · have := kOf (k := 2) eK (by omega) (by decide) q
      omega
    · have := kOf (k := 3) eK (by omega) (by decide) q
      omega
  · exact Or.inl ⟨by rw [eK, q1]; rfl, a, ha, by rw [eZ, e]⟩
  · exact Or.inr (Or.inl ⟨by rw [eK, q1]; rfl, Z, q2, q3, eZ⟩)
  · exact absurd (by rw [eK, q1]; rfl) h4
theorem rmark_ok {many : Int32} {vIW vK vZ vM vC vR vL : Nat → Int32} (h : RI many vIW vK vZ vM vC vR vL) (vS : Nat → Int32) (si : Int32) (t : Int64) (j : Int32) : OK (mX9_mark many vK vZ vM vS si t j) (fun _ => True) := by
  obtain ⟨⟨M, hM, eM, hs⟩, hw⟩ := h
  unfold mX9_mark
  rcases is_v hM eM si with e | ⟨e, s, hsM, rfl⟩
  · exact OK_be e (OK_T rfl (OK_some trivial))
  have ia := ix_nI (k := s) (n := 30) (by omega)
  rw [clN (k := s) (by omega)]
  refine OK_be e (OK_F (by decide) (OK_T ia (OK_ite (fun _ => OK_some trivial) (fun h4 => ?_))))
  rcases RS_k (hs s hsM) h4 with ⟨k2, a, ha, eZ⟩ | ⟨k3, Z, z1, z2, eZ⟩ | ⟨n2, n3, a, m, ha, hm, eZ, eMk⟩
  · exact OK_T ia (OK_T k2 (OK_ite (fun _ => OK_some trivial) (fun _ => OK_ite (fun _ => OK_T ia (OK_be (mix_r _ _) (OK_T ia (OK_T k2 (OK_be (nestOf_v (by omega) ha eZ t j) (OK_some trivial)))))) (fun _ => OK_some trivial))))
  · have k2 : ¬ vK s = 2 := by rw [k3]; decide
    refine OK_T ia (OK_F k2 (OK_T ia (OK_T k3 (OK_ite (fun _ => OK_some trivial) (fun h0 => OK_ite (fun h1 => OK_T ia (OK_be (mix_r _ _) (OK_T ia (OK_F k2 (OK_T ia (OK_T k3 (OK_T ia ?_))))))) (fun _ => OK_some trivial))))))
    obtain ⟨k, hk, rfl⟩ := pu_of (n := 3) h0 (Int32.not_le.mpr h1) (by decide)
    rw [eZ]
    exact OK_be (sp_r _ hk (by omega) (by omega)) (OK_some trivial)
  · have hp := pow_up ha
    refine OK_T ia (OK_F n2 (OK_T ia (OK_F n3 (OK_T ia (OK_ite (fun _ => OK_some trivial) (fun h0 => OK_ite (fun h1 => OK_T ia (OK_be (mix_r _ _) (OK_T ia (OK_F n2 (OK_T ia (OK_F n3 (OK_T ia ?_))))))) (fun _ => OK_some trivial)))))))
    rw [eMk] at h1
    obtain ⟨k, hk, rfl⟩ := pu_of (n := m) h0 (Int32.not_le.mpr h1) (by omega)
    rw [eZ]
    exact OK_be (mp_r _ (by omega) (Nat.two_pow_pos a) (by omega)) (OK_some trivial)
theorem rremove_ok {many : Int32} {vIW vK vZ vM vC vR vL : Nat → Int32} (h : RI many vIW vK vZ vM vC vR vL) : OK (mX9_remove many) (fun z => RI z.2 vIW vK vZ vM vC vR vL) := by
  have hh := h
  obtain ⟨⟨M, hM, rfl, hs⟩, hw⟩ := hh
  unfold mX9_remove
  refine OK_ite (fun _ => OK_some h) (fun q => OK_some ?_)
  have h1 : M ≠ 0 := fun e => q (by rw [e]; rfl)
  refine ⟨⟨M - 1, by omega, ?_, fun s hs1 => hs s (by omega)⟩, hw⟩
  exact pk_sub (b := 1) (by omega)
