/-! ===== the reference: drop, lets, falses, falseOne, missed, join, fold ===== -/
theorem rlower_ok {s a m : Nat} (hs : s < 30) (ha : a ≤ 12) (hm : m ≤ 8) {vZ vM : Nat → Int32} (eZ : vZ s = nI (2 ^ a)) (eM : vM s = nI m) (mx : Int64) (row : Nat → Int32) : OK (mX9_drop_L70 vZ vM (nI s) mx FU 0 row) (fun _ => True) := by
  have hp : 0 < 2 ^ a := Nat.two_pow_pos a
  have hp2 := pow_up ha
  refine OK_for (fun fu k (x : Nat → Int32) => mX9_drop_L70 vZ vM (nI s) mx fu k x) m (by omega) (fun _ _ => True) _ trivial ?_ ?_
  · intro fu x _
    show OK (mX9_drop_L70 vZ vM (nI s) mx (fu + 1) (nI m) x) _
    rw [mX9_drop_L70, clN (k := s) (by omega), eM]
    exact OK_T (ix_nI hs) (OK_T (Int32.le_refl _) (OK_some trivial))
  · intro fu k x hk _ ih
    show OK (mX9_drop_L70 vZ vM (nI s) mx (fu + 1) (nI k) x) _
    rw [mX9_drop_L70, clN (k := s) (by omega), eM, eZ, nI_s]
    have hq : mkN (nM mx) k % 2 ^ a < 2 ^ a := Nat.mod_lt _ hp
    refine OK_T (ix_nI hs) (OK_F (nI_ge hk (by omega)) (OK_T (ix_nI hs) (OK_be (mp_r mx (by omega) hp (by omega)) ?_)))
    generalize mkN (nM mx) k % 2 ^ a = q at hq
    rw [m4096]
    have hi : ix (nI (4096 * s + q)) 122880 = true := ix_nI (by omega)
    exact OK_T hi (OK_ite (fun _ => OK_T hi (OK_T hi (ih _ trivial))) (fun _ => OK_T hi (OK_ite (fun _ => OK_T hi (OK_T hi (ih _ trivial))) (fun _ => OK_T hi (OK_T hi (ih _ trivial))))))
theorem rfind_nest {s a : Nat} (hs : s < 30) (ha : a ≤ 8) {vZ vS row : Nat → Int32} (eZ : vZ s = nI (2 ^ a)) (t : Int64) {k0 : Nat} (hk0 : k0 < 8) (hit : row (nestAt s (nM (mixV t (vS s))) a k0) = nI (tagN (nM (mixV t (vS s))))) : OK (mX9_drop_L162 vZ vS row (nI s) t (mixV t (vS s)) FU 0) (fun z => ∃ k, k < 8 ∧ z = nI k) := by
  generalize hmx : mixV t (vS s) = mx at hit ⊢
  have step : ∀ fu k, k < 8 → mX9_drop_L162 vZ vS row (nI s) t mx (fu + 1) (nI k) = (if row (nestAt s (nM mx) a k) = nI (tagN (nM mx)) then some (nI k) else mX9_drop_L162 vZ vS row (nI s) t mx fu (nI (k + 1))) := by
    intro fu k hk
    rw [mX9_drop_L162, show nI k / (4 : Int32) = nI (k / 4) from q_d (by omega) (by decide) (by decide), nestOf_v hs ha eZ t, sb_, hmx, nestIx hk, if_pos (ix_nI (nestAt_lt hs ha)), tag_r, sb_, clN (by have := nestAt_lt (n := nM mx) (k := k) hs ha; omega), nI_s]
  refine OK_for (fun fu k (_ : Unit) => mX9_drop_L162 vZ vS row (nI s) t mx fu k) k0 (by omega) (fun _ _ => True) _ (s := ()) trivial ?_ ?_
  · intro fu _ _
    show OK (mX9_drop_L162 vZ vS row (nI s) t mx (fu + 1) (nI k0)) _
    rw [step fu k0 hk0, if_pos hit]
    exact OK_some ⟨k0, hk0, rfl⟩
  · intro fu k _ hk _ ih
    show OK (mX9_drop_L162 vZ vS row (nI s) t mx (fu + 1) (nI k)) _
    rw [step fu k (by omega)]
    exact OK_ite (fun _ => OK_some ⟨k, by omega, rfl⟩) (fun _ => ih () trivial)
theorem rfind_ct {s n : Nat} (hs : s < 30) (hn : n ≤ 1000) {vC : Nat → Int32} (en : vC s = nI n) (vCt : Nat → Int64) (t : Int64) : OK (mX9_drop_L236 vCt vC (nI s) t FU 0) (fun z => ∃ k, k ≤ n ∧ z = nI k) := by
  refine OK_for (fun fu k (_ : Unit) => mX9_drop_L236 vCt vC (nI s) t fu k) n (by omega) (fun _ _ => True) _ (s := ()) trivial ?_ ?_
  · intro fu _ _
    show OK (mX9_drop_L236 vCt vC (nI s) t (fu + 1) (nI n)) _
    rw [mX9_drop_L236, clN (k := s) (by omega), en]
    exact OK_T (ix_nI hs) (OK_T (Int32.le_refl _) (OK_some ⟨n, Nat.le_refl _, rfl⟩))
  · intro fu k _ hk _ ih
    show OK (mX9_drop_L236 vCt vC (nI s) t (fu + 1) (nI k)) _
    rw [mX9_drop_L236, clN (k := s) (by omega), en, m1000, nI_s]
    exact OK_T (ix_nI hs) (OK_F (nI_ge hk (by omega)) (OK_T (ix_nI (by omega)) (OK_ite (fun _ => OK_some ⟨k, by omega, rfl⟩) (fun _ => ih () trivial))))
theorem rdrop_ok {many : Int32} {vIW vK vZ vM vC vR vL : Nat → Int32} (h : RI many vIW vK vZ vM vC vR vL) (vS : Nat → Int32) (vCt : Nat → Int64) (row vB : Nat → Int32) (vRe : Nat → Int64) (si : Int32) (t : Int64) : OK (mX9_drop many vK vZ vM vS vCt vC row vB vL vRe vR si t) (fun z => RI many vIW vK vZ vM z.2.2.1 vR vL) := by
  have hh := h
  obtain ⟨⟨M, hM, eM, hs⟩, hw⟩ := hh
  unfold mX9_drop
  rcases is_v hM eM si with e | ⟨e, s, hsM, rfl⟩
  · exact OK_be e (OK_T rfl (OK_some h))
  have hs30 : s < 30 := by omega
  have hS := hs s hsM
  have i30 := ix_nI (k := s) (n := 30) hs30
  obtain ⟨n, hn, en⟩ := RS_cm hS
  have tail : ∀ (row1 : Nat → Int32) (o : Int32), (∃ k, k ≤ n ∧ o = nI k) → OK (if ix (nI s) 30 = true then (if (vC s) ≤ o then (if ix (nI s) 30 = true then (some ((vC s), vCt, vC, row1)) else none) else (if ix (nI s) 30 = true then (if ix (nI s) 30 = true then (if ix (nI s) 30 = true then (if ix (((nI s) * (1000 : Int32)) + ((upd vC s ((vC s) - (1 : Int32))) s)) 30000 = true then (if ix (((nI s) * (1000 : Int32)) + o) 30000 = true then (if ix (nI s) 30 = true then (some (((upd vC s ((vC s) - (1 : Int32))) s), (vp_updL vCt (Int32.toNatClampNeg (((nI s) * (1000 : Int32)) + o)) (vCt (Int32.toNatClampNeg (((nI s) * (1000 : Int32)) + ((upd vC s ((vC s) - (1 : Int32))) s))))), (upd vC s ((vC s) - (1 : Int32))), row1)) else none) else none) else none) else none) else none) else none)) else none) (fun z => RI many vIW vK vZ vM z.2.2.1 vR vL) := by
    rintro row1 o ⟨k, hk, rfl⟩
    rw [en]
    refine OK_T i30 (OK_ite (fun _ => OK_T i30 (OK_some h)) (fun hlt => ?_))
    have hkn : k < n := Nat.lt_of_not_le (fun q => hlt (nI_le q (by omega)))
    rw [pk_us, show nI n - (1 : Int32) = nI (n - 1) from pk_sub (b := 1) (by omega), m1000, m1000]
    exact OK_T i30 (OK_T i30 (OK_T i30 (OK_T (ix_nI (by omega)) (OK_T (ix_nI (by omega)) (OK_T i30 (OK_some (RI_C h ⟨n - 1, by omega, rfl⟩)))))))
  refine OK_be e (OK_F (by decide) (OK_T i30 ?_))
  rw [clN (k := s) (by omega)]
  refine OK_ite (fun hk => OK_bind (lets01 hs30 hS t) (fun z hz => OK_ite (fun _ => OK_some h) (fun _ => OK_T i30 (OK_be (mix_r _ _) (OK_T i30 (OK_T hk ?_)))))) (fun hk1 => OK_T i30 (OK_ite (fun hk => OK_bind (lets01 hs30 hS t) (fun z hz => OK_ite (fun _ => OK_some h) (fun hz0 => OK_T i30 (OK_be (mix_r _ _) (OK_T i30 (OK_F hk1 ?_)))))) (fun _ => OK_some h)))
  · obtain ⟨a, m, ha, ha2, hm, eZ, eMk⟩ := RS_01 hS (by rw [hk]; decide) (by rw [hk]; decide)
    exact OK_bind (rlower_ok hs30 ha2 hm eZ eMk _ _) (fun y _ => OK_bind (rfind_ct hs30 hn en _ _) (fun o ho => tail _ o ho))
  · obtain ⟨a, ha, eZ⟩ := RS_2 hS hk
    obtain ⟨k0, hk0, hit⟩ := hz.2 a hk eZ ha (hz.1.resolve_left hz0)
    refine OK_bind (rfind_nest hs30 ha eZ t hk0 hit) ?_
    rintro y ⟨k, hk8, rfl⟩
    rw [show nI k / (4 : Int32) = nI (k / 4) from q_d (by omega) (by decide) (by decide)]
    refine OK_be (nestOf_v hs30 ha eZ t _) ?_
    rw [nestIx hk8]
    exact OK_T (ix_nI (nestAt_lt hs30 ha)) (OK_bind (rfind_ct hs30 hn en _ _) (fun o ho => tail _ o ho))
theorem rlets_ok {many : Int32} {vIW vK vZ vM vC vR vL : Nat → Int32} (h : RI many vIW vK vZ vM vC vR vL) (vS row vB : Nat → Int32) (vRe : Nat → Int64) (si : Int32) (t : Int64) : OK (mX9_lets many vK vZ vM vS row vB vL vRe vR si t) (fun _ => True) := by
  obtain ⟨⟨M, hM, eM, hs⟩, hw⟩ := h
  unfold mX9_lets
  rcases is_v hM eM si with e | ⟨e, s, hsM, rfl⟩
  · exact OK_be e (OK_T rfl (OK_some trivial))
  · exact OK_be e (OK_F (by decide) (OK_bind (lets01 (by omega) (hs s hsM) t) (fun _ _ => OK_ite (fun _ => OK_some trivial) (fun _ => OK_some trivial))))
theorem rfalses_ok {many : Int32} {vIW vK vZ vM vC vR vL : Nat → Int32} (h : RI many vIW vK vZ vM vC vR vL) (vW : Nat → Int64) (vS : Nat → Int32) (vCt : Nat → Int64) (row vB : Nat → Int32) (vRe : Nat → Int64) (si wi : Int32) : OK (mX9_falses many vW vIW vK vZ vM vS vCt vC row vB vL vRe vR si wi) (fun _ => True) := by
  obtain ⟨⟨M, hM, eM, hs⟩, hw⟩ := h
  unfold mX9_falses
  rcases is_v hM eM si with e | ⟨e, s, hsM, rfl⟩
  · exact OK_be e (OK_T rfl (OK_some trivial))
  rcases isW_v wi with e2 | ⟨e2, j, hj, rfl⟩
  · exact OK_be e (OK_F (by decide) (OK_be e2 (OK_T rfl (OK_some trivial))))
  obtain ⟨n, hn, eW⟩ := hw j hj
  refine OK_be e (OK_F (by decide) (OK_be e2 (OK_F (by decide) (OK_bind (P := fun _ => True) ?_ (fun _ _ => OK_some trivial)))))
  refine OK_for (fun fu k (x : Int32) => mX9_falses_L22 vW vIW vK vZ vM vS vCt vC row vB vL vRe vR (nI s) (nI j) fu k x) n (by omega) (fun _ _ => True) _ trivial ?_ ?_
  · intro fu x _
    show OK (mX9_falses_L22 vW vIW vK vZ vM vS vCt vC row vB vL vRe vR (nI s) (nI j) (fu + 1) (nI n) x) _
    rw [mX9_falses_L22, clN (k := j) (by omega), eW]
    exact OK_T (ix_nI hj) (OK_T (Int32.le_refl _) (OK_some trivial))
  · intro fu k x hk _ ih
    show OK (mX9_falses_L22 vW vIW vK vZ vM vS vCt vC row vB vL vRe vR (nI s) (nI j) (fu + 1) (nI k) x) _
    rw [mX9_falses_L22, clN (k := j) (by omega), eW, m1000, nI_s]
    exact OK_T (ix_nI hj) (OK_F (nI_ge hk (by omega)) (OK_T (ix_nI (by omega)) (OK_lt (OK_bind (lets01 (by omega) (hs s hsM) _) (fun _ _ => OK_ite (fun _ => ih _ trivial) (fun _ => OK_bind (times_ok (by omega) (RS_cm (hs s hsM)) _) (fun _ _ => OK_ite (fun _ => ih _ trivial) (fun _ => ih _ trivial))))))))
theorem rfalseOne_ok {many : Int32} {vIW vK vZ vM vC vR vL : Nat → Int32} (h : RI many vIW vK vZ vM vC vR vL) (vW : Nat → Int64) (vS : Nat → Int32) (vCt : Nat → Int64) (row vB : Nat → Int32) (vRe : Nat → Int64) (si wi i : Int32) : OK (mX9_falseOne many vW vIW vK vZ vM vS vCt vC row vB vL vRe vR si wi i) (fun _ => True) := by
  obtain ⟨⟨M, hM, eM, hs⟩, hw⟩ := h
  unfold mX9_falseOne
  rcases is_v hM eM si with e | ⟨e, s, hsM, rfl⟩
  · exact OK_be e (OK_T rfl (OK_some trivial))
  rcases isW_v wi with e2 | ⟨e2, j, hj, rfl⟩
  · exact OK_be e (OK_F (by decide) (OK_be e2 (OK_T rfl (OK_some trivial))))
  obtain ⟨n, hn, eW⟩ := hw j hj
  refine OK_be e (OK_F (by decide) (OK_be e2 (OK_F (by decide) (OK_ite (fun _ => OK_bind (P := fun _ => True) ?_ (fun o _ => OK_sum (fun _ _ => OK_some trivial) (fun _ _ => OK_some trivial))) (fun _ => OK_some trivial)))))
  refine OK_for (fun fu k (x : Int32) => mX9_falseOne_L27 vW vIW vK vZ vM vS vCt vC row vB vL vRe vR (nI s) (nI j) fu k x) n (by omega) (fun _ _ => True) _ trivial ?_ ?_
  · intro fu x _
    show OK (mX9_falseOne_L27 vW vIW vK vZ vM vS vCt vC row vB vL vRe vR (nI s) (nI j) (fu + 1) (nI n) x) _
    rw [mX9_falseOne_L27, clN (k := j) (by omega), eW]
    exact OK_T (ix_nI hj) (OK_T (Int32.le_refl _) (OK_some trivial))
  · intro fu k x hk _ ih
    show OK (mX9_falseOne_L27 vW vIW vK vZ vM vS vCt vC row vB vL vRe vR (nI s) (nI j) (fu + 1) (nI k) x) _
    rw [mX9_falseOne_L27, clN (k := j) (by omega), eW, m1000, nI_s]
    exact OK_T (ix_nI hj) (OK_F (nI_ge hk (by omega)) (OK_T (ix_nI (by omega)) (OK_lt (OK_bind (lets01 (by omega) (hs s hsM) _) (fun _ _ => OK_ite (fun _ => ih _ trivial) (fun _ => OK_bind (times_ok (by omega) (RS_cm (hs s hsM)) _) (fun _ _ => OK_ite (fun _ => OK_ite (fun _ => OK_some trivial) (fun _ => ih _ trivial)) (fun _ => ih _ trivial))))))))
theorem rmissed_ok {many : Int32} {vIW vK vZ vM vC vR vL : Nat → Int32} (h : RI many vIW vK vZ vM vC vR vL) (vS : Nat → Int32) (vCt : Nat → Int64) (row vB : Nat → Int32) (vRe : Nat → Int64) (si : Int32) : OK (mX9_missed many vK vZ vM vS vCt vC row vB vL vRe vR si) (fun _ => True) := by
  obtain ⟨⟨M, hM, eM, hs⟩, hw⟩ := h
  unfold mX9_missed
  rcases is_v hM eM si with e | ⟨e, s, hsM, rfl⟩
  · exact OK_be e (OK_T rfl (OK_some trivial))
  obtain ⟨n, hn, en⟩ := RS_cm (hs s hsM)
  refine OK_be e (OK_F (by decide) (OK_bind (P := fun _ => True) ?_ (fun _ _ => OK_some trivial)))
  refine OK_for (fun fu k (x : Int32) => mX9_missed_L14 vK vZ vM vS vCt vC row vB vL vRe vR (nI s) fu k x) n (by omega) (fun _ _ => True) _ trivial ?_ ?_
  · intro fu x _
    show OK (mX9_missed_L14 vK vZ vM vS vCt vC row vB vL vRe vR (nI s) (fu + 1) (nI n) x) _
    rw [mX9_missed_L14, clN (k := s) (by omega), en]
    exact OK_T (ix_nI (by omega)) (OK_T (Int32.le_refl _) (OK_some trivial))
  · intro fu k x hk _ ih
    show OK (mX9_missed_L14 vK vZ vM vS vCt vC row vB vL vRe vR (nI s) (fu + 1) (nI k) x) _
    rw [mX9_missed_L14, clN (k := s) (by omega), en, m1000, nI_s]
    exact OK_T (ix_nI (by omega)) (OK_F (nI_ge hk (by omega)) (OK_T (ix_nI (by omega)) (OK_bind (lets01 (by omega) (hs s hsM) _) (fun _ _ => OK_ite (fun _ => ih _ trivial) (fun _ => ih _ trivial)))))
