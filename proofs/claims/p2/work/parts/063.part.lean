/-! ===== the reference: layered whole, put, putAll ===== -/
theorem place_ok {vIW : Nat → Int32} {w : Nat} (hw : w < 8) (h : BN (vIW w)) (vW : Nat → Int64) (t : Int64) : OK (mX9_placeOf vW vIW (nI w) t) (fun _ => True) := by
  obtain ⟨n, hn, e⟩ := h
  unfold mX9_placeOf
  refine OK_bind (P := fun _ => True) ?_ (fun o _ => OK_sum (fun _ _ => OK_some trivial) (fun _ _ => OK_some trivial))
  refine OK_for (fun fu k (_ : Unit) => mX9_placeOf_L3 vW vIW (nI w) t fu k) n (by omega) (fun _ _ => True) _ (s := ()) trivial ?_ ?_
  · intro fu _ _
    show OK (mX9_placeOf_L3 vW vIW (nI w) t (fu + 1) (nI n)) _
    rw [mX9_placeOf_L3, clN (k := w) (by omega), e]
    exact OK_T (ix_nI hw) (OK_T (Int32.le_refl _) (OK_some trivial))
  · intro fu k _ hk _ ih
    show OK (mX9_placeOf_L3 vW vIW (nI w) t (fu + 1) (nI k)) _
    rw [mX9_placeOf_L3, clN (k := w) (by omega), e, m1000, nI_s]
    exact OK_T (ix_nI hw) (OK_F (nI_ge hk (by omega)) (OK_T (ix_nI (by omega)) (OK_ite (fun _ => OK_some trivial) (fun _ => ih () trivial))))
theorem rlayered_ok {many : Int32} {vIW vK vZ vM vC vR vL : Nat → Int32} (h : RI many vIW vK vZ vM vC vR vL) (vW : Nat → Int64) (vS : Nat → Int32) (vCt : Nat → Int64) (vRow vB vLC : Nat → Int32) (vRe vCo vRi vGo : Nat → Int64) (wi wa sd : Int32) : OK (mX9_layered many vW vIW vK vZ vM vS vCt vC vRow vB vL vLC vRe vR vCo vRi vGo wi wa sd) (fun z => RI z.2.1 vIW z.2.2.1 z.2.2.2.1 z.2.2.2.2.1 z.2.2.2.2.2.2.2.1 z.2.2.2.2.2.2.2.2.2.2.2.2.2.1 z.2.2.2.2.2.2.2.2.2.2.1) := by
  unfold mX9_layered
  rcases isW_v wi with e | ⟨e, j, hj, rfl⟩
  · exact OK_be e (OK_T rfl (OK_some h))
  rcases isW_v wa with e2 | ⟨e2, j2, hj2, rfl⟩
  · exact OK_be e (OK_F (by decide) (OK_be e2 (OK_T rfl (OK_some h))))
  obtain ⟨n, hn, eW⟩ := h.2 j hj
  obtain ⟨n2, hn2, eW2⟩ := h.2 j2 hj2
  obtain ⟨M, hM, rfl, hs⟩ := h.1
  have h30 : ¬ nI M = (30 : Int32) → M < 30 := fun q => by
    have : M ≠ 30 := fun e => q (by rw [e]; rfl)
    omega
  refine OK_be e (OK_F (by decide) (OK_be e2 (OK_F (by decide) (OK_ite (fun _ => OK_some h) (fun q => OK_be (rbegin_v (h30 q) _ _ _ _ _ _ _ _ _ _ _) (OK_bind (fillFrom_ok (h30 q) hj ⟨n, hn, eW⟩ _ _) (fun x hx => OK_T (ix_nI hj) (OK_bind (P := fun _ => True) ?_ (fun o59 _ => OK_bind (P := fun z => ∃ A, A ≤ 1000 ∧ z.2.1 = nI A) ?_ ?_)))))))))
  · refine OK_for (fun fu k (c : Nat → Int64) => mX9_layered_L59 vW vIW (nI j) fu k c) n (by omega) (fun _ _ => True) _ trivial ?_ ?_
    · intro fu c _
      show OK (mX9_layered_L59 vW vIW (nI j) (fu + 1) (nI n) c) _
      rw [mX9_layered_L59, clN (k := j) (by omega), eW]
      exact OK_T (Int32.le_refl _) (OK_some trivial)
    · intro fu k c hk _ ih
      show OK (mX9_layered_L59 vW vIW (nI j) (fu + 1) (nI k) c) _
      rw [mX9_layered_L59, clN (k := j) (by omega), eW, m1000, nI_s]
      exact OK_F (nI_ge hk (by omega)) (OK_T (ix_nI (by omega)) (OK_T (ix_nI (by omega)) (ih _ trivial)))
  · refine OK_for (fun fu k (c : Int32 × (Nat → Int64)) => mX9_layered_L95 vW vIW (nI j) (nI j2) fu k c.1 c.2) n2 (by omega) (fun k c => ∃ A, A ≤ k ∧ c.1 = nI A) _ (s := (0, vRi)) ⟨0, by omega, rfl⟩ ?_ ?_
    · rintro fu c ⟨A, hA, eA⟩
      show OK (mX9_layered_L95 vW vIW (nI j) (nI j2) (fu + 1) (nI n2) c.1 c.2) _
      rw [mX9_layered_L95, clN (k := j2) (by omega), eW2]
      exact OK_T (ix_nI hj2) (OK_T (Int32.le_refl _) (OK_some ⟨A, by omega, eA⟩))
    · rintro fu k ⟨c1, c2⟩ hk ⟨A, hA, eA⟩ ih
      show OK (mX9_layered_L95 vW vIW (nI j) (nI j2) (fu + 1) (nI k) c1 c2) _
      dsimp only at eA
      subst eA
      rw [mX9_layered_L95, clN (k := j2) (by omega), eW2, m1000, nI_s, show nI A + (1 : Int32) = nI (A + 1) from nI_1 A]
      exact OK_T (ix_nI hj2) (OK_F (nI_ge hk (by omega)) (OK_T (ix_nI (by omega)) (OK_bind (place_ok hj ⟨n, hn, eW⟩ _ _) (fun _ _ => OK_ite (fun _ => ih (nI A, c2) ⟨A, by omega, rfl⟩) (fun _ => OK_T (ix_nI (by omega)) (OK_T (ix_nI (by omega)) (ih (nI (A + 1), _) ⟨A + 1, by omega, rfl⟩)))))))
  · rintro o ⟨A, hA, eA⟩
    rw [eA, clN (k := j) (by omega), eW]
    refine OK_bind (layered_loop (h30 q) _ rfl (upd vZ M 0) vL (upd vR M 0) 20 0 FU (by decide) (by decide) A n _ _ _ _ _ _ _ _ _ hA hn ⟨pk_us, fun j hj => absurd hj (by omega), by dsimp only; rw [pk_us]; exact BN_0, fun q _ => ⟨rfl, rfl⟩, fun _ _ => rfl⟩) ?_
    rintro z ⟨i, hi, h1, h2, h3, h4, h5⟩
    refine OK_some ?_
    dsimp only
    rw [hx]
    refine ⟨⟨M + 1, by have := h30 q; omega, rfl, fun s hs1 => ?_⟩, h.2⟩
    by_cases es : s = M
    · subst es
      exact ⟨4, i, 3, pk_us, h1, pk_us, Or.inr (Or.inr (Or.inr ⟨rfl, hi, rfl⟩)), by rw [pk_us]; exact ⟨n, hn, eW⟩, h3, fun _ => h2⟩
    · refine RS_congr (hs s (by omega)) (pk_un es) (((h4 s es).1).trans (pk_un es)) (pk_un es) ((pk_un es).trans (pk_un es)) (((h4 s es).2).trans (pk_un es)) (fun k hk => h5 _ (by omega))
/-! nests -/
def othG (nt : Nat) (tg : Int32) (w : Nat) : Nat := nt ^^^ (nM (tg.toInt64 * 2654435761) / 2 ^ 8 % w)
theorem oth_rG {nt w : Nat} (tg : Int32) (h0 : 0 < w) (hw : w < 2 ^ 31) : mX9_otherNest (nI nt) tg (nI w) = some (nI (othG nt tg w)) := by
  unfold mX9_otherNest othG
  have hn := nM_lt (tg.toInt64 * 2654435761)
  have e := nM_eq (tg.toInt64 * 2654435761)
  generalize nM (tg.toInt64 * 2654435761) = n at hn e
  rw [nI_l hw, if_pos (fun h => by rw [show (0 : Int64) = lN 0 from rfl, pk_lEQ (by omega) (by decide)] at h; omega), e, show (8 : Int32) = nI 8 from rfl, lush_N hn (by decide), lrm_N (by omega) h0 (by omega), lN_i, nx_xor]
theorem othG_lt {nt a : Nat} {tg : Int32} (h : nt < 2 ^ a) : othG nt tg (2 ^ a) < 2 ^ a := Nat.xor_lt_two_pow h (Nat.mod_lt _ (Nat.two_pow_pos a))
theorem empty_ok {q : Nat} (hq : q + 4 ≤ 122880) (v : Nat → Int32) : OK (mX9_emptyPlace v (nI q)) (fun z => z = -1 ∨ ∃ p, p < 122880 ∧ z = nI p) := by
  unfold mX9_emptyPlace
  refine OK_bind (P := fun o => ∀ z, o = .inl z → ∃ p, p < 122880 ∧ z = nI p) ?_ (fun o ho => OK_sum (fun z hz => OK_some (Or.inr (ho z hz))) (fun _ _ => OK_some (Or.inl rfl)))
  refine OK_for (fun fu k (_ : Unit) => mX9_emptyPlace_L2 v (nI q) fu k) 4 (by decide) (fun _ _ => True) _ (s := ()) trivial ?_ ?_
  · intro fu _ _
    show OK (mX9_emptyPlace_L2 v (nI q) (fu + 1) (nI 4)) _
    rw [mX9_emptyPlace_L2]
    exact OK_T (by decide) (OK_some (fun z h => nomatch h))
  · intro fu k _ hk _ ih
    show OK (mX9_emptyPlace_L2 v (nI q) (fu + 1) (nI k)) _
    rw [mX9_emptyPlace_L2, nI_add, nI_s]
    exact OK_F (nI_ge (b := 4) hk (by decide)) (OK_T (ix_nI (by omega)) (OK_ite (fun _ => OK_some (fun z h => by injection h with h; exact ⟨q + k, by omega, h.symm⟩)) (fun _ => ih () trivial)))
theorem m4 (s q : Nat) : nI s * (4096 : Int32) + (4 : Int32) * nI q = nI (4096 * s + 4 * q) := by rw [show (4 : Int32) * nI q = nI (4 * q) from pk_mul 4 q, m4096]
def FR (z : Int32) : Prop := z = -1 ∨ ∃ p, p < 122880 ∧ z = nI p
theorem putTag_loop {s a : Nat} (hs : s < 30) (ha : a ≤ 8) {vZ : Nat → Int32} (eZ : vZ s = nI (2 ^ a)) {q0 : Nat} (hq0 : q0 < 2 ^ a) {f0 : Int32} (hf : FR f0) (t0 : Int32) (row : Nat → Int32) : OK (mX9_putTag_L76 vZ (nI s) FU 0 f0 (nI q0) t0 row) (fun z => FR z.2.1) := by
  have hp := pow_up ha
  have hp0 : 0 < 2 ^ a := Nat.two_pow_pos a
  refine OK_for (fun fu k (x : Int32 × Int32 × Int32 × (Nat → Int32)) => mX9_putTag_L76 vZ (nI s) fu k x.1 x.2.1 x.2.2.1 x.2.2.2) 200 (by decide) (fun _ x => FR x.1 ∧ ∃ q, q < 2 ^ a ∧ x.2.1 = nI q) _ (s := (f0, nI q0, t0, row)) ⟨hf, q0, hq0, rfl⟩ ?_ ?_
  · intro fu x hx
    show OK (mX9_putTag_L76 vZ (nI s) (fu + 1) (nI 200) x.1 x.2.1 x.2.2.1 x.2.2.2) _
    rw [mX9_putTag_L76]
    exact OK_T (by decide) (OK_some hx.1)
  · rintro fu k ⟨x1, x2, x3, x4⟩ hk ⟨h1, q, hq, e⟩ ih
    show OK (mX9_putTag_L76 vZ (nI s) (fu + 1) (nI k) x1 x2 x3 x4) _
    dsimp only at h1 e
    subst e
    rw [mX9_putTag_L76]
    refine OK_F (nI_ge (b := 200) hk (by decide)) (OK_ite (fun _ => OK_some h1) (fun _ => OK_lt ?_))
    rw [m4, show irm (nI k) (4 : Int32) = nI (k % 4) from r_d (by omega) (by decide) (by decide), nI_add, clN (k := s) (by omega), eZ, nI_s]
    have hi : 4096 * s + 4 * q + k % 4 < 122880 := by omega
    have hoth := othG_lt (tg := x4 (Int32.toNatClampNeg (nI (4096 * s + 4 * q + k % 4)))) hq
    refine OK_T (ix_nI hi) (OK_T (ix_nI hi) (OK_T (ix_nI hs) (OK_be (oth_rG _ hp0 (by omega)) ?_)))
    rw [m4]
    exact OK_bind (empty_ok (by omega) _) (fun z hz => ih (z, _, _, _) ⟨hz, _, hoth, rfl⟩)
theorem putTag_ok {s a : Nat} (hs : s < 30) (ha : a ≤ 8) {vZ : Nat → Int32} (eZ : vZ s = nI (2 ^ a)) (vS row : Nat → Int32) (t : Int64) : OK (mX9_putTag vZ vS row (nI s) t) (fun _ => True) := by
  have hp := pow_up ha
  have fin : ∀ (o : Int32 × Int32 × Int32 × Int32 × (Nat → Int32)), FR o.2.1 → OK (if o.2.1 < 0 then (if o.2.1 < 0 then (some ((0 : Int32), o.2.2.2.2)) else (some ((1 : Int32), o.2.2.2.2))) else (if ix o.2.1 122880 = true then (if o.2.1 < 0 then (some ((0 : Int32), (upd o.2.2.2.2 (Int32.toNatClampNeg o.2.1) o.2.2.2.1))) else (some ((1 : Int32), (upd o.2.2.2.2 (Int32.toNatClampNeg o.2.1) o.2.2.2.1)))) else none)) (fun _ => True) := by
    intro o ho
    refine OK_ite (fun _ => OK_ite (fun _ => OK_some trivial) (fun _ => OK_some trivial)) (fun h => ?_)
    rcases ho with e | ⟨p, hp, e⟩
    · rw [e] at h; exact absurd (by decide) h
    · rw [e]; exact OK_T (ix_nI hp) (OK_ite (fun _ => OK_some trivial) (fun _ => OK_some trivial))
  unfold mX9_putTag
  refine OK_T (ix_nI hs) (OK_be (mix_r _ _) (OK_be (tag_r _) (OK_be (nestOf_v hs ha eZ t 0) ?_)))
  have hq := nestN_lt (nM (mixV t (vS s))) a 0
  rw [m4]
  refine OK_bind (empty_ok (by omega) row) (fun z hz => OK_ite (fun _ => OK_bind (putTag_loop hs ha eZ hq hz _ _) (fun o ho => fin o ho)) (fun _ => OK_be (nestOf_v hs ha eZ t 1) ?_))
  have hq1 := nestN_lt (nM (mixV t (vS s))) a 1
  rw [m4]
  exact OK_bind (empty_ok (by omega) row) (fun y hy => OK_bind (putTag_loop hs ha eZ hq hy _ _) (fun o ho => fin o ho))
