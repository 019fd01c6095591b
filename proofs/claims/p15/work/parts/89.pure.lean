/-! ===== the reference: what makes sieves ===== -/
def RI (many : Int32) (vIW vKind vSize vMarks vCM vRM vLS : Nat → Int32) : Prop := (∃ M, M ≤ 30 ∧ many = nI M ∧ ∀ s, s < M → RS vKind vSize vMarks vCM vRM vLS s) ∧ ∀ j, j < 8 → BN (vIW j)
theorem RS_congr {vK vZ vM vC vR vL wK wZ wM wC wR wL : Nat → Int32} {s : Nat} (h : RS vK vZ vM vC vR vL s) (e1 : wK s = vK s) (e2 : wZ s = vZ s) (e3 : wM s = vM s) (e4 : wC s = vC s) (e5 : wR s = vR s) (e6 : ∀ i, i < 20 → wL (20 * s + i) = vL (20 * s + i)) : RS wK wZ wM wC wR wL s := by
  obtain ⟨K, Z, m, a1, a2, a3, a4, a5, a6, a7⟩ := h
  refine ⟨K, Z, m, e1.trans a1, e2.trans a2, e3.trans a3, a4, by rw [e4]; exact a5, by rw [e5]; exact a6, fun hK i hi => ?_⟩
  have hb : Z ≤ 20 := by
    rcases a4 with ⟨h1, _⟩ | ⟨h1, _⟩ | ⟨h1, _⟩ | ⟨h1, h2, _⟩
    · omega
    · omega
    · omega
    · exact h2
  rw [e6 i (by omega)]
  exact a7 hK i hi
def clrR (M : Nat) (v : Nat → Int32) : Nat → Int32 := fun q => if 4096 * M ≤ q ∧ q < 4096 * M + 4096 then 0 else v q
theorem rbegin_v {M : Nat} (hM : M < 30) (vK vZ vM vS vC vRow vR : Nat → Int32) (k0 k1 k2 k3 : Int32) : mX9_begin (nI M) vK vZ vM vS vC vRow vR k0 k1 k2 k3 = some (nI M, nI (M + 1), upd vK M k0, upd vZ M k1, upd vM M k2, upd vS M k3, upd vC M 0, clrR M vRow, upd vR M 0) := by
  have h : OK (mX9_begin_L58 (nI M) FU 0 vRow) (fun z => z.2 = clrR M vRow) := by
    refine OK_for (fun fu i (s : Nat → Int32) => mX9_begin_L58 (nI M) fu i s) 4096 (by decide) (fun i s => s = fun q => if 4096 * M ≤ q ∧ q < 4096 * M + i then 0 else vRow q) _ ?_ ?_ ?_
    · funext q
      rw [if_neg (fun w => by omega)]
    · intro fu s hs
      show OK (mX9_begin_L58 (nI M) (fu + 1) (nI 4096) s) _
      rw [mX9_begin_L58]
      exact OK_T (by decide) (OK_some hs)
    · intro fu i s hi hs ih
      show OK (mX9_begin_L58 (nI M) (fu + 1) (nI i) s) _
      rw [mX9_begin_L58, m4096, nI_s, clN (by omega)]
      refine OK_F (nI_ge (b := 4096) hi (by decide)) (OK_T (ix_nI (by omega)) (ih _ ?_))
      rw [hs]
      funext q
      unfold upd
      by_cases e : q = 4096 * M + i
      · rw [if_pos e, if_pos ⟨by omega, by omega⟩]
      · rw [if_neg e]
        dsimp only
        by_cases w : 4096 * M ≤ q ∧ q < 4096 * M + i
        · rw [if_pos w, if_pos ⟨w.1, by omega⟩]
        · rw [if_neg w, if_neg (fun w2 => w ⟨w2.1, by omega⟩)]
  obtain ⟨z, e, hz⟩ := h
  have i1 := ix_nI (k := M) (n := 30) hM
  unfold mX9_begin
  rw [if_pos i1, if_pos i1, if_pos i1, if_pos i1, if_pos i1, if_pos i1, e, sb_, clN (by omega), hz]
  rw [show nI M + (1 : Int32) = nI (M + 1) from nI_1 M]
/-- a new sieve leaves the others, and is one itself -/
theorem RI_begin {M : Nat} (hM : M < 30) {vIW vK vZ vM vC vR vL : Nat → Int32} (h : RI (nI M) vIW vK vZ vM vC vR vL) {K Z m : Nat} {k0 k1 k2 : Int32} (e0 : k0 = nI K) (e1 : k1 = nI Z) (e2 : k2 = nI m) (hk : RKp K Z m) (hl : K = 4 → ∀ i, i < Z → ∃ a, 3 ≤ a ∧ a ≤ 12 ∧ vL (20 * M + i) = nI (2 ^ a)) {c r : Int32} (hc : BN c) (hr : BN r) : RI (nI (M + 1)) vIW (upd vK M k0) (upd vZ M k1) (upd vM M k2) (upd vC M c) (upd vR M r) vL := by
  obtain ⟨⟨M', hM', eM, hs⟩, hw⟩ := h
  have : M = M' := (nI_eq (by omega) (by omega)).mp eM
  subst this
  refine ⟨⟨M + 1, by omega, rfl, fun s hs1 => ?_⟩, hw⟩
  by_cases e : s = M
  · subst e
    exact ⟨K, Z, m, by rw [pk_us, e0], by rw [pk_us, e1], by rw [pk_us, e2], hk, by rw [pk_us]; exact hc, by rw [pk_us]; exact hr, hl⟩
  · exact RS_congr (hs s (by omega)) (pk_un e) (pk_un e) (pk_un e) (pk_un e) (pk_un e) (fun _ _ => rfl)
theorem pow2_of {x : Int32} (hx : x ≠ 0) (h : x &&& (x - 1) = 0) : ∃ k, k < 32 ∧ x = nI (2 ^ k) := by
  obtain ⟨k, hk, ht, -⟩ := low_t hx
  refine ⟨k, hk, ?_⟩
  have e : x - 1 = nI (2 ^ k - 1) := by
    rw [← ht]
    apply b_ext
    intro i hi
    have h0 : bt (x &&& (x - 1)) i = false := by rw [h]; exact b_0 i
    rw [b_and] at h0
    rw [b_and, b_xor, b_m1 i hi]
    cases hb : bt x i
    · simp
    · rw [hb] at h0
      simp at h0
      simp [h0]
  have e2 : x = (x - 1) + 1 := by simp
  have hp : 0 < 2 ^ k := Nat.two_pow_pos k
  rw [e2, e, nI_1, show 2 ^ k - 1 + 1 = 2 ^ k by omega]
theorem wide_v {k1 : Int32} {l h : Nat} (hl : 1 ≤ l) (hl2 : l ≤ 4096) (hh : h ≤ 4096) : OK (mX9_isWide k1 (nI l) (nI h)) (fun z => z = 0 ∨ (z = 1 ∧ ∃ a, a ≤ 12 ∧ k1 = nI (2 ^ a) ∧ l ≤ 2 ^ a ∧ 2 ^ a ≤ h)) := by
  unfold mX9_isWide
  refine OK_ite (fun _ => OK_some (Or.inl rfl)) (fun h1 => OK_ite (fun _ => OK_some (Or.inl rfl)) (fun h2 => OK_ite (fun h3 => OK_some (Or.inr ⟨rfl, ?_⟩)) (fun _ => OK_some (Or.inl rfl))))
  have hp : ¬ k1 < 0 := fun q => h1 (Int32.lt_of_lt_of_le q (nI_pos' (by omega)))
  obtain ⟨Z, hZ, rfl⟩ := nI_of2 (M := nI h) (n := h) (nI_toInt (by omega)) hp (Int32.not_lt.mp h2)
  have hlZ : l ≤ Z := Nat.le_of_not_lt (fun q => h1 (nI_lt q (by omega)))
  obtain ⟨k, hk, e⟩ := pow2_of (x := nI Z) (nI_ne0 (by omega) (by omega)) h3
  have hk2 : 2 ^ k < 2 ^ 32 := Nat.pow_lt_pow_right (by decide) hk
  have eZ : Z = 2 ^ k := by
    have := congrArg (fun y : Int32 => y.toBitVec.toNat) e
    rw [pk_tn (by omega), pk_tn hk2] at this
    exact this
  have hk12 : k ≤ 12 := by
    apply Nat.le_of_not_lt
    intro q
    have := pow_up (a := 13) (b := k) q
    omega
  exact ⟨k, hk12, e, by omega, by omega⟩
theorem rmake_ok {many : Int32} {vIW vK vZ vM vC vR vL : Nat → Int32} (h : RI many vIW vK vZ vM vC vR vL) (vS vRow : Nat → Int32) (k0 k1 k2 k3 : Int32) : OK (mX9_make many vK vZ vM vS vC vRow vR k0 k1 k2 k3) (fun z => RI z.2.1 vIW z.2.2.1 z.2.2.2.1 z.2.2.2.2.1 z.2.2.2.2.2.2.1 z.2.2.2.2.2.2.2.2 vL) := by
  obtain ⟨M, hM, rfl, hs⟩ := h.1
  have h30 : ¬ nI M = (30 : Int32) → M < 30 := fun q => by
    have : M ≠ 30 := fun e => q (by rw [e]; rfl)
    omega
  unfold mX9_make
  refine OK_ite (fun _ => OK_some h) (fun h0 => OK_ite (fun h2 => OK_ite (fun hk => ?_) (fun hk => ?_)) (fun _ => OK_some h))
  · subst hk
    refine OK_bind (wide_v (k1 := k1) (l := 1) (h := 256) (by decide) (by decide) (by decide)) ?_
    rintro z (rfl | ⟨rfl, a, ha, rfl, -, ha2⟩)
    · exact OK_T rfl (OK_some h)
    · have ha8 : a ≤ 8 := by
        apply Nat.le_of_not_lt
        intro q
        have := pow_up (a := 9) (b := a) q
        omega
      refine OK_F (by decide) (OK_ite (fun _ => OK_some h) (fun q => OK_T rfl (OK_be (rbegin_v (h30 q) _ _ _ _ _ _ _ _ _ _ _) (OK_some ?_))))
      exact RI_begin (h30 q) h (K := 2) (Z := 2 ^ a) (m := 0) rfl rfl rfl (Or.inr (Or.inl ⟨rfl, ⟨a, ha8, rfl⟩, rfl⟩)) (fun q => absurd q (by decide)) BN_0 BN_0
  · refine OK_bind (wide_v (k1 := k1) (l := 8) (h := 4096) (by decide) (by decide) (by decide)) ?_
    rintro z (rfl | ⟨rfl, a, ha, rfl, ha3, -⟩)
    · exact OK_T rfl (OK_some h)
    · have ha3' : 3 ≤ a := by
        apply Nat.le_of_not_lt
        intro q
        have := pow_up (a := a) (b := 2) (by omega)
        omega
      obtain ⟨j, hj, rfl⟩ := nI_of2 (M := 2) (n := 2) rfl h0 h2
      have hj2 : j = 0 ∨ j = 1 := by
        rcases (show j = 0 ∨ j = 1 ∨ j = 2 by omega) with e | e | e
        · exact Or.inl e
        · exact Or.inr e
        · exact absurd (by rw [e]; rfl) hk
      refine OK_F (by decide) (OK_ite (fun _ => OK_some h) (fun q1 => OK_ite (fun q2 => OK_ite (fun _ => OK_some h) (fun q => OK_F hk (OK_be (rbegin_v (h30 q) _ _ _ _ _ _ _ _ _ _ _) (OK_some ?_)))) (fun _ => OK_some h)))
      have hp : ¬ k2 < 0 := fun w => q1 (Int32.lt_trans w (by decide))
      obtain ⟨m, hm, rfl⟩ := nI_of2 (M := 8) (n := 8) rfl hp q2
      exact RI_begin (h30 q) h (K := j) (Z := 2 ^ a) (m := m) rfl rfl rfl (Or.inl ⟨hj2, ⟨a, ha3', ha, rfl⟩, hm⟩) (fun q => by omega) BN_0 BN_0
theorem fillFrom_ok {vIW vC : Nat → Int32} {s w : Nat} (hs : s < 30) (hw : w < 8) (h : BN (vIW w)) (vW vCt : Nat → Int64) : OK (mX9_fillFrom vW vIW vCt vC (nI s) (nI w)) (fun z => z.2 = upd vC s (vIW w)) := by
  obtain ⟨k, hk, e⟩ := h
  unfold mX9_fillFrom
  rw [show Int32.toNatClampNeg (nI s) = s from clN (by omega), show Int32.toNatClampNeg (nI w) = w from clN (by omega)]
  refine OK_T (ix_nI hw) (OK_T (ix_nI hs) (OK_bind (P := fun _ => True) ?_ (fun _ _ => OK_some rfl)))
  refine OK_for (fun fu i (c : Nat → Int64) => mX9_fillFrom_L14 vW vIW (nI s) (nI w) fu i c) k (by omega) (fun _ _ => True) _ trivial ?_ ?_
  · intro fu c _
    show OK (mX9_fillFrom_L14 vW vIW (nI s) (nI w) (fu + 1) (nI k) c) _
    rw [mX9_fillFrom_L14, clN (k := w) (by omega), e]
    exact OK_T (ix_nI hw) (OK_T (Int32.le_refl _) (OK_some trivial))
  · intro fu i c hi _ ih
    show OK (mX9_fillFrom_L14 vW vIW (nI s) (nI w) (fu + 1) (nI i) c) _
    rw [mX9_fillFrom_L14, clN (k := w) (by omega), e, m1000, m1000, nI_s]
    exact OK_T (ix_nI hw) (OK_F (nI_ge hi (by omega)) (OK_T (ix_nI (by omega)) (OK_T (ix_nI (by omega)) (ih _ trivial))))
