/-! ===== LAYERED: who passes ===== -/
def LyL (c : Nat) (P : Nat → Prop) (m : Prop) : Prop := (∃ i, i < c ∧ (∀ j, j < i → P j) ∧ ¬ P i ∧ i % 2 = 1) ∨ ((∀ i, i < c → P i) ∧ (c % 2 = 1 ↔ ¬ m))
theorem LyL_at {c : Nat} {P : Nat → Prop} {m : Prop} {i : Nat} (hi : i < c) (h1 : ∀ j, j < i → P j) (h2 : ¬ P i) : LyL c P m ↔ i % 2 = 1 := by
  constructor
  · rintro (⟨k, hk, g1, g2, g3⟩ | ⟨g, -⟩)
    · rcases Nat.lt_trichotomy i k with w | w | w
      · exact absurd (g1 i w) h2
      · rw [w]; exact g3
      · exact absurd (h1 k w) g2
    · exact absurd (g i hi) h2
  · exact fun h => Or.inl ⟨i, hi, h1, h2, h⟩
theorem LyL_all {c : Nat} {P : Nat → Prop} {m : Prop} (h : ∀ i, i < c → P i) : LyL c P m ↔ (c % 2 = 1 ↔ ¬ m) := by
  constructor
  · rintro (⟨k, hk, g1, g2, g3⟩ | ⟨-, g⟩)
    · exact absurd (h k hk) g2
    · exact g
  · exact fun g => Or.inr ⟨h, g⟩
def B01 (Q : Prop) (z : Int32) : Prop := (z = 1 ∧ Q) ∨ (z = 0 ∧ ¬ Q)
theorem odd_x {i : Nat} (hi : i < 2 ^ 31) : (irm (nI i) (2 : Int32)) = (1 : Int32) ↔ i % 2 = 1 := by
  rw [show irm (nI i) (2 : Int32) = nI (i % 2) from r_d hi (by decide) (by decide)]
  exact nI_eq (b := 1) (by omega) (by decide)
theorem passesL_x {c R : Nat} (hc : c ≤ 20) (hR : R ≤ 1000) {sd : Int32} {N_ : Nat → Nat} {V_ : Nat → Nat → Int64} {kca lz : Nat → Int32} {ld : Nat → Nat → Int64} (hC : LyC sd c N_ V_ kca lz ld) {rv : Nat → Int64} (hr : rising rv R) (t : Int64) : OK (mX3_passes (nI c) sd (nI R) rv lz ld t) (B01 (LyL c (fun i => fL (N_ i) (V_ i) (sd + nI i) (szA (N_ i)) 3 t) (∃ k, k < R ∧ rv k = t))) := by
  unfold mX3_passes
  refine OK_bind (P := fun o => (∀ r, o = .inl r → B01 (LyL c (fun i => fL (N_ i) (V_ i) (sd + nI i) (szA (N_ i)) 3 t) (∃ k, k < R ∧ rv k = t)) r) ∧ ∀ r, o = .inr r → ∀ i, i < c → fL (N_ i) (V_ i) (sd + nI i) (szA (N_ i)) 3 t) ?_ (fun o ho => OK_sum (fun r hr1 => OK_some (ho.1 r hr1)) (fun r hr1 => ?_))
  · refine OK_for (fun fu i (_ : Unit) => mX3_passes_L2 (nI c) sd lz ld t fu i) c (by omega) (fun i _ => ∀ j, j < i → fL (N_ j) (V_ j) (sd + nI j) (szA (N_ j)) 3 t) _ (s := ()) (fun j hj => absurd hj (Nat.not_lt_zero j)) ?_ ?_
    · intro fu _ hs
      show OK (mX3_passes_L2 (nI c) sd lz ld t (fu + 1) (nI c)) _
      rw [mX3_passes_L2]
      exact OK_T (Int32.le_refl _) (OK_some ⟨fun r h => (nomatch h), fun _ _ => hs⟩)
    · intro fu i _ hi hs ih
      show OK (mX3_passes_L2 (nI c) sd lz ld t (fu + 1) (nI i)) _
      obtain ⟨g1, g2, g3, g4⟩ := hC i hi
      have hPx : (∀ j, j < 3 → bts (ld i) (mkN (nM (mixV t (sd + nI i))) j % 2 ^ szA (N_ i)) = true) ↔ fL (N_ i) (V_ i) (sd + nI i) (szA (N_ i)) 3 t := ⟨fun h j hj => (g4 _ (fP_lt4 _ _ _ _)).mp (h j hj), fun h j hj => (g4 _ (fP_lt4 _ _ _ _)).mpr (h j hj)⟩
      rw [mX3_passes_L2, clN (k := i) (by omega), g3, nI_s]
      refine OK_F (nI_ge hi (by omega)) (OK_T (ix_nI (by omega)) (OK_bind (P := B01 (fL (N_ i) (V_ i) (sd + nI i) (szA (N_ i)) 3 t)) ?_ ?_))
      · unfold mX3_passesLayer
        refine OK_T (ix_nI (by omega)) (OK_be (mix_c _ _) (OK_bind (hasMarks_x (m := 3) (szA_le (N_ i)).2 (by decide) (ld i) _) ?_))
        rintro z (⟨rfl, h⟩ | ⟨rfl, h⟩)
        · exact OK_T (Or.inr rfl) (OK_some (Or.inl ⟨rfl, hPx.mp h⟩))
        · exact OK_T (Or.inl rfl) (OK_some (Or.inr ⟨rfl, fun w => h (hPx.mpr w)⟩))
      · rintro z (⟨rfl, h⟩ | ⟨rfl, h⟩)
        · refine OK_F (by decide) (ih () (fun j hj => ?_))
          rcases Nat.lt_succ_iff_lt_or_eq.mp hj with w | w
          · exact hs j w
          · rw [w]; exact h
        · have key := LyL_at (P := fun i => fL (N_ i) (V_ i) (sd + nI i) (szA (N_ i)) 3 t) (m := ∃ k, k < R ∧ rv k = t) hi hs h
          refine OK_T rfl (OK_ite (fun q => OK_some ⟨fun r e => ?_, fun r e => (nomatch e)⟩) (fun q => OK_some ⟨fun r e => ?_, fun r e => (nomatch e)⟩))
          · injection e with e
            exact Or.inl ⟨e.symm, key.mpr ((odd_x (by omega)).mp q)⟩
          · injection e with e
            exact Or.inr ⟨e.symm, fun w => q ((odd_x (by omega)).mpr (key.mp w))⟩
  · have key := LyL_all (m := ∃ k, k < R ∧ rv k = t) (ho.2 r hr1)
    have hm := has_iff (t := t) hr hR
    refine OK_ite (fun q => OK_be (bag_has hR) ?_) (fun q => OK_be (bag_has hR) ?_)
    · have q2 := (odd_x (by omega)).mp q
      by_cases w : cb rv R t < R ∧ rv (cb rv R t) = t
      · rw [if_pos w]
        exact OK_T rfl (OK_some (Or.inr ⟨rfl, fun l => (key.mp l).mp q2 (hm.mp w)⟩))
      · rw [if_neg w]
        exact OK_F (by decide) (OK_some (Or.inl ⟨rfl, key.mpr ⟨fun _ h => w (hm.mpr h), fun _ => q2⟩⟩))
    · have q2 : ¬ c % 2 = 1 := fun e => q ((odd_x (by omega)).mpr e)
      by_cases w : cb rv R t < R ∧ rv (cb rv R t) = t
      · rw [if_pos w]
        exact OK_F (by decide) (OK_some (Or.inl ⟨rfl, key.mpr ⟨fun h => absurd h q2, fun h => absurd (hm.mp w) h⟩⟩))
      · rw [if_neg w]
        exact OK_T rfl (OK_some (Or.inr ⟨rfl, fun l => q2 ((key.mp l).mpr (fun h => w (hm.mpr h)))⟩))
theorem restIn_x {vRe : Nat → Int64} {vR : Nat → Int32} {s R : Nat} (hs : s < 30) (hR : R ≤ 1000) (e : vR s = nI R) {rv : Nat → Int64} (hv : ∀ k, k < R → vRe (1000 * s + k) = rv k) (t : Int64) : OK (mX9_layeredLets_L82 vRe vR (nI s) t FU 0 0) (fun z => B01 (∃ k, k < R ∧ rv k = t) z.2) := by
  refine OK_for (fun fu j (x : Int32) => mX9_layeredLets_L82 vRe vR (nI s) t fu j x) R (by omega) (fun j x => B01 (∃ k, k < j ∧ rv k = t) x) _ (s := 0) (Or.inr ⟨rfl, fun ⟨k, hk, _⟩ => absurd hk (Nat.not_lt_zero k)⟩) ?_ ?_
  · intro fu x hx
    show OK (mX9_layeredLets_L82 vRe vR (nI s) t (fu + 1) (nI R) x) _
    rw [mX9_layeredLets_L82, clN (k := s) (by omega), e]
    exact OK_T (ix_nI hs) (OK_T (Int32.le_refl _) (OK_some hx))
  · intro fu j x hj hx ih
    show OK (mX9_layeredLets_L82 vRe vR (nI s) t (fu + 1) (nI j) x) _
    rw [mX9_layeredLets_L82, clN (k := s) (by omega), e, m1000, nI_s, clN (k := 1000 * s + j) (by omega), hv j hj]
    refine OK_T (ix_nI hs) (OK_F (nI_ge hj (by omega)) ?_)
    have ex := ex_s (P := fun k => rv k = t) (k := j)
    rcases hx with ⟨rfl, h⟩ | ⟨rfl, h⟩
    · exact OK_F (by decide) (ih 1 (Or.inl ⟨rfl, ex.mpr (Or.inl h)⟩))
    · refine OK_T rfl (OK_T (ix_nI (by omega)) (OK_ite (fun q => ih 1 (Or.inl ⟨rfl, ex.mpr (Or.inr ((lg_cmp_eq _ _).mp q))⟩)) (fun q => ih 0 (Or.inr ⟨rfl, fun w => ?_⟩))))
      rcases ex.mp w with w | w
      · exact h w
      · exact q ((lg_cmp_eq _ _).mpr w)
theorem layeredR_x {vZ vS vB vL vR : Nat → Int32} {vRe : Nat → Int64} {s c R : Nat} (hs : s < 30) (hc : c ≤ 20) (eZ : vZ s = nI c) (hR : R ≤ 1000) (eR : vR s = nI R) {sd : Int32} (eS : vS s = sd) {N_ : Nat → Nat} {V_ : Nat → Nat → Int64} {vLC : Nat → Int32} (hL : LyR s sd c N_ V_ vLC vL vB) {rv : Nat → Int64} (hv : ∀ k, k < R → vRe (1000 * s + k) = rv k) (t : Int64) : OK (mX9_layeredLets vZ vS vB vL vRe vR (nI s) t) (B01 (LyL c (fun i => fL (N_ i) (V_ i) (sd + nI i) (szA (N_ i)) 3 t) (∃ k, k < R ∧ rv k = t))) := by
  unfold mX9_layeredLets
  refine OK_bind (P := fun o => (∀ r, o = .inl r → B01 (LyL c (fun i => fL (N_ i) (V_ i) (sd + nI i) (szA (N_ i)) 3 t) (∃ k, k < R ∧ rv k = t)) r) ∧ ∀ r, o = .inr r → ∀ i, i < c → fL (N_ i) (V_ i) (sd + nI i) (szA (N_ i)) 3 t) ?_ (fun o ho => OK_sum (fun r hr1 => OK_some (ho.1 r hr1)) (fun r hr1 => ?_))
  · refine OK_for (fun fu i (_ : Unit) => mX9_layeredLets_L3 vZ vS vB vL (nI s) t fu i) c (by omega) (fun i _ => ∀ j, j < i → fL (N_ j) (V_ j) (sd + nI j) (szA (N_ j)) 3 t) _ (s := ()) (fun j hj => absurd hj (Nat.not_lt_zero j)) ?_ ?_
    · intro fu _ hx
      show OK (mX9_layeredLets_L3 vZ vS vB vL (nI s) t (fu + 1) (nI c)) _
      rw [mX9_layeredLets_L3, clN (k := s) (by omega), eZ]
      exact OK_T (ix_nI hs) (OK_T (Int32.le_refl _) (OK_some ⟨fun r h => (nomatch h), fun _ _ => hx⟩))
    · intro fu i _ hi hx ih
      show OK (mX9_layeredLets_L3 vZ vS vB vL (nI s) t (fu + 1) (nI i)) _
      obtain ⟨g1, g2, g3, g4⟩ := hL i hi
      have hPx : (∀ j, j < 3 → rbt vB (20 * s + i) (fP t (vS s + nI i) (szA (N_ i)) j) = true) ↔ fL (N_ i) (V_ i) (sd + nI i) (szA (N_ i)) 3 t := by
        rw [eS]
        exact ⟨fun h j hj => (g4 _ (fP_lt _ _ _ _)).mp (h j hj), fun h j hj => (g4 _ (fP_lt _ _ _ _)).mpr (h j hj)⟩
      rw [mX9_layeredLets_L3, clN (k := s) (by omega), eZ, nI_s]
      refine OK_T (ix_nI hs) (OK_F (nI_ge hi (by omega)) (OK_bind (rlets_x hs (by omega) (szA_le (N_ i)).2 g3 t) ?_))
      rintro z (⟨rfl, h⟩ | ⟨rfl, h⟩)
      · refine OK_F (by decide) (ih () (fun j hj => ?_))
        rcases Nat.lt_succ_iff_lt_or_eq.mp hj with w | w
        · exact hx j w
        · rw [w]; exact hPx.mp h
      · have key := LyL_at (P := fun i => fL (N_ i) (V_ i) (sd + nI i) (szA (N_ i)) 3 t) (m := ∃ k, k < R ∧ rv k = t) hi hx (fun w => h (hPx.mpr w))
        refine OK_T rfl (OK_ite (fun q => OK_some ⟨fun r e => ?_, fun r e => (nomatch e)⟩) (fun q => OK_some ⟨fun r e => ?_, fun r e => (nomatch e)⟩))
        · injection e with e
          exact Or.inl ⟨e.symm, key.mpr ((odd_x (by omega)).mp q)⟩
        · injection e with e
          exact Or.inr ⟨e.symm, fun w => q ((odd_x (by omega)).mpr (key.mp w))⟩
  · have key := LyL_all (m := ∃ k, k < R ∧ rv k = t) (ho.2 r hr1)
    have no0 : vR s = 0 → ¬ ∃ k, k < R ∧ rv k = t := by
      rintro h0 ⟨k, hk, -⟩
      have := (nI_eq (a := R) (b := 0) (by omega) (by decide)).mp (eR.symm.trans h0)
      omega
    rw [clN (k := s) (by omega), eZ]
    refine OK_T (ix_nI hs) (OK_ite (fun q => OK_T (ix_nI hs) (OK_ite (fun q0 => OK_some (Or.inl ⟨rfl, key.mpr ⟨fun _ => no0 q0, fun _ => (odd_x (by omega)).mp q⟩⟩)) (fun q0 => OK_bind (restIn_x hs hR eR hv t) ?_))) (fun q => OK_T (ix_nI hs) (OK_ite (fun q0 => OK_some (Or.inr ⟨rfl, fun l => q ((odd_x (by omega)).mpr ((key.mp l).mpr (no0 q0)))⟩)) (fun q0 => OK_bind (restIn_x hs hR eR hv t) ?_))))
    · have q2 := (odd_x (by omega)).mp q
      rintro z (⟨e, h⟩ | ⟨e, h⟩)
      · exact OK_T e.symm (OK_some (Or.inr ⟨rfl, fun l => (key.mp l).mp q2 h⟩))
      · exact OK_F (by rw [e]; decide) (OK_some (Or.inl ⟨rfl, key.mpr ⟨fun _ => h, fun _ => q2⟩⟩))
    · have q2 : ¬ c % 2 = 1 := fun e => q ((odd_x (by omega)).mpr e)
      rintro z (⟨e, h⟩ | ⟨e, h⟩)
      · exact OK_F (by rw [e]; decide) (OK_some (Or.inl ⟨rfl, key.mpr ⟨fun w => absurd w q2, fun w => absurd h w⟩⟩))
      · exact OK_T e.symm (OK_some (Or.inr ⟨rfl, fun l => q2 ((key.mp l).mpr h)⟩))
/-! ===== both states: the closed kinds too ===== -/
def LaS (s : Nat) (vZ vB vL vLC : Nat → Int32) (vRe : Nat → Int64) (vR : Nat → Int32) : SlT → Prop := fun (kd, sz, mk1, sd, kc, n, v, lc, lsd, kca, rn, rv, lz, ld) => kd = 4 → ∃ (c : Nat) (N_ : Nat → Nat) (V_ : Nat → Nat → Int64) (R : Nat), c ≤ 20 ∧ sz = nI c ∧ vZ s = nI c ∧ lc = nI c ∧ lsd = sd ∧ LyC sd c N_ V_ kca lz ld ∧ LyR s sd c N_ V_ vLC vL vB ∧ R ≤ 1000 ∧ rn = nI R ∧ vR s = nI R ∧ rising rv R ∧ ∀ k, k < R → vRe (1000 * s + k) = rv k
def ClS (s : Nat) (vCt : Nat → Int64) (vC vRow : Nat → Int32) : SlT → Prop := fun (kd, sz, mk1, sd, kc, n, v, τ) => (kd = 3 → ∀ i, i < 4096 → vRow (4096 * s + i) = kc i) ∧ ((kd = 3 ∨ kd = 4) → ∃ k, k ≤ 1000 ∧ n = nI k ∧ vC s = nI k ∧ rising v k ∧ ∀ t, cB k v t = cB k (slC vCt s) t)
def ExH (M : Nat) (σ : Nat → SlT) : RT → Prop := fun (many, vW, vIW, vK, vZ, vM, vS, vCt, vC, vRow, vB, vL, vLC, vRe, vR) => ∀ s, s < M → ClS s vCt vC vRow (σ s) ∧ LaS s vZ vB vL vLC vRe vR (σ s)
theorem ClS_c {s : Nat} {vCt Ct1 : Nat → Int64} {vC C1 vRow row1 : Nat → Int32} {τ : SlT} (h : ClS s vCt vC vRow τ) (e1 : C1 s = vC s) (e2 : AG 1000 (slC Ct1 s) (slC vCt s)) (e3 : ∀ i, i < 4096 → row1 (4096 * s + i) = vRow (4096 * s + i)) : ClS s Ct1 C1 row1 τ := by
  obtain ⟨kd, sz, mk, sd, kc, n, v, τ⟩ := τ
  obtain ⟨h1, h2⟩ := h
  refine ⟨fun q i hi => (e3 i hi).trans (h1 q i hi), fun q => ?_⟩
  obtain ⟨k, hk, g1, g2, g3, g4⟩ := h2 q
  exact ⟨k, hk, g1, e1.trans g2, g3, fun t => (g4 t).trans (cB_ext (fun i hi => (e2 i (by omega)).symm))⟩
theorem LaS_c {s : Nat} {vZ vB vL vLC : Nat → Int32} {vRe : Nat → Int64} {vR wZ wB wL wC : Nat → Int32} {re : Nat → Int64} {wR : Nat → Int32} {τ : SlT} (h : LaS s vZ vB vL vLC vRe vR τ) (e1 : wZ s = vZ s) (e2 : wR s = vR s) (e3 : ∀ j, j < 20 → wL (20 * s + j) = vL (20 * s + j) ∧ wC (20 * s + j) = vLC (20 * s + j)) (e4 : ∀ r, 2560 * s ≤ r → r < 2560 * s + 2560 → wB r = vB r) (e5 : ∀ k, k < 1000 → re (1000 * s + k) = vRe (1000 * s + k)) : LaS s wZ wB wL wC re wR τ := by
  obtain ⟨kd, sz, mk, sd, kc, n, v, lc, lsd, kca, rn, rv, lz, ld⟩ := τ
  intro q
  obtain ⟨c, N_, V_, R, g1, g2, g3, g4, g5, g6, g7, g8, g9, g10, g11, g12⟩ := h q
  refine ⟨c, N_, V_, R, g1, g2, e1.trans g3, g4, g5, g6, fun j hj => ?_, g8, g9, e2.trans g10, g11, fun k hk => (e5 k (by omega)).trans (g12 k hk)⟩
  obtain ⟨b1, b2, b3, b4⟩ := g7 j hj
  obtain ⟨f1, f2⟩ := e3 j (by omega)
  refine ⟨b1, f2.trans b2, f1.trans b3, fun p hp => ?_⟩
  have hp2 := szA_pow (N_ j)
  have eb : rbt wB (20 * s + j) p = rbt vB (20 * s + j) p := by
    unfold rbt
    rw [e4 _ (by omega) (by omega)]
  rw [eb]
  exact b4 p hp
