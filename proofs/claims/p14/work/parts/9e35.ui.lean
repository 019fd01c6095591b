/-! ===== about ===== -/
def wS (f : Nat → Int32) (x : Int32) : Nat → Int32
  | 0 => x
  | k + 1 => wS f x k + f k
theorem wS_ext {f g : Nat → Int32} (x : Int32) : ∀ {k : Nat}, (∀ i, i < k → f i = g i) → wS f x k = wS g x k := by
  intro k
  induction k with
  | zero => intro _; rfl
  | succ k ih =>
    intro h
    show wS f x k + f k = wS g x k + g k
    rw [ih (fun i hi => h i (by omega)), h k (by omega)]
theorem weightC_x {c : Nat} (hc : c ≤ 20) (rn : Int32) (lz : Nat → Int32) : OK (mX3_weight (nI c) rn lz) (fun z => z = wS lz ((64 : Int32) * rn) c) := by
  unfold mX3_weight
  refine OK_be rfl (OK_bind (P := fun z => z.2 = wS lz ((64 : Int32) * rn) c) ?_ (fun z hz => OK_some hz))
  refine OK_for (fun fu i (x : Int32) => mX3_weight_L13 (nI c) lz fu i x) c (by omega) (fun i x => x = wS lz ((64 : Int32) * rn) i) _ (s := (64 : Int32) * rn) rfl ?_ ?_
  · intro fu x hx
    show OK (mX3_weight_L13 (nI c) lz (fu + 1) (nI c) x) _
    rw [mX3_weight_L13]
    exact OK_T (Int32.le_refl _) (OK_some hx)
  · intro fu i x hi hx ih
    show OK (mX3_weight_L13 (nI c) lz (fu + 1) (nI i) x) _
    rw [mX3_weight_L13, clN (k := i) (by omega), nI_s]
    refine OK_F (nI_ge hi (by omega)) (OK_T (ix_nI (by omega)) (OK_be rfl (ih _ ?_)))
    show x + lz i = wS lz ((64 : Int32) * rn) i + lz i
    rw [hx]
theorem weightR_x {s c : Nat} (hs : s < 30) (hc : c ≤ 20) {vZ : Nat → Int32} (eZ : vZ s = nI c) (vL : Nat → Int32) (x0 : Int32) : OK (mX9_weight_L84 vZ vL (nI s) FU 0 x0) (fun z => z.2 = wS (fun i => vL (20 * s + i)) x0 c) := by
  refine OK_for (fun fu i (x : Int32) => mX9_weight_L84 vZ vL (nI s) fu i x) c (by omega) (fun i x => x = wS (fun i => vL (20 * s + i)) x0 i) _ (s := x0) rfl ?_ ?_
  · intro fu x hx
    show OK (mX9_weight_L84 vZ vL (nI s) (fu + 1) (nI c) x) _
    rw [mX9_weight_L84, clN (k := s) (by omega), eZ]
    exact OK_T (ix_nI hs) (OK_T (Int32.le_refl _) (OK_some hx))
  · intro fu i x hi hx ih
    show OK (mX9_weight_L84 vZ vL (nI s) (fu + 1) (nI i) x) _
    rw [mX9_weight_L84, clN (k := s) (by omega), eZ, m20, nI_s, clN (k := 20 * s + i) (by omega)]
    refine OK_T (ix_nI hs) (OK_F (nI_ge hi (by omega)) (OK_T (ix_nI (by omega)) (OK_lt (ih _ ?_))))
    show x + vL (20 * s + i) = wS (fun i => vL (20 * s + i)) x0 i + vL (20 * s + i)
    rw [hx]
theorem weight_eq {s : Nat} (hs : s < 30) {vK vZ vM vS : Nat → Int32} {vCt : Nat → Int64} {vC vRow vB vL vLC : Nat → Int32} {vRe : Nat → Int64} {vR : Nat → Int32} (hS : RS vK vZ vM vC vR vL s) {kd sz mk sd : Int32} {kc : Nat → Int32} {n : Int32} {v : Nat → Int64} {lc lsd : Int32} {kca : Nat → Int32} {rn : Int32} {rv : Nat → Int64} {lz : Nat → Int32} {ld : Nat → Nat → Int64} (hd : HdS s vK vZ vM vS (kd, sz, mk, sd, kc, n, v, lc, lsd, kca, rn, rv, lz, ld)) (hG : CeG s vRow (kd, sz, mk, sd, kc, n, v, lc, lsd, kca, rn, rv, lz, ld)) (hC : ClS s vCt vC vRow (kd, sz, mk, sd, kc, n, v, lc, lsd, kca, rn, rv, lz, ld)) (hL : LaS s vZ vB vL vLC vRe vR (kd, sz, mk, sd, kc, n, v, lc, lsd, kca, rn, rv, lz, ld)) : ∃ z, mX9_weight vK vZ vL vR (nI s) = some z ∧ (¬ kd = 4 → mX6_weightG kd sz = some z) ∧ (kd = 4 → mX6_weightL kd sz lc rn lz = some z) := by
  obtain ⟨b1, b2, b3, b4, b5⟩ := hd
  have i30 := ix_nI (k := s) (n := 30) hs
  by_cases ho : Op3 kd
  · have es := b4 ho
    unfold mX9_weight mX6_weightG
    rw [clN (k := s) (by omega), if_pos i30, ← b1, ← es]
    rcases ho with e | e | e
    · rw [if_pos e, if_pos i30, if_neg (by rw [e]; decide), if_neg (by rw [e]; decide), if_neg (by rw [e]; decide), if_neg (by rw [e]; decide)]
      exact ⟨_, rfl, fun _ => rfl, fun q => absurd (e.symm.trans q) (by decide)⟩
    · rw [if_neg (by rw [e]; decide), if_pos e, if_pos i30, if_pos e]
      exact ⟨_, rfl, fun _ => rfl, fun q => absurd (e.symm.trans q) (by decide)⟩
    · rw [if_neg (by rw [e]; decide), if_neg (by rw [e]; decide), if_pos e, if_pos i30, if_neg (by rw [e]; decide), if_pos e]
      exact ⟨_, rfl, fun _ => rfl, fun q => absurd (e.symm.trans q) (by decide)⟩
  · have hcl : vK s = 3 ∨ vK s = 4 := RS_cl hS (by rw [← b1]; exact ho)
    rcases hcl with k3 | k4
    · have ek : kd = 3 := b1.trans k3
      obtain ⟨Z, hZ, eZ, es⟩ := b5 ek
      unfold mX9_weight mX6_weightG
      rw [clN (k := s) (by omega), if_pos i30, if_neg (by rw [k3]; decide), if_neg (by rw [k3]; decide), if_neg (by rw [k3]; decide), if_pos k3, if_pos i30, if_neg (by rw [ek]; decide), if_neg (by rw [ek]; decide), if_pos ek, eZ, es]
      refine ⟨_, rfl, fun _ => ?_, fun q => absurd (ek.symm.trans q) (by decide)⟩
      rw [show (8 : Int32) * nI (3 * Z) = nI (8 * (3 * Z)) from pk_mul 8 (3 * Z), show (24 : Int32) * nI Z = nI (24 * Z) from pk_mul 24 Z, show 8 * (3 * Z) = 24 * Z by omega]
    · have ek : kd = 4 := b1.trans k4
      obtain ⟨c, N_, V_, R, g1, g2, g3, g4, g5, g6, g7, g8, g9, g10, g11, g12⟩ := hL ek
      obtain ⟨z8, e8, h8⟩ := weightC_x g1 rn lz
      obtain ⟨z9, e9, h9⟩ := weightR_x hs g1 g3 vL ((64 : Int32) * vR s)
      have ez : z8 = z9.2 := by
        rw [h8, h9, g9, g10]
        exact wS_ext _ (fun i hi => (g6 i hi).2.2.1.trans (g7 i hi).2.2.1.symm)
      unfold mX9_weight mX6_weightL
      rw [clN (k := s) (by omega), if_pos i30, if_neg (by rw [k4]; decide), if_neg (by rw [k4]; decide), if_neg (by rw [k4]; decide), if_neg (by rw [k4]; decide), if_pos i30]
      refine ⟨z9.2, ?_, fun q => absurd ek q, fun _ => ?_⟩
      · show ((mX9_weight_L84 vZ vL (nI s) FU (0 : Int32) ((64 : Int32) * vR s)).bind fun o84 => some o84.2) = _
        rw [e9, sb_]
      · rw [if_neg (by rw [ek]; decide), if_neg (by rw [ek]; decide), if_neg (by rw [ek]; decide), if_pos ek, g4, e8, sb_, ez]
/-! filled -/
theorem filledC_x {kd sz : Int32} {p : Nat} (hp : p ≤ 4096) (e : mX6_places kd sz = some (nI p)) (h4 : ¬ kd = 4) (kc : Nat → Int32) : OK (mX6_filledG kd sz kc) (fun z => z = nI (fC (fun i => ¬ kc i ≤ 0) p)) := by
  unfold mX6_filledG
  refine OK_F h4 (OK_bind (P := fun z => z.2 = nI (fC (fun i => ¬ kc i ≤ 0) p)) ?_ (fun z hz => OK_some hz))
  refine OK_for (fun fu i (x : Int32) => mX6_filledG_L31 kd sz kc fu i x) p (by omega) (fun i x => x = nI (fC (fun i => ¬ kc i ≤ 0) i)) _ (s := 0) rfl ?_ ?_
  · intro fu x hx
    show OK (mX6_filledG_L31 kd sz kc (fu + 1) (nI p) x) _
    rw [mX6_filledG_L31]
    exact OK_be e (OK_T (Int32.le_refl _) (OK_some hx))
  · intro fu i x hi hx ih
    show OK (mX6_filledG_L31 kd sz kc (fu + 1) (nI i) x) _
    rw [mX6_filledG_L31, nI_s]
    refine OK_be e (OK_F (nI_ge hi (by omega)) (OK_be (cell_in (by omega)) (OK_ite (fun q => ih _ ?_) (fun q => ih _ ?_))))
    · rw [fC_n (P := fun i => ¬ kc i ≤ 0) (fun w => w q)]
      exact hx
    · rw [fC_y (P := fun i => ¬ kc i ≤ 0) q, hx, nI_1]
theorem filledR_x {s p : Nat} (hs : s < 30) (hp : p ≤ 4096) {vK vZ vRow kc : Nat → Int32} (e : mX9_places vK vZ (nI s) = some (nI p)) (hr : ∀ i, i < 4096 → vRow (4096 * s + i) = kc i) : OK (mX9_filled_L21 vK vZ vRow (nI s) FU 0 0) (fun z => z.2 = nI (fC (fun i => ¬ kc i ≤ 0) p)) := by
  refine OK_for (fun fu i (x : Int32) => mX9_filled_L21 vK vZ vRow (nI s) fu i x) p (by omega) (fun i x => x = nI (fC (fun i => ¬ kc i ≤ 0) i)) _ (s := 0) rfl ?_ ?_
  · intro fu x hx
    show OK (mX9_filled_L21 vK vZ vRow (nI s) (fu + 1) (nI p) x) _
    rw [mX9_filled_L21]
    exact OK_be e (OK_T (Int32.le_refl _) (OK_some hx))
  · intro fu i x hi hx ih
    show OK (mX9_filled_L21 vK vZ vRow (nI s) (fu + 1) (nI i) x) _
    rw [mX9_filled_L21, m4096, nI_s, clN (k := 4096 * s + i) (by omega), hr i (by omega)]
    refine OK_be e (OK_F (nI_ge hi (by omega)) (OK_T (ix_nI (by omega)) (OK_ite (fun q => ih _ ?_) (fun q => ih _ ?_))))
    · rw [fC_n (P := fun i => ¬ kc i ≤ 0) (fun w => w q), Int32.add_zero]
      exact hx
    · rw [fC_y (P := fun i => ¬ kc i ≤ 0) q, hx, nI_1]
theorem filled_eq {s : Nat} (hs : s < 30) {vK vZ vM vS : Nat → Int32} {vCt : Nat → Int64} {vC vRow vB vL vLC : Nat → Int32} {vRe : Nat → Int64} {vR : Nat → Int32} (hS : RS vK vZ vM vC vR vL s) {kd sz mk sd : Int32} {kc : Nat → Int32} {n : Int32} {v : Nat → Int64} {lc lsd : Int32} {kca : Nat → Int32} {rn : Int32} {rv : Nat → Int64} {lz : Nat → Int32} {ld : Nat → Nat → Int64} (hd : HdS s vK vZ vM vS (kd, sz, mk, sd, kc, n, v, lc, lsd, kca, rn, rv, lz, ld)) (hG : CeG s vRow (kd, sz, mk, sd, kc, n, v, lc, lsd, kca, rn, rv, lz, ld)) (hC : ClS s vCt vC vRow (kd, sz, mk, sd, kc, n, v, lc, lsd, kca, rn, rv, lz, ld)) (hL : LaS s vZ vB vL vLC vRe vR (kd, sz, mk, sd, kc, n, v, lc, lsd, kca, rn, rv, lz, ld)) : ∃ z, mX9_filled vK vZ vRow vR (nI s) = some z ∧ (¬ kd = 4 → mX6_filledG kd sz kc = some z) ∧ (kd = 4 → mX6_filledL kd sz kc rn = some z) := by
  obtain ⟨b1, b2, b3, b4, b5⟩ := hd
  have i30 := ix_nI (k := s) (n := 30) hs
  have go : ∀ p : Nat, p ≤ 4096 → mX6_places kd sz = some (nI p) → mX9_places vK vZ (nI s) = some (nI p) → ¬ kd = 4 → (∀ i, i < 4096 → vRow (4096 * s + i) = kc i) → ∃ z, mX9_filled vK vZ vRow vR (nI s) = some z ∧ (¬ kd = 4 → mX6_filledG kd sz kc = some z) ∧ (kd = 4 → mX6_filledL kd sz kc rn = some z) := by
    intro p hp e1 e2 h4 hr
    obtain ⟨z8, e8, h8⟩ := filledC_x hp e1 h4 kc
    obtain ⟨z9, e9, h9⟩ := filledR_x hs hp e2 hr
    refine ⟨z8, ?_, fun _ => e8, fun q => absurd q h4⟩
    unfold mX9_filled
    rw [clN (k := s) (by omega), if_pos i30, ← b1, if_neg h4, e9, sb_, h9, h8]
  by_cases ho : Op3 kd
  · have hoR : Op3 (vK s) := by rw [← b1]; exact ho
    obtain ⟨a, m, ha, ha2, hm, eZ, eM⟩ := RS_012 hS hoR
    have es := (b4 ho).trans eZ
    obtain ⟨q1, q2⟩ := hG ho
    by_cases k2 : kd = 2
    · have a8 := ha2 (b1.symm.trans k2)
      have hp := pow_up a8
      refine go (4 * 2 ^ a) (by omega) ?_ ?_ (op_n4 ho) q1
      · unfold mX6_places
        rw [if_pos k2, es, show (4 : Int32) * nI (2 ^ a) = nI (4 * 2 ^ a) from pk_mul 4 (2 ^ a)]
      · unfold mX9_places
        rw [clN (k := s) (by omega), if_pos i30, if_pos (b1.symm.trans k2), if_pos i30, eZ, show (4 : Int32) * nI (2 ^ a) = nI (4 * 2 ^ a) from pk_mul 4 (2 ^ a)]
    · have hp := pow_up ha
      have k3 : ¬ vK s = 3 := fun e => no3 e hoR
      refine go (2 ^ a) (by omega) ?_ ?_ (op_n4 ho) q1
      · unfold mX6_places
        rw [if_neg k2, es]
      · unfold mX9_places
        rw [clN (k := s) (by omega), if_pos i30, if_neg (fun e => k2 (b1.trans e)), if_pos i30, if_neg k3, if_pos i30, eZ]
  · have hcl : vK s = 3 ∨ vK s = 4 := RS_cl hS (by rw [← b1]; exact ho)
    rcases hcl with k3 | k4
    · have ek : kd = 3 := b1.trans k3
      obtain ⟨Z, hZ, eZ, es⟩ := b5 ek
      refine go (3 * Z) (by omega) ?_ ?_ (by rw [ek]; decide) (hC.1 ek)
      · unfold mX6_places
        rw [if_neg (by rw [ek]; decide), es]
      · unfold mX9_places
        rw [clN (k := s) (by omega), if_pos i30, if_neg (by rw [k3]; decide), if_pos i30, if_pos k3, if_pos i30, eZ, show (3 : Int32) * nI Z = nI (3 * Z) from pk_mul 3 Z]
    · have ek : kd = 4 := b1.trans k4
      obtain ⟨c, N_, V_, R, g1, g2, g3, g4, g5, g6, g7, g8, g9, g10, g11, g12⟩ := hL ek
      refine ⟨nI R, ?_, fun q => absurd ek q, fun _ => ?_⟩
      · unfold mX9_filled
        rw [clN (k := s) (by omega), if_pos i30, if_pos k4, if_pos i30, g10]
      · unfold mX6_filledL
        rw [if_pos ek, g9]
        rfl
theorem about_eq {M s : Nat} (hM : M ≤ 30) (hsM : s < M) (hs : s < 30) {vK vZ vM vS : Nat → Int32} {vCt : Nat → Int64} {vC vRow vB vL vLC : Nat → Int32} {vRe : Nat → Int64} {vR : Nat → Int32} (hS : RS vK vZ vM vC vR vL s) {kd sz mk sd : Int32} {kc : Nat → Int32} {n : Int32} {v : Nat → Int64} {lc lsd : Int32} {kca : Nat → Int32} {rn : Int32} {rv : Nat → Int64} {lz : Nat → Int32} {ld : Nat → Nat → Int64} (hd : HdS s vK vZ vM vS (kd, sz, mk, sd, kc, n, v, lc, lsd, kca, rn, rv, lz, ld)) (hG : CeG s vRow (kd, sz, mk, sd, kc, n, v, lc, lsd, kca, rn, rv, lz, ld)) (hC : ClS s vCt vC vRow (kd, sz, mk, sd, kc, n, v, lc, lsd, kca, rn, rv, lz, ld)) (hL : LaS s vZ vB vL vLC vRe vR (kd, sz, mk, sd, kc, n, v, lc, lsd, kca, rn, rv, lz, ld)) {k : Nat} (en : n = nI k) (ec : vC s = nI k) {wh x8 x9 : Int32} (q1 : ¬ kd = 4 → mX8_aboutG wh kd sz mk sd kc n = some x8) (q2 : kd = 4 → mX8_aboutL wh kd sz mk sd kc n lc rn lz = some x8) (h9 : mX9_about (nI M) vK vZ vM vS vC vRow vL vR (nI s) wh = some x9) : x8 = x9 := by
  obtain ⟨zw, w9, wG, wL⟩ := weight_eq hs hS hd hG hC hL
  obtain ⟨zf, f9, fG, fL2⟩ := filled_eq hs hS hd hG hC hL
  have i30 := ix_nI (k := s) (n := 30) hs
  have ez1 : ∃ z, (if vK s = (3 : Int32) then (if ix (nI s) 30 = true then (some ((3 : Int32) * vZ s)) else none) else (if ix (nI s) 30 = true then (some (vZ s)) else none)) = some z ∧ sz = z := by
    by_cases k3 : vK s = 3
    · obtain ⟨Z, hZ, eZ, es⟩ := hd.2.2.2.2 (hd.1.trans k3)
      rw [if_pos k3, if_pos i30]
      exact ⟨_, rfl, by rw [es, eZ, show (3 : Int32) * nI Z = nI (3 * Z) from pk_mul 3 Z]⟩
    · rw [if_neg k3, if_pos i30]
      refine ⟨_, rfl, ?_⟩
      by_cases ho : Op3 kd
      · exact hd.2.2.2.1 ho
      · have hcl : vK s = 3 ∨ vK s = 4 := RS_cl hS (by rw [← hd.1]; exact ho)
        obtain ⟨c, N_, V_, R, g1, g2, g3, -⟩ := hL (hd.1.trans (hcl.resolve_left k3))
        rw [g2, g3]
  obtain ⟨z1, ez1, es1⟩ := ez1
  unfold mX9_about at h9
  rw [is_y hM hsM, sb_, if_neg (show ¬ (1 : Int32) = 0 by decide)] at h9
  rw [clN (k := s) (by omega)] at h9
  by_cases w0 : wh < 0
  · rw [if_pos w0] at h9
    have hne : ∀ c : Int32, 0 ≤ c → ¬ wh = c := fun c hc e => absurd w0 (by rw [e]; exact Int32.not_lt.mpr hc)
    by_cases k4 : kd = 4
    · have h8 := q2 k4
      unfold mX8_aboutL at h8
      rw [if_neg (hne 0 (by decide)), if_neg (hne 1 (by decide)), if_neg (hne 2 (by decide)), if_neg (hne 3 (by decide)), if_neg (hne 4 (by decide)), if_neg (hne 5 (by decide)), if_neg (hne 6 (by decide))] at h8
      exact Option.some.inj (h8.symm.trans h9)
    · have h8 := q1 k4
      unfold mX8_aboutG at h8
      rw [if_neg (hne 0 (by decide)), if_neg (hne 1 (by decide)), if_neg (hne 2 (by decide)), if_neg (hne 3 (by decide)), if_neg (hne 4 (by decide)), if_neg (hne 5 (by decide)), if_neg (hne 6 (by decide))] at h8
      exact Option.some.inj (h8.symm.trans h9)
  · by_cases w6 : wh ≤ 6
    · have hcase : wh = 0 ∨ wh = 1 ∨ wh = 2 ∨ wh = 3 ∨ wh = 4 ∨ wh = 5 ∨ wh = 6 := by
        obtain ⟨q, hq, e⟩ := nI_of2 (M := nI 6) (n := 6) (nI_toInt (by omega)) w0 w6
        rw [e]
        rcases (show q = 0 ∨ q = 1 ∨ q = 2 ∨ q = 3 ∨ q = 4 ∨ q = 5 ∨ q = 6 by omega) with e | e | e | e | e | e | e
        · rw [e]; exact Or.inl rfl
        · rw [e]; exact Or.inr (Or.inl rfl)
        · rw [e]; exact Or.inr (Or.inr (Or.inl rfl))
        · rw [e]; exact Or.inr (Or.inr (Or.inr (Or.inl rfl)))
        · rw [e]; exact Or.inr (Or.inr (Or.inr (Or.inr (Or.inl rfl))))
        · rw [e]; exact Or.inr (Or.inr (Or.inr (Or.inr (Or.inr (Or.inl rfl)))))
        · rw [e]; exact Or.inr (Or.inr (Or.inr (Or.inr (Or.inr (Or.inr rfl)))))
      rcases hcase with e | e | e | e | e | e | e
      · rw [e] at h9 q1 q2
        rw [if_neg (show ¬ (0 : Int32) < 0 by decide), if_pos (show (0 : Int32) ≤ 6 by decide), if_pos (show (0 : Int32) = 0 from rfl)] at h9
        rw [if_pos i30] at h9
        have e9 := Option.some.inj h9
        by_cases k4 : kd = 4
        · have h8 := q2 k4
          unfold mX8_aboutL at h8
          rw [if_pos (show (0 : Int32) = 0 from rfl)] at h8
          exact ((Option.some.inj h8).symm.trans (hd.1)).trans e9
        · have h8 := q1 k4
          unfold mX8_aboutG at h8
          rw [if_pos (show (0 : Int32) = 0 from rfl)] at h8
          exact ((Option.some.inj h8).symm.trans (hd.1)).trans e9
      · rw [e] at h9 q1 q2
        rw [if_neg (show ¬ (1 : Int32) < 0 by decide), if_pos (show (1 : Int32) ≤ 6 by decide), if_neg (show ¬ (1 : Int32) = 0 by decide), if_pos (show (1 : Int32) = 1 from rfl)] at h9
        rw [if_pos i30, ez1] at h9
        have e9 := Option.some.inj h9
        by_cases k4 : kd = 4
        · have h8 := q2 k4
          unfold mX8_aboutL at h8
          rw [if_neg (show ¬ (1 : Int32) = 0 by decide), if_pos (show (1 : Int32) = 1 from rfl)] at h8
          exact ((Option.some.inj h8).symm.trans es1).trans e9
        · have h8 := q1 k4
          unfold mX8_aboutG at h8
          rw [if_neg (show ¬ (1 : Int32) = 0 by decide), if_pos (show (1 : Int32) = 1 from rfl)] at h8
          exact ((Option.some.inj h8).symm.trans es1).trans e9
      · rw [e] at h9 q1 q2
        rw [if_neg (show ¬ (2 : Int32) < 0 by decide), if_pos (show (2 : Int32) ≤ 6 by decide), if_neg (show ¬ (2 : Int32) = 0 by decide), if_neg (show ¬ (2 : Int32) = 1 by decide), if_pos (show (2 : Int32) = 2 from rfl)] at h9
        rw [if_pos i30] at h9
        have e9 := Option.some.inj h9
        by_cases k4 : kd = 4
        · have h8 := q2 k4
          unfold mX8_aboutL at h8
          rw [if_neg (show ¬ (2 : Int32) = 0 by decide), if_neg (show ¬ (2 : Int32) = 1 by decide), if_pos (show (2 : Int32) = 2 from rfl)] at h8
          exact ((Option.some.inj h8).symm.trans (hd.2.1)).trans e9
        · have h8 := q1 k4
          unfold mX8_aboutG at h8
          rw [if_neg (show ¬ (2 : Int32) = 0 by decide), if_neg (show ¬ (2 : Int32) = 1 by decide), if_pos (show (2 : Int32) = 2 from rfl)] at h8
          exact ((Option.some.inj h8).symm.trans (hd.2.1)).trans e9
      · rw [e] at h9 q1 q2
        rw [if_neg (show ¬ (3 : Int32) < 0 by decide), if_pos (show (3 : Int32) ≤ 6 by decide), if_neg (show ¬ (3 : Int32) = 0 by decide), if_neg (show ¬ (3 : Int32) = 1 by decide), if_neg (show ¬ (3 : Int32) = 2 by decide), if_pos (show (3 : Int32) = 3 from rfl)] at h9
        rw [if_pos i30] at h9
        have e9 := Option.some.inj h9
        by_cases k4 : kd = 4
        · have h8 := q2 k4
          unfold mX8_aboutL at h8
          rw [if_neg (show ¬ (3 : Int32) = 0 by decide), if_neg (show ¬ (3 : Int32) = 1 by decide), if_neg (show ¬ (3 : Int32) = 2 by decide), if_pos (show (3 : Int32) = 3 from rfl)] at h8
          exact ((Option.some.inj h8).symm.trans (hd.2.2.1)).trans e9
        · have h8 := q1 k4
          unfold mX8_aboutG at h8
          rw [if_neg (show ¬ (3 : Int32) = 0 by decide), if_neg (show ¬ (3 : Int32) = 1 by decide), if_neg (show ¬ (3 : Int32) = 2 by decide), if_pos (show (3 : Int32) = 3 from rfl)] at h8
          exact ((Option.some.inj h8).symm.trans (hd.2.2.1)).trans e9
      · rw [e] at h9 q1 q2
        rw [if_neg (show ¬ (4 : Int32) < 0 by decide), if_pos (show (4 : Int32) ≤ 6 by decide), if_neg (show ¬ (4 : Int32) = 0 by decide), if_neg (show ¬ (4 : Int32) = 1 by decide), if_neg (show ¬ (4 : Int32) = 2 by decide), if_neg (show ¬ (4 : Int32) = 3 by decide), if_pos (show (4 : Int32) = 4 from rfl)] at h9
        rw [if_pos i30] at h9
        have e9 := Option.some.inj h9
        by_cases k4 : kd = 4
        · have h8 := q2 k4
          unfold mX8_aboutL at h8
          rw [if_neg (show ¬ (4 : Int32) = 0 by decide), if_neg (show ¬ (4 : Int32) = 1 by decide), if_neg (show ¬ (4 : Int32) = 2 by decide), if_neg (show ¬ (4 : Int32) = 3 by decide), if_pos (show (4 : Int32) = 4 from rfl)] at h8
          have h8 : some n = some x8 := h8
          exact ((Option.some.inj h8).symm.trans (en.trans ec.symm)).trans e9
        · have h8 := q1 k4
          unfold mX8_aboutG at h8
          rw [if_neg (show ¬ (4 : Int32) = 0 by decide), if_neg (show ¬ (4 : Int32) = 1 by decide), if_neg (show ¬ (4 : Int32) = 2 by decide), if_neg (show ¬ (4 : Int32) = 3 by decide), if_pos (show (4 : Int32) = 4 from rfl)] at h8
          have h8 : some n = some x8 := h8
          exact ((Option.some.inj h8).symm.trans (en.trans ec.symm)).trans e9
      · rw [e] at h9 q1 q2
        rw [if_neg (show ¬ (5 : Int32) < 0 by decide), if_pos (show (5 : Int32) ≤ 6 by decide), if_neg (show ¬ (5 : Int32) = 0 by decide), if_neg (show ¬ (5 : Int32) = 1 by decide), if_neg (show ¬ (5 : Int32) = 2 by decide), if_neg (show ¬ (5 : Int32) = 3 by decide), if_neg (show ¬ (5 : Int32) = 4 by decide), if_pos (show (5 : Int32) = 5 from rfl)] at h9
        rw [w9, sb_] at h9
        by_cases k4 : kd = 4
        · have h8 := q2 k4
          unfold mX8_aboutL at h8
          rw [if_neg (show ¬ (5 : Int32) = 0 by decide), if_neg (show ¬ (5 : Int32) = 1 by decide), if_neg (show ¬ (5 : Int32) = 2 by decide), if_neg (show ¬ (5 : Int32) = 3 by decide), if_neg (show ¬ (5 : Int32) = 4 by decide), if_pos (show (5 : Int32) = 5 from rfl), wL k4, sb_] at h8
          exact Option.some.inj (h8.symm.trans h9)
        · have h8 := q1 k4
          unfold mX8_aboutG at h8
          rw [if_neg (show ¬ (5 : Int32) = 0 by decide), if_neg (show ¬ (5 : Int32) = 1 by decide), if_neg (show ¬ (5 : Int32) = 2 by decide), if_neg (show ¬ (5 : Int32) = 3 by decide), if_neg (show ¬ (5 : Int32) = 4 by decide), if_pos (show (5 : Int32) = 5 from rfl), wG k4, sb_] at h8
          exact Option.some.inj (h8.symm.trans h9)
      · rw [e] at h9 q1 q2
        rw [if_neg (show ¬ (6 : Int32) < 0 by decide), if_pos (show (6 : Int32) ≤ 6 by decide), if_neg (show ¬ (6 : Int32) = 0 by decide), if_neg (show ¬ (6 : Int32) = 1 by decide), if_neg (show ¬ (6 : Int32) = 2 by decide), if_neg (show ¬ (6 : Int32) = 3 by decide), if_neg (show ¬ (6 : Int32) = 4 by decide), if_neg (show ¬ (6 : Int32) = 5 by decide)] at h9
        rw [f9, sb_] at h9
        by_cases k4 : kd = 4
        · have h8 := q2 k4
          unfold mX8_aboutL at h8
          rw [if_neg (show ¬ (6 : Int32) = 0 by decide), if_neg (show ¬ (6 : Int32) = 1 by decide), if_neg (show ¬ (6 : Int32) = 2 by decide), if_neg (show ¬ (6 : Int32) = 3 by decide), if_neg (show ¬ (6 : Int32) = 4 by decide), if_neg (show ¬ (6 : Int32) = 5 by decide), if_pos (show (6 : Int32) = 6 from rfl), fL2 k4, sb_] at h8
          exact Option.some.inj (h8.symm.trans h9)
        · have h8 := q1 k4
          unfold mX8_aboutG at h8
          rw [if_neg (show ¬ (6 : Int32) = 0 by decide), if_neg (show ¬ (6 : Int32) = 1 by decide), if_neg (show ¬ (6 : Int32) = 2 by decide), if_neg (show ¬ (6 : Int32) = 3 by decide), if_neg (show ¬ (6 : Int32) = 4 by decide), if_neg (show ¬ (6 : Int32) = 5 by decide), if_pos (show (6 : Int32) = 6 from rfl), fG k4, sb_] at h8
          exact Option.some.inj (h8.symm.trans h9)
    · rw [if_neg w0, if_neg w6] at h9
      have hne : ∀ c : Int32, c ≤ 6 → ¬ wh = c := fun c hc e => w6 (by rw [e]; exact hc)
      by_cases k4 : kd = 4
      · have h8 := q2 k4
        unfold mX8_aboutL at h8
        rw [if_neg (hne 0 (by decide)), if_neg (hne 1 (by decide)), if_neg (hne 2 (by decide)), if_neg (hne 3 (by decide)), if_neg (hne 4 (by decide)), if_neg (hne 5 (by decide)), if_neg (hne 6 (by decide))] at h8
        exact Option.some.inj (h8.symm.trans h9)
      · have h8 := q1 k4
        unfold mX8_aboutG at h8
        rw [if_neg (hne 0 (by decide)), if_neg (hne 1 (by decide)), if_neg (hne 2 (by decide)), if_neg (hne 3 (by decide)), if_neg (hne 4 (by decide)), if_neg (hne 5 (by decide)), if_neg (hne 6 (by decide))] at h8
        exact Option.some.inj (h8.symm.trans h9)
theorem aF_about {wN wN1 : Nat → Nat} {wV wV1 : Nat → Nat → Int64} {M M1 : Nat} {σ σ1 : Nat → SlT} {r r1 : RT} {sq wh : Int32} {x8 x9 : Int32} (hI : RIY r) (H : SimH wN wV M σ r) (X : ExG M σ r) (Y : ExH M σ r) (h8 : T8_about sq wh wN wV M σ x8 wN1 wV1 M1 σ1) (h9 : S9_about sq wh r x9 r1) : x8 = x9 := by
  obtain ⟨many, vW, vIW, vK, vZ, vM, vS, vCt, vC, vRow, vB, vL, vLC, vRe, vR⟩ := r
  obtain ⟨rfl, hM, hK, hs⟩ := H
  obtain ⟨h8, -⟩ := h8
  obtain ⟨z, hz, rfl, -⟩ := h9
  rcases h8 with ⟨hn, e⟩ | ⟨j, hj, rfl, hP⟩
  · unfold mX9_about at hz
    rw [is_n hM hn, sb_, if_pos rfl] at hz
    rw [e]
    exact Option.some.inj hz
  · have hS := RI_s hM hI.1 hj
    have a1 := (hs j hj).1
    obtain ⟨c1, c2⟩ := X j hj
    obtain ⟨y1, y2⟩ := Y j hj
    rcases eσ : σ j with ⟨kd, sz, mk, sd, kc, n, v, lc, lsd, kca, rn, rv, lz, ld⟩
    rw [eσ] at a1 c1 c2 y1 y2
    replace hP : P8_about wh (σ j) x8 := hP
    rw [eσ] at hP
    obtain ⟨k, hk, en, ec, hr, hc⟩ := ct_all hS a1.1 c2 y1
    exact about_eq hM hj (by omega) hS a1 c1 y1 y2 en ec hP.1 hP.2 hz
