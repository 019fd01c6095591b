/-! ===== who passes: both sides answer alike ===== -/
theorem B01_u {Q : Prop} {a b : Int32} (h1 : B01 Q a) (h2 : B01 Q b) : a = b := by
  rcases h1 with ⟨e1, q1⟩ | ⟨e1, q1⟩
  · rcases h2 with ⟨e2, -⟩ | ⟨-, q2⟩
    · rw [e1, e2]
    · exact absurd q1 q2
  · rcases h2 with ⟨-, q2⟩ | ⟨e2, -⟩
    · exact absurd q2 q1
    · rw [e1, e2]
theorem B01_01 {Q : Prop} {a : Int32} (h : B01 Q a) : a = 0 ∨ a = 1 := h.elim (fun w => Or.inr w.1) (fun w => Or.inl w.1)
theorem RS_3x {vK vZ vM vC vR vL : Nat → Int32} {s : Nat} (h : RS vK vZ vM vC vR vL s) (k3 : vK s = 3) : ∃ Z, 8 ≤ Z ∧ Z ≤ 1258 ∧ vZ s = nI Z := by
  obtain ⟨K, Z, m, a1, a2, a3, a4, -⟩ := h
  have hb := RKp_b a4
  have hK : K = 3 := (nI_eq (b := 3) (by omega) (by decide)).mp (a1.symm.trans k3)
  rcases a4 with ⟨e | e, -⟩ | ⟨e, -⟩ | ⟨e, h1, h2, -⟩ | ⟨e, -⟩
  · omega
  · omega
  · omega
  · exact ⟨Z, h1, h2, a2⟩
  · omega
theorem pass_eq {s : Nat} (hs : s < 30) {vK vZ vM vS : Nat → Int32} {vCt : Nat → Int64} {vC vRow vB vL vLC : Nat → Int32} {vRe : Nat → Int64} {vR : Nat → Int32} (hS : RS vK vZ vM vC vR vL s) {kd sz mk sd : Int32} {kc : Nat → Int32} {n : Int32} {v : Nat → Int64} {lc lsd : Int32} {kca : Nat → Int32} {rn : Int32} {rv : Nat → Int64} {lz : Nat → Int32} {ld : Nat → Nat → Int64} (hd : HdS s vK vZ vM vS (kd, sz, mk, sd, kc, n, v, lc, lsd, kca, rn, rv, lz, ld)) (hG : CeG s vRow (kd, sz, mk, sd, kc, n, v, lc, lsd, kca, rn, rv, lz, ld)) (hC : ClS s vCt vC vRow (kd, sz, mk, sd, kc, n, v, lc, lsd, kca, rn, rv, lz, ld)) (hL : LaS s vZ vB vL vLC vRe vR (kd, sz, mk, sd, kc, n, v, lc, lsd, kca, rn, rv, lz, ld)) (t : Int64) : ∃ z, (z = 0 ∨ z = 1) ∧ mX9_letsThrough vK vZ vM vS vRow vB vL vRe vR (nI s) t = some z ∧ (¬ kd = 4 → mX6_passesG kd sz mk sd kc t = some z) ∧ (kd = 4 → mX6_passesL kd sz mk sd kc lc lsd rn rv lz ld t = some z) := by
  obtain ⟨b1, b2, b3, b4, b5⟩ := hd
  have i30 := ix_nI (k := s) (n := 30) hs
  by_cases ho : Op3 kd
  · have hoR : Op3 (vK s) := by rw [← b1]; exact ho
    obtain ⟨a, m, ha, ha2, hm, eZ, eM⟩ := RS_012 hS hoR
    obtain ⟨q1, q2⟩ := hG ho
    have es := (b4 ho).trans eZ
    have em := b2.trans eM
    obtain ⟨z9, e9, h9⟩ := letsR_x (vS := vS) (vB := vB) (vL := vL) (vR := vR) (vRe := vRe) (row0 := vRow) hs hoR ha ha2 hm eZ eM ⟨q1, fun _ _ => rfl⟩ (by rw [← b1]; exact q2) t
    obtain ⟨z8, e8, h8⟩ := passK_x ho ha (by rw [b1]; exact ha2) hm sd kc t
    rw [← b1, ← b3] at h9
    have ez : z8 = z9 := B01_u (Q := LtK kd a m (mixV t sd) kc) h8 h9
    refine ⟨z9, B01_01 (Q := LtK kd a m (mixV t sd) kc) h9, e9, fun _ => ?_, fun q => absurd q (op_n4 ho)⟩
    rw [es, em, ← ez]
    exact e8
  · have hcl : vK s = 3 ∨ vK s = 4 := RS_cl hS (by rw [← b1]; exact ho)
    rcases hcl with k3 | k4
    · have ek : kd = 3 := b1.trans k3
      obtain ⟨Z, hZ8, hZ, eZ⟩ := RS_3x hS k3
      obtain ⟨Z', hZ', eZ', es⟩ := b5 ek
      have eZZ : Z' = Z := (nI_eq (by omega) (by omega)).mp (eZ'.symm.trans eZ)
      rw [eZZ] at es
      have hrow := hC.1 ek
      have h9 : OK (mX9_letsThrough vK vZ vM vS vRow vB vL vRe vR (nI s) t) (B01 (LtS Z (mixV t sd) kc)) := by
        unfold mX9_letsThrough
        rw [clN (k := s) (by omega), ← b3]
        refine OK_T i30 (OK_be (mix_r _ _) (OK_T i30 (OK_F (by rw [k3]; decide) (OK_T i30 (OK_T k3 (OK_be (stag_r _) (OK_bind (letsS_x hs (by omega) hZ eZ hrow (mixV t sd) _) (fun z hz => OK_ite (fun q => OK_some (Or.inl ⟨rfl, ?_⟩)) (fun q => OK_some (Or.inr ⟨rfl, fun w => ?_⟩))))))))))
        · exact (x3_0 _ _ _).mp (hz.symm.trans q)
        · exact q (hz.trans ((x3_0 _ _ _).mpr w))
      have h8 : OK (mX6_passesG kd sz mk sd kc t) (B01 (LtS Z (mixV t sd) kc)) := by
        unfold mX6_passesG
        rw [es]
        refine OK_F (by rw [ek]; decide) (OK_be (mix_c _ _) (OK_F (by rw [ek]; decide) (OK_T ek (OK_bind (passS_x (by omega) hZ kc (mixV t sd)) (fun z hz => OK_T (hz.elim (fun w => Or.inr w.1) (fun w => Or.inl w.1)) (OK_some hz))))))
      obtain ⟨z9, e9, h9⟩ := h9
      obtain ⟨z8, e8, h8⟩ := h8
      have ez : z8 = z9 := B01_u h8 h9
      refine ⟨z9, B01_01 h9, e9, fun _ => ?_, fun q => absurd (ek.symm.trans q) (by decide)⟩
      rw [← ez]
      exact e8
    · have ek : kd = 4 := b1.trans k4
      obtain ⟨c, N_, V_, R, g1, g2, g3, g4, g5, g6, g7, g8, g9, g10, g11, g12⟩ := hL ek
      have h9 : OK (mX9_letsThrough vK vZ vM vS vRow vB vL vRe vR (nI s) t) (B01 (LyL c (fun i => fL (N_ i) (V_ i) (sd + nI i) (szA (N_ i)) 3 t) (∃ k, k < R ∧ rv k = t))) := by
        unfold mX9_letsThrough
        rw [clN (k := s) (by omega)]
        exact OK_T i30 (OK_be (mix_r _ _) (OK_T i30 (OK_T k4 (OK_bind (layeredR_x hs g1 g3 g8 g10 b3.symm g7 g12 t) (fun z hz => OK_T (B01_01 hz) (OK_some hz))))))
      have h8 : OK (mX6_passesL kd sz mk sd kc lc lsd rn rv lz ld t) (B01 (LyL c (fun i => fL (N_ i) (V_ i) (sd + nI i) (szA (N_ i)) 3 t) (∃ k, k < R ∧ rv k = t))) := by
        unfold mX6_passesL
        rw [g4, g5, g9]
        refine OK_T ek (OK_bind (passesL_x g1 g8 g6 g11 t) ?_)
        rintro z (⟨rfl, h⟩ | ⟨rfl, h⟩)
        · exact OK_F (by decide) (OK_some (Or.inl ⟨rfl, h⟩))
        · exact OK_T rfl (OK_some (Or.inr ⟨rfl, h⟩))
      obtain ⟨z9, e9, h9⟩ := h9
      obtain ⟨z8, e8, h8⟩ := h8
      have ez : z8 = z9 := B01_u h8 h9
      refine ⟨z9, B01_01 h9, e9, fun q => absurd ek q, fun _ => ?_⟩
      rw [← ez]
      exact e8
/-! counts -/
theorem fC_count (P : Int64 → Prop) (v : Nat → Int64) (k : Nat) : fC (fun i => P (v i)) k = List.countP (fun x => @decide (P x) (Classical.propDecidable (P x))) ((List.range k).map v) := by
  induction k with
  | zero => rfl
  | succ k ih =>
    rw [List.range_succ, List.map_append, List.countP_append, ← ih]
    by_cases h : P (v k)
    · rw [fC_y (P := fun i => P (v i)) h]
      simp [h]
    · rw [fC_n (P := fun i => P (v i)) h]
      simp [h]
theorem fC_perm {P : Int64 → Prop} {m n : Nat} {v w : Nat → Int64} (h : ∀ t, cB m v t = cB n w t) : fC (fun i => P (v i)) m = fC (fun i => P (w i)) n := by
  rw [fC_count, fC_count]
  exact (cB_perm h).countP_eq _
/-- the i-th of those that .. -/
noncomputable def fO (P : Int64 → Prop) (v : Nat → Int64) : Nat → Nat → Int32 → Int64
  | 0, _, _ => 0
  | d + 1, k, x => @ite _ (P (v k)) (Classical.propDecidable (P (v k))) (if x = 0 then v k else fO P v d (k + 1) (x + (-1))) (fO P v d (k + 1) x)
theorem fO_n {P : Int64 → Prop} {v : Nat → Int64} {d k : Nat} {x : Int32} (h : ¬ P (v k)) : fO P v (d + 1) k x = fO P v d (k + 1) x := by
  show @ite _ (P (v k)) (Classical.propDecidable (P (v k))) _ _ = _
  rw [if_neg h]
theorem fO_0 {P : Int64 → Prop} {v : Nat → Int64} {d k : Nat} {x : Int32} (h : P (v k)) (h0 : x = 0) : fO P v (d + 1) k x = v k := by
  show @ite _ (P (v k)) (Classical.propDecidable (P (v k))) (if x = 0 then v k else fO P v d (k + 1) (x + (-1))) _ = _
  rw [if_pos h, if_pos h0]
theorem fO_s {P : Int64 → Prop} {v : Nat → Int64} {d k : Nat} {x : Int32} (h : P (v k)) (h0 : ¬ x = 0) : fO P v (d + 1) k x = fO P v d (k + 1) (x + (-1)) := by
  show @ite _ (P (v k)) (Classical.propDecidable (P (v k))) (if x = 0 then v k else fO P v d (k + 1) (x + (-1))) _ = _
  rw [if_pos h, if_neg h0]
theorem fO_ext {P Q : Int64 → Prop} {v w : Nat → Int64} {N : Nat} (hv : AG N v w) (hP : ∀ x, P x ↔ Q x) : ∀ (d k : Nat) (x : Int32), k + d = N → fO P v d k x = fO Q w d k x := by
  intro d
  induction d with
  | zero => intro k x _; rfl
  | succ d ih =>
    intro k x hk
    have e := hv k (by omega)
    by_cases h : P (v k)
    · have h2 : Q (w k) := (hP _).mp (e ▸ h)
      by_cases h0 : x = 0
      · rw [fO_0 h h0, fO_0 h2 h0, e]
      · rw [fO_s h h0, fO_s h2 h0]
        exact ih (k + 1) _ (by omega)
    · have h2 : ¬ Q (w k) := fun r => h (e ▸ (hP _).mpr r)
      rw [fO_n h, fO_n h2]
      exact ih (k + 1) _ (by omega)
/-! the class, G -/
theorem pfG_x {F : Int64 → Option Int32} {kd sz mk sd : Int32} {kc : Nat → Int32} (hp : ∀ t, ∃ z, (z = 0 ∨ z = 1) ∧ F t = some z ∧ mX6_passesG kd sz mk sd kc t = some z) {k : Nat} (hk : k ≤ 1000) {v : Nat → Int64} (hr : rising v k) (t : Int64) : OK (mX6_passesFalselyG kd sz mk sd kc (nI k) v t) (B01 (F t = some 1 ∧ cB k v t = 0)) := by
  obtain ⟨z, h01, e9, e8⟩ := hp t
  unfold mX6_passesFalselyG
  refine OK_be e8 ?_
  have hm := has_iff (t := t) hr hk
  rcases h01 with rfl | rfl
  · exact OK_T rfl (OK_some (Or.inr ⟨rfl, fun w => absurd (Option.some.inj (e9.symm.trans w.1)) (by decide)⟩))
  · refine OK_F (by decide) (OK_be (bag_has hk) ?_)
    by_cases w : cb v k t < k ∧ v (cb v k t) = t
    · rw [if_pos w]
      have h0 : 0 < cB k v t := cB_pos.mpr (hm.mp w)
      exact OK_F (by decide) (OK_some (Or.inr ⟨rfl, fun l => by have h2 := l.2; omega⟩))
    · rw [if_neg w]
      refine OK_T rfl (OK_some (Or.inl ⟨rfl, e9, ?_⟩))
      rcases Nat.eq_zero_or_pos (cB k v t) with l | l
      · exact l
      · exact absurd (hm.mpr (cB_pos.mp l)) w
theorem missedG_x {F : Int64 → Option Int32} {kd sz mk sd : Int32} {kc : Nat → Int32} (hp : ∀ t, ∃ z, (z = 0 ∨ z = 1) ∧ F t = some z ∧ mX6_passesG kd sz mk sd kc t = some z) {k : Nat} (hk : k ≤ 1000) (v : Nat → Int64) : OK (mX8_missedG kd sz mk sd kc (nI k) v) (fun z => z = nI (fC (fun i => F (v i) = some 0) k)) := by
  unfold mX8_missedG
  refine OK_bind (P := fun z => z.2 = nI (fC (fun i => F (v i) = some 0) k)) ?_ (fun z hz => OK_some hz)
  refine OK_for (fun fu i (x : Int32) => mX8_missedG_L17 kd sz mk sd kc (nI k) v fu i x) k (by omega) (fun i x => x = nI (fC (fun i => F (v i) = some 0) i)) _ (s := 0) rfl ?_ ?_
  · intro fu x hx
    show OK (mX8_missedG_L17 kd sz mk sd kc (nI k) v (fu + 1) (nI k) x) _
    rw [mX8_missedG_L17]
    exact OK_be rfl (OK_T (Int32.le_refl _) (OK_some hx))
  · intro fu i x hi hx ih
    show OK (mX8_missedG_L17 kd sz mk sd kc (nI k) v (fu + 1) (nI i) x) _
    obtain ⟨z, h01, e9, e8⟩ := hp (v i)
    rw [mX8_missedG_L17, nI_s]
    refine OK_be rfl (OK_F (nI_ge hi (by omega)) (OK_be (bag_atN hk hi) (OK_be e8 ?_)))
    rcases h01 with rfl | rfl
    · refine OK_T rfl (ih _ ?_)
      rw [fC_y (P := fun i => F (v i) = some 0) e9, hx, nI_1]
    · refine OK_F (by decide) (ih _ ?_)
      rw [fC_n (P := fun i => F (v i) = some 0) (fun w => absurd (Option.some.inj (e9.symm.trans w)) (by decide))]
      exact hx
theorem falsesG_x {F : Int64 → Option Int32} {kd sz mk sd : Int32} {kc : Nat → Int32} (hp : ∀ t, ∃ z, (z = 0 ∨ z = 1) ∧ F t = some z ∧ mX6_passesG kd sz mk sd kc t = some z) {k N : Nat} (hk : k ≤ 1000) (hN : N ≤ 1000) {v : Nat → Int64} (hr : rising v k) (wv : Nat → Int64) : OK (mX8_falsesG (nI N) wv kd sz mk sd kc (nI k) v) (fun z => z = nI (fC (fun i => F (wv i) = some 1 ∧ cB k v (wv i) = 0) N)) := by
  unfold mX8_falsesG
  refine OK_bind (P := fun z => z.2 = nI (fC (fun i => F (wv i) = some 1 ∧ cB k v (wv i) = 0) N)) ?_ (fun z hz => OK_some hz)
  refine OK_for (fun fu i (x : Int32) => mX8_falsesG_L30 (nI N) wv kd sz mk sd kc (nI k) v fu i x) N (by omega) (fun i x => x = nI (fC (fun i => F (wv i) = some 1 ∧ cB k v (wv i) = 0) i)) _ (s := 0) rfl ?_ ?_
  · intro fu x hx
    show OK (mX8_falsesG_L30 (nI N) wv kd sz mk sd kc (nI k) v (fu + 1) (nI N) x) _
    rw [mX8_falsesG_L30]
    exact OK_be rfl (OK_T (Int32.le_refl _) (OK_some hx))
  · intro fu i x hi hx ih
    show OK (mX8_falsesG_L30 (nI N) wv kd sz mk sd kc (nI k) v (fu + 1) (nI i) x) _
    rw [mX8_falsesG_L30, nI_s]
    refine OK_be rfl (OK_F (nI_ge hi (by omega)) (OK_be (bag_atN hN hi) (OK_bind (pfG_x hp hk hr (wv i)) ?_)))
    rintro z (⟨rfl, h⟩ | ⟨rfl, h⟩)
    · refine OK_F (by decide) (ih _ ?_)
      rw [fC_y (P := fun i => F (wv i) = some 1 ∧ cB k v (wv i) = 0) h, hx, nI_1]
    · refine OK_T rfl (ih _ ?_)
      rw [fC_n (P := fun i => F (wv i) = some 1 ∧ cB k v (wv i) = 0) h]
      exact hx
theorem foG_l {F : Int64 → Option Int32} {kd sz mk sd : Int32} {kc : Nat → Int32} (hp : ∀ t, ∃ z, (z = 0 ∨ z = 1) ∧ F t = some z ∧ mX6_passesG kd sz mk sd kc t = some z) {k N : Nat} (hk : k ≤ 1000) (hN : N ≤ 1000) {v : Nat → Int64} (hr : rising v k) (wv : Nat → Int64) : ∀ (d i fu : Nat) (x : Int32), i + d = N → d < fu → OK (mX8_falseOneG_L36 (nI N) wv kd sz mk sd kc (nI k) v fu (nI i) x) (fun o => (∀ r, o = .inl r → r = fO (fun t => F t = some 1 ∧ cB k v t = 0) wv d i x) ∧ ∀ r, o = .inr r → fO (fun t => F t = some 1 ∧ cB k v t = 0) wv d i x = 0) := by
  intro d
  induction d with
  | zero =>
    intro i fu x hi hf
    obtain ⟨fu, rfl⟩ : ∃ q, fu = q + 1 := ⟨fu - 1, by omega⟩
    obtain rfl : i = N := by omega
    rw [mX8_falseOneG_L36]
    exact OK_be rfl (OK_T (Int32.le_refl _) (OK_some ⟨fun r h => (nomatch h), fun _ _ => rfl⟩))
  | succ d ih =>
    intro i fu x hi hf
    obtain ⟨fu, rfl⟩ : ∃ q, fu = q + 1 := ⟨fu - 1, by omega⟩
    rw [mX8_falseOneG_L36, nI_s]
    refine OK_be rfl (OK_F (nI_ge (by omega) (by omega)) (OK_be (bag_atN hN (by omega)) (OK_bind (pfG_x hp hk hr (wv i)) ?_)))
    rintro z (⟨rfl, h⟩ | ⟨rfl, h⟩)
    · refine OK_F (by decide) (OK_ite (fun q => OK_be (bag_atN hN (by omega)) (OK_some ⟨fun r e => ?_, fun r e => (nomatch e)⟩)) (fun q => ?_))
      · injection e with e
        rw [fO_0 (P := fun t => F t = some 1 ∧ cB k v t = 0) h q]
        exact e.symm
      · rw [fO_s (P := fun t => F t = some 1 ∧ cB k v t = 0) h q]
        exact ih (i + 1) fu _ (by omega) (by omega)
    · refine OK_T rfl ?_
      rw [fO_n (P := fun t => F t = some 1 ∧ cB k v t = 0) h]
      exact ih (i + 1) fu _ (by omega) (by omega)
theorem falseOneG_x {F : Int64 → Option Int32} {kd sz mk sd : Int32} {kc : Nat → Int32} (hp : ∀ t, ∃ z, (z = 0 ∨ z = 1) ∧ F t = some z ∧ mX6_passesG kd sz mk sd kc t = some z) {k N : Nat} (hk : k ≤ 1000) (hN : N ≤ 1000) {v : Nat → Int64} (hr : rising v k) (wv : Nat → Int64) (i : Int32) : OK (mX8_falseOneG i (nI N) wv kd sz mk sd kc (nI k) v) (fun z => z = if 0 ≤ i then fO (fun t => F t = some 1 ∧ cB k v t = 0) wv N 0 i else 0) := by
  unfold mX8_falseOneG
  refine OK_ite (fun q => ?_) (fun q => OK_some (if_neg q).symm)
  rw [if_pos q]
  exact OK_bind (foG_l hp hk hN hr wv N 0 FU i (by omega) (show N < 5000 by omega)) (fun o ho => OK_sum (fun r h => OK_some (ho.1 r h)) (fun r h => OK_some (ho.2 r h).symm))
/-! the class, L -/
theorem pfL_x {F : Int64 → Option Int32} {kd sz mk sd : Int32} {kc : Nat → Int32} {lc lsd : Int32} {rn : Int32} {rv : Nat → Int64} {lz : Nat → Int32} {ld : Nat → Nat → Int64} (hp : ∀ t, ∃ z, (z = 0 ∨ z = 1) ∧ F t = some z ∧ mX6_passesL kd sz mk sd kc lc lsd rn rv lz ld t = some z) {k : Nat} (hk : k ≤ 1000) {v : Nat → Int64} (hr : rising v k) (t : Int64) : OK (mX6_passesFalselyL kd sz mk sd kc (nI k) v lc lsd rn rv lz ld t) (B01 (F t = some 1 ∧ cB k v t = 0)) := by
  obtain ⟨z, h01, e9, e8⟩ := hp t
  unfold mX6_passesFalselyL
  refine OK_be e8 ?_
  have hm := has_iff (t := t) hr hk
  rcases h01 with rfl | rfl
  · exact OK_T rfl (OK_some (Or.inr ⟨rfl, fun w => absurd (Option.some.inj (e9.symm.trans w.1)) (by decide)⟩))
  · refine OK_F (by decide) (OK_be (bag_has hk) ?_)
    by_cases w : cb v k t < k ∧ v (cb v k t) = t
    · rw [if_pos w]
      have h0 : 0 < cB k v t := cB_pos.mpr (hm.mp w)
      exact OK_F (by decide) (OK_some (Or.inr ⟨rfl, fun l => by have h2 := l.2; omega⟩))
    · rw [if_neg w]
      refine OK_T rfl (OK_some (Or.inl ⟨rfl, e9, ?_⟩))
      rcases Nat.eq_zero_or_pos (cB k v t) with l | l
      · exact l
      · exact absurd (hm.mpr (cB_pos.mp l)) w
theorem missedL_x {F : Int64 → Option Int32} {kd sz mk sd : Int32} {kc : Nat → Int32} {lc lsd : Int32} {rn : Int32} {rv : Nat → Int64} {lz : Nat → Int32} {ld : Nat → Nat → Int64} (hp : ∀ t, ∃ z, (z = 0 ∨ z = 1) ∧ F t = some z ∧ mX6_passesL kd sz mk sd kc lc lsd rn rv lz ld t = some z) {k : Nat} (hk : k ≤ 1000) (v : Nat → Int64) : OK (mX8_missedL kd sz mk sd kc (nI k) v lc lsd rn rv lz ld) (fun z => z = nI (fC (fun i => F (v i) = some 0) k)) := by
  unfold mX8_missedL
  refine OK_bind (P := fun z => z.2 = nI (fC (fun i => F (v i) = some 0) k)) ?_ (fun z hz => OK_some hz)
  refine OK_for (fun fu i (x : Int32) => mX8_missedL_L17 kd sz mk sd kc (nI k) v lc lsd rn rv lz ld fu i x) k (by omega) (fun i x => x = nI (fC (fun i => F (v i) = some 0) i)) _ (s := 0) rfl ?_ ?_
  · intro fu x hx
    show OK (mX8_missedL_L17 kd sz mk sd kc (nI k) v lc lsd rn rv lz ld (fu + 1) (nI k) x) _
    rw [mX8_missedL_L17]
    exact OK_be rfl (OK_T (Int32.le_refl _) (OK_some hx))
  · intro fu i x hi hx ih
    show OK (mX8_missedL_L17 kd sz mk sd kc (nI k) v lc lsd rn rv lz ld (fu + 1) (nI i) x) _
    obtain ⟨z, h01, e9, e8⟩ := hp (v i)
    rw [mX8_missedL_L17, nI_s]
    refine OK_be rfl (OK_F (nI_ge hi (by omega)) (OK_be (bag_atN hk hi) (OK_be e8 ?_)))
    rcases h01 with rfl | rfl
    · refine OK_T rfl (ih _ ?_)
      rw [fC_y (P := fun i => F (v i) = some 0) e9, hx, nI_1]
    · refine OK_F (by decide) (ih _ ?_)
      rw [fC_n (P := fun i => F (v i) = some 0) (fun w => absurd (Option.some.inj (e9.symm.trans w)) (by decide))]
      exact hx
theorem falsesL_x {F : Int64 → Option Int32} {kd sz mk sd : Int32} {kc : Nat → Int32} {lc lsd : Int32} {rn : Int32} {rv : Nat → Int64} {lz : Nat → Int32} {ld : Nat → Nat → Int64} (hp : ∀ t, ∃ z, (z = 0 ∨ z = 1) ∧ F t = some z ∧ mX6_passesL kd sz mk sd kc lc lsd rn rv lz ld t = some z) {k N : Nat} (hk : k ≤ 1000) (hN : N ≤ 1000) {v : Nat → Int64} (hr : rising v k) (wv : Nat → Int64) : OK (mX8_falsesL (nI N) wv kd sz mk sd kc (nI k) v lc lsd rn rv lz ld) (fun z => z = nI (fC (fun i => F (wv i) = some 1 ∧ cB k v (wv i) = 0) N)) := by
  unfold mX8_falsesL
  refine OK_bind (P := fun z => z.2 = nI (fC (fun i => F (wv i) = some 1 ∧ cB k v (wv i) = 0) N)) ?_ (fun z hz => OK_some hz)
  refine OK_for (fun fu i (x : Int32) => mX8_falsesL_L30 (nI N) wv kd sz mk sd kc (nI k) v lc lsd rn rv lz ld fu i x) N (by omega) (fun i x => x = nI (fC (fun i => F (wv i) = some 1 ∧ cB k v (wv i) = 0) i)) _ (s := 0) rfl ?_ ?_
  · intro fu x hx
    show OK (mX8_falsesL_L30 (nI N) wv kd sz mk sd kc (nI k) v lc lsd rn rv lz ld (fu + 1) (nI N) x) _
    rw [mX8_falsesL_L30]
    exact OK_be rfl (OK_T (Int32.le_refl _) (OK_some hx))
  · intro fu i x hi hx ih
    show OK (mX8_falsesL_L30 (nI N) wv kd sz mk sd kc (nI k) v lc lsd rn rv lz ld (fu + 1) (nI i) x) _
    rw [mX8_falsesL_L30, nI_s]
    refine OK_be rfl (OK_F (nI_ge hi (by omega)) (OK_be (bag_atN hN hi) (OK_bind (pfL_x hp hk hr (wv i)) ?_)))
    rintro z (⟨rfl, h⟩ | ⟨rfl, h⟩)
    · refine OK_F (by decide) (ih _ ?_)
      rw [fC_y (P := fun i => F (wv i) = some 1 ∧ cB k v (wv i) = 0) h, hx, nI_1]
    · refine OK_T rfl (ih _ ?_)
      rw [fC_n (P := fun i => F (wv i) = some 1 ∧ cB k v (wv i) = 0) h]
      exact hx
theorem foL_l {F : Int64 → Option Int32} {kd sz mk sd : Int32} {kc : Nat → Int32} {lc lsd : Int32} {rn : Int32} {rv : Nat → Int64} {lz : Nat → Int32} {ld : Nat → Nat → Int64} (hp : ∀ t, ∃ z, (z = 0 ∨ z = 1) ∧ F t = some z ∧ mX6_passesL kd sz mk sd kc lc lsd rn rv lz ld t = some z) {k N : Nat} (hk : k ≤ 1000) (hN : N ≤ 1000) {v : Nat → Int64} (hr : rising v k) (wv : Nat → Int64) : ∀ (d i fu : Nat) (x : Int32), i + d = N → d < fu → OK (mX8_falseOneL_L36 (nI N) wv kd sz mk sd kc (nI k) v lc lsd rn rv lz ld fu (nI i) x) (fun o => (∀ r, o = .inl r → r = fO (fun t => F t = some 1 ∧ cB k v t = 0) wv d i x) ∧ ∀ r, o = .inr r → fO (fun t => F t = some 1 ∧ cB k v t = 0) wv d i x = 0) := by
  intro d
  induction d with
  | zero =>
    intro i fu x hi hf
    obtain ⟨fu, rfl⟩ : ∃ q, fu = q + 1 := ⟨fu - 1, by omega⟩
    obtain rfl : i = N := by omega
    rw [mX8_falseOneL_L36]
    exact OK_be rfl (OK_T (Int32.le_refl _) (OK_some ⟨fun r h => (nomatch h), fun _ _ => rfl⟩))
  | succ d ih =>
    intro i fu x hi hf
    obtain ⟨fu, rfl⟩ : ∃ q, fu = q + 1 := ⟨fu - 1, by omega⟩
    rw [mX8_falseOneL_L36, nI_s]
    refine OK_be rfl (OK_F (nI_ge (by omega) (by omega)) (OK_be (bag_atN hN (by omega)) (OK_bind (pfL_x hp hk hr (wv i)) ?_)))
    rintro z (⟨rfl, h⟩ | ⟨rfl, h⟩)
    · refine OK_F (by decide) (OK_ite (fun q => OK_be (bag_atN hN (by omega)) (OK_some ⟨fun r e => ?_, fun r e => (nomatch e)⟩)) (fun q => ?_))
      · injection e with e
        rw [fO_0 (P := fun t => F t = some 1 ∧ cB k v t = 0) h q]
        exact e.symm
      · rw [fO_s (P := fun t => F t = some 1 ∧ cB k v t = 0) h q]
        exact ih (i + 1) fu _ (by omega) (by omega)
    · refine OK_T rfl ?_
      rw [fO_n (P := fun t => F t = some 1 ∧ cB k v t = 0) h]
      exact ih (i + 1) fu _ (by omega) (by omega)
theorem falseOneL_x {F : Int64 → Option Int32} {kd sz mk sd : Int32} {kc : Nat → Int32} {lc lsd : Int32} {rn : Int32} {rv : Nat → Int64} {lz : Nat → Int32} {ld : Nat → Nat → Int64} (hp : ∀ t, ∃ z, (z = 0 ∨ z = 1) ∧ F t = some z ∧ mX6_passesL kd sz mk sd kc lc lsd rn rv lz ld t = some z) {k N : Nat} (hk : k ≤ 1000) (hN : N ≤ 1000) {v : Nat → Int64} (hr : rising v k) (wv : Nat → Int64) (i : Int32) : OK (mX8_falseOneL i (nI N) wv kd sz mk sd kc (nI k) v lc lsd rn rv lz ld) (fun z => z = if 0 ≤ i then fO (fun t => F t = some 1 ∧ cB k v t = 0) wv N 0 i else 0) := by
  unfold mX8_falseOneL
  refine OK_ite (fun q => ?_) (fun q => OK_some (if_neg q).symm)
  rw [if_pos q]
  exact OK_bind (foL_l hp hk hN hr wv N 0 FU i (by omega) (show N < 5000 by omega)) (fun o ho => OK_sum (fun r h => OK_some (ho.1 r h)) (fun r h => OK_some (ho.2 r h).symm))
