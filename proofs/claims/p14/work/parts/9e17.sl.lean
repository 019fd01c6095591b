/-! ===== fewest: its answers ===== -/
noncomputable def fC (P : Nat → Prop) : Nat → Nat
  | 0 => 0
  | n + 1 => fC P n + @ite Nat (P n) (Classical.propDecidable (P n)) 1 0
theorem fC_y {P : Nat → Prop} {n : Nat} (h : P n) : fC P (n + 1) = fC P n + 1 := by
  show fC P n + @ite Nat (P n) (Classical.propDecidable (P n)) 1 0 = _
  rw [if_pos h]
theorem fC_n {P : Nat → Prop} {n : Nat} (h : ¬ P n) : fC P (n + 1) = fC P n := by
  show fC P n + @ite Nat (P n) (Classical.propDecidable (P n)) 1 0 = _
  rw [if_neg h, Nat.add_zero]
theorem fC_le (P : Nat → Prop) (n : Nat) : fC P n ≤ n := by
  induction n with
  | zero => exact Nat.le_refl _
  | succ n ih =>
    by_cases h : P n
    · rw [fC_y h]; omega
    · rw [fC_n h]; omega
theorem fC_up (P : Nat → Prop) (n : Nat) : fC P n ≤ fC P (n + 1) := by
  by_cases h : P n
  · rw [fC_y h]; omega
  · rw [fC_n h]; exact Nat.le_refl _
theorem fC_mono (P : Nat → Prop) (m d : Nat) : fC P m ≤ fC P (m + d) := by
  induction d with
  | zero => exact Nat.le_refl _
  | succ d ih => exact Nat.le_trans ih (fC_up P (m + d))
theorem fC_ext {P Q : Nat → Prop} {n : Nat} (h : ∀ i, i < n → (P i ↔ Q i)) : fC P n = fC Q n := by
  induction n with
  | zero => rfl
  | succ n ih =>
    have ih := ih (fun i hi => h i (by omega))
    by_cases q : P n
    · rw [fC_y q, fC_y ((h n (by omega)).mp q), ih]
    · rw [fC_n q, fC_n (fun w => q ((h n (by omega)).mpr w)), ih]
def fP (x : Int64) (sd : Int32) (a j : Nat) : Nat := mkN (nM (mixV x sd)) j % 2 ^ a
theorem fP_lt (x : Int64) (sd : Int32) (a j : Nat) : fP x sd a j < 2 ^ a := Nat.mod_lt _ (Nat.two_pow_pos a)
def fS (N : Nat) (v : Nat → Int64) (sd : Int32) (a k p : Nat) : Prop := ∃ t, t < N ∧ ∃ j, j < k ∧ fP (v t) sd a j = p
def fL (N : Nat) (v : Nat → Int64) (sd : Int32) (a k : Nat) (x : Int64) : Prop := ∀ j, j < k → fS N v sd a k (fP x sd a j)
def fQ (N : Nat) (v : Nat → Int64) (u : Nat → Int64) (sd : Int32) (a k t : Nat) : Prop := fL N v sd a k (u t) ∧ ¬ memW N v (u t)
noncomputable def fN (N : Nat) (v : Nat → Int64) (U : Nat) (u : Nat → Int64) (sd : Int32) (a k : Nat) : Nat := fC (fQ N v u sd a k) U
theorem fS_ext {N : Nat} {v w : Nat → Int64} (h : AG N v w) {sd : Int32} {a k p : Nat} (H : fS N v sd a k p) : fS N w sd a k p := by
  obtain ⟨t, ht, j, hj, e⟩ := H
  exact ⟨t, ht, j, hj, by rw [← h t ht]; exact e⟩
theorem fL_ext {N : Nat} {v w : Nat → Int64} (h : AG N v w) {sd : Int32} {a k : Nat} {x : Int64} : fL N v sd a k x ↔ fL N w sd a k x := ⟨fun H j hj => fS_ext h (H j hj), fun H j hj => fS_ext (AG_s h) (H j hj)⟩
theorem fN_ext {N U : Nat} {v w u y : Nat → Int64} (h : AG N v w) (h2 : AG U u y) (sd : Int32) (a k : Nat) : fN N v U u sd a k = fN N w U y sd a k := by
  refine fC_ext (fun i hi => ?_)
  unfold fQ
  rw [h2 i hi, fL_ext h, AG_m h]
/-! the reference -/
theorem fl_wipe_x {a : Nat} (ha : a ≤ 12) (al : Nat → Int32) : OK (mX9_falselyLet_L3 (nI (2 ^ a)) FU 0 al) (fun z => ∀ p, p < 2 ^ a → z.2 p = 0) := by
  have hp := pow_up ha
  refine OK_for (fun fu k (x : Nat → Int32) => mX9_falselyLet_L3 (nI (2 ^ a)) fu k x) (2 ^ a) (by omega) (fun k x => ∀ p, p < k → x p = 0) _ (s := al) (fun p hq => absurd hq (Nat.not_lt_zero p)) ?_ ?_
  · intro fu x hx
    show OK (mX9_falselyLet_L3 (nI (2 ^ a)) (fu + 1) (nI (2 ^ a)) x) _
    rw [mX9_falselyLet_L3]
    exact OK_T (Int32.le_refl _) (OK_some hx)
  · intro fu k x hk hx ih
    show OK (mX9_falselyLet_L3 (nI (2 ^ a)) (fu + 1) (nI k) x) _
    rw [mX9_falselyLet_L3, nI_s, clN (k := k) (by omega)]
    refine OK_F (nI_ge hk (by omega)) (OK_T (ix_nI (by omega)) (ih _ (fun p hq => ?_)))
    by_cases e : p = k
    · rw [e]; exact ups
    · rw [upo e]; exact hx p (by omega)
theorem fl_set_x {a m : Nat} (ha : a ≤ 12) (hm : m ≤ 8) (mx : Int64) (al : Nat → Int32) : OK (mX9_falselyLet_L60 (nI (2 ^ a)) (nI m) mx FU 0 al) (fun z => ∀ p, z.2 p = 1 ↔ (al p = 1 ∨ ∃ j, j < m ∧ mkN (nM mx) j % 2 ^ a = p)) := by
  have hp := pow_up ha
  have h0 : 0 < 2 ^ a := Nat.two_pow_pos a
  refine OK_for (fun fu k (x : Nat → Int32) => mX9_falselyLet_L60 (nI (2 ^ a)) (nI m) mx fu k x) m (by omega) (fun k x => ∀ p, x p = 1 ↔ (al p = 1 ∨ ∃ j, j < k ∧ mkN (nM mx) j % 2 ^ a = p)) _ (s := al) (fun p => ⟨Or.inl, fun h => h.elim id (fun ⟨j, hj, _⟩ => absurd hj (Nat.not_lt_zero j))⟩) ?_ ?_
  · intro fu x hx
    show OK (mX9_falselyLet_L60 (nI (2 ^ a)) (nI m) mx (fu + 1) (nI m) x) _
    rw [mX9_falselyLet_L60]
    exact OK_T (Int32.le_refl _) (OK_some hx)
  · intro fu k x hk hx ih
    show OK (mX9_falselyLet_L60 (nI (2 ^ a)) (nI m) mx (fu + 1) (nI k) x) _
    rw [mX9_falselyLet_L60, nI_s]
    have hq : mkN (nM mx) k % 2 ^ a < 2 ^ a := Nat.mod_lt _ h0
    refine OK_F (nI_ge hk (by omega)) (OK_be (mp_r mx (by omega) h0 (by omega)) (OK_T (ix_nI (by omega)) (ih _ (fun p => ?_))))
    rw [clN (k := mkN (nM mx) k % 2 ^ a) (by omega)]
    by_cases e : p = mkN (nM mx) k % 2 ^ a
    · rw [e, ups]
      exact ⟨fun _ => Or.inr ⟨k, by omega, rfl⟩, fun _ => rfl⟩
    · rw [upo e, hx p]
      constructor
      · rintro (h | ⟨j, hj, h⟩)
        · exact Or.inl h
        · exact Or.inr ⟨j, by omega, h⟩
      · rintro (h | ⟨j, hj, h⟩)
        · exact Or.inl h
        · rcases Nat.lt_succ_iff_lt_or_eq.mp hj with w | w
          · exact Or.inr ⟨j, w, h⟩
          · subst w
            exact absurd h.symm e
theorem fl_in_x {a m w n : Nat} (ha : a ≤ 12) (hm : m ≤ 8) (hw : w < 8) (hn : n ≤ 1000) {vIW : Nat → Int32} (en : vIW w = nI n) (vW : Nat → Int64) (sd : Int32) {al : Nat → Int32} (hal : ∀ p, p < 2 ^ a → al p = 0) : OK (mX9_falselyLet_L26 vW vIW (nI w) (nI (2 ^ a)) (nI m) sd FU 0 al) (fun z => ∀ p, p < 2 ^ a → (z.2 p = 1 ↔ fS n (wOf vW w) sd a m p)) := by
  refine OK_for (fun fu k (x : Nat → Int32) => mX9_falselyLet_L26 vW vIW (nI w) (nI (2 ^ a)) (nI m) sd fu k x) n (by omega) (fun k x => ∀ p, p < 2 ^ a → (x p = 1 ↔ fS k (wOf vW w) sd a m p)) _ (s := al) (fun p hp => ⟨fun h => absurd (h.symm.trans (hal p hp)) (by decide), fun h => by obtain ⟨t, ht, -⟩ := h; exact absurd ht (Nat.not_lt_zero t)⟩) ?_ ?_
  · intro fu x hx
    show OK (mX9_falselyLet_L26 vW vIW (nI w) (nI (2 ^ a)) (nI m) sd (fu + 1) (nI n) x) _
    rw [mX9_falselyLet_L26, clN (k := w) (by omega), en]
    exact OK_T (ix_nI hw) (OK_T (Int32.le_refl _) (OK_some hx))
  · intro fu k x hk hx ih
    show OK (mX9_falselyLet_L26 vW vIW (nI w) (nI (2 ^ a)) (nI m) sd (fu + 1) (nI k) x) _
    rw [mX9_falselyLet_L26, clN (k := w) (by omega), en, m1000, nI_s, clN (k := 1000 * w + k) (by omega)]
    refine OK_T (ix_nI hw) (OK_F (nI_ge hk (by omega)) (OK_T (ix_nI (by omega)) (OK_be (mix_r _ _) (OK_bind (fl_set_x ha hm _ _) (fun z hz => ih _ (fun p hp => ?_))))))
    rw [hz p, hx p hp]
    constructor
    · rintro (⟨t, ht, j, hj, e⟩ | ⟨j, hj, e⟩)
      · exact ⟨t, by omega, j, hj, e⟩
      · exact ⟨k, by omega, j, hj, e⟩
    · rintro ⟨t, ht, j, hj, e⟩
      rcases Nat.lt_succ_iff_lt_or_eq.mp ht with q | q
      · exact Or.inl ⟨t, q, j, hj, e⟩
      · subst q
        exact Or.inr ⟨j, hj, e⟩
theorem fl_hit_x {a m : Nat} (ha : a ≤ 12) (hm : m ≤ 8) (o : Int32 × (Nat → Int32)) (mx : Int64) : OK (mX9_falselyLet_L140 (nI (2 ^ a)) (nI m) o mx FU 0 1) (fun z => (z.2 = 1 ∧ ∀ j, j < m → o.2 (mkN (nM mx) j % 2 ^ a) = 1) ∨ (z.2 = 0 ∧ ¬ ∀ j, j < m → o.2 (mkN (nM mx) j % 2 ^ a) = 1)) := by
  have hp := pow_up ha
  have h0 : 0 < 2 ^ a := Nat.two_pow_pos a
  refine OK_for (fun fu k (x : Int32) => mX9_falselyLet_L140 (nI (2 ^ a)) (nI m) o mx fu k x) m (by omega) (fun k x => (x = 1 ∧ ∀ j, j < k → o.2 (mkN (nM mx) j % 2 ^ a) = 1) ∨ (x = 0 ∧ ¬ ∀ j, j < k → o.2 (mkN (nM mx) j % 2 ^ a) = 1)) _ (s := 1) (Or.inl ⟨rfl, fun j hj => absurd hj (Nat.not_lt_zero j)⟩) ?_ ?_
  · intro fu x hx
    show OK (mX9_falselyLet_L140 (nI (2 ^ a)) (nI m) o mx (fu + 1) (nI m) x) _
    rw [mX9_falselyLet_L140]
    exact OK_T (Int32.le_refl _) (OK_some hx)
  · intro fu k x hk hx ih
    show OK (mX9_falselyLet_L140 (nI (2 ^ a)) (nI m) o mx (fu + 1) (nI k) x) _
    have hq : mkN (nM mx) k % 2 ^ a < 2 ^ a := Nat.mod_lt _ h0
    rw [mX9_falselyLet_L140, nI_s]
    refine OK_F (nI_ge hk (by omega)) (OK_ite (fun q => ih 0 (Or.inr ⟨rfl, fun w => ?_⟩)) (fun q => OK_be (mp_r mx (by omega) h0 (by omega)) (OK_T (ix_nI (by omega)) ?_)))
    · rcases hx with ⟨e, -⟩ | ⟨-, h⟩
      · rw [q] at e
        exact absurd e (by decide)
      · exact h (fun j hj => w j (by omega))
    · rw [clN (k := mkN (nM mx) k % 2 ^ a) (by omega)]
      have hx1 : ∀ j, j < k → o.2 (mkN (nM mx) j % 2 ^ a) = 1 := by
        rcases hx with ⟨-, h⟩ | ⟨e, -⟩
        · exact h
        · exact absurd e q
      refine OK_ite (fun e => ih 1 (Or.inl ⟨rfl, fun j hj => ?_⟩)) (fun e => ih 0 (Or.inr ⟨rfl, fun w => e (w k (by omega))⟩))
      rcases Nat.lt_succ_iff_lt_or_eq.mp hj with w | w
      · exact hx1 j w
      · rw [w]; exact e
theorem fl_out_x {a m w v n N : Nat} (ha : a ≤ 12) (hm : m ≤ 8) (hv : v < 8) (hw : w < 8) (hn : n ≤ 1000) (hN : N ≤ 1000) {vIW : Nat → Int32} (eN : vIW v = nI N) (en : vIW w = nI n) (vW : Nat → Int64) (sd : Int32) (o : Int32 × (Nat → Int32)) (ho : ∀ p, p < 2 ^ a → (o.2 p = 1 ↔ fS N (wOf vW v) sd a m p)) : OK (mX9_falselyLet_L99 vW vIW (nI v) (nI w) (nI (2 ^ a)) (nI m) sd o FU 0 0) (fun z => z.2 = nI (fN N (wOf vW v) n (wOf vW w) sd a m)) := by
  have key : ∀ x : Int64, (∀ j, j < m → o.2 (mkN (nM (mixV x sd)) j % 2 ^ a) = 1) ↔ fL N (wOf vW v) sd a m x := by
    intro x
    constructor
    · intro h j hj
      exact (ho _ (fP_lt x sd a j)).mp (h j hj)
    · intro h j hj
      exact (ho _ (fP_lt x sd a j)).mpr (h j hj)
  refine OK_for (fun fu k (x : Int32) => mX9_falselyLet_L99 vW vIW (nI v) (nI w) (nI (2 ^ a)) (nI m) sd o fu k x) n (by omega) (fun k x => x = nI (fC (fQ N (wOf vW v) (wOf vW w) sd a m) k)) _ (s := 0) rfl ?_ ?_
  · intro fu x hx
    show OK (mX9_falselyLet_L99 vW vIW (nI v) (nI w) (nI (2 ^ a)) (nI m) sd o (fu + 1) (nI n) x) _
    rw [mX9_falselyLet_L99, clN (k := w) (by omega), en]
    exact OK_T (ix_nI hw) (OK_T (Int32.le_refl _) (OK_some hx))
  · intro fu k x hk hx ih
    show OK (mX9_falselyLet_L99 vW vIW (nI v) (nI w) (nI (2 ^ a)) (nI m) sd o (fu + 1) (nI k) x) _
    rw [mX9_falselyLet_L99, clN (k := w) (by omega), en, m1000, nI_s, clN (k := 1000 * w + k) (by omega)]
    have no : ¬ fQ N (wOf vW v) (wOf vW w) sd a m k → x + (0 : Int32) = nI (fC (fQ N (wOf vW v) (wOf vW w) sd a m) (k + 1)) := by
      intro q
      rw [fC_n q, Int32.add_zero]
      exact hx
    have yes : fQ N (wOf vW v) (wOf vW w) sd a m k → x + (1 : Int32) = nI (fC (fQ N (wOf vW v) (wOf vW w) sd a m) (k + 1)) := by
      intro q
      rw [fC_y q, hx]
      exact nI_1 _
    refine OK_T (ix_nI hw) (OK_F (nI_ge hk (by omega)) (OK_T (ix_nI (by omega)) (OK_lt (OK_be (mix_r _ _) (OK_bind (fl_hit_x ha hm o _) (fun y hy => OK_ite (fun q => ih _ (no (fun w => ?_))) (fun q => OK_bind (rplace_v hv hN eN vW _) (fun c hc => OK_ite (fun r => ih _ (no (fun w => ?_))) (fun r => ih _ (yes ?_))))))))))
    · rcases hy with ⟨e, -⟩ | ⟨-, h⟩
      · rw [q] at e
        exact absurd e (by decide)
      · exact h ((key _).mpr w.1)
    · rcases hc with ⟨e, -⟩ | ⟨c', h1, -, h3⟩
      · rw [e] at r
        exact absurd r m1_lt
      · exact w.2 ⟨c', h1, h3⟩
    · refine ⟨?_, ?_⟩
      · rcases hy with ⟨-, h⟩ | ⟨e, -⟩
        · exact (key _).mp h
        · exact absurd e q
      · rcases hc with ⟨-, h⟩ | ⟨c', h1, h2, -⟩
        · exact h
        · exact absurd (by rw [h2]; exact nI_pos' (by omega)) r
theorem falsely_x {a m w v n N : Nat} (ha : a ≤ 12) (hm : m ≤ 8) (hv : v < 8) (hw : w < 8) (hn : n ≤ 1000) (hN : N ≤ 1000) {vIW : Nat → Int32} (eN : vIW v = nI N) (en : vIW w = nI n) (vW : Nat → Int64) (sd : Int32) (al : Nat → Int32) : OK (mX9_falselyLet vW vIW al (nI v) (nI w) (nI (2 ^ a)) (nI m) sd) (fun z => z.1 = nI (fN N (wOf vW v) n (wOf vW w) sd a m)) := by
  unfold mX9_falselyLet
  exact OK_bind (fl_wipe_x ha al) (fun x hx => OK_bind (fl_in_x ha hm hv hN eN vW sd hx) (fun y hy => OK_bind (fl_out_x ha hm hv hw hn hN eN en vW sd y hy) (fun z hz => OK_some hz)))
/-! the search, step by step: (the fewest so far, the choice so far) -/
def fStp (n : Nat → Nat) (a k : Nat) (s : Nat × Nat) : Nat × Nat := if n k < s.1 then (n k, 16 * 2 ^ a + k) else s
theorem fStp_y {n : Nat → Nat} {a k : Nat} {s : Nat × Nat} (h : n k < s.1) : fStp n a k s = (n k, 16 * 2 ^ a + k) := if_pos h
theorem fStp_n {n : Nat → Nat} {a k : Nat} {s : Nat × Nat} (h : s.1 ≤ n k) : fStp n a k s = s := if_neg (Nat.not_lt.mpr h)
def fInn (n : Nat → Nat) (a : Nat) : Nat → Nat → Nat × Nat → Nat × Nat
  | 0, _, s => s
  | d + 1, k, s => fInn n a d (k + 1) (fStp n a k s)
def fOut (n : Nat → Nat → Nat) (mo : Int32) : Nat → Nat → Nat × Nat → Nat × Nat
  | 0, _, s => s
  | d + 1, a, s => if mo < nI (2 ^ a) then s else fOut n mo d (a + 1) (fInn (n a) a 8 1 s)
theorem fInn_s (n : Nat → Nat) (a d k : Nat) (s : Nat × Nat) : fInn n a (d + 1) k s = fInn n a d (k + 1) (fStp n a k s) := rfl
theorem fOut_y {n : Nat → Nat → Nat} {mo : Int32} {d a : Nat} {s : Nat × Nat} (h : mo < nI (2 ^ a)) : fOut n mo (d + 1) a s = s := if_pos h
theorem fOut_n {n : Nat → Nat → Nat} {mo : Int32} {d a : Nat} {s : Nat × Nat} (h : ¬ mo < nI (2 ^ a)) : fOut n mo (d + 1) a s = fOut n mo d (a + 1) (fInn (n a) a 8 1 s) := if_neg h
theorem fInn_0 {n : Nat → Nat} {a : Nat} : ∀ (d k : Nat) (s : Nat × Nat), s.1 = 0 → fInn n a d k s = s := by
  intro d
  induction d with
  | zero => intro k s h; rfl
  | succ d ih =>
    intro k s h
    rw [fInn_s, fStp_n (by omega)]
    exact ih (k + 1) s h
theorem fOut_0 {n : Nat → Nat → Nat} {mo : Int32} : ∀ (d a : Nat) (s : Nat × Nat), s.1 = 0 → fOut n mo d a s = s := by
  intro d
  induction d with
  | zero => intro a s h; rfl
  | succ d ih =>
    intro a s h
    by_cases q : mo < nI (2 ^ a)
    · exact fOut_y q
    · rw [fOut_n q, fInn_0 8 1 s h]
      exact ih (a + 1) s h
theorem ch16 (a k : Nat) : ((16 : Int32) * nI (2 ^ a)) + nI k = nI (16 * 2 ^ a + k) := by rw [show (16 : Int32) * nI (2 ^ a) = nI (16 * 2 ^ a) from pk_mul 16 (2 ^ a), nI_add]
theorem few_in_x {a w v n N : Nat} (ha : a ≤ 12) (hv : v < 8) (hw : w < 8) (hn : n ≤ 1000) (hN : N ≤ 1000) {vIW : Nat → Int32} (eN : vIW v = nI N) (en : vIW w = nI n) (vW : Nat → Int64) (sd : Int32) {F : Nat → Nat} (hF : ∀ k, F k = fN N (wOf vW v) n (wOf vW w) sd a k) : ∀ (d k fu : Nat), k + d = 9 → 1 ≤ k → d < fu → ∀ (s : Nat × Nat) (al : Nat → Int32), s.1 ≤ 1001 → OK (mX9_fewest_L50 vW vIW (nI v) (nI w) sd (nI (2 ^ a)) fu (nI k) (nI s.1) (nI s.2) al) (fun z => z.2.1 = nI (fInn F a d k s).1 ∧ z.2.2.1 = nI (fInn F a d k s).2 ∧ (fInn F a d k s).1 ≤ 1001) := by
  intro d
  induction d with
  | zero =>
    intro k fu hk _ hf s al hs
    obtain ⟨fu, rfl⟩ : ∃ q, fu = q + 1 := ⟨fu - 1, by omega⟩
    obtain rfl : k = 9 := by omega
    rw [mX9_fewest_L50]
    exact OK_T (by decide) (OK_some ⟨rfl, rfl, hs⟩)
  | succ d ih =>
    intro k fu hk h1 hf s al hs
    obtain ⟨fu, rfl⟩ : ∃ q, fu = q + 1 := ⟨fu - 1, by omega⟩
    have hb : F k ≤ 1000 := by
      rw [hF k]
      exact Nat.le_trans (fC_le _ n) hn
    rw [mX9_fewest_L50, nI_s, fInn_s]
    refine OK_F (fun q => absurd q (Int32.not_lt.mpr (nI_le (b := 8) (by omega) (by decide)))) (OK_bind (falsely_x ha (by omega) hv hw hn hN eN en vW sd al) (fun z hz => ?_))
    rw [hz, ← hF k, ch16]
    refine OK_ite (fun q => ?_) (fun q => ?_)
    · have := (nI_leI (by omega) (by omega)).mp q
      rw [fStp_n this]
      exact ih (k + 1) fu (by omega) (by omega) (by omega) s z.2 hs
    · have : F k < s.1 := Nat.lt_of_not_le (fun w => q (nI_le w (by omega)))
      rw [fStp_y this]
      exact ih (k + 1) fu (by omega) (by omega) (by omega) (F k, 16 * 2 ^ a + k) z.2 (by show F k ≤ 1001; omega)
theorem few_out_x {w v n N : Nat} (hv : v < 8) (hw : w < 8) (hn : n ≤ 1000) (hN : N ≤ 1000) {vIW : Nat → Int32} (eN : vIW v = nI N) (en : vIW w = nI n) (vW : Nat → Int64) (sd mo : Int32) (hmo : mo ≤ 4096) {F : Nat → Nat → Nat} (hF : ∀ a k, F a k = fN N (wOf vW v) n (wOf vW w) sd a k) : ∀ (d a fu : Nat), a + d = 13 → d < fu → ∀ (s : Nat × Nat) (al : Nat → Int32), s.1 ≤ 1001 → OK (mX9_fewest_L41 vW vIW (nI v) (nI w) mo sd fu (nI (2 ^ a)) (nI s.1) (nI s.2) al) (fun z => z.2.2.1 = nI (fOut F mo d a s).2) := by
  intro d
  induction d with
  | zero =>
    intro a fu ha hf s al hs
    obtain ⟨fu, rfl⟩ : ∃ q, fu = q + 1 := ⟨fu - 1, by omega⟩
    obtain rfl : a = 13 := by omega
    rw [mX9_fewest_L41]
    exact OK_T (Int32.lt_of_le_of_lt hmo (by decide)) (OK_some rfl)
  | succ d ih =>
    intro a fu ha hf s al hs
    obtain ⟨fu, rfl⟩ : ∃ q, fu = q + 1 := ⟨fu - 1, by omega⟩
    have e2 : (2 : Int32) * nI (2 ^ a) = nI (2 ^ (a + 1)) := by rw [Nat.pow_succ, Nat.mul_comm]; exact pk_mul 2 (2 ^ a)
    rw [mX9_fewest_L41, e2]
    refine OK_ite (fun q => OK_some (by rw [fOut_y q])) (fun q => OK_bind (few_in_x (by omega) hv hw hn hN eN en vW sd (hF a) 8 1 FU (by decide) (by decide) (by decide) s al hs) (fun z hz => ?_))
    rw [hz.1, hz.2.1, fOut_n q]
    exact ih (a + 1) fu (by omega) (by omega) _ _ hz.2.2
