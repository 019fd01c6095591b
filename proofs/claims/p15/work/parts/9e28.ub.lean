/-! ===== LAYERED: bits of the reference (32 to a word) ===== -/
theorem b_one : ∀ i, i < 32 → bt 1 i = decide (i = 0) := by decide +kernel
theorem rb_has {x : Int32} {k : Nat} (hk : k < 32) : ((x >>> (nI k &&& 31)) &&& (1 : Int32)) = 1 ↔ bt x k = true := by
  have e0 : bt (x >>> (nI k &&& 31)) 0 = bt x k := by
    rw [b_sshr k hk x (by decide), Nat.add_zero, if_pos hk]
  constructor
  · intro h
    have h1 : bt ((x >>> (nI k &&& 31)) &&& (1 : Int32)) 0 = true := by
      rw [h]
      decide +kernel
    rw [b_and, e0] at h1
    exact (Bool.and_eq_true_iff.mp h1).1
  · intro h
    apply b_ext
    intro i hi
    rw [b_and, b_one i hi]
    by_cases e : i = 0
    · rw [e, e0, h]
      rfl
    · rw [decide_eq_false e, Bool.and_false]
theorem rb_or {x : Int32} {k j : Nat} (hk : k < 32) (hj : j < 32) : bt (x ||| ((1 : Int32) <<< (nI k &&& 31))) j = (bt x j || decide (j = k)) := by
  rw [b_or, b_shl k hk 1 hj]
  congr 1
  by_cases e : j = k
  · rw [e, Nat.sub_self, b_one 0 (by decide), decide_eq_true (Nat.le_refl k), decide_eq_true (show k = k from rfl)]
    rfl
  · rw [decide_eq_false e]
    by_cases w : k ≤ j
    · rw [decide_eq_true w, b_one (j - k) (by omega), decide_eq_false (show ¬ j - k = 0 by omega)]
      rfl
    · rw [decide_eq_false w]
      rfl
def rbt (vB : Nat → Int32) (q p : Nat) : Bool := bt (vB (128 * q + p / 32)) (p % 32)
def BkF (q : Nat) (vB b : Nat → Int32) : Prop := ∀ r, (r < 128 * q ∨ 128 * q + 128 ≤ r) → b r = vB r
theorem rbt_set {b : Nat → Int32} {q m p : Nat} : rbt (upd b (128 * q + m / 32) (b (128 * q + m / 32) ||| ((1 : Int32) <<< (nI (m % 32) &&& 31)))) q p = (rbt b q p || decide (p = m)) := by
  unfold rbt
  by_cases h : p / 32 = m / 32
  · rw [h, ups, rb_or (by omega) (by omega)]
    congr 1
    rw [decide_eq_decide]
    omega
  · rw [upo (show 128 * q + p / 32 ≠ 128 * q + m / 32 by omega), decide_eq_false (show ¬ p = m from fun e => h (by rw [e])), Bool.or_false]
theorem rbt_fr {q q' : Nat} (h : q' ≠ q) {vB b : Nat → Int32} (F : BkF q vB b) {p : Nat} (hp : p < 4096) : rbt b q' p = rbt vB q' p := by
  unfold rbt
  rw [F _ (by omega)]
/-! one more thing sets its marks -/
theorem fS_s {k : Nat} {v : Nat → Int64} {sd : Int32} {a m p : Nat} : fS (k + 1) v sd a m p ↔ (fS k v sd a m p ∨ ∃ j, j < m ∧ fP (v k) sd a j = p) := by
  constructor
  · rintro ⟨t, ht, j, hj, e⟩
    rcases Nat.lt_succ_iff_lt_or_eq.mp ht with w | w
    · exact Or.inl ⟨t, w, j, hj, e⟩
    · rw [w] at e
      exact Or.inr ⟨j, hj, e⟩
  · rintro (⟨t, ht, j, hj, e⟩ | ⟨j, hj, e⟩)
    · exact ⟨t, by omega, j, hj, e⟩
    · exact ⟨k, by omega, j, hj, e⟩
theorem ex_s {P : Nat → Prop} {k : Nat} : (∃ j, j < k + 1 ∧ P j) ↔ ((∃ j, j < k ∧ P j) ∨ P k) := by
  constructor
  · rintro ⟨j, hj, h⟩
    rcases Nat.lt_succ_iff_lt_or_eq.mp hj with w | w
    · exact Or.inl ⟨j, w, h⟩
    · rw [w] at h
      exact Or.inr h
  · rintro (⟨j, hj, h⟩ | h)
    · exact ⟨j, by omega, h⟩
    · exact ⟨k, by omega, h⟩
theorem setMarks_x {a : Nat} (ha : a ≤ 12) (v : Nat → Int64) (mx : Int64) : OK (mX1_setMarks (nI (2 ^ a)) v mx 3) (fun z => ∀ p, bts z p = true ↔ (bts v p = true ∨ ∃ j, j < 3 ∧ mkN (nM mx) j % 2 ^ a = p)) := by
  have hp := pow_up ha
  unfold mX1_setMarks
  refine OK_bind (P := fun z => ∀ p, bts z.2 p = true ↔ (bts v p = true ∨ ∃ j, j < 3 ∧ mkN (nM mx) j % 2 ^ a = p)) ?_ (fun z hz => OK_some hz)
  refine OK_for (fun fu i (s : Nat → Int64) => mX1_setMarks_L3 (nI (2 ^ a)) mx 3 fu i s) 3 (by decide) (fun i s => ∀ p, bts s p = true ↔ (bts v p = true ∨ ∃ j, j < i ∧ mkN (nM mx) j % 2 ^ a = p)) _ (s := v) (fun p => ⟨Or.inl, fun h => h.elim id (fun ⟨t, ht, _⟩ => absurd ht (Nat.not_lt_zero t))⟩) ?_ ?_
  · intro fu s hs
    show OK (mX1_setMarks_L3 (nI (2 ^ a)) mx 3 (fu + 1) (nI 3) s) _
    rw [mX1_setMarks_L3]
    exact OK_T (by decide) (OK_some hs)
  · intro fu i s hi hs ih
    show OK (mX1_setMarks_L3 (nI (2 ^ a)) mx 3 (fu + 1) (nI i) s) _
    have hq : mkN (nM mx) i % 2 ^ a < 2 ^ a := Nat.mod_lt _ (Nat.two_pow_pos a)
    rw [mX1_setMarks_L3, nI_s]
    refine OK_F (nI_ge (b := 3) hi (by decide)) (OK_be (mp_c mx (by omega) ha) (OK_be (br_set (by omega) hq) (ih _ (fun p => ?_))))
    rw [bts_set, Bool.or_eq_true, hs p, decide_eq_true_iff, ex_s (P := fun j => mkN (nM mx) j % 2 ^ a = p)]
    constructor
    · rintro ((w | w) | w)
      · exact Or.inl w
      · exact Or.inr (Or.inl w)
      · exact Or.inr (Or.inr w.symm)
    · rintro (w | w | w)
      · exact Or.inl (Or.inl w)
      · exact Or.inl (Or.inr w)
      · exact Or.inr w.symm
theorem fP_lt4 (x : Int64) (sd : Int32) (n j : Nat) : fP x sd (szA n) j < 4096 := Nat.lt_of_lt_of_le (fP_lt x sd (szA n) j) (szA_pow n)
theorem addLayer_x {i k : Nat} (hi : i < 20) (hk : k ≤ 1000) (lsd : Int32) (kca : Nat → Int32) (dw v1 : Nat → Int64) : OK (mX3_addLayer lsd kca (nI i) dw (nI k) v1) (fun z => z.1 = nI (i + 1) ∧ z.2.1 = upd kca i (nI k) ∧ z.2.2.1 = nI (2 ^ szA k) ∧ ∀ p, p < 4096 → (bts z.2.2.2 p = true ↔ fS k v1 (lsd + nI i) (szA k) 3 p)) := by
  have ha := (szA_le k).2
  have hp := szA_pow k
  unfold mX3_addLayer
  refine OK_T (ix_nI hi) (OK_be rfl (OK_be (sizeFor_v hk) (OK_be (br_begin (szA_pow k)) (OK_bind (P := fun z => ∀ p, p < 4096 → (bts z.2 p = true ↔ fS k v1 (lsd + nI i) (szA k) 3 p)) ?_ (fun o ho => OK_be rfl (OK_T (ix_nI hi) (OK_some ⟨nI_s i, by rw [cl_nI], rfl, ho⟩)))))))
  refine OK_for (fun fu x (s : Nat → Int64) => mX3_addLayer_L18 lsd (nI i) (nI k) v1 (nI (2 ^ szA k), filJ 64 dw 0) fu x s) k (by omega) (fun x s => ∀ p, p < 4096 → (bts s p = true ↔ fS x v1 (lsd + nI i) (szA k) 3 p)) _ (s := filJ 64 dw 0) (fun p hq => ⟨fun h => ?_, fun ⟨t, ht, _⟩ => absurd ht (Nat.not_lt_zero t)⟩) ?_ ?_
  · rw [bts_0 (by omega)] at h
    exact absurd h (by decide)
  · intro fu s hs
    show OK (mX3_addLayer_L18 lsd (nI i) (nI k) v1 (nI (2 ^ szA k), filJ 64 dw 0) (fu + 1) (nI k) s) _
    rw [mX3_addLayer_L18]
    exact OK_be rfl (OK_T (Int32.le_refl _) (OK_some hs))
  · intro fu j s hj hs ih
    show OK (mX3_addLayer_L18 lsd (nI i) (nI k) v1 (nI (2 ^ szA k), filJ 64 dw 0) (fu + 1) (nI j) s) _
    rw [mX3_addLayer_L18]
    refine OK_be rfl (OK_F (nI_ge hj (by omega)) (OK_T (ix_nI hi) (OK_be (bag_atN hk hj) (OK_be (mix_c _ _) (OK_bind (setMarks_x ha s _) (fun z hz => ?_))))))
    rw [nI_s]
    refine ih z (fun p hq => ?_)
    rw [hz p, hs p hq, fS_s]
    rfl
/-! what comes through, in its order -/
noncomputable def fq (P : Int64 → Prop) (v : Nat → Int64) : Nat → Nat × (Nat → Int64)
  | 0 => (0, fun _ => 0)
  | k + 1 => @ite _ (P (v k)) (Classical.propDecidable (P (v k))) ((fq P v k).1 + 1, vp_updL (fq P v k).2 (fq P v k).1 (v k)) (fq P v k)
theorem fq_y {P : Int64 → Prop} {v : Nat → Int64} {k : Nat} (h : P (v k)) : fq P v (k + 1) = ((fq P v k).1 + 1, vp_updL (fq P v k).2 (fq P v k).1 (v k)) := by
  show @ite _ (P (v k)) (Classical.propDecidable (P (v k))) _ _ = _
  rw [if_pos h]
theorem fq_n {P : Int64 → Prop} {v : Nat → Int64} {k : Nat} (h : ¬ P (v k)) : fq P v (k + 1) = fq P v k := by
  show @ite _ (P (v k)) (Classical.propDecidable (P (v k))) _ _ = _
  rw [if_neg h]
theorem fq_le (P : Int64 → Prop) (v : Nat → Int64) (k : Nat) : (fq P v k).1 ≤ k := by
  induction k with
  | zero => exact Nat.le_refl _
  | succ k ih =>
    by_cases h : P (v k)
    · rw [fq_y h]
      show (fq P v k).1 + 1 ≤ k + 1
      omega
    · rw [fq_n h]
      omega
theorem fq_ext {P Q : Int64 → Prop} {v w : Nat → Int64} (hP : ∀ x, P x ↔ Q x) : ∀ {k : Nat}, AG k v w → fq P v k = fq Q w k := by
  intro k
  induction k with
  | zero => intro _; rfl
  | succ k ih =>
    intro h
    have e := h k (by omega)
    have ih := ih (fun i hi => h i (by omega))
    by_cases q : P (v k)
    · rw [fq_y q, fq_y (show Q (w k) from (hP _).mp (e ▸ q)), ih, e]
    · rw [fq_n q, fq_n (show ¬ Q (w k) from fun r => q (e ▸ (hP _).mpr r)), ih]
theorem fq_ris {P : Int64 → Prop} {v : Nat → Int64} : ∀ {k : Nat}, rising v k → rising (fq P v k).2 (fq P v k).1 ∧ ∀ i, i < (fq P v k).1 → ∃ p, p < k ∧ (fq P v k).2 i = v p := by
  intro k
  induction k with
  | zero => intro _; exact ⟨fun i j _ hj => absurd hj (Nat.not_lt_zero j), fun i hi => absurd hi (Nat.not_lt_zero i)⟩
  | succ k ih =>
    intro h
    obtain ⟨h1, h2⟩ := ih (fun i j hij hj => h i j hij (by omega))
    by_cases q : P (v k)
    · rw [fq_y q]
      refine ⟨fun i j hij hj => ?_, fun i hi => ?_⟩
      · dsimp only at hj ⊢
        rcases Nat.lt_succ_iff_lt_or_eq.mp hj with w | w
        · rw [pk_uLn (show i ≠ (fq P v k).1 by omega), pk_uLn (show j ≠ (fq P v k).1 by omega)]
          exact h1 i j hij w
        · rw [w, pk_uLs]
          rcases Nat.lt_or_ge i (fq P v k).1 with w2 | w2
          · rw [pk_uLn (show i ≠ (fq P v k).1 by omega)]
            obtain ⟨p, hp, e⟩ := h2 i w2
            rw [e]
            exact h p k (by omega) (by omega)
          · rw [show i = (fq P v k).1 by omega, pk_uLs]
            exact Int64.le_refl _
      · dsimp only at hi ⊢
        rcases Nat.lt_succ_iff_lt_or_eq.mp hi with w | w
        · rw [pk_uLn (show i ≠ (fq P v k).1 by omega)]
          obtain ⟨p, hp, e⟩ := h2 i w
          exact ⟨p, by omega, e⟩
        · rw [w, pk_uLs]
          exact ⟨k, by omega, rfl⟩
    · rw [fq_n q]
      refine ⟨h1, fun i hi => ?_⟩
      obtain ⟨p, hp, e⟩ := h2 i hi
      exact ⟨p, by omega, e⟩
/-- a row that has just what came through -/
def IsF (P : Int64 → Prop) (v : Nat → Int64) (k : Nat) (n : Int32) (u : Nat → Int64) : Prop := n = nI (fq P v k).1 ∧ AG (fq P v k).1 u (fq P v k).2
theorem IsF_0 (P : Int64 → Prop) (v u : Nat → Int64) : IsF P v 0 0 u := ⟨rfl, fun i hi => absurd hi (Nat.not_lt_zero i)⟩
theorem IsF_n {P : Int64 → Prop} {v : Nat → Int64} {k : Nat} {n : Int32} {u : Nat → Int64} (h : IsF P v k n u) (q : ¬ P (v k)) : IsF P v (k + 1) n u := by
  unfold IsF
  rw [fq_n q]
  exact h
theorem IsF_y {P : Int64 → Prop} {v : Nat → Int64} {k : Nat} {n : Int32} {u : Nat → Int64} (h : IsF P v k n u) (q : P (v k)) : IsF P v (k + 1) (nI ((fq P v k).1 + 1)) (vp_updL u (fq P v k).1 (v k)) := by
  unfold IsF
  rw [fq_y q]
  refine ⟨rfl, fun i hi => ?_⟩
  dsimp only at hi ⊢
  by_cases e : i = (fq P v k).1
  · rw [e, pk_uLs, pk_uLs]
  · rw [pk_uLn e, pk_uLn e]
    exact h.2 i (by omega)
theorem sift_x {i a m : Nat} (hi : i < 20) (ha : a ≤ 12) (hm : m ≤ 1000) (lsd : Int32) (dw v2 v3 : Nat → Int64) {P : Int64 → Prop} (hP : ∀ x, (∀ j, j < 3 → bts dw (fP x (lsd + nI i) a j) = true) ↔ P x) : OK (mX3_sift lsd (nI i) (nI (2 ^ a)) dw (nI m) v2 v3) (fun z => IsF P v2 m z.1 z.2) := by
  have hp := pow_up ha
  unfold mX3_sift
  refine OK_be rfl (OK_bind (P := fun z => IsF P v2 m z.2.1 z.2.2) ?_ (fun z hz => OK_some hz))
  refine OK_for (fun fu x (s : Int32 × (Nat → Int64)) => mX3_sift_L7 lsd (nI i) (nI (2 ^ a)) dw (nI m) v2 fu x s.1 s.2) m (by omega) (fun k s => IsF P v2 k s.1 s.2) _ (s := (0, v3)) (IsF_0 P v2 v3) ?_ ?_
  · rintro fu ⟨s1, s2⟩ hs
    show OK (mX3_sift_L7 lsd (nI i) (nI (2 ^ a)) dw (nI m) v2 (fu + 1) (nI m) s1 s2) _
    rw [mX3_sift_L7]
    exact OK_be rfl (OK_T (Int32.le_refl _) (OK_some hs))
  · rintro fu k ⟨s1, s2⟩ hk hs ih
    show OK (mX3_sift_L7 lsd (nI i) (nI (2 ^ a)) dw (nI m) v2 (fu + 1) (nI k) s1 s2) _
    dsimp only at hs
    have hle := fq_le P v2 k
    rw [mX3_sift_L7, nI_s]
    refine OK_be rfl (OK_F (nI_ge hk (by omega)) (OK_be (bag_atN hm hk) (OK_bind (P := fun z => (z = 1 ∧ P (v2 k)) ∨ (z = 0 ∧ ¬ P (v2 k))) ?_ ?_)))
    · unfold mX3_passesLayer
      refine OK_T (ix_nI hi) (OK_be (mix_c _ _) (OK_bind (hasMarks_x (m := 3) ha (by decide) dw _) ?_))
      rintro z (⟨rfl, h⟩ | ⟨rfl, h⟩)
      · exact OK_T (Or.inr rfl) (OK_some (Or.inl ⟨rfl, (hP _).mp h⟩))
      · exact OK_T (Or.inl rfl) (OK_some (Or.inr ⟨rfl, fun w => h ((hP _).mpr w)⟩))
    · rintro z (⟨rfl, h⟩ | ⟨rfl, h⟩)
      · refine OK_F (by decide) (OK_be (bag_atN hm hk) ?_)
        rw [hs.1]
        exact OK_be (bag_app (by omega)) (ih (_, _) (IsF_y hs h))
      · exact OK_T rfl (ih (s1, s2) (IsF_n hs h))
theorem without_y {U N : Nat} (hU : U ≤ 1000) (hN : N ≤ 1000) (v uv nv : Nat → Int64) (hr : worldR nv N) : OK (mX0_becomeWithout v (nI U) uv (nI N) nv) (fun z => IsF (fun x => ¬ memW N nv x) uv U z.1 z.2) := by
  unfold mX0_becomeWithout
  refine OK_be rfl (OK_bind (P := fun z => IsF (fun x => ¬ memW N nv x) uv U z.2.1 z.2.2) ?_ (fun z hz => OK_some hz))
  refine OK_for (fun fu i (s : Int32 × (Nat → Int64)) => mX0_becomeWithout_L6 (nI U) uv (nI N) nv fu i s.1 s.2) U (by omega) (fun i s => IsF (fun x => ¬ memW N nv x) uv i s.1 s.2) _ (s := (0, v)) (IsF_0 _ uv v) ?_ ?_
  · rintro fu ⟨s1, s2⟩ hs
    show OK (mX0_becomeWithout_L6 (nI U) uv (nI N) nv (fu + 1) (nI U) s1 s2) _
    rw [mX0_becomeWithout_L6]
    exact OK_T (Int32.le_refl _) (OK_some hs)
  · rintro fu i ⟨s1, s2⟩ hi hs ih
    show OK (mX0_becomeWithout_L6 (nI U) uv (nI N) nv (fu + 1) (nI i) s1 s2) _
    dsimp only at hs
    have hle := fq_le (fun x => ¬ memW N nv x) uv i
    rw [mX0_becomeWithout_L6, clN (k := i) (by omega), nI_s]
    refine OK_F (nI_ge hi (by omega)) (OK_T (ix_nI (by omega)) (OK_be (bag_has hN) ?_))
    by_cases q : memW N nv (uv i)
    · rw [if_pos ((hasW hr hN _).mpr q)]
      exact OK_F (by decide) (ih (s1, s2) (IsF_n hs (fun w => w q)))
    · rw [if_neg (fun w => q ((hasW hr hN _).mp w)), hs.1]
      exact OK_T rfl (OK_T (ix_nI (by omega)) (OK_be (bag_app (by omega)) (ih (_, _) (IsF_y hs q))))
/-! the reference's layer -/
theorem rlay_x {s i n : Nat} (hs : s < 30) (hi : i < 20) (hn : n ≤ 1000) (vZ vS vB vL vLC : Nat → Int32) (vCo : Nat → Int64) : OK (mX9_lay vZ vS vB vL vLC vCo (nI s) (nI i) (nI n)) (fun z => z.1 = upd vZ s (nI (i + 1)) ∧ z.2.2.1 = upd vL (20 * s + i) (nI (2 ^ szA n)) ∧ z.2.2.2 = upd vLC (20 * s + i) (nI n) ∧ BkF (20 * s + i) vB z.2.1 ∧ ∀ p, p < 2 ^ szA n → (rbt z.2.1 (20 * s + i) p = true ↔ fS n vCo (vS s + nI i) (szA n) 3 p)) := by
  have hp : 0 < 2 ^ szA n := Nat.two_pow_pos _
  have hp2 := szA_pow n
  unfold mX9_lay
  refine OK_be (show mX9_lay_L4 (nI n) FU 8 = some (nI (2 ^ szA n)) from rlay4 hn 9 3 FU (by decide) (by decide)) ?_
  rw [m20, clN (k := 20 * s + i) (by omega), clN (k := s) (by omega), nI_s]
  refine OK_T (ix_nI (by omega)) (OK_T (ix_nI (by omega)) (OK_bind (P := fun z => BkF (20 * s + i) vB z.2 ∧ ∀ j, j < 128 → z.2 (128 * (20 * s + i) + j) = 0) ?_ (fun y hy => OK_bind (P := fun z => BkF (20 * s + i) vB z.2 ∧ ∀ p, p < 2 ^ szA n → (rbt z.2 (20 * s + i) p = true ↔ fS n vCo (vS s + nI i) (szA n) 3 p)) ?_ (fun x hx => OK_T (ix_nI hs) (OK_some ⟨rfl, rfl, rfl, hx⟩)))))
  · refine OK_for (fun fu k (b : Nat → Int32) => mX9_lay_L58 (nI s) (nI i) fu k b) 128 (by decide) (fun k b => BkF (20 * s + i) vB b ∧ ∀ j, j < k → b (128 * (20 * s + i) + j) = 0) _ (s := vB) ⟨fun _ _ => rfl, fun j hj => absurd hj (Nat.not_lt_zero j)⟩ ?_ ?_
    · intro fu b hb
      show OK (mX9_lay_L58 (nI s) (nI i) (fu + 1) (nI 128) b) _
      rw [mX9_lay_L58]
      exact OK_T (by decide) (OK_some hb)
    · rintro fu k b hk ⟨h1, h2⟩ ih
      show OK (mX9_lay_L58 (nI s) (nI i) (fu + 1) (nI k) b) _
      rw [mX9_lay_L58, m20, m128, nI_s, clN (k := 128 * (20 * s + i) + k) (by omega)]
      refine OK_F (nI_ge (b := 128) hk (by decide)) (OK_T (ix_nI (by omega)) (ih _ ⟨fun r hr => ?_, fun j hj => ?_⟩))
      · rw [upo (show r ≠ 128 * (20 * s + i) + k by omega)]
        exact h1 r hr
      · by_cases e : j = k
        · rw [e, ups]
        · rw [upo (show 128 * (20 * s + i) + j ≠ 128 * (20 * s + i) + k by omega)]
          exact h2 j (by omega)
  · refine OK_for (fun fu k (b : Nat → Int32) => mX9_lay_L90 vS vCo (nI s) (nI i) (nI n) (nI (2 ^ szA n)) fu k b) n (by omega) (fun k b => BkF (20 * s + i) vB b ∧ ∀ p, p < 2 ^ szA n → (rbt b (20 * s + i) p = true ↔ fS k vCo (vS s + nI i) (szA n) 3 p)) _ (s := y.2) ⟨hy.1, fun p hq => ⟨fun h => ?_, fun ⟨t, ht, _⟩ => absurd ht (Nat.not_lt_zero t)⟩⟩ ?_ ?_
    · unfold rbt at h
      rw [hy.2 _ (by omega), b_0] at h
      exact absurd h (by decide)
    · intro fu b hb
      show OK (mX9_lay_L90 vS vCo (nI s) (nI i) (nI n) (nI (2 ^ szA n)) (fu + 1) (nI n) b) _
      rw [mX9_lay_L90]
      exact OK_T (Int32.le_refl _) (OK_some hb)
    · rintro fu k b hk ⟨h1, h2⟩ ih
      show OK (mX9_lay_L90 vS vCo (nI s) (nI i) (nI n) (nI (2 ^ szA n)) (fu + 1) (nI k) b) _
      rw [mX9_lay_L90, nI_s, clN (k := k) (by omega), clN (k := s) (by omega)]
      refine OK_F (nI_ge hk (by omega)) (OK_T (ix_nI (by omega)) (OK_T (ix_nI hs) (OK_be (mix_r _ _) (OK_bind (P := fun z => BkF (20 * s + i) vB z.2 ∧ ∀ p, p < 2 ^ szA n → (rbt z.2 (20 * s + i) p = true ↔ (fS k vCo (vS s + nI i) (szA n) 3 p ∨ ∃ j, j < 3 ∧ mkN (nM (mixV (vCo k) (vS s + nI i))) j % 2 ^ szA n = p))) ?_ (fun w hw => ih _ ⟨hw.1, fun p hq => ?_⟩)))))
      · generalize mixV (vCo k) (vS s + nI i) = mx
        refine OK_for (fun fu j (b : Nat → Int32) => mX9_lay_L119 (nI s) (nI i) (nI (2 ^ szA n)) mx fu j b) 3 (by decide) (fun j b => BkF (20 * s + i) vB b ∧ ∀ p, p < 2 ^ szA n → (rbt b (20 * s + i) p = true ↔ (fS k vCo (vS s + nI i) (szA n) 3 p ∨ ∃ q, q < j ∧ mkN (nM mx) q % 2 ^ szA n = p))) _ (s := b) ⟨h1, fun p hq => ⟨fun h => Or.inl ((h2 p hq).mp h), fun h => h.elim (fun w => (h2 p hq).mpr w) (fun ⟨t, ht, _⟩ => absurd ht (Nat.not_lt_zero t))⟩⟩ ?_ ?_
        · intro fu b hb
          show OK (mX9_lay_L119 (nI s) (nI i) (nI (2 ^ szA n)) mx (fu + 1) (nI 3) b) _
          rw [mX9_lay_L119]
          exact OK_T (by decide) (OK_some hb)
        · rintro fu j b hj ⟨g1, g2⟩ ih2
          show OK (mX9_lay_L119 (nI s) (nI i) (nI (2 ^ szA n)) mx (fu + 1) (nI j) b) _
          rw [mX9_lay_L119]
          refine OK_F (nI_ge (b := 3) hj (by decide)) (OK_be (mp_r mx (by omega) hp (by omega)) ?_)
          have hm : mkN (nM mx) j % 2 ^ szA n < 2 ^ szA n := Nat.mod_lt _ hp
          rw [show nI (mkN (nM mx) j % 2 ^ szA n) / (32 : Int32) = nI (mkN (nM mx) j % 2 ^ szA n / 32) from q_d (by omega) (by decide) (by decide), show irm (nI (mkN (nM mx) j % 2 ^ szA n)) (32 : Int32) = nI (mkN (nM mx) j % 2 ^ szA n % 32) from r_d (by omega) (by decide) (by decide), m20, m128, nI_s, clN (k := 128 * (20 * s + i) + mkN (nM mx) j % 2 ^ szA n / 32) (by omega)]
          refine OK_T (ix_nI (by omega)) (OK_T (ix_nI (by omega)) (ih2 _ ⟨fun r hr => ?_, fun p hq => ?_⟩))
          · rw [upo (show r ≠ 128 * (20 * s + i) + mkN (nM mx) j % 2 ^ szA n / 32 by omega)]
            exact g1 r hr
          · rw [rbt_set, Bool.or_eq_true, g2 p hq, decide_eq_true_iff, ex_s (P := fun q => mkN (nM mx) q % 2 ^ szA n = p)]
            constructor
            · rintro ((w | w) | w)
              · exact Or.inl w
              · exact Or.inr (Or.inl w)
              · exact Or.inr (Or.inr w.symm)
            · rintro (w | w | w)
              · exact Or.inl (Or.inl w)
              · exact Or.inl (Or.inr w)
              · exact Or.inr w.symm
      · rw [hw.2 p hq, fS_s]
        rfl
theorem rlets_x {vS vB vL : Nat → Int32} {s i a : Nat} (hs : s < 30) (hi : i < 20) (ha : a ≤ 12) (e : vL (20 * s + i) = nI (2 ^ a)) (t : Int64) : OK (mX9_layerLets vS vB vL (nI s) (nI i) t) (fun z => (z = 1 ∧ ∀ j, j < 3 → rbt vB (20 * s + i) (fP t (vS s + nI i) a j) = true) ∨ (z = 0 ∧ ¬ ∀ j, j < 3 → rbt vB (20 * s + i) (fP t (vS s + nI i) a j) = true)) := by
  have hp : 0 < 2 ^ a := Nat.two_pow_pos a
  have hp2 : 2 ^ a ≤ 2 ^ 12 := pow_up ha
  unfold mX9_layerLets
  rw [clN (k := s) (by omega)]
  refine OK_T (ix_nI hs) (OK_be (mix_r _ _) (OK_bind (P := fun o => (o.2 = 1 ∧ ∀ j, j < 3 → rbt vB (20 * s + i) (fP t (vS s + nI i) a j) = true) ∨ (o.2 = 0 ∧ ¬ ∀ j, j < 3 → rbt vB (20 * s + i) (fP t (vS s + nI i) a j) = true)) ?_ (fun o ho => OK_T (ho.elim (fun w => Or.inr w.1) (fun w => Or.inl w.1)) (OK_some ho))))
  refine OK_for (fun fu j (x : Int32) => mX9_layerLets_L20 vB vL (nI s) (nI i) (mixV t (vS s + nI i)) fu j x) 3 (by decide) (fun k x => (x = 1 ∧ ∀ j, j < k → rbt vB (20 * s + i) (fP t (vS s + nI i) a j) = true) ∨ (x = 0 ∧ ¬ ∀ j, j < k → rbt vB (20 * s + i) (fP t (vS s + nI i) a j) = true)) _ (s := 1) (Or.inl ⟨rfl, fun j hj => absurd hj (Nat.not_lt_zero j)⟩) ?_ ?_
  · intro fu x hx
    show OK (mX9_layerLets_L20 vB vL (nI s) (nI i) (mixV t (vS s + nI i)) (fu + 1) (nI 3) x) _
    rw [mX9_layerLets_L20]
    exact OK_T (by decide) (OK_some hx)
  · intro fu j x hj hx ih
    show OK (mX9_layerLets_L20 vB vL (nI s) (nI i) (mixV t (vS s + nI i)) (fu + 1) (nI j) x) _
    have hm : mkN (nM (mixV t (vS s + nI i))) j % 2 ^ a < 2 ^ a := Nat.mod_lt _ hp
    rw [mX9_layerLets_L20]
    refine OK_F (nI_ge (b := 3) hj (by decide)) ?_
    rw [m20, clN (k := 20 * s + i) (by omega), e]
    refine OK_T (ix_nI (by omega)) (OK_be (mp_r _ (by omega) hp (by omega)) ?_)
    rw [nI_s, show nI (mkN (nM (mixV t (vS s + nI i))) j % 2 ^ a) / (32 : Int32) = nI (mkN (nM (mixV t (vS s + nI i))) j % 2 ^ a / 32) from q_d (by omega) (by decide) (by decide), show irm (nI (mkN (nM (mixV t (vS s + nI i))) j % 2 ^ a)) (32 : Int32) = nI (mkN (nM (mixV t (vS s + nI i))) j % 2 ^ a % 32) from r_d (by omega) (by decide) (by decide), m128, clN (k := 128 * (20 * s + i) + mkN (nM (mixV t (vS s + nI i))) j % 2 ^ a / 32) (by omega)]
    refine OK_ite (fun q => ih 0 (Or.inr ⟨rfl, fun w => ?_⟩)) (fun q => OK_T (ix_nI (by omega)) (OK_ite (fun r => ih 1 (Or.inl ⟨rfl, fun k hk => ?_⟩)) (fun r => ih 0 (Or.inr ⟨rfl, fun w => ?_⟩))))
    · rcases hx with ⟨ex, -⟩ | ⟨-, h⟩
      · rw [q] at ex
        exact absurd ex (by decide)
      · exact h (fun k hk => w k (by omega))
    · rcases hx with ⟨-, h⟩ | ⟨ex, -⟩
      · rcases Nat.lt_succ_iff_lt_or_eq.mp hk with w | w
        · exact h k w
        · rw [w]
          exact (rb_has (by omega)).mp r
      · exact absurd ex q
    · exact r ((rb_has (by omega)).mpr (w j (by omega)))
theorem rsift_x {s i a A : Nat} (hs : s < 30) (hi : i < 20) (ha : a ≤ 12) (hA : A ≤ 1000) (zz : Int32 × Int32 × (Nat → Int32) × (Nat → Int32) × (Nat → Int32) × (Nat → Int32) × (Nat → Int32) × (Nat → Int32) × (Nat → Int32)) (ez : zz.1 = nI s) (yy : (Nat → Int32) × (Nat → Int32) × (Nat → Int32) × (Nat → Int32)) (ey : yy.2.2.1 (20 * s + i) = nI (2 ^ a)) (ri go : Nat → Int64) {P : Int64 → Prop} (hP : ∀ x, (∀ j, j < 3 → rbt yy.2.1 (20 * s + i) (fP x (zz.2.2.2.2.2.1 s + nI i) a j) = true) ↔ P x) : OK (mX9_layered_L268 zz yy (nI i) (nI A) ri FU 0 0 go) (fun z => IsF P ri A z.2.1 z.2.2) := by
  refine OK_for (fun fu k (x : Int32 × (Nat → Int64)) => mX9_layered_L268 zz yy (nI i) (nI A) ri fu k x.1 x.2) A (by omega) (fun k x => IsF P ri k x.1 x.2) _ (s := (0, go)) (IsF_0 P ri go) ?_ ?_
  · rintro fu ⟨x1, x2⟩ hx
    show OK (mX9_layered_L268 zz yy (nI i) (nI A) ri (fu + 1) (nI A) x1 x2) _
    rw [mX9_layered_L268]
    exact OK_T (Int32.le_refl _) (OK_some hx)
  · rintro fu k ⟨x1, x2⟩ hk hx ih
    show OK (mX9_layered_L268 zz yy (nI i) (nI A) ri (fu + 1) (nI k) x1 x2) _
    dsimp only at hx
    have hle := fq_le P ri k
    rw [mX9_layered_L268, ez, nI_s, clN (k := k) (by omega)]
    refine OK_F (nI_ge hk (by omega)) (OK_T (ix_nI (by omega)) (OK_bind (rlets_x hs hi ha ey _) ?_))
    rintro z (⟨rfl, h⟩ | ⟨rfl, h⟩)
    · refine OK_F (by decide) (OK_T (ix_nI (by omega)) ?_)
      rw [hx.1, nI_1, clN (k := (fq P ri k).1) (by omega)]
      exact OK_T (ix_nI (by omega)) (ih (_, _) (IsF_y hx ((hP _).mp h)))
    · exact OK_T rfl (ih (x1, x2) (IsF_n hx (fun w => h ((hP _).mpr w))))
