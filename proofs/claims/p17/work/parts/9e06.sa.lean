/-! ===== how often a thing stands in a row ===== -/
def cB (k : Nat) (v : Nat → Int64) (t : Int64) : Nat := match k with
  | 0 => 0
  | k + 1 => cB k v t + if v k = t then 1 else 0
theorem cB_0 (v : Nat → Int64) (t : Int64) : cB 0 v t = 0 := rfl
theorem cB_s (k : Nat) (v : Nat → Int64) (t : Int64) : cB (k + 1) v t = cB k v t + if v k = t then 1 else 0 := rfl
theorem cB_y {k : Nat} {v : Nat → Int64} {t : Int64} (h : v k = t) : cB (k + 1) v t = cB k v t + 1 := by rw [cB_s, if_pos h]
theorem cB_n {k : Nat} {v : Nat → Int64} {t : Int64} (h : ¬ v k = t) : cB (k + 1) v t = cB k v t := by rw [cB_s, if_neg h, Nat.add_zero]
theorem cB_ext {k : Nat} {u v : Nat → Int64} {t : Int64} (h : AG k u v) : cB k u t = cB k v t := by
  induction k with
  | zero => rfl
  | succ k ih => rw [cB_s, cB_s, ih (fun i hi => h i (by omega)), h k (by omega)]
theorem cB_add (a b : Nat) (v : Nat → Int64) (t : Int64) : cB (a + b) v t = cB a v t + cB b (fun i => v (a + i)) t := by
  induction b with
  | zero => rfl
  | succ b ih =>
    show cB (a + b + 1) v t = _
    rw [cB_s, cB_s, ih]
    omega
theorem cB_le (k : Nat) (v : Nat → Int64) (t : Int64) : cB k v t ≤ k := by
  induction k with
  | zero => exact Nat.le_refl _
  | succ k ih =>
    rw [cB_s]
    split <;> omega
theorem cB_mono {a b : Nat} (h : a ≤ b) (v : Nat → Int64) (t : Int64) : cB a v t ≤ cB b v t := by
  obtain ⟨d, rfl⟩ : ∃ d, b = a + d := ⟨b - a, by omega⟩
  rw [cB_add]
  omega
theorem cB_none {k : Nat} {v : Nat → Int64} {t : Int64} (h : ∀ i, i < k → ¬ v i = t) : cB k v t = 0 := by
  induction k with
  | zero => rfl
  | succ k ih => rw [cB_n (h k (by omega)), ih (fun i hi => h i (by omega))]
theorem cB_pos {k : Nat} {v : Nat → Int64} {t : Int64} : 0 < cB k v t ↔ ∃ i, i < k ∧ v i = t := by
  constructor
  · intro h
    apply Classical.byContradiction
    intro q
    rw [cB_none (fun i hi e => q ⟨i, hi, e⟩)] at h
    omega
  · rintro ⟨i, hi, e⟩
    have h1 := cB_mono (a := i + 1) (b := k) hi v t
    rw [cB_y e] at h1
    omega
/-- between two places nothing of t -/
theorem cB_gap {a b : Nat} (hab : a ≤ b) {v : Nat → Int64} {t : Int64} (h : ∀ i, a ≤ i → i < b → ¬ v i = t) : cB b v t = cB a v t := by
  obtain ⟨d, rfl⟩ : ∃ d, b = a + d := ⟨b - a, by omega⟩
  rw [cB_add, cB_none (k := d) (fun i hi => h (a + i) (by omega) (by omega))]
  rfl
theorem cB_ins {n : Nat} {v : Nat → Int64} {x t : Int64} : cB (n + 1) (insR v n x) t = cB n v t + if x = t then 1 else 0 := by
  have hc := cb_le v n x
  have e1 : n + 1 = cb v n x + (1 + (n - cb v n x)) := by omega
  have e2 : n = cb v n x + (n - cb v n x) := by omega
  have h1 : cB (cb v n x) (insR v n x) t = cB (cb v n x) v t := cB_ext (fun i hi => insR_lo hi)
  have h2 : cB 1 (fun i => insR v n x (cb v n x + i)) t = if x = t then 1 else 0 := by
    rw [cB_s, cB_0, Nat.zero_add]
    show (if insR v n x (cb v n x + 0) = t then 1 else 0) = _
    rw [Nat.add_zero, insR_at]
  have h3 : cB (n - cb v n x) (fun i => insR v n x (cb v n x + (1 + i))) t = cB (n - cb v n x) (fun i => v (cb v n x + i)) t := by
    refine cB_ext (fun i hi => ?_)
    show insR v n x (cb v n x + (1 + i)) = v (cb v n x + i)
    rw [insR_hi (by omega) (by omega)]
    congr 1
    omega
  have h4 : cB (n + 1) (insR v n x) t = cB (cb v n x) (insR v n x) t + (cB 1 (fun i => insR v n x (cb v n x + i)) t + cB (n - cb v n x) (fun i => insR v n x (cb v n x + (1 + i))) t) := by
    conv => lhs; rw [e1]
    rw [cB_add, cB_add]
  have h5 : cB n v t = cB (cb v n x) v t + cB (n - cb v n x) (fun i => v (cb v n x + i)) t := by
    conv => lhs; rw [e2]
    rw [cB_add]
  rw [h4, h5, h1, h2, h3]
  omega
theorem cB_del {n c : Nat} (hc : c < n) {v : Nat → Int64} {t : Int64} : cB (n - 1) (delR v n c) t + (if v c = t then 1 else 0) = cB n v t := by
  have e1 : n - 1 = c + (n - 1 - c) := by omega
  have e2 : n = c + (1 + (n - 1 - c)) := by omega
  have h1 : cB c (delR v n c) t = cB c v t := cB_ext (fun i hi => delR_lo hi)
  have h3 : cB (n - 1 - c) (fun i => delR v n c (c + i)) t = cB (n - 1 - c) (fun i => v (c + (1 + i))) t := by
    refine cB_ext (fun i hi => ?_)
    show delR v n c (c + i) = v (c + (1 + i))
    rw [delR_hi (by omega) (by omega)]
    congr 1
    omega
  have h4 : cB (n - 1) (delR v n c) t = cB c (delR v n c) t + cB (n - 1 - c) (fun i => delR v n c (c + i)) t := by
    conv => lhs; rw [e1]
    rw [cB_add]
  have h5 : cB n v t = cB c v t + (cB 1 (fun i => v (c + i)) t + cB (n - 1 - c) (fun i => v (c + (1 + i))) t) := by
    conv => lhs; rw [e2]
    rw [cB_add, cB_add]
  have h6 : cB 1 (fun i => v (c + i)) t = if v c = t then 1 else 0 := by
    rw [cB_s, cB_0, Nat.zero_add]
    rfl
  rw [h4, h5, h1, h3, h6]
  omega
theorem cB_count (k : Nat) (v : Nat → Int64) (t : Int64) : List.count t ((List.range k).map v) = cB k v t := by
  induction k with
  | zero => rfl
  | succ k ih =>
    rw [List.range_succ, List.map_append, List.count_append, ih, cB_s]
    show _ + List.count t [v k] = _
    rw [List.count_singleton]
    by_cases e : v k = t
    · rw [if_pos e, if_pos (beq_iff_eq.mpr e)]
    · rw [if_neg e, if_neg (fun q => e (beq_iff_eq.mp q))]
theorem cB_perm {m n : Nat} {v w : Nat → Int64} (h : ∀ t, cB m v t = cB n w t) : List.Perm ((List.range m).map v) ((List.range n).map w) := List.perm_iff_count.mpr (fun t => by rw [cB_count, cB_count, h])
theorem cB_eq_len {m n : Nat} {v w : Nat → Int64} (h : ∀ t, cB m v t = cB n w t) : m = n := by
  have := (cB_perm h).length_eq
  rw [List.length_map, List.length_map, List.length_range, List.length_range] at this
  exact this
theorem AG_ris {n : Nat} {u v : Nat → Int64} (h : AG n u v) (k : rising v n) : rising u n := by
  intro i j hij hj
  rw [h i (by omega), h j hj]
  exact k i j hij hj
theorem ll1 {x y : Int64} (h : x < y) (e : y = x) : False := by
  subst e
  exact Int64.lt_irrefl h
theorem ll2 {x y : Int64} (h : x < y) (e : x = y) : False := by
  subst e
  exact Int64.lt_irrefl h
/-! a bag that takes another in -/
theorem together_x {a b : Nat} (hab : a + b ≤ 1000) (v vo vo2 : Nat → Int64) (hr : rising vo a) : OK (mX0_becomeTogether v (nI a) vo (nI b) vo2) (fun z => z.1 = nI (a + b) ∧ rising z.2 (a + b) ∧ ∀ t, cB (a + b) z.2 t = cB a vo t + cB b vo2 t) := by
  unfold mX0_becomeTogether
  refine OK_be (bag_cpy (by omega)) (OK_bind (P := fun z => z.2.1 = nI (a + b) ∧ rising z.2.2 (a + b) ∧ ∀ t, cB (a + b) z.2.2 t = cB a vo t + cB b vo2 t) ?_ (fun z hz => OK_some hz))
  refine OK_for (fun fu i (s : Int32 × (Nat → Int64)) => mX0_becomeTogether_L7 (nI b) vo2 fu i s.1 s.2) b (by omega) (fun i s => s.1 = nI (a + i) ∧ rising s.2 (a + i) ∧ ∀ t, cB (a + i) s.2 t = cB a vo t + cB i vo2 t) _ (s := (nI a, va_cpy vo v 0 0 a)) ⟨rfl, AG_ris (AG_cpy vo v) hr, fun t => cB_ext (AG_cpy vo v)⟩ ?_ ?_
  · rintro fu ⟨s1, s2⟩ hs
    show OK (mX0_becomeTogether_L7 (nI b) vo2 (fu + 1) (nI b) s1 s2) _
    rw [mX0_becomeTogether_L7]
    exact OK_T (Int32.le_refl _) (OK_some hs)
  · rintro fu i ⟨s1, s2⟩ hi ⟨h1, h2, h3⟩ ih
    show OK (mX0_becomeTogether_L7 (nI b) vo2 (fu + 1) (nI i) s1 s2) _
    dsimp only at h1 h2 h3
    subst h1
    rw [mX0_becomeTogether_L7, clN (k := i) (by omega), nI_s]
    refine OK_F (nI_ge hi (by omega)) (OK_T (ix_nI (by omega)) (OK_be (bag_ins (by omega)) (ih (nI (a + i + 1), insR s2 (a + i) (vo2 i)) ⟨rfl, insR_rising h2 (by omega), fun t => ?_⟩)))
    show cB (a + i + 1) (insR s2 (a + i) (vo2 i)) t = _
    rw [cB_ins, h3 t, cB_s]
    omega
/-! what two bags share -/
theorem shared_skip {b i : Nat} (hb : b ≤ 1000) (hi : i < 1000) (vo vo2 : Nat → Int64) (h2 : rising vo2 b) : ∀ (d j fu : Nat), j + d = b → d < fu → OK (mX0_becomeShared_L18 vo (nI b) vo2 (nI i) fu (nI j)) (fun z => ∃ k, j ≤ k ∧ k ≤ b ∧ z = nI k ∧ (∀ q, j ≤ q → q < k → vo2 q < vo i) ∧ (k < b → ¬ vo2 k < vo i)) := by
  intro d j fu hj hf
  refine OK_up (fun fu x (_ : Unit) => mX0_becomeShared_L18 vo (nI b) vo2 (nI i) fu x) b (fun k _ => j ≤ k ∧ ∀ q, j ≤ q → q < k → vo2 q < vo i) _ ?_ ?_ d j () fu hj ⟨Nat.le_refl _, fun q h1 h2 => absurd h1 (by omega)⟩ hf
  · rintro fu _ ⟨h1, h3⟩
    show OK (mX0_becomeShared_L18 vo (nI b) vo2 (nI i) (fu + 1) (nI b)) _
    rw [mX0_becomeShared_L18]
    exact OK_T (Int32.le_refl _) (OK_some ⟨b, h1, Nat.le_refl _, rfl, h3, fun q => absurd q (Nat.lt_irrefl _)⟩)
  · rintro fu k _ hk ⟨h1, h3⟩ ih
    show OK (mX0_becomeShared_L18 vo (nI b) vo2 (nI i) (fu + 1) (nI k)) _
    rw [mX0_becomeShared_L18, clN (k := k) (by omega), clN (k := i) (by omega), nI_s]
    refine OK_F (nI_ge hk (by omega)) (OK_T (ix_nI (by omega)) (OK_T (ix_nI hi) (OK_ite (fun q => OK_some ⟨k, h1, by omega, rfl, h3, fun _ => Int64.not_lt.mpr ((lg_cmp_ge _ _).mp q)⟩) (fun q => ih () ⟨by omega, fun r r1 r2 => ?_⟩))))
    rcases Nat.lt_succ_iff_lt_or_eq.mp r2 with w | w
    · exact h3 r r1 w
    · subst w
      exact Int64.not_le.mp (fun w => q ((lg_cmp_ge _ _).mpr w))
def ShJ (a b : Nat) (vo vo2 : Nat → Int64) (i j m : Nat) (u : Nat → Int64) : Prop := j ≤ b ∧ m ≤ i ∧ rising u m ∧ (∀ r, r < m → ∃ p, p < i ∧ u r = vo p) ∧ (∀ t, cB m u t = min (cB i vo t) (cB b vo2 t)) ∧ ∀ t, (∀ p, p < i → vo p ≤ t) → cB j vo2 t = min (cB i vo t) (cB b vo2 t)
theorem ShJ_no {a b i j k m : Nat} {vo vo2 u : Nat → Int64} (hi : i < a) (h1 : rising vo a) (h2 : rising vo2 b) (H : ShJ a b vo vo2 i j m u) (hjk : j ≤ k) (hk : k ≤ b) (hs : ∀ q, j ≤ q → q < k → vo2 q < vo i) (he : ∀ q, k ≤ q → q < b → vo i < vo2 q) : ShJ a b vo vo2 (i + 1) k m u := by
  obtain ⟨g1, g2, g3, g4, g5, g6⟩ := H
  have hp : ∀ p, p < i → vo p ≤ vo i := fun p hp => h1 p i (by omega) hi
  have hx : cB b vo2 (vo i) = cB j vo2 (vo i) := (cB_gap hk (fun q q1 q2 e => ll1 (he q q1 q2) e)).trans (cB_gap hjk (fun q q1 q2 e => ll2 (hs q q1 q2) e))
  have hx2 := g6 (vo i) hp
  refine ⟨hk, by omega, g3, fun r hr => ?_, fun t => ?_, fun t ht => ?_⟩
  · obtain ⟨p, hp, e⟩ := g4 r hr
    exact ⟨p, by omega, e⟩
  · rw [g5 t]
    by_cases e : vo i = t
    · subst e
      rw [cB_y rfl]
      omega
    · rw [cB_n e]
  · have e1 : cB k vo2 t = cB j vo2 t := cB_gap hjk (fun q q1 q2 e => ll2 (Int64.lt_of_lt_of_le (hs q q1 q2) (ht i (by omega))) e)
    rw [e1, g6 t (fun p hp => ht p (by omega))]
    by_cases e : vo i = t
    · subst e
      rw [cB_y rfl]
      omega
    · rw [cB_n e]
theorem ShJ_yes {a b i j k m : Nat} {vo vo2 u : Nat → Int64} (hi : i < a) (h1 : rising vo a) (h2 : rising vo2 b) (H : ShJ a b vo vo2 i j m u) (hjk : j ≤ k) (hk : k < b) (hs : ∀ q, j ≤ q → q < k → vo2 q < vo i) (he : vo2 k = vo i) : ShJ a b vo vo2 (i + 1) (k + 1) (m + 1) (vp_updL u m (vo i)) := by
  obtain ⟨g1, g2, g3, g4, g5, g6⟩ := H
  have hp : ∀ p, p < i → vo p ≤ vo i := fun p hp => h1 p i (by omega) hi
  have hx : cB k vo2 (vo i) = cB j vo2 (vo i) := cB_gap hjk (fun q q1 q2 e => ll2 (hs q q1 q2) e)
  have hx2 := g6 (vo i) hp
  have hx3 := cB_mono (a := k + 1) (b := b) hk vo2 (vo i)
  rw [cB_y he] at hx3
  have eu : ∀ t, cB m (vp_updL u m (vo i)) t = cB m u t := fun t => cB_ext (fun r hr => pk_uLn (by omega))
  refine ⟨hk, by omega, ?_, fun r hr => ?_, fun t => ?_, fun t ht => ?_⟩
  · intro r s hrs hs2
    rcases Nat.lt_or_ge s m with q | q
    · rw [pk_uLn (by omega), pk_uLn (by omega)]
      exact g3 r s hrs q
    · obtain rfl : s = m := by omega
      rw [pk_uLs]
      rcases Nat.lt_or_ge r s with q2 | q2
      · rw [pk_uLn (by omega)]
        obtain ⟨p, hp2, e⟩ := g4 r q2
        rw [e]
        exact hp p hp2
      · obtain rfl : r = s := by omega
        rw [pk_uLs]
        exact Int64.le_refl _
  · rcases Nat.lt_or_ge r m with q | q
    · obtain ⟨p, hp2, e⟩ := g4 r q
      exact ⟨p, by omega, by rw [pk_uLn (by omega)]; exact e⟩
    · obtain rfl : r = m := by omega
      exact ⟨i, by omega, pk_uLs⟩
  · by_cases e : vo i = t
    · subst e
      rw [cB_y pk_uLs, cB_y rfl, eu, g5]
      omega
    · rw [cB_n (by rw [pk_uLs]; exact e), cB_n e, eu, g5]
  · by_cases e : vo i = t
    · subst e
      rw [cB_y he, cB_y rfl, hx, hx2]
      omega
    · rw [cB_n (by rw [he]; exact e), cB_n e]
      have e1 : cB k vo2 t = cB j vo2 t := cB_gap hjk (fun q q1 q2 e => ll2 (Int64.lt_of_lt_of_le (hs q q1 q2) (ht i (by omega))) e)
      rw [e1, g6 t (fun p hp => ht p (by omega))]
theorem shared_x {a b : Nat} (ha : a ≤ 1000) (hb : b ≤ 1000) (v vo vo2 : Nat → Int64) (h1 : rising vo a) (h2 : rising vo2 b) : OK (mX0_becomeShared v (nI a) vo (nI b) vo2) (fun z => ∃ m, m ≤ a ∧ z.1 = nI m ∧ rising z.2 m ∧ ∀ t, cB m z.2 t = min (cB a vo t) (cB b vo2 t)) := by
  unfold mX0_becomeShared
  refine OK_be rfl (OK_bind (P := fun z => ∃ m, m ≤ a ∧ z.2.2.1 = nI m ∧ rising z.2.2.2 m ∧ ∀ t, cB m z.2.2.2 t = min (cB a vo t) (cB b vo2 t)) ?_ (fun z hz => OK_some hz))
  refine OK_for (fun fu i (s : Int32 × Int32 × (Nat → Int64)) => mX0_becomeShared_L9 (nI a) vo (nI b) vo2 fu i s.1 s.2.1 s.2.2) a (by omega) (fun i s => ∃ j m, s.1 = nI j ∧ s.2.1 = nI m ∧ ShJ a b vo vo2 i j m s.2.2) _ (s := (0, 0, v)) ⟨0, 0, rfl, rfl, Nat.zero_le _, Nat.le_refl _, fun i j _ hj => absurd hj (Nat.not_lt_zero j), fun r hr => absurd hr (Nat.not_lt_zero r), fun t => by rw [cB_0, cB_0, Nat.zero_min], fun t _ => by rw [cB_0, cB_0, Nat.zero_min]⟩ ?_ ?_
  · rintro fu ⟨s1, s2, s3⟩ ⟨j, m, -, e2, -, g2, g3, -, g5, -⟩
    show OK (mX0_becomeShared_L9 (nI a) vo (nI b) vo2 (fu + 1) (nI a) s1 s2 s3) _
    rw [mX0_becomeShared_L9]
    exact OK_T (Int32.le_refl _) (OK_some ⟨m, g2, e2, g3, g5⟩)
  · rintro fu i ⟨s1, s2, s3⟩ hi ⟨j, m, e1, e2, H⟩ ih
    show OK (mX0_becomeShared_L9 (nI a) vo (nI b) vo2 (fu + 1) (nI i) s1 s2 s3) _
    dsimp only at e1 e2 H
    subst e1 e2
    have hj := H.1
    have hm := H.2.1
    rw [mX0_becomeShared_L9, clN (k := i) (by omega), nI_s]
    refine OK_F (nI_ge hi (by omega)) (OK_bind (shared_skip hb (by omega) vo vo2 h2 (b - j) j FU (by omega) (show b - j < 5000 by omega)) ?_)
    rintro z ⟨k, k1, k2, rfl, k3, k4⟩
    refine OK_ite (fun q => ih (nI k, nI m, s3) ⟨k, m, rfl, rfl, ShJ_no hi h1 h2 H k1 k2 k3 (fun q1 q2 q3 => ?_)⟩) (fun q => ?_)
    · have := (nI_leI (by omega) (by omega)).mp q
      omega
    · have kb : k < b := Nat.lt_of_not_le (fun w => q (nI_le w (by omega)))
      rw [clN (k := k) (by omega)]
      refine OK_T (ix_nI (by omega)) (OK_T (ix_nI (by omega)) (OK_ite (fun w => OK_T (ix_nI (by omega)) (OK_be (bag_app (by omega)) ?_)) (fun w => ih (nI k, nI m, s3) ⟨k, m, rfl, rfl, ShJ_no hi h1 h2 H k1 k2 k3 (fun q1 q2 q3 => ?_)⟩)))
      · rw [nI_1]
        exact ih (nI (k + 1), nI (m + 1), vp_updL s3 m (vo i)) ⟨k + 1, m + 1, rfl, rfl, ShJ_yes hi h1 h2 H k1 kb k3 ((lg_cmp_eq _ _).mp w)⟩
      · have l1 : vo i ≤ vo2 k := Int64.not_lt.mp (k4 kb)
        have l2 : vo i < vo2 k := Int64.lt_of_le_of_ne l1 (fun e => w ((lg_cmp_eq _ _).mpr e.symm))
        exact Int64.lt_of_lt_of_le l2 (h2 k q1 q2 q3)
