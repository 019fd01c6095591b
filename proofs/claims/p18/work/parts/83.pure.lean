/-! ===== the class: its methods answer under the ranges ===== -/
def BN (n : Int32) : Prop := ∃ k, k ≤ 1000 ∧ n = nI k
theorem BN_0 : BN 0 := ⟨0, by decide, rfl⟩
theorem ins_ok {n : Int32} (h : BN n) (v : Nat → Int64) (t : Int64) : OK (mX0_insert n v t) (fun z => BN z.2.1) := by
  obtain ⟨k, hk, rfl⟩ := h
  by_cases h1 : k = 1000
  · exact OK_eq (bag_insF h1) ⟨k, hk, rfl⟩
  · exact OK_eq (bag_ins (by omega)) ⟨k + 1, by omega, rfl⟩
theorem take_ok {n : Int32} (h : BN n) (v : Nat → Int64) (t : Int64) : OK (mX0_takeOne n v t) (fun z => BN z.2.1) := by
  obtain ⟨k, hk, rfl⟩ := h
  by_cases h1 : cb v k t < k ∧ v (cb v k t) = t
  · exact OK_eq (bag_take1 hk h1) ⟨k - 1, by omega, rfl⟩
  · exact OK_eq (bag_take0 hk h1) ⟨k, hk, rfl⟩
theorem app_ok {n : Int32} (h : BN n) (v : Nat → Int64) (t : Int64) : OK (mX0_append n v t) (fun z => BN z.1) := by
  obtain ⟨k, hk, rfl⟩ := h
  by_cases h1 : k = 1000
  · exact OK_eq (bag_appF h1) ⟨k, hk, rfl⟩
  · exact OK_eq (bag_app (by omega)) ⟨k + 1, by omega, rfl⟩
theorem cpy_ok {n : Int32} (h : BN n) (v vo : Nat → Int64) : OK (mX0_copyFrom v n vo) (fun z => z.1 = n ∧ BN z.1) := by
  obtain ⟨k, hk, rfl⟩ := h
  exact OK_eq (bag_cpy hk) ⟨rfl, k, hk, rfl⟩
theorem has01 {n : Int32} (h : BN n) (v : Nat → Int64) (t : Int64) : OK (mX0_has n v t) (fun z => z = 0 ∨ z = 1) := by
  obtain ⟨k, hk, rfl⟩ := h
  refine OK_eq (bag_has hk) ?_
  by_cases q : cb v k t < k ∧ v (cb v k t) = t
  · rw [if_pos q]; exact Or.inr rfl
  · rw [if_neg q]; exact Or.inl rfl
theorem at_ok {n : Int32} (h : BN n) (v : Nat → Int64) (i : Int32) : OK (mX0_at n v i) (fun _ => True) := by
  obtain ⟨k, hk, rfl⟩ := h
  exact OK_eq (bag_at hk) trivial
theorem full_ok (n : Int32) : OK (mX0_isFull n) (fun _ => True) := OK_ite (fun _ => OK_some trivial) (fun _ => OK_some trivial)
theorem without_ok {no no2 : Int32} (h : BN no) (h2 : BN no2) (v vo vo2 : Nat → Int64) : OK (mX0_becomeWithout v no vo no2 vo2) (fun z => BN z.1) := by
  obtain ⟨a, ha, rfl⟩ := h
  unfold mX0_becomeWithout
  refine OK_be rfl (OK_bind (P := fun z => BN z.2.1) ?_ (fun z hz => OK_some hz))
  refine OK_for (fun fu i (s : Int32 × (Nat → Int64)) => mX0_becomeWithout_L6 (nI a) vo no2 vo2 fu i s.1 s.2) a (by omega) (fun _ s => BN s.1) _ (s := (0, v)) BN_0 ?_ ?_
  · intro fu s hs
    show OK (mX0_becomeWithout_L6 (nI a) vo no2 vo2 (fu + 1) (nI a) s.1 s.2) _
    rw [mX0_becomeWithout_L6]
    exact OK_T (Int32.le_refl _) (OK_some hs)
  · intro fu i s hi hs ih
    show OK (mX0_becomeWithout_L6 (nI a) vo no2 vo2 (fu + 1) (nI i) s.1 s.2) _
    rw [mX0_becomeWithout_L6]
    refine OK_F (nI_ge hi (by omega)) (OK_T (ix_nI (by omega)) (OK_bind (has01 h2 _ _) (fun z _ => ?_)))
    rw [nI_s]
    refine OK_ite (fun _ => OK_T (ix_nI (by omega)) (OK_bind (app_ok hs _ _) (fun y hy => ih y hy))) (fun _ => ih s hs)
theorem together_ok {no no2 : Int32} (h : BN no) (h2 : BN no2) (v vo vo2 : Nat → Int64) : OK (mX0_becomeTogether v no vo no2 vo2) (fun z => BN z.1) := by
  obtain ⟨a, ha, rfl⟩ := h2
  unfold mX0_becomeTogether
  refine OK_bind (cpy_ok h _ _) (fun y hy => OK_bind (P := fun z => BN z.2.1) ?_ (fun z hz => OK_some hz))
  refine OK_for (fun fu i (s : Int32 × (Nat → Int64)) => mX0_becomeTogether_L7 (nI a) vo2 fu i s.1 s.2) a (by omega) (fun _ s => BN s.1) _ (s := y) hy.2 ?_ ?_
  · intro fu s hs
    show OK (mX0_becomeTogether_L7 (nI a) vo2 (fu + 1) (nI a) s.1 s.2) _
    rw [mX0_becomeTogether_L7]
    exact OK_T (Int32.le_refl _) (OK_some hs)
  · intro fu i s hi hs ih
    show OK (mX0_becomeTogether_L7 (nI a) vo2 (fu + 1) (nI i) s.1 s.2) _
    rw [mX0_becomeTogether_L7]
    refine OK_F (nI_ge hi (by omega)) (OK_T (ix_nI (by omega)) (OK_bind (ins_ok hs _ _) (fun z hz => ?_)))
    rw [nI_s]
    exact ih z.2 hz
theorem shared_in {b i : Nat} (hb : b ≤ 1000) (hi : i < 1000) (vo vo2 : Nat → Int64) : ∀ (d j fu : Nat), j + d = b → d < fu → OK (mX0_becomeShared_L18 vo (nI b) vo2 (nI i) fu (nI j)) (fun z => ∃ k, k ≤ b ∧ z = nI k) := by
  intro d j fu hj hf
  refine OK_up (fun fu x (_ : Unit) => mX0_becomeShared_L18 vo (nI b) vo2 (nI i) fu x) b (fun _ _ => True) _ ?_ ?_ d j () fu hj trivial hf
  · intro fu _ _
    show OK (mX0_becomeShared_L18 vo (nI b) vo2 (nI i) (fu + 1) (nI b)) _
    rw [mX0_becomeShared_L18]
    exact OK_T (Int32.le_refl _) (OK_some ⟨b, by omega, rfl⟩)
  · intro fu k _ hk _ ih
    show OK (mX0_becomeShared_L18 vo (nI b) vo2 (nI i) (fu + 1) (nI k)) _
    rw [mX0_becomeShared_L18]
    refine OK_F (nI_ge hk (by omega)) (OK_T (ix_nI (by omega)) (OK_T (ix_nI hi) ?_))
    rw [nI_s]
    exact OK_ite (fun _ => OK_some ⟨k, by omega, rfl⟩) (fun _ => ih () trivial)
theorem shared_ok {no no2 : Int32} (h : BN no) (h2 : BN no2) (v vo vo2 : Nat → Int64) : OK (mX0_becomeShared v no vo no2 vo2) (fun z => BN z.1) := by
  obtain ⟨a, ha, rfl⟩ := h
  obtain ⟨b, hb, rfl⟩ := h2
  unfold mX0_becomeShared
  refine OK_be rfl (OK_bind (P := fun z => BN z.2.2.1) ?_ (fun z hz => OK_some hz))
  refine OK_for (fun fu i (s : Int32 × Int32 × (Nat → Int64)) => mX0_becomeShared_L9 (nI a) vo (nI b) vo2 fu i s.1 s.2.1 s.2.2) a (by omega) (fun _ s => (∃ j, j ≤ b ∧ s.1 = nI j) ∧ BN s.2.1) _ (s := (0, 0, v)) ⟨⟨0, by omega, rfl⟩, BN_0⟩ ?_ ?_
  · intro fu s hs
    show OK (mX0_becomeShared_L9 (nI a) vo (nI b) vo2 (fu + 1) (nI a) s.1 s.2.1 s.2.2) _
    rw [mX0_becomeShared_L9]
    exact OK_T (Int32.le_refl _) (OK_some hs.2)
  · rintro fu i ⟨s1, s2, s3⟩ hi ⟨⟨j, hj, hs1⟩, hs2⟩ ih
    show OK (mX0_becomeShared_L9 (nI a) vo (nI b) vo2 (fu + 1) (nI i) s1 s2 s3) _
    dsimp only at hs1 hs2
    subst hs1
    rw [mX0_becomeShared_L9]
    refine OK_F (nI_ge hi (by omega)) (OK_bind (shared_in hb (by omega) vo vo2 (b - j) j FU (by omega) (by show b - j < 5000; omega)) ?_)
    rintro z ⟨k, hk, rfl⟩
    rw [nI_s]
    refine OK_ite (fun _ => ih (nI k, s2, s3) ⟨⟨k, hk, rfl⟩, hs2⟩) (fun h1 => ?_)
    have hkb : k < b := Nat.lt_of_not_le (fun q => h1 (nI_le q (by omega)))
    refine OK_T (ix_nI (by omega)) (OK_T (ix_nI (by omega)) (OK_ite (fun _ => OK_T (ix_nI (by omega)) (OK_bind (app_ok hs2 _ _) (fun y hy => ?_))) (fun _ => ih (nI k, s2, s3) ⟨⟨k, hk, rfl⟩, hs2⟩)))
    rw [nI_1]
    exact ih (nI (k + 1), y.1, y.2) ⟨⟨k + 1, by omega, rfl⟩, hy⟩
/-! Sieve's cells, Nests -/
theorem cell_in {kc : Nat → Int32} {p : Nat} (h : p < 4096) : mX6_cellAt kc (nI p) = some (kc p) := by
  unfold mX6_cellAt
  rw [if_neg (nI_pos (by omega)), if_neg (show ¬ (4096 : Int32) ≤ nI p from nI_ge (b := 4096) h (by decide)), if_pos (ix_nI h), cl_nI]
theorem cell_out {kc : Nat → Int32} {i : Int32} (h : i < 0 ∨ (4096 : Int32) ≤ i) : mX6_cellAt kc i = some 0 := by
  unfold mX6_cellAt
  by_cases h0 : i < 0
  · rw [if_pos h0]
  · rw [if_neg h0, if_pos (h.resolve_left h0)]
theorem cell_ok (kc : Nat → Int32) (i : Int32) : OK (mX6_cellAt kc i) (fun _ => True) := by
  rcases in_or (i := i) (b := 4096) (by decide) with h | ⟨p, hp, rfl⟩
  · exact OK_eq (cell_out h) trivial
  · exact OK_eq (cell_in hp) trivial
theorem setc_in {kc : Nat → Int32} {p : Nat} {x : Int32} (h : p < 4096) : mX6_setCell kc (nI p) x = some (upd kc p x) := by
  unfold mX6_setCell
  rw [if_neg (nI_pos (by omega)), if_neg (show ¬ (4096 : Int32) ≤ nI p from nI_ge (b := 4096) h (by decide)), if_pos (ix_nI h), cl_nI]
theorem setc_out {kc : Nat → Int32} {i x : Int32} (h : i < 0 ∨ (4096 : Int32) ≤ i) : mX6_setCell kc i x = some kc := by
  unfold mX6_setCell
  by_cases h0 : i < 0
  · rw [if_pos h0]
  · rw [if_neg h0, if_pos (h.resolve_left h0)]
theorem setc_ok (kc : Nat → Int32) (i x : Int32) : OK (mX6_setCell kc i x) (fun _ => True) := by
  rcases in_or (i := i) (b := 4096) (by decide) with h | ⟨p, hp, rfl⟩
  · exact OK_eq (setc_out h) trivial
  · exact OK_eq (setc_in hp) trivial
theorem rest_ok (a : Int64) (q : Int32) : OK (mX4_rest a q) (fun _ => True) := by
  unfold mX4_rest
  refine OK_ite (fun h => OK_T ?_ (OK_some trivial)) (fun _ => OK_some trivial)
  intro e
  obtain ⟨k, hk, rfl⟩ := nI_of (x := q) (Int32.not_lt.mpr (Int32.le_of_lt h))
  rw [nI_l hk, show (0 : Int64) = lN 0 from rfl, pk_lEQ (by omega) (by decide)] at e
  subst e
  exact absurd h (by decide)
theorem ntag_ok (mx : Int64) : OK (mX4_nestTag mx) (fun _ => True) := OK_bind (rest_ok _ _) (fun _ _ => OK_some trivial)
theorem fnest_ok (mx : Int64) (w : Int32) : OK (mX4_firstNest mx w) (fun _ => True) := OK_bind (rest_ok _ _) (fun _ _ => OK_some trivial)
theorem onest_ok (a b w : Int32) : OK (mX4_otherNest a b w) (fun _ => True) := OK_bind (rest_ok _ _) (fun _ _ => OK_some trivial)
theorem spl_ok (mx : Int64) (i w : Int32) : OK (mX4_solvedPlace mx i w) (fun _ => True) := OK_bind (rest_ok _ _) (fun _ _ => OK_some trivial)
theorem snest_ok (sz : Int32) (mx : Int64) : OK (mX5_secondNest sz mx) (fun _ => True) := OK_bind (fnest_ok _ _) (fun _ _ => OK_bind (ntag_ok _) (fun _ _ => OK_bind (onest_ok _ _ _) (fun _ _ => OK_some trivial)))
theorem findIn_ok (kc : Nat → Int32) (nt tg : Int32) : OK (mX5_findIn kc nt tg) (fun _ => True) := by
  unfold mX5_findIn
  refine OK_bind (P := fun _ => True) ?_ (fun o _ => OK_sum (fun _ _ => OK_some trivial) (fun _ _ => OK_some trivial))
  refine OK_for (fun fu i (_ : Unit) => mX5_findIn_L2 kc nt tg fu i) 4 (by decide) (fun _ _ => True) _ (s := ()) trivial ?_ ?_
  · intro fu _ _
    show OK (mX5_findIn_L2 kc nt tg (fu + 1) (nI 4)) _
    rw [mX5_findIn_L2]
    exact OK_T (by decide) (OK_some trivial)
  · intro fu i _ hi _ ih
    show OK (mX5_findIn_L2 kc nt tg (fu + 1) (nI i)) _
    rw [mX5_findIn_L2]
    refine OK_F (nI_ge (b := 4) hi (by decide)) (OK_bind (cell_ok _ _) (fun z _ => OK_ite (fun _ => OK_some trivial) (fun _ => ?_)))
    rw [nI_s]
    exact ih () trivial
theorem settle_ok (kc : Nat → Int32) (nt tg : Int32) : OK (mX5_settle kc nt tg) (fun _ => True) := OK_bind (findIn_ok _ _ _) (fun _ _ => OK_bind (setc_ok _ _ _) (fun _ _ => OK_ite (fun _ => OK_some trivial) (fun _ => OK_some trivial)))
theorem find_ok (sz : Int32) (kc : Nat → Int32) (mx : Int64) : OK (mX5_find sz kc mx) (fun _ => True) := OK_bind (ntag_ok _) (fun _ _ => OK_bind (fnest_ok _ _) (fun _ _ => OK_bind (findIn_ok _ _ _) (fun _ _ => OK_ite (fun _ => OK_bind (snest_ok _ _) (fun _ _ => OK_bind (findIn_ok _ _ _) (fun _ _ => OK_some trivial))) (fun _ => OK_some trivial))))
theorem change_ok (kc : Nat → Int32) (a b c : Int32) : OK (mX5_change kc a b c) (fun _ => True) := OK_bind (cell_ok _ _) (fun _ _ => OK_bind (setc_ok _ _ _) (fun _ _ => OK_some trivial))
theorem m1_pred {k : Nat} (h : 0 < k) : nI k + (-1) = nI (k - 1) := by
  obtain ⟨j, rfl⟩ : ∃ j, k = j + 1 := ⟨k - 1, by omega⟩
  exact pk_m1 j
theorem pushBack_loop (sz : Int32) : ∀ (k fu : Nat) (h n : Int32) (kc : Nat → Int32), k < 2 ^ 30 → k < fu → OK (mX5_pushBack_L10 sz fu (nI k + (-1)) h n kc) (fun _ => True) := by
  intro k
  induction k with
  | zero =>
    intro fu h n kc _ hf
    obtain ⟨fu, rfl⟩ : ∃ q, fu = q + 1 := ⟨fu - 1, by omega⟩
    rw [mX5_pushBack_L10]
    exact OK_T (by decide) (OK_some trivial)
  | succ k ih =>
    intro fu h n kc hk hf
    obtain ⟨fu, rfl⟩ : ∃ q, fu = q + 1 := ⟨fu - 1, by omega⟩
    rw [mX5_pushBack_L10, pk_m1]
    exact OK_F (nI_pos (by omega)) (OK_bind (onest_ok _ _ _) (fun _ _ => OK_bind (change_ok _ _ _ _) (fun _ _ => ih fu _ _ _ (by omega) (by omega))))
theorem pushBack_ok (sz : Int32) (kc : Nat → Int32) (a b : Int32) : OK (mX5_pushBack sz kc a b) (fun _ => True) := by
  unfold mX5_pushBack
  exact OK_bind (pushBack_loop sz 200 FU b a kc (by decide) (by decide)) (fun _ _ => OK_some trivial)
theorem push_ok (sz : Int32) (kc : Nat → Int32) (a b : Int32) : OK (mX5_push sz kc a b) (fun _ => True) := by
  unfold mX5_push
  refine OK_bind (P := fun _ => True) ?_ (fun o _ => OK_sum (fun _ _ => OK_some trivial) (fun _ _ => OK_bind (pushBack_ok _ _ _ _) (fun _ _ => OK_some trivial)))
  refine OK_for (fun fu i (s : Int32 × Int32 × (Nat → Int32)) => mX5_push_L8 sz fu i s.1 s.2.1 s.2.2) 200 (by decide) (fun _ _ => True) _ (s := (b, a, kc)) trivial ?_ ?_
  · intro fu s _
    show OK (mX5_push_L8 sz (fu + 1) (nI 200) s.1 s.2.1 s.2.2) _
    rw [mX5_push_L8]
    exact OK_T (by decide) (OK_some trivial)
  · intro fu i s hi _ ih
    show OK (mX5_push_L8 sz (fu + 1) (nI i) s.1 s.2.1 s.2.2) _
    rw [mX5_push_L8]
    refine OK_F (nI_ge (b := 200) hi (by decide)) (OK_bind (change_ok _ _ _ _) (fun z _ => OK_bind (onest_ok _ _ _) (fun y _ => OK_bind (settle_ok _ _ _) (fun w _ => OK_ite (fun _ => ?_) (fun _ => OK_some trivial)))))
    rw [nI_s]
    exact ih (z.1, y, w.2) trivial
theorem nenter_ok (sz : Int32) (kc : Nat → Int32) (mx : Int64) : OK (mX5_enter sz kc mx) (fun _ => True) :=
  OK_bind (ntag_ok _) (fun _ _ => OK_bind (fnest_ok _ _) (fun _ _ => OK_bind (settle_ok _ _ _) (fun _ _ => OK_ite (fun _ => OK_bind (snest_ok _ _) (fun _ _ => OK_bind (settle_ok _ _ _) (fun _ _ => OK_ite (fun _ => OK_bind (push_ok _ _ _ _) (fun _ _ => OK_ite (fun _ => OK_some trivial) (fun _ => OK_some trivial))) (fun _ => OK_some trivial)))) (fun _ => OK_some trivial))))
def MN (m : Int32) : Prop := ∃ k, k ≤ 8 ∧ m = nI k
theorem raise_loop {mk : Int32} (h : MN mk) (sz most : Int32) (mx : Int64) (kc : Nat → Int32) : OK (mX6_raiseMarks_L18 sz mk mx FU 0 most kc) (fun _ => True) := by
  obtain ⟨m, hm, rfl⟩ := h
  refine OK_for (fun fu i (s : Int32 × (Nat → Int32)) => mX6_raiseMarks_L18 sz (nI m) mx fu i s.1 s.2) m (by omega) (fun _ _ => True) _ (s := (most, kc)) trivial ?_ ?_
  · intro fu s _
    show OK (mX6_raiseMarks_L18 sz (nI m) mx (fu + 1) (nI m) s.1 s.2) _
    rw [mX6_raiseMarks_L18]
    exact OK_T (Int32.le_refl _) (OK_some trivial)
  · intro fu i s hi _ ih
    show OK (mX6_raiseMarks_L18 sz (nI m) mx (fu + 1) (nI i) s.1 s.2) _
    rw [mX6_raiseMarks_L18]
    refine OK_F (nI_ge hi (by omega)) (OK_be rfl (OK_bind (cell_ok _ _) (fun z _ => OK_bind (setc_ok _ _ _) (fun y _ => ?_))))
    rw [nI_s]
    exact ih (s.1, y) trivial
theorem raise_ok {mk : Int32} (h : MN mk) (kd sz : Int32) (kc : Nat → Int32) (mx : Int64) : OK (mX6_raiseMarks kd sz mk kc mx) (fun _ => True) :=
  OK_ite (fun _ => OK_bind (raise_loop h _ _ _ _) (fun _ _ => OK_some trivial)) (fun _ => OK_bind (raise_loop h _ _ _ _) (fun _ _ => OK_some trivial))
theorem lower_ok {mk : Int32} (h : MN mk) (sz : Int32) (kc : Nat → Int32) (mx : Int64) : OK (mX6_lowerMarks sz mk kc mx) (fun _ => True) := by
  obtain ⟨m, hm, rfl⟩ := h
  unfold mX6_lowerMarks
  refine OK_bind (P := fun _ => True) ?_ (fun _ _ => OK_some trivial)
  refine OK_for (fun fu i (s : Nat → Int32) => mX6_lowerMarks_L2 sz (nI m) mx fu i s) m (by omega) (fun _ _ => True) _ trivial ?_ ?_
  · intro fu s _
    show OK (mX6_lowerMarks_L2 sz (nI m) mx (fu + 1) (nI m) s) _
    rw [mX6_lowerMarks_L2]
    exact OK_T (Int32.le_refl _) (OK_some trivial)
  · intro fu i s hi _ ih
    show OK (mX6_lowerMarks_L2 sz (nI m) mx (fu + 1) (nI i) s) _
    rw [mX6_lowerMarks_L2]
    refine OK_F (nI_ge hi (by omega)) (OK_be rfl (OK_bind (cell_ok _ _) (fun z _ => ?_)))
    rw [nI_s]
    exact OK_ite (fun _ => ih s trivial) (fun _ => OK_ite (fun _ => ih s trivial) (fun _ => OK_bind (setc_ok _ _ _) (fun y _ => ih y trivial)))
theorem marks01 {mk : Int32} (h : MN mk) (sz : Int32) (kc : Nat → Int32) (mx : Int64) : OK (mX6_hasMarks sz mk kc mx) (fun z => z = 0 ∨ z = 1) := by
  obtain ⟨m, hm, rfl⟩ := h
  unfold mX6_hasMarks
  refine OK_bind (P := fun o => ∀ a, o = .inl a → a = 0) ?_ (fun o ho => OK_sum (fun a ha => OK_some (Or.inl (ho a ha))) (fun _ _ => OK_some (Or.inr rfl)))
  refine OK_for (fun fu i (_ : Unit) => mX6_hasMarks_L2 sz (nI m) kc mx fu i) m (by omega) (fun _ _ => True) _ (s := ()) trivial ?_ ?_
  · intro fu s _
    show OK (mX6_hasMarks_L2 sz (nI m) kc mx (fu + 1) (nI m)) _
    rw [mX6_hasMarks_L2]
    exact OK_T (Int32.le_refl _) (OK_some (fun a h => nomatch h))
  · intro fu i s hi _ ih
    show OK (mX6_hasMarks_L2 sz (nI m) kc mx (fu + 1) (nI i)) _
    rw [mX6_hasMarks_L2]
    refine OK_F (nI_ge hi (by omega)) (OK_be rfl (OK_bind (cell_ok _ _) (fun z _ => ?_)))
    refine OK_ite (fun _ => OK_some (fun a h => by injection h with h; exact h.symm)) (fun _ => ?_)
    rw [nI_s]
    exact ih () trivial
theorem psolved01 (sz : Int32) (kc : Nat → Int32) (mx : Int64) : OK (mX6_passesSolved sz kc mx) (fun z => z = 0 ∨ z = 1) := by
  unfold mX6_passesSolved
  refine OK_bind (P := fun _ => True) ?_ (fun o _ => OK_be (stag_c mx) (OK_ite (fun _ => OK_some (Or.inr rfl)) (fun _ => OK_some (Or.inl rfl))))
  refine OK_for (fun fu i (s : Int32) => mX6_passesSolved_L5 sz kc mx fu i s) 3 (by decide) (fun _ _ => True) _ trivial ?_ ?_
  · intro fu s _
    show OK (mX6_passesSolved_L5 sz kc mx (fu + 1) (nI 3) s) _
    rw [mX6_passesSolved_L5]
    exact OK_T (by decide) (OK_some trivial)
  · intro fu i s hi _ ih
    show OK (mX6_passesSolved_L5 sz kc mx (fu + 1) (nI i) s) _
    rw [mX6_passesSolved_L5]
    refine OK_F (nI_ge (b := 3) hi (by decide)) (OK_bind (spl_ok _ _ _) (fun z _ => OK_bind (cell_ok _ _) (fun y _ => ?_)))
    rw [nI_s]
    exact ih _ trivial
theorem senter_ok {mk n : Int32} (hm : MN mk) (hn : BN n) (kd sz sd : Int32) (kc : Nat → Int32) (v : Nat → Int64) (t : Int64) : OK (mX6_enter kd sz mk sd kc n v t) (fun z => BN z.2.2.1) := by
  unfold mX6_enter
  refine OK_bind (full_ok n) (fun z _ => OK_ite (fun _ => OK_be (mix_c t sd) (OK_ite (fun _ => OK_bind (nenter_ok _ _ _) (fun y _ => OK_ite (fun _ => OK_some hn) (fun _ => OK_ite (fun _ => OK_bind (ins_ok hn _ _) (fun w hw => OK_be rfl (OK_some hw))) (fun _ => OK_bind (raise_ok hm _ _ _ _) (fun _ _ => OK_bind (ins_ok hn _ _) (fun w hw => OK_be rfl (OK_some hw))))))) (fun _ => OK_ite (fun _ => OK_bind (ins_ok hn _ _) (fun w hw => OK_be rfl (OK_some hw))) (fun _ => OK_bind (raise_ok hm _ _ _ _) (fun _ _ => OK_bind (ins_ok hn _ _) (fun w hw => OK_be rfl (OK_some hw))))))) (fun _ => OK_some hn))
theorem leave_ok {mk n : Int32} (hm : MN mk) (hn : BN n) (kd sz sd : Int32) (kc : Nat → Int32) (v : Nat → Int64) (t : Int64) : OK (mX6_leave kd sz mk sd kc n v t) (fun z => BN z.2.1) := by
  unfold mX6_leave
  exact OK_be (mix_c t sd) (OK_ite (fun _ => OK_bind (find_ok _ _ _) (fun _ _ => OK_bind (setc_ok _ _ _) (fun _ _ => OK_bind (take_ok hn _ _) (fun w hw => OK_some hw)))) (fun _ => OK_bind (lower_ok hm _ _ _) (fun _ _ => OK_bind (take_ok hn _ _) (fun w hw => OK_some hw))))
theorem passesG01 {kd mk : Int32} (hk : ¬ kd = 4) (hm : MN mk) (sz sd : Int32) (kc : Nat → Int32) (t : Int64) : OK (mX6_passesG kd sz mk sd kc t) (fun z => z = 0 ∨ z = 1) := by
  unfold mX6_passesG
  exact OK_F hk (OK_be (mix_c t sd) (OK_ite (fun _ => OK_bind (find_ok _ _ _) (fun _ _ => OK_ite (fun _ => OK_some (Or.inl rfl)) (fun _ => OK_some (Or.inr rfl)))) (fun _ => OK_ite (fun _ => OK_bind (psolved01 _ _ _) (fun z hz => OK_T hz (OK_some hz))) (fun _ => OK_bind (marks01 hm _ _ _) (fun z hz => OK_T hz (OK_some hz))))))
/-! Layers -/
def LN (lc rn : Int32) (lz : Nat → Int32) : Prop := (∃ k, k ≤ 20 ∧ lc = nI k) ∧ BN rn ∧ ∀ j, j < 20 → ∃ b, b ≤ 4096 ∧ lz j = nI b
theorem pl01 {i b : Nat} (hi : i < 20) (hb : b ≤ 4096) (lsd : Int32) (t : Int64) (dw : Nat → Int64) : OK (mX3_passesLayer lsd (nI i) t (nI b) dw) (fun z => z = 0 ∨ z = 1) := by
  unfold mX3_passesLayer
  exact OK_T (ix_nI hi) (OK_be (mix_c _ _) (OK_bind (br_hasMarks (m := 3) hb (by decide) _) (fun z hz => OK_T hz (OK_some hz))))
theorem lpasses01 {lc rn : Int32} {lz : Nat → Int32} (h : LN lc rn lz) (lsd : Int32) (rv : Nat → Int64) (ld : Nat → Nat → Int64) (t : Int64) : OK (mX3_passes lc lsd rn rv lz ld t) (fun z => z = 0 ∨ z = 1) := by
  obtain ⟨⟨k, hk, rfl⟩, hr, hz⟩ := h
  unfold mX3_passes
  refine OK_bind (P := fun o => ∀ a, o = .inl a → a = 0 ∨ a = 1) ?_ (fun o ho => OK_sum (fun a ha => OK_some (ho a ha)) (fun _ _ => OK_ite (fun _ => OK_bind (has01 hr _ _) (fun _ _ => OK_ite (fun _ => OK_some (Or.inl rfl)) (fun _ => OK_some (Or.inr rfl)))) (fun _ => OK_bind (has01 hr _ _) (fun _ _ => OK_ite (fun _ => OK_some (Or.inl rfl)) (fun _ => OK_some (Or.inr rfl))))))
  refine OK_for (fun fu i (_ : Unit) => mX3_passes_L2 (nI k) lsd lz ld t fu i) k (by omega) (fun _ _ => True) _ (s := ()) trivial ?_ ?_
  · intro fu s _
    show OK (mX3_passes_L2 (nI k) lsd lz ld t (fu + 1) (nI k)) _
    rw [mX3_passes_L2]
    exact OK_T (Int32.le_refl _) (OK_some (fun a h => nomatch h))
  · intro fu i s hi _ ih
    show OK (mX3_passes_L2 (nI k) lsd lz ld t (fu + 1) (nI i)) _
    obtain ⟨b, hb, eb⟩ := hz i (by omega)
    rw [mX3_passes_L2]
    refine OK_F (nI_ge hi (by omega)) (OK_T (ix_nI (by omega)) ?_)
    rw [cl_nI, eb]
    refine OK_bind (pl01 (by omega) hb _ _ _) (fun z _ => OK_ite (fun _ => OK_ite (fun _ => OK_some (fun a h => by injection h with h; exact Or.inr h.symm)) (fun _ => OK_some (fun a h => by injection h with h; exact Or.inl h.symm))) (fun _ => ?_))
    rw [nI_s]
    exact ih () trivial
theorem lweight_ok {lc rn : Int32} {lz : Nat → Int32} (h : LN lc rn lz) : OK (mX3_weight lc rn lz) (fun _ => True) := by
  obtain ⟨⟨k, hk, rfl⟩, hr, hz⟩ := h
  unfold mX3_weight
  refine OK_be rfl (OK_bind (P := fun _ => True) ?_ (fun _ _ => OK_some trivial))
  refine OK_for (fun fu i (s : Int32) => mX3_weight_L13 (nI k) lz fu i s) k (by omega) (fun _ _ => True) _ trivial ?_ ?_
  · intro fu s _
    show OK (mX3_weight_L13 (nI k) lz (fu + 1) (nI k) s) _
    rw [mX3_weight_L13]
    exact OK_T (Int32.le_refl _) (OK_some trivial)
  · intro fu i s hi _ ih
    show OK (mX3_weight_L13 (nI k) lz (fu + 1) (nI i) s) _
    rw [mX3_weight_L13]
    refine OK_F (nI_ge hi (by omega)) (OK_T (ix_nI (by omega)) (OK_be rfl ?_))
    rw [nI_s]
    exact ih _ trivial
theorem passesL01 {kd mk lc rn : Int32} {lz : Nat → Int32} (h : LN lc rn lz) (hm : MN mk) (sz sd lsd : Int32) (kc : Nat → Int32) (rv : Nat → Int64) (ld : Nat → Nat → Int64) (t : Int64) : OK (mX6_passesL kd sz mk sd kc lc lsd rn rv lz ld t) (fun z => z = 0 ∨ z = 1) := by
  unfold mX6_passesL
  exact OK_ite (fun _ => OK_bind (lpasses01 h _ _ _ _) (fun _ _ => OK_ite (fun _ => OK_some (Or.inl rfl)) (fun _ => OK_some (Or.inr rfl)))) (fun _ => OK_be (mix_c t sd) (OK_ite (fun _ => OK_bind (find_ok _ _ _) (fun _ _ => OK_ite (fun _ => OK_some (Or.inl rfl)) (fun _ => OK_some (Or.inr rfl)))) (fun _ => OK_ite (fun _ => OK_bind (psolved01 _ _ _) (fun z hz => OK_T hz (OK_some hz))) (fun _ => OK_bind (marks01 hm _ _ _) (fun z hz => OK_T hz (OK_some hz))))))
theorem pfG01 {kd mk n : Int32} (hk : ¬ kd = 4) (hm : MN mk) (hn : BN n) (sz sd : Int32) (kc : Nat → Int32) (v : Nat → Int64) (t : Int64) : OK (mX6_passesFalselyG kd sz mk sd kc n v t) (fun z => z = 0 ∨ z = 1) :=
  OK_bind (passesG01 hk hm _ _ _ _) (fun _ _ => OK_ite (fun _ => OK_some (Or.inl rfl)) (fun _ => OK_bind (has01 hn _ _) (fun _ _ => OK_ite (fun _ => OK_some (Or.inr rfl)) (fun _ => OK_some (Or.inl rfl)))))
theorem pfL01 {kd mk n lc rn : Int32} {lz : Nat → Int32} (h : LN lc rn lz) (hm : MN mk) (hn : BN n) (sz sd lsd : Int32) (kc : Nat → Int32) (v rv : Nat → Int64) (ld : Nat → Nat → Int64) (t : Int64) : OK (mX6_passesFalselyL kd sz mk sd kc n v lc lsd rn rv lz ld t) (fun z => z = 0 ∨ z = 1) :=
  OK_bind (passesL01 h hm _ _ _ _ _ _ _) (fun _ _ => OK_ite (fun _ => OK_some (Or.inl rfl)) (fun _ => OK_bind (has01 hn _ _) (fun _ _ => OK_ite (fun _ => OK_some (Or.inr rfl)) (fun _ => OK_some (Or.inl rfl)))))
