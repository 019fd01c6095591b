/-! ===== fewest: the class ===== -/
theorem without_x {U N : Nat} (hU : U ≤ 1000) (hN : N ≤ 1000) (v uv nv : Nat → Int64) (hr : worldR nv N) : OK (mX0_becomeWithout v (nI U) uv (nI N) nv) (fun z => ∃ m, m ≤ U ∧ z.1 = nI m ∧ ∀ P : Int64 → Prop, fC (fun t => P (z.2 t)) m = fC (fun t => P (uv t) ∧ ¬ memW N nv (uv t)) U) := by
  unfold mX0_becomeWithout
  refine OK_be rfl (OK_bind (P := fun z => ∃ m, m ≤ U ∧ z.2.1 = nI m ∧ ∀ P : Int64 → Prop, fC (fun t => P (z.2.2 t)) m = fC (fun t => P (uv t) ∧ ¬ memW N nv (uv t)) U) ?_ (fun z hz => OK_some hz))
  refine OK_for (fun fu i (s : Int32 × (Nat → Int64)) => mX0_becomeWithout_L6 (nI U) uv (nI N) nv fu i s.1 s.2) U (by omega) (fun i s => ∃ m, m ≤ i ∧ s.1 = nI m ∧ ∀ P : Int64 → Prop, fC (fun t => P (s.2 t)) m = fC (fun t => P (uv t) ∧ ¬ memW N nv (uv t)) i) _ (s := (0, v)) ⟨0, Nat.le_refl _, rfl, fun _ => rfl⟩ ?_ ?_
  · rintro fu ⟨s1, s2⟩ hs
    show OK (mX0_becomeWithout_L6 (nI U) uv (nI N) nv (fu + 1) (nI U) s1 s2) _
    rw [mX0_becomeWithout_L6]
    exact OK_T (Int32.le_refl _) (OK_some hs)
  · rintro fu i ⟨s1, s2⟩ hi ⟨m, hm, e, H⟩ ih
    show OK (mX0_becomeWithout_L6 (nI U) uv (nI N) nv (fu + 1) (nI i) s1 s2) _
    dsimp only at e H
    subst e
    rw [mX0_becomeWithout_L6, clN (k := i) (by omega), nI_s]
    refine OK_F (nI_ge hi (by omega)) (OK_T (ix_nI (by omega)) (OK_be (bag_has hN) ?_))
    by_cases q : memW N nv (uv i)
    · rw [if_pos ((hasW hr hN _).mpr q)]
      refine OK_F (by decide) (ih (nI m, s2) ⟨m, by omega, rfl, fun P => ?_⟩)
      rw [fC_n (P := fun t => P (uv t) ∧ ¬ memW N nv (uv t)) (fun w => w.2 q)]
      exact H P
    · rw [if_neg (fun w => q ((hasW hr hN _).mp w))]
      refine OK_T rfl (OK_T (ix_nI (by omega)) (OK_be (bag_app (by omega)) (ih (nI (m + 1), vp_updL s2 m (uv i)) ⟨m + 1, by omega, rfl, fun P => ?_⟩)))
      have e1 : fC (fun t => P (vp_updL s2 m (uv i) t)) m = fC (fun t => P (s2 t)) m := fC_ext (fun t ht => by
        show P (vp_updL s2 m (uv i) t) ↔ P (s2 t)
        rw [pk_uLn (show t ≠ m by omega)])
      have e2 : vp_updL s2 m (uv i) m = uv i := pk_uLs
      show fC (fun t => P (vp_updL s2 m (uv i) t)) (m + 1) = _
      by_cases w : P (uv i)
      · rw [fC_y (P := fun t => P (vp_updL s2 m (uv i) t)) (show P (vp_updL s2 m (uv i) m) by rw [e2]; exact w), fC_y (P := fun t => P (uv t) ∧ ¬ memW N nv (uv t)) ⟨w, q⟩, e1, H P]
      · rw [fC_n (P := fun t => P (vp_updL s2 m (uv i) t)) (show ¬ P (vp_updL s2 m (uv i) m) by rw [e2]; exact w), fC_n (P := fun t => P (uv t) ∧ ¬ memW N nv (uv t)) (fun r => w r.1), e1, H P]
theorem cbegin_x {N m : Nat} (hN : N ≤ 1000) (hm : m ≤ 1000) (vim vrm wv rv : Nat → Int64) (sd : Int32) : OK (mX2_begin vim vrm (nI N) wv (nI m) rv sd) (fun z => z.1 = nI N ∧ z.2.1 = nI m ∧ (∀ t, t < N → z.2.2.1 t = mixV (wv t) sd) ∧ ∀ t, t < m → z.2.2.2 t = mixV (rv t) sd) := by
  unfold mX2_begin
  refine OK_be rfl (OK_bind (P := fun z => ∀ t, t < N → z.2 t = mixV (wv t) sd) ?_ (fun o ho => OK_be rfl (OK_bind (P := fun z => ∀ t, t < m → z.2 t = mixV (rv t) sd) ?_ (fun p hp => OK_some ⟨rfl, rfl, ho, hp⟩))))
  · refine OK_for (fun fu i (s : Nat → Int64) => mX2_begin_L11 (nI N) wv sd (nI N) fu i s) N (by omega) (fun i s => ∀ t, t < i → s t = mixV (wv t) sd) _ (s := vim) (fun t ht => absurd ht (Nat.not_lt_zero t)) ?_ ?_
    · intro fu s hs
      show OK (mX2_begin_L11 (nI N) wv sd (nI N) (fu + 1) (nI N) s) _
      rw [mX2_begin_L11]
      exact OK_T (Int32.le_refl _) (OK_some hs)
    · intro fu i s hi hs ih
      show OK (mX2_begin_L11 (nI N) wv sd (nI N) (fu + 1) (nI i) s) _
      rw [mX2_begin_L11, nI_s, clN (k := i) (by omega)]
      refine OK_F (nI_ge hi (by omega)) (OK_be (bag_atN hN hi) (OK_be (mix_c _ _) (OK_T (ix_nI (by omega)) (ih _ (fun t ht => ?_)))))
      by_cases e : t = i
      · rw [e]; exact pk_uLs
      · rw [pk_uLn e]; exact hs t (by omega)
  · refine OK_for (fun fu i (s : Nat → Int64) => mX2_begin_L54 (nI m) rv sd (nI m) fu i s) m (by omega) (fun i s => ∀ t, t < i → s t = mixV (rv t) sd) _ (s := vrm) (fun t ht => absurd ht (Nat.not_lt_zero t)) ?_ ?_
    · intro fu s hs
      show OK (mX2_begin_L54 (nI m) rv sd (nI m) (fu + 1) (nI m) s) _
      rw [mX2_begin_L54]
      exact OK_T (Int32.le_refl _) (OK_some hs)
    · intro fu i s hi hs ih
      show OK (mX2_begin_L54 (nI m) rv sd (nI m) (fu + 1) (nI i) s) _
      rw [mX2_begin_L54, nI_s, clN (k := i) (by omega)]
      refine OK_F (nI_ge hi (by omega)) (OK_be (bag_atN hm hi) (OK_be (mix_c _ _) (OK_T (ix_nI (by omega)) (ih _ (fun t ht => ?_)))))
      by_cases e : t = i
      · rw [e]; exact pk_uLs
      · rw [pk_uLn e]; exact hs t (by omega)
theorem setMark_x {a N j : Nat} (ha : a ≤ 12) (hN : N ≤ 1000) (hj : j < 8) (vim bw_ : Nat → Int64) : OK (mX2_setMark (nI N) vim (nI (2 ^ a)) bw_ (nI j) (nI (2 ^ a))) (fun z => ∀ p, p < 2 ^ a → (bts z p = true ↔ (bts bw_ p = true ∨ ∃ t, t < N ∧ mkN (nM (vim t)) j % 2 ^ a = p))) := by
  have hp := pow_up ha
  unfold mX2_setMark
  refine OK_bind (P := fun z => ∀ p, p < 2 ^ a → (bts z.2 p = true ↔ (bts bw_ p = true ∨ ∃ t, t < N ∧ mkN (nM (vim t)) j % 2 ^ a = p))) ?_ (fun z hz => OK_some hz)
  refine OK_for (fun fu i (s : Nat → Int64) => mX2_setMark_L2 (nI N) vim (nI (2 ^ a)) (nI j) (nI (2 ^ a)) fu i s) N (by omega) (fun i s => ∀ p, p < 2 ^ a → (bts s p = true ↔ (bts bw_ p = true ∨ ∃ t, t < i ∧ mkN (nM (vim t)) j % 2 ^ a = p))) _ (s := bw_) (fun p _ => ⟨Or.inl, fun h => h.elim id (fun ⟨t, ht, _⟩ => absurd ht (Nat.not_lt_zero t))⟩) ?_ ?_
  · intro fu s hs
    show OK (mX2_setMark_L2 (nI N) vim (nI (2 ^ a)) (nI j) (nI (2 ^ a)) (fu + 1) (nI N) s) _
    rw [mX2_setMark_L2]
    exact OK_T (Int32.le_refl _) (OK_some hs)
  · intro fu i s hi hs ih
    show OK (mX2_setMark_L2 (nI N) vim (nI (2 ^ a)) (nI j) (nI (2 ^ a)) (fu + 1) (nI i) s) _
    rw [mX2_setMark_L2, nI_s, clN (k := i) (by omega)]
    have hq : mkN (nM (vim i)) j % 2 ^ a < 2 ^ a := Nat.mod_lt _ (Nat.two_pow_pos a)
    refine OK_F (nI_ge hi (by omega)) (OK_T (ix_nI (by omega)) (OK_be (mp_c _ hj ha) (OK_be (br_set (by omega) hq) (ih _ (fun p h => ?_)))))
    rw [bts_set, Bool.or_eq_true, hs p h, decide_eq_true_iff]
    constructor
    · rintro ((w | ⟨t, ht, e⟩) | w)
      · exact Or.inl w
      · exact Or.inr ⟨t, by omega, e⟩
      · exact Or.inr ⟨i, by omega, w.symm⟩
    · rintro (w | ⟨t, ht, e⟩)
      · exact Or.inl (Or.inl w)
      · rcases Nat.lt_succ_iff_lt_or_eq.mp ht with w | w
        · exact Or.inl (Or.inr ⟨t, w, e⟩)
        · subst w
          exact Or.inr e.symm
theorem hasMarks_x {a m : Nat} (ha : a ≤ 12) (hm : m ≤ 8) (v : Nat → Int64) (mx : Int64) : OK (mX1_hasMarks (nI (2 ^ a)) v mx (nI m)) (fun z => (z = 1 ∧ ∀ j, j < m → bts v (mkN (nM mx) j % 2 ^ a) = true) ∨ (z = 0 ∧ ¬ ∀ j, j < m → bts v (mkN (nM mx) j % 2 ^ a) = true)) := by
  have hp := pow_up ha
  unfold mX1_hasMarks
  refine OK_bind (P := fun o => (∀ r, o = .inl r → r = 0 ∧ ¬ ∀ j, j < m → bts v (mkN (nM mx) j % 2 ^ a) = true) ∧ ∀ r, o = .inr r → ∀ j, j < m → bts v (mkN (nM mx) j % 2 ^ a) = true) ?_ (fun o ho => OK_sum (fun r hr => OK_some (Or.inr (ho.1 r hr))) (fun r hr => OK_some (Or.inl ⟨rfl, ho.2 r hr⟩)))
  refine OK_for (fun fu i (_ : Unit) => mX1_hasMarks_L3 (nI (2 ^ a)) v mx (nI m) fu i) m (by omega) (fun i _ => ∀ j, j < i → bts v (mkN (nM mx) j % 2 ^ a) = true) _ (s := ()) (fun j hj => absurd hj (Nat.not_lt_zero j)) ?_ ?_
  · intro fu s hs
    show OK (mX1_hasMarks_L3 (nI (2 ^ a)) v mx (nI m) (fu + 1) (nI m)) _
    rw [mX1_hasMarks_L3]
    exact OK_T (Int32.le_refl _) (OK_some ⟨fun r h => (nomatch h), fun _ _ => hs⟩)
  · intro fu i s hi hs ih
    show OK (mX1_hasMarks_L3 (nI (2 ^ a)) v mx (nI m) (fu + 1) (nI i)) _
    have hq : mkN (nM mx) i % 2 ^ a < 2 ^ a := Nat.mod_lt _ (Nat.two_pow_pos a)
    rw [mX1_hasMarks_L3, nI_s]
    refine OK_F (nI_ge hi (by omega)) (OK_be (mp_c mx (by omega) ha) (OK_be (br_has (by omega) hq) ?_))
    by_cases q : bts v (mkN (nM mx) i % 2 ^ a) = true
    · rw [if_pos q]
      refine OK_F (by decide) (ih () (fun j hj => ?_))
      rcases Nat.lt_succ_iff_lt_or_eq.mp hj with w | w
      · exact hs j w
      · rw [w]; exact q
    · rw [if_neg q]
      refine OK_T rfl (OK_some ⟨fun r h => ?_, fun r h => (nomatch h)⟩)
      injection h with h
      exact ⟨h.symm, fun w => q (w i hi)⟩
theorem countF_x {a k m l : Nat} (ha : a ≤ 12) (hk : k ≤ 8) (hm : m ≤ 1000) (hl : l ≤ 1001) (vrm bw_ : Nat → Int64) : OK (mX2_countFalses (nI m) vrm (nI (2 ^ a)) bw_ (nI k) (nI l)) (fun z => z = nI (min l (fC (fun t => ∀ j, j < k → bts bw_ (mkN (nM (vrm t)) j % 2 ^ a) = true) m))) := by
  unfold mX2_countFalses
  refine OK_bind (P := fun z => z.2 = nI (min l (fC (fun t => ∀ j, j < k → bts bw_ (mkN (nM (vrm t)) j % 2 ^ a) = true) m))) ?_ (fun z hz => OK_some hz)
  generalize eQ : (fun t => ∀ j, j < k → bts bw_ (mkN (nM (vrm t)) j % 2 ^ a) = true) = Q
  refine OK_for (fun fu i (s : Int32) => mX2_countFalses_L5 (nI m) vrm (nI (2 ^ a)) bw_ (nI k) (nI l) fu i s) m (by omega) (fun i s => s = nI (fC Q i) ∧ fC Q i ≤ l) _ (s := 0) ⟨rfl, Nat.zero_le _⟩ ?_ ?_
  · rintro fu s ⟨e, h⟩
    show OK (mX2_countFalses_L5 (nI m) vrm (nI (2 ^ a)) bw_ (nI k) (nI l) (fu + 1) (nI m) s) _
    rw [mX2_countFalses_L5]
    refine OK_T (Int32.le_refl _) (OK_some ?_)
    show s = _
    rw [e, Nat.min_eq_right h]
  · rintro fu i s hi ⟨e, h⟩ ih
    show OK (mX2_countFalses_L5 (nI m) vrm (nI (2 ^ a)) bw_ (nI k) (nI l) (fu + 1) (nI i) s) _
    have hle := fC_le Q i
    rw [mX2_countFalses_L5, nI_s, clN (k := i) (by omega), e]
    refine OK_F (nI_ge hi (by omega)) (OK_ite (fun q => OK_some ?_) (fun q => OK_T (ix_nI (by omega)) (OK_bind (hasMarks_x ha hk bw_ _) (fun y hy => ?_))))
    · have h1 := (nI_leI (by omega) (by omega)).mp q
      have h2 := fC_mono Q i (m - i)
      rw [show i + (m - i) = m by omega] at h2
      show nI (fC Q i) = _
      rw [Nat.min_eq_left (by omega), show fC Q i = l by omega]
    · have h1 : fC Q i < l := Nat.lt_of_not_le (fun w => q (nI_le w (by omega)))
      rcases hy with ⟨e1, h3⟩ | ⟨e1, h3⟩
      · have hQ : Q i := by rw [← eQ]; exact h3
        rw [e1]
        refine OK_F (by decide) (ih _ ⟨?_, ?_⟩)
        · rw [fC_y hQ]; exact nI_1 _
        · rw [fC_y hQ]; omega
      · have hQ : ¬ Q i := by rw [← eQ]; exact h3
        rw [e1]
        refine OK_T rfl (ih _ ⟨?_, ?_⟩)
        · rw [fC_n hQ]
        · rw [fC_n hQ]; exact h
def ChP (F : Nat → Nat) (a d k : Nat) (s : Nat × Nat) (o : (Int32 × Int32 × (Nat → Int64)) ⊕ (Int32 × Int32 × Int32 × (Nat → Int64))) : Prop := (∀ r, o = .inl r → r.1 = nI (fInn F a d k s).2 ∧ (fInn F a d k s).1 = 0) ∧ ∀ q, o = .inr q → q.2.1 = nI (fInn F a d k s).2 ∧ q.2.2.1 = nI (fInn F a d k s).1 ∧ (fInn F a d k s).1 ≤ 1001
theorem choose_in_x {a N m : Nat} (ha : a ≤ 12) (hN : N ≤ 1000) (hm : m ≤ 1000) {wv rv vim vrm : Nat → Int64} {sd : Int32} (h1 : ∀ t, t < N → vim t = mixV (wv t) sd) (h2 : ∀ t, t < m → vrm t = mixV (rv t) sd) (w0 : Nat → Int64) {F : Nat → Nat} (hF : ∀ k, F k = fC (fun t => fL N wv sd a k (rv t)) m) : ∀ (d k fu : Nat), k + d = 9 → 1 ≤ k → d < fu → ∀ (s : Nat × Nat) (bw_ : Nat → Int64), s.1 ≤ 1001 → (∀ p, p < 2 ^ a → (bts bw_ p = true ↔ fS N wv sd a (k - 1) p)) → OK (mX2_choose_L36 (nI N) (nI m) vim vrm (nI (2 ^ a), w0) (nI (2 ^ a)) fu (nI k) (nI s.2) (nI s.1) bw_) (ChP F a d k s) := by
  intro d
  induction d with
  | zero =>
    intro k fu hk _ hf s bw_ hs hb
    obtain ⟨fu, rfl⟩ : ∃ q, fu = q + 1 := ⟨fu - 1, by omega⟩
    obtain rfl : k = 9 := by omega
    rw [mX2_choose_L36]
    refine OK_T (by decide) (OK_some ⟨fun r h => (nomatch h), fun q h => ?_⟩)
    injection h with h
    subst h
    exact ⟨rfl, rfl, hs⟩
  | succ d ih =>
    intro k fu hk hk1 hf s bw_ hs hb
    obtain ⟨fu, rfl⟩ : ∃ q, fu = q + 1 := ⟨fu - 1, by omega⟩
    have hFk : F k ≤ 1000 := by
      rw [hF k]
      exact Nat.le_trans (fC_le _ m) hm
    rw [mX2_choose_L36, nI_s, show nI k - (1 : Int32) = nI (k - 1) from pk_sub (b := 1) hk1, ch16]
    refine OK_F (nI_nlt (a := 8) (by omega) (by decide)) (OK_bind (setMark_x ha hN (by omega) vim bw_) (fun z hz => OK_bind (countF_x ha (by omega) hm hs vrm z) (fun y hy => ?_)))
    have hb2 : ∀ p, p < 2 ^ a → (bts z p = true ↔ fS N wv sd a k p) := by
      intro p hp
      rw [hz p hp, hb p hp]
      constructor
      · rintro (⟨t, ht, j, hj, e⟩ | ⟨t, ht, e⟩)
        · exact ⟨t, ht, j, by omega, e⟩
        · rw [h1 t ht] at e
          exact ⟨t, ht, k - 1, by omega, e⟩
      · rintro ⟨t, ht, j, hj, e⟩
        rcases Nat.lt_or_ge j (k - 1) with w | w
        · exact Or.inl ⟨t, ht, j, w, e⟩
        · obtain rfl : j = k - 1 := by omega
          exact Or.inr ⟨t, ht, by rw [h1 t ht]; exact e⟩
    have hcnt : fC (fun t => ∀ j, j < k → bts z (mkN (nM (vrm t)) j % 2 ^ a) = true) m = F k := by
      rw [hF k]
      refine fC_ext (fun t ht => ?_)
      rw [h2 t ht]
      constructor
      · intro w j hj
        exact (hb2 _ (fP_lt (rv t) sd a j)).mp (w j hj)
      · intro w j hj
        exact (hb2 _ (fP_lt (rv t) sd a j)).mpr (w j hj)
    rw [hcnt] at hy
    rw [hy]
    rcases Nat.lt_or_ge (F k) s.1 with w | w
    · rw [Nat.min_eq_right (Nat.le_of_lt w)]
      have e3 : fInn F a (d + 1) k s = fInn F a d (k + 1) (F k, 16 * 2 ^ a + k) := by rw [fInn_s, fStp_y w]
      refine OK_F (nI_ge w (by omega)) (OK_ite (fun q => OK_some ?_) (fun q => ?_))
      · have h0 : F k = 0 := (nI_eq (b := 0) (by omega) (by omega)).mp q
        unfold ChP
        rw [e3, fInn_0 d (k + 1) (F k, 16 * 2 ^ a + k) h0]
        refine ⟨fun r h => ?_, fun r h => (nomatch h)⟩
        injection h with h
        subst h
        exact ⟨rfl, h0⟩
      · unfold ChP
        rw [e3]
        exact ih (k + 1) fu (by omega) (by omega) (by omega) (F k, 16 * 2 ^ a + k) z (by show F k ≤ 1001; omega) hb2
    · rw [Nat.min_eq_left w]
      have e3 : fInn F a (d + 1) k s = fInn F a d (k + 1) s := by rw [fInn_s, fStp_n w]
      refine OK_T (Int32.le_refl _) (OK_ite (fun q => OK_some ?_) (fun q => ?_))
      · have h0 : s.1 = 0 := (nI_eq (b := 0) (by omega) (by omega)).mp q
        unfold ChP
        rw [e3, fInn_0 d (k + 1) s h0]
        refine ⟨fun r h => ?_, fun r h => (nomatch h)⟩
        injection h with h
        subst h
        exact ⟨rfl, h0⟩
      · unfold ChP
        rw [e3]
        exact ih (k + 1) fu (by omega) (by omega) (by omega) s z hs hb2
theorem choose_loop_x {N m : Nat} (hN : N ≤ 1000) (hm : m ≤ 1000) {wv rv vim vrm : Nat → Int64} {sd : Int32} (h1 : ∀ t, t < N → vim t = mixV (wv t) sd) (h2 : ∀ t, t < m → vrm t = mixV (rv t) sd) (mo : Int32) (hmo : mo ≤ 4096) {F : Nat → Nat → Nat} (hF : ∀ a k, F a k = fC (fun t => fL N wv sd a k (rv t)) m) : ∀ (d a fu : Nat), a + d = 13 → d < fu → ∀ (s : Nat × Nat) (bo : Int32) (bw_ : Nat → Int64), s.1 ≤ 1001 → OK (mX2_choose_L10 (nI N) (nI m) vim vrm mo fu (nI (2 ^ a)) (nI s.2) (nI s.1) bo bw_) (fun o => (∀ r, o = .inl r → r.1 = nI (fOut F mo d a s).2) ∧ ∀ q, o = .inr q → q.2.1 = nI (fOut F mo d a s).2) := by
  intro d
  induction d with
  | zero =>
    intro a fu ha hf s bo bw_ hs
    obtain ⟨fu, rfl⟩ : ∃ q, fu = q + 1 := ⟨fu - 1, by omega⟩
    obtain rfl : a = 13 := by omega
    rw [mX2_choose_L10]
    refine OK_T (Int32.lt_of_le_of_lt hmo (by decide)) (OK_some ⟨fun r h => (nomatch h), fun q h => ?_⟩)
    injection h with h
    subst h
    rfl
  | succ d ih =>
    intro a fu ha hf s bo bw_ hs
    obtain ⟨fu, rfl⟩ : ∃ q, fu = q + 1 := ⟨fu - 1, by omega⟩
    have hp : 2 ^ a ≤ 4096 := pow_up (b := 12) (by omega)
    have e2 : nI (2 ^ a) * (2 : Int32) = nI (2 ^ (a + 1)) := by rw [Nat.pow_succ]; exact pk_mul (2 ^ a) 2
    rw [mX2_choose_L10, e2]
    refine OK_ite (fun q => OK_some ⟨fun r h => (nomatch h), fun r h => ?_⟩) (fun q => OK_F (nI_nlt (a := 4096) hp (by decide)) (OK_be (br_begin hp) (OK_bind (choose_in_x (by omega) hN hm h1 h2 _ (hF a) 8 1 FU (by decide) (by decide) (by decide) s _ hs (fun p hq => ?_)) (fun o ho => OK_sum (fun r hr => OK_some ⟨fun r2 h => ?_, fun r2 h => (nomatch h)⟩) (fun r hr => ?_)))))
    · injection h with h
      subst h
      rw [fOut_y q]
    · rw [bts_0 (by omega)]
      exact ⟨fun h => absurd h (by decide), fun h => by obtain ⟨t, ht, j, hj, -⟩ := h; exact absurd hj (Nat.not_lt_zero j)⟩
    · injection h with h
      subst h
      obtain ⟨g1, g2⟩ := ho.1 r hr
      rw [fOut_n q, fOut_0 d (a + 1) _ g2]
      exact g1
    · obtain ⟨g1, g2, g3⟩ := ho.2 r hr
      rw [g1, g2, fOut_n q]
      exact ih (a + 1) fu (by omega) (by omega) _ _ _ g3
theorem sfewest_x {N U : Nat} (hN : N ≤ 1000) (hU : U ≤ 1000) (mo sd : Int32) (wv uv : Nat → Int64) (hr : worldR wv N) (rin : Int32) (riv : Nat → Int64) (ic rc : Int32) (vim vrm : Nat → Int64) (z0 : Int32) (vbw : Nat → Int64) : OK (mX8_fewest mo sd (nI N) wv (nI U) uv rin riv ic rc vim vrm z0 vbw) (fun z => (¬ (¬ mo < 8 ∧ mo ≤ 4096) → z.1 = -1) ∧ (¬ mo < 8 ∧ mo ≤ 4096 → z.1 = nI (fOut (fun a k => fN N wv U uv sd a k) mo 10 3 (1001, 0)).2)) := by
  unfold mX8_fewest
  refine OK_ite (fun q => OK_some ⟨fun _ => rfl, fun h => absurd q h.1⟩) (fun q8 => OK_ite (fun q4 => ?_) (fun q => OK_some ⟨fun _ => rfl, fun h => absurd h.2 q⟩))
  refine OK_bind (without_x hU hN riv uv wv hr) (fun z hz => ?_)
  obtain ⟨m, hm, e, H⟩ := hz
  rw [e]
  refine OK_bind (cbegin_x hN (by omega) vim vrm wv z.2 sd) (fun y hy => ?_)
  obtain ⟨e1, e2, e3, e4⟩ := hy
  rw [e1, e2]
  refine OK_bind (P := fun x => x.1 = nI (fOut (fun a k => fN N wv U uv sd a k) mo 10 3 (1001, 0)).2) ?_ (fun x hx => OK_some ⟨fun h => absurd ⟨q8, q4⟩ h, fun _ => hx⟩)
  unfold mX2_choose
  refine OK_bind (choose_loop_x hN (by omega) e3 e4 mo q4 (F := fun a k => fN N wv U uv sd a k) (fun a k => ?_) 10 3 FU (by decide) (by decide) (1001, 0) z0 vbw (by decide)) (fun o ho => OK_sum (fun r hr => OK_some (ho.1 r hr)) (fun r hr => OK_some (ho.2 r hr)))
  exact (H (fL N wv sd a k)).symm
theorem rfewest_x {vW : Nat → Int64} {vIW : Nat → Int32} {v w n N : Nat} (hv : v < 8) (hw : w < 8) (hn : n ≤ 1000) (hN : N ≤ 1000) (eN : vIW v = nI N) (en : vIW w = nI n) (al : Nat → Int32) (mo sd : Int32) : OK (mX9_fewest vW vIW al (nI v) (nI w) mo sd) (fun z => (¬ (¬ mo < 8 ∧ mo ≤ 4096) → z.1 = -1) ∧ (¬ mo < 8 ∧ mo ≤ 4096 → z.1 = nI (fOut (fun a k => fN N (wOf vW v) n (wOf vW w) sd a k) mo 10 3 (1001, 0)).2)) := by
  unfold mX9_fewest
  refine OK_be (isW1 hv) (OK_F (by decide) (OK_be (isW1 hw) (OK_F (by decide) (OK_ite (fun q => OK_some ⟨fun _ => rfl, fun h => absurd q h.1⟩) (fun q8 => OK_ite (fun q4 => ?_) (fun q => OK_some ⟨fun _ => rfl, fun h => absurd h.2 q⟩))))))
  exact OK_bind (few_out_x hv hw hn hN eN en vW sd mo q4 (F := fun a k => fN N (wOf vW v) n (wOf vW w) sd a k) (fun _ _ => rfl) 10 3 FU (by decide) (by decide) (1001, 0) al (by decide)) (fun z hz => OK_some ⟨fun h => absurd ⟨q8, q4⟩ h, fun _ => hz⟩)
theorem pH_fewestA {wN wN1 : Nat → Nat} {wV wV1 : Nat → Nat → Int64} {M M1 : Nat} {σ σ1 : Nat → SlT} {r r1 : RT} {wi wa mo sd_ : Int32} {x8 x9 : Int32} (hI : RIY r) (hV : ∀ j, j < M → SVs (σ j)) (hR : WRs wN wV) (H : SimH wN wV M σ r) (h8 : T8_fewest wi wa mo sd_ wN wV M σ x8 wN1 wV1 M1 σ1) (h9 : S9_fewest wi wa mo sd_ r x9 r1) : x8 = x9 ∧ SimH wN1 wV1 M1 σ1 r1 := by
  refine ⟨?_, pH_fewest hI hV hR H h8 h9⟩
  obtain ⟨many, vW, vIW, vK, vZ, vM, vS, vCt, vC, vRow, vB, vL, vLC, vRe, vR⟩ := r
  obtain ⟨-, -, hK, -⟩ := H
  obtain ⟨h8, -⟩ := h8
  obtain ⟨al, z, hz, rfl, -⟩ := h9
  rcases h8 with ⟨hn, e⟩ | ⟨j, hj, k, hk, rfl, rfl, hP⟩
  · rw [e]
    have ez : mX9_fewest vW vIW al wi wa mo sd_ = some (-1, al) := by
      unfold mX9_fewest
      rcases isW_v wi with q | ⟨q, v, hv, rfl⟩
      · rw [q, sb_]
        exact if_pos rfl
      · rcases hn with hn | hn
        · rw [q] at hn
          exact absurd hn (by decide)
        · rw [q, sb_, if_neg (show ¬ (1 : Int32) = 0 by decide), hn, sb_]
          exact if_pos rfl
    rw [ez] at hz
    exact congrArg Prod.fst (Option.some.inj hz)
  · obtain ⟨rin, riv, ic, rc, vim, vrm, z0, vbw, y, hy, ey⟩ := hP
    have hNj := (hR j hj).1
    have hNk := (hR k hk).1
    obtain ⟨a1, a2⟩ := OK_use (sfewest_x hNj hNk mo sd_ (wV j) (wV k) (hR j hj).2 rin riv ic rc vim vrm z0 vbw) hy
    obtain ⟨b1, b2⟩ := OK_use (rfewest_x (vW := vW) hj hk hNk hNj (hK j hj).1 (hK k hk).1 al mo sd_) hz
    rw [ey]
    by_cases q : ¬ mo < 8 ∧ mo ≤ 4096
    · rw [a2 q, b2 q]
      have eF : (fun a k_ => fN (wN j) (wOf vW j) (wN k) (wOf vW k) sd_ a k_) = (fun a k_ => fN (wN j) (wV j) (wN k) (wV k) sd_ a k_) := by
        funext a k_
        exact fN_ext (hK j hj).2 (hK k hk).2 sd_ a k_
      rw [eF]
    · rw [a1 q, b1 q]
