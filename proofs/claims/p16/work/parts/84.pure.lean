/-! ===== Layers.build, Chooser, the rows of bits: ranges ===== -/
def szF (k : Nat) : Nat → Nat → Nat
  | 0, a => a
  | d + 1, a => if 8 * k ≤ 2 ^ a then a else szF k d (a + 1)
def szA (k : Nat) : Nat := szF k 9 3
theorem szF_le (k : Nat) : ∀ d a, a ≤ szF k d a ∧ szF k d a ≤ a + d := by
  intro d
  induction d with
  | zero => intro a; exact ⟨Nat.le_refl _, Nat.le_refl _⟩
  | succ d ih =>
    intro a
    show a ≤ (if 8 * k ≤ 2 ^ a then a else szF k d (a + 1)) ∧ (if 8 * k ≤ 2 ^ a then a else szF k d (a + 1)) ≤ a + (d + 1)
    have := ih (a + 1)
    split <;> omega
theorem szA_le (k : Nat) : 3 ≤ szA k ∧ szA k ≤ 12 := szF_le k 9 3
theorem pow_up {a b : Nat} (h : a ≤ b) : 2 ^ a ≤ 2 ^ b := Nat.pow_le_pow_right (by decide) h
theorem sizeFor_loop {k : Nat} (hk : k ≤ 1000) : ∀ (d a fu : Nat), a + d = 12 → d < fu → mX3_sizeFor_L3 (nI k) fu (nI (2 ^ a)) = some (nI (2 ^ szF k d a)) := by
  intro d
  induction d with
  | zero =>
    intro a fu ha hf
    obtain ⟨fu, rfl⟩ : ∃ q, fu = q + 1 := ⟨fu - 1, by omega⟩
    obtain rfl : a = 12 := by omega
    rw [mX3_sizeFor_L3, if_pos (by decide)]
    rfl
  | succ d ih =>
    intro a fu ha hf
    obtain ⟨fu, rfl⟩ : ∃ q, fu = q + 1 := ⟨fu - 1, by omega⟩
    have h1 : 2 ^ a ≤ 2 ^ 11 := pow_up (by omega)
    have e8 : (8 : Int32) * nI k = nI (8 * k) := pk_mul 8 k
    have e2 : nI (2 ^ a) * (2 : Int32) = nI (2 ^ (a + 1)) := by rw [Nat.pow_succ]; exact pk_mul (2 ^ a) 2
    rw [mX3_sizeFor_L3, if_neg (show ¬ (4096 : Int32) ≤ nI (2 ^ a) from nI_ge (b := 4096) (by omega) (by decide)), e8, e2]
    show _ = some (nI (2 ^ (if 8 * k ≤ 2 ^ a then a else szF k d (a + 1))))
    by_cases h : 8 * k ≤ 2 ^ a
    · rw [if_pos (nI_le h (by omega)), if_pos h]
    · rw [if_neg (nI_ge (by omega) (by omega)), if_neg h]
      exact ih (a + 1) fu (by omega) (by omega)
theorem sizeFor_v {k : Nat} (hk : k ≤ 1000) : mX3_sizeFor (nI k) = some (nI (2 ^ szA k)) := by
  unfold mX3_sizeFor
  rw [show mX3_sizeFor_L3 (nI k) FU 8 = _ from sizeFor_loop hk 9 3 FU (by decide) (by decide), sb_]
  rfl
theorem szA_pow (k : Nat) : 2 ^ szA k ≤ 4096 := pow_up (szA_le k).2
theorem addLayer_ok {i k : Nat} (hi : i < 20) (hk : k ≤ 1000) (lsd : Int32) (kca : Nat → Int32) (dw v1 : Nat → Int64) : OK (mX3_addLayer lsd kca (nI i) dw (nI k) v1) (fun z => z.1 = nI (i + 1) ∧ z.2.1 = upd kca i (nI k) ∧ z.2.2.1 = nI (2 ^ szA k)) := by
  unfold mX3_addLayer
  refine OK_T (ix_nI hi) (OK_be rfl (OK_be (sizeFor_v hk) (OK_be (br_begin (szA_pow k)) (OK_bind (P := fun _ => True) ?_ (fun o _ => OK_be rfl (OK_T (ix_nI hi) (OK_some ⟨nI_s i, by rw [cl_nI], rfl⟩)))))))
  refine OK_for (fun fu x (s : Nat → Int64) => mX3_addLayer_L18 lsd (nI i) (nI k) v1 (nI (2 ^ szA k), filJ 64 dw 0) fu x s) k (by omega) (fun _ _ => True) _ trivial ?_ ?_
  · intro fu s _
    show OK (mX3_addLayer_L18 lsd (nI i) (nI k) v1 (nI (2 ^ szA k), filJ 64 dw 0) (fu + 1) (nI k) s) _
    rw [mX3_addLayer_L18]
    exact OK_be rfl (OK_T (Int32.le_refl _) (OK_some trivial))
  · intro fu j s hj _ ih
    show OK (mX3_addLayer_L18 lsd (nI i) (nI k) v1 (nI (2 ^ szA k), filJ 64 dw 0) (fu + 1) (nI j) s) _
    rw [mX3_addLayer_L18]
    refine OK_be rfl (OK_F (nI_ge hj (by omega)) (OK_T (ix_nI hi) (OK_be (bag_atN hk hj) (OK_be (mix_c _ _) (OK_bind (br_setMarks (m := 3) (szA_pow k) (by decide) _) (fun z _ => ?_))))))
    rw [nI_s]
    exact ih z trivial
theorem sift_ok {i b : Nat} (hi : i < 20) (hb : b ≤ 4096) {n2 : Int32} (hn : BN n2) (lsd : Int32) (dw v2 v3 : Nat → Int64) : OK (mX3_sift lsd (nI i) (nI b) dw n2 v2 v3) (fun z => BN z.1) := by
  obtain ⟨k, hk, rfl⟩ := hn
  unfold mX3_sift
  refine OK_be rfl (OK_bind (P := fun z => BN z.2.1) ?_ (fun z hz => OK_some hz))
  refine OK_for (fun fu x (s : Int32 × (Nat → Int64)) => mX3_sift_L7 lsd (nI i) (nI b) dw (nI k) v2 fu x s.1 s.2) k (by omega) (fun _ s => BN s.1) _ (s := (0, v3)) BN_0 ?_ ?_
  · intro fu s hs
    show OK (mX3_sift_L7 lsd (nI i) (nI b) dw (nI k) v2 (fu + 1) (nI k) s.1 s.2) _
    rw [mX3_sift_L7]
    exact OK_be rfl (OK_T (Int32.le_refl _) (OK_some hs))
  · intro fu j s hj hs ih
    show OK (mX3_sift_L7 lsd (nI i) (nI b) dw (nI k) v2 (fu + 1) (nI j) s.1 s.2) _
    rw [mX3_sift_L7]
    refine OK_be rfl (OK_F (nI_ge hj (by omega)) (OK_be (bag_atN hk hj) (OK_bind (pl01 hi hb _ _ _) (fun z _ => ?_))))
    rw [nI_s]
    exact OK_ite (fun _ => ih s hs) (fun _ => OK_be (bag_atN hk hj) (OK_bind (app_ok hs _ _) (fun y hy => ih y hy)))
theorem restBehind_ok {i : Nat} (hi : i < 20) (kca : Nat → Int32) (cm : Int32) : OK (mX3_isRestBehind kca (nI i) cm) (fun z => z = 0 → i < 19) := by
  unfold mX3_isRestBehind
  rw [nI_s]
  refine OK_ite (fun _ => OK_some (fun h => absurd h (by decide))) (fun h20 => ?_)
  have h19 : i < 19 := by
    apply Nat.lt_of_not_le
    intro q
    exact h20 (nI_le (a := 20) (by omega) (by omega))
  refine OK_ite (fun _ => OK_some (fun _ => h19)) (fun h1 => ?_)
  have hi1 : 1 ≤ i := Nat.le_of_not_lt (fun q => h1 (nI_lt (b := 1) q (by decide)))
  rw [show nI i - (1 : Int32) = nI (i - 1) from pk_sub (b := 1) hi1]
  exact OK_T (ix_nI (by omega)) (OK_ite (fun _ => OK_some (fun h => absurd h (by decide))) (fun _ => OK_some (fun _ => h19)))
def LZ (lz : Nat → Int32) : Prop := ∀ j, j < 20 → ∃ b, b ≤ 4096 ∧ lz j = nI b
theorem LZ_upd {lz : Nat → Int32} (h : LZ lz) {i b : Nat} (hb : b ≤ 4096) : LZ (upd lz i (nI b)) := by
  intro j hj
  by_cases q : j = i
  · subst q; exact ⟨b, hb, pk_us⟩
  · obtain ⟨c, hc, e⟩ := h j hj
    exact ⟨c, hc, (pk_un q).trans e⟩
theorem build_loop (nsd : Int32) (rv : Nat → Int64) : ∀ (d i fu : Nat), i + d = 20 → d < fu → ∀ (lc : Int32) (kca lz : Nat → Int32) (ld : Nat → Nat → Int64) (iN : Int32) (iV : Nat → Int64) (rN : Int32) (rV : Nat → Int64) (tN : Int32) (tV : Nat → Int64), lc = nI i → LZ lz → BN iN → BN rN →
    OK (mX3_build_L30 nsd 0 rv fu (nI i) lc kca lz ld iN iV rN rV tN tV) (fun z => LN z.1 z.2.2.2.1 z.2.2.2.2.2.1) := by
  intro d
  induction d with
  | zero =>
    intro i fu hi hf lc kca lz ld iN iV rN rV tN tV hlc hz h1 h2
    obtain ⟨fu, rfl⟩ : ∃ q, fu = q + 1 := ⟨fu - 1, by omega⟩
    obtain rfl : i = 20 := by omega
    rw [mX3_build_L30]
    exact OK_T (by decide) (OK_some ⟨⟨20, by decide, hlc⟩, BN_0, hz⟩)
  | succ d ih =>
    intro i fu hi hf lc kca lz ld iN iV rN rV tN tV hlc hz h1 h2
    obtain ⟨fu, rfl⟩ : ∃ q, fu = q + 1 := ⟨fu - 1, by omega⟩
    have hi20 : i < 20 := by omega
    obtain ⟨k, hk, rfl⟩ := h1
    rw [mX3_build_L30]
    refine OK_F (nI_ge (b := 20) hi20 (by decide)) (OK_T (ix_nI hi20) (OK_bind (addLayer_ok hi20 hk _ _ _ _) ?_))
    rintro z ⟨e1, e2, e3⟩
    rw [cl_nI, e3]
    refine OK_T (ix_nI hi20) ?_
    rw [pk_us]
    have hz' := LZ_upd hz (i := i) (szA_pow k)
    refine OK_bind (sift_ok hi20 (szA_pow k) h2 _ _ _ _) (fun y hy => OK_be rfl (OK_ite (fun _ => OK_some ⟨⟨i + 1, by omega, e1⟩, BN_0, hz'⟩) (fun _ => OK_be rfl (OK_bind (restBehind_ok hi20 _ _) (fun w _ => OK_ite (fun _ => ?_) (fun _ => ?_))))))
    · rw [nI_s]
      exact ih (i + 1) fu (by omega) (by omega) _ _ _ _ _ _ _ _ _ _ e1 hz' hy ⟨k, hk, rfl⟩
    · refine OK_bind (cpy_ok hy _ _) (fun u hu => OK_some ⟨⟨i + 1, by omega, e1⟩, hu.2, hz'⟩)
theorem build_ok {n1 n2 : Int32} (h1 : BN n1) (h2 : BN n2) {lz : Nat → Int32} (hz : LZ lz) (kca : Nat → Int32) (rv : Nat → Int64) (ld : Nat → Nat → Int64) (v1 v2 : Nat → Int64) (n3 : Int32) (v3 : Nat → Int64) (nsd : Int32) : OK (mX3_build kca rv lz ld n1 v1 n2 v2 n3 v3 nsd) (fun z => LN z.1 z.2.2.2.1 z.2.2.2.2.2.1) := by
  unfold mX3_build
  exact OK_be rfl (build_loop nsd rv 20 0 FU (by decide) (by decide) _ _ _ _ _ _ _ _ _ _ rfl hz h1 h2)
theorem factF_ok {lc rn : Int32} {lz : Nat → Int32} (h : LN lc rn lz) (kca : Nat → Int32) (ld : Nat → Nat → Int64) (i wh : Int32) : OK (mX3_factF lc kca lz ld i wh) (fun _ => True) := by
  obtain ⟨⟨k, hk, rfl⟩, hr, hz⟩ := h
  unfold mX3_factF
  refine OK_ite (fun _ => OK_some trivial) (fun h0 => OK_ite (fun h1 => ?_) (fun _ => OK_some trivial))
  obtain ⟨j, hj, rfl⟩ := pu_of (n := k) h0 (Int32.not_le.mpr h1) (by omega)
  have hi : ix (nI j) 20 = true := ix_nI (by omega)
  exact OK_ite (fun _ => OK_T hi (OK_be rfl (OK_some trivial))) (fun _ => OK_ite (fun _ => OK_T hi (OK_some trivial)) (fun _ => OK_ite (fun _ => OK_T hi (OK_bind (br_total _) (fun _ _ => OK_some trivial))) (fun _ => OK_some trivial)))
/-! rows of bits -/
theorem joinBits_ok {Z : Nat} (hZ : Z ≤ 4096) (kc akc bkc : Nat → Int32) (both : Int32) : OK (mX6_joinBits (nI Z) kc akc bkc both) (fun _ => True) := by
  unfold mX6_joinBits
  refine OK_bind (P := fun _ => True) ?_ (fun _ _ => OK_some trivial)
  refine OK_for (fun fu i (s : Nat → Int32) => mX6_joinBits_L3 (nI Z) akc bkc both fu i s) Z (by omega) (fun _ _ => True) _ trivial ?_ ?_
  · intro fu s _
    show OK (mX6_joinBits_L3 (nI Z) akc bkc both (fu + 1) (nI Z) s) _
    rw [mX6_joinBits_L3]
    exact OK_T (Int32.le_refl _) (OK_some trivial)
  · intro fu i s hi _ ih
    show OK (mX6_joinBits_L3 (nI Z) akc bkc both (fu + 1) (nI i) s) _
    rw [mX6_joinBits_L3]
    refine OK_F (nI_ge hi (by omega)) (OK_bind (cell_ok _ _) (fun _ _ => OK_bind (cell_ok _ _) (fun _ _ => ?_)))
    rw [nI_s]
    exact OK_ite (fun _ => OK_bind (setc_ok _ _ _) (fun y _ => ih y trivial)) (fun _ => OK_bind (setc_ok _ _ _) (fun y _ => ih y trivial))
theorem foldBits_ok {Z : Nat} (hZ : Z ≤ 4096) (kc akc : Nat → Int32) : OK (mX6_foldBits (nI Z) kc akc) (fun _ => True) := by
  unfold mX6_foldBits
  refine OK_bind (P := fun _ => True) ?_ (fun _ _ => OK_some trivial)
  refine OK_for (fun fu i (s : Nat → Int32) => mX6_foldBits_L2 (nI Z) akc fu i s) Z (by omega) (fun _ _ => True) _ trivial ?_ ?_
  · intro fu s _
    show OK (mX6_foldBits_L2 (nI Z) akc (fu + 1) (nI Z) s) _
    rw [mX6_foldBits_L2]
    exact OK_T (Int32.le_refl _) (OK_some trivial)
  · intro fu i s hi _ ih
    show OK (mX6_foldBits_L2 (nI Z) akc (fu + 1) (nI i) s) _
    rw [mX6_foldBits_L2]
    refine OK_F (nI_ge hi (by omega)) (OK_bind (cell_ok _ _) (fun _ _ => OK_bind (cell_ok _ _) (fun _ _ => OK_bind (setc_ok _ _ _) (fun y _ => ?_))))
    rw [nI_s]
    exact ih y trivial
def PZ (kd sz : Int32) : Prop := ∃ q, q < 5000 ∧ mX6_places kd sz = some (nI q)
theorem filledG_ok {kd sz : Int32} (hk : ¬ kd = 4) (h : PZ kd sz) (kc : Nat → Int32) : OK (mX6_filledG kd sz kc) (fun _ => True) := by
  obtain ⟨q, hq, e⟩ := h
  unfold mX6_filledG
  refine OK_F hk (OK_bind (P := fun _ => True) ?_ (fun _ _ => OK_some trivial))
  refine OK_for (fun fu i (s : Int32) => mX6_filledG_L31 kd sz kc fu i s) q hq (fun _ _ => True) _ trivial ?_ ?_
  · intro fu s _
    show OK (mX6_filledG_L31 kd sz kc (fu + 1) (nI q) s) _
    rw [mX6_filledG_L31]
    exact OK_be e (OK_T (Int32.le_refl _) (OK_some trivial))
  · intro fu i s hi _ ih
    show OK (mX6_filledG_L31 kd sz kc (fu + 1) (nI i) s) _
    rw [mX6_filledG_L31]
    refine OK_be e (OK_F (nI_ge hi (by omega)) (OK_bind (cell_ok _ _) (fun _ _ => ?_)))
    rw [nI_s]
    exact OK_ite (fun _ => ih _ trivial) (fun _ => ih _ trivial)
/-! Chooser -/
theorem setMark_ok {b : Nat} (hb : b ≤ 4096) {ic : Int32} (h : BN ic) (vim vbw : Nat → Int64) (j w : Int32) : OK (mX2_setMark ic vim (nI b) vbw j w) (fun _ => True) := by
  obtain ⟨k, hk, rfl⟩ := h
  unfold mX2_setMark
  refine OK_bind (P := fun _ => True) ?_ (fun _ _ => OK_some trivial)
  refine OK_for (fun fu i (s : Nat → Int64) => mX2_setMark_L2 (nI k) vim (nI b) j w fu i s) k (by omega) (fun _ _ => True) _ trivial ?_ ?_
  · intro fu s _
    show OK (mX2_setMark_L2 (nI k) vim (nI b) j w (fu + 1) (nI k) s) _
    rw [mX2_setMark_L2]
    exact OK_T (Int32.le_refl _) (OK_some trivial)
  · intro fu i s hi _ ih
    show OK (mX2_setMark_L2 (nI k) vim (nI b) j w (fu + 1) (nI i) s) _
    rw [mX2_setMark_L2]
    refine OK_F (nI_ge hi (by omega)) (OK_T (ix_nI (by omega)) (OK_be rfl (OK_bind (br_set_ok hb _) (fun y _ => ?_))))
    rw [nI_s]
    exact ih y trivial
theorem countF_ok {b m : Nat} (hb : b ≤ 4096) (hm : m ≤ 8) {rc : Int32} (h : BN rc) (vrm vbw : Nat → Int64) (li : Int32) : OK (mX2_countFalses rc vrm (nI b) vbw (nI m) li) (fun _ => True) := by
  obtain ⟨k, hk, rfl⟩ := h
  unfold mX2_countFalses
  refine OK_bind (P := fun _ => True) ?_ (fun _ _ => OK_some trivial)
  refine OK_for (fun fu i (s : Int32) => mX2_countFalses_L5 (nI k) vrm (nI b) vbw (nI m) li fu i s) k (by omega) (fun _ _ => True) _ trivial ?_ ?_
  · intro fu s _
    show OK (mX2_countFalses_L5 (nI k) vrm (nI b) vbw (nI m) li (fu + 1) (nI k) s) _
    rw [mX2_countFalses_L5]
    exact OK_T (Int32.le_refl _) (OK_some trivial)
  · intro fu i s hi _ ih
    show OK (mX2_countFalses_L5 (nI k) vrm (nI b) vbw (nI m) li (fu + 1) (nI i) s) _
    rw [mX2_countFalses_L5]
    refine OK_F (nI_ge hi (by omega)) (OK_ite (fun _ => OK_some trivial) (fun _ => OK_T (ix_nI (by omega)) (OK_bind (br_hasMarks hb hm _) (fun y _ => ?_))))
    rw [nI_s]
    exact OK_ite (fun _ => ih _ trivial) (fun _ => ih _ trivial)
theorem choose_in {b : Nat} (hb : b ≤ 4096) {ic rc : Int32} (hi : BN ic) (hr : BN rc) (vim vrm : Nat → Int64) (w0 : Nat → Int64) (x4 : Int32) : ∀ (d m fu : Nat), m + d = 9 → 1 ≤ m → d < fu → ∀ (x3 x2 : Int32) (bw_ : Nat → Int64), OK (mX2_choose_L36 ic rc vim vrm (nI b, w0) x4 fu (nI m) x3 x2 bw_) (fun _ => True) := by
  intro d
  induction d with
  | zero =>
    intro m fu hm _ hf x3 x2 bw_
    obtain ⟨fu, rfl⟩ : ∃ q, fu = q + 1 := ⟨fu - 1, by omega⟩
    obtain rfl : m = 9 := by omega
    rw [mX2_choose_L36]
    exact OK_T (by decide) (OK_some trivial)
  | succ d ih =>
    intro m fu hm h1 hf x3 x2 bw_
    obtain ⟨fu, rfl⟩ : ∃ q, fu = q + 1 := ⟨fu - 1, by omega⟩
    rw [mX2_choose_L36]
    refine OK_F (nI_nlt (a := 8) (by omega) (by decide)) (OK_bind (setMark_ok hb hi _ _ _ _) (fun z _ => OK_bind (countF_ok hb (by omega) hr _ _ _) (fun y _ => ?_)))
    rw [nI_s]
    exact OK_ite (fun _ => OK_ite (fun _ => OK_some trivial) (fun _ => ih (m + 1) fu (by omega) (by omega) (by omega) _ _ _)) (fun _ => OK_ite (fun _ => OK_some trivial) (fun _ => ih (m + 1) fu (by omega) (by omega) (by omega) _ _ _))
theorem choose_loop {ic rc : Int32} (hi : BN ic) (hr : BN rc) (vim vrm : Nat → Int64) (mo : Int32) : ∀ (d a fu : Nat), a + d = 13 → d < fu → ∀ (x3 x2 bo : Int32) (bw_ : Nat → Int64), OK (mX2_choose_L10 ic rc vim vrm mo fu (nI (2 ^ a)) x3 x2 bo bw_) (fun _ => True) := by
  intro d
  induction d with
  | zero =>
    intro a fu ha hf x3 x2 bo bw_
    obtain ⟨fu, rfl⟩ : ∃ q, fu = q + 1 := ⟨fu - 1, by omega⟩
    obtain rfl : a = 13 := by omega
    rw [mX2_choose_L10]
    exact OK_ite (fun _ => OK_some trivial) (fun _ => OK_T (by decide) (OK_some trivial))
  | succ d ih =>
    intro a fu ha hf x3 x2 bo bw_
    obtain ⟨fu, rfl⟩ : ∃ q, fu = q + 1 := ⟨fu - 1, by omega⟩
    have hp : 2 ^ a ≤ 4096 := pow_up (b := 12) (by omega)
    have e2 : nI (2 ^ a) * (2 : Int32) = nI (2 ^ (a + 1)) := by rw [Nat.pow_succ]; exact pk_mul (2 ^ a) 2
    rw [mX2_choose_L10]
    refine OK_ite (fun _ => OK_some trivial) (fun _ => OK_ite (fun _ => OK_some trivial) (fun _ => OK_be (br_begin hp) (OK_bind (choose_in hp hi hr _ _ _ _ 8 1 FU (by decide) (by decide) (by decide) _ _ _) (fun o _ => OK_sum (fun _ _ => OK_some trivial) (fun s _ => ?_)))))
    rw [e2]
    exact ih (a + 1) fu (by omega) (by omega) _ _ _ _
theorem choose_ok {ic rc : Int32} (hi : BN ic) (hr : BN rc) (vim vrm : Nat → Int64) (z0 : Int32) (vbw : Nat → Int64) (mo : Int32) : OK (mX2_choose ic rc vim vrm z0 vbw mo) (fun _ => True) := by
  unfold mX2_choose
  exact OK_bind (choose_loop hi hr vim vrm mo 10 3 FU (by decide) (by decide) _ _ _ _) (fun o _ => OK_sum (fun _ _ => OK_some trivial) (fun _ _ => OK_some trivial))
theorem cbegin_ok {no no2 : Int32} (h : BN no) (h2 : BN no2) (vim vrm vo vo2 : Nat → Int64) (sd : Int32) : OK (mX2_begin vim vrm no vo no2 vo2 sd) (fun z => z.1 = no ∧ z.2.1 = no2) := by
  obtain ⟨k, hk, rfl⟩ := h
  obtain ⟨b, hb, rfl⟩ := h2
  unfold mX2_begin
  refine OK_be rfl (OK_bind (P := fun _ => True) ?_ (fun o _ => OK_be rfl (OK_bind (P := fun _ => True) ?_ (fun _ _ => OK_some ⟨rfl, rfl⟩))))
  · refine OK_for (fun fu i (s : Nat → Int64) => mX2_begin_L11 (nI k) vo sd (nI k) fu i s) k (by omega) (fun _ _ => True) _ trivial ?_ ?_
    · intro fu s _
      show OK (mX2_begin_L11 (nI k) vo sd (nI k) (fu + 1) (nI k) s) _
      rw [mX2_begin_L11]
      exact OK_T (Int32.le_refl _) (OK_some trivial)
    · intro fu i s hi _ ih
      show OK (mX2_begin_L11 (nI k) vo sd (nI k) (fu + 1) (nI i) s) _
      rw [mX2_begin_L11]
      refine OK_F (nI_ge hi (by omega)) (OK_be (bag_atN hk hi) (OK_be (mix_c _ _) (OK_T (ix_nI (by omega)) ?_)))
      rw [nI_s]
      exact ih _ trivial
  · refine OK_for (fun fu i (s : Nat → Int64) => mX2_begin_L54 (nI b) vo2 sd (nI b) fu i s) b (by omega) (fun _ _ => True) _ trivial ?_ ?_
    · intro fu s _
      show OK (mX2_begin_L54 (nI b) vo2 sd (nI b) (fu + 1) (nI b) s) _
      rw [mX2_begin_L54]
      exact OK_T (Int32.le_refl _) (OK_some trivial)
    · intro fu i s hi _ ih
      show OK (mX2_begin_L54 (nI b) vo2 sd (nI b) (fu + 1) (nI i) s) _
      rw [mX2_begin_L54]
      refine OK_F (nI_ge hi (by omega)) (OK_be (bag_atN hb hi) (OK_be (mix_c _ _) (OK_T (ix_nI (by omega)) ?_)))
      rw [nI_s]
      exact ih _ trivial
