/-! ===== the class: what a call does to one sieve, ranges ===== -/
def SV (kd sz mk n : Int32) : Prop := MN mk ∧ BN n ∧ ∃ Z, Z ≤ 4096 ∧ sz = nI Z ∧ (kd = 2 → Z ≤ 256)
theorem SV_n {kd sz mk n n2 : Int32} (h : SV kd sz mk n) (h2 : BN n2) : SV kd sz mk n2 := ⟨h.1, h2, h.2.2⟩
theorem SV_PZ {kd sz mk n : Int32} (h : SV kd sz mk n) : PZ kd sz := by
  obtain ⟨-, -, Z, hZ, rfl, h2⟩ := h
  unfold PZ mX6_places
  by_cases q : kd = 2
  · have := h2 q
    rw [if_pos q, four]
    exact ⟨4 * Z, by omega, rfl⟩
  · rw [if_neg q]
    exact ⟨Z, by omega, rfl⟩
theorem open_ok (kd : Int32) : OK (mX6_isOpen kd) (fun _ => True) := OK_ite (fun _ => OK_some trivial) (fun _ => OK_ite (fun _ => OK_some trivial) (fun _ => OK_ite (fun _ => OK_some trivial) (fun _ => OK_some trivial)))
theorem sput_ok {kd sz mk n : Int32} (h : SV kd sz mk n) (sd : Int32) (kc : Nat → Int32) (v : Nat → Int64) (t : Int64) : OK (mX8_put t kd sz mk sd kc n v) (fun z => SV kd sz mk z.2.2.1) := by
  unfold mX8_put
  exact OK_bind (open_ok _) (fun _ _ => OK_ite (fun _ => OK_some h) (fun _ => OK_bind (senter_ok h.1 h.2.1 _ _ _ _ _ _) (fun _ hz => OK_some (SV_n h hz))))
theorem sdrop_ok {kd sz mk n : Int32} (h : SV kd sz mk n) (sd : Int32) (kc : Nat → Int32) (v : Nat → Int64) (t : Int64) : OK (mX8_drop t kd sz mk sd kc n v) (fun z => SV kd sz mk z.2.2.1) := by
  unfold mX8_drop
  refine OK_ite (fun q => ?_) (fun _ => OK_ite (fun q => ?_) (fun _ => OK_some h))
  · exact OK_bind (passesG01 (by rw [q]; decide) h.1 _ _ _ _) (fun _ _ => OK_ite (fun _ => OK_some h) (fun _ => OK_bind (leave_ok h.1 h.2.1 _ _ _ _ _ _) (fun _ hz => OK_be rfl (OK_some (SV_n h hz)))))
  · exact OK_bind (passesG01 (by rw [q]; decide) h.1 _ _ _ _) (fun _ _ => OK_ite (fun _ => OK_some h) (fun _ => OK_bind (leave_ok h.1 h.2.1 _ _ _ _ _ _) (fun _ hz => OK_be rfl (OK_some (SV_n h hz)))))
theorem places_ok (kd sz : Int32) : OK (mX6_places kd sz) (fun _ => True) := OK_ite (fun _ => OK_some trivial) (fun _ => OK_some trivial)
theorem scell_ok (kd sz : Int32) (kc : Nat → Int32) (i : Int32) : OK (mX8_cell i kd sz kc) (fun _ => True) := by
  unfold mX8_cell
  exact OK_ite (fun _ => OK_some trivial) (fun _ => OK_bind (places_ok _ _) (fun _ _ => OK_ite (fun _ => OK_ite (fun _ => OK_some trivial) (fun _ => OK_bind (cell_ok _ _) (fun _ _ => OK_some trivial))) (fun _ => OK_some trivial)))
theorem spot_ok (kd sz sd : Int32) (t : Int64) (j : Int32) : OK (mX6_spot kd sz sd t j) (fun _ => True) := by
  unfold mX6_spot
  exact OK_be rfl (OK_ite (fun _ => OK_ite (fun _ => OK_bind (fnest_ok _ _) (fun _ _ => OK_some trivial)) (fun _ => OK_bind (snest_ok _ _) (fun _ _ => OK_some trivial))) (fun _ => OK_ite (fun _ => OK_bind (spl_ok _ _ _) (fun _ _ => OK_some trivial)) (fun _ => OK_be rfl (OK_some trivial))))
theorem spots_ok (kd mk : Int32) : OK (mX6_spots kd mk) (fun _ => True) := OK_ite (fun _ => OK_some trivial) (fun _ => OK_ite (fun _ => OK_some trivial) (fun _ => OK_some trivial))
theorem smark_ok (kd sz mk sd : Int32) (t : Int64) (j : Int32) : OK (mX8_mark t j kd sz mk sd) (fun _ => True) := by
  unfold mX8_mark
  exact OK_ite (fun _ => OK_some trivial) (fun _ => OK_ite (fun _ => OK_some trivial) (fun _ => OK_bind (spots_ok _ _) (fun _ _ => OK_ite (fun _ => OK_bind (spot_ok _ _ _ _ _) (fun _ _ => OK_some trivial)) (fun _ => OK_some trivial))))
theorem sletsG_ok {kd sz mk n : Int32} (h : SV kd sz mk n) (hk : ¬ kd = 4) (sd : Int32) (kc : Nat → Int32) (t : Int64) : OK (mX8_letsG t kd sz mk sd kc) (fun _ => True) := by
  unfold mX8_letsG
  exact OK_bind (passesG01 hk h.1 _ _ _ _) (fun _ _ => OK_ite (fun _ => OK_some trivial) (fun _ => OK_some trivial))
theorem smissedG_ok {kd sz mk n : Int32} (h : SV kd sz mk n) (hk : ¬ kd = 4) (sd : Int32) (kc : Nat → Int32) (v : Nat → Int64) : OK (mX8_missedG kd sz mk sd kc n v) (fun _ => True) := by
  unfold mX8_missedG
  refine OK_bind (P := fun _ => True) ?_ (fun _ _ => OK_some trivial)
  obtain ⟨N, hN, en⟩ := h.2.1
  refine OK_for (fun fu k (x : Int32) => mX8_missedG_L17 kd sz mk sd kc n v fu k x) N (by omega) (fun _ _ => True) _ trivial ?_ ?_
  · intro fu x _
    show OK (mX8_missedG_L17 kd sz mk sd kc n v (fu + 1) (nI N) x) _
    rw [mX8_missedG_L17]
    exact OK_be rfl (OK_T (by rw [en]; exact Int32.le_refl _) (OK_some trivial))
  · intro fu k x hk2 _ ih
    show OK (mX8_missedG_L17 kd sz mk sd kc n v (fu + 1) (nI k) x) _
    rw [mX8_missedG_L17, nI_s]
    exact OK_be rfl (OK_F (by rw [en]; exact nI_ge hk2 (by omega)) (OK_bind (at_ok h.2.1 _ _) (fun _ _ => OK_bind (passesG01 hk h.1 _ _ _ _) (fun _ _ => OK_ite (fun _ => ih _ trivial) (fun _ => ih _ trivial)))))
theorem sfalsesG_ok {kd sz mk n wn : Int32} (h : SV kd sz mk n) (hw : BN wn) (hk : ¬ kd = 4) (wv : Nat → Int64) (sd : Int32) (kc : Nat → Int32) (v : Nat → Int64) : OK (mX8_falsesG wn wv kd sz mk sd kc n v) (fun _ => True) := by
  unfold mX8_falsesG
  refine OK_bind (P := fun _ => True) ?_ (fun _ _ => OK_some trivial)
  have hw2 := hw
  obtain ⟨N, hN, en⟩ := hw2
  refine OK_for (fun fu k (x : Int32) => mX8_falsesG_L30 wn wv kd sz mk sd kc n v fu k x) N (by omega) (fun _ _ => True) _ trivial ?_ ?_
  · intro fu x _
    show OK (mX8_falsesG_L30 wn wv kd sz mk sd kc n v (fu + 1) (nI N) x) _
    rw [mX8_falsesG_L30]
    exact OK_be rfl (OK_T (by rw [en]; exact Int32.le_refl _) (OK_some trivial))
  · intro fu k x hk2 _ ih
    show OK (mX8_falsesG_L30 wn wv kd sz mk sd kc n v (fu + 1) (nI k) x) _
    rw [mX8_falsesG_L30, nI_s]
    exact OK_be rfl (OK_F (by rw [en]; exact nI_ge hk2 (by omega)) (OK_bind (at_ok hw _ _) (fun _ _ => OK_bind (pfG01 hk h.1 h.2.1 _ _ _ _ _) (fun _ _ => OK_ite (fun _ => ih _ trivial) (fun _ => ih _ trivial)))))
theorem sfalseOneG_ok {kd sz mk n wn : Int32} (h : SV kd sz mk n) (hw : BN wn) (hk : ¬ kd = 4) (i : Int32) (wv : Nat → Int64) (sd : Int32) (kc : Nat → Int32) (v : Nat → Int64) : OK (mX8_falseOneG i wn wv kd sz mk sd kc n v) (fun _ => True) := by
  unfold mX8_falseOneG
  refine OK_ite (fun _ => OK_bind (P := fun _ => True) ?_ (fun _ _ => OK_sum (fun _ _ => OK_some trivial) (fun _ _ => OK_some trivial))) (fun _ => OK_some trivial)
  have hw2 := hw
  obtain ⟨N, hN, en⟩ := hw2
  refine OK_for (fun fu k (x : Int32) => mX8_falseOneG_L36 wn wv kd sz mk sd kc n v fu k x) N (by omega) (fun _ _ => True) _ trivial ?_ ?_
  · intro fu x _
    show OK (mX8_falseOneG_L36 wn wv kd sz mk sd kc n v (fu + 1) (nI N) x) _
    rw [mX8_falseOneG_L36]
    exact OK_be rfl (OK_T (by rw [en]; exact Int32.le_refl _) (OK_some trivial))
  · intro fu k x hk2 _ ih
    show OK (mX8_falseOneG_L36 wn wv kd sz mk sd kc n v (fu + 1) (nI k) x) _
    rw [mX8_falseOneG_L36, nI_s]
    exact OK_be rfl (OK_F (by rw [en]; exact nI_ge hk2 (by omega)) (OK_bind (at_ok hw _ _) (fun _ _ => OK_bind (pfG01 hk h.1 h.2.1 _ _ _ _ _) (fun _ _ => OK_ite (fun _ => ih _ trivial) (fun _ => OK_ite (fun _ => OK_bind (at_ok hw _ _) (fun _ _ => OK_some trivial)) (fun _ => ih _ trivial))))))
theorem sletsL_ok {kd sz mk n : Int32} {lc rn : Int32} {lz : Nat → Int32} (h : SV kd sz mk n) (hk : LN lc rn lz) (lsd : Int32) (rv : Nat → Int64) (ld : Nat → Nat → Int64) (sd : Int32) (kc : Nat → Int32) (t : Int64) : OK (mX8_letsL t kd sz mk sd kc lc lsd rn rv lz ld) (fun _ => True) := by
  unfold mX8_letsL
  exact OK_bind (passesL01 hk h.1 _ _ _ _ _ _ _) (fun _ _ => OK_ite (fun _ => OK_some trivial) (fun _ => OK_some trivial))
theorem smissedL_ok {kd sz mk n : Int32} {lc rn : Int32} {lz : Nat → Int32} (h : SV kd sz mk n) (hk : LN lc rn lz) (lsd : Int32) (rv : Nat → Int64) (ld : Nat → Nat → Int64) (sd : Int32) (kc : Nat → Int32) (v : Nat → Int64) : OK (mX8_missedL kd sz mk sd kc n v lc lsd rn rv lz ld) (fun _ => True) := by
  unfold mX8_missedL
  refine OK_bind (P := fun _ => True) ?_ (fun _ _ => OK_some trivial)
  obtain ⟨N, hN, en⟩ := h.2.1
  refine OK_for (fun fu k (x : Int32) => mX8_missedL_L17 kd sz mk sd kc n v lc lsd rn rv lz ld fu k x) N (by omega) (fun _ _ => True) _ trivial ?_ ?_
  · intro fu x _
    show OK (mX8_missedL_L17 kd sz mk sd kc n v lc lsd rn rv lz ld (fu + 1) (nI N) x) _
    rw [mX8_missedL_L17]
    exact OK_be rfl (OK_T (by rw [en]; exact Int32.le_refl _) (OK_some trivial))
  · intro fu k x hk2 _ ih
    show OK (mX8_missedL_L17 kd sz mk sd kc n v lc lsd rn rv lz ld (fu + 1) (nI k) x) _
    rw [mX8_missedL_L17, nI_s]
    exact OK_be rfl (OK_F (by rw [en]; exact nI_ge hk2 (by omega)) (OK_bind (at_ok h.2.1 _ _) (fun _ _ => OK_bind (passesL01 hk h.1 _ _ _ _ _ _ _) (fun _ _ => OK_ite (fun _ => ih _ trivial) (fun _ => ih _ trivial)))))
theorem sfalsesL_ok {kd sz mk n wn : Int32} {lc rn : Int32} {lz : Nat → Int32} (h : SV kd sz mk n) (hw : BN wn) (hk : LN lc rn lz) (lsd : Int32) (rv : Nat → Int64) (ld : Nat → Nat → Int64) (wv : Nat → Int64) (sd : Int32) (kc : Nat → Int32) (v : Nat → Int64) : OK (mX8_falsesL wn wv kd sz mk sd kc n v lc lsd rn rv lz ld) (fun _ => True) := by
  unfold mX8_falsesL
  refine OK_bind (P := fun _ => True) ?_ (fun _ _ => OK_some trivial)
  have hw2 := hw
  obtain ⟨N, hN, en⟩ := hw2
  refine OK_for (fun fu k (x : Int32) => mX8_falsesL_L30 wn wv kd sz mk sd kc n v lc lsd rn rv lz ld fu k x) N (by omega) (fun _ _ => True) _ trivial ?_ ?_
  · intro fu x _
    show OK (mX8_falsesL_L30 wn wv kd sz mk sd kc n v lc lsd rn rv lz ld (fu + 1) (nI N) x) _
    rw [mX8_falsesL_L30]
    exact OK_be rfl (OK_T (by rw [en]; exact Int32.le_refl _) (OK_some trivial))
  · intro fu k x hk2 _ ih
    show OK (mX8_falsesL_L30 wn wv kd sz mk sd kc n v lc lsd rn rv lz ld (fu + 1) (nI k) x) _
    rw [mX8_falsesL_L30, nI_s]
    exact OK_be rfl (OK_F (by rw [en]; exact nI_ge hk2 (by omega)) (OK_bind (at_ok hw _ _) (fun _ _ => OK_bind (pfL01 hk h.1 h.2.1 _ _ _ _ _ _ _ _) (fun _ _ => OK_ite (fun _ => ih _ trivial) (fun _ => ih _ trivial)))))
theorem sfalseOneL_ok {kd sz mk n wn : Int32} {lc rn : Int32} {lz : Nat → Int32} (h : SV kd sz mk n) (hw : BN wn) (hk : LN lc rn lz) (lsd : Int32) (rv : Nat → Int64) (ld : Nat → Nat → Int64) (i : Int32) (wv : Nat → Int64) (sd : Int32) (kc : Nat → Int32) (v : Nat → Int64) : OK (mX8_falseOneL i wn wv kd sz mk sd kc n v lc lsd rn rv lz ld) (fun _ => True) := by
  unfold mX8_falseOneL
  refine OK_ite (fun _ => OK_bind (P := fun _ => True) ?_ (fun _ _ => OK_sum (fun _ _ => OK_some trivial) (fun _ _ => OK_some trivial))) (fun _ => OK_some trivial)
  have hw2 := hw
  obtain ⟨N, hN, en⟩ := hw2
  refine OK_for (fun fu k (x : Int32) => mX8_falseOneL_L36 wn wv kd sz mk sd kc n v lc lsd rn rv lz ld fu k x) N (by omega) (fun _ _ => True) _ trivial ?_ ?_
  · intro fu x _
    show OK (mX8_falseOneL_L36 wn wv kd sz mk sd kc n v lc lsd rn rv lz ld (fu + 1) (nI N) x) _
    rw [mX8_falseOneL_L36]
    exact OK_be rfl (OK_T (by rw [en]; exact Int32.le_refl _) (OK_some trivial))
  · intro fu k x hk2 _ ih
    show OK (mX8_falseOneL_L36 wn wv kd sz mk sd kc n v lc lsd rn rv lz ld (fu + 1) (nI k) x) _
    rw [mX8_falseOneL_L36, nI_s]
    exact OK_be rfl (OK_F (by rw [en]; exact nI_ge hk2 (by omega)) (OK_bind (at_ok hw _ _) (fun _ _ => OK_bind (pfL01 hk h.1 h.2.1 _ _ _ _ _ _ _ _) (fun _ _ => OK_ite (fun _ => ih _ trivial) (fun _ => OK_ite (fun _ => OK_bind (at_ok hw _ _) (fun _ _ => OK_some trivial)) (fun _ => ih _ trivial))))))
theorem weightG_ok {kd : Int32} (hk : ¬ kd = 4) (sz : Int32) : OK (mX6_weightG kd sz) (fun _ => True) := OK_ite (fun _ => OK_some trivial) (fun _ => OK_ite (fun _ => OK_some trivial) (fun _ => OK_ite (fun _ => OK_some trivial) (fun _ => OK_F hk (OK_some trivial))))
theorem saboutG_ok {kd sz mk n : Int32} (h : SV kd sz mk n) (hk : ¬ kd = 4) (wh sd : Int32) (kc : Nat → Int32) : OK (mX8_aboutG wh kd sz mk sd kc n) (fun _ => True) := by
  unfold mX8_aboutG
  exact OK_ite (fun _ => OK_some trivial) (fun _ => OK_ite (fun _ => OK_some trivial) (fun _ => OK_ite (fun _ => OK_some trivial) (fun _ => OK_ite (fun _ => OK_some trivial) (fun _ => OK_ite (fun _ => OK_be rfl (OK_some trivial)) (fun _ => OK_ite (fun _ => OK_bind (weightG_ok hk _) (fun _ _ => OK_some trivial)) (fun _ => OK_ite (fun _ => OK_bind (filledG_ok hk (SV_PZ h) kc) (fun _ _ => OK_some trivial)) (fun _ => OK_some trivial)))))))
theorem filledL_ok {kd sz : Int32} (h : PZ kd sz) (kc : Nat → Int32) (rn : Int32) : OK (mX6_filledL kd sz kc rn) (fun _ => True) := by
  obtain ⟨q, hq, e⟩ := h
  unfold mX6_filledL
  refine OK_ite (fun _ => OK_be rfl (OK_some trivial)) (fun _ => OK_bind (P := fun _ => True) ?_ (fun _ _ => OK_some trivial))
  refine OK_for (fun fu k (x : Int32) => mX6_filledL_L31 kd sz kc fu k x) q hq (fun _ _ => True) _ trivial ?_ ?_
  · intro fu x _
    show OK (mX6_filledL_L31 kd sz kc (fu + 1) (nI q) x) _
    rw [mX6_filledL_L31]
    exact OK_be e (OK_T (Int32.le_refl _) (OK_some trivial))
  · intro fu k x hk _ ih
    show OK (mX6_filledL_L31 kd sz kc (fu + 1) (nI k) x) _
    rw [mX6_filledL_L31, nI_s]
    exact OK_be e (OK_F (nI_ge hk (by omega)) (OK_bind (cell_ok _ _) (fun _ _ => OK_ite (fun _ => ih _ trivial) (fun _ => ih _ trivial))))
theorem weightL_ok {lc rn : Int32} {lz : Nat → Int32} (hl : LN lc rn lz) (kd sz : Int32) : OK (mX6_weightL kd sz lc rn lz) (fun _ => True) := OK_ite (fun _ => OK_some trivial) (fun _ => OK_ite (fun _ => OK_some trivial) (fun _ => OK_ite (fun _ => OK_some trivial) (fun _ => OK_ite (fun _ => OK_bind (lweight_ok hl) (fun _ _ => OK_some trivial)) (fun _ => OK_some trivial))))
theorem saboutL_ok {kd sz mk n lc rn : Int32} {lz : Nat → Int32} (h : SV kd sz mk n) (hl : LN lc rn lz) (wh sd : Int32) (kc : Nat → Int32) : OK (mX8_aboutL wh kd sz mk sd kc n lc rn lz) (fun _ => True) := by
  unfold mX8_aboutL
  exact OK_ite (fun _ => OK_some trivial) (fun _ => OK_ite (fun _ => OK_some trivial) (fun _ => OK_ite (fun _ => OK_some trivial) (fun _ => OK_ite (fun _ => OK_some trivial) (fun _ => OK_ite (fun _ => OK_be rfl (OK_some trivial)) (fun _ => OK_ite (fun _ => OK_bind (weightL_ok hl _ _) (fun _ _ => OK_some trivial)) (fun _ => OK_ite (fun _ => OK_bind (filledL_ok (SV_PZ h) kc _) (fun _ _ => OK_some trivial)) (fun _ => OK_some trivial)))))))
theorem slayerL_ok {lc rn : Int32} {lz : Nat → Int32} (hl : LN lc rn lz) (i wh kd : Int32) (kca : Nat → Int32) (ld : Nat → Nat → Int64) : OK (mX8_layerL i wh kd lc kca lz ld) (fun _ => True) := by
  unfold mX8_layerL
  exact OK_ite (fun _ => OK_some trivial) (fun _ => OK_ite (fun _ => OK_ite (fun _ => OK_bind (factF_ok hl _ _ _ _) (fun _ _ => OK_some trivial)) (fun _ => OK_some trivial)) (fun _ => OK_some trivial))
theorem slayerG_ok {kd : Int32} (hk : ¬ kd = 4) (wh : Int32) : OK (mX8_layerG wh kd) (fun _ => True) := by
  unfold mX8_layerG
  exact OK_ite (fun _ => OK_some trivial) (fun _ => OK_ite (fun _ => OK_F hk (OK_some trivial)) (fun _ => OK_some trivial))
theorem sputAllG_ok {kd sz mk n wn : Int32} (h : SV kd sz mk n) (hw : BN wn) (wv : Nat → Int64) (sd : Int32) (kc : Nat → Int32) (v : Nat → Int64) : OK (mX8_putAllG wn wv kd sz mk sd kc n v) (fun z => SV kd sz mk z.2.2.1) := by
  unfold mX8_putAllG
  refine OK_bind (open_ok _) (fun _ _ => OK_ite (fun _ => OK_some h) (fun _ => OK_bind (P := fun o => (∀ x, o = .inl x → SV kd sz mk x.2.2.1) ∧ ∀ x, o = .inr x → SV kd sz mk x.2.2.1) ?_ (fun o ho => OK_sum (fun x hx => OK_some (ho.1 x hx)) (fun x hx => OK_be rfl (OK_some (ho.2 x hx))))))
  have hw2 := hw
  obtain ⟨N, hN, en⟩ := hw2
  refine OK_for (fun fu k (x : (Nat → Int32) × Int32 × (Nat → Int64)) => mX8_putAllG_L37 wn wv kd sz mk sd fu k x.1 x.2.1 x.2.2) N (by omega) (fun _ x => BN x.2.1) _ (s := (kc, n, v)) h.2.1 ?_ ?_
  · rintro fu ⟨x1, x2, x3⟩ hx
    show OK (mX8_putAllG_L37 wn wv kd sz mk sd (fu + 1) (nI N) x1 x2 x3) _
    rw [mX8_putAllG_L37]
    exact OK_be rfl (OK_T (by rw [en]; exact Int32.le_refl _) (OK_some ⟨fun x q => (nomatch q), fun x q => by injection q with q; subst q; exact SV_n h hx⟩))
  · rintro fu k ⟨x1, x2, x3⟩ hk2 hx ih
    show OK (mX8_putAllG_L37 wn wv kd sz mk sd (fu + 1) (nI k) x1 x2 x3) _
    rw [mX8_putAllG_L37, nI_s]
    exact OK_be rfl (OK_F (by rw [en]; exact nI_ge hk2 (by omega)) (OK_bind (at_ok hw _ _) (fun _ _ => OK_bind (senter_ok h.1 hx _ _ _ _ _ _) (fun z hz => OK_ite (fun _ => ih (z.2.1, z.2.2.1, z.2.2.2) hz) (fun _ => OK_some ⟨fun x q => by injection q with q; subst q; exact SV_n h hz, fun x q => nomatch q⟩)))))
theorem sfewest_ok {wn un : Int32} (hw : BN wn) (hu : BN un) (mo sd : Int32) (wv uv : Nat → Int64) (rin : Int32) (riv : Nat → Int64) (ic rc : Int32) (vim vrm : Nat → Int64) (z0 : Int32) (vbw : Nat → Int64) : OK (mX8_fewest mo sd wn wv un uv rin riv ic rc vim vrm z0 vbw) (fun _ => True) := by
  unfold mX8_fewest
  refine OK_ite (fun _ => OK_some trivial) (fun _ => OK_ite (fun _ => OK_bind (without_ok hu hw _ _ _) (fun z hz => OK_bind (cbegin_ok hw hz _ _ _ _ _) (fun y hy => OK_bind (choose_ok (by rw [hy.1]; exact hw) (by rw [hy.2]; exact hz) _ _ _ _ _) (fun _ _ => OK_some trivial)))) (fun _ => OK_some trivial))
