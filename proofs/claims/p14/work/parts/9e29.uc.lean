/-! ===== LAYERED: all layers, one run of both ===== -/
noncomputable def lyB (sd : Int32) : Nat → Nat → Nat → (Nat → Int64) → Nat → (Nat → Int64) → (Nat → Nat) → (Nat → Nat → Int64) → Nat × (Nat → Nat) × (Nat → Nat → Int64) × Nat × (Nat → Int64)
  | 0, i, _, _, _, _, N_, V_ => (i, N_, V_, 0, fun _ => 0)
  | d + 1, i, n, cv, m, rw1, N_, V_ => if (fq (fL n cv (sd + nI i) (szA n) 3) rw1 m).1 = 0 then (i + 1, va_up N_ i n, va_up V_ i cv, 0, fun _ => 0) else if d = 0 ∨ (1 ≤ i ∧ (fq (fL n cv (sd + nI i) (szA n) 3) rw1 m).1 = N_ (i - 1)) then (i + 1, va_up N_ i n, va_up V_ i cv, (fq (fL n cv (sd + nI i) (szA n) 3) rw1 m).1, (fq (fL n cv (sd + nI i) (szA n) 3) rw1 m).2) else lyB sd d (i + 1) (fq (fL n cv (sd + nI i) (szA n) 3) rw1 m).1 (fq (fL n cv (sd + nI i) (szA n) 3) rw1 m).2 n cv (va_up N_ i n) (va_up V_ i cv)
theorem lyB_0 {sd : Int32} {d i n m : Nat} {cv rw1 : Nat → Int64} {N_ : Nat → Nat} {V_ : Nat → Nat → Int64} {F : Nat × (Nat → Int64)} (hF : fq (fL n cv (sd + nI i) (szA n) 3) rw1 m = F) (q : F.1 = 0) : lyB sd (d + 1) i n cv m rw1 N_ V_ = (i + 1, va_up N_ i n, va_up V_ i cv, 0, fun _ => 0) := by
  subst hF
  exact if_pos q
theorem lyB_r {sd : Int32} {d i n m : Nat} {cv rw1 : Nat → Int64} {N_ : Nat → Nat} {V_ : Nat → Nat → Int64} {F : Nat × (Nat → Int64)} (hF : fq (fL n cv (sd + nI i) (szA n) 3) rw1 m = F) (q : ¬ F.1 = 0) (w : d = 0 ∨ (1 ≤ i ∧ F.1 = N_ (i - 1))) : lyB sd (d + 1) i n cv m rw1 N_ V_ = (i + 1, va_up N_ i n, va_up V_ i cv, F.1, F.2) := by
  subst hF
  exact (if_neg q).trans (if_pos w)
theorem lyB_s {sd : Int32} {d i n m : Nat} {cv rw1 : Nat → Int64} {N_ : Nat → Nat} {V_ : Nat → Nat → Int64} {F : Nat × (Nat → Int64)} (hF : fq (fL n cv (sd + nI i) (szA n) 3) rw1 m = F) (q : ¬ F.1 = 0) (w : ¬ (d = 0 ∨ (1 ≤ i ∧ F.1 = N_ (i - 1)))) : lyB sd (d + 1) i n cv m rw1 N_ V_ = lyB sd d (i + 1) F.1 F.2 n cv (va_up N_ i n) (va_up V_ i cv) := by
  subst hF
  exact (if_neg q).trans (if_neg w)
/-! the class -/
def LyC (sd : Int32) (i : Nat) (N_ : Nat → Nat) (V_ : Nat → Nat → Int64) (kca lz : Nat → Int32) (ld : Nat → Nat → Int64) : Prop := ∀ j, j < i → N_ j ≤ 1000 ∧ kca j = nI (N_ j) ∧ lz j = nI (2 ^ szA (N_ j)) ∧ ∀ p, p < 4096 → (bts (ld j) p = true ↔ fS (N_ j) (V_ j) (sd + nI j) (szA (N_ j)) 3 p)
theorem LyC_add {sd : Int32} {i n : Nat} {N_ : Nat → Nat} {V_ : Nat → Nat → Int64} {kca lz : Nat → Int32} {ld : Nat → Nat → Int64} (h : LyC sd i N_ V_ kca lz ld) (hn : n ≤ 1000) {cv dw : Nat → Int64} (hb : ∀ p, p < 4096 → (bts dw p = true ↔ fS n cv (sd + nI i) (szA n) 3 p)) : LyC sd (i + 1) (va_up N_ i n) (va_up V_ i cv) (upd kca i (nI n)) (upd lz i (nI (2 ^ szA n))) (va_up ld i dw) := by
  intro j hj
  by_cases e : j = i
  · rw [e, va_up_self, va_up_self, va_up_self, ups, ups]
    exact ⟨hn, rfl, rfl, hb⟩
  · rw [va_up_ne _ _ e, va_up_ne _ _ e, va_up_ne _ _ e, upo e, upo e]
    exact h j (by omega)
theorem restB_x {i d : Nat} (hi : i + (d + 1) = 20) {kca : Nat → Int32} {N_ : Nat → Nat} (hk : ∀ j, j < i → N_ j ≤ 1000 ∧ kca j = nI (N_ j)) (n : Nat) {b : Nat} (hb : b ≤ 1000) : OK (mX3_isRestBehind (upd kca i (nI n)) (nI i) (nI b)) (fun w => (w = 1 ∧ (d = 0 ∨ (1 ≤ i ∧ b = N_ (i - 1)))) ∨ (w = 0 ∧ ¬ (d = 0 ∨ (1 ≤ i ∧ b = N_ (i - 1))))) := by
  unfold mX3_isRestBehind
  rw [nI_s]
  refine OK_ite (fun q => OK_some (Or.inl ⟨rfl, Or.inl ?_⟩)) (fun q => ?_)
  · have := (nI_leI (a := 20) (b := i + 1) (by decide) (by omega)).mp q
    omega
  · have hd : ¬ d = 0 := fun e => q (nI_le (a := 20) (by omega) (by omega))
    refine OK_ite (fun q1 => OK_some (Or.inr ⟨rfl, fun w => ?_⟩)) (fun q1 => ?_)
    · have h1 : i < 1 := Nat.lt_of_not_le (fun w1 => absurd q1 (Int32.not_lt.mpr (nI_le (a := 1) w1 (by omega))))
      rcases w with w | w
      · exact hd w
      · omega
    · have hi1 : 1 ≤ i := Nat.le_of_not_lt (fun w => q1 (nI_lt (b := 1) w (by decide)))
      obtain ⟨k1, k2⟩ := hk (i - 1) (by omega)
      rw [show nI i - (1 : Int32) = nI (i - 1) from pk_sub (b := 1) hi1, clN (k := i - 1) (by omega), upo (show i - 1 ≠ i by omega), k2]
      refine OK_T (ix_nI (by omega)) (OK_ite (fun r => OK_some (Or.inl ⟨rfl, Or.inr ⟨hi1, (nI_eq (by omega) (by omega)).mp r⟩⟩)) (fun r => OK_some (Or.inr ⟨rfl, fun w => ?_⟩)))
      rcases w with w | w
      · exact hd w
      · exact r (by rw [w.2])
def LyZ (sd : Int32) (r : Nat × (Nat → Nat) × (Nat → Nat → Int64) × Nat × (Nat → Int64)) (lc lsd : Int32) (kca : Nat → Int32) (rn : Int32) (rv : Nat → Int64) (lz : Nat → Int32) (ld : Nat → Nat → Int64) : Prop := r.1 ≤ 20 ∧ lc = nI r.1 ∧ lsd = sd ∧ LyC sd r.1 r.2.1 r.2.2.1 kca lz ld ∧ r.2.2.2.1 ≤ 1000 ∧ rn = nI r.2.2.2.1 ∧ AG r.2.2.2.1 rv r.2.2.2.2 ∧ rising rv r.2.2.2.1
theorem build_x (nsd : Int32) (rv : Nat → Int64) : ∀ (d i fu : Nat), i + d = 20 → 0 < d → d < fu → ∀ (n m : Nat) (cv rw1 : Nat → Int64) (N_ : Nat → Nat) (V_ : Nat → Nat → Int64) (kca lz : Nat → Int32) (ld : Nat → Nat → Int64) (iV rV : Nat → Int64) (tN : Int32) (tV : Nat → Int64), n ≤ 1000 → m ≤ 1000 → rising cv n → rising rw1 m → AG n iV cv → AG m rV rw1 → LyC nsd i N_ V_ kca lz ld → OK (mX3_build_L30 nsd 0 rv fu (nI i) (nI i) kca lz ld (nI n) iV (nI m) rV tN tV) (fun z => LyZ nsd (lyB nsd d i n cv m rw1 N_ V_) z.1 z.2.1 z.2.2.1 z.2.2.2.1 z.2.2.2.2.1 z.2.2.2.2.2.1 z.2.2.2.2.2.2) := by
  intro d
  induction d with
  | zero =>
    intro i fu hi h0
    exact absurd h0 (by decide)
  | succ d ih =>
    intro i fu hi h0 hf n m cv rw1 N_ V_ kca lz ld iV rV tN tV hn hm hc hr hV hW hC
    obtain ⟨fu, rfl⟩ : ∃ q, fu = q + 1 := ⟨fu - 1, by omega⟩
    have hi20 : i < 20 := by omega
    rw [mX3_build_L30]
    refine OK_F (nI_ge (b := 20) hi20 (by decide)) (OK_T (ix_nI hi20) (OK_bind (addLayer_x hi20 hn _ _ _ _) ?_))
    rintro z ⟨e1, e2, e3, e4⟩
    rw [show Int32.toNatClampNeg (nI i) = i from clN (by omega), e3, e2, e1]
    refine OK_T (ix_nI hi20) ?_
    rw [ups, va_up_self]
    have hb : ∀ p, p < 4096 → (bts z.2.2.2 p = true ↔ fS n cv (nsd + nI i) (szA n) 3 p) := fun p hp => (e4 p hp).trans ⟨fS_ext hV, fS_ext (AG_s hV)⟩
    have hPx : ∀ x, (∀ j, j < 3 → bts z.2.2.2 (fP x (nsd + nI i) (szA n) j) = true) ↔ fL n cv (nsd + nI i) (szA n) 3 x := fun x => ⟨fun h j hj => (hb _ (fP_lt4 _ _ _ _)).mp (h j hj), fun h j hj => (hb _ (fP_lt4 _ _ _ _)).mpr (h j hj)⟩
    have hL := LyC_add hC hn hb
    refine OK_bind (sift_x hi20 (szA_le n).2 hm nsd z.2.2.2 rV tV hPx) ?_
    rintro y ⟨y1, y2⟩
    rw [fq_ext (fun _ => Iff.rfl) hW] at y1 y2
    obtain ⟨F, hF⟩ : ∃ F, fq (fL n cv (nsd + nI i) (szA n) 3) rw1 m = F := ⟨_, rfl⟩
    rw [hF] at y1 y2
    have hle : F.1 ≤ m := by rw [← hF]; exact fq_le _ _ _
    have hris : rising F.2 F.1 := by rw [← hF]; exact (fq_ris hr).1
    rw [y1]
    refine OK_be rfl (OK_ite (fun q => OK_some ?_) (fun q => OK_be rfl (OK_bind (restB_x (n := n) hi (fun j hj => ⟨(hC j hj).1, (hC j hj).2.1⟩) (show F.1 ≤ 1000 by omega)) ?_)))
    · have q0 : F.1 = 0 := (nI_eq (b := 0) (by omega) (by decide)).mp q
      rw [lyB_0 hF q0]
      exact ⟨by show i + 1 ≤ 20; omega, rfl, rfl, hL, Nat.zero_le _, rfl, fun k hk => absurd hk (Nat.not_lt_zero k), fun k j _ hj => absurd hj (Nat.not_lt_zero j)⟩
    · have q0 : ¬ F.1 = 0 := fun e => q (by rw [e]; rfl)
      rintro w (⟨rfl, hw⟩ | ⟨rfl, hw⟩)
      · refine OK_F (by decide) (OK_be (bag_cpy (show F.1 ≤ 1000 by omega)) (OK_some ?_))
        rw [lyB_r hF q0 hw]
        have hA : AG F.1 (va_cpy y.2 rv 0 0 F.1) F.2 := AG_t (AG_cpy y.2 rv) y2
        exact ⟨by show i + 1 ≤ 20; omega, rfl, rfl, hL, by show F.1 ≤ 1000; omega, rfl, hA, AG_ris hA hris⟩
      · refine OK_T rfl ?_
        rw [nI_s, lyB_s hF q0 hw]
        have hd : 0 < d := Nat.pos_of_ne_zero (fun e => hw (Or.inl e))
        exact ih (i + 1) fu (by omega) hd (by omega) F.1 n F.2 cv _ _ _ _ _ y.2 iV _ _ (by omega) hn hris hc y2 hV hL
/-! the reference -/
def LyR (s : Nat) (sd : Int32) (i : Nat) (N_ : Nat → Nat) (V_ : Nat → Nat → Int64) (vLC vL vB : Nat → Int32) : Prop := ∀ j, j < i → N_ j ≤ 1000 ∧ vLC (20 * s + j) = nI (N_ j) ∧ vL (20 * s + j) = nI (2 ^ szA (N_ j)) ∧ ∀ p, p < 2 ^ szA (N_ j) → (rbt vB (20 * s + j) p = true ↔ fS (N_ j) (V_ j) (sd + nI j) (szA (N_ j)) 3 p)
theorem LyR_add {s : Nat} {sd : Int32} {i n : Nat} {N_ : Nat → Nat} {V_ : Nat → Nat → Int64} {vLC vL vB b : Nat → Int32} (h : LyR s sd i N_ V_ vLC vL vB) (hn : n ≤ 1000) {cv : Nat → Int64} (hF : BkF (20 * s + i) vB b) (hb : ∀ p, p < 2 ^ szA n → (rbt b (20 * s + i) p = true ↔ fS n cv (sd + nI i) (szA n) 3 p)) : LyR s sd (i + 1) (va_up N_ i n) (va_up V_ i cv) (upd vLC (20 * s + i) (nI n)) (upd vL (20 * s + i) (nI (2 ^ szA n))) b := by
  intro j hj
  by_cases e : j = i
  · rw [e, va_up_self, va_up_self, ups, ups]
    exact ⟨hn, rfl, rfl, hb⟩
  · rw [va_up_ne _ _ e, va_up_ne _ _ e, upo (show 20 * s + j ≠ 20 * s + i by omega), upo (show 20 * s + j ≠ 20 * s + i by omega)]
    obtain ⟨h1, h2, h3, h4⟩ := h j (by omega)
    refine ⟨h1, h2, h3, fun p hp => ?_⟩
    have := szA_pow (N_ j)
    rw [rbt_fr (show 20 * s + j ≠ 20 * s + i by omega) hF (show p < 4096 by omega)]
    exact h4 p hp
/-- nothing of the other sieves' layers changes -/
def LFr (s : Nat) (vZ vB vL vLC : Nat → Int32) (vRe : Nat → Int64) (vR wZ wB wL wC : Nat → Int32) (re : Nat → Int64) (wR : Nat → Int32) : Prop := (∀ q, q ≠ s → wZ q = vZ q ∧ wR q = vR q) ∧ (∀ q, (q < 20 * s ∨ 20 * s + 20 ≤ q) → wL q = vL q ∧ wC q = vLC q) ∧ (∀ r, (r < 2560 * s ∨ 2560 * s + 2560 ≤ r) → wB r = vB r) ∧ ∀ r, (r < 1000 * s ∨ 1000 * s + 1000 ≤ r) → re r = vRe r
theorem LFr_r (s : Nat) (vZ vB vL vLC : Nat → Int32) (vRe : Nat → Int64) (vR : Nat → Int32) : LFr s vZ vB vL vLC vRe vR vZ vB vL vLC vRe vR := ⟨fun _ _ => ⟨rfl, rfl⟩, fun _ _ => ⟨rfl, rfl⟩, fun _ _ => rfl, fun _ _ => rfl⟩
theorem LFr_lay {s i : Nat} (hi : i < 20) {vZ vB vL vLC : Nat → Int32} {vRe : Nat → Int64} {vR wZ wB wL wC : Nat → Int32} {re : Nat → Int64} {wR b : Nat → Int32} (h : LFr s vZ vB vL vLC vRe vR wZ wB wL wC re wR) (hF : BkF (20 * s + i) wB b) (x y z : Int32) : LFr s vZ vB vL vLC vRe vR (upd wZ s x) b (upd wL (20 * s + i) y) (upd wC (20 * s + i) z) re wR := by
  obtain ⟨h1, h2, h3, h4⟩ := h
  refine ⟨fun q hq => ⟨(upo hq).trans (h1 q hq).1, (h1 q hq).2⟩, fun q hq => ⟨(upo (by omega)).trans (h2 q hq).1, (upo (by omega)).trans (h2 q hq).2⟩, fun r hr => (hF r (by omega)).trans (h3 r hr), h4⟩
def LyW (s : Nat) (sd : Int32) (vZ vB vL vLC : Nat → Int32) (vRe : Nat → Int64) (vR : Nat → Int32) (r : Nat × (Nat → Nat) × (Nat → Nat → Int64) × Nat × (Nat → Int64)) (wZ wB wL wC : Nat → Int32) (re : Nat → Int64) (wR : Nat → Int32) : Prop := r.1 ≤ 20 ∧ wZ s = nI r.1 ∧ LyR s sd r.1 r.2.1 r.2.2.1 wC wL wB ∧ wR s = nI r.2.2.2.1 ∧ (∀ k, k < r.2.2.2.1 → re (1000 * s + k) = r.2.2.2.2 k) ∧ LFr s vZ vB vL vLC vRe vR wZ wB wL wC re wR
theorem rest203 {n s : Nat} (hn : n ≤ 1000) (hs : s < 30) (zz : Int32 × Int32 × (Nat → Int32) × (Nat → Int32) × (Nat → Int32) × (Nat → Int32) × (Nat → Int32) × (Nat → Int32) × (Nat → Int32)) (ez : zz.1 = nI s) (co re : Nat → Int64) : OK (mX9_layered_L203 zz (nI n) co FU 0 re) (fun z => (∀ k, k < n → z.2 (1000 * s + k) = co k) ∧ ∀ r, (r < 1000 * s ∨ 1000 * s + 1000 ≤ r) → z.2 r = re r) := by
  refine OK_for (fun fu k (x : Nat → Int64) => mX9_layered_L203 zz (nI n) co fu k x) n (by omega) (fun k x => (∀ j, j < k → x (1000 * s + j) = co j) ∧ ∀ r, (r < 1000 * s ∨ 1000 * s + 1000 ≤ r) → x r = re r) _ (s := re) ⟨fun j hj => absurd hj (Nat.not_lt_zero j), fun _ _ => rfl⟩ ?_ ?_
  · intro fu x hx
    show OK (mX9_layered_L203 zz (nI n) co (fu + 1) (nI n) x) _
    rw [mX9_layered_L203]
    exact OK_T (Int32.le_refl _) (OK_some hx)
  · rintro fu k x hk ⟨h1, h2⟩ ih
    show OK (mX9_layered_L203 zz (nI n) co (fu + 1) (nI k) x) _
    rw [mX9_layered_L203, ez, m1000, nI_s, clN (k := k) (by omega), clN (k := 1000 * s + k) (by omega)]
    refine OK_F (nI_ge hk (by omega)) (OK_T (ix_nI (by omega)) (OK_T (ix_nI (by omega)) (ih _ ⟨fun j hj => ?_, fun r hr => ?_⟩)))
    · by_cases e : j = k
      · rw [e, pk_uLs]
      · rw [pk_uLn (show 1000 * s + j ≠ 1000 * s + k by omega)]
        exact h1 j (by omega)
    · rw [pk_uLn (show r ≠ 1000 * s + k by omega)]
      exact h2 r hr
theorem copy335 {n : Nat} (hn : n ≤ 1000) (co ri : Nat → Int64) : OK (mX9_layered_L335 (nI n) co FU 0 ri) (fun z => AG n z.2 co) := by
  refine OK_for (fun fu k (x : Nat → Int64) => mX9_layered_L335 (nI n) co fu k x) n (by omega) (fun k x => AG k x co) _ (s := ri) (fun j hj => absurd hj (Nat.not_lt_zero j)) ?_ ?_
  · intro fu x hx
    show OK (mX9_layered_L335 (nI n) co (fu + 1) (nI n) x) _
    rw [mX9_layered_L335]
    exact OK_T (Int32.le_refl _) (OK_some hx)
  · intro fu k x hk hx ih
    show OK (mX9_layered_L335 (nI n) co (fu + 1) (nI k) x) _
    rw [mX9_layered_L335, nI_s, clN (k := k) (by omega)]
    refine OK_F (nI_ge hk (by omega)) (OK_T (ix_nI (by omega)) (OK_T (ix_nI (by omega)) (ih _ (fun j hj => ?_))))
    by_cases e : j = k
    · rw [e, pk_uLs]
    · rw [pk_uLn e]
      exact hx j (by omega)
theorem copy369 {n : Nat} (hn : n ≤ 1000) (o : Int32 × Int32 × (Nat → Int64)) (eo : o.2.1 = nI n) (co : Nat → Int64) : OK (mX9_layered_L369 o FU 0 co) (fun z => AG n z.2 o.2.2) := by
  refine OK_for (fun fu k (x : Nat → Int64) => mX9_layered_L369 o fu k x) n (by omega) (fun k x => AG k x o.2.2) _ (s := co) (fun j hj => absurd hj (Nat.not_lt_zero j)) ?_ ?_
  · intro fu x hx
    show OK (mX9_layered_L369 o (fu + 1) (nI n) x) _
    rw [mX9_layered_L369, eo]
    exact OK_T (Int32.le_refl _) (OK_some hx)
  · intro fu k x hk hx ih
    show OK (mX9_layered_L369 o (fu + 1) (nI k) x) _
    rw [mX9_layered_L369, eo, nI_s, clN (k := k) (by omega)]
    refine OK_F (nI_ge hk (by omega)) (OK_T (ix_nI (by omega)) (OK_T (ix_nI (by omega)) (ih _ (fun j hj => ?_))))
    by_cases e : j = k
    · rw [e, pk_uLs]
    · rw [pk_uLn e]
      exact hx j (by omega)
theorem layered_dn {fu : Nat} (zz : Int32 × Int32 × (Nat → Int32) × (Nat → Int32) × (Nat → Int32) × (Nat → Int32) × (Nat → Int32) × (Nat → Int32) × (Nat → Int32)) (x8 x6 x5 : Int32) (wZ wB wL wC : Nat → Int32) (re : Nat → Int64) (wR : Nat → Int32) (co ri go : Nat → Int64) {Q : (Nat → Int32) → (Nat → Int32) → (Nat → Int32) → (Nat → Int32) → (Nat → Int64) → (Nat → Int32) → Prop} (h : Q wZ wB wL wC re wR) : OK (mX9_layered_L162 zz (fu + 1) x8 0 x6 x5 wZ wB wL wC re wR co ri go) (fun z => Q z.2.2.2.2.1 z.2.2.2.2.2.1 z.2.2.2.2.2.2.1 z.2.2.2.2.2.2.2.1 z.2.2.2.2.2.2.2.2.1 z.2.2.2.2.2.2.2.2.2.1) := by
  rw [mX9_layered_L162]
  exact OK_T rfl (OK_some h)
