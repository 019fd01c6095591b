/-! ===== the reference: fewest; things, thing ===== -/
theorem fl_wipe {a : Nat} (ha : a ≤ 12) (al : Nat → Int32) : OK (mX9_falselyLet_L3 (nI (2 ^ a)) FU 0 al) (fun _ => True) := by
  have hp := pow_up ha
  refine OK_for (fun fu k (x : Nat → Int32) => mX9_falselyLet_L3 (nI (2 ^ a)) fu k x) (2 ^ a) (by omega) (fun _ _ => True) _ trivial ?_ ?_
  · intro fu x _
    show OK (mX9_falselyLet_L3 (nI (2 ^ a)) (fu + 1) (nI (2 ^ a)) x) _
    rw [mX9_falselyLet_L3]
    exact OK_T (Int32.le_refl _) (OK_some trivial)
  · intro fu k x hk _ ih
    show OK (mX9_falselyLet_L3 (nI (2 ^ a)) (fu + 1) (nI k) x) _
    rw [mX9_falselyLet_L3, nI_s]
    exact OK_F (nI_ge hk (by omega)) (OK_T (ix_nI (by omega)) (ih _ trivial))
theorem fl_set {a m : Nat} (ha : a ≤ 12) (hm : m ≤ 8) (mx : Int64) (al : Nat → Int32) : OK (mX9_falselyLet_L60 (nI (2 ^ a)) (nI m) mx FU 0 al) (fun _ => True) := by
  have hp := pow_up ha
  have h0 : 0 < 2 ^ a := Nat.two_pow_pos a
  refine OK_for (fun fu k (x : Nat → Int32) => mX9_falselyLet_L60 (nI (2 ^ a)) (nI m) mx fu k x) m (by omega) (fun _ _ => True) _ trivial ?_ ?_
  · intro fu x _
    show OK (mX9_falselyLet_L60 (nI (2 ^ a)) (nI m) mx (fu + 1) (nI m) x) _
    rw [mX9_falselyLet_L60]
    exact OK_T (Int32.le_refl _) (OK_some trivial)
  · intro fu k x hk _ ih
    show OK (mX9_falselyLet_L60 (nI (2 ^ a)) (nI m) mx (fu + 1) (nI k) x) _
    rw [mX9_falselyLet_L60, nI_s]
    have hq : mkN (nM mx) k % 2 ^ a < 2 ^ a := Nat.mod_lt _ h0
    exact OK_F (nI_ge hk (by omega)) (OK_be (mp_r mx (by omega) h0 (by omega)) (OK_T (ix_nI (by omega)) (ih _ trivial)))
theorem fl_in {a m w n : Nat} (ha : a ≤ 12) (hm : m ≤ 8) (hw : w < 8) (hn : n ≤ 1000) {vIW : Nat → Int32} (en : vIW w = nI n) (vW : Nat → Int64) (sd : Int32) (al : Nat → Int32) : OK (mX9_falselyLet_L26 vW vIW (nI w) (nI (2 ^ a)) (nI m) sd FU 0 al) (fun _ => True) := by
  refine OK_for (fun fu k (x : Nat → Int32) => mX9_falselyLet_L26 vW vIW (nI w) (nI (2 ^ a)) (nI m) sd fu k x) n (by omega) (fun _ _ => True) _ trivial ?_ ?_
  · intro fu x _
    show OK (mX9_falselyLet_L26 vW vIW (nI w) (nI (2 ^ a)) (nI m) sd (fu + 1) (nI n) x) _
    rw [mX9_falselyLet_L26, clN (k := w) (by omega), en]
    exact OK_T (ix_nI hw) (OK_T (Int32.le_refl _) (OK_some trivial))
  · intro fu k x hk _ ih
    show OK (mX9_falselyLet_L26 vW vIW (nI w) (nI (2 ^ a)) (nI m) sd (fu + 1) (nI k) x) _
    rw [mX9_falselyLet_L26, clN (k := w) (by omega), en, m1000, nI_s]
    exact OK_T (ix_nI hw) (OK_F (nI_ge hk (by omega)) (OK_T (ix_nI (by omega)) (OK_be (mix_r _ _) (OK_bind (fl_set ha hm _ _) (fun _ _ => ih _ trivial)))))
theorem fl_hit {a m : Nat} (ha : a ≤ 12) (hm : m ≤ 8) (o : Int32 × (Nat → Int32)) (mx : Int64) (x0 : Int32) : OK (mX9_falselyLet_L140 (nI (2 ^ a)) (nI m) o mx FU 0 x0) (fun _ => True) := by
  have hp := pow_up ha
  have h0 : 0 < 2 ^ a := Nat.two_pow_pos a
  refine OK_for (fun fu k (x : Int32) => mX9_falselyLet_L140 (nI (2 ^ a)) (nI m) o mx fu k x) m (by omega) (fun _ _ => True) _ trivial ?_ ?_
  · intro fu x _
    show OK (mX9_falselyLet_L140 (nI (2 ^ a)) (nI m) o mx (fu + 1) (nI m) x) _
    rw [mX9_falselyLet_L140]
    exact OK_T (Int32.le_refl _) (OK_some trivial)
  · intro fu k x hk _ ih
    show OK (mX9_falselyLet_L140 (nI (2 ^ a)) (nI m) o mx (fu + 1) (nI k) x) _
    rw [mX9_falselyLet_L140, nI_s]
    have hq : mkN (nM mx) k % 2 ^ a < 2 ^ a := Nat.mod_lt _ h0
    exact OK_F (nI_ge hk (by omega)) (OK_ite (fun _ => ih _ trivial) (fun _ => OK_be (mp_r mx (by omega) h0 (by omega)) (OK_T (ix_nI (by omega)) (OK_ite (fun _ => ih _ trivial) (fun _ => ih _ trivial)))))
theorem fl_out {a m w v n : Nat} (ha : a ≤ 12) (hm : m ≤ 8) (hv : v < 8) (hw : w < 8) (hn : n ≤ 1000) {vIW : Nat → Int32} (hb : BN (vIW v)) (en : vIW w = nI n) (vW : Nat → Int64) (sd : Int32) (o : Int32 × (Nat → Int32)) (x0 : Int32) : OK (mX9_falselyLet_L99 vW vIW (nI v) (nI w) (nI (2 ^ a)) (nI m) sd o FU 0 x0) (fun _ => True) := by
  refine OK_for (fun fu k (x : Int32) => mX9_falselyLet_L99 vW vIW (nI v) (nI w) (nI (2 ^ a)) (nI m) sd o fu k x) n (by omega) (fun _ _ => True) _ trivial ?_ ?_
  · intro fu x _
    show OK (mX9_falselyLet_L99 vW vIW (nI v) (nI w) (nI (2 ^ a)) (nI m) sd o (fu + 1) (nI n) x) _
    rw [mX9_falselyLet_L99, clN (k := w) (by omega), en]
    exact OK_T (ix_nI hw) (OK_T (Int32.le_refl _) (OK_some trivial))
  · intro fu k x hk _ ih
    show OK (mX9_falselyLet_L99 vW vIW (nI v) (nI w) (nI (2 ^ a)) (nI m) sd o (fu + 1) (nI k) x) _
    rw [mX9_falselyLet_L99, clN (k := w) (by omega), en, m1000, nI_s]
    exact OK_T (ix_nI hw) (OK_F (nI_ge hk (by omega)) (OK_T (ix_nI (by omega)) (OK_lt (OK_be (mix_r _ _) (OK_bind (fl_hit ha hm _ _ _) (fun _ _ => OK_ite (fun _ => ih _ trivial) (fun _ => OK_bind (place_ok hv hb vW _) (fun _ _ => OK_ite (fun _ => ih _ trivial) (fun _ => ih _ trivial)))))))))
theorem fl_ok {a m w v : Nat} (ha : a ≤ 12) (hm : m ≤ 8) (hv : v < 8) (hw : w < 8) {vIW : Nat → Int32} (hb : ∀ j, j < 8 → BN (vIW j)) (vW : Nat → Int64) (sd : Int32) (al : Nat → Int32) : OK (mX9_falselyLet vW vIW al (nI v) (nI w) (nI (2 ^ a)) (nI m) sd) (fun _ => True) := by
  obtain ⟨n, hn, en⟩ := hb v hv
  obtain ⟨n2, hn2, en2⟩ := hb w hw
  unfold mX9_falselyLet
  exact OK_bind (fl_wipe ha _) (fun _ _ => OK_bind (fl_in ha hm hv hn en vW sd _) (fun _ _ => OK_bind (fl_out ha hm hv hw hn2 (hb v hv) en2 vW sd _ _) (fun _ _ => OK_some trivial)))
theorem few_in {a w v : Nat} (ha : a ≤ 12) (hv : v < 8) (hw : w < 8) {vIW : Nat → Int32} (hb : ∀ j, j < 8 → BN (vIW j)) (vW : Nat → Int64) (sd : Int32) (x6 x5 : Int32) (al : Nat → Int32) : OK (mX9_fewest_L50 vW vIW (nI v) (nI w) sd (nI (2 ^ a)) FU 1 x6 x5 al) (fun _ => True) := by
  refine OK_up (fun fu k (x : Int32 × Int32 × (Nat → Int32)) => mX9_fewest_L50 vW vIW (nI v) (nI w) sd (nI (2 ^ a)) fu k x.1 x.2.1 x.2.2) 9 (fun _ _ => True) _ ?_ ?_ 8 1 (x6, x5, al) FU rfl trivial (by decide)
  · rintro fu ⟨y1, y2, y3⟩ _
    show OK (mX9_fewest_L50 vW vIW (nI v) (nI w) sd (nI (2 ^ a)) (fu + 1) (nI 9) y1 y2 y3) _
    rw [mX9_fewest_L50]
    exact OK_T (by decide) (OK_some trivial)
  · rintro fu k ⟨y1, y2, y3⟩ hk _ ih
    show OK (mX9_fewest_L50 vW vIW (nI v) (nI w) sd (nI (2 ^ a)) (fu + 1) (nI k) y1 y2 y3) _
    rw [mX9_fewest_L50, nI_s]
    exact OK_F (fun q => absurd q (Int32.not_lt.mpr (nI_le (b := 8) (by omega) (by decide)))) (OK_bind (fl_ok ha (by omega) hv hw hb vW sd _) (fun z _ => OK_ite (fun _ => ih (y1, y2, z.2) trivial) (fun _ => ih (z.1, _, z.2) trivial)))
theorem few_out {w v : Nat} (hv : v < 8) (hw : w < 8) {vIW : Nat → Int32} (hb : ∀ j, j < 8 → BN (vIW j)) (vW : Nat → Int64) (sd mo : Int32) (hmo : mo ≤ 4096) : ∀ (d a fu : Nat), a + d = 13 → d < fu → ∀ (x6 x5 : Int32) (al : Nat → Int32), OK (mX9_fewest_L41 vW vIW (nI v) (nI w) mo sd fu (nI (2 ^ a)) x6 x5 al) (fun _ => True) := by
  intro d
  induction d with
  | zero =>
    intro a fu ha hf x6 x5 al
    obtain ⟨fu, rfl⟩ : ∃ q, fu = q + 1 := ⟨fu - 1, by omega⟩
    obtain rfl : a = 13 := by omega
    rw [mX9_fewest_L41]
    exact OK_T (Int32.lt_of_le_of_lt hmo (by decide)) (OK_some trivial)
  | succ d ih =>
    intro a fu ha hf x6 x5 al
    obtain ⟨fu, rfl⟩ : ∃ q, fu = q + 1 := ⟨fu - 1, by omega⟩
    have e2 : (2 : Int32) * nI (2 ^ a) = nI (2 ^ (a + 1)) := by rw [Nat.pow_succ, Nat.mul_comm]; exact pk_mul 2 (2 ^ a)
    rw [mX9_fewest_L41, e2]
    exact OK_ite (fun _ => OK_some trivial) (fun _ => OK_bind (few_in (by omega) hv hw hb vW sd _ _ _) (fun _ _ => ih (a + 1) fu (by omega) (by omega) _ _ _))
theorem rfewest_ok {many : Int32} {vIW vK vZ vM vC vR vL : Nat → Int32} (h : RI many vIW vK vZ vM vC vR vL) (vW : Nat → Int64) (al : Nat → Int32) (wi wa mo sd : Int32) : OK (mX9_fewest vW vIW al wi wa mo sd) (fun _ => True) := by
  obtain ⟨-, hw⟩ := h
  unfold mX9_fewest
  rcases isW_v wi with e | ⟨e, v, hv, rfl⟩
  · exact OK_be e (OK_T rfl (OK_some trivial))
  rcases isW_v wa with e2 | ⟨e2, w, hw8, rfl⟩
  · exact OK_be e (OK_F (by decide) (OK_be e2 (OK_T rfl (OK_some trivial))))
  exact OK_be e (OK_F (by decide) (OK_be e2 (OK_F (by decide) (OK_ite (fun _ => OK_some trivial) (fun _ => OK_ite (fun hmo => OK_bind (few_out hv hw8 hw vW sd mo hmo 10 3 FU rfl (by decide) _ _ _) (fun _ _ => OK_some trivial)) (fun _ => OK_some trivial))))))
