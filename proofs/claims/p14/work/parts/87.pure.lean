/-! ===== Solver: taking off, tries, filling ===== -/
def PlI (pl : Nat → Nat → Nat) (c : Nat) : Prop := ∀ t k, k < 3 → pl t k < 3 * c ∧ pl t k / c = k
theorem plc_ok {vo : Nat → Int64} {sd : Int32} {c : Nat} (h0 : 0 < c) : PlI (plc vo sd c) c := fun _ _ hk => ⟨plc_lt h0 hk, plc_div h0⟩
theorem takeOff_v {pl : Nat → Nat → Nat} {c n t0 : Nat} (hpl : PlI pl c) (hc : c ≤ 1258) (hn : n ≤ 1000) (ht : t0 < n) {off : Nat → Bool} (ho : off t0 = false) {pa lf bl : Nat → Int32} {sw : Nat → Int64} (hPa : PaI pl pa n) (hS : SolS pl c n off lf bl sw) :
    OK (mX7_takeOff pa lf bl (nI (3 * c)) sw (nI t0)) (fun z => SolS pl c n (offU off t0) z.1 z.2.1 z.2.2) := by
  unfold mX7_takeOff
  refine OK_bind (P := fun z => SolS pl c n (offU off t0) z.2.1 z.2.2.1 z.2.2.2) ?_ (fun z hz => OK_some hz)
  refine OK_for (fun fu i (s : (Nat → Int32) × (Nat → Int32) × (Nat → Int64)) => mX7_takeOff_L2 pa (nI (3 * c)) (nI t0) fu i s.1 s.2.1 s.2.2) 3 (by decide)
    (fun k s => (∀ p, p < 3 * c → s.1 p = nI (cnt pl c (offU off t0) n p + (if ¬ p / c < k ∧ pl t0 (p / c) = p then 1 else 0)) ∧ s.2.1 p = nI (xr pl c (offU off t0) n p ^^^ (if ¬ p / c < k ∧ pl t0 (p / c) = p then t0 else 0))) ∧ SwI c s.1 s.2.2) _ (s := (lf, bl, sw)) ?_ ?_ ?_
  · refine ⟨fun p hp => ?_, hS.2⟩
    obtain ⟨e1, e2⟩ := hS.1 p hp
    rw [cnt_off ho] at e1
    rw [xr_off ho] at e2
    simp only [ht, true_and] at e1 e2
    simp only [Nat.not_lt_zero, not_false_iff, true_and]
    exact ⟨e1, e2⟩
  · rintro fu ⟨a, b, e⟩ ⟨h1, h2⟩
    show OK (mX7_takeOff_L2 pa (nI (3 * c)) (nI t0) (fu + 1) (nI 3) a b e) _
    rw [mX7_takeOff_L2]
    refine OK_T (by decide) (OK_some ⟨fun p hp => ?_, h2⟩)
    have h3 := d3 hp
    have := h1 p hp
    simp only [h3, not_true, false_and, if_false, Nat.add_zero, Nat.xor_zero] at this
    exact this
  · rintro fu k ⟨a, b, e⟩ hk ⟨h1, h2⟩ ih
    show OK (mX7_takeOff_L2 pa (nI (3 * c)) (nI t0) (fu + 1) (nI k) a b e) _
    obtain ⟨hq, hqd⟩ := hpl t0 k hk
    rw [mX7_takeOff_L2]
    refine OK_F (nI_ge (b := 3) hk (by decide)) ?_
    rw [ix3]
    refine OK_T (ix_nI (by omega)) (OK_lt ?_)
    rw [cl_nI, hPa t0 ht k hk]
    obtain ⟨q, eq⟩ : ∃ q, q = pl t0 k := ⟨_, rfl⟩
    rw [← eq] at hq hqd ⊢
    have i1 : ix (nI q) 3774 = true := ix_nI (by omega)
    refine OK_T i1 (OK_T i1 (OK_T i1 (OK_T i1 ?_)))
    rw [cl_nI, nI_s]
    refine OK_be (note_v hc hq _ _) (ih (upd a q (a q - 1), upd b q (b q ^^^ nI t0), (if upd a q (a q - 1) q = 1 then setW e q else clrW e q)) ⟨fun p hp => ?_, fun p hp => ?_⟩)
    · show upd a q (a q - 1) p = _ ∧ upd b q (b q ^^^ nI t0) p = _
      obtain ⟨g1, g2⟩ := h1 p hp
      by_cases ep : p = q
      · subst ep
        have hA : pl t0 (p / c) = p := by rw [hqd]; exact eq.symm
        rw [if_pos ⟨by rw [hqd]; omega, hA⟩] at g1 g2
        dsimp only at g1 g2
        rw [pk_us, pk_us, g1, g2, if_neg (fun w => w.1 (by rw [hqd]; omega)), if_neg (fun w => w.1 (by rw [hqd]; omega)), nI_pred, nx_xor, Nat.xor_assoc, Nat.xor_self, Nat.xor_zero]
        exact ⟨rfl, rfl⟩
      · rw [pk_un ep, pk_un ep]
        have hiff : (¬ p / c < k + 1 ∧ pl t0 (p / c) = p) ↔ (¬ p / c < k ∧ pl t0 (p / c) = p) := by
          constructor
          · intro w; exact ⟨fun l => w.1 (Nat.lt_succ_of_lt l), w.2⟩
          · intro w
            refine ⟨fun l => ?_, w.2⟩
            have e2 : p / c = k := Nat.le_antisymm (Nat.le_of_lt_succ l) (Nat.le_of_not_lt w.1)
            have := w.2
            rw [e2, ← eq] at this
            exact ep this.symm
        simp only [hiff]
        exact ⟨g1, g2⟩
    · show bts (if upd a q (a q - 1) q = 1 then setW e q else clrW e q) p = true ↔ p < 3 * c ∧ upd a q (a q - 1) p = 1
      rw [bts_note]
      by_cases ep : p = q
      · subst ep
        rw [if_pos rfl, decide_eq_true_iff]
        exact ⟨fun w => ⟨hq, w⟩, fun w => w.2⟩
      · rw [if_neg ep, pk_un ep]
        exact h2 p hp
theorem takeAll_v {pl : Nat → Nat → Nat} {c n : Nat} (hpl : PlI pl c) (hc : c ≤ 1258) (hn : n ≤ 1000) {pa lf bl tt tp : Nat → Int32} {sw : Nat → Int64} (hPa : PaI pl pa n) (hS : SolS pl c n off0 lf bl sw) :
    OK (mX7_takeAllOff (nI n) pa lf bl (nI (3 * c)) sw tt tp) (fun z => ∃ (T P : Nat → Nat) (i : Nat), RunS pl c n T P i ∧ (∀ j, j < i → z.2.2.2.2.1 j = nI (T j) ∧ z.2.2.2.2.2 j = nI (P j)) ∧ ((z.1 = 1 ∧ i = n) ∨ (z.1 = 0 ∧ i < n ∧ ∀ p, p < 3 * c → cnt pl c (offB T i) n p ≠ 1))) := by
  unfold mX7_takeAllOff
  refine OK_bind (P := fun o => (∃ s, o = .inr s ∧ ∃ (T P : Nat → Nat), RunS pl c n T P n ∧ ∀ j, j < n → s.2.2.2.2.1 j = nI (T j) ∧ s.2.2.2.2.2 j = nI (P j)) ∨ (∃ s, o = .inl s ∧ s.1 = 0 ∧ ∃ (T P : Nat → Nat) (i : Nat), i < n ∧ RunS pl c n T P i ∧ (∀ j, j < i → s.2.2.2.2.1 j = nI (T j) ∧ s.2.2.2.2.2 j = nI (P j)) ∧ ∀ p, p < 3 * c → cnt pl c (offB T i) n p ≠ 1)) ?_ ?_
  · refine OK_for (fun fu i (s : (Nat → Int32) × (Nat → Int32) × (Nat → Int64) × (Nat → Int32) × (Nat → Int32)) => mX7_takeAllOff_L2 (nI n) pa (nI (3 * c)) fu i s.1 s.2.1 s.2.2.1 s.2.2.2.1 s.2.2.2.2) n (by omega)
      (fun i s => ∃ T P : Nat → Nat, RunS pl c n T P i ∧ SolS pl c n (offB T i) s.1 s.2.1 s.2.2.1 ∧ ∀ j, j < i → s.2.2.2.1 j = nI (T j) ∧ s.2.2.2.2 j = nI (P j)) _ (s := (lf, bl, sw, tt, tp)) ?_ ?_ ?_
    · exact ⟨fun _ => 0, fun _ => 0, fun j hj => absurd hj (by omega), hS, fun j hj => absurd hj (by omega)⟩
    · rintro fu ⟨a, b, d, e, g⟩ ⟨T, P, h1, h2, h3⟩
      show OK (mX7_takeAllOff_L2 (nI n) pa (nI (3 * c)) (fu + 1) (nI n) a b d e g) _
      rw [mX7_takeAllOff_L2]
      exact OK_T (Int32.le_refl _) (OK_some (Or.inl ⟨_, rfl, T, P, h1, h3⟩))
    · rintro fu i ⟨a, b, d, e, g⟩ hi ⟨T, P, h1, h2, h3⟩ ih
      show OK (mX7_takeAllOff_L2 (nI n) pa (nI (3 * c)) (fu + 1) (nI i) a b d e g) _
      rw [mX7_takeAllOff_L2]
      refine OK_F (nI_ge hi (by omega)) (OK_bind (br_least d) ?_)
      have hlf : ∀ p, p < 3 * c → (bts d p = true ↔ cnt pl c (offB T i) n p = 1) := fun p hp => by
        rw [h2.2 p (by omega)]
        exact ⟨fun w => (cnt_is1 hn (h2.1 p hp).1).mp w.2, fun w => ⟨hp, (cnt_is1 hn (h2.1 p hp).1).mpr w⟩⟩
      rintro r (⟨rfl, hno⟩ | ⟨p, hp, rfl, hb, hl⟩)
      · refine OK_F (by decide) (OK_some (Or.inr ⟨_, rfl, rfl, T, P, i, hi, h1, h3, fun p hp w => ?_⟩))
        have := hno p (by omega)
        rw [(hlf p hp).mpr w] at this
        exact absurd this (by decide)
      · have hp3 : p < 3 * c := ((h2.2 p hp).mp hb).1
        have hc1 := (hlf p hp3).mp hb
        obtain ⟨t, ht, hto, htp, hxr, -⟩ := cnt1 hc1
        have hbl : b p = nI t := by rw [← hxr]; exact (h2.1 p hp3).2
        have i1 : ix (nI p) 3774 = true := ix_nI (by omega)
        have i2 : ix (nI i) 1000 = true := ix_nI (by omega)
        refine OK_T (nI_pos' (by omega)) (OK_T i1 (OK_T i2 (OK_T i2 (OK_T i1 ?_))))
        rw [cl_nI, cl_nI, hbl, nI_s]
        refine OK_bind (takeOff_v hpl hc hn ht hto hPa h2) (fun z hz => ?_)
        refine ih (z.1, z.2.1, z.2.2, upd e i (nI t), upd g i (nI p)) ⟨va_up T i t, va_up P i p, RunS_add h1 ht hto hp3 htp hc1 (fun q hq w => ?_), ?_, fun j hj => ?_⟩
        · have := hl q hq
          rw [(hlf q (by omega)).mpr w] at this
          exact absurd this (by decide)
        · rw [offB_add]; exact hz
        · show upd e i (nI t) j = _ ∧ upd g i (nI p) j = _
          by_cases ej : j = i
          · subst ej; rw [pk_us, pk_us, va_up_self, va_up_self]; exact ⟨rfl, rfl⟩
          · rw [pk_un ej, pk_un ej, va_up_ne _ _ ej, va_up_ne _ _ ej]; exact h3 j (by omega)
  · rintro o (⟨s, rfl, T, P, h1, h2⟩ | ⟨s, rfl, e0, T, P, i, hi, h1, h2, h3⟩)
    · exact OK_some ⟨T, P, n, h1, h2, Or.inl ⟨rfl, rfl⟩⟩
    · exact OK_some ⟨T, P, i, h1, h2, Or.inr ⟨e0, hi, h3⟩⟩
def Solv (vo : Nat → Int64) (sd : Int32) (c n : Nat) : Prop := ∃ T P : Nat → Nat, RunS (plc vo sd c) c n T P n
theorem stuck_no {pl : Nat → Nat → Nat} {c n i : Nat} {T P : Nat → Nat} (h : RunS pl c n T P i) (hi : i < n) (hs : ∀ p, p < 3 * c → cnt pl c (offB T i) n p ≠ 1) : ¬ ∃ T2 P2 : Nat → Nat, RunS pl c n T2 P2 n := by
  rintro ⟨T2, P2, h2⟩
  have hu := RunS_uniq h (fun j hj => h2 j (by omega))
  obtain ⟨-, -, a3, -, a5, -⟩ := h2 i hi
  rw [show offB T2 i = offB T i from offB_congr (fun j hj => (hu j hj).1.symm)] at a5
  exact hs _ a3 a5
def cOf (n : Nat) : Nat := n + n / 4 + 8
theorem cOf_I {n : Nat} (hn : n ≤ 1000) : (nI n + (nI n / (4 : Int32))) + (8 : Int32) = nI (cOf n) := by
  rw [show nI n / (4 : Int32) = nI (n / 4) from pk_div (d := 4) (by omega) (by decide) (by decide), nI_add, show (8 : Int32) = nI 8 from rfl, nI_add]
  rfl
theorem cOf_b {n : Nat} (hn : n ≤ 1000) : 8 ≤ cOf n ∧ cOf n ≤ 1258 := by unfold cOf; omega
/-- what a solved try has left -/
def TryS (vo : Nat → Int64) (sd : Int32) (n : Nat) (pa ta tt tp : Nat → Int32) : Prop := PaI (plc vo sd (cOf n)) pa n ∧ (∀ t, t < n → ta t = nI (stagN (thN vo sd t))) ∧ ∃ T P : Nat → Nat, RunS (plc vo sd (cOf n)) (cOf n) n T P n ∧ ∀ j, j < n → tt j = nI (T j) ∧ tp j = nI (P j)
theorem tries_v {n : Nat} (hn : n ≤ 1000) (pa ta lf bl : Nat → Int32) (z0 : Int32) (sw : Nat → Int64) (tt tp : Nat → Int32) (vo : Nat → Int64) (sd : Int32) :
    OK (mX7_triesUntilSolved pa ta lf bl z0 sw tt tp (nI n) vo sd) (fun z => z.2.1 = nI n ∧ z.2.2.1 = nI (cOf n) ∧ ((z.1 = -1 ∧ ∀ τ, τ < 50 → ¬ Solv vo (sd + nI τ) (cOf n) n) ∨ ∃ τ, τ < 50 ∧ z.1 = nI τ ∧ (∀ σ, σ < τ → ¬ Solv vo (sd + nI σ) (cOf n) n) ∧ TryS vo (sd + nI τ) n z.2.2.2.1 z.2.2.2.2.1 z.2.2.2.2.2.2.2.2.2.1 z.2.2.2.2.2.2.2.2.2.2)) := by
  obtain ⟨hc8, hc⟩ := cOf_b hn
  have h0 : 0 < cOf n := by omega
  unfold mX7_triesUntilSolved
  refine OK_be rfl (OK_bind (P := fun o => (∃ s, o = .inr s ∧ ∀ τ, τ < 50 → ¬ Solv vo (sd + nI τ) (cOf n) n) ∨ ∃ s τ, o = .inl s ∧ s.2.1 = nI n ∧ s.2.2.1 = nI (cOf n) ∧ τ < 50 ∧ s.1 = nI τ ∧ (∀ σ, σ < τ → ¬ Solv vo (sd + nI σ) (cOf n) n) ∧ TryS vo (sd + nI τ) n s.2.2.2.1 s.2.2.2.2.1 s.2.2.2.2.2.2.2.2.2.1 s.2.2.2.2.2.2.2.2.2.2) ?_ ?_)
  · refine OK_for (fun fu i (s : (Nat → Int32) × (Nat → Int32) × (Nat → Int32) × (Nat → Int32) × Int32 × (Nat → Int64) × (Nat → Int32) × (Nat → Int32)) => mX7_triesUntilSolved_L28 (nI n) vo sd (nI n) fu i s.1 s.2.1 s.2.2.1 s.2.2.2.1 s.2.2.2.2.1 s.2.2.2.2.2.1 s.2.2.2.2.2.2.1 s.2.2.2.2.2.2.2) 50 (by decide)
      (fun i _ => ∀ τ, τ < i → ¬ Solv vo (sd + nI τ) (cOf n) n) _ (s := (pa, ta, lf, bl, z0, sw, tt, tp)) (fun τ ht => absurd ht (by omega)) ?_ ?_
    · rintro fu ⟨a1, a2, a3, a4, a5, a6, a7, a8⟩ hs
      show OK (mX7_triesUntilSolved_L28 (nI n) vo sd (nI n) (fu + 1) (nI 50) a1 a2 a3 a4 a5 a6 a7 a8) _
      rw [mX7_triesUntilSolved_L28]
      exact OK_T (by decide) (OK_some (Or.inl ⟨_, rfl, hs⟩))
    · rintro fu i ⟨a1, a2, a3, a4, a5, a6, a7, a8⟩ hi hs ih
      show OK (mX7_triesUntilSolved_L28 (nI n) vo sd (nI n) (fu + 1) (nI i) a1 a2 a3 a4 a5 a6 a7 a8) _
      rw [mX7_triesUntilSolved_L28]
      refine OK_F (nI_ge (b := 50) hi (by decide)) ?_
      rw [cOf_I hn]
      refine OK_bind (spread_v h0 hc hn vo (sd + nI i) _ _ _ _ _) ?_
      rintro z ⟨g1, g2, g3, g4⟩
      rw [g4]
      refine OK_bind (takeAll_v (plc_ok h0) hc hn g1 g3) ?_
      rintro y ⟨T, P, j, r1, r2, r3⟩
      rw [nI_s]
      rcases r3 with ⟨e1, rfl⟩ | ⟨e1, hj, hst⟩
      · refine OK_F (by rw [e1]; decide) (OK_some (Or.inr ⟨_, i, rfl, rfl, rfl, hi, rfl, hs, g1, g2, T, P, r1, r2⟩))
      · refine OK_T e1 (ih (z.1, z.2.1, y.2.1, y.2.2.1, _, y.2.2.2.1, y.2.2.2.2.1, y.2.2.2.2.2) (fun τ ht => ?_))
        by_cases e : τ = i
        · subst e; exact stuck_no r1 hj hst
        · exact hs τ (by omega)
  · rintro o (⟨s, rfl, h⟩ | ⟨s, τ, rfl, h1, h2, h3, h4, h5, h6⟩)
    · exact OK_some ⟨rfl, cOf_I hn, Or.inl ⟨rfl, h⟩⟩
    · exact OK_some ⟨h1, h2, Or.inr ⟨τ, h3, h4, h5, h6⟩⟩
theorem fill_in_ok {pl : Nat → Nat → Nat} {n : Nat} (hn : n ≤ 1000) {pa tt : Nat → Int32} (tp : Nat → Int32) {i t : Nat} (hi : i < 1000) (ht : t < n) (et : tt i = nI t) (kc : Nat → Int32) (x : Int32) : OK (mX7_fill_L29 pa tt tp (nI i) kc FU 0 x) (fun _ => True) := by
  refine OK_for (fun fu k (s : Int32) => mX7_fill_L29 pa tt tp (nI i) kc fu k s) 3 (by decide) (fun _ _ => True) _ trivial ?_ ?_
  · intro fu s _
    show OK (mX7_fill_L29 pa tt tp (nI i) kc (fu + 1) (nI 3) s) _
    rw [mX7_fill_L29]
    exact OK_T (by decide) (OK_some trivial)
  · intro fu k s hk _ ih
    show OK (mX7_fill_L29 pa tt tp (nI i) kc (fu + 1) (nI k) s) _
    rw [mX7_fill_L29]
    refine OK_F (nI_ge (b := 3) hk (by decide)) ?_
    rw [show Int32.toNatClampNeg (nI i) = i from cl_nI, et, ix3]
    refine OK_T (ix_nI (by omega)) (OK_lt (OK_T (ix_nI hi) ?_))
    rw [nI_s]
    exact OK_ite (fun _ => ih _ trivial) (fun _ => OK_bind (cell_ok _ _) (fun _ _ => ih _ trivial))
theorem fill_loop {n : Nat} (hn : n ≤ 1000) {pa ta tt tp : Nat → Int32} {T : Nat → Nat} (hT : ∀ j, j < n → T j < n ∧ tt j = nI (T j)) : ∀ (k fu : Nat) (kc : Nat → Int32), k ≤ n → k < fu → OK (mX7_fill_L7 pa ta tt tp fu (nI k + (-1)) kc) (fun _ => True) := by
  intro k
  induction k with
  | zero =>
    intro fu kc _ hf
    obtain ⟨fu, rfl⟩ : ∃ q, fu = q + 1 := ⟨fu - 1, by omega⟩
    rw [mX7_fill_L7]
    exact OK_T (by decide) (OK_some trivial)
  | succ k ih =>
    intro fu kc hk hf
    obtain ⟨fu, rfl⟩ : ∃ q, fu = q + 1 := ⟨fu - 1, by omega⟩
    obtain ⟨h1, h2⟩ := hT k (by omega)
    rw [mX7_fill_L7, pk_m1]
    refine OK_F (nI_pos (by omega)) (OK_T (ix_nI (by omega)) ?_)
    rw [show Int32.toNatClampNeg (nI k) = k from cl_nI, h2]
    exact OK_T (ix_nI (by omega)) (OK_lt (OK_bind (fill_in_ok (pl := fun _ _ => 0) hn tp (by omega) h1 h2 _ _) (fun _ _ => OK_T (ix_nI (by omega)) (OK_bind (setc_ok _ _ _) (fun y _ => ih fu y (by omega) (by omega))))))
theorem fill7_ok {vo : Nat → Int64} {sd : Int32} {n : Nat} (hn : n ≤ 1000) {pa ta tt tp : Nat → Int32} (h : TryS vo sd n pa ta tt tp) (kc : Nat → Int32) : OK (mX7_fill (nI n) pa ta tt tp kc) (fun _ => True) := by
  obtain ⟨-, -, T, P, h1, h2⟩ := h
  unfold mX7_fill
  refine OK_bind (P := fun _ => True) ?_ (fun _ _ => OK_some trivial)
  rw [show nI n - (1 : Int32) = nI n + (-1) by rw [Int32.sub_eq_add_neg]]
  exact fill_loop hn (T := T) (fun j hj => ⟨(h1 j hj).1, (h2 j hj).1⟩) n FU kc (Nat.le_refl _) (by show n < 5000; omega)
