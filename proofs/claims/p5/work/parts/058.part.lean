/-! ===== Solver ===== -/
def thN (vo : Nat → Int64) (sd : Int32) (t : Nat) : Nat := nM (mixV (vo t) sd)
def plc (vo : Nat → Int64) (sd : Int32) (c : Nat) : Nat → Nat → Nat := fun t k => spN (thN vo sd t) k c
theorem plc_lt {vo : Nat → Int64} {sd : Int32} {c t k : Nat} (h0 : 0 < c) (hk : k < 3) : plc vo sd c t k < 3 * c := spN_lt h0 hk
theorem plc_div {vo : Nat → Int64} {sd : Int32} {c t k : Nat} (h0 : 0 < c) : plc vo sd c t k / c = k := spN_div h0
theorem d3 {p c : Nat} (h : p < 3 * c) : p / c < 3 := Nat.div_lt_of_lt_mul (by rw [Nat.mul_comm]; exact h)
theorem ix3 (t k : Nat) : ((3 : Int32) * nI t) + nI k = nI (3 * t + k) := by rw [show (3 : Int32) * nI t = nI (3 * t) from pk_mul 3 t, nI_add]
def PaI (pl : Nat → Nat → Nat) (pa : Nat → Int32) (m : Nat) : Prop := ∀ t, t < m → ∀ k, k < 3 → pa (3 * t + k) = nI (pl t k)
theorem spread_in {c t : Nat} (h0 : 0 < c) (hc : c ≤ 1258) (ht : t < 1000) (vo : Nat → Int64) (sd : Int32) (pa lf bl : Nat → Int32) :
    OK (mX7_spread_L51 (nI c) (mixV (vo t) sd) (nI t) FU 0 pa lf bl) (fun z => (∀ q, q < 3 * t → z.2.1 q = pa q) ∧ (∀ k, k < 3 → z.2.1 (3 * t + k) = nI (plc vo sd c t k)) ∧ ∀ p, p < 3 * c → z.2.2.1 p = (if plc vo sd c t (p / c) = p then lf p + 1 else lf p) ∧ z.2.2.2 p = (if plc vo sd c t (p / c) = p then bl p ^^^ nI t else bl p)) := by
  refine OK_for (fun fu i (s : (Nat → Int32) × (Nat → Int32) × (Nat → Int32)) => mX7_spread_L51 (nI c) (mixV (vo t) sd) (nI t) fu i s.1 s.2.1 s.2.2) 3 (by decide)
    (fun k s => (∀ q, q < 3 * t → s.1 q = pa q) ∧ (∀ j, j < k → s.1 (3 * t + j) = nI (plc vo sd c t j)) ∧ ∀ p, p < 3 * c → s.2.1 p = (if p / c < k ∧ plc vo sd c t (p / c) = p then lf p + 1 else lf p) ∧ s.2.2 p = (if p / c < k ∧ plc vo sd c t (p / c) = p then bl p ^^^ nI t else bl p)) _ (s := (pa, lf, bl)) ?_ ?_ ?_
  · exact ⟨fun _ _ => rfl, fun j hj => absurd hj (by omega), fun p _ => ⟨by rw [if_neg (fun q => Nat.not_lt_zero _ q.1)], by rw [if_neg (fun q => Nat.not_lt_zero _ q.1)]⟩⟩
  · intro fu s hs
    show OK (mX7_spread_L51 (nI c) (mixV (vo t) sd) (nI t) (fu + 1) (nI 3) s.1 s.2.1 s.2.2) _
    rw [mX7_spread_L51]
    refine OK_T (by decide) (OK_some ⟨hs.1, hs.2.1, fun p hp => ?_⟩)
    have h3 := d3 hp
    have hh := hs.2.2 p hp
    simp only [h3, true_and] at hh
    exact hh
  · rintro fu k ⟨a, b, e⟩ hk ⟨h1, h2, h3⟩ ih
    show OK (mX7_spread_L51 (nI c) (mixV (vo t) sd) (nI t) (fu + 1) (nI k) a b e) _
    have hq := plc_lt (vo := vo) (sd := sd) (t := t) h0 hk
    have hqd := plc_div (vo := vo) (sd := sd) (t := t) (k := k) h0
    rw [mX7_spread_L51]
    refine OK_F (nI_ge (b := 3) hk (by decide)) (OK_be (sp_c _ hk h0 (by omega)) ?_)
    rw [ix3, show spN (nM (mixV (vo t) sd)) k c = plc vo sd c t k from rfl]
    obtain ⟨q, eq⟩ : ∃ q, q = plc vo sd c t k := ⟨_, rfl⟩
    rw [← eq] at hq hqd ⊢
    have i1 : ix (nI q) 3774 = true := ix_nI (by omega)
    refine OK_T (ix_nI (by omega)) (OK_T i1 (OK_T i1 (OK_T i1 (OK_T i1 ?_))))
    rw [nI_s, cl_nI, cl_nI]
    refine ih (upd a (3 * t + k) (nI q), upd b q (b q + 1), upd e q (e q ^^^ nI t)) ⟨fun j hj => ?_, fun j hj => ?_, fun p hp => ?_⟩
    · show upd a (3 * t + k) (nI q) j = pa j
      rw [pk_un (by omega)]; exact h1 j hj
    · show upd a (3 * t + k) (nI q) (3 * t + j) = _
      by_cases ej : j = k
      · subst ej; rw [pk_us, eq]
      · rw [pk_un (by omega)]; exact h2 j (by omega)
    · show upd b q (b q + 1) p = _ ∧ upd e q (e q ^^^ nI t) p = _
      obtain ⟨g1, g2⟩ := h3 p hp
      by_cases ep : p = q
      · subst ep
        have hA : plc vo sd c t (p / c) = p := by rw [hqd]; exact eq.symm
        rw [if_neg (fun w => absurd w.1 (by rw [hqd]; omega))] at g1 g2
        have hB : p / c < k + 1 ∧ plc vo sd c t (p / c) = p := ⟨by rw [hqd]; omega, hA⟩
        rw [pk_us, pk_us, if_pos hB, if_pos hB]
        dsimp only at g1 g2
        rw [g1, g2]
        exact ⟨rfl, rfl⟩
      · rw [pk_un ep, pk_un ep]
        have hiff : (p / c < k + 1 ∧ plc vo sd c t (p / c) = p) ↔ (p / c < k ∧ plc vo sd c t (p / c) = p) := by
          constructor
          · intro w
            refine ⟨?_, w.2⟩
            rcases Nat.lt_or_ge (p / c) k with l | l
            · exact l
            · have e2 : p / c = k := Nat.le_antisymm (Nat.le_of_lt_succ w.1) l
              have := w.2
              rw [e2, ← eq] at this
              exact absurd this.symm ep
          · intro w; exact ⟨Nat.lt_succ_of_lt w.1, w.2⟩
        simp only [hiff]
        exact ⟨g1, g2⟩
def off0 : Nat → Bool := fun _ => false
def LfI (pl : Nat → Nat → Nat) (c : Nat) (off : Nat → Bool) (n : Nat) (lf bl : Nat → Int32) : Prop := ∀ p, p < 3 * c → lf p = nI (cnt pl c off n p) ∧ bl p = nI (xr pl c off n p)
theorem spread_out {c n : Nat} (h0 : 0 < c) (hc : c ≤ 1258) (hn : n ≤ 1000) (vo : Nat → Int64) (sd : Int32) (pa ta lf bl : Nat → Int32) (hz : ∀ p, p < 3774 → lf p = 0 ∧ bl p = 0) :
    OK (mX7_spread_L18 (nI n) (nI c) (nI n) vo sd FU 0 pa ta lf bl) (fun z => PaI (plc vo sd c) z.2.1 n ∧ (∀ t, t < n → z.2.2.1 t = nI (stagN (thN vo sd t))) ∧ LfI (plc vo sd c) c off0 n z.2.2.2.1 z.2.2.2.2) := by
  refine OK_for (fun fu i (s : (Nat → Int32) × (Nat → Int32) × (Nat → Int32) × (Nat → Int32)) => mX7_spread_L18 (nI n) (nI c) (nI n) vo sd fu i s.1 s.2.1 s.2.2.1 s.2.2.2) n (by omega)
    (fun i s => PaI (plc vo sd c) s.1 i ∧ (∀ t, t < i → s.2.1 t = nI (stagN (thN vo sd t))) ∧ LfI (plc vo sd c) c off0 i s.2.2.1 s.2.2.2) _ (s := (pa, ta, lf, bl)) ?_ ?_ ?_
  · exact ⟨fun t ht => absurd ht (by omega), fun t ht => absurd ht (by omega), fun p hp => ⟨(hz p (by omega)).1, (hz p (by omega)).2⟩⟩
  · intro fu s hs
    show OK (mX7_spread_L18 (nI n) (nI c) (nI n) vo sd (fu + 1) (nI n) s.1 s.2.1 s.2.2.1 s.2.2.2) _
    rw [mX7_spread_L18]
    exact OK_T (Int32.le_refl _) (OK_some hs)
  · rintro fu i ⟨a, b, d, e⟩ hi ⟨h1, h2, h3⟩ ih
    show OK (mX7_spread_L18 (nI n) (nI c) (nI n) vo sd (fu + 1) (nI i) a b d e) _
    rw [mX7_spread_L18]
    refine OK_F (nI_ge hi (by omega)) (OK_be (bag_atN hn hi) (OK_be (mix_c _ _) (OK_be (stag_c _) (OK_T (ix_nI (by omega)) (OK_bind (spread_in h0 hc (by omega) vo sd a d e) ?_)))))
    rintro z ⟨g1, g2, g3⟩
    rw [nI_s, cl_nI]
    refine ih (z.2.1, upd b i (nI (stagN (nM (mixV (vo i) sd)))), z.2.2.1, z.2.2.2) ⟨fun t ht k hk => ?_, fun t ht => ?_, fun p hp => ?_⟩
    · show z.2.1 (3 * t + k) = _
      by_cases et : t = i
      · subst et; exact g2 k hk
      · rw [g1 _ (by omega)]; exact h1 t (by omega) k hk
    · show upd b i _ t = _
      by_cases et : t = i
      · subst et; rw [pk_us]; rfl
      · rw [pk_un et]; exact h2 t (by omega)
    · obtain ⟨e1, e2⟩ := g3 p hp
      obtain ⟨f1, f2⟩ := h3 p hp
      dsimp only at f1 f2
      show z.2.2.1 p = nI (cnt (plc vo sd c) c off0 i p + (if off0 i = false ∧ plc vo sd c i (p / c) = p then 1 else 0)) ∧ z.2.2.2 p = nI (xr (plc vo sd c) c off0 i p ^^^ (if off0 i = false ∧ plc vo sd c i (p / c) = p then i else 0))
      rw [e1, e2, f1, f2]
      by_cases w : plc vo sd c i (p / c) = p
      · rw [if_pos w, if_pos w, if_pos ⟨rfl, w⟩, if_pos ⟨rfl, w⟩, nI_1, nx_xor]
        exact ⟨rfl, rfl⟩
      · rw [if_neg w, if_neg w, if_neg (fun q => w q.2), if_neg (fun q => w q.2), Nat.xor_zero, Nat.add_zero]
        exact ⟨rfl, rfl⟩
theorem cnt_is1 {pl : Nat → Nat → Nat} {c n p : Nat} {off : Nat → Bool} (hn : n ≤ 1000) {x : Int32} (e : x = nI (cnt pl c off n p)) : x = 1 ↔ cnt pl c off n p = 1 := by
  have := cnt_le (pl := pl) (c := c) off n p
  rw [e, show (1 : Int32) = nI 1 from rfl, nI_eq (by omega) (by decide)]
/-- noteIfSingle -/
theorem note_v {c p : Nat} (hc : c ≤ 1258) (hp : p < 3 * c) (lf : Nat → Int32) (v : Nat → Int64) : mX7_noteIfSingle lf (nI (3 * c)) v (nI p) = some (if lf p = 1 then setW v p else clrW v p) := by
  unfold mX7_noteIfSingle
  rw [if_pos (ix_nI (by omega)), cl_nI]
  by_cases h : lf p = 1
  · rw [if_pos h, if_pos h, br_set (by omega) hp, sb_]
  · rw [if_neg h, if_neg h, br_clr (by omega) hp, sb_]
theorem bts_note {lf : Nat → Int32} {v : Nat → Int64} {p q : Nat} : bts (if lf p = 1 then setW v p else clrW v p) q = if q = p then decide (lf p = 1) else bts v q := by
  by_cases h : lf p = 1
  · rw [if_pos h, bts_set]
    by_cases e : q = p
    · simp [e, h]
    · simp [e]
  · rw [if_neg h, bts_clr]
    by_cases e : q = p
    · simp [e, h]
    · simp [e]
def SwI (c : Nat) (lf : Nat → Int32) (sw : Nat → Int64) : Prop := ∀ p, p < 4096 → (bts sw p = true ↔ p < 3 * c ∧ lf p = 1)
theorem spread_sw {c : Nat} (hc : c ≤ 1258) (o : Int32 × (Nat → Int32) × (Nat → Int32) × (Nat → Int32) × (Nat → Int32)) (w0 : Nat → Int64) :
    OK (mX7_spread_L130 (nI c) o (nI (3 * c), filJ 64 w0 0) FU 0 (filJ 64 w0 0)) (fun z => SwI c o.2.2.2.1 z.2) := by
  refine OK_for (fun fu i (s : Nat → Int64) => mX7_spread_L130 (nI c) o (nI (3 * c), filJ 64 w0 0) fu i s) (3 * c) (by omega) (fun i s => ∀ p, p < 4096 → (bts s p = true ↔ p < i ∧ o.2.2.2.1 p = 1)) _ ?_ ?_ ?_
  · intro p hp
    rw [bts_0 hp]
    exact ⟨fun h => absurd h (by decide), fun h => absurd h.1 (by omega)⟩
  · intro fu s hs
    show OK (mX7_spread_L130 (nI c) o (nI (3 * c), filJ 64 w0 0) (fu + 1) (nI (3 * c)) s) _
    rw [mX7_spread_L130]
    exact OK_be (show mX7_places (nI c) = some (nI (3 * c)) from congrArg some (pk_mul 3 c)) (OK_T (Int32.le_refl _) (OK_some hs))
  · intro fu i s hi hs ih
    show OK (mX7_spread_L130 (nI c) o (nI (3 * c), filJ 64 w0 0) (fu + 1) (nI i) s) _
    rw [mX7_spread_L130]
    refine OK_be (show mX7_places (nI c) = some (nI (3 * c)) from congrArg some (pk_mul 3 c)) (OK_F (nI_ge hi (by omega)) (OK_be (note_v hc hi _ _) ?_))
    rw [nI_s]
    refine ih _ (fun p hp => ?_)
    rw [bts_note]
    by_cases e : p = i
    · subst e
      rw [if_pos rfl, decide_eq_true_iff]
      exact ⟨fun h => ⟨by omega, h⟩, fun h => h.2⟩
    · rw [if_neg e, hs p hp]
      exact ⟨fun h => ⟨by omega, h.2⟩, fun h => ⟨by omega, h.2⟩⟩
/-- the solver's state: things off are off -/
def SolS (pl : Nat → Nat → Nat) (c n : Nat) (off : Nat → Bool) (lf bl : Nat → Int32) (sw : Nat → Int64) : Prop := LfI pl c off n lf bl ∧ SwI c lf sw
theorem spread_v {c n : Nat} (h0 : 0 < c) (hc : c ≤ 1258) (hn : n ≤ 1000) (vo : Nat → Int64) (sd : Int32) (pa ta lf bl : Nat → Int32) (sw : Nat → Int64) :
    OK (mX7_spread (nI n) (nI c) pa ta lf bl sw (nI n) vo sd) (fun z => PaI (plc vo sd c) z.1 n ∧ (∀ t, t < n → z.2.1 t = nI (stagN (thN vo sd t))) ∧ SolS (plc vo sd c) c n off0 z.2.2.1 z.2.2.2.1 z.2.2.2.2.2 ∧ z.2.2.2.2.1 = nI (3 * c)) := by
  unfold mX7_spread
  refine OK_be (fill_I (by decide) _ _) (OK_be (fill_I (by decide) _ _) (OK_bind (spread_out h0 hc hn vo sd pa ta _ _ (fun p hp => ⟨if_pos hp, if_pos hp⟩)) ?_))
  rintro z ⟨h1, h2, h3⟩
  refine OK_be (show mX7_places (nI c) = some (nI (3 * c)) from congrArg some (pk_mul 3 c)) (OK_be (br_begin (by omega)) (OK_bind (spread_sw hc z _) (fun y hy => OK_some ⟨h1, h2, ⟨h3, hy⟩, rfl⟩)))
