theorem rlay4 {k : Nat} (hk : k ≤ 1000) : ∀ (d a fu : Nat), a + d = 12 → d < fu → mX9_lay_L4 (nI k) fu (nI (2 ^ a)) = some (nI (2 ^ szF k d a)) := by
  intro d
  induction d with
  | zero =>
    intro a fu ha hf
    obtain ⟨fu, rfl⟩ : ∃ q, fu = q + 1 := ⟨fu - 1, by omega⟩
    obtain rfl : a = 12 := by omega
    rw [mX9_lay_L4, if_pos (by decide)]
    rfl
  | succ d ih =>
    intro a fu ha hf
    obtain ⟨fu, rfl⟩ : ∃ q, fu = q + 1 := ⟨fu - 1, by omega⟩
    have h1 : 2 ^ a ≤ 2 ^ 11 := pow_up (by omega)
    have e8 : (8 : Int32) * nI k = nI (8 * k) := pk_mul 8 k
    have e2 : (2 : Int32) * nI (2 ^ a) = nI (2 ^ (a + 1)) := by rw [Nat.pow_succ, Nat.mul_comm]; exact pk_mul 2 (2 ^ a)
    rw [mX9_lay_L4, if_neg (show ¬ (4096 : Int32) ≤ nI (2 ^ a) from nI_ge (b := 4096) (by omega) (by decide)), e8, e2]
    show _ = some (nI (2 ^ (if 8 * k ≤ 2 ^ a then a else szF k d (a + 1))))
    by_cases h : 8 * k ≤ 2 ^ a
    · rw [if_pos (nI_le h (by omega)), if_pos h]
    · rw [if_neg (nI_ge (by omega) (by omega)), if_neg h]
      exact ih (a + 1) fu (by omega) (by omega)
theorem rlay_ok {s i n : Nat} (hs : s < 30) (hi : i < 20) (hn : n ≤ 1000) (vZ vS vB vL vLC : Nat → Int32) (vCo : Nat → Int64) : OK (mX9_lay vZ vS vB vL vLC vCo (nI s) (nI i) (nI n)) (fun z => z.1 = upd vZ s (nI (i + 1)) ∧ z.2.2.1 = upd vL (20 * s + i) (nI (2 ^ szA n)) ∧ z.2.2.2 = upd vLC (20 * s + i) (nI n)) := by
  have hp : 0 < 2 ^ szA n := Nat.two_pow_pos _
  have hp2 := szA_pow n
  unfold mX9_lay
  refine OK_be (show mX9_lay_L4 (nI n) FU 8 = some (nI (2 ^ szA n)) from rlay4 hn 9 3 FU (by decide) (by decide)) ?_
  rw [m20, clN (k := 20 * s + i) (by omega), clN (k := s) (by omega), nI_s]
  refine OK_T (ix_nI (by omega)) (OK_T (ix_nI (by omega)) (OK_bind (P := fun _ => True) ?_ (fun y _ => OK_bind (P := fun _ => True) ?_ (fun x _ => OK_T (ix_nI hs) (OK_some ⟨rfl, rfl, rfl⟩)))))
  · refine OK_for (fun fu k (b : Nat → Int32) => mX9_lay_L58 (nI s) (nI i) fu k b) 128 (by decide) (fun _ _ => True) _ trivial ?_ ?_
    · intro fu b _
      show OK (mX9_lay_L58 (nI s) (nI i) (fu + 1) (nI 128) b) _
      rw [mX9_lay_L58]
      exact OK_T (by decide) (OK_some trivial)
    · intro fu k b hk _ ih
      show OK (mX9_lay_L58 (nI s) (nI i) (fu + 1) (nI k) b) _
      rw [mX9_lay_L58, m20, m128, nI_s]
      exact OK_F (nI_ge (b := 128) hk (by decide)) (OK_T (ix_nI (by omega)) (ih _ trivial))
  · refine OK_for (fun fu k (b : Nat → Int32) => mX9_lay_L90 vS vCo (nI s) (nI i) (nI n) (nI (2 ^ szA n)) fu k b) n (by omega) (fun _ _ => True) _ trivial ?_ ?_
    · intro fu b _
      show OK (mX9_lay_L90 vS vCo (nI s) (nI i) (nI n) (nI (2 ^ szA n)) (fu + 1) (nI n) b) _
      rw [mX9_lay_L90]
      exact OK_T (Int32.le_refl _) (OK_some trivial)
    · intro fu k b hk _ ih
      show OK (mX9_lay_L90 vS vCo (nI s) (nI i) (nI n) (nI (2 ^ szA n)) (fu + 1) (nI k) b) _
      rw [mX9_lay_L90, nI_s]
      refine OK_F (nI_ge hk (by omega)) (OK_T (ix_nI (by omega)) (OK_T (ix_nI hs) (OK_be (mix_r _ _) (OK_bind (P := fun _ => True) ?_ (fun w _ => ih _ trivial)))))
      generalize mixV _ _ = mx
      refine OK_for (fun fu j (b : Nat → Int32) => mX9_lay_L119 (nI s) (nI i) (nI (2 ^ szA n)) mx fu j b) 3 (by decide) (fun _ _ => True) _ trivial ?_ ?_
      · intro fu b _
        show OK (mX9_lay_L119 (nI s) (nI i) (nI (2 ^ szA n)) mx (fu + 1) (nI 3) b) _
        rw [mX9_lay_L119]
        exact OK_T (by decide) (OK_some trivial)
      · intro fu j b hj _ ih2
        show OK (mX9_lay_L119 (nI s) (nI i) (nI (2 ^ szA n)) mx (fu + 1) (nI j) b) _
        rw [mX9_lay_L119]
        refine OK_F (nI_ge (b := 3) hj (by decide)) (OK_be (mp_r mx (by omega) hp (by omega)) ?_)
        have hm : mkN (nM mx) j % 2 ^ szA n < 2 ^ szA n := Nat.mod_lt _ hp
        generalize mkN (nM mx) j % 2 ^ szA n = q at hm
        rw [show nI q / (32 : Int32) = nI (q / 32) from q_d (by omega) (by decide) (by decide), m20, m128, nI_s]
        exact OK_T (ix_nI (by omega)) (OK_T (ix_nI (by omega)) (ih2 _ trivial))
def Z9 : Type := Int32 × Int32 × (Nat → Int32) × (Nat → Int32) × (Nat → Int32) × (Nat → Int32) × (Nat → Int32) × (Nat → Int32) × (Nat → Int32)
theorem rsift_ok {s i a A : Nat} (hs : s < 30) (hi : i < 20) (ha : a ≤ 12) (hA : A ≤ 1000) (zz : Int32 × Int32 × (Nat → Int32) × (Nat → Int32) × (Nat → Int32) × (Nat → Int32) × (Nat → Int32) × (Nat → Int32) × (Nat → Int32)) (ez : zz.1 = nI s) (yy : (Nat → Int32) × (Nat → Int32) × (Nat → Int32) × (Nat → Int32)) (ey : yy.2.2.1 (20 * s + i) = nI (2 ^ a)) (ri go : Nat → Int64) : OK (mX9_layered_L268 zz yy (nI i) (nI A) ri FU 0 0 go) (fun z => ∃ b, b ≤ A ∧ z.2.1 = nI b) := by
  refine OK_for (fun fu k (x : Int32 × (Nat → Int64)) => mX9_layered_L268 zz yy (nI i) (nI A) ri fu k x.1 x.2) A (by omega) (fun k x => ∃ b, b ≤ k ∧ x.1 = nI b) _ (s := (0, go)) ⟨0, by omega, rfl⟩ ?_ ?_
  · intro fu x hx
    show OK (mX9_layered_L268 zz yy (nI i) (nI A) ri (fu + 1) (nI A) x.1 x.2) _
    rw [mX9_layered_L268]
    exact OK_T (Int32.le_refl _) (OK_some hx)
  · rintro fu k ⟨x1, x2⟩ hk ⟨b, hb, e⟩ ih
    show OK (mX9_layered_L268 zz yy (nI i) (nI A) ri (fu + 1) (nI k) x1 x2) _
    dsimp only at e
    subst e
    rw [mX9_layered_L268, ez, nI_s, show nI b + (1 : Int32) = nI (b + 1) from nI_1 b]
    exact OK_F (nI_ge hk (by omega)) (OK_T (ix_nI (by omega)) (OK_bind (layerLets01 hs hi ha ey _) (fun _ _ => OK_ite (fun _ => ih (nI b, x2) ⟨b, by omega, rfl⟩) (fun _ => OK_T (ix_nI (by omega)) (OK_T (ix_nI (by omega)) (ih (nI (b + 1), _) ⟨b + 1, by omega, rfl⟩))))))
theorem rcopy335 {n : Nat} (hn : n ≤ 1000) (co ri : Nat → Int64) : OK (mX9_layered_L335 (nI n) co FU 0 ri) (fun _ => True) := by
  refine OK_for (fun fu k (x : Nat → Int64) => mX9_layered_L335 (nI n) co fu k x) n (by omega) (fun _ _ => True) _ trivial ?_ ?_
  · intro fu x _
    show OK (mX9_layered_L335 (nI n) co (fu + 1) (nI n) x) _
    rw [mX9_layered_L335]
    exact OK_T (Int32.le_refl _) (OK_some trivial)
  · intro fu k x hk _ ih
    show OK (mX9_layered_L335 (nI n) co (fu + 1) (nI k) x) _
    rw [mX9_layered_L335, nI_s]
    exact OK_F (nI_ge hk (by omega)) (OK_T (ix_nI (by omega)) (OK_T (ix_nI (by omega)) (ih _ trivial)))
theorem rcopy369 {n : Nat} (hn : n ≤ 1000) (o : Int32 × Int32 × (Nat → Int64)) (eo : o.2.1 = nI n) (co : Nat → Int64) : OK (mX9_layered_L369 o FU 0 co) (fun _ => True) := by
  refine OK_for (fun fu k (x : Nat → Int64) => mX9_layered_L369 o fu k x) n (by omega) (fun _ _ => True) _ trivial ?_ ?_
  · intro fu x _
    show OK (mX9_layered_L369 o (fu + 1) (nI n) x) _
    rw [mX9_layered_L369, eo]
    exact OK_T (Int32.le_refl _) (OK_some trivial)
  · intro fu k x hk _ ih
    show OK (mX9_layered_L369 o (fu + 1) (nI k) x) _
    rw [mX9_layered_L369, eo, nI_s]
    exact OK_F (nI_ge hk (by omega)) (OK_T (ix_nI (by omega)) (OK_T (ix_nI (by omega)) (ih _ trivial)))
theorem rcopy203 {n s : Nat} (hn : n ≤ 1000) (hs : s < 30) (zz : Int32 × Int32 × (Nat → Int32) × (Nat → Int32) × (Nat → Int32) × (Nat → Int32) × (Nat → Int32) × (Nat → Int32) × (Nat → Int32)) (ez : zz.1 = nI s) (co re : Nat → Int64) : OK (mX9_layered_L203 zz (nI n) co FU 0 re) (fun _ => True) := by
  refine OK_for (fun fu k (x : Nat → Int64) => mX9_layered_L203 zz (nI n) co fu k x) n (by omega) (fun _ _ => True) _ trivial ?_ ?_
  · intro fu x _
    show OK (mX9_layered_L203 zz (nI n) co (fu + 1) (nI n) x) _
    rw [mX9_layered_L203]
    exact OK_T (Int32.le_refl _) (OK_some trivial)
  · intro fu k x hk _ ih
    show OK (mX9_layered_L203 zz (nI n) co (fu + 1) (nI k) x) _
    rw [mX9_layered_L203, ez, m1000, nI_s]
    exact OK_F (nI_ge hk (by omega)) (OK_T (ix_nI (by omega)) (OK_T (ix_nI (by omega)) (ih _ trivial)))
/-- what the loop of layered leaves: i layers of sieve s -/
def LayI (s i : Nat) (vZ vL vR wZ wL wR : Nat → Int32) : Prop := wZ s = nI i ∧ (∀ j, j < i → ∃ a, 3 ≤ a ∧ a ≤ 12 ∧ wL (20 * s + j) = nI (2 ^ a)) ∧ BN (wR s) ∧ (∀ q, q ≠ s → wZ q = vZ q ∧ wR q = vR q) ∧ ∀ q, q < 20 * s ∨ 20 * s + 20 ≤ q → wL q = vL q
theorem LayI_lay {s i n : Nat} {vZ vL vR wZ wL wR : Nat → Int32} (h : LayI s i vZ vL vR wZ wL wR) (hi : i < 20) : LayI s (i + 1) vZ vL vR (upd wZ s (nI (i + 1))) (upd wL (20 * s + i) (nI (2 ^ szA n))) wR := by
  obtain ⟨h1, h2, h3, h4, h5⟩ := h
  refine ⟨pk_us, fun j hj => ?_, h3, fun q hq => ⟨(pk_un hq).trans (h4 q hq).1, (h4 q hq).2⟩, fun q hq => (pk_un (by omega)).trans (h5 q hq)⟩
  by_cases e : j = i
  · subst e; exact ⟨szA n, (szA_le n).1, (szA_le n).2, pk_us⟩
  · obtain ⟨a, a1, a2, a3⟩ := h2 j (by omega)
    exact ⟨a, a1, a2, (pk_un (by omega)).trans a3⟩
theorem LayI_rest {s i : Nat} {vZ vL vR wZ wL wR : Nat → Int32} (h : LayI s i vZ vL vR wZ wL wR) {r : Int32} (hr : BN r) : LayI s i vZ vL vR wZ wL (upd wR s r) := by
  obtain ⟨h1, h2, h3, h4, h5⟩ := h
  exact ⟨h1, h2, by rw [pk_us]; exact hr, fun q hq => ⟨(h4 q hq).1, (pk_un hq).trans (h4 q hq).2⟩, h5⟩
theorem layered_done {s i fu : Nat} (zz : Int32 × Int32 × (Nat → Int32) × (Nat → Int32) × (Nat → Int32) × (Nat → Int32) × (Nat → Int32) × (Nat → Int32) × (Nat → Int32)) (vZ vL vR : Nat → Int32) (x8 x6 x5 : Int32) (wZ wB wL wC : Nat → Int32) (re : Nat → Int64) (wR : Nat → Int32) (co ri go : Nat → Int64) (h : LayI s i vZ vL vR wZ wL wR) (hi : i ≤ 20) : OK (mX9_layered_L162 zz (fu + 1) x8 0 x6 x5 wZ wB wL wC re wR co ri go) (fun z => ∃ i, i ≤ 20 ∧ LayI s i vZ vL vR z.2.2.2.2.1 z.2.2.2.2.2.2.1 z.2.2.2.2.2.2.2.2.2.1) := by
  rw [mX9_layered_L162]
  exact OK_T rfl (OK_some ⟨i, hi, h⟩)
theorem layered_loop {s : Nat} (hs : s < 30) (zz : Int32 × Int32 × (Nat → Int32) × (Nat → Int32) × (Nat → Int32) × (Nat → Int32) × (Nat → Int32) × (Nat → Int32) × (Nat → Int32)) (ez : zz.1 = nI s) (vZ vL vR : Nat → Int32) : ∀ (d i fu : Nat), i + d = 20 → d + 1 < fu → ∀ (A n : Nat) (wZ wB wL wC : Nat → Int32) (re : Nat → Int64) (wR : Nat → Int32) (co ri go : Nat → Int64), A ≤ 1000 → n ≤ 1000 → LayI s i vZ vL vR wZ wL wR →
    OK (mX9_layered_L162 zz fu (nI i) 1 (nI A) (nI n) wZ wB wL wC re wR co ri go) (fun z => ∃ i, i ≤ 20 ∧ LayI s i vZ vL vR z.2.2.2.2.1 z.2.2.2.2.2.2.1 z.2.2.2.2.2.2.2.2.2.1) := by
  intro d
  induction d with
  | zero =>
    intro i fu hi hf A n wZ wB wL wC re wR co ri go hA hn h
    obtain ⟨fu, rfl⟩ : ∃ q, fu = q + 2 := ⟨fu - 2, by omega⟩
    obtain rfl : i = 20 := by omega
    rw [mX9_layered_L162]
    refine OK_F (by decide) (OK_T rfl (OK_bind (rcopy203 hn hs zz ez _ _) (fun o _ => ?_)))
    rw [ez, clN (by omega)]
    exact OK_T (ix_nI hs) (layered_done zz vZ vL vR _ _ _ _ _ _ _ _ _ _ _ _ (LayI_rest h ⟨n, hn, rfl⟩) (Nat.le_refl _))
  | succ d ih =>
    intro i fu hi hf A n wZ wB wL wC re wR co ri go hA hn h
    obtain ⟨fu, rfl⟩ : ∃ q, fu = q + 2 := ⟨fu - 2, by omega⟩
    have hi20 : i < 20 := by omega
    have main : OK ((mX9_lay wZ zz.2.2.2.2.2.1 wB wL wC co zz.1 (nI i) (nI n)).bind fun z259 => (mX9_layered_L268 zz z259 (nI i) (nI A) ri FU (0 : Int32) (0 : Int32) go).bind fun o268 => if o268.2.1 ≤ 0 then ((mX9_layered_L335 (nI n) co FU (0 : Int32) ri).bind fun o335 => (mX9_layered_L369 o268 FU (0 : Int32) co).bind fun o369 => mX9_layered_L162 zz (fu + 1) (nI i + 1) (0 : Int32) (nI n) o268.2.1 z259.1 z259.2.1 z259.2.2.1 z259.2.2.2 re wR o369.2 o335.2 o268.2.2) else ((mX9_layered_L335 (nI n) co FU (0 : Int32) ri).bind fun o335 => (mX9_layered_L369 o268 FU (0 : Int32) co).bind fun o369 => mX9_layered_L162 zz (fu + 1) (nI i + 1) (1 : Int32) (nI n) o268.2.1 z259.1 z259.2.1 z259.2.2.1 z259.2.2.2 re wR o369.2 o335.2 o268.2.2)) (fun z => ∃ i, i ≤ 20 ∧ LayI s i vZ vL vR z.2.2.2.2.1 z.2.2.2.2.2.2.1 z.2.2.2.2.2.2.2.2.2.1) := by
      rw [ez]
      refine OK_bind (rlay_ok hs hi20 hn _ _ _ _ _ _) ?_
      rintro y ⟨e1, e2, e3⟩
      have hL := LayI_lay (n := n) h hi20
      rw [← e1, ← e2] at hL
      refine OK_bind (rsift_ok hs hi20 (szA_le n).2 hA zz ez y (by rw [e2]; exact pk_us) ri go) ?_
      rintro o ⟨b, hb, eb⟩
      rw [nI_1]
      refine OK_ite (fun _ => OK_bind (rcopy335 hn _ _) (fun _ _ => OK_bind (rcopy369 (n := b) (by omega) o eb _) (fun _ _ => layered_done zz vZ vL vR _ _ _ _ _ _ _ _ _ _ _ _ hL (by omega)))) (fun _ => OK_bind (rcopy335 hn _ _) (fun _ _ => OK_bind (rcopy369 (n := b) (by omega) o eb _) (fun _ _ => ?_)))
      rw [eb]
      exact ih (i + 1) (fu + 1) (by omega) (by omega) n b _ _ _ _ _ _ _ _ _ hn (by omega) hL
    rw [mX9_layered_L162]
    refine OK_F (by decide) (OK_F (fun q => by have := (nI_eq (a := i) (b := 20) (by omega) (by decide)).mp q; omega) (OK_ite (fun _ => main) (fun h1 => ?_)))
    have hi2 : 2 ≤ i := Nat.le_of_not_lt (fun q => h1 (nI_le (b := 1) (by omega) (by decide)))
    rw [ez, m20, show nI (20 * s + i) - (2 : Int32) = nI (20 * s + i - 2) from pk_sub (b := 2) (by omega)]
    refine OK_T (ix_nI (by omega)) (OK_ite (fun _ => OK_bind (rcopy203 hn hs zz ez _ _) (fun o _ => ?_)) (fun _ => by rw [← ez]; exact main))
    rw [clN (by omega)]
    exact OK_T (ix_nI hs) (layered_done zz vZ vL vR _ _ _ _ _ _ _ _ _ _ _ _ (LayI_rest h ⟨n, hn, rfl⟩) (by omega))
