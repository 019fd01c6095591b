/-! ===== LAYERED: the reference's loop, exact ===== -/
theorem layered_rest {s : Nat} (hs : s < 30) (zz : Int32 × Int32 × (Nat → Int32) × (Nat → Int32) × (Nat → Int32) × (Nat → Int32) × (Nat → Int32) × (Nat → Int32) × (Nat → Int32)) (ez : zz.1 = nI s) {i n fu : Nat} (hi2 : 2 ≤ i) (hi : i ≤ 20) (hn : n ≤ 1000) {wZ wB wL wC : Nat → Int32} {re : Nat → Int64} {wR : Nat → Int32} {co ri go : Nat → Int64} {A : Int32} (hx : i = 20 ∨ wC (20 * s + i - 2) = nI n) {Q : (Nat → Int32) → (Nat → Int32) → (Nat → Int32) → (Nat → Int32) → (Nat → Int64) → (Nat → Int32) → Prop} (h : ∀ re1 : Nat → Int64, (∀ k, k < n → re1 (1000 * s + k) = co k) → (∀ r, (r < 1000 * s ∨ 1000 * s + 1000 ≤ r) → re1 r = re r) → Q wZ wB wL wC re1 (upd wR s (nI n))) : OK (mX9_layered_L162 zz (fu + 2) (nI i) 1 A (nI n) wZ wB wL wC re wR co ri go) (fun z => Q z.2.2.2.2.1 z.2.2.2.2.2.1 z.2.2.2.2.2.2.1 z.2.2.2.2.2.2.2.1 z.2.2.2.2.2.2.2.2.1 z.2.2.2.2.2.2.2.2.2.1) := by
  have fin : OK ((mX9_layered_L203 zz (nI n) co FU (0 : Int32) re).bind fun o203 => if ix zz.1 30 = true then (mX9_layered_L162 zz (fu + 1) (nI i + 1) (0 : Int32) A (nI n) wZ wB wL wC o203.2 (upd wR (Int32.toNatClampNeg zz.1) (nI n)) co ri go) else none) (fun z => Q z.2.2.2.2.1 z.2.2.2.2.2.1 z.2.2.2.2.2.2.1 z.2.2.2.2.2.2.2.1 z.2.2.2.2.2.2.2.2.1 z.2.2.2.2.2.2.2.2.2.1) := by
    refine OK_bind (rest203 hn hs zz ez co re) (fun o ho => ?_)
    rw [ez, clN (k := s) (by omega)]
    exact OK_T (ix_nI hs) (layered_dn zz _ _ _ _ _ _ _ _ _ _ _ _ (h _ ho.1 ho.2))
  rw [mX9_layered_L162]
  refine OK_F (by decide) ?_
  by_cases e20 : i = 20
  · exact OK_T (by rw [e20]; rfl) fin
  · refine OK_F (fun q => e20 ((nI_eq (a := i) (b := 20) (by omega) (by decide)).mp q)) (OK_F (fun q => ?_) ?_)
    · have := (nI_leI (a := i) (b := 1) (by omega) (by decide)).mp q
      omega
    · rw [ez, m20, show nI (20 * s + i) - (2 : Int32) = nI (20 * s + i - 2) from pk_sub (b := 2) (by omega), clN (k := 20 * s + i - 2) (by omega), hx.resolve_left e20]
      exact OK_T (ix_nI (by omega)) (OK_T rfl (by rw [← ez]; exact fin))
theorem layered_xx {s : Nat} (hs : s < 30) (zz : Int32 × Int32 × (Nat → Int32) × (Nat → Int32) × (Nat → Int32) × (Nat → Int32) × (Nat → Int32) × (Nat → Int32) × (Nat → Int32)) (ez : zz.1 = nI s) {sd : Int32} (esd : zz.2.2.2.2.2.1 s = sd) (vZ vB vL vLC : Nat → Int32) (vRe : Nat → Int64) (vR : Nat → Int32) : ∀ (d i fu : Nat), i + d = 20 → 0 < d → d + 1 < fu → ∀ (A n : Nat) (cv rw1 : Nat → Int64) (N_ : Nat → Nat) (V_ : Nat → Nat → Int64) (wZ wB wL wC : Nat → Int32) (re : Nat → Int64) (wR : Nat → Int32) (co ri go : Nat → Int64), A ≤ 1000 → n ≤ 1000 → AG n co cv → AG A ri rw1 → LyR s sd i N_ V_ wC wL wB → wR s = 0 → LFr s vZ vB vL vLC vRe vR wZ wB wL wC re wR → ¬ (2 ≤ i ∧ n = N_ (i - 2)) →
    OK (mX9_layered_L162 zz fu (nI i) 1 (nI A) (nI n) wZ wB wL wC re wR co ri go) (fun z => LyW s sd vZ vB vL vLC vRe vR (lyB sd d i n cv A rw1 N_ V_) z.2.2.2.2.1 z.2.2.2.2.2.1 z.2.2.2.2.2.2.1 z.2.2.2.2.2.2.2.1 z.2.2.2.2.2.2.2.2.1 z.2.2.2.2.2.2.2.2.2.1) := by
  intro d
  induction d with
  | zero =>
    intro i fu hi h0
    exact absurd h0 (by decide)
  | succ d ih =>
    intro i fu hi h0 hf A n cv rw1 N_ V_ wZ wB wL wC re wR co ri go hA hn hV hW hL hR0 hFr hno
    obtain ⟨fu, rfl⟩ : ∃ q, fu = q + 3 := ⟨fu - 3, by omega⟩
    have hi20 : i < 20 := by omega
    have main : OK ((mX9_lay wZ zz.2.2.2.2.2.1 wB wL wC co zz.1 (nI i) (nI n)).bind fun z259 => (mX9_layered_L268 zz z259 (nI i) (nI A) ri FU (0 : Int32) (0 : Int32) go).bind fun o268 => if o268.2.1 ≤ 0 then ((mX9_layered_L335 (nI n) co FU (0 : Int32) ri).bind fun o335 => (mX9_layered_L369 o268 FU (0 : Int32) co).bind fun o369 => mX9_layered_L162 zz (fu + 2) (nI i + 1) (0 : Int32) (nI n) o268.2.1 z259.1 z259.2.1 z259.2.2.1 z259.2.2.2 re wR o369.2 o335.2 o268.2.2) else ((mX9_layered_L335 (nI n) co FU (0 : Int32) ri).bind fun o335 => (mX9_layered_L369 o268 FU (0 : Int32) co).bind fun o369 => mX9_layered_L162 zz (fu + 2) (nI i + 1) (1 : Int32) (nI n) o268.2.1 z259.1 z259.2.1 z259.2.2.1 z259.2.2.2 re wR o369.2 o335.2 o268.2.2)) (fun z => LyW s sd vZ vB vL vLC vRe vR (lyB sd (d + 1) i n cv A rw1 N_ V_) z.2.2.2.2.1 z.2.2.2.2.2.1 z.2.2.2.2.2.2.1 z.2.2.2.2.2.2.2.1 z.2.2.2.2.2.2.2.2.1 z.2.2.2.2.2.2.2.2.2.1) := by
      rw [ez]
      refine OK_bind (rlay_x hs hi20 hn _ _ _ _ _ _) ?_
      rintro y ⟨e1, e2, e3, e4, e5⟩
      rw [esd] at e5
      have hb : ∀ p, p < 2 ^ szA n → (rbt y.2.1 (20 * s + i) p = true ↔ fS n cv (sd + nI i) (szA n) 3 p) := fun p hp => (e5 p hp).trans ⟨fS_ext hV, fS_ext (AG_s hV)⟩
      have hPx : ∀ x, (∀ j, j < 3 → rbt y.2.1 (20 * s + i) (fP x (zz.2.2.2.2.2.1 s + nI i) (szA n) j) = true) ↔ fL n cv (sd + nI i) (szA n) 3 x := by
        intro x
        rw [esd]
        exact ⟨fun h j hj => (hb _ (fP_lt _ _ _ _)).mp (h j hj), fun h j hj => (hb _ (fP_lt _ _ _ _)).mpr (h j hj)⟩
      have hL1 := LyR_add hL hn e4 hb
      have hF1 := LFr_lay hi20 hFr e4 (nI (i + 1)) (nI (2 ^ szA n)) (nI n)
      rw [← e1, ← e2, ← e3] at hF1
      rw [← e2, ← e3] at hL1
      have hz1 : y.1 s = nI (i + 1) := by rw [e1, ups]
      refine OK_bind (rsift_x hs hi20 (szA_le n).2 hA zz ez y (by rw [e2]; exact ups) ri go hPx) ?_
      rintro o ⟨o1, o2⟩
      rw [fq_ext (fun _ => Iff.rfl) hW] at o1 o2
      obtain ⟨F, hF⟩ : ∃ F, fq (fL n cv (sd + nI i) (szA n) 3) rw1 A = F := ⟨_, rfl⟩
      rw [hF] at o1 o2
      have hle : F.1 ≤ A := by rw [← hF]; exact fq_le _ _ _
      rw [nI_1]
      refine OK_ite (fun q => OK_bind (copy335 hn _ _) (fun u hu => OK_bind (copy369 (n := F.1) (by omega) o o1 _) (fun w hw => ?_))) (fun q => OK_bind (copy335 hn _ _) (fun u hu => OK_bind (copy369 (n := F.1) (by omega) o o1 _) (fun w hw => ?_)))
      · have q0 : F.1 = 0 := by
          rw [o1] at q
          have := (nI_leI (a := F.1) (b := 0) (by omega) (by decide)).mp q
          omega
        rw [lyB_0 hF q0]
        exact layered_dn (Q := fun wZ wB wL wC re wR => LyW s sd vZ vB vL vLC vRe vR (i + 1, va_up N_ i n, va_up V_ i cv, 0, fun _ => 0) wZ wB wL wC re wR) zz _ _ _ _ _ _ _ _ _ _ _ _ ⟨show i + 1 ≤ 20 by omega, hz1, hL1, hR0, fun k hk => absurd hk (Nat.not_lt_zero k), hF1⟩
      · have q0 : ¬ F.1 = 0 := fun e => q (by rw [o1, e]; exact Int32.le_refl _)
        rw [o1]
        have hw2 : AG F.1 w.2 F.2 := AG_t hw o2
        by_cases hx : d = 0 ∨ (1 ≤ i ∧ F.1 = N_ (i - 1))
        · rw [lyB_r hF q0 hx]
          obtain ⟨a1, a2, a3, a4⟩ := hF1
          refine layered_rest (Q := fun wZ wB wL wC re wR => LyW s sd vZ vB vL vLC vRe vR (i + 1, va_up N_ i n, va_up V_ i cv, F.1, F.2) wZ wB wL wC re wR) hs zz ez (i := i + 1) (by omega) (by omega) (by omega) ?_ (fun re1 g1 g2 => ⟨show i + 1 ≤ 20 by omega, hz1, hL1, ups, fun k hk => (g1 k hk).trans (hw2 k hk), fun q hq => ⟨(a1 q hq).1, (upo hq).trans (a1 q hq).2⟩, a2, a3, fun r hr => (g2 r hr).trans (a4 r hr)⟩)
          rcases hx with hx | ⟨hx, hx2⟩
          · exact Or.inl (by omega)
          · refine Or.inr ?_
            rw [e3, show 20 * s + (i + 1) - 2 = 20 * s + (i - 1) by omega, upo (show 20 * s + (i - 1) ≠ 20 * s + i by omega), (hL (i - 1) (by omega)).2.1, hx2]
        · rw [lyB_s hF q0 hx]
          have hd : 0 < d := Nat.pos_of_ne_zero (fun e => hx (Or.inl e))
          refine ih (i + 1) (fu + 2) (by omega) hd (by omega) n F.1 F.2 cv _ _ _ _ _ _ re wR w.2 u.2 o.2.2 hn (by omega) hw2 (AG_t hu hV) hL1 hR0 hF1 (fun c => hx (Or.inr ⟨by omega, ?_⟩))
          rw [c.2, show i + 1 - 2 = i - 1 by omega, va_up_ne _ _ (show i - 1 ≠ i by omega)]
    rw [mX9_layered_L162]
    refine OK_F (by decide) (OK_F (fun q => by have := (nI_eq (a := i) (b := 20) (by omega) (by decide)).mp q; omega) (OK_ite (fun _ => main) (fun h1 => ?_)))
    have hi2 : 2 ≤ i := Nat.le_of_not_lt (fun q => h1 (nI_le (b := 1) (by omega) (by decide)))
    have hN2 := hL (i - 2) (by omega)
    rw [ez, m20, show nI (20 * s + i) - (2 : Int32) = nI (20 * s + i - 2) from pk_sub (b := 2) (by omega), clN (k := 20 * s + i - 2) (by omega), show 20 * s + i - 2 = 20 * s + (i - 2) by omega, hN2.2.1]
    have hN3 := hN2.1
    exact OK_T (ix_nI (by omega)) (OK_F (fun q => hno ⟨hi2, (nI_eq (by omega) (by omega)).mp q⟩) (by rw [← ez]; exact main))
/-- the rivals at first -/
noncomputable def rvl (N : Nat) (v : Nat → Int64) (U : Nat) (u : Nat → Int64) : Nat × (Nat → Int64) := fq (fun x => ¬ memW N v x) u U
theorem rvl_ext {N U : Nat} {v w u y : Nat → Int64} (h : AG N v w) (h2 : AG U u y) : rvl N v U u = rvl N w U y := fq_ext (fun x => by rw [AG_m h]) h2
noncomputable def lyA (sd : Int32) (N : Nat) (v : Nat → Int64) (U : Nat) (u : Nat → Int64) : Nat × (Nat → Nat) × (Nat → Nat → Int64) × Nat × (Nat → Int64) := lyB sd 20 0 N v (rvl N v U u).1 (rvl N v U u).2 (fun _ => 0) (fun _ _ => 0)
theorem rlayered_y {M : Nat} (hM : M ≤ 30) {w u N U : Nat} (hw : w < 8) (hu : u < 8) (hN : N ≤ 1000) (hU : U ≤ 1000) {vIW : Nat → Int32} (eW : vIW w = nI N) (eU : vIW u = nI U) (vW : Nat → Int64) {v uv : Nat → Int64} (hv : AG N (wOf vW w) v) (huv : AG U (wOf vW u) uv) (vK vZ vM vS : Nat → Int32) (vCt : Nat → Int64) (vC vRow vB vL vLC : Nat → Int32) (vRe : Nat → Int64) (vR : Nat → Int32) (vCo vRi vGo : Nat → Int64) (sd : Int32) : OK (mX9_layered (nI M) vW vIW vK vZ vM vS vCt vC vRow vB vL vLC vRe vR vCo vRi vGo (nI w) (nI u) sd) (fun z => z.1 = nI M → AG N (slC z.2.2.2.2.2.2.1 M) v ∧ LyW M sd (upd vZ M 0) vB vL vLC vRe (upd vR M 0) (lyA sd N v U uv) z.2.2.2.1 z.2.2.2.2.2.2.2.2.2.1 z.2.2.2.2.2.2.2.2.2.2.1 z.2.2.2.2.2.2.2.2.2.2.2.1 z.2.2.2.2.2.2.2.2.2.2.2.2.1 z.2.2.2.2.2.2.2.2.2.2.2.2.2.1) := by
  unfold mX9_layered
  refine OK_be (isW1 hw) (OK_F (by decide) (OK_be (isW1 hu) (OK_F (by decide) (OK_ite (fun q => OK_some (fun e => absurd e.symm (nMn hM (show (-4 : Int32) < 0 by decide)))) (fun q => OK_be (rbegin_v (m30 hM q) _ _ _ _ _ _ _ _ _ _ _) (OK_bind (fillFrom_x (m30 hM q) hw hN eW vW vCt _) (fun x hx => OK_T (ix_nI hw) (OK_bind (P := fun z => AG N z.2 v) ?_ (fun o59 h59 => OK_bind (P := fun z => IsF (fun x => ¬ memW N (wOf vW w) x) (wOf vW u) U z.2.1 z.2.2) ?_ ?_)))))))))
  · refine OK_for (fun fu k (c : Nat → Int64) => mX9_layered_L59 vW vIW (nI w) fu k c) N (by omega) (fun k c => AG k c v) _ (s := vCo) (fun j hj => absurd hj (Nat.not_lt_zero j)) ?_ ?_
    · intro fu c hc
      show OK (mX9_layered_L59 vW vIW (nI w) (fu + 1) (nI N) c) _
      rw [mX9_layered_L59, clN (k := w) (by omega), eW]
      exact OK_T (Int32.le_refl _) (OK_some hc)
    · intro fu k c hk hc ih
      show OK (mX9_layered_L59 vW vIW (nI w) (fu + 1) (nI k) c) _
      rw [mX9_layered_L59, clN (k := w) (by omega), eW, m1000, nI_s, clN (k := k) (by omega), clN (k := 1000 * w + k) (by omega)]
      refine OK_F (nI_ge hk (by omega)) (OK_T (ix_nI (by omega)) (OK_T (ix_nI (by omega)) (ih _ (fun j hj => ?_))))
      by_cases e : j = k
      · rw [e, pk_uLs]
        exact hv k hk
      · rw [pk_uLn e]
        exact hc j (by omega)
  · refine OK_for (fun fu k (c : Int32 × (Nat → Int64)) => mX9_layered_L95 vW vIW (nI w) (nI u) fu k c.1 c.2) U (by omega) (fun k c => IsF (fun x => ¬ memW N (wOf vW w) x) (wOf vW u) k c.1 c.2) _ (s := (0, vRi)) (IsF_0 _ _ _) ?_ ?_
    · rintro fu ⟨c1, c2⟩ hc
      show OK (mX9_layered_L95 vW vIW (nI w) (nI u) (fu + 1) (nI U) c1 c2) _
      rw [mX9_layered_L95, clN (k := u) (by omega), eU]
      exact OK_T (ix_nI hu) (OK_T (Int32.le_refl _) (OK_some hc))
    · rintro fu k ⟨c1, c2⟩ hk hc ih
      show OK (mX9_layered_L95 vW vIW (nI w) (nI u) (fu + 1) (nI k) c1 c2) _
      dsimp only at hc
      have hle := fq_le (fun x => ¬ memW N (wOf vW w) x) (wOf vW u) k
      rw [mX9_layered_L95, clN (k := u) (by omega), eU, m1000, nI_s, clN (k := 1000 * u + k) (by omega)]
      refine OK_T (ix_nI hu) (OK_F (nI_ge hk (by omega)) (OK_T (ix_nI (by omega)) (OK_bind (rplace_v hw hN eW vW _) ?_)))
      have ew : vW (1000 * u + k) = wOf vW u k := rfl
      rw [ew]
      rintro z (⟨rfl, h⟩ | ⟨c, hcn, rfl, h⟩)
      · refine OK_F (by decide) (OK_T (ix_nI (by omega)) ?_)
        rw [hc.1, nI_1, clN (k := (fq (fun x => ¬ memW N (wOf vW w) x) (wOf vW u) k).1) (by omega)]
        exact OK_T (ix_nI (by omega)) (ih (_, _) (IsF_y hc h))
      · exact OK_T (nI_pos' (by omega)) (ih (c1, c2) (IsF_n hc (fun w => w ⟨c, hcn, h⟩)))
  · rintro o ⟨o1, o2⟩
    have er : fq (fun x => ¬ memW N (wOf vW w) x) (wOf vW u) U = rvl N v U uv := rvl_ext hv huv
    rw [er] at o1 o2
    have hle : (rvl N v U uv).1 ≤ U := fq_le _ _ _
    rw [o1, clN (k := w) (by omega), eW]
    refine OK_bind (layered_xx (m30 hM q) _ rfl (sd := sd) ups (upd vZ M 0) vB vL vLC vRe (upd vR M 0) 20 0 FU (by decide) (by decide) (by decide) _ N v (rvl N v U uv).2 (fun _ => 0) (fun _ _ => 0) _ _ _ _ _ _ _ _ _ (by omega) hN h59 o2 (fun j hj => absurd hj (Nat.not_lt_zero j)) ups (LFr_r _ _ _ _ _ _ _) (fun c => absurd c.1 (by decide))) (fun z hz => OK_some (fun _ => ⟨AG_t hx.2.2 hv, hz⟩))
/-! the class's new LAYERED one -/
theorem slayered_y {N U : Nat} (hN : N ≤ 1000) (hU : U ≤ 1000) {wv uv : Nat → Int64} (hw : worldR wv N) (hu : worldR uv U) {sd_ : Int32} {v4 v5 v1 v2 v3 rv0 rv : Nat → Int64} {n1 n2 n3 lc lsd rn : Int32} {kca0 kca lz0 lz : Nat → Int32} {ld0 ld : Nat → Nat → Int64} (h1 : mX0_copyFrom v4 (nI N) wv = some (n1, v1)) (h2 : mX0_becomeWithout v5 (nI U) uv (nI N) wv = some (n2, v2)) (h3 : mX3_build kca0 rv0 lz0 ld0 n1 v1 n2 v2 n3 v3 sd_ = some (lc, lsd, kca, rn, rv, lz, ld)) : LyZ sd_ (lyA sd_ N wv U uv) lc lsd kca rn rv lz ld := by
  rw [bag_cpy hN] at h1
  have hv1 := Option.some.inj h1
  have e1 : nI N = n1 := congrArg Prod.fst hv1
  have e2 : va_cpy wv v4 0 0 N = v1 := congrArg Prod.snd hv1
  obtain ⟨o1, o2⟩ := OK_use (without_y hU hN v5 uv wv hw) h2
  dsimp only at o1 o2
  have hle : (rvl N wv U uv).1 ≤ U := fq_le _ _ _
  have key : OK (mX3_build kca0 rv0 lz0 ld0 n1 v1 n2 v2 n3 v3 sd_) (fun z => LyZ sd_ (lyA sd_ N wv U uv) z.1 z.2.1 z.2.2.1 z.2.2.2.1 z.2.2.2.2.1 z.2.2.2.2.2.1 z.2.2.2.2.2.2) := by
    unfold mX3_build
    rw [← e1, o1]
    exact OK_be rfl (build_x sd_ rv0 20 0 FU (by decide) (by decide) (by decide) N (rvl N wv U uv).1 wv (rvl N wv U uv).2 (fun _ => 0) (fun _ _ => 0) _ _ _ v1 v2 _ _ hN (by omega) hw.rising (fq_ris hu.rising).1 (by rw [← e2]; exact AG_cpy wv v4) o2 (fun j hj => absurd hj (Nat.not_lt_zero j)))
  have hk := OK_use key h3
  exact hk
