/-! ===== the reference's putAll, exact in the cells ===== -/
theorem RowIs_self {s : Nat} {r0 r f : Nat → Int32} (h : RowIs s r0 r f) : RowIs s r r f := ⟨h.1, fun _ _ => rfl⟩
theorem RowIs_t {s : Nat} {r0 r r' f f' : Nat → Int32} (h : RowIs s r0 r f) (h2 : RowIs s r r' f') : RowIs s r0 r' f' := ⟨h2.1, fun q hq => (h2.2 q hq).trans (h.2 q hq)⟩
def PaR (s : Nat) (wv : Nat → Int64) (i n : Nat) (vC : Nat → Int32) (vCt : Nat → Int64) (row0 : Nat → Int32) (p : Nat × (Nat → Int32)) (C1 : Nat → Int32) (Ct1 : Nat → Int64) (row1 : Nat → Int32) : Prop := i ≤ p.1 ∧ n + (p.1 - i) ≤ 1000 ∧ FrC s vC vCt C1 Ct1 ∧ C1 s = nI (n + (p.1 - i)) ∧ (∀ t, cB (n + (p.1 - i)) (slC Ct1 s) t = cB n (slC vCt s) t + cB (p.1 - i) (fun j => wv (i + j)) t) ∧ RowIs s row0 row1 p.2
theorem PaR_0 {s : Nat} {wv : Nat → Int64} {i n : Nat} {vC : Nat → Int32} {vCt : Nat → Int64} {row0 row kc : Nat → Int32} (hn : n ≤ 1000) (en : vC s = nI n) (hR : RowIs s row0 row kc) : PaR s wv i n vC vCt row0 (i, kc) vC vCt row := by
  unfold PaR
  dsimp only
  rw [Nat.sub_self, Nat.add_zero]
  exact ⟨Nat.le_refl _, hn, FrC_r _ _ _, en, fun t => rfl, hR⟩
theorem PaR_s {s : Nat} {wv : Nat → Int64} {i n : Nat} {vC : Nat → Int32} {vCt : Nat → Int64} {row0 : Nat → Int32} {p : Nat × (Nat → Int32)} {C1 : Nat → Int32} {Ct1 : Nat → Int64} {row1 : Nat → Int32} (hn : n < 1000) (H : PaR s wv (i + 1) (n + 1) (upd vC s (nI (n + 1))) (vp_updL vCt (1000 * s + n) (wv i)) row0 p C1 Ct1 row1) : PaR s wv i n vC vCt row0 p C1 Ct1 row1 := by
  obtain ⟨h1, h2, h3, h4, h5, h6⟩ := H
  have e : n + (p.1 - i) = n + 1 + (p.1 - (i + 1)) := by omega
  refine ⟨by omega, by omega, FrC_t (fun q hq => ⟨upo hq, slC_o hq hn⟩) h3, by rw [e]; exact h4, fun t => ?_, h6⟩
  rw [e, h5 t, cB_push, show p.1 - i = 1 + (p.1 - (i + 1)) by omega, cB_add, show cB 1 (fun j => wv (i + j)) t = if wv i = t then 1 else 0 by rw [cB_s, cB_0, Nat.zero_add]; rfl, show (fun j => (fun j => wv (i + j)) (1 + j)) = (fun j => wv (i + 1 + j)) by funext j; show wv (i + (1 + j)) = wv (i + 1 + j); rw [Nat.add_assoc]]
  omega
theorem putAllR_x {vW : Nat → Int64} {vIW vK vZ vM : Nat → Int32} {s w a m N : Nat} (hs : s < 30) (hw : w < 8) (hN : N ≤ 1000) (eW : vIW w = nI N) (ha : a ≤ 12) (ha2 : vK s = 2 → a ≤ 8) (hm : m ≤ 8) (eZ : vZ s = nI (2 ^ a)) (eM : vM s = nI m) (vS row0 : Nat → Int32) : ∀ (d i n fu : Nat) (vCt : Nat → Int64) (vC row kept kc : Nat → Int32), i + d = N → d < fu → n ≤ 1000 → vC s = nI n → RowIs s row0 row kc → OK (mX9_putAll_L32 vW vIW vK vZ vM vS (nI s) (nI w) fu (nI i) vCt vC row kept) (fun z => z.1 = nI (pAl (vK s) a m (vS s) (wOf vW w) d i kc n).1 ∧ PaR s (wOf vW w) i n vC vCt row0 (pAl (vK s) a m (vS s) (wOf vW w) d i kc n) z.2.2.1 z.2.1 z.2.2.2.1) := by
  intro d
  induction d with
  | zero =>
    intro i n fu vCt vC row kept kc hi hf hn en hR
    obtain ⟨fu, rfl⟩ : ∃ q, fu = q + 1 := ⟨fu - 1, by omega⟩
    obtain rfl : i = N := by omega
    rw [mX9_putAll_L32, clN (k := w) (by omega), eW]
    exact OK_T (ix_nI hw) (OK_T (Int32.le_refl _) (OK_some ⟨rfl, PaR_0 hn en hR⟩))
  | succ d ih =>
    intro i n fu vCt vC row kept kc hi hf hn en hR
    obtain ⟨fu, rfl⟩ : ∃ q, fu = q + 1 := ⟨fu - 1, by omega⟩
    rw [mX9_putAll_L32, clN (k := w) (by omega), eW, m1000, nI_s, clN (k := 1000 * w + i) (by omega)]
    refine OK_T (ix_nI hw) (OK_F (nI_ge (by omega) (by omega)) (OK_T (ix_nI (by omega)) (OK_bind (doPut_y hs ha ha2 hm eZ eM ⟨n, hn, en⟩ vS vCt (RowIs_self hR) kept _) ?_)))
    have ew : vW (1000 * w + i) = wOf vW w i := rfl
    rw [ew]
    rintro z (⟨h1, z1, z2, z3, z4⟩ | ⟨n', hn', en', ⟨e, z1, z2, z3, z4⟩ | ⟨f, e, z1, z2, z3, z4⟩⟩)
    · have h1000 : n = 1000 := (nI_eq (by omega) (by omega)).mp (en.symm.trans h1)
      refine OK_T (by rw [z1]; decide) (OK_some ?_)
      rw [pAl_f h1000]
      dsimp only
      rw [z2, z3, z4]
      exact ⟨rfl, PaR_0 hn en hR⟩
    · have hnn : n' = n := (nI_eq (by omega) (by omega)).mp (en'.symm.trans en)
      subst hnn
      refine OK_T (by rw [z1]; decide) (OK_some ?_)
      rw [pAl_c (by omega) e]
      dsimp only
      rw [z2, z3]
      exact ⟨rfl, PaR_0 hn en (RowIs_t hR z4)⟩
    · have hnn : n' = n := (nI_eq (by omega) (by omega)).mp (en'.symm.trans en)
      subst hnn
      refine OK_F (by rw [z1]; exact nI_nle (by omega) (by omega)) ?_
      rw [pAl_s (by omega) e, z2, z3]
      exact OK_mono (ih (i + 1) (n' + 1) fu _ _ z.2.2.2.1 z.2.2.2.2 f (by omega) (by omega) (by omega) ups (RowIs_t hR z4)) (fun y hy => ⟨hy.1, PaR_s hn' hy.2⟩)
/-! ===== who passes: kinds MARKED, COUNTED, NESTED ===== -/
def fpl (a : Nat) (mx : Int64) (kc : Nat → Int32) : Option Nat := if fz kc (nestN (nM mx) a 0) (nI (tagN (nM mx))) < 4 then some (4 * nestN (nM mx) a 0 + fz kc (nestN (nM mx) a 0) (nI (tagN (nM mx)))) else if fz kc (nestN (nM mx) a 1) (nI (tagN (nM mx))) < 4 then some (4 * nestN (nM mx) a 1 + fz kc (nestN (nM mx) a 1) (nI (tagN (nM mx)))) else none
theorem fpl_lt {a : Nat} (ha : a ≤ 8) {mx : Int64} {kc : Nat → Int32} {p : Nat} (h : fpl a mx kc = some p) : p < 1024 := by
  have hp := pow_up ha
  have l1 := nestN_lt (nM mx) a 0
  have l2 := nestN_lt (nM mx) a 1
  unfold fpl at h
  by_cases q1 : fz kc (nestN (nM mx) a 0) (nI (tagN (nM mx))) < 4
  · rw [if_pos q1] at h
    have := Option.some.inj h
    omega
  · rw [if_neg q1] at h
    by_cases q2 : fz kc (nestN (nM mx) a 1) (nI (tagN (nM mx))) < 4
    · rw [if_pos q2] at h
      have := Option.some.inj h
      omega
    · rw [if_neg q2] at h
      exact absurd h (by simp)
theorem find_x {a : Nat} (ha : a ≤ 8) (kc : Nat → Int32) (mx : Int64) : mX5_find (nI (2 ^ a)) kc mx = some ((fpl a mx kc).elim (-1) (fun p => nI p)) := by
  have hp := pow_up ha
  have l1 := nestN_lt (nM mx) a 0
  have l2 := nestN_lt (nM mx) a 1
  unfold mX5_find fpl
  rw [tag_c, sb_, fnest_x ha, sb_, findIn_x (by omega), sb_]
  by_cases q1 : fz kc (nestN (nM mx) a 0) (nI (tagN (nM mx))) < 4
  · rw [if_pos q1, if_pos q1, if_neg (nI_pos (by omega))]
    rfl
  · rw [if_neg q1, if_neg q1, if_pos (by decide), snest_x ha, sb_, findIn_x (by omega), sb_]
    by_cases q2 : fz kc (nestN (nM mx) a 1) (nI (tagN (nM mx))) < 4
    · rw [if_pos q2, if_pos q2]
      rfl
    · rw [if_neg q2, if_neg q2]
      rfl
/-- the same place, seen from the reference: the k-th of the eight -/
theorem fpl_R {s a : Nat} {mx : Int64} {row0 row kc : Nat → Int32} (ha : a ≤ 8) (hR : RowIs s row0 row kc) : (∀ p, fpl a mx kc = some p → ∃ k, k < 8 ∧ nestAt s (nM mx) a k = 4096 * s + p ∧ row (nestAt s (nM mx) a k) = nI (tagN (nM mx)) ∧ ∀ j, j < k → ¬ row (nestAt s (nM mx) a j) = nI (tagN (nM mx))) ∧ (fpl a mx kc = none → ∀ k, k < 8 → ¬ row (nestAt s (nM mx) a k) = nI (tagN (nM mx))) := by
  have hp := pow_up ha
  have l1 := nestN_lt (nM mx) a 0
  have l2 := nestN_lt (nM mx) a 1
  obtain ⟨g1, g2, g3⟩ := fz_ex kc (nestN (nM mx) a 0) (nI (tagN (nM mx)))
  obtain ⟨k1, k2, k3⟩ := fz_ex kc (nestN (nM mx) a 1) (nI (tagN (nM mx)))
  have at0 : ∀ j, j < 4 → nestAt s (nM mx) a j = 4096 * s + (4 * nestN (nM mx) a 0 + j) := by
    intro j hj
    unfold nestAt
    rw [show j / 4 = 0 by omega, show j % 4 = j by omega]
    show 4096 * s + 4 * nestN (nM mx) a 0 + j = _
    omega
  have at1 : ∀ j, j < 4 → nestAt s (nM mx) a (4 + j) = 4096 * s + (4 * nestN (nM mx) a 1 + j) := by
    intro j hj
    unfold nestAt
    rw [show (4 + j) / 4 = 1 by omega, show (4 + j) % 4 = j by omega]
    show 4096 * s + 4 * nestN (nM mx) a 1 + j = _
    omega
  have r0 : ∀ j, j < 4 → row (nestAt s (nM mx) a j) = kc (4 * nestN (nM mx) a 0 + j) := fun j hj => by rw [at0 j hj]; exact hR.1 _ (by omega)
  have r1 : ∀ j, j < 4 → row (nestAt s (nM mx) a (4 + j)) = kc (4 * nestN (nM mx) a 1 + j) := fun j hj => by rw [at1 j hj]; exact hR.1 _ (by omega)
  unfold fpl
  by_cases q1 : fz kc (nestN (nM mx) a 0) (nI (tagN (nM mx))) < 4
  · rw [if_pos q1]
    refine ⟨fun p h => ⟨fz kc (nestN (nM mx) a 0) (nI (tagN (nM mx))), by omega, ?_, ?_, fun j hj => ?_⟩, fun h => absurd h (by simp)⟩
    · rw [at0 _ q1, Option.some.inj h]
    · rw [r0 _ q1]
      exact g3 q1
    · rw [r0 _ (by omega)]
      exact g2 j hj
  · have n0 : ∀ j, j < 4 → ¬ row (nestAt s (nM mx) a j) = nI (tagN (nM mx)) := fun j hj => by rw [r0 j hj]; exact g2 j (by omega)
    rw [if_neg q1]
    by_cases q2 : fz kc (nestN (nM mx) a 1) (nI (tagN (nM mx))) < 4
    · rw [if_pos q2]
      refine ⟨fun p h => ⟨4 + fz kc (nestN (nM mx) a 1) (nI (tagN (nM mx))), by omega, ?_, ?_, fun j hj => ?_⟩, fun h => absurd h (by simp)⟩
      · rw [at1 _ q2, Option.some.inj h]
      · rw [r1 _ q2]
        exact k3 q2
      · rcases Nat.lt_or_ge j 4 with w | w
        · exact n0 j w
        · obtain ⟨i, rfl⟩ : ∃ i, j = 4 + i := ⟨j - 4, by omega⟩
          rw [r1 i (by omega)]
          exact k2 i (by omega)
    · rw [if_neg q2]
      refine ⟨fun p h => absurd h (by simp), fun _ k hk => ?_⟩
      rcases Nat.lt_or_ge k 4 with w | w
      · exact n0 k w
      · obtain ⟨i, rfl⟩ : ∃ i, k = 4 + i := ⟨k - 4, by omega⟩
        rw [r1 i (by omega)]
        exact k2 i (by omega)
def LtK (kd : Int32) (a m : Nat) (mx : Int64) (kc : Nat → Int32) : Prop := (kd = 2 → ¬ fpl a mx kc = none) ∧ (¬ kd = 2 → ∀ j, j < m → ¬ kc (mpl mx a j) = 0)
theorem passK_x {kd : Int32} (hk : kd = 0 ∨ kd = 1 ∨ kd = 2) {a m : Nat} (ha : a ≤ 12) (ha2 : kd = 2 → a ≤ 8) (hm : m ≤ 8) (sd : Int32) (kc : Nat → Int32) (t : Int64) : OK (mX6_passesG kd (nI (2 ^ a)) (nI m) sd kc t) (fun z => (z = 1 ∧ LtK kd a m (mixV t sd) kc) ∨ (z = 0 ∧ ¬ LtK kd a m (mixV t sd) kc)) := by
  have n4 : ¬ kd = 4 := by
    rcases hk with rfl | rfl | rfl
    · decide
    · decide
    · decide
  have n3 : ¬ kd = 3 := by
    rcases hk with rfl | rfl | rfl
    · decide
    · decide
    · decide
  unfold mX6_passesG
  refine OK_F n4 (OK_be (mix_c t sd) (OK_ite (fun h2 => OK_be (find_x (ha2 h2) kc _) ?_) (fun h2 => OK_F n3 (OK_bind (marks_x ha hm kc _) ?_))))
  · rcases e : fpl a (mixV t sd) kc with _ | p
    · exact OK_T (show (-1 : Int32) < 0 by decide) (OK_some (Or.inr ⟨rfl, fun w => w.1 h2 e⟩))
    · have hp := fpl_lt (ha2 h2) e
      exact OK_F (show ¬ nI p < 0 from nI_pos (by omega)) (OK_some (Or.inl ⟨rfl, fun _ => by rw [e]; simp, fun w => absurd h2 w⟩))
  · rintro z (⟨rfl, h⟩ | ⟨rfl, h⟩)
    · exact OK_T (Or.inr rfl) (OK_some (Or.inl ⟨rfl, fun w => absurd w h2, fun _ => h⟩))
    · exact OK_T (Or.inl rfl) (OK_some (Or.inr ⟨rfl, fun w => h (w.2 h2)⟩))
theorem letsR_x {vK vZ vM vS row vB vL vR : Nat → Int32} {vRe : Nat → Int64} {s a m : Nat} (hs : s < 30) (hk : vK s = 0 ∨ vK s = 1 ∨ vK s = 2) (ha : a ≤ 12) (ha2 : vK s = 2 → a ≤ 8) (hm : m ≤ 8) (eZ : vZ s = nI (2 ^ a)) (eM : vM s = nI m) {row0 kc : Nat → Int32} (hR : RowIs s row0 row kc) (hc : ¬ vK s = 2 → C15 kc) (t : Int64) : OK (mX9_letsThrough vK vZ vM vS row vB vL vRe vR (nI s) t) (fun z => (z = 1 ∧ LtK (vK s) a m (mixV t (vS s)) kc) ∨ (z = 0 ∧ ¬ LtK (vK s) a m (mixV t (vS s)) kc)) := by
  have i30 := ix_nI (k := s) (n := 30) hs
  have n4 : ¬ vK s = 4 := by
    rcases hk with h | h | h
    · rw [h]; decide
    · rw [h]; decide
    · rw [h]; decide
  have n3 : ¬ vK s = 3 := by
    rcases hk with h | h | h
    · rw [h]; decide
    · rw [h]; decide
    · rw [h]; decide
  unfold mX9_letsThrough
  rw [clN (k := s) (by omega)]
  refine OK_T i30 (OK_be (mix_r _ _) (OK_T i30 (OK_F n4 (OK_T i30 (OK_F n3 (OK_T i30 (OK_ite (fun h2 => OK_bind (nest01 hs (ha2 h2) eZ t) ?_) (fun h2 => OK_bind (marksR_x hs ha hm eZ eM row _) ?_))))))))
  · obtain ⟨g1, g2⟩ := fpl_R (mx := mixV t (vS s)) (ha2 h2) hR
    rintro z (⟨e, h⟩ | ⟨e, k, hk8, h⟩)
    · refine OK_T (Or.inl e) (OK_some (Or.inr ⟨e, fun w => w.1 h2 ?_⟩))
      rcases ep : fpl a (mixV t (vS s)) kc with _ | p
      · rfl
      · obtain ⟨k, hk8, -, hit, -⟩ := g1 p ep
        exact absurd hit (h k hk8)
    · exact OK_T (Or.inr e) (OK_some (Or.inl ⟨e, fun _ w => g2 w k hk8 h, fun w => absurd h2 w⟩))
  · have eqv := marks_eq (s := s) (m := m) ha (hc h2) (fun i hi => (hR.1 i hi).symm) (mixV t (vS s))
    rintro z (⟨e, h⟩ | ⟨e, h⟩)
    · exact OK_T (Or.inr e) (OK_some (Or.inl ⟨e, fun w => absurd w h2, fun _ => eqv.mpr h⟩))
    · exact OK_T (Or.inl e) (OK_some (Or.inr ⟨e, fun w => h (eqv.mp (w.2 h2))⟩))
/-! ===== drop ===== -/
theorem cB_upd {m k : Nat} (hk : k < m) (v : Nat → Int64) (x t : Int64) : cB m (vp_updL v k x) t + (if v k = t then 1 else 0) = cB m v t + (if x = t then 1 else 0) := by
  induction m with
  | zero => exact absurd hk (Nat.not_lt_zero k)
  | succ m ih =>
    rw [cB_s, cB_s]
    rcases Nat.lt_or_ge k m with w | w
    · have := ih w
      rw [pk_uLn (show m ≠ k by omega)]
      omega
    · obtain rfl : k = m := by omega
      rw [pk_uLs, cB_ext (u := vp_updL v k x) (v := v) (fun i hi => pk_uLn (by omega))]
      omega
theorem cB_swap {n k : Nat} (hk : k < n) (v : Nat → Int64) (t : Int64) : cB (n - 1) (vp_updL v k (v (n - 1))) t + (if v k = t then 1 else 0) = cB n v t := by
  obtain ⟨m, rfl⟩ : ∃ m, n = m + 1 := ⟨n - 1, by omega⟩
  rw [Nat.add_sub_cancel, cB_s]
  rcases Nat.lt_or_ge k m with w | w
  · exact cB_upd w v (v m) t
  · obtain rfl : k = m := by omega
    rw [cB_ext (u := vp_updL v k (v k)) (v := v) (fun i hi => pk_uLn (by omega))]
theorem slC_u {vCt : Nat → Int64} {s k : Nat} {x : Int64} : slC (vp_updL vCt (1000 * s + k) x) s = vp_updL (slC vCt s) k x := by
  funext i
  unfold slC
  by_cases e : i = k
  · subst e
    rw [pk_uLs, pk_uLs]
  · rw [pk_uLn (show 1000 * s + i ≠ 1000 * s + k by omega), pk_uLn e]
theorem rfind_x {s n : Nat} (hs : s < 30) (hn : n ≤ 1000) {vC : Nat → Int32} (en : vC s = nI n) (vCt : Nat → Int64) (t : Int64) : OK (mX9_drop_L236 vCt vC (nI s) t FU 0) (fun z => (∃ k, k < n ∧ z = nI k ∧ slC vCt s k = t) ∨ (z = nI n ∧ ∀ k, k < n → ¬ slC vCt s k = t)) := by
  refine OK_for (fun fu k (_ : Unit) => mX9_drop_L236 vCt vC (nI s) t fu k) n (by omega) (fun k _ => ∀ j, j < k → ¬ slC vCt s j = t) _ (s := ()) (fun j hj => absurd hj (Nat.not_lt_zero j)) ?_ ?_
  · intro fu _ h
    show OK (mX9_drop_L236 vCt vC (nI s) t (fu + 1) (nI n)) _
    rw [mX9_drop_L236, clN (k := s) (by omega), en]
    exact OK_T (ix_nI hs) (OK_T (Int32.le_refl _) (OK_some (Or.inr ⟨rfl, h⟩)))
  · intro fu k _ hk h ih
    show OK (mX9_drop_L236 vCt vC (nI s) t (fu + 1) (nI k)) _
    rw [mX9_drop_L236, clN (k := s) (by omega), en, m1000, nI_s, clN (k := 1000 * s + k) (by omega)]
    refine OK_T (ix_nI hs) (OK_F (nI_ge hk (by omega)) (OK_T (ix_nI (by omega)) (OK_ite (fun q => OK_some (Or.inl ⟨k, hk, rfl, (lg_cmp_eq _ _).mp q⟩)) (fun q => ih () (fun j hj => ?_)))))
    rcases Nat.lt_succ_iff_lt_or_eq.mp hj with w | w
    · exact h j w
    · subst w
      exact fun e => q ((lg_cmp_eq _ _).mpr e)
/-- the cells after a thing has gone -/
def DrK (g : Int32 → Int32) (kd : Int32) (a m : Nat) (mx : Int64) (kc : Nat → Int32) : Nat → Int32 := if kd = 2 then (fpl a mx kc).elim kc (fun p => upd kc p 0) else rz (mpl mx a) g m kc
theorem DrK_2 {g : Int32 → Int32} {kd : Int32} (h : kd = 2) {a : Nat} (m : Nat) {mx : Int64} {kc : Nat → Int32} {p : Nat} (e : fpl a mx kc = some p) : DrK g kd a m mx kc = upd kc p 0 := by
  unfold DrK
  rw [if_pos h, e]
  rfl
theorem DrK_1 {g : Int32 → Int32} {kd : Int32} (h : ¬ kd = 2) (a m : Nat) (mx : Int64) (kc : Nat → Int32) : DrK g kd a m mx kc = rz (mpl mx a) g m kc := if_neg h
theorem Dr_eq {kd : Int32} {a : Nat} (ha : a ≤ 12) (m : Nat) (mx : Int64) {kc : Nat → Int32} (hc : ¬ kd = 2 → C15 kc) : DrK lwC kd a m mx kc = DrK lwR kd a m mx kc ∧ (¬ kd = 2 → C15 (DrK lwC kd a m mx kc)) := by
  by_cases h2 : kd = 2
  · refine ⟨?_, fun w => absurd h2 w⟩
    unfold DrK
    rw [if_pos h2, if_pos h2]
  · obtain ⟨e1, e2⟩ := rz_eq (pl := mpl mx a) (mpl_w mx ha) lw15' (hc h2) m
    rw [DrK_1 h2, DrK_1 h2]
    exact ⟨e2, fun _ => e1⟩
/-- one of t less, if there is one -/
def LsC (n : Nat) (v : Nat → Int64) (t : Int64) (n1 : Nat) (v1 : Nat → Int64) : Prop := (cB n v t = 0 ∧ n1 = n ∧ ∀ u, cB n1 v1 u = cB n v u) ∨ (0 < cB n v t ∧ 0 < n ∧ n1 = n - 1 ∧ ∀ u, cB n1 v1 u + (if t = u then 1 else 0) = cB n v u)
theorem take_y {n : Nat} (hn : n ≤ 1000) {v : Nat → Int64} (hr : rising v n) (t : Int64) : OK (mX0_takeOne (nI n) v t) (fun z => ∃ n1, n1 ≤ n ∧ z.2.1 = nI n1 ∧ rising z.2.2 n1 ∧ LsC n v t n1 z.2.2) := by
  by_cases h : cb v n t < n ∧ v (cb v n t) = t
  · refine OK_eq (bag_take1 hn h) ⟨n - 1, by omega, rfl, delR_rising hr h.1, Or.inr ⟨cB_pos.mpr ⟨_, h.1, h.2⟩, by omega, rfl, fun u => ?_⟩⟩
    have := cB_del h.1 (v := v) (t := u)
    rw [h.2] at this
    exact this
  · refine OK_eq (bag_take0 hn h) ⟨n, Nat.le_refl _, rfl, hr, Or.inl ⟨cB_none (fun i hi e => h ((has_iff hr hn).mpr ⟨i, hi, e⟩)), rfl, fun u => rfl⟩⟩
def DpC (kd : Int32) (a m : Nat) (mx : Int64) (kc : Nat → Int32) (n : Nat) (v : Nat → Int64) (t : Int64) (z : Int32 × (Nat → Int32) × Int32 × (Nat → Int64)) : Prop := (¬ LtK kd a m mx kc ∧ z = (-5, kc, nI n, v)) ∨ (LtK kd a m mx kc ∧ ∃ n1, n1 ≤ n ∧ z.1 = nI n1 ∧ z.2.1 = DrK lwC kd a m mx kc ∧ z.2.2.1 = nI n1 ∧ rising z.2.2.2 n1 ∧ LsC n v t n1 z.2.2.2)
theorem sdrop_y {kd : Int32} (hk : kd = 1 ∨ kd = 2) {a m n : Nat} (ha : a ≤ 12) (ha2 : kd = 2 → a ≤ 8) (hm : m ≤ 8) (hn : n ≤ 1000) (sd : Int32) (kc : Nat → Int32) {v : Nat → Int64} (hr : rising v n) (t : Int64) : OK (mX8_drop t kd (nI (2 ^ a)) (nI m) sd kc (nI n) v) (DpC kd a m (mixV t sd) kc n v t) := by
  have hk2 : kd = 0 ∨ kd = 1 ∨ kd = 2 := Or.inr hk
  have rest : OK ((mX6_passesG kd (nI (2 ^ a)) (nI m) sd kc t).bind fun z38 => if z38 = 0 then (some ((-5 : Int32), kc, nI n, v)) else ((mX6_leave kd (nI (2 ^ a)) (nI m) sd kc (nI n) v t).bind fun z50 => (mX0_count z50.2.1).bind fun z58 => some (z58, z50.1, z50.2.1, z50.2.2))) (DpC kd a m (mixV t sd) kc n v t) := by
    refine OK_bind (passK_x hk2 ha ha2 hm sd kc t) ?_
    rintro z (⟨rfl, h⟩ | ⟨rfl, h⟩)
    · refine OK_F (by decide) (OK_bind (P := fun z => z.1 = DrK lwC kd a m (mixV t sd) kc ∧ ∃ n1, n1 ≤ n ∧ z.2.1 = nI n1 ∧ rising z.2.2 n1 ∧ LsC n v t n1 z.2.2) ?_ ?_)
      · unfold mX6_leave
        refine OK_be (mix_c t sd) (OK_ite (fun h2 => ?_) (fun h2 => ?_))
        · rcases e : fpl a (mixV t sd) kc with _ | p
          · exact absurd e (h.1 h2)
          · have hp := fpl_lt (ha2 h2) e
            refine OK_be (find_x (ha2 h2) kc _) ?_
            rw [e]
            exact OK_be (setc_in (show p < 4096 by omega)) (OK_bind (take_y hn hr t) (fun y hy => OK_some ⟨(DrK_2 h2 m e).symm, hy⟩))
        · exact OK_bind (lower_x ha hm (mixV t sd) kc) (fun z hz => OK_bind (take_y hn hr t) (fun y hy => OK_some ⟨by rw [DrK_1 h2]; exact hz, hy⟩))
      · rintro z ⟨z1, n1, h1, z2, h3, h4⟩
        exact OK_be rfl (OK_some (Or.inr ⟨h, n1, h1, z2, z1, z2, h3, h4⟩))
    · exact OK_T rfl (OK_some (Or.inl ⟨h, rfl⟩))
  unfold mX8_drop
  rcases hk with rfl | rfl
  · exact OK_T rfl rest
  · exact OK_F (by decide) (OK_T rfl rest)
def DrR (s : Nat) (kd : Int32) (a m : Nat) (mx : Int64) (kc : Nat → Int32) (n : Nat) (vC : Nat → Int32) (vCt : Nat → Int64) (row : Nat → Int32) (t : Int64) (z : Int32 × (Nat → Int64) × (Nat → Int32) × (Nat → Int32)) : Prop := (¬ LtK kd a m mx kc ∧ z = (-5, vCt, vC, row)) ∨ (LtK kd a m mx kc ∧ ∃ n1, n1 ≤ n ∧ z.1 = nI n1 ∧ RowIs s row z.2.2.2 (DrK lwR kd a m mx kc) ∧ z.2.2.1 s = nI n1 ∧ FrC s vC vCt z.2.2.1 z.2.1 ∧ LsC n (slC vCt s) t n1 (slC z.2.1 s))
theorem rdrop_y {vK vZ vM vC vR vL : Nat → Int32} {M s a m n : Nat} (hM : M ≤ 30) (hsM : s < M) (hk : vK s = 1 ∨ vK s = 2) (ha : a ≤ 12) (ha2 : vK s = 2 → a ≤ 8) (hm : m ≤ 8) (eZ : vZ s = nI (2 ^ a)) (eM : vM s = nI m) (hn : n ≤ 1000) (en : vC s = nI n) (vS : Nat → Int32) (vCt : Nat → Int64) {row kc : Nat → Int32} (hR : RowIs s row row kc) (hc : ¬ vK s = 2 → C15 kc) (vB : Nat → Int32) (vRe : Nat → Int64) (t : Int64) : OK (mX9_drop (nI M) vK vZ vM vS vCt vC row vB vL vRe vR (nI s) t) (DrR s (vK s) a m (mixV t (vS s)) kc n vC vCt row t) := by
  have hs30 : s < 30 := by omega
  have i30 := ix_nI (k := s) (n := 30) hs30
  have lets := letsR_x (vS := vS) (vB := vB) (vL := vL) (vR := vR) (vRe := vRe) hs30 (Or.inr hk) ha ha2 hm eZ eM hR hc t
  have tail : ∀ (row1 : Nat → Int32), RowIs s row row1 (DrK lwR (vK s) a m (mixV t (vS s)) kc) → LtK (vK s) a m (mixV t (vS s)) kc → ∀ (o : Int32), ((∃ k, k < n ∧ o = nI k ∧ slC vCt s k = t) ∨ (o = nI n ∧ ∀ k, k < n → ¬ slC vCt s k = t)) → OK (if ix (nI s) 30 = true then (if (vC s) ≤ o then (if ix (nI s) 30 = true then (some ((vC s), vCt, vC, row1)) else none) else (if ix (nI s) 30 = true then (if ix (nI s) 30 = true then (if ix (nI s) 30 = true then (if ix (((nI s) * (1000 : Int32)) + ((upd vC s ((vC s) - (1 : Int32))) s)) 30000 = true then (if ix (((nI s) * (1000 : Int32)) + o) 30000 = true then (if ix (nI s) 30 = true then (some (((upd vC s ((vC s) - (1 : Int32))) s), (vp_updL vCt (Int32.toNatClampNeg (((nI s) * (1000 : Int32)) + o)) (vCt (Int32.toNatClampNeg (((nI s) * (1000 : Int32)) + ((upd vC s ((vC s) - (1 : Int32))) s))))), (upd vC s ((vC s) - (1 : Int32))), row1)) else none) else none) else none) else none) else none) else none)) else none) (DrR s (vK s) a m (mixV t (vS s)) kc n vC vCt row t) := by
    rintro row1 hR1 hL o (⟨k, hk, rfl, ek⟩ | ⟨rfl, h0⟩)
    · rw [en, ups, show nI n - (1 : Int32) = nI (n - 1) from pk_sub (b := 1) (by omega), m1000, m1000, clN (k := 1000 * s + k) (by omega), clN (k := 1000 * s + (n - 1)) (by omega)]
      refine OK_T i30 (OK_F (nI_ge hk (by omega)) (OK_T i30 (OK_T i30 (OK_T i30 (OK_T (ix_nI (by omega)) (OK_T (ix_nI (by omega)) (OK_T i30 (OK_some (Or.inr ⟨hL, n - 1, by omega, rfl, hR1, ups, fun q hq => ⟨upo hq, slC_o hq (by omega)⟩, Or.inr ⟨cB_pos.mpr ⟨k, hk, ek⟩, by omega, rfl, fun u => ?_⟩⟩)))))))))
      show cB (n - 1) (slC (vp_updL vCt (1000 * s + k) (vCt (1000 * s + (n - 1)))) s) u + _ = _
      have := cB_swap hk (slC vCt s) u
      rw [ek] at this
      rw [slC_u]
      exact this
    · rw [en]
      exact OK_T i30 (OK_T (Int32.le_refl _) (OK_T i30 (OK_some (Or.inr ⟨hL, n, Nat.le_refl _, rfl, hR1, en, FrC_r _ _ _, Or.inl ⟨cB_none h0, rfl, fun u => rfl⟩⟩))))
  unfold mX9_drop
  refine OK_be (is_y hM hsM) (OK_F (by decide) (OK_T i30 ?_))
  rw [clN (k := s) (by omega)]
  refine OK_ite (fun hk1 => OK_bind lets ?_) (fun hk1 => OK_T i30 (OK_T (hk.resolve_left hk1) (OK_bind lets ?_)))
  · rintro z (⟨rfl, hL⟩ | ⟨rfl, hL⟩)
    · refine OK_F (by decide) (OK_T i30 (OK_be (mix_r _ _) (OK_T i30 (OK_T hk1 (OK_bind (lowerR_x hs30 ha hm eZ eM (mixV t (vS s)) hR) (fun y hy => OK_bind (rfind_x hs30 hn en vCt t) (fun o ho => tail _ ?_ hL o ho)))))))
      rw [DrK_1 (show ¬ vK s = 2 by rw [hk1]; decide)]
      exact hy
    · exact OK_T rfl (OK_some (Or.inl ⟨hL, rfl⟩))
  · have h2 := hk.resolve_left hk1
    rintro z (⟨rfl, hL⟩ | ⟨rfl, hL⟩)
    · refine OK_F (by decide) (OK_T i30 (OK_be (mix_r _ _) (OK_T i30 (OK_F hk1 ?_))))
      rcases e : fpl a (mixV t (vS s)) kc with _ | p
      · exact absurd e (hL.1 h2)
      · have hp := fpl_lt (ha2 h2) e
        obtain ⟨k, hk8, eat, hit, hno⟩ := (fpl_R (ha2 h2) hR).1 p e
        refine OK_bind (P := fun z => z = nI k) ?_ ?_
        · generalize hmx : mixV t (vS s) = mx at hit hno ⊢
          have step : ∀ fu k, k < 8 → mX9_drop_L162 vZ vS row (nI s) t mx (fu + 1) (nI k) = (if row (nestAt s (nM mx) a k) = nI (tagN (nM mx)) then some (nI k) else mX9_drop_L162 vZ vS row (nI s) t mx fu (nI (k + 1))) := by
            intro fu k hk
            rw [mX9_drop_L162, show nI k / (4 : Int32) = nI (k / 4) from q_d (by omega) (by decide) (by decide), nestOf_v hs30 (ha2 h2) eZ t, sb_, hmx, nestIx hk, if_pos (ix_nI (nestAt_lt hs30 (ha2 h2))), tag_r, sb_, clN (by have := nestAt_lt (n := nM mx) (k := k) hs30 (ha2 h2); omega), nI_s]
          refine OK_for (fun fu k (_ : Unit) => mX9_drop_L162 vZ vS row (nI s) t mx fu k) k (by omega) (fun _ _ => True) _ (s := ()) trivial ?_ ?_
          · intro fu _ _
            show OK (mX9_drop_L162 vZ vS row (nI s) t mx (fu + 1) (nI k)) _
            rw [step fu k hk8, if_pos hit]
            exact OK_some rfl
          · intro fu i _ hi _ ih
            show OK (mX9_drop_L162 vZ vS row (nI s) t mx (fu + 1) (nI i)) _
            rw [step fu i (by omega), if_neg (hno i hi)]
            exact ih () trivial
        · rintro y rfl
          rw [show nI k / (4 : Int32) = nI (k / 4) from q_d (by omega) (by decide) (by decide)]
          refine OK_be (nestOf_v hs30 (ha2 h2) eZ t _) ?_
          rw [nestIx hk8, eat, clN (k := 4096 * s + p) (by omega)]
          refine OK_T (ix_nI (by omega)) (OK_bind (rfind_x hs30 hn en vCt t) (fun o ho => tail _ ?_ hL o ho))
          rw [DrK_2 h2 m e]
          exact RowIs_u hR (by omega) 0
    · exact OK_T rfl (OK_some (Or.inl ⟨hL, rfl⟩))
