/-! ===== worlds, exact: span and take of the reference ===== -/
theorem ups {f : Nat → Int32} {k : Nat} {x : Int32} : upd f k x k = x := if_pos rfl
theorem upo {f : Nat → Int32} {k j : Nat} {x : Int32} (h : j ≠ k) : upd f k x j = f j := if_neg h
theorem rspan_L29 {vW : Nat → Int64} {vIW : Nat → Int32} {w n N : Nat} (hw : w < 8) (hn : n ≤ 1000) (hN : N ≤ 1000) (e : vIW w = nI n) {v : Nat → Int64} (hA : AG n (wOf vW w) v) (fi : Int64) (st : Int32) : OK (mX9_span_L29 vW vIW (nI w) fi st (nI N) FU 0 0) (fun o => o.2 = nI ((spn n v fi st N).1 - n)) := by
  refine OK_for (fun fu k (x : Int32) => mX9_span_L29 vW vIW (nI w) fi st (nI N) fu k x) N (by omega) (fun k x => x = nI ((spn n v fi st k).1 - n)) _ (s := 0) ?_ ?_ ?_
  · show (0 : Int32) = nI (n - n)
    rw [Nat.sub_self]
    rfl
  · rintro fu x h
    show OK (mX9_span_L29 vW vIW (nI w) fi st (nI N) (fu + 1) (nI N) x) _
    rw [mX9_span_L29]
    exact OK_T (Int32.le_refl _) (OK_some h)
  · rintro fu k x hk h ih
    show OK (mX9_span_L29 vW vIW (nI w) fi st (nI N) (fu + 1) (nI k) x) _
    subst h
    rw [mX9_span_L29, nI_s]
    refine OK_F (nI_ge hk (by omega)) (OK_lt ?_)
    show OK ((mX9_placeOf vW vIW (nI w) (tk fi st k)).bind _) _
    refine OK_bind (rplace_v hw hn e vW _) ?_
    rintro z (⟨rfl, q⟩ | ⟨c, hc, rfl, q⟩)
    · refine OK_F (by decide) ?_
      have hq : ¬ memW n v (tk fi st k) := fun r => q ((AG_m hA).mpr r)
      refine OK_ite (fun h0 => OK_ite (fun h1 => ih _ ?_) (fun h1 => ih _ ?_)) (fun h0 => ih _ ?_)
      · rw [nI_s, pu_new1 (by omega) hq (Or.inr ?_)]
        exact (nI_eq (b := 0) (by omega) (by omega)).mp h1
      · rw [Int32.add_zero, pu_new0 (by omega) (Or.inr ⟨h0, fun r => h1 (by rw [r]; rfl)⟩)]
      · rw [nI_s, pu_new1 (by omega) hq (Or.inl h0)]
    · refine OK_T (nI_pos' (by omega)) (ih _ ?_)
      rw [Int32.add_zero, pu_new0 (by omega) (Or.inl ((AG_m hA).mp ⟨c, hc, q⟩))]
def SpI (vW : Nat → Int64) (vIW : Nat → Int32) (w : Nat) (m : Nat) (u : Nat → Int64) (a : Nat → Int64) (b : Nat → Int32) : Prop := b w = nI m ∧ AG m (wOf a w) u ∧ (∀ j, j ≠ w → b j = vIW j) ∧ ∀ q, (q < 1000 * w ∨ 1000 * w + 1000 ≤ q) → a q = vW q
theorem rspan_L104 {vW : Nat → Int64} {vIW : Nat → Int32} {w n N : Nat} (hw : w < 8) (hn : n ≤ 1000) (hN : N ≤ 1000) (e : vIW w = nI n) {v : Nat → Int64} (hv : worldR v n) (hA : AG n (wOf vW w) v) (fi : Int64) (st : Int32) (hm : (spn n v fi st N).1 ≤ 1000) : OK (mX9_span_L104 (nI w) fi st (nI N) FU 0 vW vIW) (fun o => SpI vW vIW w (spn n v fi st N).1 (spn n v fi st N).2 o.2.1 o.2.2) := by
  refine OK_for (fun fu k (x : (Nat → Int64) × (Nat → Int32)) => mX9_span_L104 (nI w) fi st (nI N) fu k x.1 x.2) N (by omega) (fun k x => SpI vW vIW w (spn n v fi st k).1 (spn n v fi st k).2 x.1 x.2) _ (s := (vW, vIW)) ⟨e, hA, fun _ _ => rfl, fun _ _ => rfl⟩ ?_ ?_
  · rintro fu ⟨a, b⟩ h
    show OK (mX9_span_L104 (nI w) fi st (nI N) (fu + 1) (nI N) a b) _
    rw [mX9_span_L104]
    exact OK_T (Int32.le_refl _) (OK_some h)
  · rintro fu k ⟨a, b⟩ hk ⟨h1, h2, h3, h4⟩ ih
    show OK (mX9_span_L104 (nI w) fi st (nI N) (fu + 1) (nI k) a b) _
    dsimp only at h1 h2 h3 h4
    have hk1 : (spn n v fi st (k + 1)).1 ≤ 1000 := Nat.le_trans (spn_mono hk) hm
    have hk0 : (spn n v fi st k).1 ≤ 1000 := Nat.le_trans (spn_le k) hk1
    have hwk : worldR (spn n v fi st k).2 (spn n v fi st k).1 := spn_world hv hn k (by omega)
    rw [mX9_span_L104, nI_s]
    refine OK_F (nI_ge hk (by omega)) (OK_lt ?_)
    show OK ((mX9_placeOf a b (nI w) (tk fi st k)).bind _) _
    refine OK_bind (rplace_v hw hk0 h1 a _) ?_
    rintro z (⟨rfl, q⟩ | ⟨c, hc, rfl, q⟩)
    · refine OK_F (by decide) ?_
      have hq : ¬ memW (spn n v fi st k).1 (spn n v fi st k).2 (tk fi st k) := fun r => q ((AG_m h2).mpr r)
      have h6 := congrArg Prod.fst (spn_n hq)
      dsimp only at h6
      show OK ((mX9_enter a b (nI w) (tk fi st k)).bind _) _
      refine OK_bind (renter_v hw (by omega) h1 (AG_w h2 hwk) q) ?_
      rintro z ⟨g1, g2, g3⟩
      refine ih (z.1, z.2) ?_
      rw [spn_n hq]
      refine ⟨?_, AG_t g2 (AG_ins h2 hwk hk0 _), fun j hj => ?_, fun r hr => (g3 r hr).trans (h4 r hr)⟩
      · show z.2 w = _
        rw [g1]
        exact ups
      · show z.2 j = _
        rw [g1, upo hj]
        exact h3 j hj
    · refine OK_T (nI_pos' (by omega)) (ih (a, b) ?_)
      rw [spn_y ((AG_m h2).mp ⟨c, hc, q⟩)]
      exact ⟨h1, h2, h3, h4⟩
theorem isW1 {w : Nat} (hw : w < 8) : mX9_isWorld (nI w) = some 1 := by
  rcases isW_v (nI w) with q | q
  · unfold mX9_isWorld at q
    rw [if_neg (fun r => absurd (nI_pos' (n := w) (by omega)) (Int32.not_le.mpr r)), if_neg (show ¬ (8 : Int32) ≤ nI w from nI_ge (b := 8) hw (by omega))] at q
    exact absurd q (by decide)
  · exact q.1
def FrW (vW : Nat → Int64) (vIW : Nat → Int32) (w : Nat) (a : Nat → Int64) (b : Nat → Int32) : Prop := (∀ j, j ≠ w → b j = vIW j) ∧ ∀ q, (q < 1000 * w ∨ 1000 * w + 1000 ≤ q) → a q = vW q
theorem rspan_ok {vW : Nat → Int64} {vIW : Nat → Int32} {w n : Nat} (hw : w < 8) (hn : n ≤ 1000) (e : vIW w = nI n) {v : Nat → Int64} (hv : worldR v n) (hA : AG n (wOf vW w) v) (fi : Int64) (st nn : Int32) : OK (mX9_span vW vIW (nI w) fi st nn) (fun z => FrW vW vIW w z.2.1 z.2.2 ∧ ∃ m, z.2.2 w = nI m ∧ SpR n v fi st nn m (wOf z.2.1 w) ∧ SpA n v fi st nn z.1) := by
  unfold mX9_span
  refine OK_be (isW1 hw) (OK_F (show ¬ (1 : Int32) = 0 by decide) (OK_ite (fun h => OK_some ⟨⟨fun _ _ => rfl, fun _ _ => rfl⟩, n, e, Or.inl ⟨Or.inl h, rfl, hA⟩, Or.inl ⟨Or.inl h, rfl⟩⟩) (fun h1 => OK_ite (fun h2 => ?_) (fun h => OK_some ⟨⟨fun _ _ => rfl, fun _ _ => rfl⟩, n, e, Or.inl ⟨Or.inr (Or.inl h), rfl, hA⟩, Or.inl ⟨Or.inr h, rfl⟩⟩))))
  obtain ⟨N, hN, rfl⟩ := nI_of2 (M := nI 1000) (n := 1000) (nI_toInt (by omega)) (fun q => h1 (Int32.lt_of_lt_of_le q (by decide))) h2
  refine OK_bind (rspan_L29 hw hn hN e hA fi st) ?_
  intro o ho
  have hu := spn_up (n0 := n) (v0 := v) (first := fi) (step := st) N
  have hg := spn_ge (n0 := n) (v0 := v) (first := fi) (step := st) N
  rw [ho, clN (k := w) (by omega), e, nI_add, show n + ((spn n v fi st N).1 - n) = (spn n v fi st N).1 by omega]
  refine OK_T (ix_nI hw) (OK_ite (fun h3 => ?_) (fun h3 => ?_))
  · have hm : (spn n v fi st N).1 ≤ 1000 := Nat.le_of_not_lt (fun q => nI_ge (a := 1000) q (by omega) h3)
    refine OK_bind (rspan_L104 hw hn hN e hv hA fi st hm) ?_
    rintro o ⟨g1, g2, g3, g4⟩
    exact OK_T (ix_nI hw) (OK_some ⟨⟨g3, g4⟩, _, g1, Or.inr ⟨h1, h2, N, hN, rfl, hm, rfl, g2⟩, Or.inr ⟨h1, h2, N, hN, rfl, Or.inr ⟨hm, g1⟩⟩⟩)
  · have hm : 1000 < (spn n v fi st N).1 := Nat.lt_of_not_le (fun q => h3 (show nI (spn n v fi st N).1 ≤ nI 1000 from nI_le q (by omega)))
    exact OK_some ⟨⟨fun _ _ => rfl, fun _ _ => rfl⟩, n, e, Or.inl ⟨Or.inr (Or.inr ⟨N, hN, rfl, hm⟩), rfl, hA⟩, Or.inr ⟨h1, h2, N, hN, rfl, Or.inl ⟨hm, rfl⟩⟩⟩
def ShI (vW : Nat → Int64) (w c k : Nat) (a : Nat → Int64) : Prop := (∀ i, i < c → a (1000 * w + i) = vW (1000 * w + i)) ∧ (∀ i, c ≤ i → i < k → a (1000 * w + i) = vW (1000 * w + (i + 1))) ∧ (∀ i, k ≤ i → a (1000 * w + i) = vW (1000 * w + i)) ∧ ∀ q, (q < 1000 * w ∨ 1000 * w + 1000 ≤ q) → a q = vW q
theorem rtake_L40 {vW : Nat → Int64} {vIW : Nat → Int32} {w n c : Nat} (hw : w < 8) (hn : n ≤ 1000) (hc : c < n) (e : vIW w = nI n) : OK (mX9_take_L40 vIW (nI w) FU (nI c) vW) (fun o => ShI vW w c (n - 1) o.2) := by
  have eu : upd vIW w (nI n - 1) w = nI (n - 1) := by
    rw [ups]
    exact pk_sub (b := 1) (by omega)
  refine OK_up (fun fu k (s : Nat → Int64) => mX9_take_L40 vIW (nI w) fu k s) (n - 1) (fun k a => c ≤ k ∧ ShI vW w c k a) _ ?_ ?_ (n - 1 - c) c vW FU (by omega) ⟨Nat.le_refl _, fun _ _ => rfl, fun i h1 h2 => absurd h1 (by omega), fun _ _ => rfl, fun _ _ => rfl⟩ (show n - 1 - c < 5000 by omega)
  · rintro fu a ⟨_, h⟩
    show OK (mX9_take_L40 vIW (nI w) (fu + 1) (nI (n - 1)) a) _
    rw [mX9_take_L40, clN (k := w) (by omega), e, eu]
    exact OK_T (ix_nI hw) (OK_T (Int32.le_refl _) (OK_some h))
  · rintro fu k a hk ⟨hck, h1, h2, h3, h4⟩ ih
    show OK (mX9_take_L40 vIW (nI w) (fu + 1) (nI k) a) _
    rw [mX9_take_L40, clN (k := w) (by omega), e, eu, m1000, nI_s, nI_s, clN (k := 1000 * w + k) (by omega), clN (k := 1000 * w + k + 1) (by omega)]
    refine OK_T (ix_nI hw) (OK_F (nI_ge hk (by omega)) (OK_T (ix_nI (by omega)) (OK_T (ix_nI (by omega)) (ih _ ⟨by omega, ?_⟩))))
    refine ⟨fun i hi => ?_, fun i hi hik => ?_, fun i hi => ?_, fun p hp => ?_⟩
    · rw [pk_uLn (by omega)]
      exact h1 i hi
    · rcases Nat.lt_or_ge i k with r | r
      · rw [pk_uLn (by omega)]
        exact h2 i hi r
      · obtain rfl : i = k := by omega
        rw [pk_uLs]
        exact h3 (i + 1) (by omega)
    · rw [pk_uLn (by omega)]
      exact h3 i (by omega)
    · rw [pk_uLn (by omega)]
      exact h4 p hp
theorem rtake_ok {vW : Nat → Int64} {vIW : Nat → Int32} {w n : Nat} (hw : w < 8) (hn : n ≤ 1000) (e : vIW w = nI n) {v : Nat → Int64} (hA : AG n (wOf vW w) v) (t : Int64) : OK (mX9_take vW vIW (nI w) t) (fun z => FrW vW vIW w z.2.1 z.2.2 ∧ ∃ m, z.2.2 w = nI m ∧ TkR n v t m (wOf z.2.1 w) ∧ TkA n v t z.1) := by
  unfold mX9_take
  refine OK_be (isW1 hw) (OK_F (show ¬ (1 : Int32) = 0 by decide) (OK_bind (rplace_v hw hn e vW t) ?_))
  rintro z (⟨rfl, q⟩ | ⟨c, hc, rfl, q⟩)
  · exact OK_F (by decide) (OK_some ⟨⟨fun _ _ => rfl, fun _ _ => rfl⟩, n, e, Or.inl ⟨fun r => q ((AG_m hA).mpr r), rfl, hA⟩, Or.inl ⟨fun r => q ((AG_m hA).mpr r), rfl⟩⟩)
  · refine OK_T (nI_pos' (by omega)) (OK_T (ix_nI hw) (OK_T (ix_nI hw) (OK_bind (rtake_L40 hw hn hc e) ?_)))
    rintro o ⟨h1, h2, h3, h4⟩
    rw [clN (k := w) (by omega), e]
    refine OK_T (ix_nI hw) (OK_some ⟨⟨fun j hj => upo hj, h4⟩, n - 1, ?_, Or.inr ⟨c, hc, (hA c hc).symm.trans q, rfl, fun i hi => ?_⟩, Or.inr ⟨⟨c, hc, (hA c hc).symm.trans q⟩, ?_⟩⟩)
    · show upd vIW w (nI n - 1) w = _
      rw [ups]
      exact pk_sub (b := 1) (by omega)
    · show o.2 (1000 * w + i) = _
      rcases Nat.lt_or_ge i c with r | r
      · rw [h1 i r, delR_lo r]
        exact hA i (by omega)
      · rw [h2 i r (by omega), delR_hi r (by omega)]
        exact hA (i + 1) (by omega)
    · show upd vIW w (nI n - 1) w = _
      rw [ups]
      exact pk_sub (b := 1) (by omega)
/-! both sides say the same -/
theorem SpR_det {n : Nat} {v : Nat → Int64} {fi : Int64} {st nn : Int32} {m m' : Nat} {u u' : Nat → Int64} (h : SpR n v fi st nn m u) (h' : SpR n v fi st nn m' u') : m = m' ∧ AG m u u' := by
  have key : ∀ N N' : Nat, N ≤ 1000 → N' ≤ 1000 → nI N = nI N' → N = N' := fun N N' a b c => (nI_eq (by omega) (by omega)).mp c
  rcases h with ⟨h1, h2, h3⟩ | ⟨h1, h2, N, h3, h4, h5, h6, h7⟩
  · rcases h' with ⟨g1, g2, g3⟩ | ⟨g1, g2, N', g3, g4, g5, g6, g7⟩
    · subst h2; subst g2
      exact ⟨rfl, AG_t h3 (AG_s g3)⟩
    · rcases h1 with h1 | h1 | ⟨N, k1, k2, k3⟩
      · exact absurd h1 g1
      · exact absurd g2 h1
      · rw [key N N' k1 g3 (k2.symm.trans g4)] at k3
        omega
  · rcases h' with ⟨g1, g2, g3⟩ | ⟨g1, g2, N', g3, g4, g5, g6, g7⟩
    · rcases g1 with g1 | g1 | ⟨N', k1, k2, k3⟩
      · exact absurd g1 h1
      · exact absurd h2 g1
      · rw [key N' N k1 h3 (k2.symm.trans h4)] at k3
        omega
    · have ee := key N N' h3 g3 (h4.symm.trans g4)
      subst ee
      subst h6; subst g6
      exact ⟨rfl, AG_t h7 (AG_s g7)⟩
theorem SpR_w {n : Nat} (hn : n ≤ 1000) {v : Nat → Int64} (hw : worldR v n) {fi : Int64} {st nn : Int32} {m : Nat} {u : Nat → Int64} (h : SpR n v fi st nn m u) : m ≤ 1000 ∧ worldR u m := by
  rcases h with ⟨_, h2, h3⟩ | ⟨_, _, N, _, _, h5, h6, h7⟩
  · subst h2
    exact ⟨hn, AG_w h3 hw⟩
  · subst h6
    exact ⟨h5, AG_w h7 (spn_world hw hn N (by omega))⟩
theorem TkR_det {n : Nat} {v : Nat → Int64} (hw : worldR v n) {t : Int64} {m m' : Nat} {u u' : Nat → Int64} (h : TkR n v t m u) (h' : TkR n v t m' u') : m = m' ∧ AG m u u' := by
  rcases h with ⟨h1, h2, h3⟩ | ⟨c, hc, h1, h2, h3⟩
  · rcases h' with ⟨g1, g2, g3⟩ | ⟨d, hd, g1, g2, g3⟩
    · subst h2; subst g2
      exact ⟨rfl, AG_t h3 (AG_s g3)⟩
    · exact absurd ⟨d, hd, g1⟩ h1
  · rcases h' with ⟨g1, g2, g3⟩ | ⟨d, hd, g1, g2, g3⟩
    · exact absurd ⟨c, hc, h1⟩ g1
    · have ee : c = d := by
        rcases Nat.lt_trichotomy c d with q | q | q
        · exact absurd (h1.trans g1.symm) (Int64.ne_of_lt (hw c d q hd))
        · exact q
        · exact absurd (g1.trans h1.symm) (Int64.ne_of_lt (hw d c q hc))
      subst ee
      subst h2; subst g2
      exact ⟨rfl, AG_t h3 (AG_s g3)⟩
theorem TkR_w {n : Nat} (hn : n ≤ 1000) {v : Nat → Int64} (hw : worldR v n) {t : Int64} {m : Nat} {u : Nat → Int64} (h : TkR n v t m u) : m ≤ 1000 ∧ worldR u m := by
  rcases h with ⟨_, h2, h3⟩ | ⟨c, hc, _, h2, h3⟩
  · subst h2
    exact ⟨hn, AG_w h3 hw⟩
  · subst h2
    exact ⟨by omega, AG_w h3 (worldR_del hw hc)⟩
