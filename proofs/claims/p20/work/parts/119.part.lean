/-! ===== cells, exact: nests ===== -/
theorem OK_val {α : Type} {o : Option α} {a : α} (h : OK o (fun z => z = a)) : o = some a := by
  obtain ⟨z, e, hz⟩ := h
  rw [e, hz]
/-- the first of a nest's four places that has tg; 4 if none -/
def fz (f : Nat → Int32) (n : Nat) (tg : Int32) : Nat := if f (4 * n) = tg then 0 else if f (4 * n + 1) = tg then 1 else if f (4 * n + 2) = tg then 2 else if f (4 * n + 3) = tg then 3 else 4
theorem fz_is {f : Nat → Int32} {n i : Nat} {tg : Int32} (hi : i ≤ 4) (h1 : ∀ j, j < i → ¬ f (4 * n + j) = tg) (h2 : i < 4 → f (4 * n + i) = tg) : fz f n tg = i := by
  unfold fz
  rcases (show i = 0 ∨ i = 1 ∨ i = 2 ∨ i = 3 ∨ i = 4 by omega) with rfl | rfl | rfl | rfl | rfl
  · rw [if_pos (show f (4 * n) = tg from h2 (by decide))]
  · rw [if_neg (show ¬ f (4 * n) = tg from h1 0 (by decide)), if_pos (h2 (by decide))]
  · rw [if_neg (show ¬ f (4 * n) = tg from h1 0 (by decide)), if_neg (h1 1 (by decide)), if_pos (h2 (by decide))]
  · rw [if_neg (show ¬ f (4 * n) = tg from h1 0 (by decide)), if_neg (h1 1 (by decide)), if_neg (h1 2 (by decide)), if_pos (h2 (by decide))]
  · rw [if_neg (show ¬ f (4 * n) = tg from h1 0 (by decide)), if_neg (h1 1 (by decide)), if_neg (h1 2 (by decide)), if_neg (h1 3 (by decide))]
theorem fz_ex (f : Nat → Int32) (n : Nat) (tg : Int32) : fz f n tg ≤ 4 ∧ (∀ j, j < fz f n tg → ¬ f (4 * n + j) = tg) ∧ (fz f n tg < 4 → f (4 * n + fz f n tg) = tg) := by
  have key : ∃ i, i ≤ 4 ∧ (∀ j, j < i → ¬ f (4 * n + j) = tg) ∧ (i < 4 → f (4 * n + i) = tg) := by
    by_cases h0 : f (4 * n + 0) = tg
    · exact ⟨0, by decide, fun j hj => absurd hj (Nat.not_lt_zero j), fun _ => h0⟩
    by_cases h1 : f (4 * n + 1) = tg
    · refine ⟨1, by decide, fun j hj => ?_, fun _ => h1⟩
      obtain rfl : j = 0 := by omega
      exact h0
    by_cases h2 : f (4 * n + 2) = tg
    · refine ⟨2, by decide, fun j hj => ?_, fun _ => h2⟩
      rcases (show j = 0 ∨ j = 1 by omega) with rfl | rfl
      · exact h0
      · exact h1
    by_cases h3 : f (4 * n + 3) = tg
    · refine ⟨3, by decide, fun j hj => ?_, fun _ => h3⟩
      rcases (show j = 0 ∨ j = 1 ∨ j = 2 by omega) with rfl | rfl | rfl
      · exact h0
      · exact h1
      · exact h2
    · refine ⟨4, by decide, fun j hj => ?_, fun q => absurd q (by decide)⟩
      rcases (show j = 0 ∨ j = 1 ∨ j = 2 ∨ j = 3 by omega) with rfl | rfl | rfl | rfl
      · exact h0
      · exact h1
      · exact h2
      · exact h3
  obtain ⟨i, h1, h2, h3⟩ := key
  rw [fz_is h1 h2 h3]
  exact ⟨h1, h2, h3⟩
theorem findIn_x {n : Nat} (hn : n < 1024) (kc : Nat → Int32) (tg : Int32) : mX5_findIn kc (nI n) tg = some (if fz kc n tg < 4 then nI (4 * n + fz kc n tg) else -1) := by
  obtain ⟨g1, g2, g3⟩ := fz_ex kc n tg
  generalize eF : fz kc n tg = F at g1 g2 g3
  apply OK_val
  unfold mX5_findIn
  refine OK_bind (P := fun o => (∀ r, o = .inl r → r = nI (4 * n + F) ∧ F < 4) ∧ ∀ r, o = .inr r → F = 4) ?_ (fun o ho => OK_sum (fun r hr => OK_some ?_) (fun r hr => OK_some ?_))
  · refine OK_for (fun fu i (_ : Unit) => mX5_findIn_L2 kc (nI n) tg fu i) 4 (by decide) (fun i _ => i ≤ F) _ (s := ()) (Nat.zero_le _) ?_ ?_
    · intro fu _ h
      show OK (mX5_findIn_L2 kc (nI n) tg (fu + 1) (nI 4)) _
      rw [mX5_findIn_L2]
      exact OK_T (by decide) (OK_some ⟨fun r h => (nomatch h), fun _ _ => by omega⟩)
    · intro fu i _ hi h ih
      show OK (mX5_findIn_L2 kc (nI n) tg (fu + 1) (nI i)) _
      rw [mX5_findIn_L2, four, nI_add, nI_s]
      refine OK_F (nI_ge (b := 4) hi (by decide)) (OK_be (cell_in (by omega)) (OK_ite (fun q => OK_some ⟨fun r h2 => ?_, fun r h2 => (nomatch h2)⟩) (fun q => ih () ?_)))
      · injection h2 with h2
        have : F = i := by
          rcases Nat.lt_or_ge i F with w | w
          · exact absurd q (g2 i w)
          · omega
        rw [this]
        exact ⟨h2.symm, hi⟩
      · rcases Nat.lt_or_ge i F with w | w
        · exact w
        · have e : F = i := by omega
          rw [e] at g3
          exact absurd (g3 hi) q
  · obtain ⟨e, h⟩ := ho.1 r hr
    rw [if_pos h]
    exact e
  · have h := ho.2 r hr
    rw [if_neg (by omega)]
theorem settle_x {n : Nat} (hn : n < 1024) (kc : Nat → Int32) (tg : Int32) : mX5_settle kc (nI n) tg = some (if fz kc n 0 < 4 then (1, upd kc (4 * n + fz kc n 0) tg) else (0, kc)) := by
  unfold mX5_settle
  rw [findIn_x hn, sb_]
  by_cases q : fz kc n 0 < 4
  · rw [if_pos q, if_pos q, setc_in (by omega), sb_, if_neg (nI_pos (by omega))]
  · rw [if_neg q, if_neg q, setc_out (Or.inl (by decide)), sb_, if_pos (by decide)]
theorem oth_cG {nt w : Nat} (tg : Int32) (h0 : 0 < w) (hw : w < 2 ^ 31) : mX4_otherNest (nI nt) tg (nI w) = some (nI (othG nt tg w)) := by
  unfold mX4_otherNest othG
  have hn := nM_lt (tg.toInt64 * 2654435761)
  have e := nM_eq (tg.toInt64 * 2654435761)
  generalize nM (tg.toInt64 * 2654435761) = n at hn e
  rw [e, show (8 : Int32) = nI 8 from rfl, lush_N hn (by decide), rest_N (by omega) h0 hw, sb_, nx_xor]
theorem othG_inv (nt : Nat) (tg : Int32) (w : Nat) : othG (othG nt tg w) tg w = nt := by
  unfold othG
  rw [Nat.xor_assoc, Nat.xor_self, Nat.xor_zero]
theorem othG_N {nt tg a : Nat} (ht : tg < 256) (ha : a ≤ 8) (hn : nt < 2 ^ a) : othG nt (nI tg) (2 ^ a) = othN nt tg (2 ^ a) := by
  have hp := pow_up ha
  have h0 : 0 < 2 ^ a := Nat.two_pow_pos a
  have e := (oth_cG (nt := nt) (nI tg) h0 (show 2 ^ a < 2 ^ 31 by omega)).symm.trans (oth_c ht h0 (show 2 ^ a < 2 ^ 31 by omega))
  have h1 : othG nt (nI tg) (2 ^ a) < 2 ^ a := othG_lt hn
  have h2 : othN nt tg (2 ^ a) < 2 ^ a := othN_lt hn
  exact (nI_eq (by omega) (by omega)).mp (Option.some.inj e)
/-- tags pushed from nest to nest: the rounds that are left, the round, the nest, the tag in hand, the row -/
def ckR (w : Nat) : Nat → Nat → Nat → Int32 → (Nat → Int32) → Option (Nat → Int32)
  | 0, _, _, _, _ => none
  | d + 1, r, n, h, f => if fz (upd f (4 * n + r % 4) h) (othG n (f (4 * n + r % 4)) w) 0 < 4 then some (upd (upd f (4 * n + r % 4) h) (4 * othG n (f (4 * n + r % 4)) w + fz (upd f (4 * n + r % 4) h) (othG n (f (4 * n + r % 4)) w) 0) (f (4 * n + r % 4))) else ckR w d (r + 1) (othG n (f (4 * n + r % 4)) w) (f (4 * n + r % 4)) (upd f (4 * n + r % 4) h)
theorem ckR_y {w d r n : Nat} {h : Int32} {f : Nat → Int32} (q : fz (upd f (4 * n + r % 4) h) (othG n (f (4 * n + r % 4)) w) 0 < 4) : ckR w (d + 1) r n h f = some (upd (upd f (4 * n + r % 4) h) (4 * othG n (f (4 * n + r % 4)) w + fz (upd f (4 * n + r % 4) h) (othG n (f (4 * n + r % 4)) w) 0) (f (4 * n + r % 4))) := if_pos q
theorem ckR_n {w d r n : Nat} {h : Int32} {f : Nat → Int32} (q : ¬ fz (upd f (4 * n + r % 4) h) (othG n (f (4 * n + r % 4)) w) 0 < 4) : ckR w (d + 1) r n h f = ckR w d (r + 1) (othG n (f (4 * n + r % 4)) w) (f (4 * n + r % 4)) (upd f (4 * n + r % 4) h) := if_neg q
/-- where the rounds end -/
def ckE (w : Nat) : Nat → Nat → Nat → Int32 → (Nat → Int32) → Nat × Int32 × (Nat → Int32)
  | 0, _, n, h, f => (n, h, f)
  | d + 1, r, n, h, f => ckE w d (r + 1) (othG n (f (4 * n + r % 4)) w) (f (4 * n + r % 4)) (upd f (4 * n + r % 4) h)
theorem ckE_s (w d r n : Nat) (h : Int32) (f : Nat → Int32) : ckE w (d + 1) r n h f = ckE w d (r + 1) (othG n (f (4 * n + r % 4)) w) (f (4 * n + r % 4)) (upd f (4 * n + r % 4) h) := rfl
theorem ckE_lt {a : Nat} : ∀ (d r n : Nat) (h : Int32) (f : Nat → Int32), n < 2 ^ a → (ckE (2 ^ a) d r n h f).1 < 2 ^ a := by
  intro d
  induction d with
  | zero => intro r n h f hn; exact hn
  | succ d ih => intro r n h f hn; exact ih _ _ _ _ (othG_lt hn)
theorem change_x {n r : Nat} (hn : n < 1024) (hr : r < 200) (kc : Nat → Int32) (hd : Int32) : mX5_change kc (nI n) (nI r) hd = some (kc (4 * n + r % 4), upd kc (4 * n + r % 4) hd) := by
  unfold mX5_change
  rw [four, show irm (nI r) (4 : Int32) = nI (r % 4) from r_d (by omega) (by decide) (by decide), nI_add, cell_in (by omega), sb_, setc_in (by omega), sb_]
theorem push_x {a : Nat} (ha : a ≤ 8) : ∀ (d r n fu : Nat) (h : Int32) (f : Nat → Int32), r + d = 200 → d < fu → n < 2 ^ a → OK (mX5_push_L8 (nI (2 ^ a)) fu (nI r) h (nI n) f) (fun o => (∀ z, o = .inl z → ∃ f', ckR (2 ^ a) d r n h f = some f' ∧ z = (1, f')) ∧ ∀ z, o = .inr z → ckR (2 ^ a) d r n h f = none ∧ z.2 = ((ckE (2 ^ a) d r n h f).2.1, nI (ckE (2 ^ a) d r n h f).1, (ckE (2 ^ a) d r n h f).2.2)) := by
  have hp := pow_up ha
  have h0 : 0 < 2 ^ a := Nat.two_pow_pos a
  intro d
  induction d with
  | zero =>
    intro r n fu h f hr hf hn
    obtain ⟨fu, rfl⟩ : ∃ q, fu = q + 1 := ⟨fu - 1, by omega⟩
    obtain rfl : r = 200 := by omega
    rw [mX5_push_L8]
    refine OK_T (by decide) (OK_some ⟨fun z h => (nomatch h), fun z h => ?_⟩)
    injection h with h
    subst h
    exact ⟨rfl, rfl⟩
  | succ d ih =>
    intro r n fu h f hr hf hn
    obtain ⟨fu, rfl⟩ : ∃ q, fu = q + 1 := ⟨fu - 1, by omega⟩
    have hlt := othG_lt (tg := f (4 * n + r % 4)) hn
    rw [mX5_push_L8, nI_s]
    refine OK_F (nI_ge (b := 200) (by omega) (by decide)) (OK_be (change_x (by omega) (by omega) f h) (OK_be (oth_cG _ h0 (by omega)) (OK_be (settle_x (show othG n (f (4 * n + r % 4)) (2 ^ a) < 1024 by omega) _ _) ?_)))
    by_cases q : fz (upd f (4 * n + r % 4) h) (othG n (f (4 * n + r % 4)) (2 ^ a)) 0 < 4
    · rw [if_pos q]
      refine OK_F (show ¬ (1 : Int32) = 0 by decide) (OK_some ⟨fun z e => ?_, fun z e => (nomatch e)⟩)
      injection e with e
      exact ⟨_, ckR_y q, e.symm⟩
    · rw [if_neg q]
      refine OK_T rfl ?_
      rw [ckR_n q, ckE_s]
      exact ih (r + 1) _ fu _ _ (by omega) (by omega) hlt
theorem back_x {a : Nat} (ha : a ≤ 8) : ∀ (d r n : Nat) (h : Int32) (f : Nat → Int32), r + d ≤ 200 → n < 2 ^ a → ∀ (Q : Int32 × Int32 × Int32 × (Nat → Int32) → Prop), (∀ fu, r < fu → OK (mX5_pushBack_L10 (nI (2 ^ a)) fu (nI r + (-1)) h (nI n) f) Q) → ∀ fu, r + d < fu → OK (mX5_pushBack_L10 (nI (2 ^ a)) fu (nI (r + d) + (-1)) (ckE (2 ^ a) d r n h f).2.1 (nI (ckE (2 ^ a) d r n h f).1) (ckE (2 ^ a) d r n h f).2.2) Q := by
  have hp := pow_up ha
  have h0 : 0 < 2 ^ a := Nat.two_pow_pos a
  intro d
  induction d with
  | zero =>
    intro r n h f hr hn Q hQ fu hf
    exact hQ fu hf
  | succ d ih =>
    intro r n h f hr hn Q hQ fu hf
    have hlt := othG_lt (tg := f (4 * n + r % 4)) hn
    rw [ckE_s, show r + (d + 1) = (r + 1) + d by omega]
    refine ih (r + 1) _ _ _ (by omega) hlt Q (fun fu hf => ?_) fu (by omega)
    obtain ⟨fu, rfl⟩ : ∃ q, fu = q + 1 := ⟨fu - 1, by omega⟩
    rw [mX5_pushBack_L10, pk_m1]
    refine OK_F (nI_pos (by omega)) (OK_be (oth_cG _ h0 (by omega)) ?_)
    rw [othG_inv]
    refine OK_be (change_x (by omega) (by omega) _ _) ?_
    dsimp only
    rw [ups, upd_upd, upd_id]
    exact hQ fu (by omega)
theorem pushBack_x {a : Nat} (ha : a ≤ 8) {n : Nat} (hn : n < 2 ^ a) (h : Int32) (f : Nat → Int32) : mX5_pushBack (nI (2 ^ a)) (ckE (2 ^ a) 200 0 n h f).2.2 (nI (ckE (2 ^ a) 200 0 n h f).1) (ckE (2 ^ a) 200 0 n h f).2.1 = some f := by
  apply OK_val
  unfold mX5_pushBack
  refine OK_bind (P := fun z => z.2.2.2 = f) ?_ (fun z hz => OK_some hz)
  refine back_x ha 200 0 n h f (by decide) hn _ (fun fu hf => ?_) FU (by decide)
  obtain ⟨fu, rfl⟩ : ∃ q, fu = q + 1 := ⟨fu - 1, by omega⟩
  rw [mX5_pushBack_L10]
  exact OK_T (by decide) (OK_some rfl)
/-- a tag comes into the nests, or doesn't -/
def ckN (a : Nat) (n1 n2 : Nat) (tg : Int32) (f : Nat → Int32) : Option (Nat → Int32) := if fz f n1 0 < 4 then some (upd f (4 * n1 + fz f n1 0) tg) else if fz f n2 0 < 4 then some (upd f (4 * n2 + fz f n2 0) tg) else ckR (2 ^ a) 200 0 n1 tg f
theorem snest_x {a : Nat} (ha : a ≤ 8) (mx : Int64) : mX5_secondNest (nI (2 ^ a)) mx = some (nI (nestN (nM mx) a 1)) := by
  have hp := pow_up ha
  have h0 : 0 < 2 ^ a := Nat.two_pow_pos a
  unfold mX5_secondNest nestN
  rw [fn_c mx h0 (by omega), sb_, tag_c, sb_, oth_c (tagN_lt _) h0 (by omega), sb_, if_neg (by decide)]
theorem fnest_x {a : Nat} (ha : a ≤ 8) (mx : Int64) : mX4_firstNest mx (nI (2 ^ a)) = some (nI (nestN (nM mx) a 0)) := by
  have hp := pow_up ha
  have h0 : 0 < 2 ^ a := Nat.two_pow_pos a
  unfold nestN
  rw [fn_c mx h0 (by omega), if_pos rfl]
theorem nenter_x {a : Nat} (ha : a ≤ 8) (kc : Nat → Int32) (mx : Int64) : OK (mX5_enter (nI (2 ^ a)) kc mx) (fun z => (∃ f', ckN a (nestN (nM mx) a 0) (nestN (nM mx) a 1) (nI (tagN (nM mx))) kc = some f' ∧ z = (1, f')) ∨ (ckN a (nestN (nM mx) a 0) (nestN (nM mx) a 1) (nI (tagN (nM mx))) kc = none ∧ z = (0, kc))) := by
  have hp := pow_up ha
  have l1 := nestN_lt (nM mx) a 0
  have l2 := nestN_lt (nM mx) a 1
  unfold mX5_enter ckN
  refine OK_be (tag_c mx) (OK_be (fnest_x ha mx) ?_)
  generalize nI (tagN (nM mx)) = tg
  generalize nestN (nM mx) a 0 = n1 at l1
  refine OK_be (settle_x (by omega) kc tg) ?_
  by_cases q1 : fz kc n1 0 < 4
  · rw [if_pos q1, if_pos q1]
    exact OK_F (show ¬ (1 : Int32) = 0 by decide) (OK_some (Or.inl ⟨_, rfl, rfl⟩))
  · rw [if_neg q1, if_neg q1]
    refine OK_T rfl (OK_be (snest_x ha mx) ?_)
    generalize nestN (nM mx) a 1 = n2 at l2
    refine OK_be (settle_x (by omega) kc tg) ?_
    by_cases q2 : fz kc n2 0 < 4
    · rw [if_pos q2, if_pos q2]
      exact OK_F (show ¬ (1 : Int32) = 0 by decide) (OK_some (Or.inl ⟨_, rfl, rfl⟩))
    · rw [if_neg q2, if_neg q2]
      refine OK_T rfl (OK_bind (P := fun z => (∃ f', ckR (2 ^ a) 200 0 n1 tg kc = some f' ∧ z = (1, f')) ∨ (ckR (2 ^ a) 200 0 n1 tg kc = none ∧ z = (0, kc))) ?_ ?_)
      · unfold mX5_push
        refine OK_bind (push_x ha 200 0 n1 FU tg kc (by decide) (by decide) l1) (fun o ho => OK_sum (fun z hz => OK_some (Or.inl (ho.1 z hz))) (fun z hz => ?_))
        obtain ⟨g1, g2⟩ := ho.2 z hz
        have pb := pushBack_x ha l1 tg kc
        generalize ckE (2 ^ a) 200 0 n1 tg kc = E at g2 pb
        rw [g2]
        exact OK_be pb (OK_some (Or.inr ⟨g1, rfl⟩))
      · rintro z (⟨f', e, rfl⟩ | ⟨e, rfl⟩)
        · exact OK_F (show ¬ (1 : Int32) = 0 by decide) (OK_some (Or.inl ⟨f', e, rfl⟩))
        · exact OK_T rfl (OK_some (Or.inr ⟨e, rfl⟩))
/-! the reference -/
theorem empty_x {s n : Nat} (hs : s < 30) (hn : n < 1024) {row0 row f : Nat → Int32} (h : RowIs s row0 row f) : mX9_emptyPlace row (nI (4096 * s + 4 * n)) = some (if fz f n 0 < 4 then nI (4096 * s + (4 * n + fz f n 0)) else -1) := by
  obtain ⟨g1, g2, g3⟩ := fz_ex f n 0
  generalize eF : fz f n 0 = F at g1 g2 g3
  apply OK_val
  unfold mX9_emptyPlace
  refine OK_bind (P := fun o => (∀ r, o = .inl r → r = nI (4096 * s + (4 * n + F)) ∧ F < 4) ∧ ∀ r, o = .inr r → F = 4) ?_ (fun o ho => OK_sum (fun r hr => OK_some ?_) (fun r hr => OK_some ?_))
  · refine OK_for (fun fu i (_ : Unit) => mX9_emptyPlace_L2 row (nI (4096 * s + 4 * n)) fu i) 4 (by decide) (fun i _ => i ≤ F) _ (s := ()) (Nat.zero_le _) ?_ ?_
    · intro fu _ h
      show OK (mX9_emptyPlace_L2 row (nI (4096 * s + 4 * n)) (fu + 1) (nI 4)) _
      rw [mX9_emptyPlace_L2]
      exact OK_T (by decide) (OK_some ⟨fun r h => (nomatch h), fun _ _ => by omega⟩)
    · intro fu i _ hi hF ih
      show OK (mX9_emptyPlace_L2 row (nI (4096 * s + 4 * n)) (fu + 1) (nI i)) _
      have e1 := h.1 (4 * n + i) (by omega)
      rw [mX9_emptyPlace_L2, nI_add, nI_s, show 4096 * s + 4 * n + i = 4096 * s + (4 * n + i) by omega, clN (k := 4096 * s + (4 * n + i)) (by omega), e1]
      refine OK_F (nI_ge (b := 4) hi (by decide)) (OK_T (ix_nI (by omega)) (OK_ite (fun q => OK_some ⟨fun r h2 => ?_, fun r h2 => (nomatch h2)⟩) (fun q => ih () ?_)))
      · injection h2 with h2
        have : F = i := by
          rcases Nat.lt_or_ge i F with w | w
          · exact absurd q (g2 i w)
          · omega
        rw [this]
        exact ⟨h2.symm, hi⟩
      · rcases Nat.lt_or_ge i F with w | w
        · exact w
        · have e : F = i := by omega
          rw [e] at g3
          exact absurd (g3 hi) q
  · obtain ⟨e, h⟩ := ho.1 r hr
    rw [if_pos h]
    exact e
  · have h := ho.2 r hr
    rw [if_neg (by omega)]
/-- what the reference's loop has when it ends: a free place and the tag for it, or none -/
theorem ptL_x {s a : Nat} (hs : s < 30) (ha : a ≤ 8) {vZ : Nat → Int32} (eZ : vZ s = nI (2 ^ a)) (row0 : Nat → Int32) : ∀ (d r n fu : Nat) (h : Int32) (row f : Nat → Int32), r + d = 200 → d < fu → n < 2 ^ a → RowIs s row0 row f → OK (mX9_putTag_L76 vZ (nI s) fu (nI r) (-1) (nI n) h row) (fun z => (∃ f' p, ckR (2 ^ a) d r n h f = some (upd f' p z.2.2.2.1) ∧ p < 4096 ∧ z.2.1 = nI (4096 * s + p) ∧ RowIs s row0 z.2.2.2.2 f') ∨ (ckR (2 ^ a) d r n h f = none ∧ z.2.1 = -1 ∧ ∃ f', RowIs s row0 z.2.2.2.2 f' ∧ ∀ i, 4 * 2 ^ a ≤ i → f' i = f i)) := by
  have hp := pow_up ha
  have h0 : 0 < 2 ^ a := Nat.two_pow_pos a
  intro d
  induction d with
  | zero =>
    intro r n fu h row f hr hf hn hR
    obtain ⟨fu, rfl⟩ : ∃ q, fu = q + 1 := ⟨fu - 1, by omega⟩
    obtain rfl : r = 200 := by omega
    rw [mX9_putTag_L76]
    exact OK_T (by decide) (OK_some (Or.inr ⟨rfl, rfl, f, hR, fun _ _ => rfl⟩))
  | succ d ih =>
    intro r n fu h row f hr hf hn hR
    obtain ⟨fu, rfl⟩ : ∃ q, fu = q + 1 := ⟨fu - 1, by omega⟩
    have e1 := hR.1 (4 * n + r % 4) (by omega)
    have hlt := othG_lt (tg := f (4 * n + r % 4)) hn
    have hR2 := RowIs_u hR (show 4 * n + r % 4 < 4096 by omega) h
    have hi : ix (nI (4096 * s + (4 * n + r % 4))) 122880 = true := ix_nI (by omega)
    rw [mX9_putTag_L76]
    refine OK_F (nI_ge (b := 200) (by omega) (by decide)) (OK_F (by decide) (OK_lt ?_))
    rw [m4, show irm (nI r) (4 : Int32) = nI (r % 4) from r_d (by omega) (by decide) (by decide), nI_add, show 4096 * s + 4 * n + r % 4 = 4096 * s + (4 * n + r % 4) by omega, clN (k := s) (by omega), eZ, nI_s, clN (k := 4096 * s + (4 * n + r % 4)) (by omega), e1]
    refine OK_T hi (OK_T hi (OK_T (ix_nI hs) (OK_be (oth_rG _ h0 (by omega)) ?_)))
    rw [m4]
    refine OK_be (empty_x hs (by omega) hR2) ?_
    by_cases q : fz (upd f (4 * n + r % 4) h) (othG n (f (4 * n + r % 4)) (2 ^ a)) 0 < 4
    · rw [if_pos q, ckR_y q]
      obtain ⟨fu, rfl⟩ : ∃ q, fu = q + 1 := ⟨fu - 1, by omega⟩
      rw [mX9_putTag_L76]
      have fin : OK (some (nI (r + 1), nI (4096 * s + (4 * othG n (f (4 * n + r % 4)) (2 ^ a) + fz (upd f (4 * n + r % 4) h) (othG n (f (4 * n + r % 4)) (2 ^ a)) 0)), nI (othG n (f (4 * n + r % 4)) (2 ^ a)), f (4 * n + r % 4), upd row (4096 * s + (4 * n + r % 4)) h)) (fun z => (∃ f' p, some (upd (upd f (4 * n + r % 4) h) (4 * othG n (f (4 * n + r % 4)) (2 ^ a) + fz (upd f (4 * n + r % 4) h) (othG n (f (4 * n + r % 4)) (2 ^ a)) 0) (f (4 * n + r % 4))) = some (upd f' p z.2.2.2.1) ∧ p < 4096 ∧ z.2.1 = nI (4096 * s + p) ∧ RowIs s row0 z.2.2.2.2 f') ∨ (some (upd (upd f (4 * n + r % 4) h) (4 * othG n (f (4 * n + r % 4)) (2 ^ a) + fz (upd f (4 * n + r % 4) h) (othG n (f (4 * n + r % 4)) (2 ^ a)) 0) (f (4 * n + r % 4))) = none ∧ z.2.1 = -1 ∧ ∃ f', RowIs s row0 z.2.2.2.2 f' ∧ ∀ i, 4 * 2 ^ a ≤ i → f' i = f i)) := OK_some (Or.inl ⟨upd f (4 * n + r % 4) h, _, rfl, by omega, rfl, hR2⟩)
      exact OK_ite (fun _ => fin) (fun _ => OK_T (nI_pos' (by omega)) fin)
    · rw [if_neg q, ckR_n q]
      refine OK_mono (ih (r + 1) _ fu _ _ _ (by omega) (by omega) hlt hR2) ?_
      rintro z (h | ⟨e, ep, f', h1, h2⟩)
      · exact Or.inl h
      · refine Or.inr ⟨e, ep, f', h1, fun i hi => (h2 i hi).trans (upo ?_)⟩
        omega
theorem putTag_x {s a : Nat} (hs : s < 30) (ha : a ≤ 8) {vZ : Nat → Int32} (eZ : vZ s = nI (2 ^ a)) (vS : Nat → Int32) {row f : Nat → Int32} (hR : RowIs s row row f) (t : Int64) : OK (mX9_putTag vZ vS row (nI s) t) (fun z => (∃ f', ckN a (nestN (nM (mixV t (vS s))) a 0) (nestN (nM (mixV t (vS s))) a 1) (nI (tagN (nM (mixV t (vS s))))) f = some f' ∧ z.1 = 1 ∧ RowIs s row z.2 f') ∨ (ckN a (nestN (nM (mixV t (vS s))) a 0) (nestN (nM (mixV t (vS s))) a 1) (nI (tagN (nM (mixV t (vS s))))) f = none ∧ z.1 = 0 ∧ ∃ f', RowIs s row z.2 f' ∧ ∀ i, 4 * 2 ^ a ≤ i → f' i = f i)) := by
  have hp := pow_up ha
  have l1 := nestN_lt (nM (mixV t (vS s))) a 0
  have l2 := nestN_lt (nM (mixV t (vS s))) a 1
  unfold mX9_putTag
  rw [clN (k := s) (by omega)]
  refine OK_T (ix_nI hs) (OK_be (mix_r _ _) (OK_be (tag_r _) (OK_be (nestOf_v hs ha eZ t 0) ?_)))
  unfold ckN
  generalize eT : nI (tagN (nM (mixV t (vS s)))) = tg
  generalize eN : nestN (nM (mixV t (vS s))) a 0 = n1 at l1
  rw [m4]
  refine OK_be (empty_x hs (by omega) hR) ?_
  have stop : ∀ (x : Int32) (p : Nat), p < 4096 → OK (mX9_putTag_L76 vZ (nI s) FU 0 (nI (4096 * s + p)) x tg row) (fun z => z.2.1 = nI (4096 * s + p) ∧ z.2.2.2.1 = tg ∧ z.2.2.2.2 = row) := by
    intro x p hp4
    show OK (mX9_putTag_L76 vZ (nI s) (4999 + 1) 0 (nI (4096 * s + p)) x tg row) _
    rw [mX9_putTag_L76]
    exact OK_F (by decide) (OK_T (nI_pos' (by omega)) (OK_some ⟨rfl, rfl, rfl⟩))
  have fin : ∀ (o : Int32 × Int32 × Int32 × Int32 × (Nat → Int32)) (p : Nat), p < 4096 → o.2.1 = nI (4096 * s + p) → OK (if o.2.1 < 0 then (if o.2.1 < 0 then (some ((0 : Int32), o.2.2.2.2)) else (some ((1 : Int32), o.2.2.2.2))) else (if ix o.2.1 122880 = true then (if o.2.1 < 0 then (some ((0 : Int32), (upd o.2.2.2.2 (Int32.toNatClampNeg o.2.1) o.2.2.2.1))) else (some ((1 : Int32), (upd o.2.2.2.2 (Int32.toNatClampNeg o.2.1) o.2.2.2.1)))) else none)) (fun z => z = (1, upd o.2.2.2.2 (4096 * s + p) o.2.2.2.1)) := by
    intro o p hp4 e
    rw [e, clN (k := 4096 * s + p) (by omega)]
    exact OK_F (nI_pos (by omega)) (OK_T (ix_nI (by omega)) (OK_F (nI_pos (by omega)) (OK_some rfl)))
  by_cases q1 : fz f n1 0 < 4
  · rw [if_pos q1, if_pos q1]
    refine OK_T (nI_pos' (by omega)) (OK_bind (stop _ _ (by omega)) (fun o ho => OK_mono (fin o _ (by omega) ho.1) (fun z hz => Or.inl ⟨_, rfl, ?_, ?_⟩)))
    · rw [hz]
    · rw [hz, ho.2.1, ho.2.2]
      exact RowIs_u hR (by omega) tg
  · rw [if_neg q1, if_neg q1]
    refine OK_F (by decide) (OK_be (nestOf_v hs ha eZ t 1) ?_)
    generalize nestN (nM (mixV t (vS s))) a 1 = n2 at l2
    rw [m4]
    refine OK_be (empty_x hs (by omega) hR) ?_
    by_cases q2 : fz f n2 0 < 4
    · rw [if_pos q2, if_pos q2]
      refine OK_bind (stop _ _ (by omega)) (fun o ho => OK_mono (fin o _ (by omega) ho.1) (fun z hz => Or.inl ⟨_, rfl, ?_, ?_⟩))
      · rw [hz]
      · rw [hz, ho.2.1, ho.2.2]
        exact RowIs_u hR (by omega) tg
    · rw [if_neg q2, if_neg q2]
      refine OK_bind (ptL_x hs ha eZ row 200 0 n1 FU tg row f (by decide) (by decide) l1 hR) ?_
      rintro o (⟨f', p, e, hp4, ep, hR2⟩ | ⟨e, ep, f', hR2, hR3⟩)
      · refine OK_mono (fin o p hp4 ep) (fun z hz => Or.inl ⟨_, e, ?_, ?_⟩)
        · rw [hz]
        · rw [hz]
          exact RowIs_u hR2 hp4 _
      · rw [ep]
        exact OK_T (by decide) (OK_T (by decide) (OK_some (Or.inr ⟨e, rfl, f', hR2, hR3⟩)))
