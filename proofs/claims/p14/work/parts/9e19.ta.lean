/-! ===== cells, exact: marks ===== -/
def mpl (mx : Int64) (a j : Nat) : Nat := mkN (nM mx) j % 2 ^ a
theorem mpl_lt (mx : Int64) (a j : Nat) : mpl mx a j < 2 ^ a := Nat.mod_lt _ (Nat.two_pow_pos a)
theorem mpl_w (mx : Int64) {a : Nat} (ha : a ≤ 12) (j : Nat) : mpl mx a j < 4096 := Nat.lt_of_lt_of_le (mpl_lt mx a j) (pow_up (b := 12) ha)
/-- one place behind another gets a new number -/
def rz (pl : Nat → Nat) (g : Int32 → Int32) : Nat → (Nat → Int32) → Nat → Int32
  | 0, f => f
  | j + 1, f => upd (rz pl g j f) (pl j) (g (rz pl g j f (pl j)))
theorem rz_0 (pl : Nat → Nat) (g : Int32 → Int32) (f : Nat → Int32) : rz pl g 0 f = f := rfl
theorem rz_s (pl : Nat → Nat) (g : Int32 → Int32) (j : Nat) (f : Nat → Int32) : rz pl g (j + 1) f = upd (rz pl g j f) (pl j) (g (rz pl g j f (pl j))) := rfl
def C15 (f : Nat → Int32) : Prop := ∀ i, i < 4096 → ∃ c, c ≤ 15 ∧ f i = nI c
theorem rz_eq {pl : Nat → Nat} {g g' : Int32 → Int32} (hp : ∀ j, pl j < 4096) (hg : ∀ c, c ≤ 15 → g (nI c) = g' (nI c) ∧ ∃ c', c' ≤ 15 ∧ g (nI c) = nI c') {f : Nat → Int32} (hf : C15 f) : ∀ m, C15 (rz pl g m f) ∧ rz pl g m f = rz pl g' m f := by
  intro m
  induction m with
  | zero => exact ⟨hf, rfl⟩
  | succ m ih =>
    obtain ⟨h1, h2⟩ := ih
    obtain ⟨c, hc, ec⟩ := h1 (pl m) (hp m)
    obtain ⟨g1, c', hc', g2⟩ := hg c hc
    refine ⟨fun i hi => ?_, ?_⟩
    · rw [rz_s]
      by_cases e : i = pl m
      · rw [e, ups, ec]
        exact ⟨c', hc', g2⟩
      · rw [upo e]
        exact h1 i hi
    · rw [rz_s, rz_s, ← h2, ec, g1]
/-- the row of one sieve in the reference's rows, the others stand -/
def RowIs (s : Nat) (row0 row f : Nat → Int32) : Prop := (∀ i, i < 4096 → row (4096 * s + i) = f i) ∧ ∀ q, (q < 4096 * s ∨ 4096 * s + 4096 ≤ q) → row q = row0 q
theorem RowIs_u {s p : Nat} {row0 row f : Nat → Int32} (h : RowIs s row0 row f) (hp : p < 4096) (c : Int32) : RowIs s row0 (upd row (4096 * s + p) c) (upd f p c) := by
  refine ⟨fun i hi => ?_, fun q hq => ?_⟩
  · by_cases e : i = p
    · rw [e, ups, ups]
    · rw [upo e, upo (show 4096 * s + i ≠ 4096 * s + p by omega)]
      exact h.1 i hi
  · rw [upo (show q ≠ 4096 * s + p by omega)]
    exact h.2 q hq
theorem raise_x {a m : Nat} (ha : a ≤ 12) (hm : m ≤ 8) (most : Int32) (mx : Int64) (kc : Nat → Int32) : OK (mX6_raiseMarks_L18 (nI (2 ^ a)) (nI m) mx FU 0 most kc) (fun z => z.2.2 = rz (mpl mx a) (fun c => imn most (c + (1 : Int32))) m kc) := by
  refine OK_for (fun fu i (s : Int32 × (Nat → Int32)) => mX6_raiseMarks_L18 (nI (2 ^ a)) (nI m) mx fu i s.1 s.2) m (by omega) (fun i s => s.1 = most ∧ s.2 = rz (mpl mx a) (fun c => imn most (c + (1 : Int32))) i kc) _ (s := (most, kc)) ⟨rfl, rfl⟩ ?_ ?_
  · rintro fu ⟨s1, s2⟩ ⟨h1, h2⟩
    show OK (mX6_raiseMarks_L18 (nI (2 ^ a)) (nI m) mx (fu + 1) (nI m) s1 s2) _
    rw [mX6_raiseMarks_L18]
    exact OK_T (Int32.le_refl _) (OK_some h2)
  · rintro fu i ⟨s1, s2⟩ hi ⟨h1, h2⟩ ih
    show OK (mX6_raiseMarks_L18 (nI (2 ^ a)) (nI m) mx (fu + 1) (nI i) s1 s2) _
    dsimp only at h1 h2
    subst h1
    have hq := mpl_w mx ha i
    rw [mX6_raiseMarks_L18, nI_s]
    refine OK_F (nI_ge hi (by omega)) (OK_be (mp_c mx (by omega) ha) (OK_be (cell_in hq) (OK_be (setc_in hq) (ih (s1, _) ⟨rfl, ?_⟩))))
    rw [rz_s, ← h2]
    rfl
theorem raiseM_x {a m : Nat} (ha : a ≤ 12) (hm : m ≤ 8) (kd : Int32) (mx : Int64) (kc : Nat → Int32) : OK (mX6_raiseMarks kd (nI (2 ^ a)) (nI m) kc mx) (fun z => z = rz (mpl mx a) (fun c => imn (if kd = 1 then 15 else 1) (c + (1 : Int32))) m kc) := by
  unfold mX6_raiseMarks
  refine OK_ite (fun q => ?_) (fun q => ?_)
  · rw [if_pos q]
    exact OK_bind (raise_x ha hm 15 mx kc) (fun z hz => OK_some hz)
  · rw [if_neg q]
    exact OK_bind (raise_x ha hm 1 mx kc) (fun z hz => OK_some hz)
theorem raiseR_x {s a m : Nat} (hs : s < 30) (ha : a ≤ 12) (hm : m ≤ 8) {vZ vM : Nat → Int32} (eZ : vZ s = nI (2 ^ a)) (eM : vM s = nI m) (mx : Int64) {row kc : Nat → Int32} (h : RowIs s row row kc) : OK (mX9_doPut_L154 vZ vM (nI s) mx FU 0 row) (fun z => RowIs s row z.2 (rz (mpl mx a) (fun c => if (15 : Int32) ≤ c then 15 else c + 1) m kc)) ∧ OK (mX9_doPut_L154_1 vZ vM (nI s) mx FU 0 row) (fun z => RowIs s row z.2 (rz (mpl mx a) (fun c => if (1 : Int32) ≤ c then 1 else c + 1) m kc)) := by
  have hp : 0 < 2 ^ a := Nat.two_pow_pos a
  have hp2 := pow_up ha
  constructor
  · refine OK_for (fun fu k (x : Nat → Int32) => mX9_doPut_L154 vZ vM (nI s) mx fu k x) m (by omega) (fun k x => RowIs s row x (rz (mpl mx a) (fun c => if (15 : Int32) ≤ c then 15 else c + 1) k kc)) _ (s := row) h ?_ ?_
    · intro fu x hx
      show OK (mX9_doPut_L154 vZ vM (nI s) mx (fu + 1) (nI m) x) _
      rw [mX9_doPut_L154, clN (k := s) (by omega), eM]
      exact OK_T (ix_nI hs) (OK_T (Int32.le_refl _) (OK_some hx))
    · intro fu k x hk hx ih
      show OK (mX9_doPut_L154 vZ vM (nI s) mx (fu + 1) (nI k) x) _
      have hq := mpl_w mx ha k
      have e1 := hx.1 _ hq
      have h2 := RowIs_u hx hq (if (15 : Int32) ≤ rz (mpl mx a) (fun c => if (15 : Int32) ≤ c then 15 else c + 1) k kc (mpl mx a k) then 15 else rz (mpl mx a) (fun c => if (15 : Int32) ≤ c then 15 else c + 1) k kc (mpl mx a k) + 1)
      rw [mX9_doPut_L154, clN (k := s) (by omega), eM, eZ, nI_s]
      refine OK_T (ix_nI hs) (OK_F (nI_ge hk (by omega)) (OK_T (ix_nI hs) (OK_be (mp_r mx (by omega) hp (by omega)) ?_)))
      have hi : ix (nI (4096 * s + mpl mx a k)) 122880 = true := ix_nI (by omega)
      rw [show mkN (nM mx) k % 2 ^ a = mpl mx a k from rfl, m4096, clN (k := 4096 * s + mpl mx a k) (by omega), e1]
      refine OK_T hi (OK_ite (fun q => OK_T hi (ih _ ?_)) (fun q => OK_T hi (OK_T hi (ih _ ?_))))
      · rw [if_pos q] at h2
        rw [rz_s, if_pos q]
        exact h2
      · rw [if_neg q] at h2
        rw [rz_s, if_neg q]
        exact h2
  · refine OK_for (fun fu k (x : Nat → Int32) => mX9_doPut_L154_1 vZ vM (nI s) mx fu k x) m (by omega) (fun k x => RowIs s row x (rz (mpl mx a) (fun c => if (1 : Int32) ≤ c then 1 else c + 1) k kc)) _ (s := row) h ?_ ?_
    · intro fu x hx
      show OK (mX9_doPut_L154_1 vZ vM (nI s) mx (fu + 1) (nI m) x) _
      rw [mX9_doPut_L154_1, clN (k := s) (by omega), eM]
      exact OK_T (ix_nI hs) (OK_T (Int32.le_refl _) (OK_some hx))
    · intro fu k x hk hx ih
      show OK (mX9_doPut_L154_1 vZ vM (nI s) mx (fu + 1) (nI k) x) _
      have hq := mpl_w mx ha k
      have e1 := hx.1 _ hq
      have h2 := RowIs_u hx hq (if (1 : Int32) ≤ rz (mpl mx a) (fun c => if (1 : Int32) ≤ c then 1 else c + 1) k kc (mpl mx a k) then 1 else rz (mpl mx a) (fun c => if (1 : Int32) ≤ c then 1 else c + 1) k kc (mpl mx a k) + 1)
      rw [mX9_doPut_L154_1, clN (k := s) (by omega), eM, eZ, nI_s]
      refine OK_T (ix_nI hs) (OK_F (nI_ge hk (by omega)) (OK_T (ix_nI hs) (OK_be (mp_r mx (by omega) hp (by omega)) ?_)))
      have hi : ix (nI (4096 * s + mpl mx a k)) 122880 = true := ix_nI (by omega)
      rw [show mkN (nM mx) k % 2 ^ a = mpl mx a k from rfl, m4096, clN (k := 4096 * s + mpl mx a k) (by omega), e1]
      refine OK_T hi (OK_ite (fun q => OK_T hi (ih _ ?_)) (fun q => OK_T hi (OK_T hi (ih _ ?_))))
      · rw [if_pos q] at h2
        rw [rz_s, if_pos q]
        exact h2
      · rw [if_neg q] at h2
        rw [rz_s, if_neg q]
        exact h2
/-- a count that goes up: the class's way, the reference's way -/
theorem up15 : ∀ c : Fin 16, imn 15 (nI c.val + (1 : Int32)) = (if (15 : Int32) ≤ nI c.val then 15 else nI c.val + 1) ∧ ∃ d : Fin 16, imn 15 (nI c.val + (1 : Int32)) = nI d.val := by decide +kernel
theorem up1 : ∀ c : Fin 16, imn 1 (nI c.val + (1 : Int32)) = (if (1 : Int32) ≤ nI c.val then 1 else nI c.val + 1) ∧ ∃ d : Fin 16, imn 1 (nI c.val + (1 : Int32)) = nI d.val := by decide +kernel
theorem up15' (c : Nat) (hc : c ≤ 15) : (fun c => imn 15 (c + (1 : Int32))) (nI c) = (fun c => if (15 : Int32) ≤ c then 15 else c + 1) (nI c) ∧ ∃ c', c' ≤ 15 ∧ (fun c => imn 15 (c + (1 : Int32))) (nI c) = nI c' := by
  obtain ⟨h1, d, h2⟩ := up15 ⟨c, by omega⟩
  exact ⟨h1, d.val, by omega, h2⟩
theorem up1' (c : Nat) (hc : c ≤ 15) : (fun c => imn 1 (c + (1 : Int32))) (nI c) = (fun c => if (1 : Int32) ≤ c then 1 else c + 1) (nI c) ∧ ∃ c', c' ≤ 15 ∧ (fun c => imn 1 (c + (1 : Int32))) (nI c) = nI c' := by
  obtain ⟨h1, d, h2⟩ := up1 ⟨c, by omega⟩
  exact ⟨h1, d.val, by omega, h2⟩
/-! .. that goes down -/
def lwC (c : Int32) : Int32 := if c ≤ 0 then c else if (15 : Int32) ≤ c then c else c - 1
def lwR (c : Int32) : Int32 := if c = 15 then c else if c = 0 then c else c - 1
theorem lwC_0 {c : Int32} (h : c ≤ 0) : lwC c = c := if_pos h
theorem lwC_15 {c : Int32} (h : ¬ c ≤ 0) (h2 : (15 : Int32) ≤ c) : lwC c = c := (if_neg h).trans (if_pos h2)
theorem lwC_d {c : Int32} (h : ¬ c ≤ 0) (h2 : ¬ (15 : Int32) ≤ c) : lwC c = c - 1 := (if_neg h).trans (if_neg h2)
theorem lwR_15 {c : Int32} (h : c = 15) : lwR c = c := if_pos h
theorem lwR_0 {c : Int32} (h : ¬ c = 15) (h2 : c = 0) : lwR c = c := (if_neg h).trans (if_pos h2)
theorem lwR_d {c : Int32} (h : ¬ c = 15) (h2 : ¬ c = 0) : lwR c = c - 1 := (if_neg h).trans (if_neg h2)
theorem lw15 : ∀ c : Fin 16, lwC (nI c.val) = lwR (nI c.val) ∧ ∃ d : Fin 16, lwC (nI c.val) = nI d.val := by decide +kernel
theorem lw15' (c : Nat) (hc : c ≤ 15) : lwC (nI c) = lwR (nI c) ∧ ∃ c', c' ≤ 15 ∧ lwC (nI c) = nI c' := by
  obtain ⟨h1, d, h2⟩ := lw15 ⟨c, by omega⟩
  exact ⟨h1, d.val, by omega, h2⟩
theorem lower_x {a m : Nat} (ha : a ≤ 12) (hm : m ≤ 8) (mx : Int64) (kc : Nat → Int32) : OK (mX6_lowerMarks (nI (2 ^ a)) (nI m) kc mx) (fun z => z = rz (mpl mx a) lwC m kc) := by
  unfold mX6_lowerMarks
  refine OK_bind (P := fun z => z.2 = rz (mpl mx a) lwC m kc) ?_ (fun z hz => OK_some hz)
  refine OK_for (fun fu i (s : Nat → Int32) => mX6_lowerMarks_L2 (nI (2 ^ a)) (nI m) mx fu i s) m (by omega) (fun i s => s = rz (mpl mx a) lwC i kc) _ (s := kc) rfl ?_ ?_
  · intro fu s hs
    show OK (mX6_lowerMarks_L2 (nI (2 ^ a)) (nI m) mx (fu + 1) (nI m) s) _
    rw [mX6_lowerMarks_L2]
    exact OK_T (Int32.le_refl _) (OK_some hs)
  · intro fu i s hi hs ih
    show OK (mX6_lowerMarks_L2 (nI (2 ^ a)) (nI m) mx (fu + 1) (nI i) s) _
    have hq := mpl_w mx ha i
    have e0 : ∀ x : Int32, lwC (s (mpl mx a i)) = x → upd s (mpl mx a i) x = rz (mpl mx a) lwC (i + 1) kc := by
      intro x hx
      rw [rz_s, ← hs, hx]
    rw [mX6_lowerMarks_L2, nI_s]
    refine OK_F (nI_ge hi (by omega)) (OK_be (mp_c mx (by omega) ha) (OK_be (cell_in hq) (OK_ite (fun q => ih _ ?_) (fun q => OK_ite (fun q2 => ih _ ?_) (fun q2 => OK_be (setc_in hq) (ih _ (e0 _ ?_)))))))
    · rw [← e0 (s (mpl mx a i)) (lwC_0 q), upd_id]
    · rw [← e0 (s (mpl mx a i)) (lwC_15 q q2), upd_id]
    · exact lwC_d q q2
theorem lowerR_x {s a m : Nat} (hs : s < 30) (ha : a ≤ 12) (hm : m ≤ 8) {vZ vM : Nat → Int32} (eZ : vZ s = nI (2 ^ a)) (eM : vM s = nI m) (mx : Int64) {row kc : Nat → Int32} (h : RowIs s row row kc) : OK (mX9_drop_L70 vZ vM (nI s) mx FU 0 row) (fun z => RowIs s row z.2 (rz (mpl mx a) lwR m kc)) := by
  have hp : 0 < 2 ^ a := Nat.two_pow_pos a
  have hp2 := pow_up ha
  refine OK_for (fun fu k (x : Nat → Int32) => mX9_drop_L70 vZ vM (nI s) mx fu k x) m (by omega) (fun k x => RowIs s row x (rz (mpl mx a) lwR k kc)) _ (s := row) h ?_ ?_
  · intro fu x hx
    show OK (mX9_drop_L70 vZ vM (nI s) mx (fu + 1) (nI m) x) _
    rw [mX9_drop_L70, clN (k := s) (by omega), eM]
    exact OK_T (ix_nI hs) (OK_T (Int32.le_refl _) (OK_some hx))
  · intro fu k x hk hx ih
    show OK (mX9_drop_L70 vZ vM (nI s) mx (fu + 1) (nI k) x) _
    have hq := mpl_w mx ha k
    have e1 := hx.1 _ hq
    have h2 : ∀ y : Int32, lwR (rz (mpl mx a) lwR k kc (mpl mx a k)) = y → RowIs s row (upd x (4096 * s + mpl mx a k) y) (rz (mpl mx a) lwR (k + 1) kc) := by
      intro y hy
      rw [rz_s, hy]
      exact RowIs_u hx hq y
    rw [mX9_drop_L70, clN (k := s) (by omega), eM, eZ, nI_s]
    refine OK_T (ix_nI hs) (OK_F (nI_ge hk (by omega)) (OK_T (ix_nI hs) (OK_be (mp_r mx (by omega) hp (by omega)) ?_)))
    have hi : ix (nI (4096 * s + mpl mx a k)) 122880 = true := ix_nI (by omega)
    rw [show mkN (nM mx) k % 2 ^ a = mpl mx a k from rfl, m4096, clN (k := 4096 * s + mpl mx a k) (by omega), e1]
    refine OK_T hi (OK_ite (fun q => OK_T hi (OK_T hi (ih _ (h2 _ ?_)))) (fun q => OK_T hi (OK_ite (fun q2 => OK_T hi (OK_T hi (ih _ (h2 _ ?_)))) (fun q2 => OK_T hi (OK_T hi (ih _ (h2 _ ?_)))))))
    · exact lwR_15 q
    · exact lwR_0 q q2
    · exact lwR_d q q2
/-! who passes -/
theorem marks_x {a m : Nat} (ha : a ≤ 12) (hm : m ≤ 8) (kc : Nat → Int32) (mx : Int64) : OK (mX6_hasMarks (nI (2 ^ a)) (nI m) kc mx) (fun z => (z = 1 ∧ ∀ j, j < m → ¬ kc (mpl mx a j) = 0) ∨ (z = 0 ∧ ¬ ∀ j, j < m → ¬ kc (mpl mx a j) = 0)) := by
  unfold mX6_hasMarks
  refine OK_bind (P := fun o => (∀ r, o = .inl r → r = 0 ∧ ¬ ∀ j, j < m → ¬ kc (mpl mx a j) = 0) ∧ ∀ r, o = .inr r → ∀ j, j < m → ¬ kc (mpl mx a j) = 0) ?_ (fun o ho => OK_sum (fun r hr => OK_some (Or.inr (ho.1 r hr))) (fun r hr => OK_some (Or.inl ⟨rfl, ho.2 r hr⟩)))
  refine OK_for (fun fu i (_ : Unit) => mX6_hasMarks_L2 (nI (2 ^ a)) (nI m) kc mx fu i) m (by omega) (fun i _ => ∀ j, j < i → ¬ kc (mpl mx a j) = 0) _ (s := ()) (fun j hj => absurd hj (Nat.not_lt_zero j)) ?_ ?_
  · intro fu s hs
    show OK (mX6_hasMarks_L2 (nI (2 ^ a)) (nI m) kc mx (fu + 1) (nI m)) _
    rw [mX6_hasMarks_L2]
    exact OK_T (Int32.le_refl _) (OK_some ⟨fun r h => (nomatch h), fun _ _ => hs⟩)
  · intro fu i s hi hs ih
    show OK (mX6_hasMarks_L2 (nI (2 ^ a)) (nI m) kc mx (fu + 1) (nI i)) _
    have hq := mpl_w mx ha i
    rw [mX6_hasMarks_L2, nI_s]
    refine OK_F (nI_ge hi (by omega)) (OK_be (mp_c mx (by omega) ha) (OK_be (cell_in hq) (OK_ite (fun q => OK_some ⟨fun r h => ?_, fun r h => (nomatch h)⟩) (fun q => ih () (fun j hj => ?_)))))
    · injection h with h
      exact ⟨h.symm, fun w => w i hi q⟩
    · rcases Nat.lt_succ_iff_lt_or_eq.mp hj with w | w
      · exact hs j w
      · rw [w]; exact q
theorem marksR_x {s a m : Nat} (hs : s < 30) (ha : a ≤ 12) (hm : m ≤ 8) {vZ vM : Nat → Int32} (eZ : vZ s = nI (2 ^ a)) (eM : vM s = nI m) (row : Nat → Int32) (mx : Int64) : OK (mX9_letsThrough_L188 vZ vM row (nI s) mx FU 0 1) (fun z => (z.2 = 1 ∧ ∀ j, j < m → ¬ row (4096 * s + mpl mx a j) ≤ 0) ∨ (z.2 = 0 ∧ ¬ ∀ j, j < m → ¬ row (4096 * s + mpl mx a j) ≤ 0)) := by
  have hp : 0 < 2 ^ a := Nat.two_pow_pos a
  have hp2 := pow_up ha
  refine OK_for (fun fu k (x : Int32) => mX9_letsThrough_L188 vZ vM row (nI s) mx fu k x) m (by omega) (fun k x => (x = 1 ∧ ∀ j, j < k → ¬ row (4096 * s + mpl mx a j) ≤ 0) ∨ (x = 0 ∧ ¬ ∀ j, j < k → ¬ row (4096 * s + mpl mx a j) ≤ 0)) _ (s := 1) (Or.inl ⟨rfl, fun j hj => absurd hj (Nat.not_lt_zero j)⟩) ?_ ?_
  · intro fu x hx
    show OK (mX9_letsThrough_L188 vZ vM row (nI s) mx (fu + 1) (nI m) x) _
    rw [mX9_letsThrough_L188, clN (k := s) (by omega), eM]
    exact OK_T (ix_nI hs) (OK_T (Int32.le_refl _) (OK_some hx))
  · intro fu k x hk hx ih
    show OK (mX9_letsThrough_L188 vZ vM row (nI s) mx (fu + 1) (nI k) x) _
    have hq := mpl_w mx ha k
    rw [mX9_letsThrough_L188, clN (k := s) (by omega), eM, eZ, nI_s]
    refine OK_T (ix_nI hs) (OK_F (nI_ge hk (by omega)) (OK_ite (fun q => ih 0 (Or.inr ⟨rfl, fun w => ?_⟩)) (fun q => OK_T (ix_nI hs) (OK_be (mp_r mx (by omega) hp (by omega)) ?_))))
    · rcases hx with ⟨e, -⟩ | ⟨-, h⟩
      · rw [q] at e
        exact absurd e (by decide)
      · exact h (fun j hj => w j (by omega))
    · have hi : ix (nI (4096 * s + mpl mx a k)) 122880 = true := ix_nI (by omega)
      have hx1 : ∀ j, j < k → ¬ row (4096 * s + mpl mx a j) ≤ 0 := by
        rcases hx with ⟨-, h⟩ | ⟨e, -⟩
        · exact h
        · exact absurd e q
      rw [show mkN (nM mx) k % 2 ^ a = mpl mx a k from rfl, m4096, clN (k := 4096 * s + mpl mx a k) (by omega)]
      refine OK_T hi (OK_ite (fun e => ih 0 (Or.inr ⟨rfl, fun w => w k (by omega) e⟩)) (fun e => ih 1 (Or.inl ⟨rfl, fun j hj => ?_⟩)))
      rcases Nat.lt_succ_iff_lt_or_eq.mp hj with w | w
      · exact hx1 j w
      · rw [w]; exact e
theorem z15 : ∀ c : Fin 16, (¬ nI c.val = 0) ↔ (¬ nI c.val ≤ 0) := by decide +kernel
theorem marks_eq {s a m : Nat} (ha : a ≤ 12) {kc row : Nat → Int32} (hc : C15 kc) (hr : ∀ i, i < 4096 → kc i = row (4096 * s + i)) (mx : Int64) : (∀ j, j < m → ¬ kc (mpl mx a j) = 0) ↔ ∀ j, j < m → ¬ row (4096 * s + mpl mx a j) ≤ 0 := by
  have key : ∀ j, (¬ kc (mpl mx a j) = 0) ↔ ¬ row (4096 * s + mpl mx a j) ≤ 0 := by
    intro j
    obtain ⟨c, h1, h2⟩ := hc _ (mpl_w mx ha j)
    rw [← hr _ (mpl_w mx ha j), h2]
    exact z15 ⟨c, by omega⟩
  exact ⟨fun h j hj => (key j).mp (h j hj), fun h j hj => (key j).mpr (h j hj)⟩
