/-! ===== SOLVED: the cells, exact ===== -/
theorem offB_f {T : Nat → Nat} {i t : Nat} : ∀ d, offB T (i + d) t = false → offB T i t = false := by
  intro d
  induction d with
  | zero => exact id
  | succ d ih =>
    intro h
    rw [show i + (d + 1) = (i + d) + 1 from rfl] at h
    have h' : ((T (i + d) == t) || offB T (i + d) t) = false := h
    exact ih (Bool.or_eq_false_iff.mp h').2
theorem offB_n {T : Nat → Nat} {i j t : Nat} (hij : i < j) (h : offB T j t = false) : T i ≠ t := by
  obtain ⟨d, hd⟩ : ∃ d, j = (i + 1) + d := ⟨j - (i + 1), by omega⟩
  rw [hd] at h
  have h1 : ((T i == t) || offB T i t) = false := offB_f d h
  have h2 := (Bool.or_eq_false_iff.mp h1).1
  intro e
  rw [e] at h2
  simp at h2
theorem RunS_inj {pl : Nat → Nat → Nat} {c n m : Nat} {T P : Nat → Nat} (h : RunS pl c n T P m) {i j : Nat} (hij : i < j) (hj : j < m) : P i ≠ P j := by
  intro e
  obtain ⟨a1, a2, a3, a4, a5, a6⟩ := h i (by omega)
  obtain ⟨b1, b2, b3, b4, b5, b6⟩ := h j hj
  obtain ⟨t, -, -, -, -, hu⟩ := cnt1 a5
  have b2' : offB T i (T j) = false := by
    apply offB_f (j - i)
    rw [show i + (j - i) = j by omega]
    exact b2
  have e1 := hu _ a1 a2 a4
  have e2 := hu _ b1 b2' (by rw [e]; exact b4)
  exact offB_n hij b2 (e1.trans e2.symm)
/-- three cells on x -/
def x3 (f : Nat → Int32) (q : Nat → Nat) (x : Int32) : Nat → Int32
  | 0 => x
  | k + 1 => x3 f q x k ^^^ f (q k)
theorem x3_s (f : Nat → Int32) (q : Nat → Nat) (x : Int32) (k : Nat) : x3 f q x (k + 1) = x3 f q x k ^^^ f (q k) := rfl
theorem x3_ag {f g : Nat → Int32} {q : Nat → Nat} (x : Int32) (h : ∀ k, k < 3 → f (q k) = g (q k)) : ∀ k, k ≤ 3 → x3 f q x k = x3 g q x k := by
  intro k
  induction k with
  | zero => intro _; rfl
  | succ k ih =>
    intro hk
    rw [x3_s, x3_s, ih (by omega), h k (by omega)]
theorem x3_x (f : Nat → Int32) (q : Nat → Nat) (x : Int32) : x3 f q x 3 = x ^^^ x3 f q 0 3 := by
  show ((x ^^^ f (q 0)) ^^^ f (q 1)) ^^^ f (q 2) = x ^^^ ((((0 : Int32) ^^^ f (q 0)) ^^^ f (q 1)) ^^^ f (q 2))
  rw [Int32.zero_xor, Int32.xor_assoc, Int32.xor_assoc, Int32.xor_assoc]
theorem x3_0 (f : Nat → Int32) (q : Nat → Nat) (x : Int32) : x3 f q x 3 = 0 ↔ x3 f q 0 3 = x := by
  rw [x3_x, Int32.xor_eq_zero_iff]
  exact ⟨fun h => h.symm, fun h => h.symm⟩
def sfl (pl : Nat → Nat → Nat) (tg T P : Nat → Nat) : Nat → (Nat → Int32) → Nat → Int32
  | 0, f => f
  | k + 1, f => sfl pl tg T P k (upd f (P k) (x3 f (pl (T k)) (nI (tg (T k))) 3))
theorem sfl_s (pl : Nat → Nat → Nat) (tg T P : Nat → Nat) (k : Nat) (f : Nat → Int32) : sfl pl tg T P (k + 1) f = sfl pl tg T P k (upd f (P k) (x3 f (pl (T k)) (nI (tg (T k))) 3)) := rfl
theorem sfl_ext {pl pl2 : Nat → Nat → Nat} {tg tg2 T P T2 P2 : Nat → Nat} : ∀ (k : Nat) (f : Nat → Int32), (∀ j, j < k → T j = T2 j ∧ P j = P2 j ∧ pl (T j) = pl2 (T j) ∧ tg (T j) = tg2 (T j)) → sfl pl tg T P k f = sfl pl2 tg2 T2 P2 k f := by
  intro k
  induction k with
  | zero => intro f _; rfl
  | succ k ih =>
    intro f h
    obtain ⟨e1, e2, e3, e4⟩ := h k (by omega)
    rw [sfl_s, sfl_s, e3, e4, e2, e1]
    exact ih _ (fun j hj => h j (by omega))
theorem sfl_ag {pl : Nat → Nat → Nat} {tg T P : Nat → Nat} : ∀ (k : Nat) (f g : Nat → Int32), (∀ j, j < k → ∀ q, q < 3 → pl (T j) q < 4096) → (∀ i, i < 4096 → f i = g i) → ∀ i, i < 4096 → sfl pl tg T P k f i = sfl pl tg T P k g i := by
  intro k
  induction k with
  | zero => intro f g _ h i hi; exact h i hi
  | succ k ih =>
    intro f g hb h i hi
    rw [sfl_s, sfl_s]
    refine ih _ _ (fun j hj => hb j (by omega)) (fun u hu => ?_) i hi
    by_cases e : u = P k
    · rw [e, ups, ups]
      exact x3_ag _ (fun q hq => h _ (hb k (by omega) q hq)) 3 (Nat.le_refl _)
    · rw [upo e, upo e]
      exact h u hu
/-! the class's fill -/
theorem fill_in_x {pl : Nat → Nat → Nat} {n : Nat} (hn : n ≤ 1000) {pa tt tp : Nat → Int32} {i t p : Nat} (hi : i < 1000) (ht : t < n) (et : tt i = nI t) (ep : tp i = nI p) (hp : p < 4096) (hpa : PaI pl pa n) (hb : ∀ k, k < 3 → pl t k < 4096) {kc : Nat → Int32} (h0 : kc p = 0) (x : Int32) : OK (mX7_fill_L29 pa tt tp (nI i) kc FU 0 x) (fun z => z.2 = x3 kc (pl t) x 3) := by
  refine OK_for (fun fu k (s : Int32) => mX7_fill_L29 pa tt tp (nI i) kc fu k s) 3 (by decide) (fun k s => s = x3 kc (pl t) x k) _ (s := x) rfl ?_ ?_
  · intro fu s hs
    show OK (mX7_fill_L29 pa tt tp (nI i) kc (fu + 1) (nI 3) s) _
    rw [mX7_fill_L29]
    exact OK_T (by decide) (OK_some hs)
  · intro fu k s hk hs ih
    show OK (mX7_fill_L29 pa tt tp (nI i) kc (fu + 1) (nI k) s) _
    have hbk := hb k hk
    rw [mX7_fill_L29]
    refine OK_F (nI_ge (b := 3) hk (by decide)) ?_
    rw [show Int32.toNatClampNeg (nI i) = i from cl_nI, et, ep, ix3, show Int32.toNatClampNeg (nI (3 * t + k)) = 3 * t + k from clN (by omega), hpa t ht k hk]
    refine OK_T (ix_nI (by omega)) (OK_lt (OK_T (ix_nI hi) ?_))
    rw [nI_s]
    refine OK_ite (fun q => ih _ ?_) (fun q => OK_be (cell_in hbk) (ih _ ?_))
    · have e : pl t k = p := (nI_eq (by omega) (by omega)).mp q
      show s ^^^ (0 : Int32) = x3 kc (pl t) x k ^^^ kc (pl t k)
      rw [e, h0, hs]
    · show s ^^^ kc (pl t k) = x3 kc (pl t) x k ^^^ kc (pl t k)
      rw [hs]
theorem fill_x {pl : Nat → Nat → Nat} {tg : Nat → Nat} {n : Nat} (hn : n ≤ 1000) {pa ta tt tp : Nat → Int32} {T P : Nat → Nat} (hT : ∀ j, j < n → T j < n ∧ P j < 4096 ∧ tt j = nI (T j) ∧ tp j = nI (P j)) (hpa : PaI pl pa n) (hta : ∀ t, t < n → ta t = nI (tg t)) (hb : ∀ t, t < n → ∀ k, k < 3 → pl t k < 4096) (hP : ∀ i j, i < j → j < n → P i ≠ P j) : ∀ (k fu : Nat) (kc : Nat → Int32), k ≤ n → k < fu → (∀ j, j < k → kc (P j) = 0) → OK (mX7_fill_L7 pa ta tt tp fu (nI k + (-1)) kc) (fun z => z.2 = sfl pl tg T P k kc) := by
  intro k
  induction k with
  | zero =>
    intro fu kc _ hf _
    obtain ⟨fu, rfl⟩ : ∃ q, fu = q + 1 := ⟨fu - 1, by omega⟩
    rw [mX7_fill_L7]
    exact OK_T (by decide) (OK_some rfl)
  | succ k ih =>
    intro fu kc hk hf h0
    obtain ⟨fu, rfl⟩ : ∃ q, fu = q + 1 := ⟨fu - 1, by omega⟩
    obtain ⟨h1, h2, h3, h4⟩ := hT k (by omega)
    rw [mX7_fill_L7, pk_m1]
    refine OK_F (nI_pos (by omega)) (OK_T (ix_nI (by omega)) ?_)
    rw [show Int32.toNatClampNeg (nI k) = k from clN (by omega), h3, h4, show Int32.toNatClampNeg (nI (T k)) = T k from clN (by omega), hta (T k) h1]
    refine OK_T (ix_nI (by omega)) (OK_lt (OK_bind (fill_in_x hn (by omega) h1 h3 h4 h2 hpa (hb _ h1) (h0 k (by omega)) _) (fun y hy => OK_T (ix_nI (by omega)) (OK_be (setc_in h2) ?_))))
    rw [hy, sfl_s]
    exact ih fu _ (by omega) (by omega) (fun j hj => by rw [upo (hP j k hj (by omega))]; exact h0 j (by omega))
theorem solved_cells {N : Nat} (hN : N ≤ 1000) {v : Nat → Int64} {sd : Int32} {pa ta tt tp k0 kc : Nat → Int32} (hT : TryS v sd N pa ta tt tp) (hz : Zr k0) (hf : mX7_fill (nI N) pa ta tt tp k0 = some kc) {T P : Nat → Nat} (hR : RunS (plc v sd (cOf N)) (cOf N) N T P N) : ∀ i, i < 4096 → kc i = sfl (plc v sd (cOf N)) (fun t => stagN (thN v sd t)) T P N (fun _ => 0) i := by
  obtain ⟨hc8, hc⟩ := cOf_b hN
  obtain ⟨h1, h2, T2, P2, h3, h4⟩ := hT
  have hu := RunS_uniq hR h3
  have hb : ∀ t, t < N → ∀ k, k < 3 → plc v sd (cOf N) t k < 4096 := fun t _ k hk => by
    have := spN_lt (n := thN v sd t) (c := cOf N) (by omega) hk
    show spN (thN v sd t) k (cOf N) < 4096
    omega
  have hj : ∀ j, j < N → T j < N ∧ P j < 4096 ∧ tt j = nI (T j) ∧ tp j = nI (P j) := by
    intro j hj
    obtain ⟨a1, a2, a3, -⟩ := hR j hj
    obtain ⟨b1, b2⟩ := h4 j hj
    obtain ⟨u1, u2⟩ := hu j hj
    exact ⟨a1, by omega, by rw [u1]; exact b1, by rw [u2]; exact b2⟩
  have key : OK (mX7_fill (nI N) pa ta tt tp k0) (fun z => z = sfl (plc v sd (cOf N)) (fun t => stagN (thN v sd t)) T P N k0) := by
    unfold mX7_fill
    refine OK_bind (P := fun z => z.2 = sfl (plc v sd (cOf N)) (fun t => stagN (thN v sd t)) T P N k0) ?_ (fun z hz => OK_some hz)
    rw [show nI N - (1 : Int32) = nI N + (-1) by rw [Int32.sub_eq_add_neg]]
    exact fill_x (pl := plc v sd (cOf N)) (tg := fun t => stagN (thN v sd t)) hN hj h1 h2 hb (fun i j hij hjn => RunS_inj hR hij hjn) N FU k0 (Nat.le_refl _) (show N < 5000 by omega) (fun j hjn => hz _ (hj j hjn).2.1)
  have e := OK_use key hf
  intro i hi
  rw [e]
  exact sfl_ag N k0 (fun _ => 0) (fun j hjn q hq => hb _ (hj j hjn).1 q hq) (fun u hu => hz u hu) i hi
/-! the reference's fill -/
theorem rfill_in_x {c s : Nat} (h0 : 0 < c) (hc : c ≤ 1258) (hs : s < 30) (zz : Int32 × Int32 × (Nat → Int32) × (Nat → Int32) × (Nat → Int32) × (Nat → Int32) × (Nat → Int32) × (Nat → Int32) × (Nat → Int32)) (ez : zz.1 = nI s) (mx : Int64) {row0 row f : Nat → Int32} (hR : RowIs s row0 row f) (x0 : Int32) : OK (mX9_solve_L153 (nI c) zz mx row FU 0 x0) (fun z => z.2 = x3 f (fun k => spN (nM mx) k c) x0 3) := by
  refine OK_for (fun fu i (x : Int32) => mX9_solve_L153 (nI c) zz mx row fu i x) 3 (by decide) (fun k x => x = x3 f (fun k => spN (nM mx) k c) x0 k) _ (s := x0) rfl ?_ ?_
  · intro fu x hx
    show OK (mX9_solve_L153 (nI c) zz mx row (fu + 1) (nI 3) x) _
    rw [mX9_solve_L153]
    exact OK_T (by decide) (OK_some hx)
  · intro fu k x hk hx ih
    show OK (mX9_solve_L153 (nI c) zz mx row (fu + 1) (nI k) x) _
    have hsp := spN_lt (n := nM mx) (c := c) h0 hk
    rw [mX9_solve_L153, ez]
    refine OK_F (nI_ge (b := 3) hk (by decide)) (OK_be (sp_r mx hk h0 (by omega)) ?_)
    rw [m4096, nI_s, clN (k := 4096 * s + spN (nM mx) k c) (by omega), hR.1 _ (by omega)]
    exact OK_T (ix_nI (by omega)) (OK_lt (ih _ (by rw [hx]; rfl)))
theorem rfill_x {w n c s : Nat} (hw : w < 8) (hn : n ≤ 1000) (h0 : 0 < c) (hc : c ≤ 1258) (hs : s < 30) (vW : Nat → Int64) (sd : Int32) (o : Int32 × Int32 × (Nat → Int32) × (Nat → Int32) × (Nat → Int32) × (Nat → Int32)) {T P : Nat → Nat} (hT : ∀ j, j < n → T j < n ∧ P j < 3 * c ∧ o.2.2.1 j = nI (T j) ∧ o.2.2.2.1 j = nI (P j)) (zz : Int32 × Int32 × (Nat → Int32) × (Nat → Int32) × (Nat → Int32) × (Nat → Int32) × (Nat → Int32) × (Nat → Int32) × (Nat → Int32)) (ez : zz.1 = nI s) {row0 : Nat → Int32} : ∀ (k fu : Nat) (row f : Nat → Int32), k ≤ n → k < fu → RowIs s row0 row f → OK (mX9_solve_L111 vW (nI w) sd (nI c) o zz fu (nI k + (-1)) row) (fun z => RowIs s row0 z.2 (sfl (plc (wOf vW w) (sd + o.2.1) c) (fun t => stagN (thN (wOf vW w) (sd + o.2.1) t)) T P k f)) := by
  intro k
  induction k with
  | zero =>
    intro fu row f _ hf hR
    obtain ⟨fu, rfl⟩ : ∃ q, fu = q + 1 := ⟨fu - 1, by omega⟩
    rw [mX9_solve_L111]
    exact OK_T (by decide) (OK_some hR)
  | succ k ih =>
    intro fu row f hk hf hR
    obtain ⟨fu, rfl⟩ : ∃ q, fu = q + 1 := ⟨fu - 1, by omega⟩
    obtain ⟨h1, h2, h3, h4⟩ := hT k (by omega)
    rw [mX9_solve_L111, pk_m1, show Int32.toNatClampNeg (nI k) = k from clN (by omega), h3, h4, ez, m1000, m4096, clN (k := 4096 * s + P k) (by omega), clN (k := 1000 * w + T k) (by omega)]
    refine OK_F (nI_pos (by omega)) (OK_T (ix_nI (by omega)) (OK_T (ix_nI (by omega)) (OK_be (mix_r _ _) (OK_be (stag_r _) (OK_bind (rfill_in_x h0 hc hs zz ez _ hR _) (fun x hx => OK_T (ix_nI (by omega)) (OK_T (ix_nI (by omega)) ?_)))))))
    rw [sfl_s]
    refine ih fu _ _ (by omega) (by omega) ?_
    rw [hx]
    exact RowIs_u hR (by omega) _
/-- a new SOLVED one in the reference: its cells and its contents -/
def SvR (M N : Nat) (v : Nat → Int64) (sd : Int32) (row row1 : Nat → Int32) (Ct1 : Nat → Int64) : Prop := ∃ τ T P, TrV N v sd τ ∧ RunS (plc v (sd + nI τ) (cOf N)) (cOf N) N T P N ∧ RowIs M row row1 (sfl (plc v (sd + nI τ) (cOf N)) (fun t => stagN (thN v (sd + nI τ) t)) T P N (fun _ => 0)) ∧ AG N (slC Ct1 M) v
theorem rsolve_rowx {M : Nat} (hM : M ≤ 30) {w N : Nat} (hw : w < 8) (hN : N ≤ 1000) {vIW : Nat → Int32} (eW : vIW w = nI N) (vW : Nat → Int64) (vK vZ vM vS : Nat → Int32) (vCt : Nat → Int64) (vC vRow vR od oa io al : Nat → Int32) (sd : Int32) : OK (mX9_solve (nI M) vW vIW vK vZ vM vS vCt vC vRow vR od oa io al (nI w) sd) (fun z => z.1 = nI M → SvR M N (wOf vW w) sd vRow z.2.2.2.2.2.2.2.2.1 z.2.2.2.2.2.2.1) := by
  unfold mX9_solve
  obtain ⟨hc8, hc⟩ := cOf_b hN
  refine OK_be (isW1 hw) (OK_F (by decide) (OK_T (ix_nI hw) (OK_lt ?_)))
  rw [clN (k := w) (by omega), eW, cOf_I hN]
  refine OK_bind (rTries_v hw hN eW vW od oa io al sd) ?_
  rintro o (⟨e1, hno⟩ | ⟨τ, hτ, e1, hno, T, P, r1, r2⟩)
  · exact OK_F (by rw [e1]; decide) (OK_some (fun e => absurd e.symm (nMn hM (show (-3 : Int32) < 0 by decide))))
  · have hT : TrV N (wOf vW w) sd τ := ⟨hτ, hno, T, P, r1⟩
    refine OK_T (by rw [e1]; exact nI_pos' (by omega)) (OK_ite (fun q => OK_some (fun e => absurd e.symm (nMn hM (show (-4 : Int32) < 0 by decide)))) (fun q => OK_be (rbegin_v (m30 hM q) _ _ _ _ _ _ _ _ _ _ _) (OK_lt (OK_bind (P := fun z => RowIs M vRow z.2 (sfl (plc (wOf vW w) (sd + nI τ) (cOf N)) (fun t => stagN (thN (wOf vW w) (sd + nI τ) t)) T P N (fun _ => 0))) ?_ (fun y hy => OK_bind (fillFrom_x (m30 hM q) hw hN eW vW vCt _) (fun x hx => OK_some (fun _ => ⟨τ, T, P, hT, r1, hy, hx.2.2⟩)))))))
    rw [show nI N - (1 : Int32) = nI N + (-1) by rw [Int32.sub_eq_add_neg]]
    have hfx := rfill_x (row0 := vRow) hw hN (show 0 < cOf N by omega) hc (m30 hM q) vW sd o (T := T) (P := P) (fun j hj => ⟨(r1 j hj).1, (r1 j hj).2.2.1, (r2 j hj).1, (r2 j hj).2⟩) (nI M, nI (M + 1), upd vK M 3, upd vZ M (nI (cOf N)), upd vM M 0, upd vS M (sd + o.2.1), upd vC M 0, clrR M vRow, upd vR M 0) rfl N FU (clrR M vRow) (fun _ => 0) (Nat.le_refl _) (show N < 5000 by omega) (clr_Is M vRow)
    rw [e1] at hfx ⊢
    exact hfx
/-- the same world, seen from the class -/
theorem SvR_c {M N : Nat} (hN : N ≤ 1000) {u v : Nat → Int64} (h : AG N u v) {sd : Int32} {row row1 : Nat → Int32} {Ct1 : Nat → Int64} (H : SvR M N u sd row row1 Ct1) : SvR M N v sd row row1 Ct1 := by
  obtain ⟨τ, T, P, h1, h2, h3, h4⟩ := H
  have ep : ∀ t, t < N → plc u (sd + nI τ) (cOf N) t = plc v (sd + nI τ) (cOf N) t := by
    intro t ht
    funext k
    unfold plc thN
    rw [h t ht]
  have et : ∀ t, t < N → stagN (thN u (sd + nI τ) t) = stagN (thN v (sd + nI τ) t) := by
    intro t ht
    unfold thN
    rw [h t ht]
  refine ⟨τ, T, P, TrV_c hN h h1, RunS_c ep h2, ?_, AG_t h4 h⟩
  rw [sfl_ext (pl2 := plc v (sd + nI τ) (cOf N)) (tg2 := fun t => stagN (thN v (sd + nI τ) t)) (T2 := T) (P2 := P) N (fun _ => 0) (fun j hj => ⟨rfl, rfl, ep _ (h2 j hj).1, et _ (h2 j hj).1⟩)] at h3
  exact h3
/-! who passes: SOLVED -/
theorem third_x {Z : Nat} (hZ : Z ≤ 1258) : nI (3 * Z) / (3 : Int32) = nI Z := by
  rw [show nI (3 * Z) / (3 : Int32) = nI (3 * Z / 3) from q_d (by omega) (by decide) (by decide), Nat.mul_div_cancel_left Z (by decide)]
def LtS (Z : Nat) (mx : Int64) (kc : Nat → Int32) : Prop := x3 kc (fun k => spN (nM mx) k Z) 0 3 = nI (stagN (nM mx))
theorem passS_x {Z : Nat} (h0 : 0 < Z) (hZ : Z ≤ 1258) (kc : Nat → Int32) (mx : Int64) : OK (mX6_passesSolved (nI (3 * Z)) kc mx) (fun z => (z = 1 ∧ LtS Z mx kc) ∨ (z = 0 ∧ ¬ LtS Z mx kc)) := by
  unfold mX6_passesSolved
  refine OK_bind (P := fun z => z.2 = x3 kc (fun k => spN (nM mx) k Z) 0 3) ?_ (fun z hz => OK_be (stag_c mx) (OK_ite (fun q => OK_some (Or.inl ⟨rfl, hz.symm.trans q⟩)) (fun q => OK_some (Or.inr ⟨rfl, fun w => q (hz.trans w)⟩))))
  refine OK_for (fun fu k (s : Int32) => mX6_passesSolved_L5 (nI (3 * Z)) kc mx fu k s) 3 (by decide) (fun k s => s = x3 kc (fun k => spN (nM mx) k Z) 0 k) _ (s := 0) rfl ?_ ?_
  · intro fu s hs
    show OK (mX6_passesSolved_L5 (nI (3 * Z)) kc mx (fu + 1) (nI 3) s) _
    rw [mX6_passesSolved_L5]
    exact OK_T (by decide) (OK_some hs)
  · intro fu k s hk hs ih
    show OK (mX6_passesSolved_L5 (nI (3 * Z)) kc mx (fu + 1) (nI k) s) _
    have hsp := spN_lt (n := nM mx) (c := Z) h0 hk
    rw [mX6_passesSolved_L5, third_x hZ, nI_s]
    exact OK_F (nI_ge (b := 3) hk (by decide)) (OK_be (sp_c mx hk h0 (by omega)) (OK_be (cell_in (by omega)) (ih _ (by rw [hs]; rfl))))
theorem letsS_x {s Z : Nat} (hs : s < 30) (h0 : 0 < Z) (hZ : Z ≤ 1258) {vZ : Nat → Int32} (eZ : vZ s = nI Z) {row kc : Nat → Int32} (hR : ∀ i, i < 4096 → row (4096 * s + i) = kc i) (mx : Int64) (x0 : Int32) : OK (mX9_letsThrough_L56 vZ row (nI s) mx FU 0 x0) (fun z => z.2 = x3 kc (fun k => spN (nM mx) k Z) x0 3) := by
  refine OK_for (fun fu k (x : Int32) => mX9_letsThrough_L56 vZ row (nI s) mx fu k x) 3 (by decide) (fun k x => x = x3 kc (fun k => spN (nM mx) k Z) x0 k) _ (s := x0) rfl ?_ ?_
  · intro fu x hx
    show OK (mX9_letsThrough_L56 vZ row (nI s) mx (fu + 1) (nI 3) x) _
    rw [mX9_letsThrough_L56]
    exact OK_T (by decide) (OK_some hx)
  · intro fu k x hk hx ih
    show OK (mX9_letsThrough_L56 vZ row (nI s) mx (fu + 1) (nI k) x) _
    have hsp := spN_lt (n := nM mx) (c := Z) h0 hk
    rw [mX9_letsThrough_L56, clN (k := s) (by omega), eZ]
    refine OK_F (nI_ge (b := 3) hk (by decide)) (OK_T (ix_nI hs) (OK_be (sp_r mx hk h0 (by omega)) ?_))
    rw [m4096, nI_s, clN (k := 4096 * s + spN (nM mx) k Z) (by omega), hR _ (by omega)]
    exact OK_T (ix_nI (by omega)) (OK_lt (ih _ (by rw [hx]; rfl)))
