/-! ===== put, exact in the cells ===== -/
theorem kept_x {s Z : Nat} (hs : s < 30) (hZ : Z ≤ 256) {vZ : Nat → Int32} (eZ : vZ s = nI Z) (row k0 : Nat → Int32) : OK (mX9_doPut_L35 vZ row (nI s) FU 0 k0) (fun z => ∀ i, i < 4 * Z → z.2 i = row (4096 * s + i)) := by
  refine OK_for (fun fu k (x : Nat → Int32) => mX9_doPut_L35 vZ row (nI s) fu k x) (4 * Z) (by omega) (fun k x => ∀ i, i < k → x i = row (4096 * s + i)) _ (s := k0) (fun i hi => absurd hi (Nat.not_lt_zero i)) ?_ ?_
  · intro fu x hx
    show OK (mX9_doPut_L35 vZ row (nI s) (fu + 1) (nI (4 * Z)) x) _
    rw [mX9_doPut_L35, clN (k := s) (by omega), eZ, four]
    exact OK_T (ix_nI hs) (OK_T (Int32.le_refl _) (OK_some hx))
  · intro fu k x hk hx ih
    show OK (mX9_doPut_L35 vZ row (nI s) (fu + 1) (nI k) x) _
    rw [mX9_doPut_L35, clN (k := s) (by omega), eZ, four, m4096, nI_s, clN (k := k) (by omega), clN (k := 4096 * s + k) (by omega)]
    refine OK_T (ix_nI hs) (OK_F (nI_ge hk (by omega)) (OK_T (ix_nI (by omega)) (OK_T (ix_nI (by omega)) (ih _ (fun i hi => ?_)))))
    by_cases e : i = k
    · rw [e, ups]
    · rw [upo e]
      exact hx i (by omega)
theorem laidB_x {s Z : Nat} (hs : s < 30) (hZ : Z ≤ 256) {vZ : Nat → Int32} (eZ : vZ s = nI Z) (o : Int32 × (Nat → Int32)) (row : Nat → Int32) : OK (mX9_doPut_L83 vZ (nI s) o FU 0 row) (fun z => ∀ q, z.2 q = if 4096 * s ≤ q ∧ q < 4096 * s + 4 * Z then o.2 (q - 4096 * s) else row q) := by
  refine OK_for (fun fu k (x : Nat → Int32) => mX9_doPut_L83 vZ (nI s) o fu k x) (4 * Z) (by omega) (fun k x => ∀ q, x q = if 4096 * s ≤ q ∧ q < 4096 * s + k then o.2 (q - 4096 * s) else row q) _ (s := row) (fun q => by rw [if_neg (fun w => by omega)]) ?_ ?_
  · intro fu x hx
    show OK (mX9_doPut_L83 vZ (nI s) o (fu + 1) (nI (4 * Z)) x) _
    rw [mX9_doPut_L83, clN (k := s) (by omega), eZ, four]
    exact OK_T (ix_nI hs) (OK_T (Int32.le_refl _) (OK_some hx))
  · intro fu k x hk hx ih
    show OK (mX9_doPut_L83 vZ (nI s) o (fu + 1) (nI k) x) _
    rw [mX9_doPut_L83, clN (k := s) (by omega), eZ, four, m4096, nI_s, clN (k := k) (by omega), clN (k := 4096 * s + k) (by omega)]
    refine OK_T (ix_nI hs) (OK_F (nI_ge hk (by omega)) (OK_T (ix_nI (by omega)) (OK_T (ix_nI (by omega)) (ih _ (fun q => ?_)))))
    by_cases e : q = 4096 * s + k
    · rw [e, ups, if_pos (by omega), show 4096 * s + k - 4096 * s = k by omega]
    · rw [upo e, hx q]
      by_cases w : 4096 * s ≤ q ∧ q < 4096 * s + k
      · rw [if_pos w, if_pos (by omega)]
      · rw [if_neg w, if_neg (fun r => w (by omega))]
def gC (kd c : Int32) : Int32 := imn (if kd = 1 then 15 else 1) (c + (1 : Int32))
def gR (kd c : Int32) : Int32 := if kd = 0 then (if (1 : Int32) ≤ c then 1 else c + 1) else (if (15 : Int32) ≤ c then 15 else c + 1)
theorem gCR {kd : Int32} (hk : kd = 0 ∨ kd = 1) (c : Nat) (hc : c ≤ 15) : gC kd (nI c) = gR kd (nI c) ∧ ∃ c', c' ≤ 15 ∧ gC kd (nI c) = nI c' := by
  rcases hk with rfl | rfl
  · exact up1' c hc
  · exact up15' c hc
/-- the cells after a thing has come in; none: the nests are crowded -/
def PtK (g : Int32 → Int32 → Int32) (kd : Int32) (a m : Nat) (mx : Int64) (kc : Nat → Int32) : Option (Nat → Int32) := if kd = 2 then ckN a (nestN (nM mx) a 0) (nestN (nM mx) a 1) (nI (tagN (nM mx))) kc else some (rz (mpl mx a) (g kd) m kc)
theorem PtK_2 {g : Int32 → Int32 → Int32} {kd : Int32} (h : kd = 2) (a m : Nat) (mx : Int64) (kc : Nat → Int32) : PtK g kd a m mx kc = ckN a (nestN (nM mx) a 0) (nestN (nM mx) a 1) (nI (tagN (nM mx))) kc := if_pos h
theorem PtK_1 {g : Int32 → Int32 → Int32} {kd : Int32} (h : ¬ kd = 2) (a m : Nat) (mx : Int64) (kc : Nat → Int32) : PtK g kd a m mx kc = some (rz (mpl mx a) (g kd) m kc) := if_neg h
theorem Pt_eq {kd : Int32} (hk : kd = 0 ∨ kd = 1 ∨ kd = 2) {a : Nat} (ha : a ≤ 12) (m : Nat) (mx : Int64) {kc : Nat → Int32} (hc : ¬ kd = 2 → C15 kc) : PtK gC kd a m mx kc = PtK gR kd a m mx kc ∧ (¬ kd = 2 → ∀ f, PtK gR kd a m mx kc = some f → C15 f) := by
  by_cases h2 : kd = 2
  · exact ⟨by rw [PtK_2 h2, PtK_2 h2], fun w => absurd h2 w⟩
  · have hk1 : kd = 0 ∨ kd = 1 := by
      rcases hk with w | w | w
      · exact Or.inl w
      · exact Or.inr w
      · exact absurd w h2
    obtain ⟨e1, e2⟩ := rz_eq (pl := mpl mx a) (mpl_w mx ha) (gCR hk1) (hc h2) m
    rw [PtK_1 h2, PtK_1 h2, e2]
    refine ⟨rfl, fun _ f e => ?_⟩
    rw [← Option.some.inj e, ← e2]
    exact e1
/-- what a put does: full, crowded, or in -/
def EnC (kd : Int32) (a m : Nat) (mx : Int64) (kc : Nat → Int32) (n : Nat) (v : Nat → Int64) (t : Int64) (z : Int32 × (Nat → Int32) × Int32 × (Nat → Int64)) : Prop := (n = 1000 ∧ z = (-4, kc, nI n, v)) ∨ (n < 1000 ∧ PtK gC kd a m mx kc = none ∧ z = (-3, kc, nI n, v)) ∨ (n < 1000 ∧ ∃ f, PtK gC kd a m mx kc = some f ∧ z = (nI (n + 1), f, nI (n + 1), insR v n t))
theorem enter_y {kd : Int32} {a m n : Nat} (ha : a ≤ 12) (ha2 : kd = 2 → a ≤ 8) (hm : m ≤ 8) (hn : n ≤ 1000) (sd : Int32) (kc : Nat → Int32) (v : Nat → Int64) (t : Int64) : OK (mX6_enter kd (nI (2 ^ a)) (nI m) sd kc (nI n) v t) (EnC kd a m (mixV t sd) kc n v t) := by
  unfold mX6_enter
  rcases Nat.lt_or_ge n 1000 with h | h
  · refine OK_be (bag_full0 h) (OK_T rfl (OK_be (mix_c t sd) (OK_ite (fun h2 => ?_) (fun h2 => ?_))))
    · refine OK_bind (nenter_x (ha2 h2) kc (mixV t sd)) ?_
      rintro z (⟨f, e, rfl⟩ | ⟨e, rfl⟩)
      · exact OK_F (show ¬ (1 : Int32) = 0 by decide) (OK_T h2 (OK_be (bag_ins h) (OK_be rfl (OK_some (Or.inr (Or.inr ⟨h, f, by rw [PtK_2 h2]; exact e, rfl⟩))))))
      · exact OK_T rfl (OK_some (Or.inr (Or.inl ⟨h, by rw [PtK_2 h2]; exact e, rfl⟩)))
    · refine OK_F h2 (OK_bind (raiseM_x ha hm kd (mixV t sd) kc) (fun z hz => OK_be (bag_ins h) (OK_be rfl (OK_some (Or.inr (Or.inr ⟨h, z, ?_, rfl⟩))))))
      rw [PtK_1 h2, hz]
      rfl
  · exact OK_be (bag_full1 (by omega)) (OK_F (by decide) (OK_some (Or.inl ⟨by omega, rfl⟩)))
def DpR (s : Nat) (kd : Int32) (a m : Nat) (mx : Int64) (kc : Nat → Int32) (vC : Nat → Int32) (vCt : Nat → Int64) (row : Nat → Int32) (t : Int64) (z : Int32 × (Nat → Int64) × (Nat → Int32) × (Nat → Int32) × (Nat → Int32)) : Prop := (vC s = nI 1000 ∧ z.1 = -4 ∧ z.2.1 = vCt ∧ z.2.2.1 = vC ∧ z.2.2.2.1 = row) ∨ ∃ n, n < 1000 ∧ vC s = nI n ∧ ((PtK gR kd a m mx kc = none ∧ z.1 = -3 ∧ z.2.1 = vCt ∧ z.2.2.1 = vC ∧ RowIs s row z.2.2.2.1 kc) ∨ ∃ f, PtK gR kd a m mx kc = some f ∧ z.1 = nI (n + 1) ∧ z.2.1 = vp_updL vCt (1000 * s + n) t ∧ z.2.2.1 = upd vC s (nI (n + 1)) ∧ RowIs s row z.2.2.2.1 f)
theorem doPut_y {vK vZ vM vC : Nat → Int32} {s a m : Nat} (hs : s < 30) (ha : a ≤ 12) (ha2 : vK s = 2 → a ≤ 8) (hm : m ≤ 8) (eZ : vZ s = nI (2 ^ a)) (eM : vM s = nI m) (hC : BN (vC s)) (vS : Nat → Int32) (vCt : Nat → Int64) {row kc : Nat → Int32} (hR : RowIs s row row kc) (kept : Nat → Int32) (t : Int64) : OK (mX9_doPut vK vZ vM vS vCt vC row kept (nI s) t) (DpR s (vK s) a m (mixV t (vS s)) kc vC vCt row t) := by
  obtain ⟨n, hn, en⟩ := hC
  have i30 := ix_nI (k := s) (n := 30) hs
  unfold mX9_doPut
  rw [clN (k := s) (by omega), en]
  refine OK_T i30 (OK_ite (fun q => OK_some (Or.inl ⟨en.trans q, rfl, rfl, rfl, rfl⟩)) (fun hf => OK_T i30 ?_))
  have hn1 : n < 1000 := by
    have : n ≠ 1000 := fun q => hf (by rw [q]; rfl)
    omega
  have i3 : ix (nI (1000 * s + n)) 30000 = true := ix_nI (by omega)
  rw [m1000, clN (k := 1000 * s + n) (by omega), nI_1, ups]
  refine OK_ite (fun h2 => ?_) (fun h2 => ?_)
  · have a8 := ha2 h2
    have hp := pow_up a8
    refine OK_bind (kept_x hs (by omega) eZ row kept) (fun o ho => OK_bind (putTag_x hs a8 eZ vS hR t) ?_)
    rintro z (⟨f, e, z1, z2⟩ | ⟨e, z1, f, z2, z3⟩)
    · refine OK_F (by rw [z1]; decide) (OK_T i30 (OK_T i3 (OK_T i30 (OK_T i30 (OK_T i30 (OK_some (Or.inr ⟨n, hn1, en, Or.inr ⟨f, by rw [PtK_2 h2]; exact e, rfl, rfl, rfl, z2⟩⟩)))))))
    · refine OK_T z1 (OK_bind (laidB_x hs (by omega) eZ o z.2) (fun y hy => OK_some (Or.inr ⟨n, hn1, en, Or.inl ⟨by rw [PtK_2 h2]; exact e, rfl, rfl, rfl, fun i hi => ?_, fun q hq => ?_⟩⟩)))
      · dsimp only
        rw [hy]
        by_cases w : i < 4 * 2 ^ a
        · rw [if_pos (by omega), show 4096 * s + i - 4096 * s = i by omega, ho i w]
          exact hR.1 i hi
        · rw [if_neg (by omega), z2.1 i hi]
          exact z3 i (by omega)
      · dsimp only
        rw [hy, if_neg (by omega)]
        exact z2.2 q hq
  · obtain ⟨r15, r1⟩ := raiseR_x hs ha hm eZ eM (mixV t (vS s)) hR
    refine OK_T i30 (OK_be (mix_r _ _) (OK_T i30 (OK_ite (fun h0 => OK_bind r1 (fun z hz => OK_T i30 (OK_T i3 (OK_T i30 (OK_T i30 (OK_T i30 (OK_some (Or.inr ⟨n, hn1, en, Or.inr ⟨_, PtK_1 h2 _ _ _ _, rfl, rfl, rfl, ?_⟩⟩)))))))) (fun h0 => OK_bind r15 (fun z hz => OK_T i30 (OK_T i3 (OK_T i30 (OK_T i30 (OK_T i30 (OK_some (Or.inr ⟨n, hn1, en, Or.inr ⟨_, PtK_1 h2 _ _ _ _, rfl, rfl, rfl, ?_⟩⟩)))))))))))
    · have e : gR (vK s) = fun c => if (1 : Int32) ≤ c then 1 else c + 1 := by
        funext c
        unfold gR
        rw [if_pos h0]
      rw [e]
      exact hz
    · have e : gR (vK s) = fun c => if (15 : Int32) ≤ c then 15 else c + 1 := by
        funext c
        unfold gR
        rw [if_neg h0]
      rw [e]
      exact hz
/-! putAll: how many come in, and the cells then -/
def pAl (kd : Int32) (a m : Nat) (sd : Int32) (wv : Nat → Int64) : Nat → Nat → (Nat → Int32) → Nat → Nat × (Nat → Int32)
  | 0, i, kc, _ => (i, kc)
  | d + 1, i, kc, n => if n = 1000 then (i, kc) else (PtK gR kd a m (mixV (wv i) sd) kc).elim (i, kc) (fun f => pAl kd a m sd wv d (i + 1) f (n + 1))
theorem pAl_f {kd : Int32} {a m : Nat} {sd : Int32} {wv : Nat → Int64} {d i n : Nat} {kc : Nat → Int32} (h : n = 1000) : pAl kd a m sd wv (d + 1) i kc n = (i, kc) := if_pos h
theorem pAl_c {kd : Int32} {a m : Nat} {sd : Int32} {wv : Nat → Int64} {d i n : Nat} {kc : Nat → Int32} (h : ¬ n = 1000) (e : PtK gR kd a m (mixV (wv i) sd) kc = none) : pAl kd a m sd wv (d + 1) i kc n = (i, kc) := by
  show (if n = 1000 then (i, kc) else (PtK gR kd a m (mixV (wv i) sd) kc).elim (i, kc) (fun f => pAl kd a m sd wv d (i + 1) f (n + 1))) = _
  rw [if_neg h, e]
  rfl
theorem pAl_s {kd : Int32} {a m : Nat} {sd : Int32} {wv : Nat → Int64} {d i n : Nat} {kc f : Nat → Int32} (h : ¬ n = 1000) (e : PtK gR kd a m (mixV (wv i) sd) kc = some f) : pAl kd a m sd wv (d + 1) i kc n = pAl kd a m sd wv d (i + 1) f (n + 1) := by
  show (if n = 1000 then (i, kc) else (PtK gR kd a m (mixV (wv i) sd) kc).elim (i, kc) (fun f => pAl kd a m sd wv d (i + 1) f (n + 1))) = _
  rw [if_neg h, e]
  rfl
/-- the class's loop: the cells, n and c things more than at i -/
def PaC (kd : Int32) (wv : Nat → Int64) (i n : Nat) (v : Nat → Int64) (p : Nat × (Nat → Int32)) (kc1 : Nat → Int32) (n1 : Int32) (v1 : Nat → Int64) : Prop := kc1 = p.2 ∧ i ≤ p.1 ∧ n + (p.1 - i) ≤ 1000 ∧ n1 = nI (n + (p.1 - i)) ∧ rising v1 (n + (p.1 - i)) ∧ (¬ kd = 2 → C15 kc1) ∧ ∀ t, cB (n + (p.1 - i)) v1 t = cB n v t + cB (p.1 - i) (fun j => wv (i + j)) t
theorem PaC_0 {kd : Int32} {wv : Nat → Int64} {i n : Nat} {v : Nat → Int64} {kc : Nat → Int32} (hn : n ≤ 1000) (hv : rising v n) (hc : ¬ kd = 2 → C15 kc) : PaC kd wv i n v (i, kc) kc (nI n) v := by
  unfold PaC
  dsimp only
  rw [Nat.sub_self, Nat.add_zero]
  exact ⟨rfl, Nat.le_refl _, hn, rfl, hv, hc, fun t => rfl⟩
theorem PaC_s {kd : Int32} {wv : Nat → Int64} {i n : Nat} {v : Nat → Int64} {p : Nat × (Nat → Int32)} {kc1 : Nat → Int32} {n1 : Int32} {v1 : Nat → Int64} (H : PaC kd wv (i + 1) (n + 1) (insR v n (wv i)) p kc1 n1 v1) : PaC kd wv i n v p kc1 n1 v1 := by
  obtain ⟨h1, h2, h3, h4, h5, h6, h7⟩ := H
  have e : n + (p.1 - i) = n + 1 + (p.1 - (i + 1)) := by omega
  refine ⟨h1, by omega, by omega, by rw [e]; exact h4, by rw [e]; exact h5, h6, fun t => ?_⟩
  rw [e, h7 t, cB_ins, show p.1 - i = 1 + (p.1 - (i + 1)) by omega, cB_add, show cB 1 (fun j => wv (i + j)) t = if wv i = t then 1 else 0 by rw [cB_s, cB_0, Nat.zero_add]; rfl, show (fun j => (fun j => wv (i + j)) (1 + j)) = (fun j => wv (i + 1 + j)) by funext j; show wv (i + (1 + j)) = wv (i + 1 + j); rw [Nat.add_assoc]]
  omega
theorem putAllL_x {kd : Int32} (hk : kd = 0 ∨ kd = 1 ∨ kd = 2) {a m N : Nat} (ha : a ≤ 12) (ha2 : kd = 2 → a ≤ 8) (hm : m ≤ 8) (hN : N ≤ 1000) (sd : Int32) (wv : Nat → Int64) : ∀ (d i n fu : Nat) (kc : Nat → Int32) (v : Nat → Int64), i + d = N → d < fu → n ≤ 1000 → rising v n → (¬ kd = 2 → C15 kc) → OK (mX8_putAllG_L37 (nI N) wv kd (nI (2 ^ a)) (nI m) sd fu (nI i) kc (nI n) v) (fun o => (∀ z, o = .inl z → z.1 = nI (pAl kd a m sd wv d i kc n).1 ∧ PaC kd wv i n v (pAl kd a m sd wv d i kc n) z.2.1 z.2.2.1 z.2.2.2) ∧ ∀ z, o = .inr z → (pAl kd a m sd wv d i kc n).1 = N ∧ PaC kd wv i n v (pAl kd a m sd wv d i kc n) z.2.1 z.2.2.1 z.2.2.2) := by
  intro d
  induction d with
  | zero =>
    intro i n fu kc v hi hf hn hv hc
    obtain ⟨fu, rfl⟩ : ∃ q, fu = q + 1 := ⟨fu - 1, by omega⟩
    obtain rfl : i = N := by omega
    rw [mX8_putAllG_L37]
    refine OK_be rfl (OK_T (Int32.le_refl _) (OK_some ⟨fun z h => (nomatch h), fun z h => ?_⟩))
    injection h with h
    subst h
    exact ⟨rfl, PaC_0 hn hv hc⟩
  | succ d ih =>
    intro i n fu kc v hi hf hn hv hc
    obtain ⟨fu, rfl⟩ : ∃ q, fu = q + 1 := ⟨fu - 1, by omega⟩
    rw [mX8_putAllG_L37, nI_s]
    refine OK_be rfl (OK_F (nI_ge (by omega) (by omega)) (OK_be (bag_atN hN (by omega)) (OK_bind (enter_y ha ha2 hm hn sd kc v (wv i)) ?_)))
    obtain ⟨pe, pc⟩ := Pt_eq hk ha m (mixV (wv i) sd) hc
    rintro z (⟨h1, rfl⟩ | ⟨h1, e, rfl⟩ | ⟨h1, f, e, rfl⟩)
    · refine OK_F (show ¬ (0 : Int32) ≤ -4 by decide) (OK_some ⟨fun z h => ?_, fun z h => (nomatch h)⟩)
      injection h with h
      subst h
      rw [pAl_f h1]
      exact ⟨rfl, PaC_0 hn hv hc⟩
    · rw [pe] at e
      refine OK_F (show ¬ (0 : Int32) ≤ -3 by decide) (OK_some ⟨fun z h => ?_, fun z h => (nomatch h)⟩)
      injection h with h
      subst h
      rw [pAl_c (by omega) e]
      exact ⟨rfl, PaC_0 hn hv hc⟩
    · rw [pe] at e
      refine OK_T (nI_pos' (by omega)) ?_
      rw [pAl_s (by omega) e]
      refine OK_mono (ih (i + 1) (n + 1) fu f (insR v n (wv i)) (by omega) (by omega) (by omega) (insR_rising hv hn) (fun w => pc w f e)) (fun o ho => ⟨fun z hz => ?_, fun z hz => ?_⟩)
      · exact ⟨(ho.1 z hz).1, PaC_s (ho.1 z hz).2⟩
      · exact ⟨(ho.2 z hz).1, PaC_s (ho.2 z hz).2⟩
