/-! ===== Mix, both sides ===== -/
def mixV (t : Int64) (s : Int32) : Int64 := (mX4_of t s).getD 0
theorem mix_c (t : Int64) (s : Int32) : mX4_of t s = some (mixV t s) := rfl
theorem mix_r (t : Int64) (s : Int32) : mX9_mix t s = some (mixV t s) := rfl
def nM (x : Int64) : Nat := x.toBitVec.toNat
theorem nM_lt (x : Int64) : nM x < 2 ^ 64 := x.toBitVec.isLt
theorem nM_eq (x : Int64) : x = lN (nM x) := wb_inj (by rw [wb_tb]; unfold nM; simp)
theorem mask_N {n : Nat} (hn : n < 2 ^ 64) {m : Int64} {k : Nat} (hm : m = lN (2 ^ k - 1)) (hk : k < 64) : lN n &&& m = lN (n % 2 ^ k) := by rw [hm]; exact wb_mask hn hk
theorem lrm_N {a b : Nat} (ha : a < 2 ^ 63) (h0 : 0 < b) (hb : b < 2 ^ 63) : lrm (lN a) (lN b) = lN (a % b) := pk_lRem ha h0 hb
def mkN (n j : Nat) : Nat := n % 2 ^ 32 + j * (n / 2 ^ 32 ||| 1)
theorem or1_lt {a : Nat} (h : a < 2 ^ 32) : a ||| 1 < 2 ^ 32 := Nat.or_lt_two_pow h (by decide)
theorem mkN_lt {n j : Nat} (hn : n < 2 ^ 64) (hj : j < 8) : mkN n j < 2 ^ 36 := by
  have h1 : n % 2 ^ 32 < 2 ^ 32 := Nat.mod_lt _ (by decide)
  have h2 : n / 2 ^ 32 < 2 ^ 32 := by omega
  have h3 := or1_lt h2
  have h4 : j * (n / 2 ^ 32 ||| 1) ≤ 7 * 2 ^ 32 := Nat.mul_le_mul (by omega) (by omega)
  unfold mkN
  omega
theorem mk_S (mx : Int64) {j : Nat} (hj : j < 8) : (mx &&& (4294967295 : Int64)) + ((Int32.toInt64 (nI j)) * ((lush_ mx (32 : Int32)) ||| (1 : Int64))) = lN (mkN (nM mx) j) := by
  have hn := nM_lt mx
  have e := nM_eq mx
  generalize nM mx = n at hn e
  subst e
  have h2 : n / 2 ^ 32 < 2 ^ 64 := by omega
  rw [mask_N hn (m := 4294967295) (k := 32) rfl (by decide), show (32 : Int32) = nI 32 from rfl, lush_N hn (by decide), show (1 : Int64) = lN 1 from rfl, wb_or h2 (by decide), nI_l (by omega), lN_mul, lN_add]
  rfl
theorem mp_c (mx : Int64) {j a : Nat} (hj : j < 8) (ha : a ≤ 12) : mX4_markPlace mx (nI j) (nI (2 ^ a)) = some (nI (mkN (nM mx) j % 2 ^ a)) := by
  have hp : 0 < 2 ^ a := Nat.two_pow_pos a
  have hp2 : 2 ^ a ≤ 2 ^ 12 := Nat.pow_le_pow_right (by decide) ha
  have hm := mkN_lt (nM_lt mx) hj
  unfold mX4_markPlace
  rw [mk_S mx hj, show nI (2 ^ a) - (1 : Int32) = nI (2 ^ a - 1) from pk_sub (b := 1) (by omega), nI_l (by omega), wb_mask (by omega) (by omega), lN_i]
theorem mp_r (mx : Int64) {j w : Nat} (hj : j < 8) (h0 : 0 < w) (hw : w < 2 ^ 31) : mX9_markOf mx (nI j) (nI w) = some (nI (mkN (nM mx) j % w)) := by
  have hm := mkN_lt (nM_lt mx) hj
  unfold mX9_markOf
  rw [mk_S mx hj, nI_l hw, if_pos (fun h => by rw [show (0 : Int64) = lN 0 from rfl, pk_lEQ (by omega) (by decide)] at h; omega), lrm_N (by omega) h0 (by omega), lN_i]
theorem rest_N {a q : Nat} (ha : a < 2 ^ 63) (h0 : 0 < q) (hq : q < 2 ^ 31) : mX4_rest (lN a) (nI q) = some (nI (a % q)) := by
  unfold mX4_rest
  rw [if_pos (show (0 : Int32) < nI q from nI_lt (a := 0) h0 hq), nI_l hq, if_pos (fun h => by rw [show (0 : Int64) = lN 0 from rfl, pk_lEQ (by omega) (by decide)] at h; omega), lrm_N ha h0 (by omega), lN_i]
def tagN (n : Nat) : Nat := 1 + n / 2 ^ 56 % 255
theorem tagN_lt (n : Nat) : tagN n < 256 := by unfold tagN; omega
theorem tag_c (mx : Int64) : mX4_nestTag mx = some (nI (tagN (nM mx))) := by
  have hn := nM_lt mx
  have e := nM_eq mx
  generalize nM mx = n at hn e
  subst e
  unfold mX4_nestTag
  rw [show (56 : Int32) = nI 56 from rfl, lush_N hn (by decide), show (255 : Int32) = nI 255 from rfl, rest_N (by omega) (by decide) (by decide), sb_, show (1 : Int32) = nI 1 from rfl, nI_add]
  rfl
theorem tag_r (mx : Int64) : mX9_tagOf mx = some (nI (tagN (nM mx))) := by
  have hn := nM_lt mx
  have e := nM_eq mx
  generalize nM mx = n at hn e
  subst e
  unfold mX9_tagOf
  rw [show (56 : Int32) = nI 56 from rfl, lush_N hn (by decide), show (255 : Int64) = lN 255 from rfl, lrm_N (by omega) (by decide) (by decide), lN_i, show (1 : Int32) = nI 1 from rfl, nI_add]
  rfl
theorem fn_c (mx : Int64) {w : Nat} (h0 : 0 < w) (hw : w < 2 ^ 31) : mX4_firstNest mx (nI w) = some (nI (nM mx % 2 ^ 32 % w)) := by
  have hn := nM_lt mx
  have e := nM_eq mx
  generalize nM mx = n at hn e
  subst e
  unfold mX4_firstNest
  rw [mask_N hn (m := 4294967295) (k := 32) rfl (by decide), rest_N (by omega) h0 hw, sb_]
def othN (nt tg w : Nat) : Nat := nt ^^^ (tg * 2654435761 / 2 ^ 8 % w)
theorem oth_c {nt tg w : Nat} (ht : tg < 256) (h0 : 0 < w) (hw : w < 2 ^ 31) : mX4_otherNest (nI nt) (nI tg) (nI w) = some (nI (othN nt tg w)) := by
  unfold mX4_otherNest
  rw [nI_l (by omega), show (2654435761 : Int64) = lN 2654435761 from rfl, lN_mul, show (8 : Int32) = nI 8 from rfl, lush_N (by omega) (by decide), rest_N (by omega) h0 hw, sb_, nx_xor]
  rfl
theorem oth_r {nt tg w : Nat} (ht : tg < 256) (h0 : 0 < w) (hw : w < 2 ^ 31) : mX9_otherNest (nI nt) (nI tg) (nI w) = some (nI (othN nt tg w)) := by
  unfold mX9_otherNest
  rw [nI_l hw, if_pos (fun h => by rw [show (0 : Int64) = lN 0 from rfl, pk_lEQ (by omega) (by decide)] at h; omega), nI_l (by omega), show (2654435761 : Int64) = lN 2654435761 from rfl, lN_mul, show (8 : Int32) = nI 8 from rfl, lush_N (by omega) (by decide), lrm_N (by omega) h0 (by omega), lN_i, nx_xor]
  rfl
theorem othN_lt {nt tg a : Nat} (h : nt < 2 ^ a) : othN nt tg (2 ^ a) < 2 ^ a := Nat.xor_lt_two_pow h (Nat.mod_lt _ (Nat.two_pow_pos a))
def spN (n k c : Nat) : Nat := k * c + n / 2 ^ (20 * k) % 2 ^ 20 % c
theorem spN_lt {n k c : Nat} (h0 : 0 < c) (hk : k < 3) : spN n k c < 3 * c := by
  have := Nat.mod_lt (n / 2 ^ (20 * k) % 2 ^ 20) h0
  have h2 : k * c ≤ 2 * c := Nat.mul_le_mul_right c (by omega)
  unfold spN
  omega
theorem spN_div {n k c : Nat} (h0 : 0 < c) : spN n k c / c = k := by
  have := Nat.mod_lt (n / 2 ^ (20 * k) % 2 ^ 20) h0
  unfold spN
  rw [Nat.mul_comm k c, Nat.mul_add_div h0, Nat.div_eq_of_lt this, Nat.add_zero]
theorem sp_c (mx : Int64) {k c : Nat} (hk : k < 3) (h0 : 0 < c) (hc : c < 2 ^ 20) : mX4_solvedPlace mx (nI k) (nI c) = some (nI (spN (nM mx) k c)) := by
  have hn := nM_lt mx
  have e := nM_eq mx
  generalize nM mx = n at hn e
  subst e
  have hd : n / 2 ^ (20 * k) < 2 ^ 64 := Nat.lt_of_le_of_lt (Nat.div_le_self _ _) hn
  have hm : n / 2 ^ (20 * k) % 2 ^ 20 < 2 ^ 20 := Nat.mod_lt _ (by decide)
  unfold mX4_solvedPlace
  rw [show (20 : Int32) = nI 20 from rfl, pk_mul, lush_N hn (by omega), mask_N hd (m := 1048575) (k := 20) rfl (by decide), rest_N (by omega) h0 (by omega), sb_, pk_mul, nI_add]
  rfl
theorem sp_r (mx : Int64) {k c : Nat} (hk : k < 3) (h0 : 0 < c) (hc : c < 2 ^ 20) : mX9_solvedPlace mx (nI k) (nI c) = some (nI (spN (nM mx) k c)) := by
  have hn := nM_lt mx
  have e := nM_eq mx
  generalize nM mx = n at hn e
  subst e
  have hd : n / 2 ^ (20 * k) < 2 ^ 64 := Nat.lt_of_le_of_lt (Nat.div_le_self _ _) hn
  have hm : n / 2 ^ (20 * k) % 2 ^ 20 < 2 ^ 20 := Nat.mod_lt _ (by decide)
  unfold mX9_solvedPlace
  rw [nI_l (by omega), if_pos (fun h => by rw [show (0 : Int64) = lN 0 from rfl, pk_lEQ (by omega) (by decide)] at h; omega), show (20 : Int32) * nI k = nI (20 * k) from pk_mul 20 k, lush_N hn (by omega), mask_N hd (m := 1048575) (k := 20) rfl (by decide), lrm_N (by omega) h0 (by omega), lN_i, pk_mul, nI_add]
  rfl
def stagN (n : Nat) : Nat := 16 * (n / 2 ^ 60) + n % 16
theorem stag_c (mx : Int64) : mX4_solvedTag mx = some (nI (stagN (nM mx))) := by
  have hn := nM_lt mx
  have e := nM_eq mx
  generalize nM mx = n at hn e
  subst e
  unfold mX4_solvedTag
  rw [show (60 : Int32) = nI 60 from rfl, lush_N hn (by decide), show (15 : Int64) = lN 15 from rfl, show lN n &&& lN 15 = lN (n % 16) from wb_mask (k := 4) hn (by decide), show (16 : Int64) = lN 16 from rfl, lN_mul, lN_add, lN_i]
  rfl
theorem stag_r (mx : Int64) : mX9_solvedTag mx = some (nI (stagN (nM mx))) := by
  have hn := nM_lt mx
  have e := nM_eq mx
  generalize nM mx = n at hn e
  subst e
  unfold mX9_solvedTag
  rw [show (60 : Int32) = nI 60 from rfl, lush_N hn (by decide), show (15 : Int64) = lN 15 from rfl, show lN n &&& lN 15 = lN (n % 16) from wb_mask (k := 4) hn (by decide), lN_i, lN_i, show (16 : Int32) = nI 16 from rfl, pk_mul, nI_add, Nat.mul_comm (n / 2 ^ 60) 16]
  rfl
/-! ===== BitRow ===== -/
theorem br_begin {v : Nat → Int64} {b : Nat} (hb : b ≤ 4096) : mX1_begin v (nI b) = some (nI b, filJ 64 v 0) := by
  unfold mX1_begin
  rw [fill_J (by decide), sb_]
  have h1 : imn (nI b) (4096 : Int32) = nI b := pu_min b hb
  have h2 : imx (0 : Int32) (nI b) = nI b := pu_max b (by omega)
  rw [h1, h2]
theorem q64 {p : Nat} (h : p < 2 ^ 31) : nI p / (64 : Int32) = nI (p / 64) := pk_div (d := 64) h (by decide) (by decide)
theorem r64 {p : Nat} (h : p < 2 ^ 31) : irm (nI p) (64 : Int32) = nI (p % 64) := pk_rem (d := 64) h (by decide) (by decide)
theorem br_has {v : Nat → Int64} {b p : Nat} (hb : b ≤ 4096) (hp : p < b) : mX1_has (nI b) v (nI p) = some (if bts v p = true then 1 else 0) := by
  unfold mX1_has
  rw [if_neg (nI_pos (by omega)), if_neg (nI_ge hp (by omega)), q64 (by omega), r64 (by omega), if_pos (ix_nI (by omega)), cl_nI]
  by_cases h : bts v p = true
  · rw [if_pos h, if_pos ((bw_has (by omega)).mpr h)]
  · rw [if_neg h, if_neg (fun q => h ((bw_has (by omega)).mp q))]
theorem br_hasO {v : Nat → Int64} {b : Nat} {i : Int32} (h : i < 0 ∨ nI b ≤ i) : mX1_has (nI b) v i = some 0 := by
  unfold mX1_has
  by_cases h0 : i < 0
  · rw [if_pos h0]
  · rw [if_neg h0, if_pos (h.resolve_left h0)]
theorem in_or {i : Int32} {b : Nat} (hb : b < 2 ^ 31) : (i < 0 ∨ nI b ≤ i) ∨ ∃ p, p < b ∧ i = nI p := by
  rcases pk_ix i hb with h | h | h
  · exact Or.inl (Or.inl h)
  · exact Or.inl (Or.inr h)
  · exact Or.inr h
theorem br_has01 {v : Nat → Int64} {b : Nat} (hb : b ≤ 4096) (i : Int32) : OK (mX1_has (nI b) v i) (fun z => z = 0 ∨ z = 1) := by
  rcases in_or (i := i) (b := b) (by omega) with h | ⟨p, hp, rfl⟩
  · exact OK_eq (br_hasO h) (Or.inl rfl)
  · refine OK_eq (br_has hb hp) ?_
    by_cases h : bts v p = true
    · rw [if_pos h]; exact Or.inr rfl
    · rw [if_neg h]; exact Or.inl rfl
def setW (v : Nat → Int64) (p : Nat) : Nat → Int64 := vp_updL v (p / 64) (v (p / 64) ||| lsh_ (1 : Int64) (nI (p % 64)))
def clrW (v : Nat → Int64) (p : Nat) : Nat → Int64 := vp_updL v (p / 64) (v (p / 64) &&& (lsh_ (1 : Int64) (nI (p % 64)) ^^^ (-1 : Int64)))
theorem br_set {v : Nat → Int64} {b p : Nat} (hb : b ≤ 4096) (hp : p < b) : mX1_set (nI b) v (nI p) = some (setW v p) := by
  unfold mX1_set
  rw [if_neg (nI_pos (by omega)), if_neg (nI_ge hp (by omega)), q64 (by omega), r64 (by omega), if_pos (ix_nI (by omega)), if_pos (ix_nI (by omega)), cl_nI]
  rfl
theorem br_clr {v : Nat → Int64} {b p : Nat} (hb : b ≤ 4096) (hp : p < b) : mX1_clear (nI b) v (nI p) = some (clrW v p) := by
  unfold mX1_clear
  rw [if_neg (nI_pos (by omega)), if_neg (nI_ge hp (by omega)), q64 (by omega), r64 (by omega), if_pos (ix_nI (by omega)), if_pos (ix_nI (by omega)), cl_nI]
  rfl
theorem br_setO {v : Nat → Int64} {b : Nat} {i : Int32} (h : i < 0 ∨ nI b ≤ i) : mX1_set (nI b) v i = some v := by
  unfold mX1_set
  by_cases h0 : i < 0
  · rw [if_pos h0]
  · rw [if_neg h0, if_pos (h.resolve_left h0)]
theorem br_set_ok {v : Nat → Int64} {b : Nat} (hb : b ≤ 4096) (i : Int32) : OK (mX1_set (nI b) v i) (fun _ => True) := by
  rcases in_or (i := i) (b := b) (by omega) with h | ⟨p, hp, rfl⟩
  · exact OK_eq (br_setO h) trivial
  · exact OK_eq (br_set hb hp) trivial
theorem bts_set {v : Nat → Int64} {p q : Nat} : bts (setW v p) q = (bts v q || decide (q = p)) := by
  unfold bts setW
  by_cases h : q / 64 = p / 64
  · rw [h, pk_uLs, bw_or (by omega) (by omega)]
    congr 1
    rw [decide_eq_decide]
    omega
  · rw [pk_uLn h]
    have : q ≠ p := fun e => h (by rw [e])
    simp [this]
theorem bts_clr {v : Nat → Int64} {p q : Nat} : bts (clrW v p) q = (bts v q && !decide (q = p)) := by
  unfold bts clrW
  by_cases h : q / 64 = p / 64
  · rw [h, pk_uLs, bw_cl (by omega) (by omega)]
    congr 2
    rw [decide_eq_decide]
    omega
  · rw [pk_uLn h]
    have : q ≠ p := fun e => h (by rw [e])
    simp [this]
theorem bts_0 {v : Nat → Int64} {q : Nat} (h : q < 4096) : bts (filJ 64 v 0) q = false := by
  unfold bts filJ
  rw [if_pos (by omega)]
  exact BitVec.getLsbD_zero
theorem br_least (v : Nat → Int64) : OK (mX1_least v) (fun r => (r = -1 ∧ ∀ p, p < 4096 → bts v p = false) ∨ ∃ p, p < 4096 ∧ r = nI p ∧ bts v p = true ∧ ∀ q, q < p → bts v q = false) := by
  unfold mX1_least
  refine OK_bind (P := fun o => (∃ i, o = .inr i ∧ ∀ p, p < 4096 → bts v p = false) ∨ ∃ p, p < 4096 ∧ o = .inl (nI p) ∧ bts v p = true ∧ ∀ q, q < p → bts v q = false) ?_ ?_
  · refine OK_for (fun fu i (_ : Unit) => mX1_least_L2 v fu i) 64 (by decide) (fun i _ => ∀ p, p < 64 * i → bts v p = false) _ (s := ()) (by intro p hp; omega) ?_ ?_
    · intro fu _ h
      show OK (mX1_least_L2 v (fu + 1) (nI 64)) _
      rw [mX1_least_L2]
      exact OK_T (by decide) (OK_some (Or.inl ⟨_, rfl, fun p hp => h p (by omega)⟩))
    · intro fu i _ hi h ih
      show OK (mX1_least_L2 v (fu + 1) (nI i)) _
      rw [mX1_least_L2]
      refine OK_F (nI_ge (b := 64) hi (by decide)) (OK_T (ix_nI hi) ?_)
      rw [cl_nI]
      refine OK_ite (fun h0 => ?_) (fun h0 => OK_T (ix_nI hi) ?_)
      · rw [nI_s]
        refine ih () (fun p hp => ?_)
        by_cases hp2 : p < 64 * i
        · exact h p hp2
        · unfold bts
          rw [show p / 64 = i by omega, (lg_cmp_eq _ _).mp h0]
          exact BitVec.getLsbD_zero
      · obtain ⟨k, hk, e, h1, h2⟩ := ntz64 (fun q => h0 ((lg_cmp_eq _ _).mpr q))
        refine OK_be e (OK_some (Or.inr ⟨64 * i + k, by omega, ?_, ?_, ?_⟩))
        · rw [show (64 : Int32) = nI 64 from rfl, pk_mul, nI_add]
        · unfold bts
          rw [show (64 * i + k) / 64 = i by omega, show (64 * i + k) % 64 = k by omega]
          exact h1
        · intro q hq
          by_cases hq2 : q < 64 * i
          · exact h q hq2
          · unfold bts
            rw [show q / 64 = i by omega]
            exact h2 _ (by omega)
  · intro o ho
    rcases ho with ⟨i, rfl, h⟩ | ⟨p, hp, rfl, h1, h2⟩
    · exact OK_some (Or.inl ⟨rfl, h⟩)
    · exact OK_some (Or.inr ⟨p, hp, rfl, h1, h2⟩)
theorem br_total (v : Nat → Int64) : OK (mX1_total v) (fun _ => True) := by
  unfold mX1_total
  refine OK_bind (P := fun _ => True) ?_ (fun _ _ => OK_some trivial)
  refine OK_for (fun fu i (s : Int32) => mX1_total_L4 v fu i s) 64 (by decide) (fun _ _ => True) _ trivial ?_ ?_
  · intro fu s _
    show OK (mX1_total_L4 v (fu + 1) (nI 64) s) _
    rw [mX1_total_L4]
    exact OK_T (by decide) (OK_some trivial)
  · intro fu i s hi _ ih
    show OK (mX1_total_L4 v (fu + 1) (nI i) s) _
    rw [mX1_total_L4]
    refine OK_F (nI_ge (b := 64) hi (by decide)) (OK_T (ix_nI hi) ?_)
    refine OK_be rfl ?_
    rw [nI_s]
    exact ih _ trivial
theorem br_setMarks {v : Nat → Int64} {b m : Nat} (hb : b ≤ 4096) (hm : m ≤ 8) (mx : Int64) : OK (mX1_setMarks (nI b) v mx (nI m)) (fun _ => True) := by
  unfold mX1_setMarks
  refine OK_bind (P := fun _ => True) ?_ (fun _ _ => OK_some trivial)
  refine OK_for (fun fu i (s : Nat → Int64) => mX1_setMarks_L3 (nI b) mx (nI m) fu i s) m (by omega) (fun _ _ => True) _ trivial ?_ ?_
  · intro fu s _
    show OK (mX1_setMarks_L3 (nI b) mx (nI m) (fu + 1) (nI m) s) _
    rw [mX1_setMarks_L3]
    exact OK_T (Int32.le_refl _) (OK_some trivial)
  · intro fu i s hi _ ih
    show OK (mX1_setMarks_L3 (nI b) mx (nI m) (fu + 1) (nI i) s) _
    rw [mX1_setMarks_L3]
    refine OK_F (nI_ge hi (by omega)) (OK_be rfl (OK_bind (br_set_ok hb _) (fun z _ => ?_)))
    rw [nI_s]
    exact ih _ trivial
theorem br_hasMarks {v : Nat → Int64} {b m : Nat} (hb : b ≤ 4096) (hm : m ≤ 8) (mx : Int64) : OK (mX1_hasMarks (nI b) v mx (nI m)) (fun z => z = 0 ∨ z = 1) := by
  unfold mX1_hasMarks
  refine OK_bind (P := fun o => ∀ a, o = .inl a → a = 0) ?_ (fun o ho => OK_sum (fun a ha => OK_some (Or.inl (ho a ha))) (fun _ _ => OK_some (Or.inr rfl)))
  refine OK_for (fun fu i (_ : Unit) => mX1_hasMarks_L3 (nI b) v mx (nI m) fu i) m (by omega) (fun _ _ => True) _ (s := ()) trivial ?_ ?_
  · intro fu s _
    show OK (mX1_hasMarks_L3 (nI b) v mx (nI m) (fu + 1) (nI m)) _
    rw [mX1_hasMarks_L3]
    exact OK_T (Int32.le_refl _) (OK_some (fun a h => nomatch h))
  · intro fu i s hi _ ih
    show OK (mX1_hasMarks_L3 (nI b) v mx (nI m) (fu + 1) (nI i)) _
    rw [mX1_hasMarks_L3]
    refine OK_F (nI_ge hi (by omega)) (OK_be rfl (OK_bind (br_has01 hb _) (fun z _ => ?_)))
    refine OK_ite (fun _ => OK_some (fun a h => by injection h with h; exact h.symm)) (fun _ => ?_)
    rw [nI_s]
    exact ih () trivial
