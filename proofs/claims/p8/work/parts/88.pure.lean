/-! ===== the reference: ranges ===== -/
def RKp (K Z m : Nat) : Prop := ((K = 0 ∨ K = 1) ∧ (∃ a, 3 ≤ a ∧ a ≤ 12 ∧ Z = 2 ^ a) ∧ m ≤ 8) ∨ (K = 2 ∧ (∃ a, a ≤ 8 ∧ Z = 2 ^ a) ∧ m = 0) ∨ (K = 3 ∧ 8 ≤ Z ∧ Z ≤ 1258 ∧ m = 0) ∨ (K = 4 ∧ Z ≤ 20 ∧ m = 3)
def RS (vKind vSize vMarks vCM vRM vLS : Nat → Int32) (s : Nat) : Prop := ∃ K Z m, vKind s = nI K ∧ vSize s = nI Z ∧ vMarks s = nI m ∧ RKp K Z m ∧ BN (vCM s) ∧ BN (vRM s) ∧ (K = 4 → ∀ i, i < Z → ∃ a, 3 ≤ a ∧ a ≤ 12 ∧ vLS (20 * s + i) = nI (2 ^ a))
theorem RKp_b {K Z m : Nat} (h : RKp K Z m) : K ≤ 4 ∧ Z ≤ 4096 ∧ m ≤ 8 := by
  rcases h with ⟨h1, ⟨a, h3, h4, rfl⟩, h5⟩ | ⟨h1, ⟨a, h3, rfl⟩, h5⟩ | ⟨h1, h2, h3, h4⟩ | ⟨h1, h2, h3⟩
  · have := pow_up h4; omega
  · have := pow_up h3; omega
  · omega
  · omega
theorem m20 (s i : Nat) : nI s * (20 : Int32) + nI i = nI (20 * s + i) := by rw [show nI s * (20 : Int32) = nI (s * 20) from pk_mul s 20, nI_add, Nat.mul_comm]
theorem m1000 (s i : Nat) : nI s * (1000 : Int32) + nI i = nI (1000 * s + i) := by rw [show nI s * (1000 : Int32) = nI (s * 1000) from pk_mul s 1000, nI_add, Nat.mul_comm]
theorem m4096 (s i : Nat) : nI s * (4096 : Int32) + nI i = nI (4096 * s + i) := by rw [show nI s * (4096 : Int32) = nI (s * 4096) from pk_mul s 4096, nI_add, Nat.mul_comm]
theorem m128 (s i : Nat) : nI s * (128 : Int32) + nI i = nI (128 * s + i) := by rw [show nI s * (128 : Int32) = nI (s * 128) from pk_mul s 128, nI_add, Nat.mul_comm]
theorem clN {k : Nat} (h : k < 2 ^ 31) : Int32.toNatClampNeg (nI k) = k := nI_clamp h
theorem q_d {p d : Nat} (h : p < 2 ^ 31) (h0 : 0 < d) (hd : d < 2 ^ 31) : nI p / nI d = nI (p / d) := pk_div h h0 hd
theorem r_d {p d : Nat} (h : p < 2 ^ 31) (h0 : 0 < d) (hd : d < 2 ^ 31) : irm (nI p) (nI d) = nI (p % d) := pk_rem h h0 hd
def nestN (n a : Nat) (wh : Int32) : Nat := if wh = 0 then n % 2 ^ 32 % 2 ^ a else othN (n % 2 ^ 32 % 2 ^ a) (tagN n) (2 ^ a)
theorem nestN_lt (n a : Nat) (wh : Int32) : nestN n a wh < 2 ^ a := by
  unfold nestN
  have h : n % 2 ^ 32 % 2 ^ a < 2 ^ a := Nat.mod_lt _ (Nat.two_pow_pos a)
  split
  · exact h
  · exact othN_lt h
theorem nestOf_v {vSize vSeed : Nat → Int32} {s a : Nat} (hs : s < 30) (ha : a ≤ 8) (e : vSize s = nI (2 ^ a)) (t : Int64) (wh : Int32) : mX9_nestOf vSize vSeed (nI s) t wh = some (nI (nestN (nM (mixV t (vSeed s))) a wh)) := by
  have hp : 0 < 2 ^ a := Nat.two_pow_pos a
  have hp2 : 2 ^ a ≤ 2 ^ 8 := pow_up ha
  unfold mX9_nestOf
  rw [if_pos (ix_nI hs), clN (by omega), mix_r, sb_, if_pos (ix_nI hs), e, nI_l (by omega), if_pos (fun h => by rw [show (0 : Int64) = lN 0 from rfl, pk_lEQ (by omega) (by decide)] at h; omega)]
  generalize hmx : mixV t (vSeed s) = mx
  have hn := nM_lt mx
  have hx : Int64.toInt32 (lrm (mx &&& (4294967295 : Int64)) (lN (2 ^ a))) = nI (nM mx % 2 ^ 32 % 2 ^ a) := by
    conv => lhs; rw [nM_eq mx]
    rw [mask_N hn (m := 4294967295) (k := 32) rfl (by decide), lrm_N (by omega) hp (by omega), lN_i]
  rw [hx]
  unfold lt_ nestN
  dsimp only
  by_cases hw : wh = 0
  · rw [if_pos hw, if_pos hw]
  · rw [if_neg hw, if_neg hw, tag_r, sb_, if_pos (ix_nI hs), oth_r (tagN_lt _) hp (by omega), sb_]
theorem layerLets01 {vSeed vBits vLS : Nat → Int32} {s i a : Nat} (hs : s < 30) (hi : i < 20) (ha : a ≤ 12) (e : vLS (20 * s + i) = nI (2 ^ a)) (t : Int64) : OK (mX9_layerLets vSeed vBits vLS (nI s) (nI i) t) (fun z => z = 0 ∨ z = 1) := by
  have hp : 0 < 2 ^ a := Nat.two_pow_pos a
  have hp2 : 2 ^ a ≤ 2 ^ 12 := pow_up ha
  unfold mX9_layerLets
  refine OK_T (ix_nI hs) (OK_be (mix_r _ _) (OK_bind (P := fun o => o.2 = 0 ∨ o.2 = 1) ?_ (fun o ho => OK_T ho (OK_some ho))))
  generalize mixV t _ = mx
  refine OK_for (fun fu j (x : Int32) => mX9_layerLets_L20 vBits vLS (nI s) (nI i) mx fu j x) 3 (by decide) (fun _ x => x = 0 ∨ x = 1) _ (Or.inr rfl) ?_ ?_
  · intro fu x hx
    show OK (mX9_layerLets_L20 vBits vLS (nI s) (nI i) mx (fu + 1) (nI 3) x) _
    rw [mX9_layerLets_L20]
    exact OK_T (by decide) (OK_some hx)
  · intro fu j x hj hx ih
    show OK (mX9_layerLets_L20 vBits vLS (nI s) (nI i) mx (fu + 1) (nI j) x) _
    rw [mX9_layerLets_L20]
    refine OK_F (nI_ge (b := 3) hj (by decide)) ?_
    rw [m20, clN (by omega), e]
    refine OK_T (ix_nI (by omega)) (OK_be (mp_r mx (by omega) hp (by omega)) ?_)
    have hm : mkN (nM mx) j % 2 ^ a < 2 ^ a := Nat.mod_lt _ hp
    generalize mkN (nM mx) j % 2 ^ a = q at hm
    rw [nI_s, show nI q / (32 : Int32) = nI (q / 32) from q_d (by omega) (by decide) (by decide), m128]
    exact OK_ite (fun _ => ih _ (Or.inl rfl)) (fun _ => OK_T (ix_nI (by omega)) (OK_ite (fun _ => ih _ (Or.inr rfl)) (fun _ => ih _ (Or.inl rfl))))
theorem restIn_ok {vRest : Nat → Int64} {vRM : Nat → Int32} {s : Nat} (hs : s < 30) (h : BN (vRM s)) (t : Int64) : OK (mX9_layeredLets_L82 vRest vRM (nI s) t FU 0 0) (fun _ => True) := by
  obtain ⟨k, hk, e⟩ := h
  refine OK_for (fun fu j (x : Int32) => mX9_layeredLets_L82 vRest vRM (nI s) t fu j x) k (by omega) (fun _ _ => True) _ trivial ?_ ?_
  · intro fu x _
    show OK (mX9_layeredLets_L82 vRest vRM (nI s) t (fu + 1) (nI k) x) _
    rw [mX9_layeredLets_L82, clN (by omega), e]
    exact OK_T (ix_nI hs) (OK_T (Int32.le_refl _) (OK_some trivial))
  · intro fu j x hj _ ih
    show OK (mX9_layeredLets_L82 vRest vRM (nI s) t (fu + 1) (nI j) x) _
    rw [mX9_layeredLets_L82, clN (by omega), e, m1000, nI_s]
    exact OK_T (ix_nI hs) (OK_F (nI_ge hj (by omega)) (OK_ite (fun _ => OK_T (ix_nI (by omega)) (OK_ite (fun _ => ih _ trivial) (fun _ => ih _ trivial))) (fun _ => ih _ trivial)))
theorem layered01 {vSize vSeed vBits vLS vRM : Nat → Int32} {vRest : Nat → Int64} {s Z : Nat} (hs : s < 30) (hZ : Z ≤ 20) (e : vSize s = nI Z) (hl : ∀ i, i < Z → ∃ a, 3 ≤ a ∧ a ≤ 12 ∧ vLS (20 * s + i) = nI (2 ^ a)) (hr : BN (vRM s)) (t : Int64) : OK (mX9_layeredLets vSize vSeed vBits vLS vRest vRM (nI s) t) (fun z => z = 0 ∨ z = 1) := by
  unfold mX9_layeredLets
  refine OK_bind (P := fun o => ∀ x, o = .inl x → x = 0 ∨ x = 1) ?_ (fun o ho => OK_sum (fun x hx => OK_some (ho x hx)) (fun _ _ => OK_T (ix_nI hs) (OK_ite (fun _ => OK_T (ix_nI hs) (OK_ite (fun _ => OK_some (Or.inr rfl)) (fun _ => OK_bind (restIn_ok hs hr t) (fun _ _ => OK_ite (fun _ => OK_some (Or.inl rfl)) (fun _ => OK_some (Or.inr rfl)))))) (fun _ => OK_T (ix_nI hs) (OK_ite (fun _ => OK_some (Or.inl rfl)) (fun _ => OK_bind (restIn_ok hs hr t) (fun _ _ => OK_ite (fun _ => OK_some (Or.inl rfl)) (fun _ => OK_some (Or.inr rfl)))))))))
  refine OK_for (fun fu j (_ : Unit) => mX9_layeredLets_L3 vSize vSeed vBits vLS (nI s) t fu j) Z (by omega) (fun _ _ => True) _ (s := ()) trivial ?_ ?_
  · intro fu _ _
    show OK (mX9_layeredLets_L3 vSize vSeed vBits vLS (nI s) t (fu + 1) (nI Z)) _
    rw [mX9_layeredLets_L3, clN (by omega), e]
    exact OK_T (ix_nI hs) (OK_T (Int32.le_refl _) (OK_some (fun x h => nomatch h)))
  · intro fu j _ hj _ ih
    show OK (mX9_layeredLets_L3 vSize vSeed vBits vLS (nI s) t (fu + 1) (nI j)) _
    obtain ⟨a, -, ha, ea⟩ := hl j hj
    rw [mX9_layeredLets_L3, clN (by omega), e, nI_s]
    exact OK_T (ix_nI hs) (OK_F (nI_ge hj (by omega)) (OK_bind (layerLets01 hs (by omega) ha ea t) (fun _ _ => OK_ite (fun _ => OK_ite (fun _ => OK_some (fun x h => by injection h with h; exact Or.inr h.symm)) (fun _ => OK_some (fun x h => by injection h with h; exact Or.inl h.symm))) (fun _ => ih () trivial))))
theorem solved01 {vSize vRow : Nat → Int32} {s Z : Nat} (hs : s < 30) (hZ : 8 ≤ Z) (hZ2 : Z ≤ 1258) (e : vSize s = nI Z) (mx : Int64) (x0 : Int32) : OK (mX9_letsThrough_L56 vSize vRow (nI s) mx FU 0 x0) (fun _ => True) := by
  refine OK_for (fun fu j (x : Int32) => mX9_letsThrough_L56 vSize vRow (nI s) mx fu j x) 3 (by decide) (fun _ _ => True) _ trivial ?_ ?_
  · intro fu x _
    show OK (mX9_letsThrough_L56 vSize vRow (nI s) mx (fu + 1) (nI 3) x) _
    rw [mX9_letsThrough_L56]
    exact OK_T (by decide) (OK_some trivial)
  · intro fu j x hj _ ih
    show OK (mX9_letsThrough_L56 vSize vRow (nI s) mx (fu + 1) (nI j) x) _
    have := spN_lt (n := nM mx) (c := Z) (by omega) hj
    rw [mX9_letsThrough_L56, clN (by omega), e]
    refine OK_F (nI_ge (b := 3) hj (by decide)) (OK_T (ix_nI hs) (OK_be (sp_r mx hj (by omega) (by omega)) ?_))
    rw [m4096, nI_s]
    exact OK_T (ix_nI (by omega)) (OK_lt (ih _ trivial))
def nestAt (s n a k : Nat) : Nat := 4096 * s + 4 * nestN n a (nI (k / 4)) + k % 4
theorem nestAt_lt {s n a k : Nat} (hs : s < 30) (ha : a ≤ 8) : nestAt s n a k < 122880 := by
  have := nestN_lt n a (nI (k / 4))
  have := pow_up ha
  unfold nestAt
  omega
theorem nestIx {s n a k : Nat} (hk : k < 8) : ((nI s * (4096 : Int32)) + ((4 : Int32) * nI (nestN n a (nI (k / 4))))) + (irm (nI k) (4 : Int32)) = nI (nestAt s n a k) := by
  rw [show (4 : Int32) * nI (nestN n a (nI (k / 4))) = nI (4 * nestN n a (nI (k / 4))) from pk_mul 4 _, m4096, show irm (nI k) (4 : Int32) = nI (k % 4) from r_d (by omega) (by decide) (by decide), nI_add]
  rfl
theorem nest01 {vSize vSeed vRow : Nat → Int32} {s a : Nat} (hs : s < 30) (ha : a ≤ 8) (e : vSize s = nI (2 ^ a)) (t : Int64) : OK (mX9_letsThrough_L121 vSize vSeed vRow (nI s) t (mixV t (vSeed s)) FU 0 0) (fun z => (z.2 = 0 ∧ ∀ k, k < 8 → vRow (nestAt s (nM (mixV t (vSeed s))) a k) ≠ nI (tagN (nM (mixV t (vSeed s))))) ∨ (z.2 = 1 ∧ ∃ k, k < 8 ∧ vRow (nestAt s (nM (mixV t (vSeed s))) a k) = nI (tagN (nM (mixV t (vSeed s)))))) := by
  generalize hmx : mixV t (vSeed s) = mx
  refine OK_for (fun fu j (x : Int32) => mX9_letsThrough_L121 vSize vSeed vRow (nI s) t mx fu j x) 8 (by decide) (fun k x => (x = 0 ∧ ∀ j, j < k → vRow (nestAt s (nM mx) a j) ≠ nI (tagN (nM mx))) ∨ (x = 1 ∧ ∃ j, j < k ∧ vRow (nestAt s (nM mx) a j) = nI (tagN (nM mx)))) _ (Or.inl ⟨rfl, fun j hj => absurd hj (by omega)⟩) ?_ ?_
  · intro fu x hx
    show OK (mX9_letsThrough_L121 vSize vSeed vRow (nI s) t mx (fu + 1) (nI 8) x) _
    rw [mX9_letsThrough_L121]
    exact OK_T (by decide) (OK_some hx)
  · intro fu k x hk hx ih
    show OK (mX9_letsThrough_L121 vSize vSeed vRow (nI s) t mx (fu + 1) (nI k) x) _
    rw [mX9_letsThrough_L121]
    refine OK_F (nI_ge (b := 8) hk (by decide)) ?_
    rw [show nI k / (4 : Int32) = nI (k / 4) from q_d (by omega) (by decide) (by decide), nI_s]
    rcases hx with ⟨rfl, hx⟩ | ⟨rfl, j, hj, hx⟩
    · refine OK_T rfl (OK_be (nestOf_v hs ha e t _) ?_)
      rw [hmx, nestIx hk, clN (by have := nestAt_lt (n := nM mx) (k := k) hs ha; omega)]
      refine OK_T (ix_nI (nestAt_lt hs ha)) (OK_be (tag_r mx) (OK_ite (fun h => ih _ (Or.inr ⟨rfl, k, by omega, h⟩)) (fun h => ih _ (Or.inl ⟨rfl, fun j hj => ?_⟩))))
      by_cases ej : j = k
      · subst ej; exact h
      · exact hx j (by omega)
    · exact OK_F (by decide) (ih _ (Or.inr ⟨rfl, j, by omega, hx⟩))
theorem marksR01 {vSize vMarks vRow : Nat → Int32} {s a m : Nat} (hs : s < 30) (ha : a ≤ 12) (hm : m ≤ 8) (e : vSize s = nI (2 ^ a)) (em : vMarks s = nI m) (mx : Int64) : OK (mX9_letsThrough_L188 vSize vMarks vRow (nI s) mx FU 0 1) (fun z => z.2 = 0 ∨ z.2 = 1) := by
  have hp : 0 < 2 ^ a := Nat.two_pow_pos a
  have hp2 : 2 ^ a ≤ 2 ^ 12 := pow_up ha
  refine OK_for (fun fu j (x : Int32) => mX9_letsThrough_L188 vSize vMarks vRow (nI s) mx fu j x) m (by omega) (fun _ x => x = 0 ∨ x = 1) _ (Or.inr rfl) ?_ ?_
  · intro fu x hx
    show OK (mX9_letsThrough_L188 vSize vMarks vRow (nI s) mx (fu + 1) (nI m) x) _
    rw [mX9_letsThrough_L188, clN (by omega), em]
    exact OK_T (ix_nI hs) (OK_T (Int32.le_refl _) (OK_some hx))
  · intro fu j x hj hx ih
    show OK (mX9_letsThrough_L188 vSize vMarks vRow (nI s) mx (fu + 1) (nI j) x) _
    rw [mX9_letsThrough_L188, clN (by omega), em, e, nI_s]
    have hq : mkN (nM mx) j % 2 ^ a < 2 ^ a := Nat.mod_lt _ hp
    refine OK_T (ix_nI hs) (OK_F (nI_ge hj (by omega)) (OK_ite (fun _ => ih _ (Or.inl rfl)) (fun _ => OK_T (ix_nI hs) (OK_be (mp_r mx (by omega) hp (by omega)) ?_))))
    generalize mkN (nM mx) j % 2 ^ a = q at hq
    rw [m4096]
    exact OK_T (ix_nI (by omega)) (OK_ite (fun _ => ih _ (Or.inl rfl)) (fun _ => ih _ (Or.inr rfl)))
theorem k_eq {K k : Nat} (hK : K ≤ 4) (hk : k ≤ 4) : nI K = nI k ↔ K = k := nI_eq (by omega) (by omega)
theorem lets01 {vKind vSize vMarks vSeed vRow vBits vLS vCM vRM : Nat → Int32} {vRest : Nat → Int64} {s : Nat} (hs : s < 30) (h : RS vKind vSize vMarks vCM vRM vLS s) (t : Int64) : OK (mX9_letsThrough vKind vSize vMarks vSeed vRow vBits vLS vRest vRM (nI s) t) (fun z => (z = 0 ∨ z = 1) ∧ ∀ a, vKind s = 2 → vSize s = nI (2 ^ a) → a ≤ 8 → z = 1 → ∃ k, k < 8 ∧ vRow (nestAt s (nM (mixV t (vSeed s))) a k) = nI (tagN (nM (mixV t (vSeed s))))) := by
  obtain ⟨K, Z, m, e1, e2, e3, hk, hc, hr, hl⟩ := h
  have hb := RKp_b hk
  unfold mX9_letsThrough
  refine OK_T (ix_nI hs) ?_
  rw [show Int32.toNatClampNeg (nI s) = s from clN (by omega), e1]
  refine OK_be (mix_r _ _) (OK_T (ix_nI hs) (OK_ite (fun h4 => ?_) (fun h4 => OK_T (ix_nI hs) (OK_ite (fun h3 => ?_) (fun h3 => OK_T (ix_nI hs) (OK_ite (fun h2 => ?_) (fun h2 => ?_)))))))
  · have hK : K = 4 := (k_eq hb.1 (by decide)).mp h4
    have hZ : Z ≤ 20 := by
      rcases hk with ⟨h1, _⟩ | ⟨h1, _⟩ | ⟨h1, _⟩ | ⟨h1, h2, _⟩
      · omega
      · omega
      · omega
      · exact h2
    refine OK_bind (layered01 hs hZ e2 (hl hK) hr t) (fun z hz => OK_T hz (OK_some ⟨hz, fun a ka _ _ _ => ?_⟩))
    exact absurd (h4.symm.trans ka) (by decide)
  · have hK : K = 3 := (k_eq hb.1 (by decide)).mp h3
    have hZ : 8 ≤ Z ∧ Z ≤ 1258 := by
      rcases hk with ⟨h1, _⟩ | ⟨h1, _⟩ | ⟨h1, h2, h5, _⟩ | ⟨h1, _⟩
      · omega
      · omega
      · exact ⟨h2, h5⟩
      · omega
    refine OK_be (stag_r _) (OK_bind (solved01 hs hZ.1 hZ.2 e2 _ _) (fun z _ => OK_ite (fun _ => OK_some ⟨Or.inr rfl, fun a ka _ _ _ => ?_⟩) (fun _ => OK_some ⟨Or.inl rfl, fun a ka _ _ _ => ?_⟩)))
    · exact absurd (h3.symm.trans ka) (by decide)
    · exact absurd (h3.symm.trans ka) (by decide)
  · have hK : K = 2 := (k_eq hb.1 (by decide)).mp h2
    obtain ⟨a, ha, rfl⟩ : ∃ a, a ≤ 8 ∧ Z = 2 ^ a := by
      rcases hk with ⟨h1, _⟩ | ⟨h1, h5, _⟩ | ⟨h1, _⟩ | ⟨h1, _⟩
      · omega
      · exact h5
      · omega
      · omega
    refine OK_bind (nest01 hs ha e2 t) (fun z hz => ?_)
    have hz1 : z.2 = 0 ∨ z.2 = 1 := by
      rcases hz with ⟨h, _⟩ | ⟨h, _⟩
      · exact Or.inl h
      · exact Or.inr h
    refine OK_T hz1 (OK_some ⟨hz1, fun b _ eb hb8 h1 => ?_⟩)
    have : 2 ^ a = 2 ^ b := by
      rw [e2] at eb
      have p1 := pow_up ha
      have p2 := pow_up hb8
      exact (nI_eq (by omega) (by omega)).mp eb
    have hab : a = b := (Nat.pow_right_inj (by decide)).mp this
    subst hab
    rcases hz with ⟨h, _⟩ | ⟨_, h⟩
    · rw [h] at h1; exact absurd h1 (by decide)
    · exact h
  · obtain ⟨⟨a, h3', ha, rfl⟩, hm⟩ : (∃ a, 3 ≤ a ∧ a ≤ 12 ∧ Z = 2 ^ a) ∧ m ≤ 8 := by
      rcases hk with ⟨h1, h5, h6⟩ | ⟨h1, _⟩ | ⟨h1, _⟩ | ⟨h1, _⟩
      · exact ⟨h5, h6⟩
      · exact absurd (by rw [h1]; rfl) h2
      · exact absurd (by rw [h1]; rfl) h3
      · exact absurd (by rw [h1]; rfl) h4
    exact OK_bind (marksR01 hs ha hm e2 e3 _) (fun z hz => OK_T hz (OK_some ⟨hz, fun b ka _ _ _ => absurd ka h2⟩))
theorem times_ok {vContents : Nat → Int64} {vCM : Nat → Int32} {s : Nat} (hs : s < 30) (h : BN (vCM s)) (t : Int64) : OK (mX9_timesIn vContents vCM (nI s) t) (fun _ => True) := by
  obtain ⟨k, hk, e⟩ := h
  unfold mX9_timesIn
  refine OK_bind (P := fun _ => True) ?_ (fun _ _ => OK_some trivial)
  refine OK_for (fun fu j (x : Int32) => mX9_timesIn_L6 vContents vCM (nI s) t fu j x) k (by omega) (fun _ _ => True) _ trivial ?_ ?_
  · intro fu x _
    show OK (mX9_timesIn_L6 vContents vCM (nI s) t (fu + 1) (nI k) x) _
    rw [mX9_timesIn_L6, clN (by omega), e]
    exact OK_T (ix_nI hs) (OK_T (Int32.le_refl _) (OK_some trivial))
  · intro fu j x hj _ ih
    show OK (mX9_timesIn_L6 vContents vCM (nI s) t (fu + 1) (nI j) x) _
    rw [mX9_timesIn_L6, clN (by omega), e, m1000, nI_s]
    exact OK_T (ix_nI hs) (OK_F (nI_ge hj (by omega)) (OK_T (ix_nI (by omega)) (OK_ite (fun _ => ih _ trivial) (fun _ => ih _ trivial))))
