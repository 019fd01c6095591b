/-! ===== both states, side by side: cells and contents of the MARKED, COUNTED, NESTED ones ===== -/
def Op3 (kd : Int32) : Prop := kd = 0 ∨ kd = 1 ∨ kd = 2
def CeG (s : Nat) (vRow : Nat → Int32) : SlT → Prop := fun (kd, sz, mk1, sd, kc, n, v, τ) => Op3 kd → (∀ i, i < 4096 → vRow (4096 * s + i) = kc i) ∧ (¬ kd = 2 → C15 kc)
def CtG (s : Nat) (vC : Nat → Int32) (vCt : Nat → Int64) : SlT → Prop := fun (kd, sz, mk1, sd, kc, n, v, τ) => Op3 kd → ∃ k, k ≤ 1000 ∧ n = nI k ∧ vC s = nI k ∧ rising v k ∧ ∀ t, cB k v t = cB k (slC vCt s) t
def ExG (M : Nat) (σ : Nat → SlT) : RT → Prop := fun (many, vW, vIW, vK, vZ, vM, vS, vCt, vC, vRow, vB, vL, vLC, vRe, vR) => ∀ s, s < M → CeG s vRow (σ s) ∧ CtG s vC vCt (σ s)
theorem CeG_c {s : Nat} {row row1 : Nat → Int32} {τ : SlT} (h : CeG s row τ) (e : ∀ i, i < 4096 → row1 (4096 * s + i) = row (4096 * s + i)) : CeG s row1 τ := by
  obtain ⟨kd, sz, mk, sd, kc, n, v, τ⟩ := τ
  intro q
  obtain ⟨h1, h2⟩ := h q
  exact ⟨fun i hi => (e i hi).trans (h1 i hi), h2⟩
theorem CtG_c {s : Nat} {vC wC : Nat → Int32} {vCt wCt : Nat → Int64} {τ : SlT} (h : CtG s vC vCt τ) (e1 : wC s = vC s) (e2 : AG 1000 (slC wCt s) (slC vCt s)) : CtG s wC wCt τ := by
  obtain ⟨kd, sz, mk, sd, kc, n, v, τ⟩ := τ
  intro q
  obtain ⟨k, hk, h1, h2, h3, h4⟩ := h q
  exact ⟨k, hk, h1, e1.trans h2, h3, fun t => (h4 t).trans (cB_ext (fun i hi => (e2 i (by omega)).symm))⟩
theorem RF_s {s q : Nat} (hq : q ≠ s) {row row1 : Nat → Int32} (h : RF s row row1) : ∀ i, i < 4096 → row1 (4096 * q + i) = row (4096 * q + i) := fun i hi => h _ (by omega)
/-- what stands at s < M, when only M (or one more) is touched -/
theorem Ex_keep {M j : Nat} {σ : Nat → SlT} {vC C1 vRow row1 : Nat → Int32} {vCt Ct1 : Nat → Int64} (X : ∀ s, s < M → CeG s vRow (σ s) ∧ CtG s vC vCt (σ s)) (hF : FrC j vC vCt C1 Ct1) (hR : RF j vRow row1) {s : Nat} (hs : s < M) (hj : s ≠ j) : CeG s row1 (σ s) ∧ CtG s C1 Ct1 (σ s) := ⟨CeG_c (X s hs).1 (RF_s hj hR), CtG_c (X s hs).2 (hF s hj).1 (hF s hj).2⟩
theorem Ex_new {M : Nat} {σ : Nat → SlT} {vC C1 vRow row1 : Nat → Int32} {vCt Ct1 : Nat → Int64} (X : ∀ s, s < M → CeG s vRow (σ s) ∧ CtG s vC vCt (σ s)) (hF : FrC M vC vCt C1 Ct1) (hR : RF M vRow row1) {τ : SlT} (h1 : CeG M row1 τ) (h2 : CtG M C1 Ct1 τ) : ∀ s, s < M + 1 → CeG s row1 (nup σ M τ s) ∧ CtG s C1 Ct1 (nup σ M τ s) := by
  intro s hs
  by_cases e : s = M
  · subst e
    rw [nup_s]
    exact ⟨h1, h2⟩
  · rw [nup_n e]
    exact Ex_keep X hF hR (by omega) e
theorem Ex_slot {M j : Nat} {σ : Nat → SlT} {vC C1 vRow row1 : Nat → Int32} {vCt Ct1 : Nat → Int64} (X : ∀ s, s < M → CeG s vRow (σ s) ∧ CtG s vC vCt (σ s)) (hF : FrC j vC vCt C1 Ct1) (hR : RF j vRow row1) {τ : SlT} (h1 : CeG j row1 τ) (h2 : CtG j C1 Ct1 τ) : ∀ s, s < M → CeG s row1 (nup σ j τ s) ∧ CtG s C1 Ct1 (nup σ j τ s) := by
  intro s hs
  by_cases e : s = j
  · subst e
    rw [nup_s]
    exact ⟨h1, h2⟩
  · rw [nup_n e]
    exact Ex_keep X hF hR hs e
theorem RS_012 {vK vZ vM vC vR vL : Nat → Int32} {s : Nat} (h : RS vK vZ vM vC vR vL s) (ho : Op3 (vK s)) : ∃ a m, a ≤ 12 ∧ (vK s = 2 → a ≤ 8) ∧ m ≤ 8 ∧ vZ s = nI (2 ^ a) ∧ vM s = nI m := by
  by_cases h2 : vK s = 2
  · obtain ⟨a, ha, eZ⟩ := RS_2 h h2
    obtain ⟨K, Z, m, a1, a2, a3, a4, -⟩ := h
    exact ⟨a, m, by omega, fun _ => ha, (RKp_b a4).2.2, eZ, a3⟩
  · have h3 : vK s ≤ 2 := by
      rcases ho with e | e | e
      · rw [e]; decide
      · rw [e]; decide
      · rw [e]; decide
    obtain ⟨a, m, ha3, ha, hm, eZ, eM⟩ := RS_01 h h2 h3
    exact ⟨a, m, ha, fun q => absurd q h2, hm, eZ, eM⟩
theorem RS_cl {vK vZ vM vC vR vL : Nat → Int32} {s : Nat} (h : RS vK vZ vM vC vR vL s) (ho : ¬ Op3 (vK s)) : vK s = 3 ∨ vK s = 4 := by
  obtain ⟨K, Z, m, a1, a2, a3, a4, -⟩ := h
  rcases a4 with ⟨e | e, -⟩ | ⟨e, -⟩ | ⟨e, -⟩ | ⟨e, -⟩
  · exact absurd (Or.inl (by rw [a1, e]; rfl)) ho
  · exact absurd (Or.inr (Or.inl (by rw [a1, e]; rfl))) ho
  · exact absurd (Or.inr (Or.inr (by rw [a1, e]; rfl))) ho
  · exact Or.inl (by rw [a1, e]; rfl)
  · exact Or.inr (by rw [a1, e]; rfl)
theorem cl_le {x : Int32} (h : x = 3 ∨ x = 4) : ¬ x ≤ 2 := by
  rcases h with e | e
  · rw [e]; decide
  · rw [e]; decide
theorem op_le {x : Int32} (h : Op3 x) : x ≤ 2 := by
  rcases h with e | e | e
  · rw [e]; decide
  · rw [e]; decide
  · rw [e]; decide
theorem cl_open {x : Int32} (h : x = 3 ∨ x = 4) : mX6_isOpen x = some 0 := by
  rcases h with rfl | rfl
  · rfl
  · rfl
theorem op_open {x : Int32} (h : Op3 x) : mX6_isOpen x = some 1 := by
  rcases h with rfl | rfl | rfl
  · rfl
  · rfl
  · rfl
theorem RI_s {M : Nat} (hM : M ≤ 30) {vIW vK vZ vM vC vR vL : Nat → Int32} (h : RI (nI M) vIW vK vZ vM vC vR vL) {s : Nat} (hs : s < M) : RS vK vZ vM vC vR vL s := by
  obtain ⟨⟨M', hM', eM', hs'⟩, -⟩ := h
  have : M = M' := (nI_eq (by omega) (by omega)).mp eM'
  exact hs' s (by omega)
/-! put -/
theorem put_pair {s k : Nat} (hk : k ≤ 1000) {kd : Int32} (ho : Op3 kd) {a m : Nat} (ha : a ≤ 12) {mx : Int64} {t : Int64} {kc row vC : Nat → Int32} {vCt v : Nat → Int64} (hr : rising v k) (ec : ∀ u, cB k v u = cB k (slC vCt s) u) (en : vC s = nI k) (rI : RowIs s row row kc) (hc : ¬ kd = 2 → C15 kc) {z8 : Int32 × (Nat → Int32) × Int32 × (Nat → Int64)} {z9 : Int32 × (Nat → Int64) × (Nat → Int32) × (Nat → Int32) × (Nat → Int32)} (h8 : EnC kd a m mx kc k v t z8) (h9 : DpR s kd a m mx kc vC vCt row t z9) : z8.1 = z9.1 ∧ FrC s vC vCt z9.2.2.1 z9.2.1 ∧ RF s row z9.2.2.2.1 ∧ ((∀ i, i < 4096 → z9.2.2.2.1 (4096 * s + i) = z8.2.1 i) ∧ (¬ kd = 2 → C15 z8.2.1)) ∧ ∃ k1, k1 ≤ 1000 ∧ z8.2.2.1 = nI k1 ∧ z9.2.2.1 s = nI k1 ∧ rising z8.2.2.2 k1 ∧ ∀ u, cB k1 z8.2.2.2 u = cB k1 (slC z9.2.1 s) u := by
  obtain ⟨pe, pc⟩ := Pt_eq ho ha m mx hc
  rcases h9 with ⟨g1, z1, z2, z3, z4⟩ | ⟨n, hn, g1, ⟨e, z1, z2, z3, z4⟩ | ⟨f, e, z1, z2, z3, z4⟩⟩
  · have hk2 : k = 1000 := (nI_eq (by omega) (by omega)).mp (en.symm.trans g1)
    rcases h8 with ⟨-, rfl⟩ | ⟨q, -⟩ | ⟨q, -⟩
    · rw [z1, z2, z3, z4]
      exact ⟨rfl, FrC_r _ _ _, RF_r _ _, ⟨rI.1, hc⟩, k, hk, rfl, en, hr, ec⟩
    · omega
    · omega
  · have hk2 : k = n := (nI_eq (by omega) (by omega)).mp (en.symm.trans g1)
    subst hk2
    rcases h8 with ⟨q, -⟩ | ⟨-, -, rfl⟩ | ⟨-, f, e2, -⟩
    · omega
    · rw [z1, z2, z3]
      exact ⟨rfl, FrC_r _ _ _, z4.2, ⟨z4.1, hc⟩, k, hk, rfl, en, hr, ec⟩
    · rw [pe, e] at e2
      exact absurd e2 (by simp)
  · have hk2 : k = n := (nI_eq (by omega) (by omega)).mp (en.symm.trans g1)
    subst hk2
    rcases h8 with ⟨q, -⟩ | ⟨-, e2, -⟩ | ⟨-, f2, e2, rfl⟩
    · omega
    · rw [pe, e] at e2
      exact absurd e2 (by simp)
    · rw [pe, e] at e2
      have ef := Option.some.inj e2
      subst ef
      rw [z1, z2, z3]
      refine ⟨rfl, fun q hq => ⟨upo hq, slC_o hq hn⟩, z4.2, ⟨z4.1, fun w => pc w _ e⟩, k + 1, by omega, rfl, ups, insR_rising hr hk, fun u => ?_⟩
      rw [cB_push, ← ec u]
      exact cB_ins
theorem sput_y {kd : Int32} (ho : Op3 kd) {a m n : Nat} (ha : a ≤ 12) (ha2 : kd = 2 → a ≤ 8) (hm : m ≤ 8) (hn : n ≤ 1000) (sd : Int32) (kc : Nat → Int32) (v : Nat → Int64) (t : Int64) : OK (mX8_put t kd (nI (2 ^ a)) (nI m) sd kc (nI n) v) (EnC kd a m (mixV t sd) kc n v t) := by
  unfold mX8_put
  exact OK_be (op_open ho) (OK_F (by decide) (OK_bind (enter_y ha ha2 hm hn sd kc v t) (fun z hz => OK_some hz)))
theorem rput_y {M s : Nat} (hM : M ≤ 30) (hs : s < M) (vK vZ vM vS : Nat → Int32) (vCt : Nat → Int64) (vC row kept : Nat → Int32) (t : Int64) {z : Int32 × (Nat → Int64) × (Nat → Int32) × (Nat → Int32) × (Nat → Int32)} (h : mX9_put (nI M) vK vZ vM vS vCt vC row kept (nI s) t = some z) : (vK s ≤ 2 → mX9_doPut vK vZ vM vS vCt vC row kept (nI s) t = some z) ∧ (¬ vK s ≤ 2 → z = (-2, vCt, vC, row, kept)) := by
  unfold mX9_put at h
  rw [is_y hM hs, sb_, if_neg (show ¬ (1 : Int32) = 0 by decide), if_pos (ix_nI (show s < 30 by omega)), clN (k := s) (by omega)] at h
  constructor
  · intro q
    rw [if_pos q] at h
    obtain ⟨y, hy, h⟩ := bind_some h
    rw [hy]
    exact h
  · intro q
    rw [if_neg q] at h
    exact (Option.some.inj h).symm
theorem pG_put {wN wN1 : Nat → Nat} {wV wV1 : Nat → Nat → Int64} {M M1 : Nat} {σ σ1 : Nat → SlT} {r r1 : RT} {sq : Int32} {t : Int64} {x8 x9 : Int32} (hI : RIY r) (hV : ∀ j, j < M → SVs (σ j)) (hR : WRs wN wV) (H : SimH wN wV M σ r) (X : ExG M σ r) (h8 : T8_put sq t wN wV M σ x8 wN1 wV1 M1 σ1) (h9 : S9_put sq t r x9 r1) : x8 = x9 ∧ ExG M1 σ1 r1 := by
  rcases h8 with ⟨hn, e, rfl, rfl, rfl, rfl⟩ | ⟨j, hj, rfl, τ, hP, rfl, rfl, rfl, rfl⟩
  · obtain ⟨q1, q2⟩ := (sim_put hI hV H h9).1 hn
    rw [q2]
    exact ⟨e.trans q1.symm, X⟩
  · obtain ⟨many, vW, vIW, vK, vZ, vM, vS, vCt, vC, vRow, vB, vL, vLC, vRe, vR⟩ := r
    obtain ⟨rfl, hM, hK, hs⟩ := H
    obtain ⟨kept, z, hz, rfl, rfl⟩ := h9
    have a1 := (hs j hj).1
    obtain ⟨c1, c2⟩ := X j hj
    have hS := RI_s hM hI.1 hj
    rcases eσ : σ j with ⟨kd, sz, mk, sd, kc, n, v, lay⟩
    rw [eσ] at hP a1 c1 c2
    obtain ⟨y, hy, rfl, rfl⟩ := hP
    obtain ⟨b1, b2, b3, b4, -⟩ := a1
    subst b1 b2 b3
    obtain ⟨p1, p2⟩ := rput_y hM hj vK vZ vM vS vCt vC vRow kept t hz
    by_cases ho : Op3 (vK j)
    · obtain ⟨a, m, ha, ha2, hm, eZ, eM⟩ := RS_012 hS ho
      obtain ⟨k, hk, rfl, e2, e3, e4⟩ := c2 ho
      obtain ⟨q1, q2⟩ := c1 ho
      have es := (b4 ho).trans eZ
      subst es
      rw [eM] at hy
      obtain ⟨g1, g2, g3, g4, g5⟩ := put_pair hk ho ha e3 e4 e2 ⟨q1, fun _ _ => rfl⟩ q2 (OK_use (sput_y ho ha ha2 hm hk _ kc v t) hy) (OK_use (doPut_y (by omega) ha ha2 hm eZ eM ⟨k, hk, e2⟩ vS vCt ⟨q1, fun _ _ => rfl⟩ kept t) (p1 (op_le ho)))
      exact ⟨g1, Ex_slot X g2 g3 (fun _ => g4) (fun _ => g5)⟩
    · have hcl := RS_cl hS ho
      have ez := p2 (cl_le hcl)
      subst ez
      unfold mX8_put at hy
      rw [cl_open hcl, sb_, if_pos rfl] at hy
      cases Option.some.inj hy
      exact ⟨rfl, Ex_slot X (FrC_r _ _ _) (RF_r _ _) (fun q => absurd q ho) (fun q => absurd q ho)⟩
/-! putAll -/
theorem pAl_ext {kd : Int32} {a m : Nat} {sd : Int32} {wv wv' : Nat → Int64} : ∀ (d i n : Nat) (kc : Nat → Int32), (∀ j, i ≤ j → j < i + d → wv j = wv' j) → pAl kd a m sd wv d i kc n = pAl kd a m sd wv' d i kc n := by
  intro d
  induction d with
  | zero => intro i n kc _; rfl
  | succ d ih =>
    intro i n kc h
    have ei := h i (Nat.le_refl _) (by omega)
    by_cases q : n = 1000
    · rw [pAl_f q, pAl_f q]
    · rcases e : PtK gR kd a m (mixV (wv i) sd) kc with _ | f
      · rw [pAl_c q e, pAl_c q (by rw [← ei]; exact e)]
      · rw [pAl_s q e, pAl_s q (by rw [← ei]; exact e)]
        exact ih (i + 1) (n + 1) f (fun j h1 h2 => h j (by omega) (by omega))
theorem pAl_le {kd : Int32} {a m : Nat} {sd : Int32} {wv : Nat → Int64} : ∀ (d i n : Nat) (kc : Nat → Int32), (pAl kd a m sd wv d i kc n).1 ≤ i + d := by
  intro d
  induction d with
  | zero => intro i n kc; exact Nat.le_refl _
  | succ d ih =>
    intro i n kc
    by_cases q : n = 1000
    · rw [pAl_f q]
      exact Nat.le_add_right _ _
    · rcases e : PtK gR kd a m (mixV (wv i) sd) kc with _ | f
      · rw [pAl_c q e]
        exact Nat.le_add_right _ _
      · rw [pAl_s q e]
        have := ih (i + 1) (n + 1) f
        omega
theorem sputAll_y {kd : Int32} (ho : Op3 kd) {a m N n : Nat} (ha : a ≤ 12) (ha2 : kd = 2 → a ≤ 8) (hm : m ≤ 8) (hN : N ≤ 1000) (hn : n ≤ 1000) (sd : Int32) (wv : Nat → Int64) (kc : Nat → Int32) {v : Nat → Int64} (hv : rising v n) (hc : ¬ kd = 2 → C15 kc) : OK (mX8_putAllG (nI N) wv kd (nI (2 ^ a)) (nI m) sd kc (nI n) v) (fun z => z.1 = nI (pAl kd a m sd wv N 0 kc n).1 ∧ PaC kd wv 0 n v (pAl kd a m sd wv N 0 kc n) z.2.1 z.2.2.1 z.2.2.2) := by
  unfold mX8_putAllG
  refine OK_be (op_open ho) (OK_F (by decide) (OK_bind (putAllL_x ho ha ha2 hm hN sd wv N 0 n FU kc v (by omega) (show N < 5000 by omega) hn hv hc) (fun o h => OK_sum (fun z hz => OK_some (h.1 z hz)) (fun z hz => OK_be rfl (OK_some ⟨?_, (h.2 z hz).2⟩)))))
  show nI N = _
  rw [(h.2 z hz).1]
theorem rputAll_y {M s w N : Nat} (hM : M ≤ 30) (hs : s < M) (hw : w < 8) {vW : Nat → Int64} {vIW vK vZ vM vS : Nat → Int32} {vCt : Nat → Int64} {vC row kept : Nat → Int32} {z : Int32 × (Nat → Int64) × (Nat → Int32) × (Nat → Int32) × (Nat → Int32)} (h : mX9_putAll (nI M) vW vIW vK vZ vM vS vCt vC row kept (nI s) (nI w) = some z) : (vK s ≤ 2 → mX9_putAll_L32 vW vIW vK vZ vM vS (nI s) (nI w) FU 0 vCt vC row kept = some z) ∧ (¬ vK s ≤ 2 → z = (-2, vCt, vC, row, kept)) := by
  unfold mX9_putAll at h
  rw [is_y hM hs, sb_, if_neg (show ¬ (1 : Int32) = 0 by decide), isW1 hw, sb_, if_neg (show ¬ (1 : Int32) = 0 by decide), if_pos (ix_nI (show s < 30 by omega)), clN (k := s) (by omega)] at h
  constructor
  · intro q
    rw [if_pos q] at h
    obtain ⟨y, hy, h⟩ := bind_some h
    rw [hy]
    exact h
  · intro q
    rw [if_neg q] at h
    exact (Option.some.inj h).symm
theorem pG_putAll {wN wN1 : Nat → Nat} {wV wV1 : Nat → Nat → Int64} {M M1 : Nat} {σ σ1 : Nat → SlT} {r r1 : RT} {sq : Int32} {wi : Int32} {x8 x9 : Int32} (hI : RIY r) (hV : ∀ j, j < M → SVs (σ j)) (hR : WRs wN wV) (H : SimH wN wV M σ r) (X : ExG M σ r) (h8 : T8_putAll sq wi wN wV M σ x8 wN1 wV1 M1 σ1) (h9 : S9_putAll sq wi r x9 r1) : x8 = x9 ∧ ExG M1 σ1 r1 := by
  rcases h8 with ⟨hn, e, -, -, rfl, rfl⟩ | ⟨j, hj, w, hw, rfl, rfl, τ, hP, -, -, rfl, rfl⟩
  · obtain ⟨q1, q2⟩ := (sim_putAll hR hI hV H h9).1 hn
    rw [q2]
    exact ⟨e.trans q1.symm, X⟩
  · obtain ⟨many, vW, vIW, vK, vZ, vM, vS, vCt, vC, vRow, vB, vL, vLC, vRe, vR⟩ := r
    obtain ⟨rfl, hM, hK, hs⟩ := H
    obtain ⟨kept, z, hz, rfl, rfl⟩ := h9
    have hNw := (hR w hw).1
    have a1 := (hs j hj).1
    obtain ⟨c1, c2⟩ := X j hj
    have hS := RI_s hM hI.1 hj
    rcases eσ : σ j with ⟨kd, sz, mk, sd, kc, n, v, lay⟩
    rw [eσ] at hP a1 c1 c2
    obtain ⟨y, hy, rfl, rfl⟩ := hP
    obtain ⟨b1, b2, b3, b4, -⟩ := a1
    subst b1 b2 b3
    obtain ⟨p1, p2⟩ := rputAll_y (N := 0) hM hj hw hz
    by_cases ho : Op3 (vK j)
    · obtain ⟨a, m, ha, ha2, hm, eZ, eM⟩ := RS_012 hS ho
      obtain ⟨k, hk, rfl, e2, e3, e4⟩ := c2 ho
      obtain ⟨q1, q2⟩ := c1 ho
      have es := (b4 ho).trans eZ
      subst es
      rw [eM] at hy
      obtain ⟨y1, y2, y3, y4, y5, y6, y7, y8⟩ := OK_use (sputAll_y ho ha ha2 hm hNw hk _ (wV w) kc e3 q2) hy
      obtain ⟨z1, z2, z3, z4, z5, z6, z7⟩ := OK_use (putAllR_x (by omega) hw hNw (hK w hw).1 ha ha2 hm eZ eM vS vRow (wN w) 0 k FU vCt vC vRow kept kc (by omega) (show wN w < 5000 by omega) hk e2 ⟨q1, fun _ _ => rfl⟩) (p1 (op_le ho))
      have ep : pAl (vK j) a m (vS j) (wOf vW w) (wN w) 0 kc k = pAl (vK j) a m (vS j) (wV w) (wN w) 0 kc k := pAl_ext _ _ _ _ (fun i _ hi => (hK w hw).2 i (by omega))
      have hp := pAl_le (kd := vK j) (a := a) (m := m) (sd := vS j) (wv := wV w) (wN w) 0 k kc
      rw [ep] at z1 z2 z3 z5 z6 z7
      obtain ⟨p, epp⟩ : ∃ p, p = pAl (vK j) a m (vS j) (wV w) (wN w) 0 kc k := ⟨_, rfl⟩
      rw [← epp] at y1 y2 y3 y4 y5 y6 y8 z1 z2 z3 z5 z6 z7 hp
      refine ⟨y1.trans z1.symm, Ex_slot X z4 z7.2 (fun _ => ⟨fun i hi => ?_, y7⟩) (fun _ => ⟨k + (p.1 - 0), y4, y5, z5, y6, fun u => ?_⟩)⟩
      · show z.2.2.2.1 (4096 * j + i) = y.2.1 i
        rw [y2]
        exact z7.1 i hi
      · show cB (k + (p.1 - 0)) y.2.2.2 u = cB (k + (p.1 - 0)) (slC z.2.1 j) u
        rw [y8 u, z6 u, e4 u]
        congr 1
        exact cB_ext (fun i hi => ((hK w hw).2 (0 + i) (by omega)).symm)
    · have hcl := RS_cl hS ho
      have ez := p2 (cl_le hcl)
      subst ez
      unfold mX8_putAllG at hy
      rw [cl_open hcl, sb_, if_pos rfl] at hy
      cases Option.some.inj hy
      exact ⟨rfl, Ex_slot X (FrC_r _ _ _) (RF_r _ _) (fun q => absurd q ho) (fun q => absurd q ho)⟩
