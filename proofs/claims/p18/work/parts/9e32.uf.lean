/-! ===== the closed kinds: what each call leaves ===== -/
theorem EH_keep {M j : Nat} {σ : Nat → SlT} {vC C1 vRow row1 : Nat → Int32} {vCt Ct1 : Nat → Int64} {vZ vB vL vLC : Nat → Int32} {vRe : Nat → Int64} {vR wZ wB wL wC : Nat → Int32} {re : Nat → Int64} {wR : Nat → Int32} (X : ∀ s, s < M → ClS s vCt vC vRow (σ s) ∧ LaS s vZ vB vL vLC vRe vR (σ s)) (hF : FrC j vC vCt C1 Ct1) (hR : RF j vRow row1) (hL : LFr j vZ vB vL vLC vRe vR wZ wB wL wC re wR) {s : Nat} (hs : s < M) (hj : s ≠ j) : ClS s Ct1 C1 row1 (σ s) ∧ LaS s wZ wB wL wC re wR (σ s) := by
  obtain ⟨l1, l2, l3, l4⟩ := hL
  obtain ⟨x1, x2⟩ := X s hs
  exact ⟨ClS_c x1 (hF s hj).1 (hF s hj).2 (RF_s hj hR), LaS_c x2 (l1 s hj).1 (l1 s hj).2 (fun i hi => l2 _ (by omega)) (fun r h1 h2 => l3 r (by omega)) (fun k hk => l4 _ (by omega))⟩
theorem EH_new {M : Nat} {σ : Nat → SlT} {vC C1 vRow row1 : Nat → Int32} {vCt Ct1 : Nat → Int64} {vZ vB vL vLC : Nat → Int32} {vRe : Nat → Int64} {vR wZ wB wL wC : Nat → Int32} {re : Nat → Int64} {wR : Nat → Int32} (X : ∀ s, s < M → ClS s vCt vC vRow (σ s) ∧ LaS s vZ vB vL vLC vRe vR (σ s)) (hF : FrC M vC vCt C1 Ct1) (hR : RF M vRow row1) (hL : LFr M vZ vB vL vLC vRe vR wZ wB wL wC re wR) {τ : SlT} (h1 : ClS M Ct1 C1 row1 τ) (h2 : LaS M wZ wB wL wC re wR τ) : ∀ s, s < M + 1 → ClS s Ct1 C1 row1 (nup σ M τ s) ∧ LaS s wZ wB wL wC re wR (nup σ M τ s) := by
  intro s hs
  by_cases e : s = M
  · subst e
    rw [nup_s]
    exact ⟨h1, h2⟩
  · rw [nup_n e]
    exact EH_keep X hF hR hL (by omega) e
theorem EH_slot {M j : Nat} {σ : Nat → SlT} {vC C1 vRow row1 : Nat → Int32} {vCt Ct1 : Nat → Int64} {vZ vB vL vLC : Nat → Int32} {vRe : Nat → Int64} {vR : Nat → Int32} (X : ∀ s, s < M → ClS s vCt vC vRow (σ s) ∧ LaS s vZ vB vL vLC vRe vR (σ s)) (hF : FrC j vC vCt C1 Ct1) (hR : RF j vRow row1) {τ : SlT} (h1 : ClS j Ct1 C1 row1 τ) (h2 : LaS j vZ vB vL vLC vRe vR τ) : ∀ s, s < M → ClS s Ct1 C1 row1 (nup σ j τ s) ∧ LaS s vZ vB vL vLC vRe vR (nup σ j τ s) := by
  intro s hs
  by_cases e : s = j
  · subst e
    rw [nup_s]
    exact ⟨h1, h2⟩
  · rw [nup_n e]
    exact EH_keep X hF hR (LFr_r _ _ _ _ _ _ _) hs e
theorem EH_same {M : Nat} {σ : Nat → SlT} {vC C1 vRow row1 : Nat → Int32} {vCt Ct1 : Nat → Int64} {vZ vB vL vLC : Nat → Int32} {vRe : Nat → Int64} {vR wZ wB wL wC : Nat → Int32} {re : Nat → Int64} {wR : Nat → Int32} (X : ∀ s, s < M → ClS s vCt vC vRow (σ s) ∧ LaS s vZ vB vL vLC vRe vR (σ s)) (hF : FrC M vC vCt C1 Ct1) (hR : RF M vRow row1) (hL : LFr M vZ vB vL vLC vRe vR wZ wB wL wC re wR) : ∀ s, s < M → ClS s Ct1 C1 row1 (σ s) ∧ LaS s wZ wB wL wC re wR (σ s) := fun _ hs => EH_keep X hF hR hL hs (Nat.ne_of_lt hs)
theorem LFr_h {M : Nat} {vZ vB vL vLC : Nat → Int32} {vRe : Nat → Int64} {vR wZ wR : Nat → Int32} (h : ∀ q, q ≠ M → wZ q = vZ q) (h2 : ∀ q, q ≠ M → wR q = vR q) : LFr M vZ vB vL vLC vRe vR wZ vB vL vLC vRe wR := ⟨fun q hq => ⟨h q hq, h2 q hq⟩, fun _ _ => ⟨rfl, rfl⟩, fun _ _ => rfl, fun _ _ => rfl⟩
theorem Cl_open {s : Nat} {vCt : Nat → Int64} {vC vRow : Nat → Int32} {kd sz mk sd : Int32} {kc : Nat → Int32} {n : Int32} {v : Nat → Int64} {τ : LayT} (h : Op3 kd) : ClS s vCt vC vRow (kd, sz, mk, sd, kc, n, v, τ) := ⟨fun q => absurd h (no3 q), fun q => absurd h (q.elim no3 no4')⟩
theorem La_open {s : Nat} {vZ vB vL vLC : Nat → Int32} {vRe : Nat → Int64} {vR : Nat → Int32} {τ : SlT} (h : ¬ τ.1 = 4) : LaS s vZ vB vL vLC vRe vR τ := by
  obtain ⟨kd, sz, mk, sd, kc, n, v, lc, lsd, kca, rn, rv, lz, ld⟩ := τ
  exact fun q => absurd q h
theorem op_n4 {x : Int32} (h : Op3 x) : ¬ x = 4 := fun q => no4' q h
/-! put, putAll, drop -/
theorem rput_fr {M s : Nat} (hM : M ≤ 30) (hs : s < M) {vK vZ vM vS : Nat → Int32} {vCt : Nat → Int64} {vC row kept vR vL : Nat → Int32} (hS : RS vK vZ vM vC vR vL s) {t : Int64} {z : Int32 × (Nat → Int64) × (Nat → Int32) × (Nat → Int32) × (Nat → Int32)} (h : mX9_put (nI M) vK vZ vM vS vCt vC row kept (nI s) t = some z) : FrC s vC vCt z.2.2.1 z.2.1 ∧ RF s row z.2.2.2.1 := by
  obtain ⟨p1, p2⟩ := rput_y hM hs vK vZ vM vS vCt vC row kept t h
  by_cases ho : Op3 (vK s)
  · obtain ⟨a, m, ha, ha2, hm, eZ, eM⟩ := RS_012 hS ho
    rcases OK_use (doPut_y (kc := fun i => row (4096 * s + i)) (by omega) ha ha2 hm eZ eM (RS_cm hS) vS vCt ⟨fun _ _ => rfl, fun _ _ => rfl⟩ kept t) (p1 (op_le ho)) with ⟨-, -, z2, z3, z4⟩ | ⟨n, hn, -, ⟨-, -, z2, z3, z4⟩ | ⟨f, -, -, z2, z3, z4⟩⟩
    · rw [z2, z3, z4]
      exact ⟨FrC_r _ _ _, RF_r _ _⟩
    · rw [z2, z3]
      exact ⟨FrC_r _ _ _, z4.2⟩
    · rw [z2, z3]
      exact ⟨fun q hq => ⟨upo hq, slC_o hq hn⟩, z4.2⟩
  · have ez := p2 (cl_le (RS_cl hS ho))
    subst ez
    exact ⟨FrC_r _ _ _, RF_r _ _⟩
theorem rputAll_fr {M s w N : Nat} (hM : M ≤ 30) (hs : s < M) (hw : w < 8) (hN : N ≤ 1000) {vW : Nat → Int64} {vIW vK vZ vM vS : Nat → Int32} (eW : vIW w = nI N) {vCt : Nat → Int64} {vC row kept vR vL : Nat → Int32} (hS : RS vK vZ vM vC vR vL s) {z : Int32 × (Nat → Int64) × (Nat → Int32) × (Nat → Int32) × (Nat → Int32)} (h : mX9_putAll (nI M) vW vIW vK vZ vM vS vCt vC row kept (nI s) (nI w) = some z) : FrC s vC vCt z.2.2.1 z.2.1 ∧ RF s row z.2.2.2.1 := by
  obtain ⟨p1, p2⟩ := rputAll_y (N := 0) hM hs hw h
  by_cases ho : Op3 (vK s)
  · obtain ⟨a, m, ha, ha2, hm, eZ, eM⟩ := RS_012 hS ho
    obtain ⟨k, hk, en⟩ := RS_cm hS
    obtain ⟨-, -, -, z4, -, -, z7⟩ := OK_use (putAllR_x (by omega) hw hN eW ha ha2 hm eZ eM vS row N 0 k FU vCt vC row kept (fun i => row (4096 * s + i)) (by omega) (show N < 5000 by omega) hk en ⟨fun _ _ => rfl, fun _ _ => rfl⟩) (p1 (op_le ho))
    exact ⟨z4, z7.2⟩
  · have ez := p2 (cl_le (RS_cl hS ho))
    subst ez
    exact ⟨FrC_r _ _ _, RF_r _ _⟩
theorem pF_put {wN wN1 : Nat → Nat} {wV wV1 : Nat → Nat → Int64} {M M1 : Nat} {σ σ1 : Nat → SlT} {r r1 : RT} {sq : Int32} {t : Int64} {x8 x9 : Int32} (hI : RIY r) (hV : ∀ j, j < M → SVs (σ j)) (hR : WRs wN wV) (H : SimH wN wV M σ r) (X : ExG M σ r) (Y : ExH M σ r) (h8 : T8_put sq t wN wV M σ x8 wN1 wV1 M1 σ1) (h9 : S9_put sq t r x9 r1) : ExH M1 σ1 r1 := by
  rcases h8 with ⟨hn, e, -, -, rfl, rfl⟩ | ⟨j, hj, rfl, τ, hP, -, -, rfl, rfl⟩
  · rw [((sim_put hI hV H h9).1 hn).2]
    exact Y
  · obtain ⟨many, vW, vIW, vK, vZ, vM, vS, vCt, vC, vRow, vB, vL, vLC, vRe, vR⟩ := r
    obtain ⟨rfl, hM, hK, hs⟩ := H
    obtain ⟨kept, z, hz, rfl, rfl⟩ := h9
    have a1 := (hs j hj).1
    obtain ⟨y1, y2⟩ := Y j hj
    have hS := RI_s hM hI.1 hj
    obtain ⟨f1, f2⟩ := rput_fr hM hj hS hz
    rcases eσ : σ j with ⟨kd, sz, mk, sd, kc, n, v, lay⟩
    rw [eσ] at hP a1 y1 y2
    obtain ⟨y, hy, -, rfl⟩ := hP
    obtain ⟨b1, -⟩ := a1
    subst b1
    by_cases ho : Op3 (vK j)
    · exact EH_slot Y f1 f2 (Cl_open ho) (La_open (op_n4 ho))
    · have hcl := RS_cl hS ho
      have ez := (rput_y hM hj vK vZ vM vS vCt vC vRow kept t hz).2 (cl_le hcl)
      subst ez
      unfold mX8_put at hy
      rw [cl_open hcl, sb_, if_pos rfl] at hy
      cases Option.some.inj hy
      exact EH_slot Y (FrC_r _ _ _) (RF_r _ _) y1 y2
theorem pF_putAll {wN wN1 : Nat → Nat} {wV wV1 : Nat → Nat → Int64} {M M1 : Nat} {σ σ1 : Nat → SlT} {r r1 : RT} {sq wi : Int32} {x8 x9 : Int32} (hI : RIY r) (hV : ∀ j, j < M → SVs (σ j)) (hR : WRs wN wV) (H : SimH wN wV M σ r) (X : ExG M σ r) (Y : ExH M σ r) (h8 : T8_putAll sq wi wN wV M σ x8 wN1 wV1 M1 σ1) (h9 : S9_putAll sq wi r x9 r1) : ExH M1 σ1 r1 := by
  rcases h8 with ⟨hn, e, -, -, rfl, rfl⟩ | ⟨j, hj, w, hw, rfl, rfl, τ, hP, -, -, rfl, rfl⟩
  · rw [((sim_putAll hR hI hV H h9).1 hn).2]
    exact Y
  · obtain ⟨many, vW, vIW, vK, vZ, vM, vS, vCt, vC, vRow, vB, vL, vLC, vRe, vR⟩ := r
    obtain ⟨rfl, hM, hK, hs⟩ := H
    obtain ⟨kept, z, hz, rfl, rfl⟩ := h9
    have a1 := (hs j hj).1
    obtain ⟨y1, y2⟩ := Y j hj
    have hS := RI_s hM hI.1 hj
    obtain ⟨f1, f2⟩ := rputAll_fr hM hj hw (hR w hw).1 (hK w hw).1 hS hz
    rcases eσ : σ j with ⟨kd, sz, mk, sd, kc, n, v, lay⟩
    rw [eσ] at hP a1 y1 y2
    obtain ⟨y, hy, -, rfl⟩ := hP
    obtain ⟨b1, -⟩ := a1
    subst b1
    by_cases ho : Op3 (vK j)
    · exact EH_slot Y f1 f2 (Cl_open ho) (La_open (op_n4 ho))
    · have hcl := RS_cl hS ho
      have ez := (rputAll_y (N := 0) hM hj hw hz).2 (cl_le hcl)
      subst ez
      unfold mX8_putAllG at hy
      rw [cl_open hcl, sb_, if_pos rfl] at hy
      cases Option.some.inj hy
      exact EH_slot Y (FrC_r _ _ _) (RF_r _ _) y1 y2
theorem pF_drop {wN wN1 : Nat → Nat} {wV wV1 : Nat → Nat → Int64} {M M1 : Nat} {σ σ1 : Nat → SlT} {r r1 : RT} {sq : Int32} {t : Int64} {x8 x9 : Int32} (hI : RIY r) (hV : ∀ j, j < M → SVs (σ j)) (hR : WRs wN wV) (H : SimH wN wV M σ r) (X : ExG M σ r) (Y : ExH M σ r) (h8 : T8_drop sq t wN wV M σ x8 wN1 wV1 M1 σ1) (h9 : S9_drop sq t r x9 r1) : ExH M1 σ1 r1 := by
  rcases h8 with ⟨hn, e, -, -, rfl, rfl⟩ | ⟨j, hj, rfl, τ, hP, -, -, rfl, rfl⟩
  · rw [((sim_drop hI H h9).1 hn).2]
    exact Y
  · obtain ⟨many, vW, vIW, vK, vZ, vM, vS, vCt, vC, vRow, vB, vL, vLC, vRe, vR⟩ := r
    obtain ⟨rfl, hM, hK, hs⟩ := H
    obtain ⟨z, hz, rfl, rfl⟩ := h9
    have a1 := (hs j hj).1
    obtain ⟨y1, y2⟩ := Y j hj
    obtain ⟨c1, c2⟩ := X j hj
    have hS := RI_s hM hI.1 hj
    rcases eσ : σ j with ⟨kd, sz, mk, sd, kc, n, v, lay⟩
    rw [eσ] at hP a1 y1 y2 c1 c2
    obtain ⟨y, hy, -, rfl⟩ := hP
    obtain ⟨b1, -⟩ := a1
    subst b1
    by_cases h12 : vK j = 1 ∨ vK j = 2
    · have ho : Op3 (vK j) := Or.inr h12
      obtain ⟨a, m, ha, ha2, hm, eZ, eM⟩ := RS_012 hS ho
      obtain ⟨k, hk, -, e2, -⟩ := c2 ho
      obtain ⟨q1, q2⟩ := c1 ho
      rcases OK_use (rdrop_y (vL := vL) (vR := vR) hM hj h12 ha ha2 hm eZ eM hk e2 vS vCt ⟨q1, fun _ _ => rfl⟩ q2 vB vRe t) hz with ⟨-, rfl⟩ | ⟨-, n2, -, -, w3, -, w5, -⟩
      · exact EH_slot Y (FrC_r _ _ _) (RF_r _ _) (Cl_open ho) (La_open (op_n4 ho))
      · exact EH_slot Y w5 w3.2 (Cl_open ho) (La_open (op_n4 ho))
    · have h1 : ¬ vK j = 1 := fun q => h12 (Or.inl q)
      have h2 : ¬ vK j = 2 := fun q => h12 (Or.inr q)
      have ez := rdrop_n hM hj hz h1 h2
      subst ez
      unfold mX8_drop at hy
      rw [if_neg h1, if_neg h2] at hy
      cases Option.some.inj hy
      exact EH_slot Y (FrC_r _ _ _) (RF_r _ _) y1 y2
theorem rsolve_R {M : Nat} (hM : M ≤ 30) {w N : Nat} (hw : w < 8) (hN : N ≤ 1000) {vIW : Nat → Int32} (eW : vIW w = nI N) (vW : Nat → Int64) (vK vZ vM vS : Nat → Int32) (vCt : Nat → Int64) (vC vRow vR od oa io al : Nat → Int32) (sd : Int32) : OK (mX9_solve (nI M) vW vIW vK vZ vM vS vCt vC vRow vR od oa io al (nI w) sd) (fun z => ∀ q, q ≠ M → z.2.2.2.2.2.2.2.2.2.1 q = vR q) := by
  unfold mX9_solve
  obtain ⟨hc8, hc⟩ := cOf_b hN
  refine OK_be (isW1 hw) (OK_F (by decide) (OK_T (ix_nI hw) (OK_lt ?_)))
  rw [clN (k := w) (by omega), eW, cOf_I hN]
  refine OK_bind (rTries_v hw hN eW vW od oa io al sd) ?_
  rintro o (⟨e1, hno⟩ | ⟨τ, hτ, e1, hno, T, P, r1, r2⟩)
  · exact OK_F (by rw [e1]; decide) (OK_some (fun _ _ => rfl))
  · refine OK_T (by rw [e1]; exact nI_pos' (by omega)) (OK_ite (fun q => OK_some (fun _ _ => rfl)) (fun q => OK_be (rbegin_v (m30 hM q) _ _ _ _ _ _ _ _ _ _ _) (OK_lt (OK_bind (P := fun z => RF M (clrR M vRow) z.2) ?_ (fun y hy => OK_bind (fillFrom_x (m30 hM q) hw hN eW vW vCt _) (fun x hx => OK_some ?_))))))
    · rw [show nI N - (1 : Int32) = nI N + (-1) by rw [Int32.sub_eq_add_neg]]
      exact rfill_fr hw hN (by omega) hc (m30 hM q) vW sd o (T := T) (P := P) (fun j hj => ⟨(r1 j hj).1, (r1 j hj).2.2.1, (r2 j hj).1, (r2 j hj).2⟩) _ rfl N FU _ (Nat.le_refl _) (by show N < 5000; omega)
    · exact fun q hq => upo hq
theorem rjoin_R {M : Nat} {vIW vK vZ vM vC vR vL : Nat → Int32} (h : RI (nI M) vIW vK vZ vM vC vR vL) (hM : M ≤ 30) {a b A B Z : Nat} (ha : a < M) (hb : b < M) (hA : A ≤ 1000) (eA : vC a = nI A) (hB : B ≤ 1000) (eB : vC b = nI B) (hZ : Z ≤ 4096) (eZ : vZ a = nI Z) (vS : Nat → Int32) (vCt : Nat → Int64) {row fa fb : Nat → Int32} (rA : ∀ i, i < 4096 → row (4096 * a + i) = fa i) (rB : ∀ i, i < 4096 → row (4096 * b + i) = fb i) {ho : Int32} (h0 : ¬ ho < 0) (h1 : ho ≤ 1) : OK (mX9_join (nI M) vK vZ vM vS vCt vC row vR ho (nI a) (nI b)) (fun z => ∀ q, q ≠ M → z.2.2.2.2.2.2.2.2.2 q = vR q) := by
  have ia := ix_nI (k := a) (n := 30) (by omega)
  have ib := ix_nI (k := b) (n := 30) (by omega)
  unfold mX9_join
  refine OK_F h0 (OK_F (Int32.not_lt.mpr h1) (OK_be (is_y hM ha) (OK_F (by decide) (OK_be (is_y hM hb) (OK_F (by decide) ?_)))))
  rw [clN (k := a) (by omega), clN (k := b) (by omega)]
  refine OK_T ia (OK_ite (fun k1 => OK_T ib (OK_ite (fun k2 => OK_T ia (OK_T ib (OK_ite (fun k3 => OK_T ia (OK_T ib (OK_ite (fun k4 => OK_T ia (OK_T ib (OK_ite (fun k5 => ?_) (fun k5 => OK_some (fun _ _ => rfl))))) (fun k4 => OK_some (fun _ _ => rfl))))) (fun k3 => OK_some (fun _ _ => rfl))))) (fun k2 => OK_some (fun _ _ => rfl)))) (fun k1 => OK_some (fun _ _ => rfl)))
  refine OK_ite (fun q => OK_some (fun _ _ => rfl)) (fun q => ?_)
  have hM30 := m30 hM q
  have rr : ∀ i, i < 4096 → clrR M row (4096 * a + i) = fa i := fun i hi => (RF_c M row _ (by omega)).trans (rA i hi)
  have rb : ∀ i, i < 4096 → clrR M row (4096 * b + i) = fb i := fun i hi => (RF_c M row _ (by omega)).trans (rB i hi)
  refine OK_ite (fun g0 => OK_T ia (OK_T ib (OK_ite (fun hle => OK_T ia (OK_T ia (OK_T ia ?_))) (fun hle => OK_some (fun _ _ => rfl))))) (fun g0 => OK_T ia (OK_T ia (OK_T ia ?_)))
  · rw [eA, eB, nI_add] at hle
    have hAB : A + B ≤ 1000 := (nI_leI (b := 1000) (by omega) (by decide)).mp hle
    subst g0
    refine OK_be (rbegin_v hM30 _ _ _ _ _ _ _ _ _ _ _) (OK_bind (join_rowx hM30 ha hb hZ 0 _ rfl (show upd vZ M (vZ a) a = nI Z by rw [pk_un (by omega)]; exact eZ) (clr_Is M row) rr rb) (fun y hy => OK_bind (join_ax hM30 ha hb hA hB 0 _ rfl eA eB vCt) ?_))
    rintro z ⟨n, hn, e1, e2, e3, -⟩
    obtain ⟨en, e4⟩ := e3 rfl
    subst en
    rw [e1]
    exact OK_bind (join_bx hM30 hb hAB _ rfl eB z.2.1) (fun x _ => OK_some (fun _ hq => upo hq))
  · refine OK_be (rbegin_v hM30 _ _ _ _ _ _ _ _ _ _ _) (OK_bind (join_rowx hM30 ha hb hZ ho _ rfl (show upd vZ M (vZ a) a = nI Z by rw [pk_un (by omega)]; exact eZ) (clr_Is M row) rr rb) (fun y hy => OK_bind (join_ax hM30 ha hb hA hB ho _ rfl eA eB vCt) ?_))
    rintro z ⟨n, hn, e1, e2, -, e3⟩
    rw [e1]
    exact OK_bind (join_b1 hM30 hb g0 _ z.2.1) (fun x _ => OK_some (fun _ hq => upo hq))
theorem rfold_R {M : Nat} {vIW vK vZ vM vC vR vL : Nat → Int32} (h : RI (nI M) vIW vK vZ vM vC vR vL) (hM : M ≤ 30) {a A Z : Nat} (ha : a < M) (hA : A ≤ 1000) (eA : vC a = nI A) (hZ : Z ≤ 2048) (eZ : vZ a / 2 = nI Z) (vS : Nat → Int32) (vCt : Nat → Int64) {row fa : Nat → Int32} (rA : ∀ i, i < 4096 → row (4096 * a + i) = fa i) : OK (mX9_fold (nI M) vK vZ vM vS vCt vC row vR (nI a)) (fun z => ∀ q, q ≠ M → z.2.2.2.2.2.2.2.2.2 q = vR q) := by
  unfold mX9_fold
  refine OK_be (is_y hM ha) (OK_F (by decide) ?_)
  have ia := ix_nI (k := a) (n := 30) (by omega)
  rw [clN (k := a) (by omega)]
  refine OK_T ia (OK_ite (fun hk => OK_T ia (OK_ite (fun h8 => OK_some (fun _ _ => rfl)) (fun h8 => OK_ite (fun q => OK_some (fun _ _ => rfl)) (fun q => OK_T ia (OK_lt (OK_T ia (OK_T ia ?_))))))) (fun hk => OK_some (fun _ _ => rfl)))
  have hM30 := m30 hM q
  rw [eZ]
  refine OK_be (rbegin_v hM30 _ _ _ _ _ _ _ _ _ _ _) (OK_bind (fold_rowx hM30 ha hZ _ rfl (clr_Is M row) (fun i hi => (RF_c M row _ (by omega)).trans (rA i hi))) (fun y hy => OK_bind (fold_cpx hM30 ha hA _ rfl (show upd vC M 0 a = nI A by rw [pk_un (by omega)]; exact eA) vCt) (fun o133 ho => ?_)))
  dsimp only
  rw [clN (k := M) (by omega)]
  exact OK_T ia (OK_T (ix_nI hM30) (OK_some (fun _ hq => upo hq)))
/-! the makers -/
theorem pF_make {wN wN1 : Nat → Nat} {wV wV1 : Nat → Nat → Int64} {M M1 : Nat} {σ σ1 : Nat → SlT} {r r1 : RT} {k0 k1 k2 k3 : Int32} {x8 x9 : Int32} (H : SimH wN wV M σ r) (Y : ExH M σ r) (h8 : T8_make k0 k1 k2 k3 wN wV M σ x8 wN1 wV1 M1 σ1) (h9 : S9_make k0 k1 k2 k3 r x9 r1) : ExH M1 σ1 r1 := by
  obtain ⟨many, vW, vIW, vK, vZ, vM, vS, vCt, vC, vRow, vB, vL, vLC, vRe, vR⟩ := r
  obtain ⟨rfl, hM, -⟩ := H
  obtain ⟨z, hz, rfl, rfl⟩ := h9
  rcases OK_use (rmake_x hM vK vZ vM vS vC vRow vR k0 k1 k2 k3) hz with ⟨q, rfl⟩ | ⟨q, q30, rfl⟩ | ⟨q, q30, rfl⟩
  · rcases h8 with ⟨-, -, -, -, rfl, rfl⟩ | ⟨w, -⟩ | ⟨w, -⟩
    · exact Y
    · exact absurd q w
    · exact absurd q w
  · rcases h8 with ⟨w, -⟩ | ⟨-, -, -, -, -, rfl, rfl⟩ | ⟨-, w, -⟩
    · exact absurd w q
    · exact Y
    · omega
  · rcases h8 with ⟨w, -⟩ | ⟨-, w, -⟩ | ⟨-, -, -, τ, hτ, -, -, rfl, rfl⟩
    · exact absurd w q
    · omega
    · obtain ⟨kd, sz, mk, sd, kc, n, v, lay⟩ := τ
      obtain ⟨t1, t2, t3, t4, t5, t6, t7, t8, t9⟩ := hτ
      have ho : Op3 kd := by
        rcases t7 with ⟨e, -⟩ | ⟨e | e, -⟩
        · exact Or.inr (Or.inr (t1.trans e))
        · exact Or.inl (t1.trans e)
        · exact Or.inr (Or.inl (t1.trans e))
      exact EH_new Y (fun s hs => ⟨upo hs, AG_r _ _⟩) (RF_c M vRow) (LFr_h (fun _ hq => upo hq) (fun _ hq => upo hq)) (Cl_open ho) (La_open t9)
theorem pF_solve {wN wN1 : Nat → Nat} {wV wV1 : Nat → Nat → Int64} {M M1 : Nat} {σ σ1 : Nat → SlT} {r r1 : RT} {wi sd_ : Int32} {x8 x9 : Int32} (hI : RIY r) (hV : ∀ j, j < M → SVs (σ j)) (hR : WRs wN wV) (H : SimH wN wV M σ r) (Y : ExH M σ r) (h8 : T8_solve wi sd_ wN wV M σ x8 wN1 wV1 M1 σ1) (h9 : S9_solve wi sd_ r x9 r1) : ExH M1 σ1 r1 := by
  have hp := (pH_solve hI hV hR H h8 h9).1
  obtain ⟨many, vW, vIW, vK, vZ, vM, vS, vCt, vC, vRow, vB, vL, vLC, vRe, vR⟩ := r
  obtain ⟨rfl, hM, hK, -⟩ := H
  obtain ⟨od, oa, io, al, z, hz, rfl, rfl⟩ := h9
  rcases isW_v wi with q | ⟨q, j, hj, rfl⟩
  · have e : mX9_solve (nI M) vW vIW vK vZ vM vS vCt vC vRow vR od oa io al wi sd_ = some (-1, nI M, vK, vZ, vM, vS, vCt, vC, vRow, vR, od, oa, io, al) := by
      unfold mX9_solve
      rw [q, sb_]
      exact if_pos rfl
    rw [e] at hz
    cases Option.some.inj hz
    rcases h8 with ⟨-, -, -, -, rfl, rfl⟩ | ⟨j, hj, rfl, -⟩
    · exact Y
    · rw [isW1 hj] at q
      exact absurd q (by decide)
  · have hN := (hR j hj).1
    have hrow := OK_use (rsolve_row hM hj hN (hK j hj).1 vW vK vZ vM vS vCt vC vRow vR od oa io al sd_) hz
    have hRR := OK_use (rsolve_R hM hj hN (hK j hj).1 vW vK vZ vM vS vCt vC vRow vR od oa io al sd_) hz
    rcases OK_use (rsolve_x hM hj hN (hK j hj).1 vW vK vZ vM vS vCt vC vRow vR od oa io al sd_) hz with ⟨-, e1, -, -, e4, -, -, e7, e8⟩ | ⟨-, -, e1, -, -, e4, -, -, e7, e8⟩ | ⟨q30, e1, -, τ, hTr, hH, hC, hF⟩
    · have go : ∀ s, s < M → ClS s z.2.2.2.2.2.2.1 z.2.2.2.2.2.2.2.1 z.2.2.2.2.2.2.2.2.1 (σ s) ∧ LaS s z.2.2.2.1 vB vL vLC vRe z.2.2.2.2.2.2.2.2.2.1 (σ s) := EH_same Y (by rw [e7, e8]; exact FrC_r _ _ _) hrow (LFr_h (fun _ _ => by rw [e4]) hRR)
      rcases h8 with ⟨w, -⟩ | ⟨j', -, -, ⟨-, -, -, -, rfl, rfl⟩ | ⟨-, -, -, -, -, rfl, rfl⟩ | ⟨-, e, -⟩⟩
      · rw [q] at w
        exact absurd w (by decide)
      · exact go
      · exact go
      · exact absurd (e.symm.trans (hp.trans e1)) (nMn hM (by decide))
    · have go : ∀ s, s < M → ClS s z.2.2.2.2.2.2.1 z.2.2.2.2.2.2.2.1 z.2.2.2.2.2.2.2.2.1 (σ s) ∧ LaS s z.2.2.2.1 vB vL vLC vRe z.2.2.2.2.2.2.2.2.2.1 (σ s) := EH_same Y (by rw [e7, e8]; exact FrC_r _ _ _) hrow (LFr_h (fun _ _ => by rw [e4]) hRR)
      rcases h8 with ⟨w, -⟩ | ⟨j', -, -, ⟨-, -, -, -, rfl, rfl⟩ | ⟨-, -, -, -, -, rfl, rfl⟩ | ⟨-, e, -⟩⟩
      · rw [q] at w
        exact absurd w (by decide)
      · exact go
      · exact go
      · exact absurd (e.symm.trans (hp.trans e1)) (nMn hM (by decide))
    · rcases h8 with ⟨w, -⟩ | ⟨j', hj', ej, ⟨-, e, -⟩ | ⟨-, -, e, -⟩ | ⟨-, -, τs, hτ, -, -, rfl, rfl⟩⟩
      · rw [q] at w
        exact absurd w (by decide)
      · exact absurd (e1.symm.trans (hp.symm.trans e)) (nMn hM (by decide))
      · exact absurd (e1.symm.trans (hp.symm.trans e)) (nMn hM (by decide))
      · have ejj : j = j' := (nI_eq (by omega) (by omega)).mp ej
        rw [← ejj] at hτ
        obtain ⟨τ1, T, P, s1, s2, s3, s4⟩ := SvR_c hN (hK j hj).2 (OK_use (rsolve_rowx hM hj hN (hK j hj).1 vW vK vZ vM vS vCt vC vRow vR od oa io al sd_) hz e1)
        obtain ⟨kd, sz, mk, sd, kc, n, v, lay⟩ := τs
        obtain ⟨τ2, t0, t1, t2, t3, t4, ⟨pa, ta, tt, tp, k0, hT, hz0, hk⟩, ⟨v0, hv0⟩, -⟩ := hτ
        have et : τ2 = τ1 := TrV_u t0 s1
        rw [et] at hT
        have hcell := solved_cells hN hT hz0 hk s2
        rw [bag_cpy hN] at hv0
        have hv1 := Option.some.inj hv0
        have en : nI (wN j) = n := congrArg Prod.fst hv1
        have ev : va_cpy (wV j) v0 0 0 (wN j) = v := congrArg Prod.snd hv1
        refine EH_new Y hF hrow (LFr_h hH.2.2.2.2 hRR) ⟨fun _ i hi => (s3.1 i hi).trans (hcell i hi).symm, fun _ => ⟨wN j, hN, en.symm, by rw [hC]; exact ups, ?_, fun t => ?_⟩⟩ (La_open (show ¬ kd = 4 by rw [t1]; decide))
        · rw [← ev]
          exact AG_ris (AG_cpy (wV j) v0) (hR j hj).2.rising
        · rw [← ev]
          exact (cB_ext (AG_cpy (wV j) v0)).trans (cB_ext (AG_s s4))
theorem layered_same {wN : Nat → Nat} {wV : Nat → Nat → Int64} {M : Nat} {σ : Nat → SlT} {r r1 : RT} {wi wa sd_ x9 c : Int32} (hR : WRs wN wV) (H : SimH wN wV M σ r) (Y : ExH M σ r) (h9 : S9_layered wi wa sd_ r x9 r1) (hc : x9 = c) (hneg : c < 0) : ExH M σ r1 := by
  obtain ⟨many, vW, vIW, vK, vZ, vM, vS, vCt, vC, vRow, vB, vL, vLC, vRe, vR⟩ := r
  obtain ⟨rfl, hM, hK, -⟩ := H
  obtain ⟨co, ri, go, z, hz, rfl, rfl⟩ := h9
  have key : ∃ x : Int32, z = (x, nI M, vK, vZ, vM, vS, vCt, vC, vRow, vB, vL, vLC, vRe, vR, co, ri, go) := by
    have hz2 := hz
    unfold mX9_layered at hz2
    rcases isW_v wi with q | ⟨q, j, hj, rfl⟩
    · rw [q, sb_, if_pos rfl] at hz2
      exact ⟨_, (Option.some.inj hz2).symm⟩
    · rw [q, sb_, if_neg (show ¬ (1 : Int32) = 0 by decide)] at hz2
      rcases isW_v wa with q2 | ⟨q2, k, hk, rfl⟩
      · rw [q2, sb_, if_pos rfl] at hz2
        exact ⟨_, (Option.some.inj hz2).symm⟩
      · rw [q2, sb_, if_neg (show ¬ (1 : Int32) = 0 by decide)] at hz2
        by_cases h30 : nI M = (30 : Int32)
        · rw [if_pos h30] at hz2
          exact ⟨_, (Option.some.inj hz2).symm⟩
        · rcases OK_use (rlayered_x hM hj hk (hR j hj).1 (hR k hk).1 (hK j hj).1 (hK k hk).1 vW vK vZ vM vS vCt vC vRow vB vL vLC vRe vR co ri go sd_) hz with ⟨h, -⟩ | ⟨-, e1, -⟩
          · exact absurd (show nI M = 30 by rw [h]; rfl) h30
          · exact absurd (e1.symm.trans hc) (nMn hM hneg)
  obtain ⟨x, rfl⟩ := key
  exact Y
theorem pF_layered {wN wN1 : Nat → Nat} {wV wV1 : Nat → Nat → Int64} {M M1 : Nat} {σ σ1 : Nat → SlT} {r r1 : RT} {wi wa sd_ : Int32} {x8 x9 : Int32} (hI : RIY r) (hV : ∀ j, j < M → SVs (σ j)) (hR : WRs wN wV) (H : SimH wN wV M σ r) (Y : ExH M σ r) (h8 : T8_layered wi wa sd_ wN wV M σ x8 wN1 wV1 M1 σ1) (h9 : S9_layered wi wa sd_ r x9 r1) : ExH M1 σ1 r1 := by
  have hp := (pH_layered hI hV hR H h8 h9).1
  rcases h8 with ⟨w, e0, -, -, rfl, rfl⟩ | ⟨i, hi, k, hk, rfl, rfl, ⟨e30, e0, -, -, rfl, rfl⟩ | ⟨q30, e0, τs, hτ, -, -, rfl, rfl⟩⟩
  · exact layered_same hR H Y h9 (hp.symm.trans e0) (by decide)
  · exact layered_same hR H Y h9 (hp.symm.trans e0) (by decide)
  · obtain ⟨many, vW, vIW, vK, vZ, vM, vS, vCt, vC, vRow, vB, vL, vLC, vRe, vR⟩ := r
    obtain ⟨rfl, hM, hK, -⟩ := H
    obtain ⟨co, ri, go, z, hz, rfl, rfl⟩ := h9
    have hN := (hR i hi).1
    have hU := (hR k hk).1
    have e1 := hp.symm.trans e0
    have hrow := OK_use (rlayered_row hM hi hk hN hU (hK i hi).1 (hK k hk).1 vW vK vZ vM vS vCt vC vRow vB vL vLC vRe vR co ri go sd_) hz
    obtain ⟨hc, w1, w2, w3, w4, w5, w6⟩ := OK_use (rlayered_y hM hi hk hN hU (hK i hi).1 (hK k hk).1 vW (hK i hi).2 (hK k hk).2 vK vZ vM vS vCt vC vRow vB vL vLC vRe vR co ri go sd_) hz e1
    rcases OK_use (rlayered_x hM hi hk hN hU (hK i hi).1 (hK k hk).1 vW vK vZ vM vS vCt vC vRow vB vL vLC vRe vR co ri go sd_) hz with ⟨-, e2, -⟩ | ⟨-, -, -, -, hC, hF⟩
    · exact absurd (e1.symm.trans e2) (nMn hM (by decide))
    · obtain ⟨kd, sz, mk, sd, kc, n, v, lc, lsd, kca, rn, rv, lz, ld⟩ := τs
      obtain ⟨t1, t2, t3, t4, t5, ⟨v0, hv0⟩, ⟨n1, v1, n2, v2, n3, v3, v4, v5, kca0, rv0, lz0, ld0, b1, b2, b3, b4⟩, -⟩ := hτ
      obtain ⟨c1, c2, c3, c4, c5, c6, c7, c8⟩ := slayered_y hN hU (hR i hi).2 (hR k hk).2 b1 b2 b4
      rw [bag_cpy hN] at hv0
      have hv1 := Option.some.inj hv0
      have en : nI (wN i) = n := congrArg Prod.fst hv1
      have ev : va_cpy (wV i) v0 0 0 (wN i) = v := congrArg Prod.snd hv1
      obtain ⟨f1, f2, f3, f4⟩ := w6
      have hLF : LFr M vZ vB vL vLC vRe vR z.2.2.2.1 z.2.2.2.2.2.2.2.2.2.1 z.2.2.2.2.2.2.2.2.2.2.1 z.2.2.2.2.2.2.2.2.2.2.2.1 z.2.2.2.2.2.2.2.2.2.2.2.2.1 z.2.2.2.2.2.2.2.2.2.2.2.2.2.1 := ⟨fun q hq => ⟨(f1 q hq).1.trans (upo hq), (f1 q hq).2.trans (upo hq)⟩, f2, f3, f4⟩
      refine EH_new Y hF hrow hLF ⟨fun w => ?_, fun _ => ⟨wN i, hN, en.symm, by rw [hC]; exact ups, ?_, fun t => ?_⟩⟩ (fun _ => ⟨(lyA sd_ (wN i) (wV i) (wN k) (wV k)).1, (lyA sd_ (wN i) (wV i) (wN k) (wV k)).2.1, (lyA sd_ (wN i) (wV i) (wN k) (wV k)).2.2.1, (lyA sd_ (wN i) (wV i) (wN k) (wV k)).2.2.2.1, c1, t2.trans c2, w2, c2, c3.trans t4.symm, by rw [t4]; exact c4, by rw [t4]; exact w3, c5, c6, w4, c8, fun q hq => (w5 q hq).trans (c7 q hq).symm⟩)
      · rw [t1] at w
        exact absurd w (by decide)
      · rw [← ev]
        exact AG_ris (AG_cpy (wV i) v0) (hR i hi).2.rising
      · rw [← ev]
        exact (cB_ext (AG_cpy (wV i) v0)).trans (cB_ext (AG_s hc))
theorem pF_join {wN wN1 : Nat → Nat} {wV wV1 : Nat → Nat → Int64} {M M1 : Nat} {σ σ1 : Nat → SlT} {r r1 : RT} {ho aq bq : Int32} {x8 x9 : Int32} (hI : RIY r) (hV : ∀ j, j < M → SVs (σ j)) (hR : WRs wN wV) (H : SimH wN wV M σ r) (Y : ExH M σ r) (h8 : T8_join ho aq bq wN wV M σ x8 wN1 wV1 M1 σ1) (h9 : S9_join ho aq bq r x9 r1) : ExH M1 σ1 r1 := by
  obtain ⟨f1, f2⟩ := sim_join hI hV H h9
  rcases h8 with ⟨hn, e, -, -, rfl, rfl⟩ | ⟨i, hi, j, hj, rfl, rfl, hh, h8⟩
  · rw [(f1 hn).2]
    exact Y
  · rcases f2 i hi j hj rfl rfl hh with ⟨g1, g2, g3⟩ | ⟨g1, g2, g3, g4⟩ | ⟨g1, g2, g2b, g3, -⟩
    · rcases h8 with ⟨-, e, -, -, rfl, rfl⟩ | ⟨q, -⟩ | ⟨q, -⟩
      · rw [g3]
        exact Y
      · exact absurd q g1
      · exact absurd q g1
    · rcases h8 with ⟨q, -⟩ | ⟨-, -, e, -, -, rfl, rfl⟩ | ⟨-, q, q2, -⟩
      · exact absurd g1 q
      · rw [g4]
        exact Y
      · exact absurd g2 (fun w => w.elim (fun w => by omega) q2)
    · rcases h8 with ⟨q, -⟩ | ⟨-, q, -⟩ | ⟨-, -, -, e, τ, hτ, -, -, rfl, rfl⟩
      · exact absurd g1 q
      · exact absurd q (fun w => w.elim (fun w => by omega) g2b)
      · obtain ⟨many, vW, vIW, vK, vZ, vM, vS, vCt, vC, vRow, vB, vL, vLC, vRe, vR⟩ := r
        obtain ⟨rfl, hM, hK, hs⟩ := H
        obtain ⟨z, hz, rfl, rfl⟩ := h9
        have hS := RI_s hM hI.1 hi
        obtain ⟨A, hA, eA⟩ : BN (vC i) := RS_cm hS
        obtain ⟨B, hB, eB⟩ : BN (vC j) := RS_cm (RI_s hM hI.1 hj)
        have h0 : ¬ ho < 0 := fun q => hh (Or.inl q)
        have h1 : ho ≤ 1 := Decidable.byContradiction (fun q => hh (Or.inr q))
        rcases OK_use (rjoin_x hI.1 hM hi hj hA eA hB eB vS vCt vRow h0 h1) hz with ⟨-, q2, -⟩ | ⟨-, -, q3, -⟩ | ⟨q1, -, -, -, -, q6, m', -, -, q9, -⟩
        · exact absurd (g3.symm.trans q2) (nMn hM (by decide))
        · exact absurd (g3.symm.trans q3) (nMn hM (by decide))
        · obtain ⟨Z, m, hZ12, -, -, eZ, -⟩ := RS_012 hS (Or.inl q1.1)
          have hZ : 2 ^ Z ≤ 4096 := pow_up (b := 12) hZ12
          have hrow := OK_use (rjoin_row (fa := fun q => vRow (4096 * i + q)) (fb := fun q => vRow (4096 * j + q)) hI.1 hM hi hj hA eA hB eB hZ eZ vS vCt (fun _ _ => rfl) (fun _ _ => rfl) h0 h1) hz g3 g2
          have hRR := OK_use (rjoin_R (fa := fun q => vRow (4096 * i + q)) (fb := fun q => vRow (4096 * j + q)) hI.1 hM hi hj hA eA hB eB hZ eZ vS vCt (fun _ _ => rfl) (fun _ _ => rfl) h0 h1) hz
          rcases eσa : σ i with ⟨akd, asz, amk, asd, akc, an, av, alay⟩
          rcases eσb : σ j with ⟨bkd, bsz, bmk, bsd, bkc, bn, bv, blay⟩
          rw [eσa, eσb] at hτ
          obtain ⟨kd, sz, mk, sd, kc, n, v, lay⟩ := τ
          obtain ⟨t1, -⟩ := hτ
          exact EH_new Y q9 hrow.2 (LFr_h q6.2.2.2.2 hRR) (Cl_open (Or.inl t1)) (La_open (show ¬ kd = 4 by rw [t1]; decide))
theorem pF_fold {wN wN1 : Nat → Nat} {wV wV1 : Nat → Nat → Int64} {M M1 : Nat} {σ σ1 : Nat → SlT} {r r1 : RT} {aq : Int32} {x8 x9 : Int32} (hI : RIY r) (hV : ∀ j, j < M → SVs (σ j)) (hR : WRs wN wV) (H : SimH wN wV M σ r) (Y : ExH M σ r) (h8 : T8_fold aq wN wV M σ x8 wN1 wV1 M1 σ1) (h9 : S9_fold aq r x9 r1) : ExH M1 σ1 r1 := by
  obtain ⟨f1, f2⟩ := sim_fold hI H h9
  rcases h8 with ⟨hn, e, -, -, rfl, rfl⟩ | ⟨i, hi, rfl, h8⟩
  · rw [(f1 hn).2]
    exact Y
  · rcases f2 i hi rfl with ⟨g1, g2, g3⟩ | ⟨g1, g2, g3, g4⟩ | ⟨g1, g2, g3, -⟩
    · rcases h8 with ⟨-, e, -, -, rfl, rfl⟩ | ⟨q, -⟩ | ⟨q, -⟩
      · rw [g3]
        exact Y
      · exact absurd q g1
      · exact absurd q g1
    · rcases h8 with ⟨q, -⟩ | ⟨-, -, e, -, -, rfl, rfl⟩ | ⟨-, q, -⟩
      · exact absurd g1 q
      · rw [g4]
        exact Y
      · omega
    · rcases h8 with ⟨q, -⟩ | ⟨-, q, -⟩ | ⟨-, -, e, τ, hτ, -, -, rfl, rfl⟩
      · exact absurd g1 q
      · omega
      · obtain ⟨many, vW, vIW, vK, vZ, vM, vS, vCt, vC, vRow, vB, vL, vLC, vRe, vR⟩ := r
        obtain ⟨rfl, hM, hK, hs⟩ := H
        obtain ⟨z, hz, rfl, rfl⟩ := h9
        have hS := RI_s hM hI.1 hi
        obtain ⟨A, hA, eA⟩ : BN (vC i) := RS_cm hS
        rcases OK_use (rfold_x hI.1 hM hi hA eA vS vCt vRow) hz with ⟨-, q2, -⟩ | ⟨-, -, q3, -⟩ | ⟨q1, -, -, -, q5, -, q7, -⟩
        · exact absurd (g3.symm.trans q2) (nMn hM (by decide))
        · exact absurd (g3.symm.trans q3) (nMn hM (by decide))
        · have k0i := q1.1
          obtain ⟨x, m, hx3, hx12, -, eZ, -⟩ := RS_01 hS (by rw [k0i]; decide) (by rw [k0i]; decide)
          obtain ⟨hf1, hf2⟩ := half_x hx3 hx12
          have hrow := OK_use (rfold_row (fa := fun q => vRow (4096 * i + q)) hI.1 hM hi hA eA hf2 (by rw [eZ]; exact hf1) vS vCt (fun _ _ => rfl)) hz g3 g2
          have hRR := OK_use (rfold_R (fa := fun q => vRow (4096 * i + q)) hI.1 hM hi hA eA hf2 (by rw [eZ]; exact hf1) vS vCt (fun _ _ => rfl)) hz
          rcases eσa : σ i with ⟨akd, asz, amk, asd, akc, an, av, alay⟩
          rw [eσa] at hτ
          obtain ⟨kd, sz, mk, sd, kc, n, v, lay⟩ := τ
          obtain ⟨t1, -⟩ := hτ
          exact EH_new Y q7 hrow.2 (LFr_h q5.2.2.2.2 hRR) (Cl_open (Or.inl t1)) (La_open (show ¬ kd = 4 by rw [t1]; decide))
