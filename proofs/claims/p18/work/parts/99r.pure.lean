theorem all23 {P : Nat → Prop} (h0 : P 0) (h1 : P 1) (h2 : P 2) (h3 : P 3) (h4 : P 4) (h5 : P 5) (h6 : P 6) (h7 : P 7) (h8 : P 8) (h9 : P 9) (h10 : P 10) (h11 : P 11) (h12 : P 12) (h13 : P 13) (h14 : P 14) (h15 : P 15) (h16 : P 16) (h17 : P 17) (h18 : P 18) (h19 : P 19) (h20 : P 20) (h21 : P 21) (h22 : P 22) : ∀ k, k < 23 → P k := by
  intro k hk
  rcases (show k = 0 ∨ k = 1 ∨ k = 2 ∨ k = 3 ∨ k = 4 ∨ k = 5 ∨ k = 6 ∨ k = 7 ∨ k = 8 ∨ k = 9 ∨ k = 10 ∨ k = 11 ∨ k = 12 ∨ k = 13 ∨ k = 14 ∨ k = 15 ∨ k = 16 ∨ k = 17 ∨ k = 18 ∨ k = 19 ∨ k = 20 ∨ k = 21 ∨ k = 22 by omega) with rfl | rfl | rfl | rfl | rfl | rfl | rfl | rfl | rfl | rfl | rfl | rfl | rfl | rfl | rfl | rfl | rfl | rfl | rfl | rfl | rfl | rfl | rfl
  · exact h0
  · exact h1
  · exact h2
  · exact h3
  · exact h4
  · exact h5
  · exact h6
  · exact h7
  · exact h8
  · exact h9
  · exact h10
  · exact h11
  · exact h12
  · exact h13
  · exact h14
  · exact h15
  · exact h16
  · exact h17
  · exact h18
  · exact h19
  · exact h20
  · exact h21
  · exact h22
theorem all24 {P : Nat → Prop} (h0 : P 0) (h1 : P 1) (h2 : P 2) (h3 : P 3) (h4 : P 4) (h5 : P 5) (h6 : P 6) (h7 : P 7) (h8 : P 8) (h9 : P 9) (h10 : P 10) (h11 : P 11) (h12 : P 12) (h13 : P 13) (h14 : P 14) (h16 : P 16) (h17 : P 17) (h18 : P 18) (h19 : P 19) (h20 : P 20) (h21 : P 21) (h22 : P 22) (h23 : P 23) : ∀ k, k < 24 → k ≠ 15 → P k := by
  intro k hk hn
  rcases (show k = 0 ∨ k = 1 ∨ k = 2 ∨ k = 3 ∨ k = 4 ∨ k = 5 ∨ k = 6 ∨ k = 7 ∨ k = 8 ∨ k = 9 ∨ k = 10 ∨ k = 11 ∨ k = 12 ∨ k = 13 ∨ k = 14 ∨ k = 16 ∨ k = 17 ∨ k = 18 ∨ k = 19 ∨ k = 20 ∨ k = 21 ∨ k = 22 ∨ k = 23 by omega) with rfl | rfl | rfl | rfl | rfl | rfl | rfl | rfl | rfl | rfl | rfl | rfl | rfl | rfl | rfl | rfl | rfl | rfl | rfl | rfl | rfl | rfl | rfl
  · exact h0
  · exact h1
  · exact h2
  · exact h3
  · exact h4
  · exact h5
  · exact h6
  · exact h7
  · exact h8
  · exact h9
  · exact h10
  · exact h11
  · exact h12
  · exact h13
  · exact h14
  · exact h16
  · exact h17
  · exact h18
  · exact h19
  · exact h20
  · exact h21
  · exact h22
  · exact h23
def tgL : List (Nat × Nat) := [(0, 6), (2, 8), (2, 30), (0, 0), (2, 1000), (0, 0), (2, 1000), (0, 0), (2, 1000), (0, 5), (1, 3000), (1, 1000), (1, 3774), (1, 3774), (0, 1), (2, 64), (1, 1000), (1, 1000), (0, 2), (2, 1000), (2, 1000), (0, 1), (2, 64)]
def prL : List (Nat × Nat) := [(3, 5), (3, 7), (4, 6), (4, 8), (4, 19), (4, 20), (5, 7), (6, 8), (6, 19), (6, 20), (8, 19), (8, 20), (11, 16), (11, 17), (12, 13), (14, 21), (15, 22), (16, 17), (19, 20)]
theorem prL_b : ((List.range 23).all fun i => (List.range 23).all fun j => !(decide (i < j)) || (!(tgL[i]? == tgL[j]?) || prL.any fun p => p.1 == i && p.2 == j)) = true := by decide +kernel
theorem prL_ok : ∀ i, i < 23 → ∀ j, j < 23 → i < j → tgL[i]? = tgL[j]? → (i, j) ∈ prL := by
  intro i hi j hj hij e
  have h := List.all_eq_true.mp (List.all_eq_true.mp prL_b i (List.mem_range.mpr hi)) j (List.mem_range.mpr hj)
  simp only [hij, e, decide_true, beq_self_eq_true, Bool.not_true, Bool.false_or] at h
  obtain ⟨p, hp, q⟩ := List.any_eq_true.mp h
  simp only [Bool.and_eq_true, beq_iff_eq] at q
  obtain ⟨q1, q2⟩ := q
  have hh : p = (i, j) := Prod.ext q1 q2
  exact hh ▸ hp
theorem init_inv {g : Nat → ClassId} {L Lx LP : List Nat} {f : Nat → va_E} {A lb lw B : Nat → Nat} {kf : Nat → Option Nat}
    (hA : ∀ k, k < 23 → A k ∈ L ∧ A k ∈ Lx ∧ A k ∈ LP) (nA : ∀ p, p ∈ prL → A p.1 ≠ A p.2)
    (c0 : f (A 0) = .inr (6, [.ref (A 1), .ref (A 2), .ref (A 3), .ref (A 5), .ref (A 7), .ref (A 9), .ref (A 18), .int 0])) (c1 : f (A 1) = .inl (g 3, 8, .inr (.inr (.inr (.inr kf))))) (c2 : f (A 2) = .inl (g 5, 30, .inr (.inr (.inr (.inr (fun _ => none)))))) (cS : ∀ k, k < 23 → 3 ≤ k → Sh g A (f (A k)) k)
    (hW : ∀ j, j < 8 → kf j = some (lb j) ∧ lb j ∈ L ∧ f (lb j) = .inr (0, [.ref (lw j), .int 0]) ∧ lw j ∈ L ∧ f (lw j) = .inl (g 1, 1000, .inr (.inl (fun _ => 0))) ∧ lb j ∉ LP ∧ lw j ∉ LP ∧ lb j ∈ Lx ∧ lw j ∈ Lx) (hWW : ∀ j k, j < 8 → k < 8 → j ≠ k → lb j ≠ lb k ∧ lw j ≠ lw k)
    (hB : ∀ k, k < 24 → k ≠ 15 → B k ∈ L ∧ B k ∉ Lx) (iB : ∀ i j, (i < 24 ∧ i ≠ 15) → (j < 24 ∧ j ≠ 15) → B i = B j → i = j) (cB : RCs g f B 0 (fun _ => 0) (fun _ => 0) (fun _ => 0) (fun _ => 0) (fun _ => 0) (fun _ => 0) (fun _ => 0) (fun _ => 0)) : Inv g L f (A 0) (B 0) := by
  have tA : ∀ k, k < 23 → some (tgE (f (A k))) = tgL[k]? := by
    refine all23 (by rw [c0]; rfl) (by rw [c1]; rfl) (by rw [c2]; rfl) (by obtain ⟨_, e⟩ := cS 3 (by decide) (by decide); rw [e]; rfl) (by obtain ⟨_, e⟩ := cS 4 (by decide) (by decide); rw [e]; rfl) (by obtain ⟨_, e⟩ := cS 5 (by decide) (by decide); rw [e]; rfl) (by obtain ⟨_, e⟩ := cS 6 (by decide) (by decide); rw [e]; rfl) (by obtain ⟨_, e⟩ := cS 7 (by decide) (by decide); rw [e]; rfl) (by obtain ⟨_, e⟩ := cS 8 (by decide) (by decide); rw [e]; rfl) (by obtain ⟨_, _, e⟩ := cS 9 (by decide) (by decide); rw [e]; rfl) (by obtain ⟨_, e⟩ := cS 10 (by decide) (by decide); rw [e]; rfl) (by obtain ⟨_, e⟩ := cS 11 (by decide) (by decide); rw [e]; rfl) (by obtain ⟨_, e⟩ := cS 12 (by decide) (by decide); rw [e]; rfl) (by obtain ⟨_, e⟩ := cS 13 (by decide) (by decide); rw [e]; rfl) (by obtain ⟨_, e⟩ := cS 14 (by decide) (by decide); rw [e]; rfl) (by obtain ⟨_, e⟩ := cS 15 (by decide) (by decide); rw [e]; rfl) (by obtain ⟨_, e⟩ := cS 16 (by decide) (by decide); rw [e]; rfl) (by obtain ⟨_, e⟩ := cS 17 (by decide) (by decide); rw [e]; rfl) (by obtain ⟨_, _, e⟩ := cS 18 (by decide) (by decide); rw [e]; rfl) (by obtain ⟨_, e⟩ := cS 19 (by decide) (by decide); rw [e]; rfl) (by obtain ⟨_, e⟩ := cS 20 (by decide) (by decide); rw [e]; rfl) (by obtain ⟨_, e⟩ := cS 21 (by decide) (by decide); rw [e]; rfl) (by obtain ⟨_, e⟩ := cS 22 (by decide) (by decide); rw [e]; rfl)
  have iA0 : ∀ i j, i < 23 → j < 23 → i < j → A i ≠ A j := fun i j hi hj hij e => nA (i, j) (prL_ok i hi j hj hij (by rw [← tA i hi, ← tA j hj, e])) e
  have iA : ∀ i j, i < 23 → j < 23 → A i = A j → i = j := fun i j hi hj e => by
    rcases Nat.lt_trichotomy i j with q | q | q
    · exact absurd e (iA0 i j hi hj q)
    · exact q
    · exact absurd e.symm (iA0 j i hj hi q)
  have kW : ∀ i j, i < 8 → j < 8 → lb i ≠ lw j := fun i j hi hj => ne_ir (hW j hj).2.2.2.2.1 (hW i hi).2.2.1
  have rA : ∀ k, k < 23 → rho0 A lb lw B (A k) = (0, k) := fun k hk => rho0_A iA hk
  have rW : ∀ j, j < 8 → rho0 A lb lw B (lb j) = (1 + 2 * j, 0) ∧ rho0 A lb lw B (lw j) = (1 + 2 * j, 0) := fun j hj => rho0_W (A := A) (lb := lb) (lw := lw) (B := B) (fun j hj k hk => ⟨fun e => (hW j hj).2.2.2.2.2.1 (e ▸ (hA k hk).2.2), fun e => (hW j hj).2.2.2.2.2.2.1 (e ▸ (hA k hk).2.2)⟩) (fun i j hi hj e => Decidable.byContradiction (fun h => e.elim (hWW i j hi hj h).1 (fun q => kW j i hj hi q.symm))) (fun i j hi hj e => Decidable.byContradiction (fun h => e.elim (kW i j hi hj) (hWW i j hi hj h).2)) hj
  have rB : ∀ k, k < 24 → k ≠ 15 → rho0 A lb lw B (B k) = (500, k) := fun k hk h15 => rho0_B (A := A) (lb := lb) (lw := lw) (B := B) (fun k hk h15 i hi e => (hB k hk h15).2 (e ▸ (hA i hi).2.1)) (fun k hk h15 j hj => ⟨fun e => (hB k hk h15).2 (e ▸ (hW j hj).2.2.2.2.2.2.2.1), fun e => (hB k hk h15).2 (e ▸ (hW j hj).2.2.2.2.2.2.2.2)⟩) iB hk h15
  refine ⟨rho0 A lb lw B, fun _ => 0, fun _ _ => 0, fun _ => 0, fun _ => 0, ⟨A, lb, lw, 0, kf, fun _ => none, rfl, by decide, ⟨fun k hk => ⟨(hA k hk).1, rA k hk⟩, c0, c1, c2, fun k h3 h23 => cS k h23 h3⟩, fun j hj => ?_, fun j hj => Or.inl ⟨rfl, Nat.zero_le _⟩⟩, ⟨B, 0, fun _ => 0, fun _ => 0, fun _ => 0, fun _ => 0, fun _ => 0, fun _ => 0, rfl, fun k hk h15 => ⟨(hB k hk h15).1, rB k hk h15⟩, cB, ⟨0, by decide, rfl, fun s hs => absurd hs (Nat.not_lt_zero s)⟩, fun j _ => ⟨0, by decide, rfl⟩⟩, fun j hj => ⟨rfl, fun k hk => absurd hk (Nat.not_lt_zero k)⟩⟩
  obtain ⟨h1, h2, h3, h4, h5, -⟩ := hW j hj
  exact ⟨h1, h2, (rW j hj).1, h3, h4, (rW j hj).2, h5, Nat.zero_le _, fun i k _ hk => absurd hk (Nat.not_lt_zero k)⟩
theorem nod24 {y0 z1 z2 z3 z4 z5 z6 z7 z8 z9 z10 z11 z12 z13 z14 z15 z16 z17 z18 z19 z20 z21 z22 : Nat} (h : [y0, z1, z2, z3, z4, z5, z6, z7, z8, z9, z10, z11, z12, z13, z14, z15, z16, z17, z18, z19, z20, z21, z22].Nodup) : ∀ i j, (i < 24 ∧ i ≠ 15) → (j < 24 ∧ j ≠ 15) → (fun k => [y0, z1, z2, z3, z4, z5, z6, z7, z8, z9, z10, z11, z12, z13, z14, 0, z15, z16, z17, z18, z19, z20, z21, z22].getD k 0) i = (fun k => [y0, z1, z2, z3, z4, z5, z6, z7, z8, z9, z10, z11, z12, z13, z14, 0, z15, z16, z17, z18, z19, z20, z21, z22].getD k 0) j → i = j := by
  have key : ∀ i j, i < 23 → j < 23 → [y0, z1, z2, z3, z4, z5, z6, z7, z8, z9, z10, z11, z12, z13, z14, z15, z16, z17, z18, z19, z20, z21, z22].getD i 0 = [y0, z1, z2, z3, z4, z5, z6, z7, z8, z9, z10, z11, z12, z13, z14, z15, z16, z17, z18, z19, z20, z21, z22].getD j 0 → i = j := by
    intro i j hi hj e
    have hi2 : i < [y0, z1, z2, z3, z4, z5, z6, z7, z8, z9, z10, z11, z12, z13, z14, z15, z16, z17, z18, z19, z20, z21, z22].length := hi
    have hj2 : j < [y0, z1, z2, z3, z4, z5, z6, z7, z8, z9, z10, z11, z12, z13, z14, z15, z16, z17, z18, z19, z20, z21, z22].length := hj
    rw [List.getD_eq_getElem?_getD, List.getD_eq_getElem?_getD, List.getElem?_eq_getElem hi2, List.getElem?_eq_getElem hj2, Option.getD_some, Option.getD_some] at e
    have pw := List.pairwise_iff_getElem.mp h
    rcases Nat.lt_trichotomy i j with q | q | q
    · exact absurd e (pw i j hi2 hj2 q)
    · exact q
    · exact absurd e.symm (pw j i hj2 hi2 q)
  have up : ∀ i, (i < 24 ∧ i ≠ 15) → [y0, z1, z2, z3, z4, z5, z6, z7, z8, z9, z10, z11, z12, z13, z14, 0, z15, z16, z17, z18, z19, z20, z21, z22].getD i 0 = [y0, z1, z2, z3, z4, z5, z6, z7, z8, z9, z10, z11, z12, z13, z14, z15, z16, z17, z18, z19, z20, z21, z22].getD (if i < 15 then i else i - 1) 0 := fun i hi => all24 (P := fun i => [y0, z1, z2, z3, z4, z5, z6, z7, z8, z9, z10, z11, z12, z13, z14, 0, z15, z16, z17, z18, z19, z20, z21, z22].getD i 0 = [y0, z1, z2, z3, z4, z5, z6, z7, z8, z9, z10, z11, z12, z13, z14, z15, z16, z17, z18, z19, z20, z21, z22].getD (if i < 15 then i else i - 1) 0) rfl rfl rfl rfl rfl rfl rfl rfl rfl rfl rfl rfl rfl rfl rfl rfl rfl rfl rfl rfl rfl rfl rfl i hi.1 hi.2
  intro i j hi hj e
  have e2 := (up i hi).symm.trans (e.trans (up j hj))
  have := key _ _ (by split <;> omega) (by split <;> omega) e2
  split at this <;> split at this <;> omega
