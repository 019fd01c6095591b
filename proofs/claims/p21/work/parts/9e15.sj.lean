/-! ===== the two exact states together ===== -/
theorem CfX_fr {ρ : Nat → Nat × Nat} {g : Nat → ClassId} {L : List Nat} {f f1 : Nat → va_E} {xb : Nat} {wN : Nat → Nat} {wV : Nat → Nat → Int64} {M : Nat} {σ : Nat → SlT} (F : ∀ b, b ∈ L → (ρ b).1 ≠ 500 → f1 b = f b) (h : CfX ρ g L f xb wN wV M σ) : CfX ρ g L f1 xb wN wV M σ := by
  obtain ⟨A, WA, WR, wf, sf, h0, hM, hO, hW, hS⟩ := h
  refine ⟨A, WA, WR, wf, sf, h0, hM, Own_fr F hO, fun j hj => ⟨(hW j hj).1, Wd_fr (fun _ h => ⟨h, rfl⟩) (fun b hb hr => F b hb (n5w hr)) (hW j hj).2⟩, fun j hj => ⟨fun q => ?_, fun q => ?_⟩⟩
  · obtain ⟨h, e, H⟩ := (hS j hj).1 q
    exact ⟨h, e, SvX_fr (fun _ h => ⟨h, rfl⟩) (fun b hb hr => F b hb (n5s hj hr)) H⟩
  · rcases (hS j hj).2 q with e | ⟨h, e, H⟩
    · exact Or.inl e
    · exact Or.inr ⟨h, e, Sv_fr (fun _ h => ⟨h, rfl⟩) (fun b hb hr => F b hb (n5s hj hr)) H⟩
theorem after8X {ρ : Nat → Nat × Nat} {g : Nat → ClassId} {L L1 : List Nat} {f f1 : Nat → va_E} {x y : Nat} {wN : Nat → Nat} {wV : Nat → Nat → Int64} {M : Nat} {σ : Nat → SlT} {r : RT} (R : CfY ρ g L f y r) (h : ResX ρ g L f x wN wV M σ L1 f1) : ∃ ρ1, CfX ρ1 g L1 f1 x wN wV M σ ∧ CfY ρ1 g L1 f1 y r := by
  obtain ⟨ρ1, hL, h5, C⟩ := h
  exact ⟨ρ1, C, CfY_fr hL h5 R⟩
theorem after9X {ρ : Nat → Nat × Nat} {g : Nat → ClassId} {L L1 : List Nat} {f f1 : Nat → va_E} {x y : Nat} {wN : Nat → Nat} {wV : Nat → Nat → Int64} {M : Nat} {σ : Nat → SlT} {r : RT} (C : CfX ρ g L f x wN wV M σ) (h : ResY ρ g L f y r L1 f1) : CfX ρ g L1 f1 x wN wV M σ ∧ CfY ρ g L1 f1 y r := by
  obtain ⟨eL, hF, R⟩ := h
  subst eL
  exact ⟨CfX_fr hF C, R⟩
theorem CfX_x {ρ : Nat → Nat × Nat} {g : Nat → ClassId} {L : List Nat} {f : Nat → va_E} {x : Nat} {wN : Nat → Nat} {wV : Nat → Nat → Int64} {M : Nat} {σ : Nat → SlT} (C : CfX ρ g L f x wN wV M σ) : ∃ fs, x ∈ L ∧ f x = .inr (6, fs) := by
  obtain ⟨A, WA, WR, wf, sf, h0, hM, ⟨o, o0, -⟩, -⟩ := C
  subst h0
  exact ⟨_, (o 0 (by decide)).1, o0⟩
theorem CfY_y {ρ : Nat → Nat × Nat} {g : Nat → ClassId} {L : List Nat} {f : Nat → va_E} {y : Nat} {r : RT} (C : CfY ρ g L f y r) : ∃ fs, y ∈ L ∧ f y = .inr (7, fs) := by
  obtain ⟨many, vW, vIW, vK, vZ, vM, vS, vCt, vC, vRow, vB, vL, vLC, vRe, vR⟩ := r
  obtain ⟨B, h0, hB, ⟨c0, -⟩, -⟩ := C
  subst h0
  exact ⟨_, (hB 0 (by decide) (by decide)).1, c0⟩
theorem CfX_R {ρ : Nat → Nat × Nat} {g : Nat → ClassId} {L : List Nat} {f : Nat → va_E} {x : Nat} {wN : Nat → Nat} {wV : Nat → Nat → Int64} {M : Nat} {σ : Nat → SlT} (C : CfX ρ g L f x wN wV M σ) : WRs wN wV := by
  obtain ⟨A, WA, WR, wf, sf, h0, hM, hO, hW, hS⟩ := C
  intro j hj
  obtain ⟨-, -, -, -, -, -, -, h7, h8⟩ := hW j hj
  exact ⟨h7, h8⟩
theorem CfX_V {ρ : Nat → Nat × Nat} {g : Nat → ClassId} {L : List Nat} {f : Nat → va_E} {x : Nat} {wN : Nat → Nat} {wV : Nat → Nat → Int64} {M : Nat} {σ : Nat → SlT} (C : CfX ρ g L f x wN wV M σ) : ∀ j, j < M → SVs (σ j) := by
  obtain ⟨A, WA, WR, wf, sf, h0, hM, hO, hW, hS⟩ := C
  intro j hj
  obtain ⟨h, e, H⟩ := (hS j (by omega)).1 hj
  rcases eσ : σ j with ⟨kd, sz, mk, sd, kc, n, v, τ⟩
  rw [eσ] at H
  obtain ⟨ce, co, cr, lay, -, -, -, -, hv, -⟩ := H
  exact hv
theorem CfY_I {ρ : Nat → Nat × Nat} {g : Nat → ClassId} {L : List Nat} {f : Nat → va_E} {y : Nat} {r : RT} (C : CfY ρ g L f y r) : RIY r := by
  obtain ⟨B, h0, hB, hC, hI⟩ := C
  exact hI
def InvH (g : Nat → ClassId) (L : List Nat) (f : Nat → va_E) (x y : Nat) : Prop := ∃ (ρ : Nat → Nat × Nat) (wN : Nat → Nat) (wV : Nat → Nat → Int64) (M : Nat) (σ : Nat → SlT) (r : RT), CfX ρ g L f x wN wV M σ ∧ CfY ρ g L f y r ∧ SimH wN wV M σ r
theorem init_invH {g : Nat → ClassId} {L Lx LP : List Nat} {f : Nat → va_E} {A lb lw B : Nat → Nat} {kf : Nat → Option Nat}
    (hA : ∀ k, k < 23 → A k ∈ L ∧ A k ∈ Lx ∧ A k ∈ LP) (nA : ∀ p, p ∈ prL → A p.1 ≠ A p.2)
    (c0 : f (A 0) = .inr (6, [.ref (A 1), .ref (A 2), .ref (A 3), .ref (A 5), .ref (A 7), .ref (A 9), .ref (A 18), .int 0])) (c1 : f (A 1) = .inl (g 3, 8, .inr (.inr (.inr (.inr kf))))) (c2 : f (A 2) = .inl (g 5, 30, .inr (.inr (.inr (.inr (fun _ => none)))))) (cS : ∀ k, k < 23 → 3 ≤ k → Sh g A (f (A k)) k)
    (hW : ∀ j, j < 8 → kf j = some (lb j) ∧ lb j ∈ L ∧ f (lb j) = .inr (0, [.ref (lw j), .int 0]) ∧ lw j ∈ L ∧ f (lw j) = .inl (g 1, 1000, .inr (.inl (fun _ => 0))) ∧ lb j ∉ LP ∧ lw j ∉ LP ∧ lb j ∈ Lx ∧ lw j ∈ Lx) (hWW : ∀ j k, j < 8 → k < 8 → j ≠ k → lb j ≠ lb k ∧ lw j ≠ lw k)
    (hB : ∀ k, k < 24 → k ≠ 15 → B k ∈ L ∧ B k ∉ Lx) (iB : ∀ i j, (i < 24 ∧ i ≠ 15) → (j < 24 ∧ j ≠ 15) → B i = B j → i = j) (cB : RCY g f B (0, fun _ => 0, fun _ => 0, fun _ => 0, fun _ => 0, fun _ => 0, fun _ => 0, fun _ => 0, fun _ => 0, fun _ => 0, fun _ => 0, fun _ => 0, fun _ => 0, fun _ => 0, fun _ => 0)) : InvH g L f (A 0) (B 0) := by
  have tA : ∀ k, k < 23 → some (tgE (f (A k))) = tgL[k]? := by
    refine all23 (by rw [c0]; rfl) (by rw [c1]; rfl) (by rw [c2]; rfl) (by obtain ⟨_, e⟩ := cS 3 (by decide) (by decide); rw [e]; rfl) (by obtain ⟨_, e⟩ := cS 4 (by decide) (by decide); rw [e]; rfl) (by obtain ⟨_, e⟩ := cS 5 (by decide) (by decide); rw [e]; rfl) (by obtain ⟨_, e⟩ := cS 6 (by decide) (by decide); rw [e]; rfl) (by obtain ⟨_, e⟩ := cS 7 (by decide) (by decide); rw [e]; rfl) (by obtain ⟨_, e⟩ := cS 8 (by decide) (by decide); rw [e]; rfl) (by obtain ⟨_, _, e⟩ := cS 9 (by decide) (by decide); rw [e]; rfl) (by obtain ⟨_, e⟩ := cS 10 (by decide) (by decide); rw [e]; rfl) (by obtain ⟨_, e⟩ := cS 11 (by decide) (by decide); rw [e]; rfl) (by obtain ⟨_, e⟩ := cS 12 (by decide) (by decide); rw [e]; rfl) (by obtain ⟨_, e⟩ := cS 13 (by decide) (by decide); rw [e]; rfl) (by obtain ⟨_, e⟩ := cS 14 (by decide) (by decide); rw [e]; rfl) (by obtain ⟨_, e⟩ := cS 15 (by decide) (by decide); rw [e]; rfl) (by obtain ⟨_, e⟩ := cS 16 (by decide) (by decide); rw [e]; rfl) (by obtain ⟨_, e⟩ := cS 17 (by decide) (by decide); rw [e]; rfl) (by obtain ⟨_, _, e⟩ := cS 18 (by decide) (by decide); rw [e]; rfl) (by obtain ⟨_, e⟩ := cS 19 (by decide) (by decide); rw [e]; rfl) (by obtain ⟨_, e⟩ := cS 20 (by decide) (by decide); rw [e]; rfl) (by obtain ⟨_, e⟩ := cS 21 (by decide) (by decide); rw [e]; rfl) (by obtain ⟨_, e⟩ := cS 22 (by decide) (by decide); rw [e]; rfl)
  have iA0 : ∀ i j, i < 23 → j < 23 → i < j → A i ≠ A j := fun i j hi hj hij e => nA (i, j) (prL_ok i hi j hj hij (by rw [← tA i hi, ← tA j hj, e])) e
  have iA : ∀ i j, i < 23 → j < 23 → A i = A j → i = j := fun i j hi hj e => by
    rcases Nat.lt_trichotomy i j with q | q | q
    · exact absurd e (iA0 i j hi hj q)
    · exact q
    · exact absurd e.symm (iA0 j i hj hi q)
  have kW : ∀ i j, i < 8 → j < 8 → lb i ≠ lw j := fun i j hi hj => ne_ir (hW j hj).2.2.2.2.1 (hW i hi).2.2.1
  have rA : ∀ k, k < 23 → rho0 A lb lw B (A k) = (0, k) := fun k hk => rho0_A iA hk
  have rW : ∀ j, j < 8 → rho0 A lb lw B (lb j) = (1 + 2 * j, 0) ∧ rho0 A lb lw B (lw j) = (1 + 2 * j, 0) := fun j hj => rho0_W (A := A) (lb := lb) (lw := lw) (B := B) (fun j hj k hk => ⟨fun e => (hW j hj).2.2.2.2.2.1 (e ▸ (hA k hk).2.2), fun e => (hW j hj).2.2.2.2.2.2.1 (e ▸ (hA k hk).2.2)⟩) (fun i j hi hj e => Decidable.byContradiction (fun h => e.elim (hWW i j hi hj h).1 (fun q => kW j i hj hi q.symm))) (fun i j hi hj e => Decidable.byContradiction (fun h => e.elim (kW i j hi hj) (hWW i j hi hj h).2)) hj
  have rB : ∀ k, k < 24 → k ≠ 15 → rho0 A lb lw B (B k) = (500, k) := fun k hk h15 => rho0_B (A := A) (lb := lb) (lw := lw) (B := B) (fun k hk h15 i hi e => (hB k hk h15).2 (e ▸ (hA i hi).2.1)) (fun k hk h15 j hj => ⟨fun e => (hB k hk h15).2 (e ▸ (hW j hj).2.2.2.2.2.2.2.1), fun e => (hB k hk h15).2 (e ▸ (hW j hj).2.2.2.2.2.2.2.2)⟩) iB hk h15
  have R0 : RI 0 (fun _ => 0) (fun _ => 0) (fun _ => 0) (fun _ => 0) (fun _ => 0) (fun _ => 0) (fun _ => 0) := ⟨⟨0, by decide, rfl, fun s hs => absurd hs (Nat.not_lt_zero s)⟩, fun j _ => ⟨0, by decide, rfl⟩⟩
  have W0 : WY (fun _ => 0) (fun _ => 0) := fun j _ => ⟨0, by decide, rfl, fun i k _ hk => absurd hk (Nat.not_lt_zero k)⟩
  refine ⟨rho0 A lb lw B, fun _ => 0, fun _ _ => 0, 0, fun _ => (0, 0, 0, 0, fun _ => 0, 0, fun _ => 0, L00), _, ⟨A, lb, lw, kf, fun _ => none, rfl, by decide, ⟨fun k hk => ⟨(hA k hk).1, rA k hk⟩, c0, c1, c2, fun k h3 h23 => cS k h23 h3⟩, fun j hj => ?_, fun j hj => ⟨fun q => absurd q (Nat.not_lt_zero j), fun _ => Or.inl rfl⟩⟩, ⟨B, rfl, fun k hk h15 => ⟨(hB k hk h15).1, rB k hk h15⟩, cB, R0, W0⟩, ⟨rfl, by decide, fun j hj => ⟨rfl, fun k hk => absurd hk (Nat.not_lt_zero k)⟩, fun s hs => absurd hs (Nat.not_lt_zero s)⟩⟩
  obtain ⟨h1, h2, h3, h4, h5, -⟩ := hW j hj
  exact ⟨h1, h2, (rW j hj).1, h3, h4, (rW j hj).2, h5, Nat.zero_le _, fun i k _ hk => absurd hk (Nat.not_lt_zero k)⟩
