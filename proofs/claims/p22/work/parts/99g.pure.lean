/-! ===== the reference's state ===== -/
def ShR (g : Nat → ClassId) (e : va_E) : Nat → Prop
  | 6 => ∃ v, e = .inl (g 0, 30, .inl v)
  | 7 => ∃ v, e = .inl (g 1, 30000, .inr (.inl v))
  | 9 => ∃ v, e = .inl (g 0, 122880, .inl v)
  | 10 => ∃ v, e = .inl (g 0, 76800, .inl v)
  | 12 => ∃ v, e = .inl (g 0, 600, .inl v)
  | 13 => ∃ v, e = .inl (g 1, 30000, .inr (.inl v))
  | 16 => ∃ v, e = .inl (g 1, 1000, .inr (.inl v))
  | 17 => ∃ v, e = .inl (g 1, 1000, .inr (.inl v))
  | 18 => ∃ v, e = .inl (g 1, 1000, .inr (.inl v))
  | 19 => ∃ v, e = .inl (g 0, 1000, .inl v)
  | 20 => ∃ v, e = .inl (g 0, 1000, .inl v)
  | 21 => ∃ v, e = .inl (g 2, 1000, .inl v)
  | 22 => ∃ v, e = .inl (g 0, 4096, .inl v)
  | 23 => ∃ v, e = .inl (g 0, 4096, .inl v)
  | _ => True
def RCs (g : Nat → ClassId) (f : Nat → va_E) (B : Nat → Nat) (many : Int32) (vW : Nat → Int64) (vIW vK vZ vM vC vR vL : Nat → Int32) : Prop := f (B 0) = .inr (7, [.ref (B 1), .ref (B 2), .ref (B 3), .ref (B 4), .ref (B 5), .ref (B 6), .ref (B 7), .ref (B 8), .ref (B 9), .ref (B 10), .ref (B 11), .ref (B 12), .ref (B 13), .ref (B 14), .int many, .ref (B 16), .ref (B 17), .ref (B 18), .ref (B 19), .ref (B 20), .ref (B 21), .ref (B 22), .ref (B 23)]) ∧ f (B 1) = .inl (g 1, 8000, .inr (.inl vW)) ∧ f (B 2) = .inl (g 0, 8, .inl vIW) ∧ f (B 3) = .inl (g 0, 30, .inl vK) ∧ f (B 4) = .inl (g 0, 30, .inl vZ) ∧ f (B 5) = .inl (g 0, 30, .inl vM) ∧ f (B 8) = .inl (g 0, 30, .inl vC) ∧ f (B 11) = .inl (g 0, 600, .inl vL) ∧ f (B 14) = .inl (g 0, 30, .inl vR) ∧ ∀ k, k ∈ [6, 7, 9, 10, 12, 13, 16, 17, 18, 19, 20, 21, 22, 23] → ShR g (f (B k)) k
def RBs (ρ : Nat → Nat × Nat) (L : List Nat) (B : Nat → Nat) : Prop := ∀ k, k < 24 → k ≠ 15 → B k ∈ L ∧ ρ (B k) = (500, k)
def CfR (ρ : Nat → Nat × Nat) (g : Nat → ClassId) (L : List Nat) (f : Nat → va_E) (y : Nat) (vW : Nat → Int64) (vIW : Nat → Int32) : Prop := ∃ (B : Nat → Nat) (many : Int32) (vK vZ vM vC vR vL : Nat → Int32), B 0 = y ∧ RBs ρ L B ∧ RCs g f B many vW vIW vK vZ vM vC vR vL ∧ RI many vIW vK vZ vM vC vR vL
def ResR (ρ : Nat → Nat × Nat) (g : Nat → ClassId) (L : List Nat) (f : Nat → va_E) (y : Nat) (P : (Nat → Int64) → (Nat → Int32) → Prop) (L1 : List Nat) (f1 : Nat → va_E) : Prop := L1 = L ∧ (∀ b, b ∈ L → (ρ b).1 ≠ 500 → f1 b = f b) ∧ ∃ vW1 vIW1, P vW1 vIW1 ∧ CfR ρ g L f1 y vW1 vIW1
def Sme (vW : Nat → Int64) (vIW : Nat → Int32) (a : Nat → Int64) (b : Nat → Int32) : Prop := a = vW ∧ b = vIW
def TR (K : List Nat) (r : Nat × Nat) : Prop := r.1 = 500 ∧ r.2 ∈ K
theorem tr_y {K : List Nat} {r : Nat × Nat} {k : Nat} (e : r = (500, k)) (h : k ∈ K) : TR K r := by subst e; exact ⟨rfl, h⟩
theorem tr_n {K : List Nat} {r : Nat × Nat} {k : Nat} (e : r = (500, k)) (h : k ∉ K) : ¬ TR K r := by subst e; exact fun q => h q.2
theorem ResR_same {ρ : Nat → Nat × Nat} {g : Nat → ClassId} {L : List Nat} {f : Nat → va_E} {y : Nat} {vW : Nat → Int64} {vIW : Nat → Int32} (C : CfR ρ g L f y vW vIW) : ResR ρ g L f y (Sme vW vIW) L f := ⟨rfl, fun _ _ _ => rfl, vW, vIW, ⟨rfl, rfl⟩, C⟩
theorem CR_up {ρ : Nat → Nat × Nat} {g : Nat → ClassId} {L : List Nat} {f f1 : Nat → va_E} {B : Nat → Nat} {many : Int32} {vW : Nat → Int64} {vIW vK vZ vM vC vR vL : Nat → Int32} (K : List Nat) (hB : RBs ρ L B) (hS : ∀ k, k ∈ [6, 7, 9, 10, 12, 13, 16, 17, 18, 19, 20, 21, 22, 23] → ShR g (f (B k)) k) (FT : ∀ b, b ∈ L → ¬ TR K (ρ b) → f1 b = f b) (c0 : f1 (B 0) = .inr (7, [.ref (B 1), .ref (B 2), .ref (B 3), .ref (B 4), .ref (B 5), .ref (B 6), .ref (B 7), .ref (B 8), .ref (B 9), .ref (B 10), .ref (B 11), .ref (B 12), .ref (B 13), .ref (B 14), .int many, .ref (B 16), .ref (B 17), .ref (B 18), .ref (B 19), .ref (B 20), .ref (B 21), .ref (B 22), .ref (B 23)])) (c1 : f1 (B 1) = .inl (g 1, 8000, .inr (.inl vW))) (c2 : f1 (B 2) = .inl (g 0, 8, .inl vIW)) (c3 : f1 (B 3) = .inl (g 0, 30, .inl vK)) (c4 : f1 (B 4) = .inl (g 0, 30, .inl vZ)) (c5 : f1 (B 5) = .inl (g 0, 30, .inl vM)) (c8 : f1 (B 8) = .inl (g 0, 30, .inl vC)) (c11 : f1 (B 11) = .inl (g 0, 600, .inl vL)) (c14 : f1 (B 14) = .inl (g 0, 30, .inl vR)) (xs : ∀ k, k ∈ [6, 7, 9, 10, 12, 13, 16, 17, 18, 19, 20, 21, 22, 23] → k ∈ K → ShR g (f1 (B k)) k) (hI : RI many vIW vK vZ vM vC vR vL) {P : (Nat → Int64) → (Nat → Int32) → Prop} (hP : P vW vIW) : ResR ρ g L f (B 0) P L f1 := by
  refine ⟨rfl, fun b hb h5 => FT b hb (fun q => h5 q.1), vW, vIW, hP, B, many, vK, vZ, vM, vC, vR, vL, rfl, hB, ⟨c0, c1, c2, c3, c4, c5, c8, c11, c14, fun k hk => ?_⟩, hI⟩
  by_cases q : k ∈ K
  · exact xs k hk q
  · have k24 : k < 24 ∧ k ≠ 15 := by
      have h : ∀ q, q ∈ [6, 7, 9, 10, 12, 13, 16, 17, 18, 19, 20, 21, 22, 23] → q < 24 ∧ q ≠ 15 := by decide
      exact h k hk
    rw [FT _ (hB k k24.1 k24.2).1 (tr_n (hB k k24.1 k24.2).2 q)]
    exact hS k hk
theorem CfR_fr {ρ ρ1 : Nat → Nat × Nat} {g : Nat → ClassId} {L L1 : List Nat} {f f1 : Nat → va_E} {y : Nat} {vW : Nat → Int64} {vIW : Nat → Int32} (hL : ∀ b, b ∈ L → b ∈ L1 ∧ ρ1 b = ρ b) (hf : ∀ b, b ∈ L → (ρ b).1 = 500 → f1 b = f b) (C : CfR ρ g L f y vW vIW) : CfR ρ1 g L1 f1 y vW vIW := by
  obtain ⟨B, many, vK, vZ, vM, vC, vR, vL, h0, hB, ⟨c0, c1, c2, c3, c4, c5, c8, c11, c14, hS⟩, hI⟩ := C
  have F : ∀ k, k < 24 → k ≠ 15 → f1 (B k) = f (B k) := fun k h1 h2 => hf _ (hB k h1 h2).1 (by rw [(hB k h1 h2).2])
  refine ⟨B, many, vK, vZ, vM, vC, vR, vL, h0, fun k h1 h2 => ⟨(hL _ (hB k h1 h2).1).1, (hL _ (hB k h1 h2).1).2.trans (hB k h1 h2).2⟩, ⟨(F 0 (by decide) (by decide)).trans c0, (F 1 (by decide) (by decide)).trans c1, (F 2 (by decide) (by decide)).trans c2, (F 3 (by decide) (by decide)).trans c3, (F 4 (by decide) (by decide)).trans c4, (F 5 (by decide) (by decide)).trans c5, (F 8 (by decide) (by decide)).trans c8, (F 11 (by decide) (by decide)).trans c11, (F 14 (by decide) (by decide)).trans c14, fun k hk => ?_⟩, hI⟩
  have k24 : k < 24 ∧ k ≠ 15 := by
    have h : ∀ q, q ∈ [6, 7, 9, 10, 12, 13, 16, 17, 18, 19, 20, 21, 22, 23] → q < 24 ∧ q ≠ 15 := by decide
    exact h k hk
  rw [F k k24.1 k24.2]
  exact hS k hk
def Lk (wN : Nat → Nat) (wV : Nat → Nat → Int64) (vW : Nat → Int64) (vIW : Nat → Int32) : Prop := ∀ j, j < 8 → vIW j = nI (wN j) ∧ AG (wN j) (wOf vW j) (wV j)
def WRs (wN : Nat → Nat) (wV : Nat → Nat → Int64) : Prop := ∀ j, j < 8 → wN j ≤ 1000 ∧ worldR (wV j) (wN j)
theorem rthing_ok {many : Int32} {vIW vK vZ vM vC vR vL : Nat → Int32} (h : RI many vIW vK vZ vM vC vR vL) (vW : Nat → Int64) (wi i : Int32) : OK (mX9_thing vW vIW wi i) (fun x => AnW 0 wi (fun j x => (i < 0 → x = 0) ∧ (¬ i < 0 → vIW j ≤ i → x = 0) ∧ (∀ k, k < 1000 → i = nI k → ¬ vIW j ≤ i → x = wOf vW j k)) x) := by
  unfold mX9_thing
  rcases isW_v wi with q | ⟨q, j, hj, rfl⟩
  · exact OK_be q (OK_T rfl (OK_some (Or.inl ⟨q, rfl⟩)))
  · refine OK_be q (OK_F (show ¬ (1 : Int32) = 0 by decide) (OK_ite (fun h0 => OK_some (Or.inr ⟨j, hj, rfl, fun _ => rfl, fun h => absurd h0 h, fun k hk e => absurd (e ▸ h0) (fun r => absurd (nI_pos' (n := k) (by omega)) (Int32.not_le.mpr r))⟩)) (fun h0 => ?_)))
    obtain ⟨n, hn, e⟩ := h.2 j hj
    obtain ⟨k, hk, rfl⟩ := nI_of h0
    rw [clN (k := j) (by omega)]
    refine OK_T (ix_nI hj) (OK_ite (fun h1 => OK_some (Or.inr ⟨j, hj, rfl, fun h => absurd h h0, fun _ _ => rfl, fun _ _ _ h => absurd h1 h⟩)) (fun h1 => ?_))
    have hkn : k < n := Nat.lt_of_not_le (fun q => h1 (by rw [e]; exact nI_le q hk))
    rw [m1000, clN (k := 1000 * j + k) (by omega)]
    refine OK_T (ix_nI (by omega)) (OK_some (Or.inr ⟨j, hj, rfl, fun h => absurd h h0, fun _ h => absurd h h1, fun k' hk' e' _ => ?_⟩))
    rw [(nI_eq (by omega) (by omega)).mp e']
    rfl
set_option maxHeartbeats 1000000 in
theorem rc_things (l : Launch) (D : va_G) {ρ : Nat → Nat × Nat} {g : Nat → ClassId} {L : List Nat} {f : Nat → va_E} {y : Nat} {vW : Nat → Int64} {vIW : Nat → Int32} (C : CfR ρ g L f y vW vIW) (wi : Int32) : cI l yX9_things wsX9_things (RmC 0 0) D g [.ref y, .int wi] L f 0 0 (fun x L1 f1 => AnW (-1) wi (fun j x => x = vIW j) x ∧ ResR ρ g L f y (Sme vW vIW) L1 f1) := by
  have CC := C
  obtain ⟨B, many, vKind, vSize, vMarks, vContentMany, vRestMany, vLayerSize, rfl, hB, ⟨e_y, e_aWorlds, e_aInWorld, e_aKind, e_aSize, e_aMarks, e_aContentMany, e_aLayerSize, e_aRestMany, hS⟩, hI⟩ := C
  obtain ⟨vSeed, e_aSeed⟩ := hS 6 (by decide)
  obtain ⟨vContents, e_aContents⟩ := hS 7 (by decide)
  obtain ⟨vRow, e_aRow⟩ := hS 9 (by decide)
  obtain ⟨vBits, e_aBits⟩ := hS 10 (by decide)
  obtain ⟨vLayerCame, e_aLayerCame⟩ := hS 12 (by decide)
  obtain ⟨vRest, e_aRest⟩ := hS 13 (by decide)
  obtain ⟨vCome, e_aCome⟩ := hS 16 (by decide)
  obtain ⟨vRivals, e_aRivals⟩ := hS 17 (by decide)
  obtain ⟨vGone, e_aGone⟩ := hS 18 (by decide)
  obtain ⟨vOrder, e_aOrder⟩ := hS 19 (by decide)
  obtain ⟨vOffAt, e_aOffAt⟩ := hS 20 (by decide)
  obtain ⟨vIsOff, e_aIsOff⟩ := hS 21 (by decide)
  obtain ⟨vAlone, e_aAlone⟩ := hS 22 (by decide)
  obtain ⟨vKept, e_aKept⟩ := hS 23 (by decide)
  have m_aWorlds := (hB 1 (by decide) (by decide)).1
  have r_aWorlds := (hB 1 (by decide) (by decide)).2
  have m_aInWorld := (hB 2 (by decide) (by decide)).1
  have r_aInWorld := (hB 2 (by decide) (by decide)).2
  have m_aKind := (hB 3 (by decide) (by decide)).1
  have r_aKind := (hB 3 (by decide) (by decide)).2
  have m_aSize := (hB 4 (by decide) (by decide)).1
  have r_aSize := (hB 4 (by decide) (by decide)).2
  have m_aMarks := (hB 5 (by decide) (by decide)).1
  have r_aMarks := (hB 5 (by decide) (by decide)).2
  have m_aSeed := (hB 6 (by decide) (by decide)).1
  have r_aSeed := (hB 6 (by decide) (by decide)).2
  have m_aContents := (hB 7 (by decide) (by decide)).1
  have r_aContents := (hB 7 (by decide) (by decide)).2
  have m_aContentMany := (hB 8 (by decide) (by decide)).1
  have r_aContentMany := (hB 8 (by decide) (by decide)).2
  have m_aRow := (hB 9 (by decide) (by decide)).1
  have r_aRow := (hB 9 (by decide) (by decide)).2
  have m_aBits := (hB 10 (by decide) (by decide)).1
  have r_aBits := (hB 10 (by decide) (by decide)).2
  have m_aLayerSize := (hB 11 (by decide) (by decide)).1
  have r_aLayerSize := (hB 11 (by decide) (by decide)).2
  have m_aLayerCame := (hB 12 (by decide) (by decide)).1
  have r_aLayerCame := (hB 12 (by decide) (by decide)).2
  have m_aRest := (hB 13 (by decide) (by decide)).1
  have r_aRest := (hB 13 (by decide) (by decide)).2
  have m_aRestMany := (hB 14 (by decide) (by decide)).1
  have r_aRestMany := (hB 14 (by decide) (by decide)).2
  have m_aCome := (hB 16 (by decide) (by decide)).1
  have r_aCome := (hB 16 (by decide) (by decide)).2
  have m_aRivals := (hB 17 (by decide) (by decide)).1
  have r_aRivals := (hB 17 (by decide) (by decide)).2
  have m_aGone := (hB 18 (by decide) (by decide)).1
  have r_aGone := (hB 18 (by decide) (by decide)).2
  have m_aOrder := (hB 19 (by decide) (by decide)).1
  have r_aOrder := (hB 19 (by decide) (by decide)).2
  have m_aOffAt := (hB 20 (by decide) (by decide)).1
  have r_aOffAt := (hB 20 (by decide) (by decide)).2
  have m_aIsOff := (hB 21 (by decide) (by decide)).1
  have r_aIsOff := (hB 21 (by decide) (by decide)).2
  have m_aAlone := (hB 22 (by decide) (by decide)).1
  have r_aAlone := (hB 22 (by decide) (by decide)).2
  have m_aKept := (hB 23 (by decide) (by decide)).1
  have r_aKept := (hB 23 (by decide) (by decide)).2
  have m_y := (hB 0 (by decide) (by decide)).1
  have r_y := (hB 0 (by decide) (by decide)).2
  rcases isW_v wi with q | ⟨q, j, hj, rfl⟩
  · have hz : mX9_things vIW wi = some (-1) := by
      unfold mX9_things
      rw [q, sb_]
      exact if_pos rfl
    refine cI_up (k_X9_things l D g m_y e_y m_aInWorld e_aInWorld hz) (by decide) (by decide) (by decide) (by decide) (by decide) (by decide) (fun x L1 f1 P => ?_)
    obtain ⟨ex, eL, ef⟩ := P
    subst eL ef ex
    exact ⟨Or.inl ⟨q, rfl⟩, ResR_same CC⟩
  · have hz : mX9_things vIW (nI j) = some (vIW j) := by
      unfold mX9_things
      rw [q, sb_, if_neg (show ¬ (1 : Int32) = 0 by decide), if_pos (ix_nI hj), clN (by omega)]
    refine cI_up (k_X9_things l D g m_y e_y m_aInWorld e_aInWorld hz) (by decide) (by decide) (by decide) (by decide) (by decide) (by decide) (fun x L1 f1 P => ?_)
    obtain ⟨ex, eL, ef⟩ := P
    subst eL ef ex
    exact ⟨Or.inr ⟨j, hj, rfl, rfl⟩, ResR_same CC⟩
set_option maxHeartbeats 1000000 in
theorem rc_thing (l : Launch) (D : va_G) {ρ : Nat → Nat × Nat} {g : Nat → ClassId} {L : List Nat} {f : Nat → va_E} {y : Nat} {vW : Nat → Int64} {vIW : Nat → Int32} (C : CfR ρ g L f y vW vIW) (wi : Int32) (i : Int32) : cL l yX9_thing wsX9_thing (RmC 0 0) D g [.ref y, .int wi, .int i] L f 0 0 (fun x L1 f1 => AnW 0 wi (fun j x => (i < 0 → x = 0) ∧ (¬ i < 0 → vIW j ≤ i → x = 0) ∧ (∀ k, k < 1000 → i = nI k → ¬ vIW j ≤ i → x = wOf vW j k)) x ∧ ResR ρ g L f y (Sme vW vIW) L1 f1) := by
  have CC := C
  obtain ⟨B, many, vKind, vSize, vMarks, vContentMany, vRestMany, vLayerSize, rfl, hB, ⟨e_y, e_aWorlds, e_aInWorld, e_aKind, e_aSize, e_aMarks, e_aContentMany, e_aLayerSize, e_aRestMany, hS⟩, hI⟩ := C
  obtain ⟨vSeed, e_aSeed⟩ := hS 6 (by decide)
  obtain ⟨vContents, e_aContents⟩ := hS 7 (by decide)
  obtain ⟨vRow, e_aRow⟩ := hS 9 (by decide)
  obtain ⟨vBits, e_aBits⟩ := hS 10 (by decide)
  obtain ⟨vLayerCame, e_aLayerCame⟩ := hS 12 (by decide)
  obtain ⟨vRest, e_aRest⟩ := hS 13 (by decide)
  obtain ⟨vCome, e_aCome⟩ := hS 16 (by decide)
  obtain ⟨vRivals, e_aRivals⟩ := hS 17 (by decide)
  obtain ⟨vGone, e_aGone⟩ := hS 18 (by decide)
  obtain ⟨vOrder, e_aOrder⟩ := hS 19 (by decide)
  obtain ⟨vOffAt, e_aOffAt⟩ := hS 20 (by decide)
  obtain ⟨vIsOff, e_aIsOff⟩ := hS 21 (by decide)
  obtain ⟨vAlone, e_aAlone⟩ := hS 22 (by decide)
  obtain ⟨vKept, e_aKept⟩ := hS 23 (by decide)
  have m_aWorlds := (hB 1 (by decide) (by decide)).1
  have r_aWorlds := (hB 1 (by decide) (by decide)).2
  have m_aInWorld := (hB 2 (by decide) (by decide)).1
  have r_aInWorld := (hB 2 (by decide) (by decide)).2
  have m_aKind := (hB 3 (by decide) (by decide)).1
  have r_aKind := (hB 3 (by decide) (by decide)).2
  have m_aSize := (hB 4 (by decide) (by decide)).1
  have r_aSize := (hB 4 (by decide) (by decide)).2
  have m_aMarks := (hB 5 (by decide) (by decide)).1
  have r_aMarks := (hB 5 (by decide) (by decide)).2
  have m_aSeed := (hB 6 (by decide) (by decide)).1
  have r_aSeed := (hB 6 (by decide) (by decide)).2
  have m_aContents := (hB 7 (by decide) (by decide)).1
  have r_aContents := (hB 7 (by decide) (by decide)).2
  have m_aContentMany := (hB 8 (by decide) (by decide)).1
  have r_aContentMany := (hB 8 (by decide) (by decide)).2
  have m_aRow := (hB 9 (by decide) (by decide)).1
  have r_aRow := (hB 9 (by decide) (by decide)).2
  have m_aBits := (hB 10 (by decide) (by decide)).1
  have r_aBits := (hB 10 (by decide) (by decide)).2
  have m_aLayerSize := (hB 11 (by decide) (by decide)).1
  have r_aLayerSize := (hB 11 (by decide) (by decide)).2
  have m_aLayerCame := (hB 12 (by decide) (by decide)).1
  have r_aLayerCame := (hB 12 (by decide) (by decide)).2
  have m_aRest := (hB 13 (by decide) (by decide)).1
  have r_aRest := (hB 13 (by decide) (by decide)).2
  have m_aRestMany := (hB 14 (by decide) (by decide)).1
  have r_aRestMany := (hB 14 (by decide) (by decide)).2
  have m_aCome := (hB 16 (by decide) (by decide)).1
  have r_aCome := (hB 16 (by decide) (by decide)).2
  have m_aRivals := (hB 17 (by decide) (by decide)).1
  have r_aRivals := (hB 17 (by decide) (by decide)).2
  have m_aGone := (hB 18 (by decide) (by decide)).1
  have r_aGone := (hB 18 (by decide) (by decide)).2
  have m_aOrder := (hB 19 (by decide) (by decide)).1
  have r_aOrder := (hB 19 (by decide) (by decide)).2
  have m_aOffAt := (hB 20 (by decide) (by decide)).1
  have r_aOffAt := (hB 20 (by decide) (by decide)).2
  have m_aIsOff := (hB 21 (by decide) (by decide)).1
  have r_aIsOff := (hB 21 (by decide) (by decide)).2
  have m_aAlone := (hB 22 (by decide) (by decide)).1
  have r_aAlone := (hB 22 (by decide) (by decide)).2
  have m_aKept := (hB 23 (by decide) (by decide)).1
  have r_aKept := (hB 23 (by decide) (by decide)).2
  have m_y := (hB 0 (by decide) (by decide)).1
  have r_y := (hB 0 (by decide) (by decide)).2
  obtain ⟨z, hz, hq⟩ := rthing_ok hI vW wi i
  refine cL_up (k_X9_thing l D g m_y e_y m_aWorlds e_aWorlds m_aInWorld e_aInWorld hz) (by decide) (by decide) (by decide) (by decide) (by decide) (by decide) (fun x L1 f1 P => ?_)
  obtain ⟨ex, eL, ef⟩ := P
  subst eL ef ex
  exact ⟨hq, ResR_same CC⟩
set_option maxHeartbeats 1000000 in
theorem rc_make (l : Launch) (D : va_G) {ρ : Nat → Nat × Nat} {g : Nat → ClassId} {L : List Nat} {f : Nat → va_E} {y : Nat} {vW : Nat → Int64} {vIW : Nat → Int32} (C : CfR ρ g L f y vW vIW) (k0 : Int32) (k1 : Int32) (k2 : Int32) (k3 : Int32) : cI l yX9_make wsX9_make (RmC 0 0) D g [.ref y, .int k0, .int k1, .int k2, .int k3] L f 0 0 (fun x L1 f1 => ResR ρ g L f y (Sme vW vIW) L1 f1) := by
  have CC := C
  obtain ⟨B, many, vKind, vSize, vMarks, vContentMany, vRestMany, vLayerSize, rfl, hB, ⟨e_y, e_aWorlds, e_aInWorld, e_aKind, e_aSize, e_aMarks, e_aContentMany, e_aLayerSize, e_aRestMany, hS⟩, hI⟩ := C
  obtain ⟨vSeed, e_aSeed⟩ := hS 6 (by decide)
  obtain ⟨vContents, e_aContents⟩ := hS 7 (by decide)
  obtain ⟨vRow, e_aRow⟩ := hS 9 (by decide)
  obtain ⟨vBits, e_aBits⟩ := hS 10 (by decide)
  obtain ⟨vLayerCame, e_aLayerCame⟩ := hS 12 (by decide)
  obtain ⟨vRest, e_aRest⟩ := hS 13 (by decide)
  obtain ⟨vCome, e_aCome⟩ := hS 16 (by decide)
  obtain ⟨vRivals, e_aRivals⟩ := hS 17 (by decide)
  obtain ⟨vGone, e_aGone⟩ := hS 18 (by decide)
  obtain ⟨vOrder, e_aOrder⟩ := hS 19 (by decide)
  obtain ⟨vOffAt, e_aOffAt⟩ := hS 20 (by decide)
  obtain ⟨vIsOff, e_aIsOff⟩ := hS 21 (by decide)
  obtain ⟨vAlone, e_aAlone⟩ := hS 22 (by decide)
  obtain ⟨vKept, e_aKept⟩ := hS 23 (by decide)
  have m_aWorlds := (hB 1 (by decide) (by decide)).1
  have r_aWorlds := (hB 1 (by decide) (by decide)).2
  have m_aInWorld := (hB 2 (by decide) (by decide)).1
  have r_aInWorld := (hB 2 (by decide) (by decide)).2
  have m_aKind := (hB 3 (by decide) (by decide)).1
  have r_aKind := (hB 3 (by decide) (by decide)).2
  have m_aSize := (hB 4 (by decide) (by decide)).1
  have r_aSize := (hB 4 (by decide) (by decide)).2
  have m_aMarks := (hB 5 (by decide) (by decide)).1
  have r_aMarks := (hB 5 (by decide) (by decide)).2
  have m_aSeed := (hB 6 (by decide) (by decide)).1
  have r_aSeed := (hB 6 (by decide) (by decide)).2
  have m_aContents := (hB 7 (by decide) (by decide)).1
  have r_aContents := (hB 7 (by decide) (by decide)).2
  have m_aContentMany := (hB 8 (by decide) (by decide)).1
  have r_aContentMany := (hB 8 (by decide) (by decide)).2
  have m_aRow := (hB 9 (by decide) (by decide)).1
  have r_aRow := (hB 9 (by decide) (by decide)).2
  have m_aBits := (hB 10 (by decide) (by decide)).1
  have r_aBits := (hB 10 (by decide) (by decide)).2
  have m_aLayerSize := (hB 11 (by decide) (by decide)).1
  have r_aLayerSize := (hB 11 (by decide) (by decide)).2
  have m_aLayerCame := (hB 12 (by decide) (by decide)).1
  have r_aLayerCame := (hB 12 (by decide) (by decide)).2
  have m_aRest := (hB 13 (by decide) (by decide)).1
  have r_aRest := (hB 13 (by decide) (by decide)).2
  have m_aRestMany := (hB 14 (by decide) (by decide)).1
  have r_aRestMany := (hB 14 (by decide) (by decide)).2
  have m_aCome := (hB 16 (by decide) (by decide)).1
  have r_aCome := (hB 16 (by decide) (by decide)).2
  have m_aRivals := (hB 17 (by decide) (by decide)).1
  have r_aRivals := (hB 17 (by decide) (by decide)).2
  have m_aGone := (hB 18 (by decide) (by decide)).1
  have r_aGone := (hB 18 (by decide) (by decide)).2
  have m_aOrder := (hB 19 (by decide) (by decide)).1
  have r_aOrder := (hB 19 (by decide) (by decide)).2
  have m_aOffAt := (hB 20 (by decide) (by decide)).1
  have r_aOffAt := (hB 20 (by decide) (by decide)).2
  have m_aIsOff := (hB 21 (by decide) (by decide)).1
  have r_aIsOff := (hB 21 (by decide) (by decide)).2
  have m_aAlone := (hB 22 (by decide) (by decide)).1
  have r_aAlone := (hB 22 (by decide) (by decide)).2
  have m_aKept := (hB 23 (by decide) (by decide)).1
  have r_aKept := (hB 23 (by decide) (by decide)).2
  have m_y := (hB 0 (by decide) (by decide)).1
  have r_y := (hB 0 (by decide) (by decide)).2
  obtain ⟨z, hz, hq⟩ : OK (mX9_make many vKind vSize vMarks vSeed vContentMany vRow vRestMany k0 k1 k2 k3) _ := rmake_ok hI _ _ _ _ _ _
  refine cI_up (k_X9_make l D g m_y e_y m_aWorlds e_aWorlds m_aInWorld e_aInWorld m_aKind e_aKind m_aSize e_aSize m_aMarks e_aMarks m_aSeed e_aSeed m_aContents e_aContents m_aContentMany e_aContentMany m_aRow e_aRow m_aBits e_aBits m_aLayerSize e_aLayerSize m_aLayerCame e_aLayerCame m_aRest e_aRest m_aRestMany e_aRestMany m_aCome e_aCome m_aRivals e_aRivals m_aGone e_aGone m_aOrder e_aOrder m_aOffAt e_aOffAt m_aIsOff e_aIsOff m_aAlone e_aAlone m_aKept e_aKept r_aKind r_aSize r_aMarks r_aSeed r_aContentMany r_aRestMany hz) (by decide) (by decide) (by decide) (by decide) (by decide) (by decide) (fun x L1 f1 P => ?_)
  obtain ⟨-, eL, fv, E_y, E_aKind, E_aSize, E_aMarks, E_aSeed, E_aContentMany, E_aRow, E_aRestMany⟩ := P
  subst eL
  have FT : ∀ b, b ∈ L1 → ¬ TR [0, 3, 4, 5, 6, 8, 9, 14] (ρ b) → f1 b = f b := fun b hb ht => fv b hb (ne_T (tr_y r_y (by decide)) ht) (ne_T (tr_y r_aKind (by decide)) ht) (ne_T (tr_y r_aSize (by decide)) ht) (ne_T (tr_y r_aMarks (by decide)) ht) (ne_T (tr_y r_aSeed (by decide)) ht) (ne_T (tr_y r_aContentMany (by decide)) ht) (ne_T (tr_y r_aRow (by decide)) ht) (ne_T (tr_y r_aRestMany (by decide)) ht)
  refine CR_up (vW := vW) (vIW := vIW) [0, 3, 4, 5, 6, 8, 9, 14] hB hS FT E_y ((FT _ m_aWorlds (tr_n r_aWorlds (by decide))).trans e_aWorlds) ((FT _ m_aInWorld (tr_n r_aInWorld (by decide))).trans e_aInWorld) E_aKind E_aSize E_aMarks E_aContentMany ((FT _ m_aLayerSize (tr_n r_aLayerSize (by decide))).trans e_aLayerSize) E_aRestMany ?_ hq ⟨rfl, rfl⟩
  intro k hk hK
  have hc : k = 6 ∨ k = 9 := by
    have hh : ∀ q, q ∈ [6, 7, 9, 10, 12, 13, 16, 17, 18, 19, 20, 21, 22, 23] → q ∈ [0, 3, 4, 5, 6, 8, 9, 14] → q = 6 ∨ q = 9 := by decide
    exact hh k hk hK
  rcases hc with rfl | rfl
  · exact ⟨_, E_aSeed⟩
  · exact ⟨_, E_aRow⟩
set_option maxHeartbeats 1000000 in
theorem rc_solve (l : Launch) (D : va_G) {ρ : Nat → Nat × Nat} {g : Nat → ClassId} {L : List Nat} {f : Nat → va_E} {y : Nat} {vW : Nat → Int64} {vIW : Nat → Int32} (C : CfR ρ g L f y vW vIW) (wi : Int32) (by_ : Int32) : cI l yX9_solve wsX9_solve (RmC 0 0) D g [.ref y, .int wi, .int by_] L f 0 0 (fun x L1 f1 => ResR ρ g L f y (Sme vW vIW) L1 f1) := by
  have CC := C
  obtain ⟨B, many, vKind, vSize, vMarks, vContentMany, vRestMany, vLayerSize, rfl, hB, ⟨e_y, e_aWorlds, e_aInWorld, e_aKind, e_aSize, e_aMarks, e_aContentMany, e_aLayerSize, e_aRestMany, hS⟩, hI⟩ := C
  obtain ⟨vSeed, e_aSeed⟩ := hS 6 (by decide)
  obtain ⟨vContents, e_aContents⟩ := hS 7 (by decide)
  obtain ⟨vRow, e_aRow⟩ := hS 9 (by decide)
  obtain ⟨vBits, e_aBits⟩ := hS 10 (by decide)
  obtain ⟨vLayerCame, e_aLayerCame⟩ := hS 12 (by decide)
  obtain ⟨vRest, e_aRest⟩ := hS 13 (by decide)
  obtain ⟨vCome, e_aCome⟩ := hS 16 (by decide)
  obtain ⟨vRivals, e_aRivals⟩ := hS 17 (by decide)
  obtain ⟨vGone, e_aGone⟩ := hS 18 (by decide)
  obtain ⟨vOrder, e_aOrder⟩ := hS 19 (by decide)
  obtain ⟨vOffAt, e_aOffAt⟩ := hS 20 (by decide)
  obtain ⟨vIsOff, e_aIsOff⟩ := hS 21 (by decide)
  obtain ⟨vAlone, e_aAlone⟩ := hS 22 (by decide)
  obtain ⟨vKept, e_aKept⟩ := hS 23 (by decide)
  have m_aWorlds := (hB 1 (by decide) (by decide)).1
  have r_aWorlds := (hB 1 (by decide) (by decide)).2
  have m_aInWorld := (hB 2 (by decide) (by decide)).1
  have r_aInWorld := (hB 2 (by decide) (by decide)).2
  have m_aKind := (hB 3 (by decide) (by decide)).1
  have r_aKind := (hB 3 (by decide) (by decide)).2
  have m_aSize := (hB 4 (by decide) (by decide)).1
  have r_aSize := (hB 4 (by decide) (by decide)).2
  have m_aMarks := (hB 5 (by decide) (by decide)).1
  have r_aMarks := (hB 5 (by decide) (by decide)).2
  have m_aSeed := (hB 6 (by decide) (by decide)).1
  have r_aSeed := (hB 6 (by decide) (by decide)).2
  have m_aContents := (hB 7 (by decide) (by decide)).1
  have r_aContents := (hB 7 (by decide) (by decide)).2
  have m_aContentMany := (hB 8 (by decide) (by decide)).1
  have r_aContentMany := (hB 8 (by decide) (by decide)).2
  have m_aRow := (hB 9 (by decide) (by decide)).1
  have r_aRow := (hB 9 (by decide) (by decide)).2
  have m_aBits := (hB 10 (by decide) (by decide)).1
  have r_aBits := (hB 10 (by decide) (by decide)).2
  have m_aLayerSize := (hB 11 (by decide) (by decide)).1
  have r_aLayerSize := (hB 11 (by decide) (by decide)).2
  have m_aLayerCame := (hB 12 (by decide) (by decide)).1
  have r_aLayerCame := (hB 12 (by decide) (by decide)).2
  have m_aRest := (hB 13 (by decide) (by decide)).1
  have r_aRest := (hB 13 (by decide) (by decide)).2
  have m_aRestMany := (hB 14 (by decide) (by decide)).1
  have r_aRestMany := (hB 14 (by decide) (by decide)).2
  have m_aCome := (hB 16 (by decide) (by decide)).1
  have r_aCome := (hB 16 (by decide) (by decide)).2
  have m_aRivals := (hB 17 (by decide) (by decide)).1
  have r_aRivals := (hB 17 (by decide) (by decide)).2
  have m_aGone := (hB 18 (by decide) (by decide)).1
  have r_aGone := (hB 18 (by decide) (by decide)).2
  have m_aOrder := (hB 19 (by decide) (by decide)).1
  have r_aOrder := (hB 19 (by decide) (by decide)).2
  have m_aOffAt := (hB 20 (by decide) (by decide)).1
  have r_aOffAt := (hB 20 (by decide) (by decide)).2
  have m_aIsOff := (hB 21 (by decide) (by decide)).1
  have r_aIsOff := (hB 21 (by decide) (by decide)).2
  have m_aAlone := (hB 22 (by decide) (by decide)).1
  have r_aAlone := (hB 22 (by decide) (by decide)).2
  have m_aKept := (hB 23 (by decide) (by decide)).1
  have r_aKept := (hB 23 (by decide) (by decide)).2
  have m_y := (hB 0 (by decide) (by decide)).1
  have r_y := (hB 0 (by decide) (by decide)).2
  obtain ⟨z, hz, hq⟩ : OK (mX9_solve many vW vIW vKind vSize vMarks vSeed vContents vContentMany vRow vRestMany vOrder vOffAt vIsOff vAlone wi by_) _ := rsolve_ok hI _ _ _ _ _ _ _ _ _ _
  refine cI_up (k_X9_solve l D g m_y e_y m_aWorlds e_aWorlds m_aInWorld e_aInWorld m_aKind e_aKind m_aSize e_aSize m_aMarks e_aMarks m_aSeed e_aSeed m_aContents e_aContents m_aContentMany e_aContentMany m_aRow e_aRow m_aBits e_aBits m_aLayerSize e_aLayerSize m_aLayerCame e_aLayerCame m_aRest e_aRest m_aRestMany e_aRestMany m_aCome e_aCome m_aRivals e_aRivals m_aGone e_aGone m_aOrder e_aOrder m_aOffAt e_aOffAt m_aIsOff e_aIsOff m_aAlone e_aAlone m_aKept e_aKept r_aKind r_aSize r_aMarks r_aSeed r_aContents r_aContentMany r_aRest r_aRestMany r_aOrder r_aOffAt r_aIsOff r_aAlone r_aKept hz) (by decide) (by decide) (by decide) (by decide) (by decide) (by decide) (fun x L1 f1 P => ?_)
  obtain ⟨-, eL, fv, E_y, E_aKind, E_aSize, E_aMarks, E_aSeed, E_aContents, E_aContentMany, E_aRow, E_aRestMany, E_aOrder, E_aOffAt, E_aIsOff, E_aAlone⟩ := P
  subst eL
  have FT : ∀ b, b ∈ L1 → ¬ TR [0, 3, 4, 5, 6, 7, 8, 9, 14, 19, 20, 21, 22] (ρ b) → f1 b = f b := fun b hb ht => fv b hb (ne_T (tr_y r_y (by decide)) ht) (ne_T (tr_y r_aKind (by decide)) ht) (ne_T (tr_y r_aSize (by decide)) ht) (ne_T (tr_y r_aMarks (by decide)) ht) (ne_T (tr_y r_aSeed (by decide)) ht) (ne_T (tr_y r_aContents (by decide)) ht) (ne_T (tr_y r_aContentMany (by decide)) ht) (ne_T (tr_y r_aRow (by decide)) ht) (ne_T (tr_y r_aRestMany (by decide)) ht) (ne_T (tr_y r_aOrder (by decide)) ht) (ne_T (tr_y r_aOffAt (by decide)) ht) (ne_T (tr_y r_aIsOff (by decide)) ht) (ne_T (tr_y r_aAlone (by decide)) ht)
  refine CR_up (vW := vW) (vIW := vIW) [0, 3, 4, 5, 6, 7, 8, 9, 14, 19, 20, 21, 22] hB hS FT E_y ((FT _ m_aWorlds (tr_n r_aWorlds (by decide))).trans e_aWorlds) ((FT _ m_aInWorld (tr_n r_aInWorld (by decide))).trans e_aInWorld) E_aKind E_aSize E_aMarks E_aContentMany ((FT _ m_aLayerSize (tr_n r_aLayerSize (by decide))).trans e_aLayerSize) E_aRestMany ?_ hq ⟨rfl, rfl⟩
  intro k hk hK
  have hc : k = 6 ∨ k = 7 ∨ k = 9 ∨ k = 19 ∨ k = 20 ∨ k = 21 ∨ k = 22 := by
    have hh : ∀ q, q ∈ [6, 7, 9, 10, 12, 13, 16, 17, 18, 19, 20, 21, 22, 23] → q ∈ [0, 3, 4, 5, 6, 7, 8, 9, 14, 19, 20, 21, 22] → q = 6 ∨ q = 7 ∨ q = 9 ∨ q = 19 ∨ q = 20 ∨ q = 21 ∨ q = 22 := by decide
    exact hh k hk hK
  rcases hc with rfl | rfl | rfl | rfl | rfl | rfl | rfl
  · exact ⟨_, E_aSeed⟩
  · exact ⟨_, E_aContents⟩
  · exact ⟨_, E_aRow⟩
  · exact ⟨_, E_aOrder⟩
  · exact ⟨_, E_aOffAt⟩
  · exact ⟨_, E_aIsOff⟩
  · exact ⟨_, E_aAlone⟩
set_option maxHeartbeats 1000000 in
theorem rc_layered (l : Launch) (D : va_G) {ρ : Nat → Nat × Nat} {g : Nat → ClassId} {L : List Nat} {f : Nat → va_E} {y : Nat} {vW : Nat → Int64} {vIW : Nat → Int32} (C : CfR ρ g L f y vW vIW) (wi : Int32) (wa : Int32) (by_ : Int32) : cI l yX9_layered wsX9_layered (RmC 0 0) D g [.ref y, .int wi, .int wa, .int by_] L f 0 0 (fun x L1 f1 => ResR ρ g L f y (Sme vW vIW) L1 f1) := by
  have CC := C
  obtain ⟨B, many, vKind, vSize, vMarks, vContentMany, vRestMany, vLayerSize, rfl, hB, ⟨e_y, e_aWorlds, e_aInWorld, e_aKind, e_aSize, e_aMarks, e_aContentMany, e_aLayerSize, e_aRestMany, hS⟩, hI⟩ := C
  obtain ⟨vSeed, e_aSeed⟩ := hS 6 (by decide)
  obtain ⟨vContents, e_aContents⟩ := hS 7 (by decide)
  obtain ⟨vRow, e_aRow⟩ := hS 9 (by decide)
  obtain ⟨vBits, e_aBits⟩ := hS 10 (by decide)
  obtain ⟨vLayerCame, e_aLayerCame⟩ := hS 12 (by decide)
  obtain ⟨vRest, e_aRest⟩ := hS 13 (by decide)
  obtain ⟨vCome, e_aCome⟩ := hS 16 (by decide)
  obtain ⟨vRivals, e_aRivals⟩ := hS 17 (by decide)
  obtain ⟨vGone, e_aGone⟩ := hS 18 (by decide)
  obtain ⟨vOrder, e_aOrder⟩ := hS 19 (by decide)
  obtain ⟨vOffAt, e_aOffAt⟩ := hS 20 (by decide)
  obtain ⟨vIsOff, e_aIsOff⟩ := hS 21 (by decide)
  obtain ⟨vAlone, e_aAlone⟩ := hS 22 (by decide)
  obtain ⟨vKept, e_aKept⟩ := hS 23 (by decide)
  have m_aWorlds := (hB 1 (by decide) (by decide)).1
  have r_aWorlds := (hB 1 (by decide) (by decide)).2
  have m_aInWorld := (hB 2 (by decide) (by decide)).1
  have r_aInWorld := (hB 2 (by decide) (by decide)).2
  have m_aKind := (hB 3 (by decide) (by decide)).1
  have r_aKind := (hB 3 (by decide) (by decide)).2
  have m_aSize := (hB 4 (by decide) (by decide)).1
  have r_aSize := (hB 4 (by decide) (by decide)).2
  have m_aMarks := (hB 5 (by decide) (by decide)).1
  have r_aMarks := (hB 5 (by decide) (by decide)).2
  have m_aSeed := (hB 6 (by decide) (by decide)).1
  have r_aSeed := (hB 6 (by decide) (by decide)).2
  have m_aContents := (hB 7 (by decide) (by decide)).1
  have r_aContents := (hB 7 (by decide) (by decide)).2
  have m_aContentMany := (hB 8 (by decide) (by decide)).1
  have r_aContentMany := (hB 8 (by decide) (by decide)).2
  have m_aRow := (hB 9 (by decide) (by decide)).1
  have r_aRow := (hB 9 (by decide) (by decide)).2
  have m_aBits := (hB 10 (by decide) (by decide)).1
  have r_aBits := (hB 10 (by decide) (by decide)).2
  have m_aLayerSize := (hB 11 (by decide) (by decide)).1
  have r_aLayerSize := (hB 11 (by decide) (by decide)).2
  have m_aLayerCame := (hB 12 (by decide) (by decide)).1
  have r_aLayerCame := (hB 12 (by decide) (by decide)).2
  have m_aRest := (hB 13 (by decide) (by decide)).1
  have r_aRest := (hB 13 (by decide) (by decide)).2
  have m_aRestMany := (hB 14 (by decide) (by decide)).1
  have r_aRestMany := (hB 14 (by decide) (by decide)).2
  have m_aCome := (hB 16 (by decide) (by decide)).1
  have r_aCome := (hB 16 (by decide) (by decide)).2
  have m_aRivals := (hB 17 (by decide) (by decide)).1
  have r_aRivals := (hB 17 (by decide) (by decide)).2
  have m_aGone := (hB 18 (by decide) (by decide)).1
  have r_aGone := (hB 18 (by decide) (by decide)).2
  have m_aOrder := (hB 19 (by decide) (by decide)).1
  have r_aOrder := (hB 19 (by decide) (by decide)).2
  have m_aOffAt := (hB 20 (by decide) (by decide)).1
  have r_aOffAt := (hB 20 (by decide) (by decide)).2
  have m_aIsOff := (hB 21 (by decide) (by decide)).1
  have r_aIsOff := (hB 21 (by decide) (by decide)).2
  have m_aAlone := (hB 22 (by decide) (by decide)).1
  have r_aAlone := (hB 22 (by decide) (by decide)).2
  have m_aKept := (hB 23 (by decide) (by decide)).1
  have r_aKept := (hB 23 (by decide) (by decide)).2
  have m_y := (hB 0 (by decide) (by decide)).1
  have r_y := (hB 0 (by decide) (by decide)).2
  obtain ⟨z, hz, hq⟩ : OK (mX9_layered many vW vIW vKind vSize vMarks vSeed vContents vContentMany vRow vBits vLayerSize vLayerCame vRest vRestMany vCome vRivals vGone wi wa by_) _ := rlayered_ok hI _ _ _ _ _ _ _ _ _ _ _ _ _
  refine cI_up (k_X9_layered l D g m_y e_y m_aWorlds e_aWorlds m_aInWorld e_aInWorld m_aKind e_aKind m_aSize e_aSize m_aMarks e_aMarks m_aSeed e_aSeed m_aContents e_aContents m_aContentMany e_aContentMany m_aRow e_aRow m_aBits e_aBits m_aLayerSize e_aLayerSize m_aLayerCame e_aLayerCame m_aRest e_aRest m_aRestMany e_aRestMany m_aCome e_aCome m_aRivals e_aRivals m_aGone e_aGone m_aOrder e_aOrder m_aOffAt e_aOffAt m_aIsOff e_aIsOff m_aAlone e_aAlone m_aKept e_aKept r_aKind r_aSize r_aMarks r_aSeed r_aContents r_aContentMany r_aLayerSize r_aLayerCame r_aRest r_aRestMany r_aCome r_aRivals r_aGone hz) (by decide) (by decide) (by decide) (by decide) (by decide) (by decide) (fun x L1 f1 P => ?_)
  obtain ⟨-, eL, fv, E_y, E_aKind, E_aSize, E_aMarks, E_aSeed, E_aContents, E_aContentMany, E_aRow, E_aBits, E_aLayerSize, E_aLayerCame, E_aRest, E_aRestMany, E_aCome, E_aRivals, E_aGone⟩ := P
  subst eL
  have FT : ∀ b, b ∈ L1 → ¬ TR [0, 3, 4, 5, 6, 7, 8, 9, 10, 11, 12, 13, 14, 16, 17, 18] (ρ b) → f1 b = f b := fun b hb ht => fv b hb (ne_T (tr_y r_y (by decide)) ht) (ne_T (tr_y r_aKind (by decide)) ht) (ne_T (tr_y r_aSize (by decide)) ht) (ne_T (tr_y r_aMarks (by decide)) ht) (ne_T (tr_y r_aSeed (by decide)) ht) (ne_T (tr_y r_aContents (by decide)) ht) (ne_T (tr_y r_aContentMany (by decide)) ht) (ne_T (tr_y r_aRow (by decide)) ht) (ne_T (tr_y r_aBits (by decide)) ht) (ne_T (tr_y r_aLayerSize (by decide)) ht) (ne_T (tr_y r_aLayerCame (by decide)) ht) (ne_T (tr_y r_aRest (by decide)) ht) (ne_T (tr_y r_aRestMany (by decide)) ht) (ne_T (tr_y r_aCome (by decide)) ht) (ne_T (tr_y r_aRivals (by decide)) ht) (ne_T (tr_y r_aGone (by decide)) ht)
  refine CR_up (vW := vW) (vIW := vIW) [0, 3, 4, 5, 6, 7, 8, 9, 10, 11, 12, 13, 14, 16, 17, 18] hB hS FT E_y ((FT _ m_aWorlds (tr_n r_aWorlds (by decide))).trans e_aWorlds) ((FT _ m_aInWorld (tr_n r_aInWorld (by decide))).trans e_aInWorld) E_aKind E_aSize E_aMarks E_aContentMany E_aLayerSize E_aRestMany ?_ hq ⟨rfl, rfl⟩
  intro k hk hK
  have hc : k = 6 ∨ k = 7 ∨ k = 9 ∨ k = 10 ∨ k = 12 ∨ k = 13 ∨ k = 16 ∨ k = 17 ∨ k = 18 := by
    have hh : ∀ q, q ∈ [6, 7, 9, 10, 12, 13, 16, 17, 18, 19, 20, 21, 22, 23] → q ∈ [0, 3, 4, 5, 6, 7, 8, 9, 10, 11, 12, 13, 14, 16, 17, 18] → q = 6 ∨ q = 7 ∨ q = 9 ∨ q = 10 ∨ q = 12 ∨ q = 13 ∨ q = 16 ∨ q = 17 ∨ q = 18 := by decide
    exact hh k hk hK
  rcases hc with rfl | rfl | rfl | rfl | rfl | rfl | rfl | rfl | rfl
  · exact ⟨_, E_aSeed⟩
  · exact ⟨_, E_aContents⟩
  · exact ⟨_, E_aRow⟩
  · exact ⟨_, E_aBits⟩
  · exact ⟨_, E_aLayerCame⟩
  · exact ⟨_, E_aRest⟩
  · exact ⟨_, E_aCome⟩
  · exact ⟨_, E_aRivals⟩
  · exact ⟨_, E_aGone⟩
set_option maxHeartbeats 1000000 in
theorem rc_put (l : Launch) (D : va_G) {ρ : Nat → Nat × Nat} {g : Nat → ClassId} {L : List Nat} {f : Nat → va_E} {y : Nat} {vW : Nat → Int64} {vIW : Nat → Int32} (C : CfR ρ g L f y vW vIW) (sq : Int32) (t : Int64) : cI l yX9_put wsX9_put (RmC 0 0) D g [.ref y, .int sq, .long t] L f 0 0 (fun x L1 f1 => ResR ρ g L f y (Sme vW vIW) L1 f1) := by
  have CC := C
  obtain ⟨B, many, vKind, vSize, vMarks, vContentMany, vRestMany, vLayerSize, rfl, hB, ⟨e_y, e_aWorlds, e_aInWorld, e_aKind, e_aSize, e_aMarks, e_aContentMany, e_aLayerSize, e_aRestMany, hS⟩, hI⟩ := C
  obtain ⟨vSeed, e_aSeed⟩ := hS 6 (by decide)
  obtain ⟨vContents, e_aContents⟩ := hS 7 (by decide)
  obtain ⟨vRow, e_aRow⟩ := hS 9 (by decide)
  obtain ⟨vBits, e_aBits⟩ := hS 10 (by decide)
  obtain ⟨vLayerCame, e_aLayerCame⟩ := hS 12 (by decide)
  obtain ⟨vRest, e_aRest⟩ := hS 13 (by decide)
  obtain ⟨vCome, e_aCome⟩ := hS 16 (by decide)
  obtain ⟨vRivals, e_aRivals⟩ := hS 17 (by decide)
  obtain ⟨vGone, e_aGone⟩ := hS 18 (by decide)
  obtain ⟨vOrder, e_aOrder⟩ := hS 19 (by decide)
  obtain ⟨vOffAt, e_aOffAt⟩ := hS 20 (by decide)
  obtain ⟨vIsOff, e_aIsOff⟩ := hS 21 (by decide)
  obtain ⟨vAlone, e_aAlone⟩ := hS 22 (by decide)
  obtain ⟨vKept, e_aKept⟩ := hS 23 (by decide)
  have m_aWorlds := (hB 1 (by decide) (by decide)).1
  have r_aWorlds := (hB 1 (by decide) (by decide)).2
  have m_aInWorld := (hB 2 (by decide) (by decide)).1
  have r_aInWorld := (hB 2 (by decide) (by decide)).2
  have m_aKind := (hB 3 (by decide) (by decide)).1
  have r_aKind := (hB 3 (by decide) (by decide)).2
  have m_aSize := (hB 4 (by decide) (by decide)).1
  have r_aSize := (hB 4 (by decide) (by decide)).2
  have m_aMarks := (hB 5 (by decide) (by decide)).1
  have r_aMarks := (hB 5 (by decide) (by decide)).2
  have m_aSeed := (hB 6 (by decide) (by decide)).1
  have r_aSeed := (hB 6 (by decide) (by decide)).2
  have m_aContents := (hB 7 (by decide) (by decide)).1
  have r_aContents := (hB 7 (by decide) (by decide)).2
  have m_aContentMany := (hB 8 (by decide) (by decide)).1
  have r_aContentMany := (hB 8 (by decide) (by decide)).2
  have m_aRow := (hB 9 (by decide) (by decide)).1
  have r_aRow := (hB 9 (by decide) (by decide)).2
  have m_aBits := (hB 10 (by decide) (by decide)).1
  have r_aBits := (hB 10 (by decide) (by decide)).2
  have m_aLayerSize := (hB 11 (by decide) (by decide)).1
  have r_aLayerSize := (hB 11 (by decide) (by decide)).2
  have m_aLayerCame := (hB 12 (by decide) (by decide)).1
  have r_aLayerCame := (hB 12 (by decide) (by decide)).2
  have m_aRest := (hB 13 (by decide) (by decide)).1
  have r_aRest := (hB 13 (by decide) (by decide)).2
  have m_aRestMany := (hB 14 (by decide) (by decide)).1
  have r_aRestMany := (hB 14 (by decide) (by decide)).2
  have m_aCome := (hB 16 (by decide) (by decide)).1
  have r_aCome := (hB 16 (by decide) (by decide)).2
  have m_aRivals := (hB 17 (by decide) (by decide)).1
  have r_aRivals := (hB 17 (by decide) (by decide)).2
  have m_aGone := (hB 18 (by decide) (by decide)).1
  have r_aGone := (hB 18 (by decide) (by decide)).2
  have m_aOrder := (hB 19 (by decide) (by decide)).1
  have r_aOrder := (hB 19 (by decide) (by decide)).2
  have m_aOffAt := (hB 20 (by decide) (by decide)).1
  have r_aOffAt := (hB 20 (by decide) (by decide)).2
  have m_aIsOff := (hB 21 (by decide) (by decide)).1
  have r_aIsOff := (hB 21 (by decide) (by decide)).2
  have m_aAlone := (hB 22 (by decide) (by decide)).1
  have r_aAlone := (hB 22 (by decide) (by decide)).2
  have m_aKept := (hB 23 (by decide) (by decide)).1
  have r_aKept := (hB 23 (by decide) (by decide)).2
  have m_y := (hB 0 (by decide) (by decide)).1
  have r_y := (hB 0 (by decide) (by decide)).2
  obtain ⟨z, hz, hq⟩ : OK (mX9_put many vKind vSize vMarks vSeed vContents vContentMany vRow vKept sq t) _ := rput_ok hI _ _ _ _ _ _
  refine cI_up (k_X9_put l D g m_y e_y m_aWorlds e_aWorlds m_aInWorld e_aInWorld m_aKind e_aKind m_aSize e_aSize m_aMarks e_aMarks m_aSeed e_aSeed m_aContents e_aContents m_aContentMany e_aContentMany m_aRow e_aRow m_aBits e_aBits m_aLayerSize e_aLayerSize m_aLayerCame e_aLayerCame m_aRest e_aRest m_aRestMany e_aRestMany m_aCome e_aCome m_aRivals e_aRivals m_aGone e_aGone m_aOrder e_aOrder m_aOffAt e_aOffAt m_aIsOff e_aIsOff m_aAlone e_aAlone m_aKept e_aKept r_aAlone r_aKept hz) (by decide) (by decide) (by decide) (by decide) (by decide) (by decide) (fun x L1 f1 P => ?_)
  obtain ⟨-, eL, fv, E_aContents, E_aContentMany, E_aRow, E_aKept⟩ := P
  subst eL
  have FT : ∀ b, b ∈ L1 → ¬ TR [7, 8, 9, 23] (ρ b) → f1 b = f b := fun b hb ht => fv b hb (ne_T (tr_y r_aContents (by decide)) ht) (ne_T (tr_y r_aContentMany (by decide)) ht) (ne_T (tr_y r_aRow (by decide)) ht) (ne_T (tr_y r_aKept (by decide)) ht)
  refine CR_up (vW := vW) (vIW := vIW) [7, 8, 9, 23] hB hS FT ((FT _ m_y (tr_n r_y (by decide))).trans e_y) ((FT _ m_aWorlds (tr_n r_aWorlds (by decide))).trans e_aWorlds) ((FT _ m_aInWorld (tr_n r_aInWorld (by decide))).trans e_aInWorld) ((FT _ m_aKind (tr_n r_aKind (by decide))).trans e_aKind) ((FT _ m_aSize (tr_n r_aSize (by decide))).trans e_aSize) ((FT _ m_aMarks (tr_n r_aMarks (by decide))).trans e_aMarks) E_aContentMany ((FT _ m_aLayerSize (tr_n r_aLayerSize (by decide))).trans e_aLayerSize) ((FT _ m_aRestMany (tr_n r_aRestMany (by decide))).trans e_aRestMany) ?_ hq ⟨rfl, rfl⟩
  intro k hk hK
  have hc : k = 7 ∨ k = 9 ∨ k = 23 := by
    have hh : ∀ q, q ∈ [6, 7, 9, 10, 12, 13, 16, 17, 18, 19, 20, 21, 22, 23] → q ∈ [7, 8, 9, 23] → q = 7 ∨ q = 9 ∨ q = 23 := by decide
    exact hh k hk hK
  rcases hc with rfl | rfl | rfl
  · exact ⟨_, E_aContents⟩
  · exact ⟨_, E_aRow⟩
  · exact ⟨_, E_aKept⟩
set_option maxHeartbeats 1000000 in
theorem rc_putAll (l : Launch) (D : va_G) {ρ : Nat → Nat × Nat} {g : Nat → ClassId} {L : List Nat} {f : Nat → va_E} {y : Nat} {vW : Nat → Int64} {vIW : Nat → Int32} (C : CfR ρ g L f y vW vIW) (sq : Int32) (wi : Int32) : cI l yX9_putAll wsX9_putAll (RmC 0 0) D g [.ref y, .int sq, .int wi] L f 0 0 (fun x L1 f1 => ResR ρ g L f y (Sme vW vIW) L1 f1) := by
  have CC := C
  obtain ⟨B, many, vKind, vSize, vMarks, vContentMany, vRestMany, vLayerSize, rfl, hB, ⟨e_y, e_aWorlds, e_aInWorld, e_aKind, e_aSize, e_aMarks, e_aContentMany, e_aLayerSize, e_aRestMany, hS⟩, hI⟩ := C
  obtain ⟨vSeed, e_aSeed⟩ := hS 6 (by decide)
  obtain ⟨vContents, e_aContents⟩ := hS 7 (by decide)
  obtain ⟨vRow, e_aRow⟩ := hS 9 (by decide)
  obtain ⟨vBits, e_aBits⟩ := hS 10 (by decide)
  obtain ⟨vLayerCame, e_aLayerCame⟩ := hS 12 (by decide)
  obtain ⟨vRest, e_aRest⟩ := hS 13 (by decide)
  obtain ⟨vCome, e_aCome⟩ := hS 16 (by decide)
  obtain ⟨vRivals, e_aRivals⟩ := hS 17 (by decide)
  obtain ⟨vGone, e_aGone⟩ := hS 18 (by decide)
  obtain ⟨vOrder, e_aOrder⟩ := hS 19 (by decide)
  obtain ⟨vOffAt, e_aOffAt⟩ := hS 20 (by decide)
  obtain ⟨vIsOff, e_aIsOff⟩ := hS 21 (by decide)
  obtain ⟨vAlone, e_aAlone⟩ := hS 22 (by decide)
  obtain ⟨vKept, e_aKept⟩ := hS 23 (by decide)
  have m_aWorlds := (hB 1 (by decide) (by decide)).1
  have r_aWorlds := (hB 1 (by decide) (by decide)).2
  have m_aInWorld := (hB 2 (by decide) (by decide)).1
  have r_aInWorld := (hB 2 (by decide) (by decide)).2
  have m_aKind := (hB 3 (by decide) (by decide)).1
  have r_aKind := (hB 3 (by decide) (by decide)).2
  have m_aSize := (hB 4 (by decide) (by decide)).1
  have r_aSize := (hB 4 (by decide) (by decide)).2
  have m_aMarks := (hB 5 (by decide) (by decide)).1
  have r_aMarks := (hB 5 (by decide) (by decide)).2
  have m_aSeed := (hB 6 (by decide) (by decide)).1
  have r_aSeed := (hB 6 (by decide) (by decide)).2
  have m_aContents := (hB 7 (by decide) (by decide)).1
  have r_aContents := (hB 7 (by decide) (by decide)).2
  have m_aContentMany := (hB 8 (by decide) (by decide)).1
  have r_aContentMany := (hB 8 (by decide) (by decide)).2
  have m_aRow := (hB 9 (by decide) (by decide)).1
  have r_aRow := (hB 9 (by decide) (by decide)).2
  have m_aBits := (hB 10 (by decide) (by decide)).1
  have r_aBits := (hB 10 (by decide) (by decide)).2
  have m_aLayerSize := (hB 11 (by decide) (by decide)).1
  have r_aLayerSize := (hB 11 (by decide) (by decide)).2
  have m_aLayerCame := (hB 12 (by decide) (by decide)).1
  have r_aLayerCame := (hB 12 (by decide) (by decide)).2
  have m_aRest := (hB 13 (by decide) (by decide)).1
  have r_aRest := (hB 13 (by decide) (by decide)).2
  have m_aRestMany := (hB 14 (by decide) (by decide)).1
  have r_aRestMany := (hB 14 (by decide) (by decide)).2
  have m_aCome := (hB 16 (by decide) (by decide)).1
  have r_aCome := (hB 16 (by decide) (by decide)).2
  have m_aRivals := (hB 17 (by decide) (by decide)).1
  have r_aRivals := (hB 17 (by decide) (by decide)).2
  have m_aGone := (hB 18 (by decide) (by decide)).1
  have r_aGone := (hB 18 (by decide) (by decide)).2
  have m_aOrder := (hB 19 (by decide) (by decide)).1
  have r_aOrder := (hB 19 (by decide) (by decide)).2
  have m_aOffAt := (hB 20 (by decide) (by decide)).1
  have r_aOffAt := (hB 20 (by decide) (by decide)).2
  have m_aIsOff := (hB 21 (by decide) (by decide)).1
  have r_aIsOff := (hB 21 (by decide) (by decide)).2
  have m_aAlone := (hB 22 (by decide) (by decide)).1
  have r_aAlone := (hB 22 (by decide) (by decide)).2
  have m_aKept := (hB 23 (by decide) (by decide)).1
  have r_aKept := (hB 23 (by decide) (by decide)).2
  have m_y := (hB 0 (by decide) (by decide)).1
  have r_y := (hB 0 (by decide) (by decide)).2
  obtain ⟨z, hz, hq⟩ : OK (mX9_putAll many vW vIW vKind vSize vMarks vSeed vContents vContentMany vRow vKept sq wi) _ := rputAll_ok hI _ _ _ _ _ _ _
  refine cI_up (k_X9_putAll l D g m_y e_y m_aWorlds e_aWorlds m_aInWorld e_aInWorld m_aKind e_aKind m_aSize e_aSize m_aMarks e_aMarks m_aSeed e_aSeed m_aContents e_aContents m_aContentMany e_aContentMany m_aRow e_aRow m_aBits e_aBits m_aLayerSize e_aLayerSize m_aLayerCame e_aLayerCame m_aRest e_aRest m_aRestMany e_aRestMany m_aCome e_aCome m_aRivals e_aRivals m_aGone e_aGone m_aOrder e_aOrder m_aOffAt e_aOffAt m_aIsOff e_aIsOff m_aAlone e_aAlone m_aKept e_aKept r_aKind r_aSize r_aMarks r_aSeed r_aContents r_aContentMany r_aRest r_aRestMany r_aAlone r_aKept hz) (by decide) (by decide) (by decide) (by decide) (by decide) (by decide) (fun x L1 f1 P => ?_)
  obtain ⟨-, eL, fv, E_aContents, E_aContentMany, E_aRow, E_aKept⟩ := P
  subst eL
  have FT : ∀ b, b ∈ L1 → ¬ TR [7, 8, 9, 23] (ρ b) → f1 b = f b := fun b hb ht => fv b hb (ne_T (tr_y r_aContents (by decide)) ht) (ne_T (tr_y r_aContentMany (by decide)) ht) (ne_T (tr_y r_aRow (by decide)) ht) (ne_T (tr_y r_aKept (by decide)) ht)
  refine CR_up (vW := vW) (vIW := vIW) [7, 8, 9, 23] hB hS FT ((FT _ m_y (tr_n r_y (by decide))).trans e_y) ((FT _ m_aWorlds (tr_n r_aWorlds (by decide))).trans e_aWorlds) ((FT _ m_aInWorld (tr_n r_aInWorld (by decide))).trans e_aInWorld) ((FT _ m_aKind (tr_n r_aKind (by decide))).trans e_aKind) ((FT _ m_aSize (tr_n r_aSize (by decide))).trans e_aSize) ((FT _ m_aMarks (tr_n r_aMarks (by decide))).trans e_aMarks) E_aContentMany ((FT _ m_aLayerSize (tr_n r_aLayerSize (by decide))).trans e_aLayerSize) ((FT _ m_aRestMany (tr_n r_aRestMany (by decide))).trans e_aRestMany) ?_ hq ⟨rfl, rfl⟩
  intro k hk hK
  have hc : k = 7 ∨ k = 9 ∨ k = 23 := by
    have hh : ∀ q, q ∈ [6, 7, 9, 10, 12, 13, 16, 17, 18, 19, 20, 21, 22, 23] → q ∈ [7, 8, 9, 23] → q = 7 ∨ q = 9 ∨ q = 23 := by decide
    exact hh k hk hK
  rcases hc with rfl | rfl | rfl
  · exact ⟨_, E_aContents⟩
  · exact ⟨_, E_aRow⟩
  · exact ⟨_, E_aKept⟩
set_option maxHeartbeats 1000000 in
theorem rc_drop (l : Launch) (D : va_G) {ρ : Nat → Nat × Nat} {g : Nat → ClassId} {L : List Nat} {f : Nat → va_E} {y : Nat} {vW : Nat → Int64} {vIW : Nat → Int32} (C : CfR ρ g L f y vW vIW) (sq : Int32) (t : Int64) : cI l yX9_drop wsX9_drop (RmC 0 0) D g [.ref y, .int sq, .long t] L f 0 0 (fun x L1 f1 => ResR ρ g L f y (Sme vW vIW) L1 f1) := by
  have CC := C
  obtain ⟨B, many, vKind, vSize, vMarks, vContentMany, vRestMany, vLayerSize, rfl, hB, ⟨e_y, e_aWorlds, e_aInWorld, e_aKind, e_aSize, e_aMarks, e_aContentMany, e_aLayerSize, e_aRestMany, hS⟩, hI⟩ := C
  obtain ⟨vSeed, e_aSeed⟩ := hS 6 (by decide)
  obtain ⟨vContents, e_aContents⟩ := hS 7 (by decide)
  obtain ⟨vRow, e_aRow⟩ := hS 9 (by decide)
  obtain ⟨vBits, e_aBits⟩ := hS 10 (by decide)
  obtain ⟨vLayerCame, e_aLayerCame⟩ := hS 12 (by decide)
  obtain ⟨vRest, e_aRest⟩ := hS 13 (by decide)
  obtain ⟨vCome, e_aCome⟩ := hS 16 (by decide)
  obtain ⟨vRivals, e_aRivals⟩ := hS 17 (by decide)
  obtain ⟨vGone, e_aGone⟩ := hS 18 (by decide)
  obtain ⟨vOrder, e_aOrder⟩ := hS 19 (by decide)
  obtain ⟨vOffAt, e_aOffAt⟩ := hS 20 (by decide)
  obtain ⟨vIsOff, e_aIsOff⟩ := hS 21 (by decide)
  obtain ⟨vAlone, e_aAlone⟩ := hS 22 (by decide)
  obtain ⟨vKept, e_aKept⟩ := hS 23 (by decide)
  have m_aWorlds := (hB 1 (by decide) (by decide)).1
  have r_aWorlds := (hB 1 (by decide) (by decide)).2
  have m_aInWorld := (hB 2 (by decide) (by decide)).1
  have r_aInWorld := (hB 2 (by decide) (by decide)).2
  have m_aKind := (hB 3 (by decide) (by decide)).1
  have r_aKind := (hB 3 (by decide) (by decide)).2
  have m_aSize := (hB 4 (by decide) (by decide)).1
  have r_aSize := (hB 4 (by decide) (by decide)).2
  have m_aMarks := (hB 5 (by decide) (by decide)).1
  have r_aMarks := (hB 5 (by decide) (by decide)).2
  have m_aSeed := (hB 6 (by decide) (by decide)).1
  have r_aSeed := (hB 6 (by decide) (by decide)).2
  have m_aContents := (hB 7 (by decide) (by decide)).1
  have r_aContents := (hB 7 (by decide) (by decide)).2
  have m_aContentMany := (hB 8 (by decide) (by decide)).1
  have r_aContentMany := (hB 8 (by decide) (by decide)).2
  have m_aRow := (hB 9 (by decide) (by decide)).1
  have r_aRow := (hB 9 (by decide) (by decide)).2
  have m_aBits := (hB 10 (by decide) (by decide)).1
  have r_aBits := (hB 10 (by decide) (by decide)).2
  have m_aLayerSize := (hB 11 (by decide) (by decide)).1
  have r_aLayerSize := (hB 11 (by decide) (by decide)).2
  have m_aLayerCame := (hB 12 (by decide) (by decide)).1
  have r_aLayerCame := (hB 12 (by decide) (by decide)).2
  have m_aRest := (hB 13 (by decide) (by decide)).1
  have r_aRest := (hB 13 (by decide) (by decide)).2
  have m_aRestMany := (hB 14 (by decide) (by decide)).1
  have r_aRestMany := (hB 14 (by decide) (by decide)).2
  have m_aCome := (hB 16 (by decide) (by decide)).1
  have r_aCome := (hB 16 (by decide) (by decide)).2
  have m_aRivals := (hB 17 (by decide) (by decide)).1
  have r_aRivals := (hB 17 (by decide) (by decide)).2
  have m_aGone := (hB 18 (by decide) (by decide)).1
  have r_aGone := (hB 18 (by decide) (by decide)).2
  have m_aOrder := (hB 19 (by decide) (by decide)).1
  have r_aOrder := (hB 19 (by decide) (by decide)).2
  have m_aOffAt := (hB 20 (by decide) (by decide)).1
  have r_aOffAt := (hB 20 (by decide) (by decide)).2
  have m_aIsOff := (hB 21 (by decide) (by decide)).1
  have r_aIsOff := (hB 21 (by decide) (by decide)).2
  have m_aAlone := (hB 22 (by decide) (by decide)).1
  have r_aAlone := (hB 22 (by decide) (by decide)).2
  have m_aKept := (hB 23 (by decide) (by decide)).1
  have r_aKept := (hB 23 (by decide) (by decide)).2
  have m_y := (hB 0 (by decide) (by decide)).1
  have r_y := (hB 0 (by decide) (by decide)).2
  obtain ⟨z, hz, hq⟩ : OK (mX9_drop many vKind vSize vMarks vSeed vContents vContentMany vRow vBits vLayerSize vRest vRestMany sq t) _ := rdrop_ok hI _ _ _ _ _ _ _
  refine cI_up (k_X9_drop l D g m_y e_y m_aWorlds e_aWorlds m_aInWorld e_aInWorld m_aKind e_aKind m_aSize e_aSize m_aMarks e_aMarks m_aSeed e_aSeed m_aContents e_aContents m_aContentMany e_aContentMany m_aRow e_aRow m_aBits e_aBits m_aLayerSize e_aLayerSize m_aLayerCame e_aLayerCame m_aRest e_aRest m_aRestMany e_aRestMany m_aCome e_aCome m_aRivals e_aRivals m_aGone e_aGone m_aOrder e_aOrder m_aOffAt e_aOffAt m_aIsOff e_aIsOff m_aAlone e_aAlone m_aKept e_aKept hz) (by decide) (by decide) (by decide) (by decide) (by decide) (by decide) (fun x L1 f1 P => ?_)
  obtain ⟨-, eL, fv, E_aContents, E_aContentMany, E_aRow⟩ := P
  subst eL
  have FT : ∀ b, b ∈ L1 → ¬ TR [7, 8, 9] (ρ b) → f1 b = f b := fun b hb ht => fv b hb (ne_T (tr_y r_aContents (by decide)) ht) (ne_T (tr_y r_aContentMany (by decide)) ht) (ne_T (tr_y r_aRow (by decide)) ht)
  refine CR_up (vW := vW) (vIW := vIW) [7, 8, 9] hB hS FT ((FT _ m_y (tr_n r_y (by decide))).trans e_y) ((FT _ m_aWorlds (tr_n r_aWorlds (by decide))).trans e_aWorlds) ((FT _ m_aInWorld (tr_n r_aInWorld (by decide))).trans e_aInWorld) ((FT _ m_aKind (tr_n r_aKind (by decide))).trans e_aKind) ((FT _ m_aSize (tr_n r_aSize (by decide))).trans e_aSize) ((FT _ m_aMarks (tr_n r_aMarks (by decide))).trans e_aMarks) E_aContentMany ((FT _ m_aLayerSize (tr_n r_aLayerSize (by decide))).trans e_aLayerSize) ((FT _ m_aRestMany (tr_n r_aRestMany (by decide))).trans e_aRestMany) ?_ hq ⟨rfl, rfl⟩
  intro k hk hK
  have hc : k = 7 ∨ k = 9 := by
    have hh : ∀ q, q ∈ [6, 7, 9, 10, 12, 13, 16, 17, 18, 19, 20, 21, 22, 23] → q ∈ [7, 8, 9] → q = 7 ∨ q = 9 := by decide
    exact hh k hk hK
  rcases hc with rfl | rfl
  · exact ⟨_, E_aContents⟩
  · exact ⟨_, E_aRow⟩
set_option maxHeartbeats 1000000 in
theorem rc_lets (l : Launch) (D : va_G) {ρ : Nat → Nat × Nat} {g : Nat → ClassId} {L : List Nat} {f : Nat → va_E} {y : Nat} {vW : Nat → Int64} {vIW : Nat → Int32} (C : CfR ρ g L f y vW vIW) (sq : Int32) (t : Int64) : cI l yX9_lets wsX9_lets (RmC 0 0) D g [.ref y, .int sq, .long t] L f 0 0 (fun x L1 f1 => ResR ρ g L f y (Sme vW vIW) L1 f1) := by
  have CC := C
  obtain ⟨B, many, vKind, vSize, vMarks, vContentMany, vRestMany, vLayerSize, rfl, hB, ⟨e_y, e_aWorlds, e_aInWorld, e_aKind, e_aSize, e_aMarks, e_aContentMany, e_aLayerSize, e_aRestMany, hS⟩, hI⟩ := C
  obtain ⟨vSeed, e_aSeed⟩ := hS 6 (by decide)
  obtain ⟨vContents, e_aContents⟩ := hS 7 (by decide)
  obtain ⟨vRow, e_aRow⟩ := hS 9 (by decide)
  obtain ⟨vBits, e_aBits⟩ := hS 10 (by decide)
  obtain ⟨vLayerCame, e_aLayerCame⟩ := hS 12 (by decide)
  obtain ⟨vRest, e_aRest⟩ := hS 13 (by decide)
  obtain ⟨vCome, e_aCome⟩ := hS 16 (by decide)
  obtain ⟨vRivals, e_aRivals⟩ := hS 17 (by decide)
  obtain ⟨vGone, e_aGone⟩ := hS 18 (by decide)
  obtain ⟨vOrder, e_aOrder⟩ := hS 19 (by decide)
  obtain ⟨vOffAt, e_aOffAt⟩ := hS 20 (by decide)
  obtain ⟨vIsOff, e_aIsOff⟩ := hS 21 (by decide)
  obtain ⟨vAlone, e_aAlone⟩ := hS 22 (by decide)
  obtain ⟨vKept, e_aKept⟩ := hS 23 (by decide)
  have m_aWorlds := (hB 1 (by decide) (by decide)).1
  have r_aWorlds := (hB 1 (by decide) (by decide)).2
  have m_aInWorld := (hB 2 (by decide) (by decide)).1
  have r_aInWorld := (hB 2 (by decide) (by decide)).2
  have m_aKind := (hB 3 (by decide) (by decide)).1
  have r_aKind := (hB 3 (by decide) (by decide)).2
  have m_aSize := (hB 4 (by decide) (by decide)).1
  have r_aSize := (hB 4 (by decide) (by decide)).2
  have m_aMarks := (hB 5 (by decide) (by decide)).1
  have r_aMarks := (hB 5 (by decide) (by decide)).2
  have m_aSeed := (hB 6 (by decide) (by decide)).1
  have r_aSeed := (hB 6 (by decide) (by decide)).2
  have m_aContents := (hB 7 (by decide) (by decide)).1
  have r_aContents := (hB 7 (by decide) (by decide)).2
  have m_aContentMany := (hB 8 (by decide) (by decide)).1
  have r_aContentMany := (hB 8 (by decide) (by decide)).2
  have m_aRow := (hB 9 (by decide) (by decide)).1
  have r_aRow := (hB 9 (by decide) (by decide)).2
  have m_aBits := (hB 10 (by decide) (by decide)).1
  have r_aBits := (hB 10 (by decide) (by decide)).2
  have m_aLayerSize := (hB 11 (by decide) (by decide)).1
  have r_aLayerSize := (hB 11 (by decide) (by decide)).2
  have m_aLayerCame := (hB 12 (by decide) (by decide)).1
  have r_aLayerCame := (hB 12 (by decide) (by decide)).2
  have m_aRest := (hB 13 (by decide) (by decide)).1
  have r_aRest := (hB 13 (by decide) (by decide)).2
  have m_aRestMany := (hB 14 (by decide) (by decide)).1
  have r_aRestMany := (hB 14 (by decide) (by decide)).2
  have m_aCome := (hB 16 (by decide) (by decide)).1
  have r_aCome := (hB 16 (by decide) (by decide)).2
  have m_aRivals := (hB 17 (by decide) (by decide)).1
  have r_aRivals := (hB 17 (by decide) (by decide)).2
  have m_aGone := (hB 18 (by decide) (by decide)).1
  have r_aGone := (hB 18 (by decide) (by decide)).2
  have m_aOrder := (hB 19 (by decide) (by decide)).1
  have r_aOrder := (hB 19 (by decide) (by decide)).2
  have m_aOffAt := (hB 20 (by decide) (by decide)).1
  have r_aOffAt := (hB 20 (by decide) (by decide)).2
  have m_aIsOff := (hB 21 (by decide) (by decide)).1
  have r_aIsOff := (hB 21 (by decide) (by decide)).2
  have m_aAlone := (hB 22 (by decide) (by decide)).1
  have r_aAlone := (hB 22 (by decide) (by decide)).2
  have m_aKept := (hB 23 (by decide) (by decide)).1
  have r_aKept := (hB 23 (by decide) (by decide)).2
  have m_y := (hB 0 (by decide) (by decide)).1
  have r_y := (hB 0 (by decide) (by decide)).2
  obtain ⟨z, hz, hq⟩ : OK (mX9_lets many vKind vSize vMarks vSeed vRow vBits vLayerSize vRest vRestMany sq t) _ := rlets_ok hI _ _ _ _ _ _
  refine cI_up (k_X9_lets l D g m_y e_y m_aKind e_aKind m_aSize e_aSize m_aMarks e_aMarks m_aSeed e_aSeed m_aRow e_aRow m_aBits e_aBits m_aLayerSize e_aLayerSize m_aRest e_aRest m_aRestMany e_aRestMany hz) (by decide) (by decide) (by decide) (by decide) (by decide) (by decide) (fun x L1 f1 P => ?_)
  obtain ⟨-, eL, ef⟩ := P
  subst eL ef
  exact ResR_same CC
set_option maxHeartbeats 1000000 in
theorem rc_falses (l : Launch) (D : va_G) {ρ : Nat → Nat × Nat} {g : Nat → ClassId} {L : List Nat} {f : Nat → va_E} {y : Nat} {vW : Nat → Int64} {vIW : Nat → Int32} (C : CfR ρ g L f y vW vIW) (sq : Int32) (wi : Int32) : cI l yX9_falses wsX9_falses (RmC 0 0) D g [.ref y, .int sq, .int wi] L f 0 0 (fun x L1 f1 => ResR ρ g L f y (Sme vW vIW) L1 f1) := by
  have CC := C
  obtain ⟨B, many, vKind, vSize, vMarks, vContentMany, vRestMany, vLayerSize, rfl, hB, ⟨e_y, e_aWorlds, e_aInWorld, e_aKind, e_aSize, e_aMarks, e_aContentMany, e_aLayerSize, e_aRestMany, hS⟩, hI⟩ := C
  obtain ⟨vSeed, e_aSeed⟩ := hS 6 (by decide)
  obtain ⟨vContents, e_aContents⟩ := hS 7 (by decide)
  obtain ⟨vRow, e_aRow⟩ := hS 9 (by decide)
  obtain ⟨vBits, e_aBits⟩ := hS 10 (by decide)
  obtain ⟨vLayerCame, e_aLayerCame⟩ := hS 12 (by decide)
  obtain ⟨vRest, e_aRest⟩ := hS 13 (by decide)
  obtain ⟨vCome, e_aCome⟩ := hS 16 (by decide)
  obtain ⟨vRivals, e_aRivals⟩ := hS 17 (by decide)
  obtain ⟨vGone, e_aGone⟩ := hS 18 (by decide)
  obtain ⟨vOrder, e_aOrder⟩ := hS 19 (by decide)
  obtain ⟨vOffAt, e_aOffAt⟩ := hS 20 (by decide)
  obtain ⟨vIsOff, e_aIsOff⟩ := hS 21 (by decide)
  obtain ⟨vAlone, e_aAlone⟩ := hS 22 (by decide)
  obtain ⟨vKept, e_aKept⟩ := hS 23 (by decide)
  have m_aWorlds := (hB 1 (by decide) (by decide)).1
  have r_aWorlds := (hB 1 (by decide) (by decide)).2
  have m_aInWorld := (hB 2 (by decide) (by decide)).1
  have r_aInWorld := (hB 2 (by decide) (by decide)).2
  have m_aKind := (hB 3 (by decide) (by decide)).1
  have r_aKind := (hB 3 (by decide) (by decide)).2
  have m_aSize := (hB 4 (by decide) (by decide)).1
  have r_aSize := (hB 4 (by decide) (by decide)).2
  have m_aMarks := (hB 5 (by decide) (by decide)).1
  have r_aMarks := (hB 5 (by decide) (by decide)).2
  have m_aSeed := (hB 6 (by decide) (by decide)).1
  have r_aSeed := (hB 6 (by decide) (by decide)).2
  have m_aContents := (hB 7 (by decide) (by decide)).1
  have r_aContents := (hB 7 (by decide) (by decide)).2
  have m_aContentMany := (hB 8 (by decide) (by decide)).1
  have r_aContentMany := (hB 8 (by decide) (by decide)).2
  have m_aRow := (hB 9 (by decide) (by decide)).1
  have r_aRow := (hB 9 (by decide) (by decide)).2
  have m_aBits := (hB 10 (by decide) (by decide)).1
  have r_aBits := (hB 10 (by decide) (by decide)).2
  have m_aLayerSize := (hB 11 (by decide) (by decide)).1
  have r_aLayerSize := (hB 11 (by decide) (by decide)).2
  have m_aLayerCame := (hB 12 (by decide) (by decide)).1
  have r_aLayerCame := (hB 12 (by decide) (by decide)).2
  have m_aRest := (hB 13 (by decide) (by decide)).1
  have r_aRest := (hB 13 (by decide) (by decide)).2
  have m_aRestMany := (hB 14 (by decide) (by decide)).1
  have r_aRestMany := (hB 14 (by decide) (by decide)).2
  have m_aCome := (hB 16 (by decide) (by decide)).1
  have r_aCome := (hB 16 (by decide) (by decide)).2
  have m_aRivals := (hB 17 (by decide) (by decide)).1
  have r_aRivals := (hB 17 (by decide) (by decide)).2
  have m_aGone := (hB 18 (by decide) (by decide)).1
  have r_aGone := (hB 18 (by decide) (by decide)).2
  have m_aOrder := (hB 19 (by decide) (by decide)).1
  have r_aOrder := (hB 19 (by decide) (by decide)).2
  have m_aOffAt := (hB 20 (by decide) (by decide)).1
  have r_aOffAt := (hB 20 (by decide) (by decide)).2
  have m_aIsOff := (hB 21 (by decide) (by decide)).1
  have r_aIsOff := (hB 21 (by decide) (by decide)).2
  have m_aAlone := (hB 22 (by decide) (by decide)).1
  have r_aAlone := (hB 22 (by decide) (by decide)).2
  have m_aKept := (hB 23 (by decide) (by decide)).1
  have r_aKept := (hB 23 (by decide) (by decide)).2
  have m_y := (hB 0 (by decide) (by decide)).1
  have r_y := (hB 0 (by decide) (by decide)).2
  obtain ⟨z, hz, hq⟩ : OK (mX9_falses many vW vIW vKind vSize vMarks vSeed vContents vContentMany vRow vBits vLayerSize vRest vRestMany sq wi) _ := rfalses_ok hI _ _ _ _ _ _ _ _
  refine cI_up (k_X9_falses l D g m_y e_y m_aWorlds e_aWorlds m_aInWorld e_aInWorld m_aKind e_aKind m_aSize e_aSize m_aMarks e_aMarks m_aSeed e_aSeed m_aContents e_aContents m_aContentMany e_aContentMany m_aRow e_aRow m_aBits e_aBits m_aLayerSize e_aLayerSize m_aRest e_aRest m_aRestMany e_aRestMany hz) (by decide) (by decide) (by decide) (by decide) (by decide) (by decide) (fun x L1 f1 P => ?_)
  obtain ⟨-, eL, ef⟩ := P
  subst eL ef
  exact ResR_same CC
set_option maxHeartbeats 1000000 in
theorem rc_falseOne (l : Launch) (D : va_G) {ρ : Nat → Nat × Nat} {g : Nat → ClassId} {L : List Nat} {f : Nat → va_E} {y : Nat} {vW : Nat → Int64} {vIW : Nat → Int32} (C : CfR ρ g L f y vW vIW) (sq : Int32) (wi : Int32) (i : Int32) : cL l yX9_falseOne wsX9_falseOne (RmC 0 0) D g [.ref y, .int sq, .int wi, .int i] L f 0 0 (fun x L1 f1 => ResR ρ g L f y (Sme vW vIW) L1 f1) := by
  have CC := C
  obtain ⟨B, many, vKind, vSize, vMarks, vContentMany, vRestMany, vLayerSize, rfl, hB, ⟨e_y, e_aWorlds, e_aInWorld, e_aKind, e_aSize, e_aMarks, e_aContentMany, e_aLayerSize, e_aRestMany, hS⟩, hI⟩ := C
  obtain ⟨vSeed, e_aSeed⟩ := hS 6 (by decide)
  obtain ⟨vContents, e_aContents⟩ := hS 7 (by decide)
  obtain ⟨vRow, e_aRow⟩ := hS 9 (by decide)
  obtain ⟨vBits, e_aBits⟩ := hS 10 (by decide)
  obtain ⟨vLayerCame, e_aLayerCame⟩ := hS 12 (by decide)
  obtain ⟨vRest, e_aRest⟩ := hS 13 (by decide)
  obtain ⟨vCome, e_aCome⟩ := hS 16 (by decide)
  obtain ⟨vRivals, e_aRivals⟩ := hS 17 (by decide)
  obtain ⟨vGone, e_aGone⟩ := hS 18 (by decide)
  obtain ⟨vOrder, e_aOrder⟩ := hS 19 (by decide)
  obtain ⟨vOffAt, e_aOffAt⟩ := hS 20 (by decide)
  obtain ⟨vIsOff, e_aIsOff⟩ := hS 21 (by decide)
  obtain ⟨vAlone, e_aAlone⟩ := hS 22 (by decide)
  obtain ⟨vKept, e_aKept⟩ := hS 23 (by decide)
  have m_aWorlds := (hB 1 (by decide) (by decide)).1
  have r_aWorlds := (hB 1 (by decide) (by decide)).2
  have m_aInWorld := (hB 2 (by decide) (by decide)).1
  have r_aInWorld := (hB 2 (by decide) (by decide)).2
  have m_aKind := (hB 3 (by decide) (by decide)).1
  have r_aKind := (hB 3 (by decide) (by decide)).2
  have m_aSize := (hB 4 (by decide) (by decide)).1
  have r_aSize := (hB 4 (by decide) (by decide)).2
  have m_aMarks := (hB 5 (by decide) (by decide)).1
  have r_aMarks := (hB 5 (by decide) (by decide)).2
  have m_aSeed := (hB 6 (by decide) (by decide)).1
  have r_aSeed := (hB 6 (by decide) (by decide)).2
  have m_aContents := (hB 7 (by decide) (by decide)).1
  have r_aContents := (hB 7 (by decide) (by decide)).2
  have m_aContentMany := (hB 8 (by decide) (by decide)).1
  have r_aContentMany := (hB 8 (by decide) (by decide)).2
  have m_aRow := (hB 9 (by decide) (by decide)).1
  have r_aRow := (hB 9 (by decide) (by decide)).2
  have m_aBits := (hB 10 (by decide) (by decide)).1
  have r_aBits := (hB 10 (by decide) (by decide)).2
  have m_aLayerSize := (hB 11 (by decide) (by decide)).1
  have r_aLayerSize := (hB 11 (by decide) (by decide)).2
  have m_aLayerCame := (hB 12 (by decide) (by decide)).1
  have r_aLayerCame := (hB 12 (by decide) (by decide)).2
  have m_aRest := (hB 13 (by decide) (by decide)).1
  have r_aRest := (hB 13 (by decide) (by decide)).2
  have m_aRestMany := (hB 14 (by decide) (by decide)).1
  have r_aRestMany := (hB 14 (by decide) (by decide)).2
  have m_aCome := (hB 16 (by decide) (by decide)).1
  have r_aCome := (hB 16 (by decide) (by decide)).2
  have m_aRivals := (hB 17 (by decide) (by decide)).1
  have r_aRivals := (hB 17 (by decide) (by decide)).2
  have m_aGone := (hB 18 (by decide) (by decide)).1
  have r_aGone := (hB 18 (by decide) (by decide)).2
  have m_aOrder := (hB 19 (by decide) (by decide)).1
  have r_aOrder := (hB 19 (by decide) (by decide)).2
  have m_aOffAt := (hB 20 (by decide) (by decide)).1
  have r_aOffAt := (hB 20 (by decide) (by decide)).2
  have m_aIsOff := (hB 21 (by decide) (by decide)).1
  have r_aIsOff := (hB 21 (by decide) (by decide)).2
  have m_aAlone := (hB 22 (by decide) (by decide)).1
  have r_aAlone := (hB 22 (by decide) (by decide)).2
  have m_aKept := (hB 23 (by decide) (by decide)).1
  have r_aKept := (hB 23 (by decide) (by decide)).2
  have m_y := (hB 0 (by decide) (by decide)).1
  have r_y := (hB 0 (by decide) (by decide)).2
  obtain ⟨z, hz, hq⟩ : OK (mX9_falseOne many vW vIW vKind vSize vMarks vSeed vContents vContentMany vRow vBits vLayerSize vRest vRestMany sq wi i) _ := rfalseOne_ok hI _ _ _ _ _ _ _ _ _
  refine cL_up (k_X9_falseOne l D g m_y e_y m_aWorlds e_aWorlds m_aInWorld e_aInWorld m_aKind e_aKind m_aSize e_aSize m_aMarks e_aMarks m_aSeed e_aSeed m_aContents e_aContents m_aContentMany e_aContentMany m_aRow e_aRow m_aBits e_aBits m_aLayerSize e_aLayerSize m_aRest e_aRest m_aRestMany e_aRestMany hz) (by decide) (by decide) (by decide) (by decide) (by decide) (by decide) (fun x L1 f1 P => ?_)
  obtain ⟨-, eL, ef⟩ := P
  subst eL ef
  exact ResR_same CC
set_option maxHeartbeats 1000000 in
theorem rc_missed (l : Launch) (D : va_G) {ρ : Nat → Nat × Nat} {g : Nat → ClassId} {L : List Nat} {f : Nat → va_E} {y : Nat} {vW : Nat → Int64} {vIW : Nat → Int32} (C : CfR ρ g L f y vW vIW) (sq : Int32) : cI l yX9_missed wsX9_missed (RmC 0 0) D g [.ref y, .int sq] L f 0 0 (fun x L1 f1 => ResR ρ g L f y (Sme vW vIW) L1 f1) := by
  have CC := C
  obtain ⟨B, many, vKind, vSize, vMarks, vContentMany, vRestMany, vLayerSize, rfl, hB, ⟨e_y, e_aWorlds, e_aInWorld, e_aKind, e_aSize, e_aMarks, e_aContentMany, e_aLayerSize, e_aRestMany, hS⟩, hI⟩ := C
  obtain ⟨vSeed, e_aSeed⟩ := hS 6 (by decide)
  obtain ⟨vContents, e_aContents⟩ := hS 7 (by decide)
  obtain ⟨vRow, e_aRow⟩ := hS 9 (by decide)
  obtain ⟨vBits, e_aBits⟩ := hS 10 (by decide)
  obtain ⟨vLayerCame, e_aLayerCame⟩ := hS 12 (by decide)
  obtain ⟨vRest, e_aRest⟩ := hS 13 (by decide)
  obtain ⟨vCome, e_aCome⟩ := hS 16 (by decide)
  obtain ⟨vRivals, e_aRivals⟩ := hS 17 (by decide)
  obtain ⟨vGone, e_aGone⟩ := hS 18 (by decide)
  obtain ⟨vOrder, e_aOrder⟩ := hS 19 (by decide)
  obtain ⟨vOffAt, e_aOffAt⟩ := hS 20 (by decide)
  obtain ⟨vIsOff, e_aIsOff⟩ := hS 21 (by decide)
  obtain ⟨vAlone, e_aAlone⟩ := hS 22 (by decide)
  obtain ⟨vKept, e_aKept⟩ := hS 23 (by decide)
  have m_aWorlds := (hB 1 (by decide) (by decide)).1
  have r_aWorlds := (hB 1 (by decide) (by decide)).2
  have m_aInWorld := (hB 2 (by decide) (by decide)).1
  have r_aInWorld := (hB 2 (by decide) (by decide)).2
  have m_aKind := (hB 3 (by decide) (by decide)).1
  have r_aKind := (hB 3 (by decide) (by decide)).2
  have m_aSize := (hB 4 (by decide) (by decide)).1
  have r_aSize := (hB 4 (by decide) (by decide)).2
  have m_aMarks := (hB 5 (by decide) (by decide)).1
  have r_aMarks := (hB 5 (by decide) (by decide)).2
  have m_aSeed := (hB 6 (by decide) (by decide)).1
  have r_aSeed := (hB 6 (by decide) (by decide)).2
  have m_aContents := (hB 7 (by decide) (by decide)).1
  have r_aContents := (hB 7 (by decide) (by decide)).2
  have m_aContentMany := (hB 8 (by decide) (by decide)).1
  have r_aContentMany := (hB 8 (by decide) (by decide)).2
  have m_aRow := (hB 9 (by decide) (by decide)).1
  have r_aRow := (hB 9 (by decide) (by decide)).2
  have m_aBits := (hB 10 (by decide) (by decide)).1
  have r_aBits := (hB 10 (by decide) (by decide)).2
  have m_aLayerSize := (hB 11 (by decide) (by decide)).1
  have r_aLayerSize := (hB 11 (by decide) (by decide)).2
  have m_aLayerCame := (hB 12 (by decide) (by decide)).1
  have r_aLayerCame := (hB 12 (by decide) (by decide)).2
  have m_aRest := (hB 13 (by decide) (by decide)).1
  have r_aRest := (hB 13 (by decide) (by decide)).2
  have m_aRestMany := (hB 14 (by decide) (by decide)).1
  have r_aRestMany := (hB 14 (by decide) (by decide)).2
  have m_aCome := (hB 16 (by decide) (by decide)).1
  have r_aCome := (hB 16 (by decide) (by decide)).2
  have m_aRivals := (hB 17 (by decide) (by decide)).1
  have r_aRivals := (hB 17 (by decide) (by decide)).2
  have m_aGone := (hB 18 (by decide) (by decide)).1
  have r_aGone := (hB 18 (by decide) (by decide)).2
  have m_aOrder := (hB 19 (by decide) (by decide)).1
  have r_aOrder := (hB 19 (by decide) (by decide)).2
  have m_aOffAt := (hB 20 (by decide) (by decide)).1
  have r_aOffAt := (hB 20 (by decide) (by decide)).2
  have m_aIsOff := (hB 21 (by decide) (by decide)).1
  have r_aIsOff := (hB 21 (by decide) (by decide)).2
  have m_aAlone := (hB 22 (by decide) (by decide)).1
  have r_aAlone := (hB 22 (by decide) (by decide)).2
  have m_aKept := (hB 23 (by decide) (by decide)).1
  have r_aKept := (hB 23 (by decide) (by decide)).2
  have m_y := (hB 0 (by decide) (by decide)).1
  have r_y := (hB 0 (by decide) (by decide)).2
  obtain ⟨z, hz, hq⟩ : OK (mX9_missed many vKind vSize vMarks vSeed vContents vContentMany vRow vBits vLayerSize vRest vRestMany sq) _ := rmissed_ok hI _ _ _ _ _ _
  refine cI_up (k_X9_missed l D g m_y e_y m_aKind e_aKind m_aSize e_aSize m_aMarks e_aMarks m_aSeed e_aSeed m_aContents e_aContents m_aContentMany e_aContentMany m_aRow e_aRow m_aBits e_aBits m_aLayerSize e_aLayerSize m_aRest e_aRest m_aRestMany e_aRestMany hz) (by decide) (by decide) (by decide) (by decide) (by decide) (by decide) (fun x L1 f1 P => ?_)
  obtain ⟨-, eL, ef⟩ := P
  subst eL ef
  exact ResR_same CC
set_option maxHeartbeats 1000000 in
theorem rc_join (l : Launch) (D : va_G) {ρ : Nat → Nat × Nat} {g : Nat → ClassId} {L : List Nat} {f : Nat → va_E} {y : Nat} {vW : Nat → Int64} {vIW : Nat → Int32} (C : CfR ρ g L f y vW vIW) (ho : Int32) (aq : Int32) (bq : Int32) : cI l yX9_join wsX9_join (RmC 0 0) D g [.ref y, .int ho, .int aq, .int bq] L f 0 0 (fun x L1 f1 => ResR ρ g L f y (Sme vW vIW) L1 f1) := by
  have CC := C
  obtain ⟨B, many, vKind, vSize, vMarks, vContentMany, vRestMany, vLayerSize, rfl, hB, ⟨e_y, e_aWorlds, e_aInWorld, e_aKind, e_aSize, e_aMarks, e_aContentMany, e_aLayerSize, e_aRestMany, hS⟩, hI⟩ := C
  obtain ⟨vSeed, e_aSeed⟩ := hS 6 (by decide)
  obtain ⟨vContents, e_aContents⟩ := hS 7 (by decide)
  obtain ⟨vRow, e_aRow⟩ := hS 9 (by decide)
  obtain ⟨vBits, e_aBits⟩ := hS 10 (by decide)
  obtain ⟨vLayerCame, e_aLayerCame⟩ := hS 12 (by decide)
  obtain ⟨vRest, e_aRest⟩ := hS 13 (by decide)
  obtain ⟨vCome, e_aCome⟩ := hS 16 (by decide)
  obtain ⟨vRivals, e_aRivals⟩ := hS 17 (by decide)
  obtain ⟨vGone, e_aGone⟩ := hS 18 (by decide)
  obtain ⟨vOrder, e_aOrder⟩ := hS 19 (by decide)
  obtain ⟨vOffAt, e_aOffAt⟩ := hS 20 (by decide)
  obtain ⟨vIsOff, e_aIsOff⟩ := hS 21 (by decide)
  obtain ⟨vAlone, e_aAlone⟩ := hS 22 (by decide)
  obtain ⟨vKept, e_aKept⟩ := hS 23 (by decide)
  have m_aWorlds := (hB 1 (by decide) (by decide)).1
  have r_aWorlds := (hB 1 (by decide) (by decide)).2
  have m_aInWorld := (hB 2 (by decide) (by decide)).1
  have r_aInWorld := (hB 2 (by decide) (by decide)).2
  have m_aKind := (hB 3 (by decide) (by decide)).1
  have r_aKind := (hB 3 (by decide) (by decide)).2
  have m_aSize := (hB 4 (by decide) (by decide)).1
  have r_aSize := (hB 4 (by decide) (by decide)).2
  have m_aMarks := (hB 5 (by decide) (by decide)).1
  have r_aMarks := (hB 5 (by decide) (by decide)).2
  have m_aSeed := (hB 6 (by decide) (by decide)).1
  have r_aSeed := (hB 6 (by decide) (by decide)).2
  have m_aContents := (hB 7 (by decide) (by decide)).1
  have r_aContents := (hB 7 (by decide) (by decide)).2
  have m_aContentMany := (hB 8 (by decide) (by decide)).1
  have r_aContentMany := (hB 8 (by decide) (by decide)).2
  have m_aRow := (hB 9 (by decide) (by decide)).1
  have r_aRow := (hB 9 (by decide) (by decide)).2
  have m_aBits := (hB 10 (by decide) (by decide)).1
  have r_aBits := (hB 10 (by decide) (by decide)).2
  have m_aLayerSize := (hB 11 (by decide) (by decide)).1
  have r_aLayerSize := (hB 11 (by decide) (by decide)).2
  have m_aLayerCame := (hB 12 (by decide) (by decide)).1
  have r_aLayerCame := (hB 12 (by decide) (by decide)).2
  have m_aRest := (hB 13 (by decide) (by decide)).1
  have r_aRest := (hB 13 (by decide) (by decide)).2
  have m_aRestMany := (hB 14 (by decide) (by decide)).1
  have r_aRestMany := (hB 14 (by decide) (by decide)).2
  have m_aCome := (hB 16 (by decide) (by decide)).1
  have r_aCome := (hB 16 (by decide) (by decide)).2
  have m_aRivals := (hB 17 (by decide) (by decide)).1
  have r_aRivals := (hB 17 (by decide) (by decide)).2
  have m_aGone := (hB 18 (by decide) (by decide)).1
  have r_aGone := (hB 18 (by decide) (by decide)).2
  have m_aOrder := (hB 19 (by decide) (by decide)).1
  have r_aOrder := (hB 19 (by decide) (by decide)).2
  have m_aOffAt := (hB 20 (by decide) (by decide)).1
  have r_aOffAt := (hB 20 (by decide) (by decide)).2
  have m_aIsOff := (hB 21 (by decide) (by decide)).1
  have r_aIsOff := (hB 21 (by decide) (by decide)).2
  have m_aAlone := (hB 22 (by decide) (by decide)).1
  have r_aAlone := (hB 22 (by decide) (by decide)).2
  have m_aKept := (hB 23 (by decide) (by decide)).1
  have r_aKept := (hB 23 (by decide) (by decide)).2
  have m_y := (hB 0 (by decide) (by decide)).1
  have r_y := (hB 0 (by decide) (by decide)).2
  obtain ⟨z, hz, hq⟩ : OK (mX9_join many vKind vSize vMarks vSeed vContents vContentMany vRow vRestMany ho aq bq) _ := rjoin_ok hI _ _ _ _ _ _
  refine cI_up (k_X9_join l D g m_y e_y m_aWorlds e_aWorlds m_aInWorld e_aInWorld m_aKind e_aKind m_aSize e_aSize m_aMarks e_aMarks m_aSeed e_aSeed m_aContents e_aContents m_aContentMany e_aContentMany m_aRow e_aRow m_aBits e_aBits m_aLayerSize e_aLayerSize m_aLayerCame e_aLayerCame m_aRest e_aRest m_aRestMany e_aRestMany m_aCome e_aCome m_aRivals e_aRivals m_aGone e_aGone m_aOrder e_aOrder m_aOffAt e_aOffAt m_aIsOff e_aIsOff m_aAlone e_aAlone m_aKept e_aKept r_aKind r_aSize r_aMarks r_aSeed r_aContents r_aContentMany r_aRest r_aRestMany hz) (by decide) (by decide) (by decide) (by decide) (by decide) (by decide) (fun x L1 f1 P => ?_)
  obtain ⟨-, eL, fv, E_y, E_aKind, E_aSize, E_aMarks, E_aSeed, E_aContents, E_aContentMany, E_aRow, E_aRestMany⟩ := P
  subst eL
  have FT : ∀ b, b ∈ L1 → ¬ TR [0, 3, 4, 5, 6, 7, 8, 9, 14] (ρ b) → f1 b = f b := fun b hb ht => fv b hb (ne_T (tr_y r_y (by decide)) ht) (ne_T (tr_y r_aKind (by decide)) ht) (ne_T (tr_y r_aSize (by decide)) ht) (ne_T (tr_y r_aMarks (by decide)) ht) (ne_T (tr_y r_aSeed (by decide)) ht) (ne_T (tr_y r_aContents (by decide)) ht) (ne_T (tr_y r_aContentMany (by decide)) ht) (ne_T (tr_y r_aRow (by decide)) ht) (ne_T (tr_y r_aRestMany (by decide)) ht)
  refine CR_up (vW := vW) (vIW := vIW) [0, 3, 4, 5, 6, 7, 8, 9, 14] hB hS FT E_y ((FT _ m_aWorlds (tr_n r_aWorlds (by decide))).trans e_aWorlds) ((FT _ m_aInWorld (tr_n r_aInWorld (by decide))).trans e_aInWorld) E_aKind E_aSize E_aMarks E_aContentMany ((FT _ m_aLayerSize (tr_n r_aLayerSize (by decide))).trans e_aLayerSize) E_aRestMany ?_ hq ⟨rfl, rfl⟩
  intro k hk hK
  have hc : k = 6 ∨ k = 7 ∨ k = 9 := by
    have hh : ∀ q, q ∈ [6, 7, 9, 10, 12, 13, 16, 17, 18, 19, 20, 21, 22, 23] → q ∈ [0, 3, 4, 5, 6, 7, 8, 9, 14] → q = 6 ∨ q = 7 ∨ q = 9 := by decide
    exact hh k hk hK
  rcases hc with rfl | rfl | rfl
  · exact ⟨_, E_aSeed⟩
  · exact ⟨_, E_aContents⟩
  · exact ⟨_, E_aRow⟩
set_option maxHeartbeats 1000000 in
theorem rc_fold (l : Launch) (D : va_G) {ρ : Nat → Nat × Nat} {g : Nat → ClassId} {L : List Nat} {f : Nat → va_E} {y : Nat} {vW : Nat → Int64} {vIW : Nat → Int32} (C : CfR ρ g L f y vW vIW) (oq : Int32) : cI l yX9_fold wsX9_fold (RmC 0 0) D g [.ref y, .int oq] L f 0 0 (fun x L1 f1 => ResR ρ g L f y (Sme vW vIW) L1 f1) := by
  have CC := C
  obtain ⟨B, many, vKind, vSize, vMarks, vContentMany, vRestMany, vLayerSize, rfl, hB, ⟨e_y, e_aWorlds, e_aInWorld, e_aKind, e_aSize, e_aMarks, e_aContentMany, e_aLayerSize, e_aRestMany, hS⟩, hI⟩ := C
  obtain ⟨vSeed, e_aSeed⟩ := hS 6 (by decide)
  obtain ⟨vContents, e_aContents⟩ := hS 7 (by decide)
  obtain ⟨vRow, e_aRow⟩ := hS 9 (by decide)
  obtain ⟨vBits, e_aBits⟩ := hS 10 (by decide)
  obtain ⟨vLayerCame, e_aLayerCame⟩ := hS 12 (by decide)
  obtain ⟨vRest, e_aRest⟩ := hS 13 (by decide)
  obtain ⟨vCome, e_aCome⟩ := hS 16 (by decide)
  obtain ⟨vRivals, e_aRivals⟩ := hS 17 (by decide)
  obtain ⟨vGone, e_aGone⟩ := hS 18 (by decide)
  obtain ⟨vOrder, e_aOrder⟩ := hS 19 (by decide)
  obtain ⟨vOffAt, e_aOffAt⟩ := hS 20 (by decide)
  obtain ⟨vIsOff, e_aIsOff⟩ := hS 21 (by decide)
  obtain ⟨vAlone, e_aAlone⟩ := hS 22 (by decide)
  obtain ⟨vKept, e_aKept⟩ := hS 23 (by decide)
  have m_aWorlds := (hB 1 (by decide) (by decide)).1
  have r_aWorlds := (hB 1 (by decide) (by decide)).2
  have m_aInWorld := (hB 2 (by decide) (by decide)).1
  have r_aInWorld := (hB 2 (by decide) (by decide)).2
  have m_aKind := (hB 3 (by decide) (by decide)).1
  have r_aKind := (hB 3 (by decide) (by decide)).2
  have m_aSize := (hB 4 (by decide) (by decide)).1
  have r_aSize := (hB 4 (by decide) (by decide)).2
  have m_aMarks := (hB 5 (by decide) (by decide)).1
  have r_aMarks := (hB 5 (by decide) (by decide)).2
  have m_aSeed := (hB 6 (by decide) (by decide)).1
  have r_aSeed := (hB 6 (by decide) (by decide)).2
  have m_aContents := (hB 7 (by decide) (by decide)).1
  have r_aContents := (hB 7 (by decide) (by decide)).2
  have m_aContentMany := (hB 8 (by decide) (by decide)).1
  have r_aContentMany := (hB 8 (by decide) (by decide)).2
  have m_aRow := (hB 9 (by decide) (by decide)).1
  have r_aRow := (hB 9 (by decide) (by decide)).2
  have m_aBits := (hB 10 (by decide) (by decide)).1
  have r_aBits := (hB 10 (by decide) (by decide)).2
  have m_aLayerSize := (hB 11 (by decide) (by decide)).1
  have r_aLayerSize := (hB 11 (by decide) (by decide)).2
  have m_aLayerCame := (hB 12 (by decide) (by decide)).1
  have r_aLayerCame := (hB 12 (by decide) (by decide)).2
  have m_aRest := (hB 13 (by decide) (by decide)).1
  have r_aRest := (hB 13 (by decide) (by decide)).2
  have m_aRestMany := (hB 14 (by decide) (by decide)).1
  have r_aRestMany := (hB 14 (by decide) (by decide)).2
  have m_aCome := (hB 16 (by decide) (by decide)).1
  have r_aCome := (hB 16 (by decide) (by decide)).2
  have m_aRivals := (hB 17 (by decide) (by decide)).1
  have r_aRivals := (hB 17 (by decide) (by decide)).2
  have m_aGone := (hB 18 (by decide) (by decide)).1
  have r_aGone := (hB 18 (by decide) (by decide)).2
  have m_aOrder := (hB 19 (by decide) (by decide)).1
  have r_aOrder := (hB 19 (by decide) (by decide)).2
  have m_aOffAt := (hB 20 (by decide) (by decide)).1
  have r_aOffAt := (hB 20 (by decide) (by decide)).2
  have m_aIsOff := (hB 21 (by decide) (by decide)).1
  have r_aIsOff := (hB 21 (by decide) (by decide)).2
  have m_aAlone := (hB 22 (by decide) (by decide)).1
  have r_aAlone := (hB 22 (by decide) (by decide)).2
  have m_aKept := (hB 23 (by decide) (by decide)).1
  have r_aKept := (hB 23 (by decide) (by decide)).2
  have m_y := (hB 0 (by decide) (by decide)).1
  have r_y := (hB 0 (by decide) (by decide)).2
  obtain ⟨z, hz, hq⟩ : OK (mX9_fold many vKind vSize vMarks vSeed vContents vContentMany vRow vRestMany oq) _ := rfold_ok hI _ _ _ _
  refine cI_up (k_X9_fold l D g m_y e_y m_aWorlds e_aWorlds m_aInWorld e_aInWorld m_aKind e_aKind m_aSize e_aSize m_aMarks e_aMarks m_aSeed e_aSeed m_aContents e_aContents m_aContentMany e_aContentMany m_aRow e_aRow m_aBits e_aBits m_aLayerSize e_aLayerSize m_aLayerCame e_aLayerCame m_aRest e_aRest m_aRestMany e_aRestMany m_aCome e_aCome m_aRivals e_aRivals m_aGone e_aGone m_aOrder e_aOrder m_aOffAt e_aOffAt m_aIsOff e_aIsOff m_aAlone e_aAlone m_aKept e_aKept r_aKind r_aSize r_aMarks r_aSeed r_aContents r_aContentMany r_aRest r_aRestMany hz) (by decide) (by decide) (by decide) (by decide) (by decide) (by decide) (fun x L1 f1 P => ?_)
  obtain ⟨-, eL, fv, E_y, E_aKind, E_aSize, E_aMarks, E_aSeed, E_aContents, E_aContentMany, E_aRow, E_aRestMany⟩ := P
  subst eL
  have FT : ∀ b, b ∈ L1 → ¬ TR [0, 3, 4, 5, 6, 7, 8, 9, 14] (ρ b) → f1 b = f b := fun b hb ht => fv b hb (ne_T (tr_y r_y (by decide)) ht) (ne_T (tr_y r_aKind (by decide)) ht) (ne_T (tr_y r_aSize (by decide)) ht) (ne_T (tr_y r_aMarks (by decide)) ht) (ne_T (tr_y r_aSeed (by decide)) ht) (ne_T (tr_y r_aContents (by decide)) ht) (ne_T (tr_y r_aContentMany (by decide)) ht) (ne_T (tr_y r_aRow (by decide)) ht) (ne_T (tr_y r_aRestMany (by decide)) ht)
  refine CR_up (vW := vW) (vIW := vIW) [0, 3, 4, 5, 6, 7, 8, 9, 14] hB hS FT E_y ((FT _ m_aWorlds (tr_n r_aWorlds (by decide))).trans e_aWorlds) ((FT _ m_aInWorld (tr_n r_aInWorld (by decide))).trans e_aInWorld) E_aKind E_aSize E_aMarks E_aContentMany ((FT _ m_aLayerSize (tr_n r_aLayerSize (by decide))).trans e_aLayerSize) E_aRestMany ?_ hq ⟨rfl, rfl⟩
  intro k hk hK
  have hc : k = 6 ∨ k = 7 ∨ k = 9 := by
    have hh : ∀ q, q ∈ [6, 7, 9, 10, 12, 13, 16, 17, 18, 19, 20, 21, 22, 23] → q ∈ [0, 3, 4, 5, 6, 7, 8, 9, 14] → q = 6 ∨ q = 7 ∨ q = 9 := by decide
    exact hh k hk hK
  rcases hc with rfl | rfl | rfl
  · exact ⟨_, E_aSeed⟩
  · exact ⟨_, E_aContents⟩
  · exact ⟨_, E_aRow⟩
set_option maxHeartbeats 1000000 in
theorem rc_about (l : Launch) (D : va_G) {ρ : Nat → Nat × Nat} {g : Nat → ClassId} {L : List Nat} {f : Nat → va_E} {y : Nat} {vW : Nat → Int64} {vIW : Nat → Int32} (C : CfR ρ g L f y vW vIW) (sq : Int32) (wh : Int32) : cI l yX9_about wsX9_about (RmC 0 0) D g [.ref y, .int sq, .int wh] L f 0 0 (fun x L1 f1 => ResR ρ g L f y (Sme vW vIW) L1 f1) := by
  have CC := C
  obtain ⟨B, many, vKind, vSize, vMarks, vContentMany, vRestMany, vLayerSize, rfl, hB, ⟨e_y, e_aWorlds, e_aInWorld, e_aKind, e_aSize, e_aMarks, e_aContentMany, e_aLayerSize, e_aRestMany, hS⟩, hI⟩ := C
  obtain ⟨vSeed, e_aSeed⟩ := hS 6 (by decide)
  obtain ⟨vContents, e_aContents⟩ := hS 7 (by decide)
  obtain ⟨vRow, e_aRow⟩ := hS 9 (by decide)
  obtain ⟨vBits, e_aBits⟩ := hS 10 (by decide)
  obtain ⟨vLayerCame, e_aLayerCame⟩ := hS 12 (by decide)
  obtain ⟨vRest, e_aRest⟩ := hS 13 (by decide)
  obtain ⟨vCome, e_aCome⟩ := hS 16 (by decide)
  obtain ⟨vRivals, e_aRivals⟩ := hS 17 (by decide)
  obtain ⟨vGone, e_aGone⟩ := hS 18 (by decide)
  obtain ⟨vOrder, e_aOrder⟩ := hS 19 (by decide)
  obtain ⟨vOffAt, e_aOffAt⟩ := hS 20 (by decide)
  obtain ⟨vIsOff, e_aIsOff⟩ := hS 21 (by decide)
  obtain ⟨vAlone, e_aAlone⟩ := hS 22 (by decide)
  obtain ⟨vKept, e_aKept⟩ := hS 23 (by decide)
  have m_aWorlds := (hB 1 (by decide) (by decide)).1
  have r_aWorlds := (hB 1 (by decide) (by decide)).2
  have m_aInWorld := (hB 2 (by decide) (by decide)).1
  have r_aInWorld := (hB 2 (by decide) (by decide)).2
  have m_aKind := (hB 3 (by decide) (by decide)).1
  have r_aKind := (hB 3 (by decide) (by decide)).2
  have m_aSize := (hB 4 (by decide) (by decide)).1
  have r_aSize := (hB 4 (by decide) (by decide)).2
  have m_aMarks := (hB 5 (by decide) (by decide)).1
  have r_aMarks := (hB 5 (by decide) (by decide)).2
  have m_aSeed := (hB 6 (by decide) (by decide)).1
  have r_aSeed := (hB 6 (by decide) (by decide)).2
  have m_aContents := (hB 7 (by decide) (by decide)).1
  have r_aContents := (hB 7 (by decide) (by decide)).2
  have m_aContentMany := (hB 8 (by decide) (by decide)).1
  have r_aContentMany := (hB 8 (by decide) (by decide)).2
  have m_aRow := (hB 9 (by decide) (by decide)).1
  have r_aRow := (hB 9 (by decide) (by decide)).2
  have m_aBits := (hB 10 (by decide) (by decide)).1
  have r_aBits := (hB 10 (by decide) (by decide)).2
  have m_aLayerSize := (hB 11 (by decide) (by decide)).1
  have r_aLayerSize := (hB 11 (by decide) (by decide)).2
  have m_aLayerCame := (hB 12 (by decide) (by decide)).1
  have r_aLayerCame := (hB 12 (by decide) (by decide)).2
  have m_aRest := (hB 13 (by decide) (by decide)).1
  have r_aRest := (hB 13 (by decide) (by decide)).2
  have m_aRestMany := (hB 14 (by decide) (by decide)).1
  have r_aRestMany := (hB 14 (by decide) (by decide)).2
  have m_aCome := (hB 16 (by decide) (by decide)).1
  have r_aCome := (hB 16 (by decide) (by decide)).2
  have m_aRivals := (hB 17 (by decide) (by decide)).1
  have r_aRivals := (hB 17 (by decide) (by decide)).2
  have m_aGone := (hB 18 (by decide) (by decide)).1
  have r_aGone := (hB 18 (by decide) (by decide)).2
  have m_aOrder := (hB 19 (by decide) (by decide)).1
  have r_aOrder := (hB 19 (by decide) (by decide)).2
  have m_aOffAt := (hB 20 (by decide) (by decide)).1
  have r_aOffAt := (hB 20 (by decide) (by decide)).2
  have m_aIsOff := (hB 21 (by decide) (by decide)).1
  have r_aIsOff := (hB 21 (by decide) (by decide)).2
  have m_aAlone := (hB 22 (by decide) (by decide)).1
  have r_aAlone := (hB 22 (by decide) (by decide)).2
  have m_aKept := (hB 23 (by decide) (by decide)).1
  have r_aKept := (hB 23 (by decide) (by decide)).2
  have m_y := (hB 0 (by decide) (by decide)).1
  have r_y := (hB 0 (by decide) (by decide)).2
  obtain ⟨z, hz, hq⟩ : OK (mX9_about many vKind vSize vMarks vSeed vContentMany vRow vLayerSize vRestMany sq wh) _ := rabout_ok hI _ _ _ _
  refine cI_up (k_X9_about l D g m_y e_y m_aKind e_aKind m_aSize e_aSize m_aMarks e_aMarks m_aSeed e_aSeed m_aContentMany e_aContentMany m_aRow e_aRow m_aLayerSize e_aLayerSize m_aRestMany e_aRestMany hz) (by decide) (by decide) (by decide) (by decide) (by decide) (by decide) (fun x L1 f1 P => ?_)
  obtain ⟨-, eL, ef⟩ := P
  subst eL ef
  exact ResR_same CC
set_option maxHeartbeats 1000000 in
theorem rc_cell (l : Launch) (D : va_G) {ρ : Nat → Nat × Nat} {g : Nat → ClassId} {L : List Nat} {f : Nat → va_E} {y : Nat} {vW : Nat → Int64} {vIW : Nat → Int32} (C : CfR ρ g L f y vW vIW) (sq : Int32) (i : Int32) : cI l yX9_cell wsX9_cell (RmC 0 0) D g [.ref y, .int sq, .int i] L f 0 0 (fun x L1 f1 => ResR ρ g L f y (Sme vW vIW) L1 f1) := by
  have CC := C
  obtain ⟨B, many, vKind, vSize, vMarks, vContentMany, vRestMany, vLayerSize, rfl, hB, ⟨e_y, e_aWorlds, e_aInWorld, e_aKind, e_aSize, e_aMarks, e_aContentMany, e_aLayerSize, e_aRestMany, hS⟩, hI⟩ := C
  obtain ⟨vSeed, e_aSeed⟩ := hS 6 (by decide)
  obtain ⟨vContents, e_aContents⟩ := hS 7 (by decide)
  obtain ⟨vRow, e_aRow⟩ := hS 9 (by decide)
  obtain ⟨vBits, e_aBits⟩ := hS 10 (by decide)
  obtain ⟨vLayerCame, e_aLayerCame⟩ := hS 12 (by decide)
  obtain ⟨vRest, e_aRest⟩ := hS 13 (by decide)
  obtain ⟨vCome, e_aCome⟩ := hS 16 (by decide)
  obtain ⟨vRivals, e_aRivals⟩ := hS 17 (by decide)
  obtain ⟨vGone, e_aGone⟩ := hS 18 (by decide)
  obtain ⟨vOrder, e_aOrder⟩ := hS 19 (by decide)
  obtain ⟨vOffAt, e_aOffAt⟩ := hS 20 (by decide)
  obtain ⟨vIsOff, e_aIsOff⟩ := hS 21 (by decide)
  obtain ⟨vAlone, e_aAlone⟩ := hS 22 (by decide)
  obtain ⟨vKept, e_aKept⟩ := hS 23 (by decide)
  have m_aWorlds := (hB 1 (by decide) (by decide)).1
  have r_aWorlds := (hB 1 (by decide) (by decide)).2
  have m_aInWorld := (hB 2 (by decide) (by decide)).1
  have r_aInWorld := (hB 2 (by decide) (by decide)).2
  have m_aKind := (hB 3 (by decide) (by decide)).1
  have r_aKind := (hB 3 (by decide) (by decide)).2
  have m_aSize := (hB 4 (by decide) (by decide)).1
  have r_aSize := (hB 4 (by decide) (by decide)).2
  have m_aMarks := (hB 5 (by decide) (by decide)).1
  have r_aMarks := (hB 5 (by decide) (by decide)).2
  have m_aSeed := (hB 6 (by decide) (by decide)).1
  have r_aSeed := (hB 6 (by decide) (by decide)).2
  have m_aContents := (hB 7 (by decide) (by decide)).1
  have r_aContents := (hB 7 (by decide) (by decide)).2
  have m_aContentMany := (hB 8 (by decide) (by decide)).1
  have r_aContentMany := (hB 8 (by decide) (by decide)).2
  have m_aRow := (hB 9 (by decide) (by decide)).1
  have r_aRow := (hB 9 (by decide) (by decide)).2
  have m_aBits := (hB 10 (by decide) (by decide)).1
  have r_aBits := (hB 10 (by decide) (by decide)).2
  have m_aLayerSize := (hB 11 (by decide) (by decide)).1
  have r_aLayerSize := (hB 11 (by decide) (by decide)).2
  have m_aLayerCame := (hB 12 (by decide) (by decide)).1
  have r_aLayerCame := (hB 12 (by decide) (by decide)).2
  have m_aRest := (hB 13 (by decide) (by decide)).1
  have r_aRest := (hB 13 (by decide) (by decide)).2
  have m_aRestMany := (hB 14 (by decide) (by decide)).1
  have r_aRestMany := (hB 14 (by decide) (by decide)).2
  have m_aCome := (hB 16 (by decide) (by decide)).1
  have r_aCome := (hB 16 (by decide) (by decide)).2
  have m_aRivals := (hB 17 (by decide) (by decide)).1
  have r_aRivals := (hB 17 (by decide) (by decide)).2
  have m_aGone := (hB 18 (by decide) (by decide)).1
  have r_aGone := (hB 18 (by decide) (by decide)).2
  have m_aOrder := (hB 19 (by decide) (by decide)).1
  have r_aOrder := (hB 19 (by decide) (by decide)).2
  have m_aOffAt := (hB 20 (by decide) (by decide)).1
  have r_aOffAt := (hB 20 (by decide) (by decide)).2
  have m_aIsOff := (hB 21 (by decide) (by decide)).1
  have r_aIsOff := (hB 21 (by decide) (by decide)).2
  have m_aAlone := (hB 22 (by decide) (by decide)).1
  have r_aAlone := (hB 22 (by decide) (by decide)).2
  have m_aKept := (hB 23 (by decide) (by decide)).1
  have r_aKept := (hB 23 (by decide) (by decide)).2
  have m_y := (hB 0 (by decide) (by decide)).1
  have r_y := (hB 0 (by decide) (by decide)).2
  obtain ⟨z, hz, hq⟩ : OK (mX9_cell many vKind vSize vRow sq i) _ := rcell_ok hI _ _ _
  refine cI_up (k_X9_cell l D g m_y e_y m_aKind e_aKind m_aSize e_aSize m_aRow e_aRow hz) (by decide) (by decide) (by decide) (by decide) (by decide) (by decide) (fun x L1 f1 P => ?_)
  obtain ⟨-, eL, ef⟩ := P
  subst eL ef
  exact ResR_same CC
set_option maxHeartbeats 1000000 in
theorem rc_layer (l : Launch) (D : va_G) {ρ : Nat → Nat × Nat} {g : Nat → ClassId} {L : List Nat} {f : Nat → va_E} {y : Nat} {vW : Nat → Int64} {vIW : Nat → Int32} (C : CfR ρ g L f y vW vIW) (sq : Int32) (i : Int32) (wh : Int32) : cI l yX9_layer wsX9_layer (RmC 0 0) D g [.ref y, .int sq, .int i, .int wh] L f 0 0 (fun x L1 f1 => ResR ρ g L f y (Sme vW vIW) L1 f1) := by
  have CC := C
  obtain ⟨B, many, vKind, vSize, vMarks, vContentMany, vRestMany, vLayerSize, rfl, hB, ⟨e_y, e_aWorlds, e_aInWorld, e_aKind, e_aSize, e_aMarks, e_aContentMany, e_aLayerSize, e_aRestMany, hS⟩, hI⟩ := C
  obtain ⟨vSeed, e_aSeed⟩ := hS 6 (by decide)
  obtain ⟨vContents, e_aContents⟩ := hS 7 (by decide)
  obtain ⟨vRow, e_aRow⟩ := hS 9 (by decide)
  obtain ⟨vBits, e_aBits⟩ := hS 10 (by decide)
  obtain ⟨vLayerCame, e_aLayerCame⟩ := hS 12 (by decide)
  obtain ⟨vRest, e_aRest⟩ := hS 13 (by decide)
  obtain ⟨vCome, e_aCome⟩ := hS 16 (by decide)
  obtain ⟨vRivals, e_aRivals⟩ := hS 17 (by decide)
  obtain ⟨vGone, e_aGone⟩ := hS 18 (by decide)
  obtain ⟨vOrder, e_aOrder⟩ := hS 19 (by decide)
  obtain ⟨vOffAt, e_aOffAt⟩ := hS 20 (by decide)
  obtain ⟨vIsOff, e_aIsOff⟩ := hS 21 (by decide)
  obtain ⟨vAlone, e_aAlone⟩ := hS 22 (by decide)
  obtain ⟨vKept, e_aKept⟩ := hS 23 (by decide)
  have m_aWorlds := (hB 1 (by decide) (by decide)).1
  have r_aWorlds := (hB 1 (by decide) (by decide)).2
  have m_aInWorld := (hB 2 (by decide) (by decide)).1
  have r_aInWorld := (hB 2 (by decide) (by decide)).2
  have m_aKind := (hB 3 (by decide) (by decide)).1
  have r_aKind := (hB 3 (by decide) (by decide)).2
  have m_aSize := (hB 4 (by decide) (by decide)).1
  have r_aSize := (hB 4 (by decide) (by decide)).2
  have m_aMarks := (hB 5 (by decide) (by decide)).1
  have r_aMarks := (hB 5 (by decide) (by decide)).2
  have m_aSeed := (hB 6 (by decide) (by decide)).1
  have r_aSeed := (hB 6 (by decide) (by decide)).2
  have m_aContents := (hB 7 (by decide) (by decide)).1
  have r_aContents := (hB 7 (by decide) (by decide)).2
  have m_aContentMany := (hB 8 (by decide) (by decide)).1
  have r_aContentMany := (hB 8 (by decide) (by decide)).2
  have m_aRow := (hB 9 (by decide) (by decide)).1
  have r_aRow := (hB 9 (by decide) (by decide)).2
  have m_aBits := (hB 10 (by decide) (by decide)).1
  have r_aBits := (hB 10 (by decide) (by decide)).2
  have m_aLayerSize := (hB 11 (by decide) (by decide)).1
  have r_aLayerSize := (hB 11 (by decide) (by decide)).2
  have m_aLayerCame := (hB 12 (by decide) (by decide)).1
  have r_aLayerCame := (hB 12 (by decide) (by decide)).2
  have m_aRest := (hB 13 (by decide) (by decide)).1
  have r_aRest := (hB 13 (by decide) (by decide)).2
  have m_aRestMany := (hB 14 (by decide) (by decide)).1
  have r_aRestMany := (hB 14 (by decide) (by decide)).2
  have m_aCome := (hB 16 (by decide) (by decide)).1
  have r_aCome := (hB 16 (by decide) (by decide)).2
  have m_aRivals := (hB 17 (by decide) (by decide)).1
  have r_aRivals := (hB 17 (by decide) (by decide)).2
  have m_aGone := (hB 18 (by decide) (by decide)).1
  have r_aGone := (hB 18 (by decide) (by decide)).2
  have m_aOrder := (hB 19 (by decide) (by decide)).1
  have r_aOrder := (hB 19 (by decide) (by decide)).2
  have m_aOffAt := (hB 20 (by decide) (by decide)).1
  have r_aOffAt := (hB 20 (by decide) (by decide)).2
  have m_aIsOff := (hB 21 (by decide) (by decide)).1
  have r_aIsOff := (hB 21 (by decide) (by decide)).2
  have m_aAlone := (hB 22 (by decide) (by decide)).1
  have r_aAlone := (hB 22 (by decide) (by decide)).2
  have m_aKept := (hB 23 (by decide) (by decide)).1
  have r_aKept := (hB 23 (by decide) (by decide)).2
  have m_y := (hB 0 (by decide) (by decide)).1
  have r_y := (hB 0 (by decide) (by decide)).2
  obtain ⟨z, hz, hq⟩ : OK (mX9_layer many vKind vSize vBits vLayerSize vLayerCame sq i wh) _ := rlayer_ok hI _ _ _ _ _
  refine cI_up (k_X9_layer l D g m_y e_y m_aKind e_aKind m_aSize e_aSize m_aBits e_aBits m_aLayerSize e_aLayerSize m_aLayerCame e_aLayerCame hz) (by decide) (by decide) (by decide) (by decide) (by decide) (by decide) (fun x L1 f1 P => ?_)
  obtain ⟨-, eL, ef⟩ := P
  subst eL ef
  exact ResR_same CC
set_option maxHeartbeats 1000000 in
theorem rc_mark (l : Launch) (D : va_G) {ρ : Nat → Nat × Nat} {g : Nat → ClassId} {L : List Nat} {f : Nat → va_E} {y : Nat} {vW : Nat → Int64} {vIW : Nat → Int32} (C : CfR ρ g L f y vW vIW) (sq : Int32) (t : Int64) (j : Int32) : cI l yX9_mark wsX9_mark (RmC 0 0) D g [.ref y, .int sq, .long t, .int j] L f 0 0 (fun x L1 f1 => ResR ρ g L f y (Sme vW vIW) L1 f1) := by
  have CC := C
  obtain ⟨B, many, vKind, vSize, vMarks, vContentMany, vRestMany, vLayerSize, rfl, hB, ⟨e_y, e_aWorlds, e_aInWorld, e_aKind, e_aSize, e_aMarks, e_aContentMany, e_aLayerSize, e_aRestMany, hS⟩, hI⟩ := C
  obtain ⟨vSeed, e_aSeed⟩ := hS 6 (by decide)
  obtain ⟨vContents, e_aContents⟩ := hS 7 (by decide)
  obtain ⟨vRow, e_aRow⟩ := hS 9 (by decide)
  obtain ⟨vBits, e_aBits⟩ := hS 10 (by decide)
  obtain ⟨vLayerCame, e_aLayerCame⟩ := hS 12 (by decide)
  obtain ⟨vRest, e_aRest⟩ := hS 13 (by decide)
  obtain ⟨vCome, e_aCome⟩ := hS 16 (by decide)
  obtain ⟨vRivals, e_aRivals⟩ := hS 17 (by decide)
  obtain ⟨vGone, e_aGone⟩ := hS 18 (by decide)
  obtain ⟨vOrder, e_aOrder⟩ := hS 19 (by decide)
  obtain ⟨vOffAt, e_aOffAt⟩ := hS 20 (by decide)
  obtain ⟨vIsOff, e_aIsOff⟩ := hS 21 (by decide)
  obtain ⟨vAlone, e_aAlone⟩ := hS 22 (by decide)
  obtain ⟨vKept, e_aKept⟩ := hS 23 (by decide)
  have m_aWorlds := (hB 1 (by decide) (by decide)).1
  have r_aWorlds := (hB 1 (by decide) (by decide)).2
  have m_aInWorld := (hB 2 (by decide) (by decide)).1
  have r_aInWorld := (hB 2 (by decide) (by decide)).2
  have m_aKind := (hB 3 (by decide) (by decide)).1
  have r_aKind := (hB 3 (by decide) (by decide)).2
  have m_aSize := (hB 4 (by decide) (by decide)).1
  have r_aSize := (hB 4 (by decide) (by decide)).2
  have m_aMarks := (hB 5 (by decide) (by decide)).1
  have r_aMarks := (hB 5 (by decide) (by decide)).2
  have m_aSeed := (hB 6 (by decide) (by decide)).1
  have r_aSeed := (hB 6 (by decide) (by decide)).2
  have m_aContents := (hB 7 (by decide) (by decide)).1
  have r_aContents := (hB 7 (by decide) (by decide)).2
  have m_aContentMany := (hB 8 (by decide) (by decide)).1
  have r_aContentMany := (hB 8 (by decide) (by decide)).2
  have m_aRow := (hB 9 (by decide) (by decide)).1
  have r_aRow := (hB 9 (by decide) (by decide)).2
  have m_aBits := (hB 10 (by decide) (by decide)).1
  have r_aBits := (hB 10 (by decide) (by decide)).2
  have m_aLayerSize := (hB 11 (by decide) (by decide)).1
  have r_aLayerSize := (hB 11 (by decide) (by decide)).2
  have m_aLayerCame := (hB 12 (by decide) (by decide)).1
  have r_aLayerCame := (hB 12 (by decide) (by decide)).2
  have m_aRest := (hB 13 (by decide) (by decide)).1
  have r_aRest := (hB 13 (by decide) (by decide)).2
  have m_aRestMany := (hB 14 (by decide) (by decide)).1
  have r_aRestMany := (hB 14 (by decide) (by decide)).2
  have m_aCome := (hB 16 (by decide) (by decide)).1
  have r_aCome := (hB 16 (by decide) (by decide)).2
  have m_aRivals := (hB 17 (by decide) (by decide)).1
  have r_aRivals := (hB 17 (by decide) (by decide)).2
  have m_aGone := (hB 18 (by decide) (by decide)).1
  have r_aGone := (hB 18 (by decide) (by decide)).2
  have m_aOrder := (hB 19 (by decide) (by decide)).1
  have r_aOrder := (hB 19 (by decide) (by decide)).2
  have m_aOffAt := (hB 20 (by decide) (by decide)).1
  have r_aOffAt := (hB 20 (by decide) (by decide)).2
  have m_aIsOff := (hB 21 (by decide) (by decide)).1
  have r_aIsOff := (hB 21 (by decide) (by decide)).2
  have m_aAlone := (hB 22 (by decide) (by decide)).1
  have r_aAlone := (hB 22 (by decide) (by decide)).2
  have m_aKept := (hB 23 (by decide) (by decide)).1
  have r_aKept := (hB 23 (by decide) (by decide)).2
  have m_y := (hB 0 (by decide) (by decide)).1
  have r_y := (hB 0 (by decide) (by decide)).2
  obtain ⟨z, hz, hq⟩ : OK (mX9_mark many vKind vSize vMarks vSeed sq t j) _ := rmark_ok hI _ _ _ _
  refine cI_up (k_X9_mark l D g m_y e_y m_aKind e_aKind m_aSize e_aSize m_aMarks e_aMarks m_aSeed e_aSeed hz) (by decide) (by decide) (by decide) (by decide) (by decide) (by decide) (fun x L1 f1 P => ?_)
  obtain ⟨-, eL, ef⟩ := P
  subst eL ef
  exact ResR_same CC
set_option maxHeartbeats 1000000 in
theorem rc_fewest (l : Launch) (D : va_G) {ρ : Nat → Nat × Nat} {g : Nat → ClassId} {L : List Nat} {f : Nat → va_E} {y : Nat} {vW : Nat → Int64} {vIW : Nat → Int32} (C : CfR ρ g L f y vW vIW) (wi : Int32) (wa : Int32) (mo : Int32) (by_ : Int32) : cI l yX9_fewest wsX9_fewest (RmC 0 0) D g [.ref y, .int wi, .int wa, .int mo, .int by_] L f 0 0 (fun x L1 f1 => ResR ρ g L f y (Sme vW vIW) L1 f1) := by
  have CC := C
  obtain ⟨B, many, vKind, vSize, vMarks, vContentMany, vRestMany, vLayerSize, rfl, hB, ⟨e_y, e_aWorlds, e_aInWorld, e_aKind, e_aSize, e_aMarks, e_aContentMany, e_aLayerSize, e_aRestMany, hS⟩, hI⟩ := C
  obtain ⟨vSeed, e_aSeed⟩ := hS 6 (by decide)
  obtain ⟨vContents, e_aContents⟩ := hS 7 (by decide)
  obtain ⟨vRow, e_aRow⟩ := hS 9 (by decide)
  obtain ⟨vBits, e_aBits⟩ := hS 10 (by decide)
  obtain ⟨vLayerCame, e_aLayerCame⟩ := hS 12 (by decide)
  obtain ⟨vRest, e_aRest⟩ := hS 13 (by decide)
  obtain ⟨vCome, e_aCome⟩ := hS 16 (by decide)
  obtain ⟨vRivals, e_aRivals⟩ := hS 17 (by decide)
  obtain ⟨vGone, e_aGone⟩ := hS 18 (by decide)
  obtain ⟨vOrder, e_aOrder⟩ := hS 19 (by decide)
  obtain ⟨vOffAt, e_aOffAt⟩ := hS 20 (by decide)
  obtain ⟨vIsOff, e_aIsOff⟩ := hS 21 (by decide)
  obtain ⟨vAlone, e_aAlone⟩ := hS 22 (by decide)
  obtain ⟨vKept, e_aKept⟩ := hS 23 (by decide)
  have m_aWorlds := (hB 1 (by decide) (by decide)).1
  have r_aWorlds := (hB 1 (by decide) (by decide)).2
  have m_aInWorld := (hB 2 (by decide) (by decide)).1
  have r_aInWorld := (hB 2 (by decide) (by decide)).2
  have m_aKind := (hB 3 (by decide) (by decide)).1
  have r_aKind := (hB 3 (by decide) (by decide)).2
  have m_aSize := (hB 4 (by decide) (by decide)).1
  have r_aSize := (hB 4 (by decide) (by decide)).2
  have m_aMarks := (hB 5 (by decide) (by decide)).1
  have r_aMarks := (hB 5 (by decide) (by decide)).2
  have m_aSeed := (hB 6 (by decide) (by decide)).1
  have r_aSeed := (hB 6 (by decide) (by decide)).2
  have m_aContents := (hB 7 (by decide) (by decide)).1
  have r_aContents := (hB 7 (by decide) (by decide)).2
  have m_aContentMany := (hB 8 (by decide) (by decide)).1
  have r_aContentMany := (hB 8 (by decide) (by decide)).2
  have m_aRow := (hB 9 (by decide) (by decide)).1
  have r_aRow := (hB 9 (by decide) (by decide)).2
  have m_aBits := (hB 10 (by decide) (by decide)).1
  have r_aBits := (hB 10 (by decide) (by decide)).2
  have m_aLayerSize := (hB 11 (by decide) (by decide)).1
  have r_aLayerSize := (hB 11 (by decide) (by decide)).2
  have m_aLayerCame := (hB 12 (by decide) (by decide)).1
  have r_aLayerCame := (hB 12 (by decide) (by decide)).2
  have m_aRest := (hB 13 (by decide) (by decide)).1
  have r_aRest := (hB 13 (by decide) (by decide)).2
  have m_aRestMany := (hB 14 (by decide) (by decide)).1
  have r_aRestMany := (hB 14 (by decide) (by decide)).2
  have m_aCome := (hB 16 (by decide) (by decide)).1
  have r_aCome := (hB 16 (by decide) (by decide)).2
  have m_aRivals := (hB 17 (by decide) (by decide)).1
  have r_aRivals := (hB 17 (by decide) (by decide)).2
  have m_aGone := (hB 18 (by decide) (by decide)).1
  have r_aGone := (hB 18 (by decide) (by decide)).2
  have m_aOrder := (hB 19 (by decide) (by decide)).1
  have r_aOrder := (hB 19 (by decide) (by decide)).2
  have m_aOffAt := (hB 20 (by decide) (by decide)).1
  have r_aOffAt := (hB 20 (by decide) (by decide)).2
  have m_aIsOff := (hB 21 (by decide) (by decide)).1
  have r_aIsOff := (hB 21 (by decide) (by decide)).2
  have m_aAlone := (hB 22 (by decide) (by decide)).1
  have r_aAlone := (hB 22 (by decide) (by decide)).2
  have m_aKept := (hB 23 (by decide) (by decide)).1
  have r_aKept := (hB 23 (by decide) (by decide)).2
  have m_y := (hB 0 (by decide) (by decide)).1
  have r_y := (hB 0 (by decide) (by decide)).2
  obtain ⟨z, hz, hq⟩ : OK (mX9_fewest vW vIW vAlone wi wa mo by_) _ := rfewest_ok hI _ _ _ _ _ _
  refine cI_up (k_X9_fewest l D g m_y e_y m_aWorlds e_aWorlds m_aInWorld e_aInWorld m_aKind e_aKind m_aSize e_aSize m_aMarks e_aMarks m_aSeed e_aSeed m_aContents e_aContents m_aContentMany e_aContentMany m_aRow e_aRow m_aBits e_aBits m_aLayerSize e_aLayerSize m_aLayerCame e_aLayerCame m_aRest e_aRest m_aRestMany e_aRestMany m_aCome e_aCome m_aRivals e_aRivals m_aGone e_aGone m_aOrder e_aOrder m_aOffAt e_aOffAt m_aIsOff e_aIsOff m_aAlone e_aAlone m_aKept e_aKept r_aAlone r_aKept hz) (by decide) (by decide) (by decide) (by decide) (by decide) (by decide) (fun x L1 f1 P => ?_)
  obtain ⟨-, eL, fv, E_aAlone⟩ := P
  subst eL
  have FT : ∀ b, b ∈ L1 → ¬ TR [22] (ρ b) → f1 b = f b := fun b hb ht => fv b hb (ne_T (tr_y r_aAlone (by decide)) ht)
  refine CR_up (vW := vW) (vIW := vIW) [22] hB hS FT ((FT _ m_y (tr_n r_y (by decide))).trans e_y) ((FT _ m_aWorlds (tr_n r_aWorlds (by decide))).trans e_aWorlds) ((FT _ m_aInWorld (tr_n r_aInWorld (by decide))).trans e_aInWorld) ((FT _ m_aKind (tr_n r_aKind (by decide))).trans e_aKind) ((FT _ m_aSize (tr_n r_aSize (by decide))).trans e_aSize) ((FT _ m_aMarks (tr_n r_aMarks (by decide))).trans e_aMarks) ((FT _ m_aContentMany (tr_n r_aContentMany (by decide))).trans e_aContentMany) ((FT _ m_aLayerSize (tr_n r_aLayerSize (by decide))).trans e_aLayerSize) ((FT _ m_aRestMany (tr_n r_aRestMany (by decide))).trans e_aRestMany) ?_ hI ⟨rfl, rfl⟩
  intro k hk hK
  have hc : k = 22 := by
    have hh : ∀ q, q ∈ [6, 7, 9, 10, 12, 13, 16, 17, 18, 19, 20, 21, 22, 23] → q ∈ [22] → q = 22 := by decide
    exact hh k hk hK
  subst hc
  exact ⟨_, E_aAlone⟩
set_option maxHeartbeats 1000000 in
theorem rc_remove (l : Launch) (D : va_G) {ρ : Nat → Nat × Nat} {g : Nat → ClassId} {L : List Nat} {f : Nat → va_E} {y : Nat} {vW : Nat → Int64} {vIW : Nat → Int32} (C : CfR ρ g L f y vW vIW)  : cI l yX9_remove wsX9_remove (RmC 0 0) D g [.ref y] L f 0 0 (fun x L1 f1 => ResR ρ g L f y (Sme vW vIW) L1 f1) := by
  have CC := C
  obtain ⟨B, many, vKind, vSize, vMarks, vContentMany, vRestMany, vLayerSize, rfl, hB, ⟨e_y, e_aWorlds, e_aInWorld, e_aKind, e_aSize, e_aMarks, e_aContentMany, e_aLayerSize, e_aRestMany, hS⟩, hI⟩ := C
  obtain ⟨vSeed, e_aSeed⟩ := hS 6 (by decide)
  obtain ⟨vContents, e_aContents⟩ := hS 7 (by decide)
  obtain ⟨vRow, e_aRow⟩ := hS 9 (by decide)
  obtain ⟨vBits, e_aBits⟩ := hS 10 (by decide)
  obtain ⟨vLayerCame, e_aLayerCame⟩ := hS 12 (by decide)
  obtain ⟨vRest, e_aRest⟩ := hS 13 (by decide)
  obtain ⟨vCome, e_aCome⟩ := hS 16 (by decide)
  obtain ⟨vRivals, e_aRivals⟩ := hS 17 (by decide)
  obtain ⟨vGone, e_aGone⟩ := hS 18 (by decide)
  obtain ⟨vOrder, e_aOrder⟩ := hS 19 (by decide)
  obtain ⟨vOffAt, e_aOffAt⟩ := hS 20 (by decide)
  obtain ⟨vIsOff, e_aIsOff⟩ := hS 21 (by decide)
  obtain ⟨vAlone, e_aAlone⟩ := hS 22 (by decide)
  obtain ⟨vKept, e_aKept⟩ := hS 23 (by decide)
  have m_aWorlds := (hB 1 (by decide) (by decide)).1
  have r_aWorlds := (hB 1 (by decide) (by decide)).2
  have m_aInWorld := (hB 2 (by decide) (by decide)).1
  have r_aInWorld := (hB 2 (by decide) (by decide)).2
  have m_aKind := (hB 3 (by decide) (by decide)).1
  have r_aKind := (hB 3 (by decide) (by decide)).2
  have m_aSize := (hB 4 (by decide) (by decide)).1
  have r_aSize := (hB 4 (by decide) (by decide)).2
  have m_aMarks := (hB 5 (by decide) (by decide)).1
  have r_aMarks := (hB 5 (by decide) (by decide)).2
  have m_aSeed := (hB 6 (by decide) (by decide)).1
  have r_aSeed := (hB 6 (by decide) (by decide)).2
  have m_aContents := (hB 7 (by decide) (by decide)).1
  have r_aContents := (hB 7 (by decide) (by decide)).2
  have m_aContentMany := (hB 8 (by decide) (by decide)).1
  have r_aContentMany := (hB 8 (by decide) (by decide)).2
  have m_aRow := (hB 9 (by decide) (by decide)).1
  have r_aRow := (hB 9 (by decide) (by decide)).2
  have m_aBits := (hB 10 (by decide) (by decide)).1
  have r_aBits := (hB 10 (by decide) (by decide)).2
  have m_aLayerSize := (hB 11 (by decide) (by decide)).1
  have r_aLayerSize := (hB 11 (by decide) (by decide)).2
  have m_aLayerCame := (hB 12 (by decide) (by decide)).1
  have r_aLayerCame := (hB 12 (by decide) (by decide)).2
  have m_aRest := (hB 13 (by decide) (by decide)).1
  have r_aRest := (hB 13 (by decide) (by decide)).2
  have m_aRestMany := (hB 14 (by decide) (by decide)).1
  have r_aRestMany := (hB 14 (by decide) (by decide)).2
  have m_aCome := (hB 16 (by decide) (by decide)).1
  have r_aCome := (hB 16 (by decide) (by decide)).2
  have m_aRivals := (hB 17 (by decide) (by decide)).1
  have r_aRivals := (hB 17 (by decide) (by decide)).2
  have m_aGone := (hB 18 (by decide) (by decide)).1
  have r_aGone := (hB 18 (by decide) (by decide)).2
  have m_aOrder := (hB 19 (by decide) (by decide)).1
  have r_aOrder := (hB 19 (by decide) (by decide)).2
  have m_aOffAt := (hB 20 (by decide) (by decide)).1
  have r_aOffAt := (hB 20 (by decide) (by decide)).2
  have m_aIsOff := (hB 21 (by decide) (by decide)).1
  have r_aIsOff := (hB 21 (by decide) (by decide)).2
  have m_aAlone := (hB 22 (by decide) (by decide)).1
  have r_aAlone := (hB 22 (by decide) (by decide)).2
  have m_aKept := (hB 23 (by decide) (by decide)).1
  have r_aKept := (hB 23 (by decide) (by decide)).2
  have m_y := (hB 0 (by decide) (by decide)).1
  have r_y := (hB 0 (by decide) (by decide)).2
  obtain ⟨z, hz, hq⟩ : OK (mX9_remove many) _ := rremove_ok hI
  refine cI_up (k_X9_remove l D g m_y e_y hz) (by decide) (by decide) (by decide) (by decide) (by decide) (by decide) (fun x L1 f1 P => ?_)
  obtain ⟨-, eL, fv, E_y⟩ := P
  subst eL
  have FT : ∀ b, b ∈ L1 → ¬ TR [0] (ρ b) → f1 b = f b := fun b hb ht => fv b hb (ne_T (tr_y r_y (by decide)) ht)
  refine CR_up (vW := vW) (vIW := vIW) [0] hB hS FT E_y ((FT _ m_aWorlds (tr_n r_aWorlds (by decide))).trans e_aWorlds) ((FT _ m_aInWorld (tr_n r_aInWorld (by decide))).trans e_aInWorld) ((FT _ m_aKind (tr_n r_aKind (by decide))).trans e_aKind) ((FT _ m_aSize (tr_n r_aSize (by decide))).trans e_aSize) ((FT _ m_aMarks (tr_n r_aMarks (by decide))).trans e_aMarks) ((FT _ m_aContentMany (tr_n r_aContentMany (by decide))).trans e_aContentMany) ((FT _ m_aLayerSize (tr_n r_aLayerSize (by decide))).trans e_aLayerSize) ((FT _ m_aRestMany (tr_n r_aRestMany (by decide))).trans e_aRestMany) ?_ hq ⟨rfl, rfl⟩
  intro k hk hK
  have hc : False := by
    have hh : ∀ q, q ∈ [6, 7, 9, 10, 12, 13, 16, 17, 18, 19, 20, 21, 22, 23] → q ∈ [0] → False := by decide
    exact hh k hk hK
  exact hc.elim
set_option maxHeartbeats 1000000 in
theorem rc_sieves (l : Launch) (D : va_G) {ρ : Nat → Nat × Nat} {g : Nat → ClassId} {L : List Nat} {f : Nat → va_E} {y : Nat} {vW : Nat → Int64} {vIW : Nat → Int32} (C : CfR ρ g L f y vW vIW)  : cI l yX9_sieves wsX9_sieves (RmC 0 0) D g [.ref y] L f 0 0 (fun x L1 f1 => ResR ρ g L f y (Sme vW vIW) L1 f1) := by
  have CC := C
  obtain ⟨B, many, vKind, vSize, vMarks, vContentMany, vRestMany, vLayerSize, rfl, hB, ⟨e_y, e_aWorlds, e_aInWorld, e_aKind, e_aSize, e_aMarks, e_aContentMany, e_aLayerSize, e_aRestMany, hS⟩, hI⟩ := C
  obtain ⟨vSeed, e_aSeed⟩ := hS 6 (by decide)
  obtain ⟨vContents, e_aContents⟩ := hS 7 (by decide)
  obtain ⟨vRow, e_aRow⟩ := hS 9 (by decide)
  obtain ⟨vBits, e_aBits⟩ := hS 10 (by decide)
  obtain ⟨vLayerCame, e_aLayerCame⟩ := hS 12 (by decide)
  obtain ⟨vRest, e_aRest⟩ := hS 13 (by decide)
  obtain ⟨vCome, e_aCome⟩ := hS 16 (by decide)
  obtain ⟨vRivals, e_aRivals⟩ := hS 17 (by decide)
  obtain ⟨vGone, e_aGone⟩ := hS 18 (by decide)
  obtain ⟨vOrder, e_aOrder⟩ := hS 19 (by decide)
  obtain ⟨vOffAt, e_aOffAt⟩ := hS 20 (by decide)
  obtain ⟨vIsOff, e_aIsOff⟩ := hS 21 (by decide)
  obtain ⟨vAlone, e_aAlone⟩ := hS 22 (by decide)
  obtain ⟨vKept, e_aKept⟩ := hS 23 (by decide)
  have m_aWorlds := (hB 1 (by decide) (by decide)).1
  have r_aWorlds := (hB 1 (by decide) (by decide)).2
  have m_aInWorld := (hB 2 (by decide) (by decide)).1
  have r_aInWorld := (hB 2 (by decide) (by decide)).2
  have m_aKind := (hB 3 (by decide) (by decide)).1
  have r_aKind := (hB 3 (by decide) (by decide)).2
  have m_aSize := (hB 4 (by decide) (by decide)).1
  have r_aSize := (hB 4 (by decide) (by decide)).2
  have m_aMarks := (hB 5 (by decide) (by decide)).1
  have r_aMarks := (hB 5 (by decide) (by decide)).2
  have m_aSeed := (hB 6 (by decide) (by decide)).1
  have r_aSeed := (hB 6 (by decide) (by decide)).2
  have m_aContents := (hB 7 (by decide) (by decide)).1
  have r_aContents := (hB 7 (by decide) (by decide)).2
  have m_aContentMany := (hB 8 (by decide) (by decide)).1
  have r_aContentMany := (hB 8 (by decide) (by decide)).2
  have m_aRow := (hB 9 (by decide) (by decide)).1
  have r_aRow := (hB 9 (by decide) (by decide)).2
  have m_aBits := (hB 10 (by decide) (by decide)).1
  have r_aBits := (hB 10 (by decide) (by decide)).2
  have m_aLayerSize := (hB 11 (by decide) (by decide)).1
  have r_aLayerSize := (hB 11 (by decide) (by decide)).2
  have m_aLayerCame := (hB 12 (by decide) (by decide)).1
  have r_aLayerCame := (hB 12 (by decide) (by decide)).2
  have m_aRest := (hB 13 (by decide) (by decide)).1
  have r_aRest := (hB 13 (by decide) (by decide)).2
  have m_aRestMany := (hB 14 (by decide) (by decide)).1
  have r_aRestMany := (hB 14 (by decide) (by decide)).2
  have m_aCome := (hB 16 (by decide) (by decide)).1
  have r_aCome := (hB 16 (by decide) (by decide)).2
  have m_aRivals := (hB 17 (by decide) (by decide)).1
  have r_aRivals := (hB 17 (by decide) (by decide)).2
  have m_aGone := (hB 18 (by decide) (by decide)).1
  have r_aGone := (hB 18 (by decide) (by decide)).2
  have m_aOrder := (hB 19 (by decide) (by decide)).1
  have r_aOrder := (hB 19 (by decide) (by decide)).2
  have m_aOffAt := (hB 20 (by decide) (by decide)).1
  have r_aOffAt := (hB 20 (by decide) (by decide)).2
  have m_aIsOff := (hB 21 (by decide) (by decide)).1
  have r_aIsOff := (hB 21 (by decide) (by decide)).2
  have m_aAlone := (hB 22 (by decide) (by decide)).1
  have r_aAlone := (hB 22 (by decide) (by decide)).2
  have m_aKept := (hB 23 (by decide) (by decide)).1
  have r_aKept := (hB 23 (by decide) (by decide)).2
  have m_y := (hB 0 (by decide) (by decide)).1
  have r_y := (hB 0 (by decide) (by decide)).2
  obtain ⟨z, hz⟩ : ∃ z, mX9_sieves many = some z := ⟨_, rfl⟩
  refine cI_up (k_X9_sieves l D g m_y e_y hz) (by decide) (by decide) (by decide) (by decide) (by decide) (by decide) (fun x L1 f1 P => ?_)
  obtain ⟨-, eL, ef⟩ := P
  subst eL ef
  exact ResR_same CC
def SpRP (wN : Nat → Nat) (wV : Nat → Nat → Int64) (wi : Int32) (fi : Int64) (st_ nn : Int32) (vW : Nat → Int64) (vIW : Nat → Int32) (a : Nat → Int64) (b : Nat → Int32) : Prop := (mX9_isWorld wi = some 0 ∧ Sme vW vIW a b) ∨ ∃ j, j < 8 ∧ wi = nI j ∧ FrW vW vIW j a b ∧ ∃ m, b j = nI m ∧ SpR (wN j) (wV j) fi st_ nn m (wOf a j)
set_option maxHeartbeats 1000000 in
theorem rc_span (l : Launch) (D : va_G) {ρ : Nat → Nat × Nat} {g : Nat → ClassId} {L : List Nat} {f : Nat → va_E} {y : Nat} {vW : Nat → Int64} {vIW : Nat → Int32} (C : CfR ρ g L f y vW vIW) {wN : Nat → Nat} {wV : Nat → Nat → Int64} (hK : Lk wN wV vW vIW) (hR : WRs wN wV) (wi : Int32) (fi : Int64) (st_ : Int32) (nn : Int32) : cI l yX9_span wsX9_span (RmC 0 0) D g [.ref y, .int wi, .long fi, .int st_, .int nn] L f 0 0 (fun x L1 f1 => AnW (-1) wi (fun j x => SpA (wN j) (wV j) fi st_ nn x) x ∧ ResR ρ g L f y (SpRP wN wV wi fi st_ nn vW vIW) L1 f1) := by
  have CC := C
  obtain ⟨B, many, vKind, vSize, vMarks, vContentMany, vRestMany, vLayerSize, rfl, hB, ⟨e_y, e_aWorlds, e_aInWorld, e_aKind, e_aSize, e_aMarks, e_aContentMany, e_aLayerSize, e_aRestMany, hS⟩, hI⟩ := C
  obtain ⟨vSeed, e_aSeed⟩ := hS 6 (by decide)
  obtain ⟨vContents, e_aContents⟩ := hS 7 (by decide)
  obtain ⟨vRow, e_aRow⟩ := hS 9 (by decide)
  obtain ⟨vBits, e_aBits⟩ := hS 10 (by decide)
  obtain ⟨vLayerCame, e_aLayerCame⟩ := hS 12 (by decide)
  obtain ⟨vRest, e_aRest⟩ := hS 13 (by decide)
  obtain ⟨vCome, e_aCome⟩ := hS 16 (by decide)
  obtain ⟨vRivals, e_aRivals⟩ := hS 17 (by decide)
  obtain ⟨vGone, e_aGone⟩ := hS 18 (by decide)
  obtain ⟨vOrder, e_aOrder⟩ := hS 19 (by decide)
  obtain ⟨vOffAt, e_aOffAt⟩ := hS 20 (by decide)
  obtain ⟨vIsOff, e_aIsOff⟩ := hS 21 (by decide)
  obtain ⟨vAlone, e_aAlone⟩ := hS 22 (by decide)
  obtain ⟨vKept, e_aKept⟩ := hS 23 (by decide)
  have m_aWorlds := (hB 1 (by decide) (by decide)).1
  have r_aWorlds := (hB 1 (by decide) (by decide)).2
  have m_aInWorld := (hB 2 (by decide) (by decide)).1
  have r_aInWorld := (hB 2 (by decide) (by decide)).2
  have m_aKind := (hB 3 (by decide) (by decide)).1
  have r_aKind := (hB 3 (by decide) (by decide)).2
  have m_aSize := (hB 4 (by decide) (by decide)).1
  have r_aSize := (hB 4 (by decide) (by decide)).2
  have m_aMarks := (hB 5 (by decide) (by decide)).1
  have r_aMarks := (hB 5 (by decide) (by decide)).2
  have m_aSeed := (hB 6 (by decide) (by decide)).1
  have r_aSeed := (hB 6 (by decide) (by decide)).2
  have m_aContents := (hB 7 (by decide) (by decide)).1
  have r_aContents := (hB 7 (by decide) (by decide)).2
  have m_aContentMany := (hB 8 (by decide) (by decide)).1
  have r_aContentMany := (hB 8 (by decide) (by decide)).2
  have m_aRow := (hB 9 (by decide) (by decide)).1
  have r_aRow := (hB 9 (by decide) (by decide)).2
  have m_aBits := (hB 10 (by decide) (by decide)).1
  have r_aBits := (hB 10 (by decide) (by decide)).2
  have m_aLayerSize := (hB 11 (by decide) (by decide)).1
  have r_aLayerSize := (hB 11 (by decide) (by decide)).2
  have m_aLayerCame := (hB 12 (by decide) (by decide)).1
  have r_aLayerCame := (hB 12 (by decide) (by decide)).2
  have m_aRest := (hB 13 (by decide) (by decide)).1
  have r_aRest := (hB 13 (by decide) (by decide)).2
  have m_aRestMany := (hB 14 (by decide) (by decide)).1
  have r_aRestMany := (hB 14 (by decide) (by decide)).2
  have m_aCome := (hB 16 (by decide) (by decide)).1
  have r_aCome := (hB 16 (by decide) (by decide)).2
  have m_aRivals := (hB 17 (by decide) (by decide)).1
  have r_aRivals := (hB 17 (by decide) (by decide)).2
  have m_aGone := (hB 18 (by decide) (by decide)).1
  have r_aGone := (hB 18 (by decide) (by decide)).2
  have m_aOrder := (hB 19 (by decide) (by decide)).1
  have r_aOrder := (hB 19 (by decide) (by decide)).2
  have m_aOffAt := (hB 20 (by decide) (by decide)).1
  have r_aOffAt := (hB 20 (by decide) (by decide)).2
  have m_aIsOff := (hB 21 (by decide) (by decide)).1
  have r_aIsOff := (hB 21 (by decide) (by decide)).2
  have m_aAlone := (hB 22 (by decide) (by decide)).1
  have r_aAlone := (hB 22 (by decide) (by decide)).2
  have m_aKept := (hB 23 (by decide) (by decide)).1
  have r_aKept := (hB 23 (by decide) (by decide)).2
  have m_y := (hB 0 (by decide) (by decide)).1
  have r_y := (hB 0 (by decide) (by decide)).2
  rcases isW_v wi with q | ⟨q, j, hj, rfl⟩
  · obtain ⟨z, hz, hq0, hq1, hq2⟩ : ∃ z, mX9_span vW vIW wi fi st_ nn = some z ∧ z.1 = -1 ∧ z.2.1 = vW ∧ z.2.2 = vIW := by
      refine ⟨(-1, vW, vIW), ?_, rfl, rfl, rfl⟩
      unfold mX9_span
      rw [q, sb_]
      exact if_pos rfl
    refine cI_up (k_X9_span l D g m_y e_y m_aWorlds e_aWorlds m_aInWorld e_aInWorld m_aKind e_aKind m_aSize e_aSize m_aMarks e_aMarks m_aSeed e_aSeed m_aContents e_aContents m_aContentMany e_aContentMany m_aRow e_aRow m_aBits e_aBits m_aLayerSize e_aLayerSize m_aLayerCame e_aLayerCame m_aRest e_aRest m_aRestMany e_aRestMany m_aCome e_aCome m_aRivals e_aRivals m_aGone e_aGone m_aOrder e_aOrder m_aOffAt e_aOffAt m_aIsOff e_aIsOff m_aAlone e_aAlone m_aKept e_aKept hz) (by decide) (by decide) (by decide) (by decide) (by decide) (by decide) (fun x L1 f1 P => ?_)
    obtain ⟨ex, eL, fv, E_aWorlds, E_aInWorld⟩ := P
    subst eL ex
    refine ⟨Or.inl ⟨q, hq0⟩, ?_⟩
    have FT : ∀ b, b ∈ L1 → ¬ TR [1, 2] (ρ b) → f1 b = f b := fun b hb ht => fv b hb (ne_T (tr_y r_aWorlds (by decide)) ht) (ne_T (tr_y r_aInWorld (by decide)) ht)
    refine CR_up (vW := z.2.1) (vIW := z.2.2) [1, 2] hB hS FT ((FT _ m_y (tr_n r_y (by decide))).trans e_y) E_aWorlds E_aInWorld ((FT _ m_aKind (tr_n r_aKind (by decide))).trans e_aKind) ((FT _ m_aSize (tr_n r_aSize (by decide))).trans e_aSize) ((FT _ m_aMarks (tr_n r_aMarks (by decide))).trans e_aMarks) ((FT _ m_aContentMany (tr_n r_aContentMany (by decide))).trans e_aContentMany) ((FT _ m_aLayerSize (tr_n r_aLayerSize (by decide))).trans e_aLayerSize) ((FT _ m_aRestMany (tr_n r_aRestMany (by decide))).trans e_aRestMany) ?_ (by rw [hq2]; exact hI) (Or.inl ⟨q, hq1, hq2⟩)
    intro k hk hK
    have hc : False := by
      have hh : ∀ q, q ∈ [6, 7, 9, 10, 12, 13, 16, 17, 18, 19, 20, 21, 22, 23] → q ∈ [1, 2] → False := by decide
      exact hh k hk hK
    exact hc.elim
  · obtain ⟨z, hz, hq, m, hm, hq2, hq3⟩ := rspan_ok hj (hR j hj).1 (hK j hj).1 (hR j hj).2 (hK j hj).2 fi st_ nn
    have hI2 : RI many z.2.2 vKind vSize vMarks vContentMany vRestMany vLayerSize := by
      refine ⟨hI.1, fun i hi => ?_⟩
      by_cases hij : i = j
      · rw [hij]
        exact ⟨m, (SpR_w (hR j hj).1 (hR j hj).2 hq2).1, hm⟩
      · rw [hq.1 i hij]
        exact hI.2 i hi
    refine cI_up (k_X9_span l D g m_y e_y m_aWorlds e_aWorlds m_aInWorld e_aInWorld m_aKind e_aKind m_aSize e_aSize m_aMarks e_aMarks m_aSeed e_aSeed m_aContents e_aContents m_aContentMany e_aContentMany m_aRow e_aRow m_aBits e_aBits m_aLayerSize e_aLayerSize m_aLayerCame e_aLayerCame m_aRest e_aRest m_aRestMany e_aRestMany m_aCome e_aCome m_aRivals e_aRivals m_aGone e_aGone m_aOrder e_aOrder m_aOffAt e_aOffAt m_aIsOff e_aIsOff m_aAlone e_aAlone m_aKept e_aKept hz) (by decide) (by decide) (by decide) (by decide) (by decide) (by decide) (fun x L1 f1 P => ?_)
    obtain ⟨ex, eL, fv, E_aWorlds, E_aInWorld⟩ := P
    subst eL ex
    refine ⟨Or.inr ⟨j, hj, rfl, hq3⟩, ?_⟩
    have FT : ∀ b, b ∈ L1 → ¬ TR [1, 2] (ρ b) → f1 b = f b := fun b hb ht => fv b hb (ne_T (tr_y r_aWorlds (by decide)) ht) (ne_T (tr_y r_aInWorld (by decide)) ht)
    refine CR_up (vW := z.2.1) (vIW := z.2.2) [1, 2] hB hS FT ((FT _ m_y (tr_n r_y (by decide))).trans e_y) E_aWorlds E_aInWorld ((FT _ m_aKind (tr_n r_aKind (by decide))).trans e_aKind) ((FT _ m_aSize (tr_n r_aSize (by decide))).trans e_aSize) ((FT _ m_aMarks (tr_n r_aMarks (by decide))).trans e_aMarks) ((FT _ m_aContentMany (tr_n r_aContentMany (by decide))).trans e_aContentMany) ((FT _ m_aLayerSize (tr_n r_aLayerSize (by decide))).trans e_aLayerSize) ((FT _ m_aRestMany (tr_n r_aRestMany (by decide))).trans e_aRestMany) ?_ hI2 (Or.inr ⟨j, hj, rfl, hq, m, hm, hq2⟩)
    intro k hk hK
    have hc : False := by
      have hh : ∀ q, q ∈ [6, 7, 9, 10, 12, 13, 16, 17, 18, 19, 20, 21, 22, 23] → q ∈ [1, 2] → False := by decide
      exact hh k hk hK
    exact hc.elim
def TkRP (wN : Nat → Nat) (wV : Nat → Nat → Int64) (wi : Int32) (t : Int64) (vW : Nat → Int64) (vIW : Nat → Int32) (a : Nat → Int64) (b : Nat → Int32) : Prop := (mX9_isWorld wi = some 0 ∧ Sme vW vIW a b) ∨ ∃ j, j < 8 ∧ wi = nI j ∧ FrW vW vIW j a b ∧ ∃ m, b j = nI m ∧ TkR (wN j) (wV j) t m (wOf a j)
set_option maxHeartbeats 1000000 in
theorem rc_take (l : Launch) (D : va_G) {ρ : Nat → Nat × Nat} {g : Nat → ClassId} {L : List Nat} {f : Nat → va_E} {y : Nat} {vW : Nat → Int64} {vIW : Nat → Int32} (C : CfR ρ g L f y vW vIW) {wN : Nat → Nat} {wV : Nat → Nat → Int64} (hK : Lk wN wV vW vIW) (hR : WRs wN wV) (wi : Int32) (t : Int64) : cI l yX9_take wsX9_take (RmC 0 0) D g [.ref y, .int wi, .long t] L f 0 0 (fun x L1 f1 => AnW (-1) wi (fun j x => TkA (wN j) (wV j) t x) x ∧ ResR ρ g L f y (TkRP wN wV wi t vW vIW) L1 f1) := by
  have CC := C
  obtain ⟨B, many, vKind, vSize, vMarks, vContentMany, vRestMany, vLayerSize, rfl, hB, ⟨e_y, e_aWorlds, e_aInWorld, e_aKind, e_aSize, e_aMarks, e_aContentMany, e_aLayerSize, e_aRestMany, hS⟩, hI⟩ := C
  obtain ⟨vSeed, e_aSeed⟩ := hS 6 (by decide)
  obtain ⟨vContents, e_aContents⟩ := hS 7 (by decide)
  obtain ⟨vRow, e_aRow⟩ := hS 9 (by decide)
  obtain ⟨vBits, e_aBits⟩ := hS 10 (by decide)
  obtain ⟨vLayerCame, e_aLayerCame⟩ := hS 12 (by decide)
  obtain ⟨vRest, e_aRest⟩ := hS 13 (by decide)
  obtain ⟨vCome, e_aCome⟩ := hS 16 (by decide)
  obtain ⟨vRivals, e_aRivals⟩ := hS 17 (by decide)
  obtain ⟨vGone, e_aGone⟩ := hS 18 (by decide)
  obtain ⟨vOrder, e_aOrder⟩ := hS 19 (by decide)
  obtain ⟨vOffAt, e_aOffAt⟩ := hS 20 (by decide)
  obtain ⟨vIsOff, e_aIsOff⟩ := hS 21 (by decide)
  obtain ⟨vAlone, e_aAlone⟩ := hS 22 (by decide)
  obtain ⟨vKept, e_aKept⟩ := hS 23 (by decide)
  have m_aWorlds := (hB 1 (by decide) (by decide)).1
  have r_aWorlds := (hB 1 (by decide) (by decide)).2
  have m_aInWorld := (hB 2 (by decide) (by decide)).1
  have r_aInWorld := (hB 2 (by decide) (by decide)).2
  have m_aKind := (hB 3 (by decide) (by decide)).1
  have r_aKind := (hB 3 (by decide) (by decide)).2
  have m_aSize := (hB 4 (by decide) (by decide)).1
  have r_aSize := (hB 4 (by decide) (by decide)).2
  have m_aMarks := (hB 5 (by decide) (by decide)).1
  have r_aMarks := (hB 5 (by decide) (by decide)).2
  have m_aSeed := (hB 6 (by decide) (by decide)).1
  have r_aSeed := (hB 6 (by decide) (by decide)).2
  have m_aContents := (hB 7 (by decide) (by decide)).1
  have r_aContents := (hB 7 (by decide) (by decide)).2
  have m_aContentMany := (hB 8 (by decide) (by decide)).1
  have r_aContentMany := (hB 8 (by decide) (by decide)).2
  have m_aRow := (hB 9 (by decide) (by decide)).1
  have r_aRow := (hB 9 (by decide) (by decide)).2
  have m_aBits := (hB 10 (by decide) (by decide)).1
  have r_aBits := (hB 10 (by decide) (by decide)).2
  have m_aLayerSize := (hB 11 (by decide) (by decide)).1
  have r_aLayerSize := (hB 11 (by decide) (by decide)).2
  have m_aLayerCame := (hB 12 (by decide) (by decide)).1
  have r_aLayerCame := (hB 12 (by decide) (by decide)).2
  have m_aRest := (hB 13 (by decide) (by decide)).1
  have r_aRest := (hB 13 (by decide) (by decide)).2
  have m_aRestMany := (hB 14 (by decide) (by decide)).1
  have r_aRestMany := (hB 14 (by decide) (by decide)).2
  have m_aCome := (hB 16 (by decide) (by decide)).1
  have r_aCome := (hB 16 (by decide) (by decide)).2
  have m_aRivals := (hB 17 (by decide) (by decide)).1
  have r_aRivals := (hB 17 (by decide) (by decide)).2
  have m_aGone := (hB 18 (by decide) (by decide)).1
  have r_aGone := (hB 18 (by decide) (by decide)).2
  have m_aOrder := (hB 19 (by decide) (by decide)).1
  have r_aOrder := (hB 19 (by decide) (by decide)).2
  have m_aOffAt := (hB 20 (by decide) (by decide)).1
  have r_aOffAt := (hB 20 (by decide) (by decide)).2
  have m_aIsOff := (hB 21 (by decide) (by decide)).1
  have r_aIsOff := (hB 21 (by decide) (by decide)).2
  have m_aAlone := (hB 22 (by decide) (by decide)).1
  have r_aAlone := (hB 22 (by decide) (by decide)).2
  have m_aKept := (hB 23 (by decide) (by decide)).1
  have r_aKept := (hB 23 (by decide) (by decide)).2
  have m_y := (hB 0 (by decide) (by decide)).1
  have r_y := (hB 0 (by decide) (by decide)).2
  rcases isW_v wi with q | ⟨q, j, hj, rfl⟩
  · obtain ⟨z, hz, hq0, hq1, hq2⟩ : ∃ z, mX9_take vW vIW wi t = some z ∧ z.1 = -1 ∧ z.2.1 = vW ∧ z.2.2 = vIW := by
      refine ⟨(-1, vW, vIW), ?_, rfl, rfl, rfl⟩
      unfold mX9_take
      rw [q, sb_]
      exact (if_pos rfl).trans (if_neg (by decide))
    refine cI_up (k_X9_take l D g m_y e_y m_aWorlds e_aWorlds m_aInWorld e_aInWorld m_aKind e_aKind m_aSize e_aSize m_aMarks e_aMarks m_aSeed e_aSeed m_aContents e_aContents m_aContentMany e_aContentMany m_aRow e_aRow m_aBits e_aBits m_aLayerSize e_aLayerSize m_aLayerCame e_aLayerCame m_aRest e_aRest m_aRestMany e_aRestMany m_aCome e_aCome m_aRivals e_aRivals m_aGone e_aGone m_aOrder e_aOrder m_aOffAt e_aOffAt m_aIsOff e_aIsOff m_aAlone e_aAlone m_aKept e_aKept hz) (by decide) (by decide) (by decide) (by decide) (by decide) (by decide) (fun x L1 f1 P => ?_)
    obtain ⟨ex, eL, fv, E_aWorlds, E_aInWorld⟩ := P
    subst eL ex
    refine ⟨Or.inl ⟨q, hq0⟩, ?_⟩
    have FT : ∀ b, b ∈ L1 → ¬ TR [1, 2] (ρ b) → f1 b = f b := fun b hb ht => fv b hb (ne_T (tr_y r_aWorlds (by decide)) ht) (ne_T (tr_y r_aInWorld (by decide)) ht)
    refine CR_up (vW := z.2.1) (vIW := z.2.2) [1, 2] hB hS FT ((FT _ m_y (tr_n r_y (by decide))).trans e_y) E_aWorlds E_aInWorld ((FT _ m_aKind (tr_n r_aKind (by decide))).trans e_aKind) ((FT _ m_aSize (tr_n r_aSize (by decide))).trans e_aSize) ((FT _ m_aMarks (tr_n r_aMarks (by decide))).trans e_aMarks) ((FT _ m_aContentMany (tr_n r_aContentMany (by decide))).trans e_aContentMany) ((FT _ m_aLayerSize (tr_n r_aLayerSize (by decide))).trans e_aLayerSize) ((FT _ m_aRestMany (tr_n r_aRestMany (by decide))).trans e_aRestMany) ?_ (by rw [hq2]; exact hI) (Or.inl ⟨q, hq1, hq2⟩)
    intro k hk hK
    have hc : False := by
      have hh : ∀ q, q ∈ [6, 7, 9, 10, 12, 13, 16, 17, 18, 19, 20, 21, 22, 23] → q ∈ [1, 2] → False := by decide
      exact hh k hk hK
    exact hc.elim
  · obtain ⟨z, hz, hq, m, hm, hq2, hq3⟩ := rtake_ok hj (hR j hj).1 (hK j hj).1 (hK j hj).2 t
    have hI2 : RI many z.2.2 vKind vSize vMarks vContentMany vRestMany vLayerSize := by
      refine ⟨hI.1, fun i hi => ?_⟩
      by_cases hij : i = j
      · rw [hij]
        exact ⟨m, (TkR_w (hR j hj).1 (hR j hj).2 hq2).1, hm⟩
      · rw [hq.1 i hij]
        exact hI.2 i hi
    refine cI_up (k_X9_take l D g m_y e_y m_aWorlds e_aWorlds m_aInWorld e_aInWorld m_aKind e_aKind m_aSize e_aSize m_aMarks e_aMarks m_aSeed e_aSeed m_aContents e_aContents m_aContentMany e_aContentMany m_aRow e_aRow m_aBits e_aBits m_aLayerSize e_aLayerSize m_aLayerCame e_aLayerCame m_aRest e_aRest m_aRestMany e_aRestMany m_aCome e_aCome m_aRivals e_aRivals m_aGone e_aGone m_aOrder e_aOrder m_aOffAt e_aOffAt m_aIsOff e_aIsOff m_aAlone e_aAlone m_aKept e_aKept hz) (by decide) (by decide) (by decide) (by decide) (by decide) (by decide) (fun x L1 f1 P => ?_)
    obtain ⟨ex, eL, fv, E_aWorlds, E_aInWorld⟩ := P
    subst eL ex
    refine ⟨Or.inr ⟨j, hj, rfl, hq3⟩, ?_⟩
    have FT : ∀ b, b ∈ L1 → ¬ TR [1, 2] (ρ b) → f1 b = f b := fun b hb ht => fv b hb (ne_T (tr_y r_aWorlds (by decide)) ht) (ne_T (tr_y r_aInWorld (by decide)) ht)
    refine CR_up (vW := z.2.1) (vIW := z.2.2) [1, 2] hB hS FT ((FT _ m_y (tr_n r_y (by decide))).trans e_y) E_aWorlds E_aInWorld ((FT _ m_aKind (tr_n r_aKind (by decide))).trans e_aKind) ((FT _ m_aSize (tr_n r_aSize (by decide))).trans e_aSize) ((FT _ m_aMarks (tr_n r_aMarks (by decide))).trans e_aMarks) ((FT _ m_aContentMany (tr_n r_aContentMany (by decide))).trans e_aContentMany) ((FT _ m_aLayerSize (tr_n r_aLayerSize (by decide))).trans e_aLayerSize) ((FT _ m_aRestMany (tr_n r_aRestMany (by decide))).trans e_aRestMany) ?_ hI2 (Or.inr ⟨j, hj, rfl, hq, m, hm, hq2⟩)
    intro k hk hK
    have hc : False := by
      have hh : ∀ q, q ∈ [6, 7, 9, 10, 12, 13, 16, 17, 18, 19, 20, 21, 22, 23] → q ∈ [1, 2] → False := by decide
      exact hh k hk hK
    exact hc.elim
