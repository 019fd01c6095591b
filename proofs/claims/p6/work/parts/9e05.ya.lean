/-! ===== the reference's whole state ===== -/
abbrev RT : Type := Int32 × (Nat → Int64) × (Nat → Int32) × (Nat → Int32) × (Nat → Int32) × (Nat → Int32) × (Nat → Int32) × (Nat → Int64) × (Nat → Int32) × (Nat → Int32) × (Nat → Int32) × (Nat → Int32) × (Nat → Int32) × (Nat → Int64) × (Nat → Int32)
def ShY (g : Nat → ClassId) (e : va_E) : Nat → Prop
  | 16 => ∃ v, e = .inl (g 1, 1000, .inr (.inl v))
  | 17 => ∃ v, e = .inl (g 1, 1000, .inr (.inl v))
  | 18 => ∃ v, e = .inl (g 1, 1000, .inr (.inl v))
  | 19 => ∃ v, e = .inl (g 0, 1000, .inl v)
  | 20 => ∃ v, e = .inl (g 0, 1000, .inl v)
  | 21 => ∃ v, e = .inl (g 2, 1000, .inl v)
  | 22 => ∃ v, e = .inl (g 0, 4096, .inl v)
  | 23 => ∃ v, e = .inl (g 0, 4096, .inl v)
  | _ => True
def WY (vW : Nat → Int64) (vIW : Nat → Int32) : Prop := ∀ j, j < 8 → ∃ n, n ≤ 1000 ∧ vIW j = nI n ∧ worldR (wOf vW j) n
def RIY : RT → Prop := fun (many, vW, vIW, vK, vZ, vM, vS, vCt, vC, vRow, vB, vL, vLC, vRe, vR) => RI many vIW vK vZ vM vC vR vL ∧ WY vW vIW
def RCY (g : Nat → ClassId) (f : Nat → va_E) (B : Nat → Nat) : RT → Prop := fun (many, vW, vIW, vK, vZ, vM, vS, vCt, vC, vRow, vB, vL, vLC, vRe, vR) => f (B 0) = .inr (7, [.ref (B 1), .ref (B 2), .ref (B 3), .ref (B 4), .ref (B 5), .ref (B 6), .ref (B 7), .ref (B 8), .ref (B 9), .ref (B 10), .ref (B 11), .ref (B 12), .ref (B 13), .ref (B 14), .int many, .ref (B 16), .ref (B 17), .ref (B 18), .ref (B 19), .ref (B 20), .ref (B 21), .ref (B 22), .ref (B 23)]) ∧ f (B 1) = .inl (g 1, 8000, .inr (.inl vW)) ∧ f (B 2) = .inl (g 0, 8, .inl vIW) ∧ f (B 3) = .inl (g 0, 30, .inl vK) ∧ f (B 4) = .inl (g 0, 30, .inl vZ) ∧ f (B 5) = .inl (g 0, 30, .inl vM) ∧ f (B 6) = .inl (g 0, 30, .inl vS) ∧ f (B 7) = .inl (g 1, 30000, .inr (.inl vCt)) ∧ f (B 8) = .inl (g 0, 30, .inl vC) ∧ f (B 9) = .inl (g 0, 122880, .inl vRow) ∧ f (B 10) = .inl (g 0, 76800, .inl vB) ∧ f (B 11) = .inl (g 0, 600, .inl vL) ∧ f (B 12) = .inl (g 0, 600, .inl vLC) ∧ f (B 13) = .inl (g 1, 30000, .inr (.inl vRe)) ∧ f (B 14) = .inl (g 0, 30, .inl vR) ∧ ∀ k, k ∈ [16, 17, 18, 19, 20, 21, 22, 23] → ShY g (f (B k)) k
def CfY (ρ : Nat → Nat × Nat) (g : Nat → ClassId) (L : List Nat) (f : Nat → va_E) (y : Nat) (r : RT) : Prop := ∃ B : Nat → Nat, B 0 = y ∧ RBs ρ L B ∧ RCY g f B r ∧ RIY r
def ResY (ρ : Nat → Nat × Nat) (g : Nat → ClassId) (L : List Nat) (f : Nat → va_E) (y : Nat) (r : RT) (L1 : List Nat) (f1 : Nat → va_E) : Prop := L1 = L ∧ (∀ b, b ∈ L → (ρ b).1 ≠ 500 → f1 b = f b) ∧ CfY ρ g L f1 y r
theorem ResY_same {ρ : Nat → Nat × Nat} {g : Nat → ClassId} {L : List Nat} {f : Nat → va_E} {y : Nat} {r : RT} (C : CfY ρ g L f y r) : ResY ρ g L f y r L f := ⟨rfl, fun _ _ _ => rfl, C⟩
theorem CY_up {ρ : Nat → Nat × Nat} {g : Nat → ClassId} {L : List Nat} {f f1 : Nat → va_E} {B : Nat → Nat} {many : Int32} {vW : Nat → Int64} {vIW : Nat → Int32} {vK : Nat → Int32} {vZ : Nat → Int32} {vM : Nat → Int32} {vS : Nat → Int32} {vCt : Nat → Int64} {vC : Nat → Int32} {vRow : Nat → Int32} {vB : Nat → Int32} {vL : Nat → Int32} {vLC : Nat → Int32} {vRe : Nat → Int64} {vR : Nat → Int32} (K : List Nat) (hB : RBs ρ L B) (hS : ∀ k, k ∈ [16, 17, 18, 19, 20, 21, 22, 23] → ShY g (f (B k)) k) (FT : ∀ b, b ∈ L → ¬ TR K (ρ b) → f1 b = f b) (c0 : f1 (B 0) = .inr (7, [.ref (B 1), .ref (B 2), .ref (B 3), .ref (B 4), .ref (B 5), .ref (B 6), .ref (B 7), .ref (B 8), .ref (B 9), .ref (B 10), .ref (B 11), .ref (B 12), .ref (B 13), .ref (B 14), .int many, .ref (B 16), .ref (B 17), .ref (B 18), .ref (B 19), .ref (B 20), .ref (B 21), .ref (B 22), .ref (B 23)])) (c1 : f1 (B 1) = .inl (g 1, 8000, .inr (.inl vW))) (c2 : f1 (B 2) = .inl (g 0, 8, .inl vIW)) (c3 : f1 (B 3) = .inl (g 0, 30, .inl vK)) (c4 : f1 (B 4) = .inl (g 0, 30, .inl vZ)) (c5 : f1 (B 5) = .inl (g 0, 30, .inl vM)) (c6 : f1 (B 6) = .inl (g 0, 30, .inl vS)) (c7 : f1 (B 7) = .inl (g 1, 30000, .inr (.inl vCt))) (c8 : f1 (B 8) = .inl (g 0, 30, .inl vC)) (c9 : f1 (B 9) = .inl (g 0, 122880, .inl vRow)) (c10 : f1 (B 10) = .inl (g 0, 76800, .inl vB)) (c11 : f1 (B 11) = .inl (g 0, 600, .inl vL)) (c12 : f1 (B 12) = .inl (g 0, 600, .inl vLC)) (c13 : f1 (B 13) = .inl (g 1, 30000, .inr (.inl vRe))) (c14 : f1 (B 14) = .inl (g 0, 30, .inl vR)) (xs : ∀ k, k ∈ [16, 17, 18, 19, 20, 21, 22, 23] → k ∈ K → ShY g (f1 (B k)) k) (hI : RIY (many, vW, vIW, vK, vZ, vM, vS, vCt, vC, vRow, vB, vL, vLC, vRe, vR)) : ResY ρ g L f (B 0) (many, vW, vIW, vK, vZ, vM, vS, vCt, vC, vRow, vB, vL, vLC, vRe, vR) L f1 := by
  refine ⟨rfl, fun b hb h5 => FT b hb (fun q => h5 q.1), B, rfl, hB, ⟨c0, c1, c2, c3, c4, c5, c6, c7, c8, c9, c10, c11, c12, c13, c14, fun k hk => ?_⟩, hI⟩
  by_cases q : k ∈ K
  · exact xs k hk q
  · have k24 : k < 24 ∧ k ≠ 15 := by
      have h : ∀ q, q ∈ [16, 17, 18, 19, 20, 21, 22, 23] → q < 24 ∧ q ≠ 15 := by decide
      exact h k hk
    rw [FT _ (hB k k24.1 k24.2).1 (tr_n (hB k k24.1 k24.2).2 q)]
    exact hS k hk
theorem CfY_fr {ρ ρ1 : Nat → Nat × Nat} {g : Nat → ClassId} {L L1 : List Nat} {f f1 : Nat → va_E} {y : Nat} {r : RT} (hL : ∀ b, b ∈ L → b ∈ L1 ∧ ρ1 b = ρ b) (hf : ∀ b, b ∈ L → (ρ b).1 = 500 → f1 b = f b) (C : CfY ρ g L f y r) : CfY ρ1 g L1 f1 y r := by
  obtain ⟨many, vW, vIW, vK, vZ, vM, vS, vCt, vC, vRow, vB, vL, vLC, vRe, vR⟩ := r
  obtain ⟨B, h0, hB, ⟨c0, c1, c2, c3, c4, c5, c6, c7, c8, c9, c10, c11, c12, c13, c14, hS⟩, hI⟩ := C
  have F : ∀ k, k < 24 → k ≠ 15 → f1 (B k) = f (B k) := fun k h1 h2 => hf _ (hB k h1 h2).1 (by rw [(hB k h1 h2).2])
  refine ⟨B, h0, fun k h1 h2 => ⟨(hL _ (hB k h1 h2).1).1, (hL _ (hB k h1 h2).1).2.trans (hB k h1 h2).2⟩, ⟨(F 0 (by decide) (by decide)).trans c0, (F 1 (by decide) (by decide)).trans c1, (F 2 (by decide) (by decide)).trans c2, (F 3 (by decide) (by decide)).trans c3, (F 4 (by decide) (by decide)).trans c4, (F 5 (by decide) (by decide)).trans c5, (F 6 (by decide) (by decide)).trans c6, (F 7 (by decide) (by decide)).trans c7, (F 8 (by decide) (by decide)).trans c8, (F 9 (by decide) (by decide)).trans c9, (F 10 (by decide) (by decide)).trans c10, (F 11 (by decide) (by decide)).trans c11, (F 12 (by decide) (by decide)).trans c12, (F 13 (by decide) (by decide)).trans c13, (F 14 (by decide) (by decide)).trans c14, fun k hk => ?_⟩, hI⟩
  have k24 : k < 24 ∧ k ≠ 15 := by
    have h : ∀ q, q ∈ [16, 17, 18, 19, 20, 21, 22, 23] → q < 24 ∧ q ≠ 15 := by decide
    exact h k hk
  rw [F k k24.1 k24.2]
  exact hS k hk
def S9_span (wi : Int32) (fi : Int64) (st_ : Int32) (nn : Int32) : RT → Int32 → RT → Prop := fun (many, vW, vIW, vK, vZ, vM, vS, vCt, vC, vRow, vB, vL, vLC, vRe, vR) x r1 => ∃ z, mX9_span vW vIW wi fi st_ nn = some z ∧ x = z.1 ∧ r1 = (many, z.2.1, z.2.2, vK, vZ, vM, vS, vCt, vC, vRow, vB, vL, vLC, vRe, vR)
set_option maxHeartbeats 1000000 in
theorem rx_span (l : Launch) (D : va_G) {ρ : Nat → Nat × Nat} {g : Nat → ClassId} {L : List Nat} {f : Nat → va_E} {y : Nat} {r : RT} (C : CfY ρ g L f y r) (wi : Int32) (fi : Int64) (st_ : Int32) (nn : Int32) : cI l yX9_span wsX9_span (RmC 0 0) D g [.ref y, .int wi, .long fi, .int st_, .int nn] L f 0 0 (fun x L1 f1 => ∃ r1, S9_span wi fi st_ nn r x r1 ∧ ResY ρ g L f y r1 L1 f1) := by
  have CC := C
  obtain ⟨many, vW, vIW, vK, vZ, vM, vS, vCt, vC, vRow, vB, vL, vLC, vRe, vR⟩ := r
  obtain ⟨B, rfl, hB, ⟨e_y, e_aWorlds, e_aInWorld, e_aKind, e_aSize, e_aMarks, e_aSeed, e_aContents, e_aContentMany, e_aRow, e_aBits, e_aLayerSize, e_aLayerCame, e_aRest, e_aRestMany, hS⟩, hI, hWY⟩ := C
  obtain ⟨vCome, e_aCome⟩ := hS 16 (by decide)
  obtain ⟨vRivals, e_aRivals⟩ := hS 17 (by decide)
  obtain ⟨vGone, e_aGone⟩ := hS 18 (by decide)
  obtain ⟨vOrder, e_aOrder⟩ := hS 19 (by decide)
  obtain ⟨vOffAt, e_aOffAt⟩ := hS 20 (by decide)
  obtain ⟨vIsOff, e_aIsOff⟩ := hS 21 (by decide)
  obtain ⟨vAlone, e_aAlone⟩ := hS 22 (by decide)
  obtain ⟨vKept, e_aKept⟩ := hS 23 (by decide)
  have m_aWorlds := (hB 1 (by decide) (by decide)).1
  have r_aWorlds := (hB 1 (by decide) (by decide)).2
  have m_aInWorld := (hB 2 (by decide) (by decide)).1
  have r_aInWorld := (hB 2 (by decide) (by decide)).2
  have m_aKind := (hB 3 (by decide) (by decide)).1
  have r_aKind := (hB 3 (by decide) (by decide)).2
  have m_aSize := (hB 4 (by decide) (by decide)).1
  have r_aSize := (hB 4 (by decide) (by decide)).2
  have m_aMarks := (hB 5 (by decide) (by decide)).1
  have r_aMarks := (hB 5 (by decide) (by decide)).2
  have m_aSeed := (hB 6 (by decide) (by decide)).1
  have r_aSeed := (hB 6 (by decide) (by decide)).2
  have m_aContents := (hB 7 (by decide) (by decide)).1
  have r_aContents := (hB 7 (by decide) (by decide)).2
  have m_aContentMany := (hB 8 (by decide) (by decide)).1
  have r_aContentMany := (hB 8 (by decide) (by decide)).2
  have m_aRow := (hB 9 (by decide) (by decide)).1
  have r_aRow := (hB 9 (by decide) (by decide)).2
  have m_aBits := (hB 10 (by decide) (by decide)).1
  have r_aBits := (hB 10 (by decide) (by decide)).2
  have m_aLayerSize := (hB 11 (by decide) (by decide)).1
  have r_aLayerSize := (hB 11 (by decide) (by decide)).2
  have m_aLayerCame := (hB 12 (by decide) (by decide)).1
  have r_aLayerCame := (hB 12 (by decide) (by decide)).2
  have m_aRest := (hB 13 (by decide) (by decide)).1
  have r_aRest := (hB 13 (by decide) (by decide)).2
  have m_aRestMany := (hB 14 (by decide) (by decide)).1
  have r_aRestMany := (hB 14 (by decide) (by decide)).2
  have m_aCome := (hB 16 (by decide) (by decide)).1
  have r_aCome := (hB 16 (by decide) (by decide)).2
  have m_aRivals := (hB 17 (by decide) (by decide)).1
  have r_aRivals := (hB 17 (by decide) (by decide)).2
  have m_aGone := (hB 18 (by decide) (by decide)).1
  have r_aGone := (hB 18 (by decide) (by decide)).2
  have m_aOrder := (hB 19 (by decide) (by decide)).1
  have r_aOrder := (hB 19 (by decide) (by decide)).2
  have m_aOffAt := (hB 20 (by decide) (by decide)).1
  have r_aOffAt := (hB 20 (by decide) (by decide)).2
  have m_aIsOff := (hB 21 (by decide) (by decide)).1
  have r_aIsOff := (hB 21 (by decide) (by decide)).2
  have m_aAlone := (hB 22 (by decide) (by decide)).1
  have r_aAlone := (hB 22 (by decide) (by decide)).2
  have m_aKept := (hB 23 (by decide) (by decide)).1
  have r_aKept := (hB 23 (by decide) (by decide)).2
  have m_y := (hB 0 (by decide) (by decide)).1
  have r_y := (hB 0 (by decide) (by decide)).2
  obtain ⟨z, hz, hI2, hW2⟩ : ∃ z, mX9_span vW vIW wi fi st_ nn = some z ∧ RI many z.2.2 vK vZ vM vC vR vL ∧ WY z.2.1 z.2.2 := by
    rcases isW_v wi with q | ⟨q, j, hj, rfl⟩
    · refine ⟨(-1, vW, vIW), ?_, hI, hWY⟩
      unfold mX9_span
      rw [q, sb_]
      exact if_pos rfl
    · obtain ⟨n, hn, en, hw⟩ := hWY j hj
      obtain ⟨z, hz, hF, m, hm, hR, -⟩ := rspan_ok hj hn en hw (AG_r _ _) fi st_ nn
      have hmw := SpR_w hn hw hR
      refine ⟨z, hz, ⟨hI.1, fun i hi => ?_⟩, fun i hi => ?_⟩
      · by_cases hij : i = j
        · rw [hij]; exact ⟨m, hmw.1, hm⟩
        · rw [hF.1 i hij]; exact hI.2 i hi
      · by_cases hij : i = j
        · rw [hij]; exact ⟨m, hmw.1, hm, hmw.2⟩
        · obtain ⟨n2, hn2, en2, hw2⟩ := hWY i hi
          exact ⟨n2, hn2, (hF.1 i hij).trans en2, AG_w (fun k hk => wOf_fr hij hF.2 (by omega)) hw2⟩
  refine cI_up (k_X9_span l D g m_y e_y m_aWorlds e_aWorlds m_aInWorld e_aInWorld m_aKind e_aKind m_aSize e_aSize m_aMarks e_aMarks m_aSeed e_aSeed m_aContents e_aContents m_aContentMany e_aContentMany m_aRow e_aRow m_aBits e_aBits m_aLayerSize e_aLayerSize m_aLayerCame e_aLayerCame m_aRest e_aRest m_aRestMany e_aRestMany m_aCome e_aCome m_aRivals e_aRivals m_aGone e_aGone m_aOrder e_aOrder m_aOffAt e_aOffAt m_aIsOff e_aIsOff m_aAlone e_aAlone m_aKept e_aKept hz) (by decide) (by decide) (by decide) (by decide) (by decide) (by decide) (fun x L1 f1 P => ?_)
  obtain ⟨ex, eL, fv, E_aWorlds, E_aInWorld⟩ := P
  subst eL
  refine ⟨_, ⟨z, hz, ex, rfl⟩, ?_⟩
  have FT : ∀ b, b ∈ L1 → ¬ TR [1, 2] (ρ b) → f1 b = f b := fun b hb ht => fv b hb (ne_T2 ht (tr_y r_aWorlds (by decide))) (ne_T2 ht (tr_y r_aInWorld (by decide)))
  refine CY_up [1, 2] hB hS FT ((FT _ m_y (tr_n r_y (by decide))).trans e_y) E_aWorlds E_aInWorld ((FT _ m_aKind (tr_n r_aKind (by decide))).trans e_aKind) ((FT _ m_aSize (tr_n r_aSize (by decide))).trans e_aSize) ((FT _ m_aMarks (tr_n r_aMarks (by decide))).trans e_aMarks) ((FT _ m_aSeed (tr_n r_aSeed (by decide))).trans e_aSeed) ((FT _ m_aContents (tr_n r_aContents (by decide))).trans e_aContents) ((FT _ m_aContentMany (tr_n r_aContentMany (by decide))).trans e_aContentMany) ((FT _ m_aRow (tr_n r_aRow (by decide))).trans e_aRow) ((FT _ m_aBits (tr_n r_aBits (by decide))).trans e_aBits) ((FT _ m_aLayerSize (tr_n r_aLayerSize (by decide))).trans e_aLayerSize) ((FT _ m_aLayerCame (tr_n r_aLayerCame (by decide))).trans e_aLayerCame) ((FT _ m_aRest (tr_n r_aRest (by decide))).trans e_aRest) ((FT _ m_aRestMany (tr_n r_aRestMany (by decide))).trans e_aRestMany) ?_ ⟨hI2, hW2⟩
  intro k hk hK
  have hc : False := by
    have hh : ∀ q, q ∈ [16, 17, 18, 19, 20, 21, 22, 23] → q ∈ [1, 2] → False := by decide
    exact hh k hk hK
  exact hc.elim
def S9_take (wi : Int32) (t : Int64) : RT → Int32 → RT → Prop := fun (many, vW, vIW, vK, vZ, vM, vS, vCt, vC, vRow, vB, vL, vLC, vRe, vR) x r1 => ∃ z, mX9_take vW vIW wi t = some z ∧ x = z.1 ∧ r1 = (many, z.2.1, z.2.2, vK, vZ, vM, vS, vCt, vC, vRow, vB, vL, vLC, vRe, vR)
set_option maxHeartbeats 1000000 in
theorem rx_take (l : Launch) (D : va_G) {ρ : Nat → Nat × Nat} {g : Nat → ClassId} {L : List Nat} {f : Nat → va_E} {y : Nat} {r : RT} (C : CfY ρ g L f y r) (wi : Int32) (t : Int64) : cI l yX9_take wsX9_take (RmC 0 0) D g [.ref y, .int wi, .long t] L f 0 0 (fun x L1 f1 => ∃ r1, S9_take wi t r x r1 ∧ ResY ρ g L f y r1 L1 f1) := by
  have CC := C
  obtain ⟨many, vW, vIW, vK, vZ, vM, vS, vCt, vC, vRow, vB, vL, vLC, vRe, vR⟩ := r
  obtain ⟨B, rfl, hB, ⟨e_y, e_aWorlds, e_aInWorld, e_aKind, e_aSize, e_aMarks, e_aSeed, e_aContents, e_aContentMany, e_aRow, e_aBits, e_aLayerSize, e_aLayerCame, e_aRest, e_aRestMany, hS⟩, hI, hWY⟩ := C
  obtain ⟨vCome, e_aCome⟩ := hS 16 (by decide)
  obtain ⟨vRivals, e_aRivals⟩ := hS 17 (by decide)
  obtain ⟨vGone, e_aGone⟩ := hS 18 (by decide)
  obtain ⟨vOrder, e_aOrder⟩ := hS 19 (by decide)
  obtain ⟨vOffAt, e_aOffAt⟩ := hS 20 (by decide)
  obtain ⟨vIsOff, e_aIsOff⟩ := hS 21 (by decide)
  obtain ⟨vAlone, e_aAlone⟩ := hS 22 (by decide)
  obtain ⟨vKept, e_aKept⟩ := hS 23 (by decide)
  have m_aWorlds := (hB 1 (by decide) (by decide)).1
  have r_aWorlds := (hB 1 (by decide) (by decide)).2
  have m_aInWorld := (hB 2 (by decide) (by decide)).1
  have r_aInWorld := (hB 2 (by decide) (by decide)).2
  have m_aKind := (hB 3 (by decide) (by decide)).1
  have r_aKind := (hB 3 (by decide) (by decide)).2
  have m_aSize := (hB 4 (by decide) (by decide)).1
  have r_aSize := (hB 4 (by decide) (by decide)).2
  have m_aMarks := (hB 5 (by decide) (by decide)).1
  have r_aMarks := (hB 5 (by decide) (by decide)).2
  have m_aSeed := (hB 6 (by decide) (by decide)).1
  have r_aSeed := (hB 6 (by decide) (by decide)).2
  have m_aContents := (hB 7 (by decide) (by decide)).1
  have r_aContents := (hB 7 (by decide) (by decide)).2
  have m_aContentMany := (hB 8 (by decide) (by decide)).1
  have r_aContentMany := (hB 8 (by decide) (by decide)).2
  have m_aRow := (hB 9 (by decide) (by decide)).1
  have r_aRow := (hB 9 (by decide) (by decide)).2
  have m_aBits := (hB 10 (by decide) (by decide)).1
  have r_aBits := (hB 10 (by decide) (by decide)).2
  have m_aLayerSize := (hB 11 (by decide) (by decide)).1
  have r_aLayerSize := (hB 11 (by decide) (by decide)).2
  have m_aLayerCame := (hB 12 (by decide) (by decide)).1
  have r_aLayerCame := (hB 12 (by decide) (by decide)).2
  have m_aRest := (hB 13 (by decide) (by decide)).1
  have r_aRest := (hB 13 (by decide) (by decide)).2
  have m_aRestMany := (hB 14 (by decide) (by decide)).1
  have r_aRestMany := (hB 14 (by decide) (by decide)).2
  have m_aCome := (hB 16 (by decide) (by decide)).1
  have r_aCome := (hB 16 (by decide) (by decide)).2
  have m_aRivals := (hB 17 (by decide) (by decide)).1
  have r_aRivals := (hB 17 (by decide) (by decide)).2
  have m_aGone := (hB 18 (by decide) (by decide)).1
  have r_aGone := (hB 18 (by decide) (by decide)).2
  have m_aOrder := (hB 19 (by decide) (by decide)).1
  have r_aOrder := (hB 19 (by decide) (by decide)).2
  have m_aOffAt := (hB 20 (by decide) (by decide)).1
  have r_aOffAt := (hB 20 (by decide) (by decide)).2
  have m_aIsOff := (hB 21 (by decide) (by decide)).1
  have r_aIsOff := (hB 21 (by decide) (by decide)).2
  have m_aAlone := (hB 22 (by decide) (by decide)).1
  have r_aAlone := (hB 22 (by decide) (by decide)).2
  have m_aKept := (hB 23 (by decide) (by decide)).1
  have r_aKept := (hB 23 (by decide) (by decide)).2
  have m_y := (hB 0 (by decide) (by decide)).1
  have r_y := (hB 0 (by decide) (by decide)).2
  obtain ⟨z, hz, hI2, hW2⟩ : ∃ z, mX9_take vW vIW wi t = some z ∧ RI many z.2.2 vK vZ vM vC vR vL ∧ WY z.2.1 z.2.2 := by
    rcases isW_v wi with q | ⟨q, j, hj, rfl⟩
    · refine ⟨(-1, vW, vIW), ?_, hI, hWY⟩
      unfold mX9_take
      rw [q, sb_]
      exact (if_pos rfl).trans (if_neg (by decide))
    · obtain ⟨n, hn, en, hw⟩ := hWY j hj
      obtain ⟨z, hz, hF, m, hm, hR, -⟩ := rtake_ok hj hn en (AG_r _ _) t
      have hmw := TkR_w hn hw hR
      refine ⟨z, hz, ⟨hI.1, fun i hi => ?_⟩, fun i hi => ?_⟩
      · by_cases hij : i = j
        · rw [hij]; exact ⟨m, hmw.1, hm⟩
        · rw [hF.1 i hij]; exact hI.2 i hi
      · by_cases hij : i = j
        · rw [hij]; exact ⟨m, hmw.1, hm, hmw.2⟩
        · obtain ⟨n2, hn2, en2, hw2⟩ := hWY i hi
          exact ⟨n2, hn2, (hF.1 i hij).trans en2, AG_w (fun k hk => wOf_fr hij hF.2 (by omega)) hw2⟩
  refine cI_up (k_X9_take l D g m_y e_y m_aWorlds e_aWorlds m_aInWorld e_aInWorld m_aKind e_aKind m_aSize e_aSize m_aMarks e_aMarks m_aSeed e_aSeed m_aContents e_aContents m_aContentMany e_aContentMany m_aRow e_aRow m_aBits e_aBits m_aLayerSize e_aLayerSize m_aLayerCame e_aLayerCame m_aRest e_aRest m_aRestMany e_aRestMany m_aCome e_aCome m_aRivals e_aRivals m_aGone e_aGone m_aOrder e_aOrder m_aOffAt e_aOffAt m_aIsOff e_aIsOff m_aAlone e_aAlone m_aKept e_aKept hz) (by decide) (by decide) (by decide) (by decide) (by decide) (by decide) (fun x L1 f1 P => ?_)
  obtain ⟨ex, eL, fv, E_aWorlds, E_aInWorld⟩ := P
  subst eL
  refine ⟨_, ⟨z, hz, ex, rfl⟩, ?_⟩
  have FT : ∀ b, b ∈ L1 → ¬ TR [1, 2] (ρ b) → f1 b = f b := fun b hb ht => fv b hb (ne_T2 ht (tr_y r_aWorlds (by decide))) (ne_T2 ht (tr_y r_aInWorld (by decide)))
  refine CY_up [1, 2] hB hS FT ((FT _ m_y (tr_n r_y (by decide))).trans e_y) E_aWorlds E_aInWorld ((FT _ m_aKind (tr_n r_aKind (by decide))).trans e_aKind) ((FT _ m_aSize (tr_n r_aSize (by decide))).trans e_aSize) ((FT _ m_aMarks (tr_n r_aMarks (by decide))).trans e_aMarks) ((FT _ m_aSeed (tr_n r_aSeed (by decide))).trans e_aSeed) ((FT _ m_aContents (tr_n r_aContents (by decide))).trans e_aContents) ((FT _ m_aContentMany (tr_n r_aContentMany (by decide))).trans e_aContentMany) ((FT _ m_aRow (tr_n r_aRow (by decide))).trans e_aRow) ((FT _ m_aBits (tr_n r_aBits (by decide))).trans e_aBits) ((FT _ m_aLayerSize (tr_n r_aLayerSize (by decide))).trans e_aLayerSize) ((FT _ m_aLayerCame (tr_n r_aLayerCame (by decide))).trans e_aLayerCame) ((FT _ m_aRest (tr_n r_aRest (by decide))).trans e_aRest) ((FT _ m_aRestMany (tr_n r_aRestMany (by decide))).trans e_aRestMany) ?_ ⟨hI2, hW2⟩
  intro k hk hK
  have hc : False := by
    have hh : ∀ q, q ∈ [16, 17, 18, 19, 20, 21, 22, 23] → q ∈ [1, 2] → False := by decide
    exact hh k hk hK
  exact hc.elim
def S9_things (wi : Int32) : RT → Int32 → RT → Prop := fun (many, vW, vIW, vK, vZ, vM, vS, vCt, vC, vRow, vB, vL, vLC, vRe, vR) x r1 => ∃ z, mX9_things vIW wi = some z ∧ x = z ∧ r1 = (many, vW, vIW, vK, vZ, vM, vS, vCt, vC, vRow, vB, vL, vLC, vRe, vR)
set_option maxHeartbeats 1000000 in
theorem rx_things (l : Launch) (D : va_G) {ρ : Nat → Nat × Nat} {g : Nat → ClassId} {L : List Nat} {f : Nat → va_E} {y : Nat} {r : RT} (C : CfY ρ g L f y r) (wi : Int32) : cI l yX9_things wsX9_things (RmC 0 0) D g [.ref y, .int wi] L f 0 0 (fun x L1 f1 => ∃ r1, S9_things wi r x r1 ∧ ResY ρ g L f y r1 L1 f1) := by
  have CC := C
  obtain ⟨many, vW, vIW, vK, vZ, vM, vS, vCt, vC, vRow, vB, vL, vLC, vRe, vR⟩ := r
  obtain ⟨B, rfl, hB, ⟨e_y, e_aWorlds, e_aInWorld, e_aKind, e_aSize, e_aMarks, e_aSeed, e_aContents, e_aContentMany, e_aRow, e_aBits, e_aLayerSize, e_aLayerCame, e_aRest, e_aRestMany, hS⟩, hI, hWY⟩ := C
  obtain ⟨vCome, e_aCome⟩ := hS 16 (by decide)
  obtain ⟨vRivals, e_aRivals⟩ := hS 17 (by decide)
  obtain ⟨vGone, e_aGone⟩ := hS 18 (by decide)
  obtain ⟨vOrder, e_aOrder⟩ := hS 19 (by decide)
  obtain ⟨vOffAt, e_aOffAt⟩ := hS 20 (by decide)
  obtain ⟨vIsOff, e_aIsOff⟩ := hS 21 (by decide)
  obtain ⟨vAlone, e_aAlone⟩ := hS 22 (by decide)
  obtain ⟨vKept, e_aKept⟩ := hS 23 (by decide)
  have m_aWorlds := (hB 1 (by decide) (by decide)).1
  have r_aWorlds := (hB 1 (by decide) (by decide)).2
  have m_aInWorld := (hB 2 (by decide) (by decide)).1
  have r_aInWorld := (hB 2 (by decide) (by decide)).2
  have m_aKind := (hB 3 (by decide) (by decide)).1
  have r_aKind := (hB 3 (by decide) (by decide)).2
  have m_aSize := (hB 4 (by decide) (by decide)).1
  have r_aSize := (hB 4 (by decide) (by decide)).2
  have m_aMarks := (hB 5 (by decide) (by decide)).1
  have r_aMarks := (hB 5 (by decide) (by decide)).2
  have m_aSeed := (hB 6 (by decide) (by decide)).1
  have r_aSeed := (hB 6 (by decide) (by decide)).2
  have m_aContents := (hB 7 (by decide) (by decide)).1
  have r_aContents := (hB 7 (by decide) (by decide)).2
  have m_aContentMany := (hB 8 (by decide) (by decide)).1
  have r_aContentMany := (hB 8 (by decide) (by decide)).2
  have m_aRow := (hB 9 (by decide) (by decide)).1
  have r_aRow := (hB 9 (by decide) (by decide)).2
  have m_aBits := (hB 10 (by decide) (by decide)).1
  have r_aBits := (hB 10 (by decide) (by decide)).2
  have m_aLayerSize := (hB 11 (by decide) (by decide)).1
  have r_aLayerSize := (hB 11 (by decide) (by decide)).2
  have m_aLayerCame := (hB 12 (by decide) (by decide)).1
  have r_aLayerCame := (hB 12 (by decide) (by decide)).2
  have m_aRest := (hB 13 (by decide) (by decide)).1
  have r_aRest := (hB 13 (by decide) (by decide)).2
  have m_aRestMany := (hB 14 (by decide) (by decide)).1
  have r_aRestMany := (hB 14 (by decide) (by decide)).2
  have m_aCome := (hB 16 (by decide) (by decide)).1
  have r_aCome := (hB 16 (by decide) (by decide)).2
  have m_aRivals := (hB 17 (by decide) (by decide)).1
  have r_aRivals := (hB 17 (by decide) (by decide)).2
  have m_aGone := (hB 18 (by decide) (by decide)).1
  have r_aGone := (hB 18 (by decide) (by decide)).2
  have m_aOrder := (hB 19 (by decide) (by decide)).1
  have r_aOrder := (hB 19 (by decide) (by decide)).2
  have m_aOffAt := (hB 20 (by decide) (by decide)).1
  have r_aOffAt := (hB 20 (by decide) (by decide)).2
  have m_aIsOff := (hB 21 (by decide) (by decide)).1
  have r_aIsOff := (hB 21 (by decide) (by decide)).2
  have m_aAlone := (hB 22 (by decide) (by decide)).1
  have r_aAlone := (hB 22 (by decide) (by decide)).2
  have m_aKept := (hB 23 (by decide) (by decide)).1
  have r_aKept := (hB 23 (by decide) (by decide)).2
  have m_y := (hB 0 (by decide) (by decide)).1
  have r_y := (hB 0 (by decide) (by decide)).2
  obtain ⟨z, hz⟩ : ∃ z, mX9_things vIW wi = some z := by
    unfold mX9_things
    rcases isW_v wi with q | ⟨q, j, hj, rfl⟩
    · rw [q, sb_]; exact ⟨_, if_pos rfl⟩
    · rw [q, sb_, if_neg (show ¬ (1 : Int32) = 0 by decide)]; exact ⟨_, if_pos (ix_nI hj)⟩
  refine cI_up (k_X9_things l D g m_y e_y m_aInWorld e_aInWorld hz) (by decide) (by decide) (by decide) (by decide) (by decide) (by decide) (fun x L1 f1 P => ?_)
  obtain ⟨ex, eL, ef⟩ := P
  subst eL ef
  exact ⟨_, ⟨z, hz, ex, rfl⟩, ResY_same CC⟩
def S9_thing (wi : Int32) (i : Int32) : RT → Int64 → RT → Prop := fun (many, vW, vIW, vK, vZ, vM, vS, vCt, vC, vRow, vB, vL, vLC, vRe, vR) x r1 => ∃ z, mX9_thing vW vIW wi i = some z ∧ x = z ∧ r1 = (many, vW, vIW, vK, vZ, vM, vS, vCt, vC, vRow, vB, vL, vLC, vRe, vR)
set_option maxHeartbeats 1000000 in
theorem rx_thing (l : Launch) (D : va_G) {ρ : Nat → Nat × Nat} {g : Nat → ClassId} {L : List Nat} {f : Nat → va_E} {y : Nat} {r : RT} (C : CfY ρ g L f y r) (wi : Int32) (i : Int32) : cL l yX9_thing wsX9_thing (RmC 0 0) D g [.ref y, .int wi, .int i] L f 0 0 (fun x L1 f1 => ∃ r1, S9_thing wi i r x r1 ∧ ResY ρ g L f y r1 L1 f1) := by
  have CC := C
  obtain ⟨many, vW, vIW, vK, vZ, vM, vS, vCt, vC, vRow, vB, vL, vLC, vRe, vR⟩ := r
  obtain ⟨B, rfl, hB, ⟨e_y, e_aWorlds, e_aInWorld, e_aKind, e_aSize, e_aMarks, e_aSeed, e_aContents, e_aContentMany, e_aRow, e_aBits, e_aLayerSize, e_aLayerCame, e_aRest, e_aRestMany, hS⟩, hI, hWY⟩ := C
  obtain ⟨vCome, e_aCome⟩ := hS 16 (by decide)
  obtain ⟨vRivals, e_aRivals⟩ := hS 17 (by decide)
  obtain ⟨vGone, e_aGone⟩ := hS 18 (by decide)
  obtain ⟨vOrder, e_aOrder⟩ := hS 19 (by decide)
  obtain ⟨vOffAt, e_aOffAt⟩ := hS 20 (by decide)
  obtain ⟨vIsOff, e_aIsOff⟩ := hS 21 (by decide)
  obtain ⟨vAlone, e_aAlone⟩ := hS 22 (by decide)
  obtain ⟨vKept, e_aKept⟩ := hS 23 (by decide)
  have m_aWorlds := (hB 1 (by decide) (by decide)).1
  have r_aWorlds := (hB 1 (by decide) (by decide)).2
  have m_aInWorld := (hB 2 (by decide) (by decide)).1
  have r_aInWorld := (hB 2 (by decide) (by decide)).2
  have m_aKind := (hB 3 (by decide) (by decide)).1
  have r_aKind := (hB 3 (by decide) (by decide)).2
  have m_aSize := (hB 4 (by decide) (by decide)).1
  have r_aSize := (hB 4 (by decide) (by decide)).2
  have m_aMarks := (hB 5 (by decide) (by decide)).1
  have r_aMarks := (hB 5 (by decide) (by decide)).2
  have m_aSeed := (hB 6 (by decide) (by decide)).1
  have r_aSeed := (hB 6 (by decide) (by decide)).2
  have m_aContents := (hB 7 (by decide) (by decide)).1
  have r_aContents := (hB 7 (by decide) (by decide)).2
  have m_aContentMany := (hB 8 (by decide) (by decide)).1
  have r_aContentMany := (hB 8 (by decide) (by decide)).2
  have m_aRow := (hB 9 (by decide) (by decide)).1
  have r_aRow := (hB 9 (by decide) (by decide)).2
  have m_aBits := (hB 10 (by decide) (by decide)).1
  have r_aBits := (hB 10 (by decide) (by decide)).2
  have m_aLayerSize := (hB 11 (by decide) (by decide)).1
  have r_aLayerSize := (hB 11 (by decide) (by decide)).2
  have m_aLayerCame := (hB 12 (by decide) (by decide)).1
  have r_aLayerCame := (hB 12 (by decide) (by decide)).2
  have m_aRest := (hB 13 (by decide) (by decide)).1
  have r_aRest := (hB 13 (by decide) (by decide)).2
  have m_aRestMany := (hB 14 (by decide) (by decide)).1
  have r_aRestMany := (hB 14 (by decide) (by decide)).2
  have m_aCome := (hB 16 (by decide) (by decide)).1
  have r_aCome := (hB 16 (by decide) (by decide)).2
  have m_aRivals := (hB 17 (by decide) (by decide)).1
  have r_aRivals := (hB 17 (by decide) (by decide)).2
  have m_aGone := (hB 18 (by decide) (by decide)).1
  have r_aGone := (hB 18 (by decide) (by decide)).2
  have m_aOrder := (hB 19 (by decide) (by decide)).1
  have r_aOrder := (hB 19 (by decide) (by decide)).2
  have m_aOffAt := (hB 20 (by decide) (by decide)).1
  have r_aOffAt := (hB 20 (by decide) (by decide)).2
  have m_aIsOff := (hB 21 (by decide) (by decide)).1
  have r_aIsOff := (hB 21 (by decide) (by decide)).2
  have m_aAlone := (hB 22 (by decide) (by decide)).1
  have r_aAlone := (hB 22 (by decide) (by decide)).2
  have m_aKept := (hB 23 (by decide) (by decide)).1
  have r_aKept := (hB 23 (by decide) (by decide)).2
  have m_y := (hB 0 (by decide) (by decide)).1
  have r_y := (hB 0 (by decide) (by decide)).2
  obtain ⟨z, hz, hq⟩ : OK (mX9_thing vW vIW wi i) _ := rthing_ok hI _ _ _
  refine cL_up (k_X9_thing l D g m_y e_y m_aWorlds e_aWorlds m_aInWorld e_aInWorld hz) (by decide) (by decide) (by decide) (by decide) (by decide) (by decide) (fun x L1 f1 P => ?_)
  obtain ⟨ex, eL, ef⟩ := P
  subst eL ef
  exact ⟨_, ⟨z, hz, ex, rfl⟩, ResY_same CC⟩
def S9_make (k0 : Int32) (k1 : Int32) (k2 : Int32) (k3 : Int32) : RT → Int32 → RT → Prop := fun (many, vW, vIW, vK, vZ, vM, vS, vCt, vC, vRow, vB, vL, vLC, vRe, vR) x r1 => ∃ z, mX9_make many vK vZ vM vS vC vRow vR k0 k1 k2 k3 = some z ∧ x = z.1 ∧ r1 = (z.2.1, vW, vIW, z.2.2.1, z.2.2.2.1, z.2.2.2.2.1, z.2.2.2.2.2.1, vCt, z.2.2.2.2.2.2.1, z.2.2.2.2.2.2.2.1, vB, vL, vLC, vRe, z.2.2.2.2.2.2.2.2)
set_option maxHeartbeats 1000000 in
theorem rx_make (l : Launch) (D : va_G) {ρ : Nat → Nat × Nat} {g : Nat → ClassId} {L : List Nat} {f : Nat → va_E} {y : Nat} {r : RT} (C : CfY ρ g L f y r) (k0 : Int32) (k1 : Int32) (k2 : Int32) (k3 : Int32) : cI l yX9_make wsX9_make (RmC 0 0) D g [.ref y, .int k0, .int k1, .int k2, .int k3] L f 0 0 (fun x L1 f1 => ∃ r1, S9_make k0 k1 k2 k3 r x r1 ∧ ResY ρ g L f y r1 L1 f1) := by
  have CC := C
  obtain ⟨many, vW, vIW, vK, vZ, vM, vS, vCt, vC, vRow, vB, vL, vLC, vRe, vR⟩ := r
  obtain ⟨B, rfl, hB, ⟨e_y, e_aWorlds, e_aInWorld, e_aKind, e_aSize, e_aMarks, e_aSeed, e_aContents, e_aContentMany, e_aRow, e_aBits, e_aLayerSize, e_aLayerCame, e_aRest, e_aRestMany, hS⟩, hI, hWY⟩ := C
  obtain ⟨vCome, e_aCome⟩ := hS 16 (by decide)
  obtain ⟨vRivals, e_aRivals⟩ := hS 17 (by decide)
  obtain ⟨vGone, e_aGone⟩ := hS 18 (by decide)
  obtain ⟨vOrder, e_aOrder⟩ := hS 19 (by decide)
  obtain ⟨vOffAt, e_aOffAt⟩ := hS 20 (by decide)
  obtain ⟨vIsOff, e_aIsOff⟩ := hS 21 (by decide)
  obtain ⟨vAlone, e_aAlone⟩ := hS 22 (by decide)
  obtain ⟨vKept, e_aKept⟩ := hS 23 (by decide)
  have m_aWorlds := (hB 1 (by decide) (by decide)).1
  have r_aWorlds := (hB 1 (by decide) (by decide)).2
  have m_aInWorld := (hB 2 (by decide) (by decide)).1
  have r_aInWorld := (hB 2 (by decide) (by decide)).2
  have m_aKind := (hB 3 (by decide) (by decide)).1
  have r_aKind := (hB 3 (by decide) (by decide)).2
  have m_aSize := (hB 4 (by decide) (by decide)).1
  have r_aSize := (hB 4 (by decide) (by decide)).2
  have m_aMarks := (hB 5 (by decide) (by decide)).1
  have r_aMarks := (hB 5 (by decide) (by decide)).2
  have m_aSeed := (hB 6 (by decide) (by decide)).1
  have r_aSeed := (hB 6 (by decide) (by decide)).2
  have m_aContents := (hB 7 (by decide) (by decide)).1
  have r_aContents := (hB 7 (by decide) (by decide)).2
  have m_aContentMany := (hB 8 (by decide) (by decide)).1
  have r_aContentMany := (hB 8 (by decide) (by decide)).2
  have m_aRow := (hB 9 (by decide) (by decide)).1
  have r_aRow := (hB 9 (by decide) (by decide)).2
  have m_aBits := (hB 10 (by decide) (by decide)).1
  have r_aBits := (hB 10 (by decide) (by decide)).2
  have m_aLayerSize := (hB 11 (by decide) (by decide)).1
  have r_aLayerSize := (hB 11 (by decide) (by decide)).2
  have m_aLayerCame := (hB 12 (by decide) (by decide)).1
  have r_aLayerCame := (hB 12 (by decide) (by decide)).2
  have m_aRest := (hB 13 (by decide) (by decide)).1
  have r_aRest := (hB 13 (by decide) (by decide)).2
  have m_aRestMany := (hB 14 (by decide) (by decide)).1
  have r_aRestMany := (hB 14 (by decide) (by decide)).2
  have m_aCome := (hB 16 (by decide) (by decide)).1
  have r_aCome := (hB 16 (by decide) (by decide)).2
  have m_aRivals := (hB 17 (by decide) (by decide)).1
  have r_aRivals := (hB 17 (by decide) (by decide)).2
  have m_aGone := (hB 18 (by decide) (by decide)).1
  have r_aGone := (hB 18 (by decide) (by decide)).2
  have m_aOrder := (hB 19 (by decide) (by decide)).1
  have r_aOrder := (hB 19 (by decide) (by decide)).2
  have m_aOffAt := (hB 20 (by decide) (by decide)).1
  have r_aOffAt := (hB 20 (by decide) (by decide)).2
  have m_aIsOff := (hB 21 (by decide) (by decide)).1
  have r_aIsOff := (hB 21 (by decide) (by decide)).2
  have m_aAlone := (hB 22 (by decide) (by decide)).1
  have r_aAlone := (hB 22 (by decide) (by decide)).2
  have m_aKept := (hB 23 (by decide) (by decide)).1
  have r_aKept := (hB 23 (by decide) (by decide)).2
  have m_y := (hB 0 (by decide) (by decide)).1
  have r_y := (hB 0 (by decide) (by decide)).2
  obtain ⟨z, hz, hq⟩ : OK (mX9_make many vK vZ vM vS vC vRow vR k0 k1 k2 k3) _ := rmake_ok hI _ _ _ _ _ _
  refine cI_up (k_X9_make l D g m_y e_y m_aWorlds e_aWorlds m_aInWorld e_aInWorld m_aKind e_aKind m_aSize e_aSize m_aMarks e_aMarks m_aSeed e_aSeed m_aContents e_aContents m_aContentMany e_aContentMany m_aRow e_aRow m_aBits e_aBits m_aLayerSize e_aLayerSize m_aLayerCame e_aLayerCame m_aRest e_aRest m_aRestMany e_aRestMany m_aCome e_aCome m_aRivals e_aRivals m_aGone e_aGone m_aOrder e_aOrder m_aOffAt e_aOffAt m_aIsOff e_aIsOff m_aAlone e_aAlone m_aKept e_aKept r_aKind r_aSize r_aMarks r_aSeed r_aContentMany r_aRestMany hz) (by decide) (by decide) (by decide) (by decide) (by decide) (by decide) (fun x L1 f1 P => ?_)
  obtain ⟨ex, eL, fv, E_y, E_aKind, E_aSize, E_aMarks, E_aSeed, E_aContentMany, E_aRow, E_aRestMany⟩ := P
  subst eL
  refine ⟨_, ⟨z, hz, ex, rfl⟩, ?_⟩
  have FT : ∀ b, b ∈ L1 → ¬ TR [0, 3, 4, 5, 6, 8, 9, 14] (ρ b) → f1 b = f b := fun b hb ht => fv b hb (ne_T2 ht (tr_y r_y (by decide))) (ne_T2 ht (tr_y r_aKind (by decide))) (ne_T2 ht (tr_y r_aSize (by decide))) (ne_T2 ht (tr_y r_aMarks (by decide))) (ne_T2 ht (tr_y r_aSeed (by decide))) (ne_T2 ht (tr_y r_aContentMany (by decide))) (ne_T2 ht (tr_y r_aRow (by decide))) (ne_T2 ht (tr_y r_aRestMany (by decide)))
  refine CY_up [0, 3, 4, 5, 6, 8, 9, 14] hB hS FT E_y ((FT _ m_aWorlds (tr_n r_aWorlds (by decide))).trans e_aWorlds) ((FT _ m_aInWorld (tr_n r_aInWorld (by decide))).trans e_aInWorld) E_aKind E_aSize E_aMarks E_aSeed ((FT _ m_aContents (tr_n r_aContents (by decide))).trans e_aContents) E_aContentMany E_aRow ((FT _ m_aBits (tr_n r_aBits (by decide))).trans e_aBits) ((FT _ m_aLayerSize (tr_n r_aLayerSize (by decide))).trans e_aLayerSize) ((FT _ m_aLayerCame (tr_n r_aLayerCame (by decide))).trans e_aLayerCame) ((FT _ m_aRest (tr_n r_aRest (by decide))).trans e_aRest) E_aRestMany ?_ ⟨hq, hWY⟩
  intro k hk hK
  have hc : False := by
    have hh : ∀ q, q ∈ [16, 17, 18, 19, 20, 21, 22, 23] → q ∈ [0, 3, 4, 5, 6, 8, 9, 14] → False := by decide
    exact hh k hk hK
  exact hc.elim
def S9_solve (wi : Int32) (by_ : Int32) : RT → Int32 → RT → Prop := fun (many, vW, vIW, vK, vZ, vM, vS, vCt, vC, vRow, vB, vL, vLC, vRe, vR) x r1 => ∃ vOrder : Nat → Int32, ∃ vOffAt : Nat → Int32, ∃ vIsOff : Nat → Int32, ∃ vAlone : Nat → Int32, ∃ z, mX9_solve many vW vIW vK vZ vM vS vCt vC vRow vR vOrder vOffAt vIsOff vAlone wi by_ = some z ∧ x = z.1 ∧ r1 = (z.2.1, vW, vIW, z.2.2.1, z.2.2.2.1, z.2.2.2.2.1, z.2.2.2.2.2.1, z.2.2.2.2.2.2.1, z.2.2.2.2.2.2.2.1, z.2.2.2.2.2.2.2.2.1, vB, vL, vLC, vRe, z.2.2.2.2.2.2.2.2.2.1)
set_option maxHeartbeats 1000000 in
theorem rx_solve (l : Launch) (D : va_G) {ρ : Nat → Nat × Nat} {g : Nat → ClassId} {L : List Nat} {f : Nat → va_E} {y : Nat} {r : RT} (C : CfY ρ g L f y r) (wi : Int32) (by_ : Int32) : cI l yX9_solve wsX9_solve (RmC 0 0) D g [.ref y, .int wi, .int by_] L f 0 0 (fun x L1 f1 => ∃ r1, S9_solve wi by_ r x r1 ∧ ResY ρ g L f y r1 L1 f1) := by
  have CC := C
  obtain ⟨many, vW, vIW, vK, vZ, vM, vS, vCt, vC, vRow, vB, vL, vLC, vRe, vR⟩ := r
  obtain ⟨B, rfl, hB, ⟨e_y, e_aWorlds, e_aInWorld, e_aKind, e_aSize, e_aMarks, e_aSeed, e_aContents, e_aContentMany, e_aRow, e_aBits, e_aLayerSize, e_aLayerCame, e_aRest, e_aRestMany, hS⟩, hI, hWY⟩ := C
  obtain ⟨vCome, e_aCome⟩ := hS 16 (by decide)
  obtain ⟨vRivals, e_aRivals⟩ := hS 17 (by decide)
  obtain ⟨vGone, e_aGone⟩ := hS 18 (by decide)
  obtain ⟨vOrder, e_aOrder⟩ := hS 19 (by decide)
  obtain ⟨vOffAt, e_aOffAt⟩ := hS 20 (by decide)
  obtain ⟨vIsOff, e_aIsOff⟩ := hS 21 (by decide)
  obtain ⟨vAlone, e_aAlone⟩ := hS 22 (by decide)
  obtain ⟨vKept, e_aKept⟩ := hS 23 (by decide)
  have m_aWorlds := (hB 1 (by decide) (by decide)).1
  have r_aWorlds := (hB 1 (by decide) (by decide)).2
  have m_aInWorld := (hB 2 (by decide) (by decide)).1
  have r_aInWorld := (hB 2 (by decide) (by decide)).2
  have m_aKind := (hB 3 (by decide) (by decide)).1
  have r_aKind := (hB 3 (by decide) (by decide)).2
  have m_aSize := (hB 4 (by decide) (by decide)).1
  have r_aSize := (hB 4 (by decide) (by decide)).2
  have m_aMarks := (hB 5 (by decide) (by decide)).1
  have r_aMarks := (hB 5 (by decide) (by decide)).2
  have m_aSeed := (hB 6 (by decide) (by decide)).1
  have r_aSeed := (hB 6 (by decide) (by decide)).2
  have m_aContents := (hB 7 (by decide) (by decide)).1
  have r_aContents := (hB 7 (by decide) (by decide)).2
  have m_aContentMany := (hB 8 (by decide) (by decide)).1
  have r_aContentMany := (hB 8 (by decide) (by decide)).2
  have m_aRow := (hB 9 (by decide) (by decide)).1
  have r_aRow := (hB 9 (by decide) (by decide)).2
  have m_aBits := (hB 10 (by decide) (by decide)).1
  have r_aBits := (hB 10 (by decide) (by decide)).2
  have m_aLayerSize := (hB 11 (by decide) (by decide)).1
  have r_aLayerSize := (hB 11 (by decide) (by decide)).2
  have m_aLayerCame := (hB 12 (by decide) (by decide)).1
  have r_aLayerCame := (hB 12 (by decide) (by decide)).2
  have m_aRest := (hB 13 (by decide) (by decide)).1
  have r_aRest := (hB 13 (by decide) (by decide)).2
  have m_aRestMany := (hB 14 (by decide) (by decide)).1
  have r_aRestMany := (hB 14 (by decide) (by decide)).2
  have m_aCome := (hB 16 (by decide) (by decide)).1
  have r_aCome := (hB 16 (by decide) (by decide)).2
  have m_aRivals := (hB 17 (by decide) (by decide)).1
  have r_aRivals := (hB 17 (by decide) (by decide)).2
  have m_aGone := (hB 18 (by decide) (by decide)).1
  have r_aGone := (hB 18 (by decide) (by decide)).2
  have m_aOrder := (hB 19 (by decide) (by decide)).1
  have r_aOrder := (hB 19 (by decide) (by decide)).2
  have m_aOffAt := (hB 20 (by decide) (by decide)).1
  have r_aOffAt := (hB 20 (by decide) (by decide)).2
  have m_aIsOff := (hB 21 (by decide) (by decide)).1
  have r_aIsOff := (hB 21 (by decide) (by decide)).2
  have m_aAlone := (hB 22 (by decide) (by decide)).1
  have r_aAlone := (hB 22 (by decide) (by decide)).2
  have m_aKept := (hB 23 (by decide) (by decide)).1
  have r_aKept := (hB 23 (by decide) (by decide)).2
  have m_y := (hB 0 (by decide) (by decide)).1
  have r_y := (hB 0 (by decide) (by decide)).2
  obtain ⟨z, hz, hq⟩ : OK (mX9_solve many vW vIW vK vZ vM vS vCt vC vRow vR vOrder vOffAt vIsOff vAlone wi by_) _ := rsolve_ok hI _ _ _ _ _ _ _ _ _ _
  refine cI_up (k_X9_solve l D g m_y e_y m_aWorlds e_aWorlds m_aInWorld e_aInWorld m_aKind e_aKind m_aSize e_aSize m_aMarks e_aMarks m_aSeed e_aSeed m_aContents e_aContents m_aContentMany e_aContentMany m_aRow e_aRow m_aBits e_aBits m_aLayerSize e_aLayerSize m_aLayerCame e_aLayerCame m_aRest e_aRest m_aRestMany e_aRestMany m_aCome e_aCome m_aRivals e_aRivals m_aGone e_aGone m_aOrder e_aOrder m_aOffAt e_aOffAt m_aIsOff e_aIsOff m_aAlone e_aAlone m_aKept e_aKept r_aKind r_aSize r_aMarks r_aSeed r_aContents r_aContentMany r_aRest r_aRestMany r_aOrder r_aOffAt r_aIsOff r_aAlone r_aKept hz) (by decide) (by decide) (by decide) (by decide) (by decide) (by decide) (fun x L1 f1 P => ?_)
  obtain ⟨ex, eL, fv, E_y, E_aKind, E_aSize, E_aMarks, E_aSeed, E_aContents, E_aContentMany, E_aRow, E_aRestMany, E_aOrder, E_aOffAt, E_aIsOff, E_aAlone⟩ := P
  subst eL
  refine ⟨_, ⟨vOrder, vOffAt, vIsOff, vAlone, z, hz, ex, rfl⟩, ?_⟩
  have FT : ∀ b, b ∈ L1 → ¬ TR [0, 3, 4, 5, 6, 7, 8, 9, 14, 19, 20, 21, 22] (ρ b) → f1 b = f b := fun b hb ht => fv b hb (ne_T2 ht (tr_y r_y (by decide))) (ne_T2 ht (tr_y r_aKind (by decide))) (ne_T2 ht (tr_y r_aSize (by decide))) (ne_T2 ht (tr_y r_aMarks (by decide))) (ne_T2 ht (tr_y r_aSeed (by decide))) (ne_T2 ht (tr_y r_aContents (by decide))) (ne_T2 ht (tr_y r_aContentMany (by decide))) (ne_T2 ht (tr_y r_aRow (by decide))) (ne_T2 ht (tr_y r_aRestMany (by decide))) (ne_T2 ht (tr_y r_aOrder (by decide))) (ne_T2 ht (tr_y r_aOffAt (by decide))) (ne_T2 ht (tr_y r_aIsOff (by decide))) (ne_T2 ht (tr_y r_aAlone (by decide)))
  refine CY_up [0, 3, 4, 5, 6, 7, 8, 9, 14, 19, 20, 21, 22] hB hS FT E_y ((FT _ m_aWorlds (tr_n r_aWorlds (by decide))).trans e_aWorlds) ((FT _ m_aInWorld (tr_n r_aInWorld (by decide))).trans e_aInWorld) E_aKind E_aSize E_aMarks E_aSeed E_aContents E_aContentMany E_aRow ((FT _ m_aBits (tr_n r_aBits (by decide))).trans e_aBits) ((FT _ m_aLayerSize (tr_n r_aLayerSize (by decide))).trans e_aLayerSize) ((FT _ m_aLayerCame (tr_n r_aLayerCame (by decide))).trans e_aLayerCame) ((FT _ m_aRest (tr_n r_aRest (by decide))).trans e_aRest) E_aRestMany ?_ ⟨hq, hWY⟩
  intro k hk hK
  have hc : k = 19 ∨ k = 20 ∨ k = 21 ∨ k = 22 := by
    have hh : ∀ q, q ∈ [16, 17, 18, 19, 20, 21, 22, 23] → q ∈ [0, 3, 4, 5, 6, 7, 8, 9, 14, 19, 20, 21, 22] → q = 19 ∨ q = 20 ∨ q = 21 ∨ q = 22 := by decide
    exact hh k hk hK
  rcases hc with rfl | rfl | rfl | rfl
  · exact ⟨_, E_aOrder⟩
  · exact ⟨_, E_aOffAt⟩
  · exact ⟨_, E_aIsOff⟩
  · exact ⟨_, E_aAlone⟩
def S9_layered (wi : Int32) (wa : Int32) (by_ : Int32) : RT → Int32 → RT → Prop := fun (many, vW, vIW, vK, vZ, vM, vS, vCt, vC, vRow, vB, vL, vLC, vRe, vR) x r1 => ∃ vCome : Nat → Int64, ∃ vRivals : Nat → Int64, ∃ vGone : Nat → Int64, ∃ z, mX9_layered many vW vIW vK vZ vM vS vCt vC vRow vB vL vLC vRe vR vCome vRivals vGone wi wa by_ = some z ∧ x = z.1 ∧ r1 = (z.2.1, vW, vIW, z.2.2.1, z.2.2.2.1, z.2.2.2.2.1, z.2.2.2.2.2.1, z.2.2.2.2.2.2.1, z.2.2.2.2.2.2.2.1, z.2.2.2.2.2.2.2.2.1, z.2.2.2.2.2.2.2.2.2.1, z.2.2.2.2.2.2.2.2.2.2.1, z.2.2.2.2.2.2.2.2.2.2.2.1, z.2.2.2.2.2.2.2.2.2.2.2.2.1, z.2.2.2.2.2.2.2.2.2.2.2.2.2.1)
set_option maxHeartbeats 1000000 in
theorem rx_layered (l : Launch) (D : va_G) {ρ : Nat → Nat × Nat} {g : Nat → ClassId} {L : List Nat} {f : Nat → va_E} {y : Nat} {r : RT} (C : CfY ρ g L f y r) (wi : Int32) (wa : Int32) (by_ : Int32) : cI l yX9_layered wsX9_layered (RmC 0 0) D g [.ref y, .int wi, .int wa, .int by_] L f 0 0 (fun x L1 f1 => ∃ r1, S9_layered wi wa by_ r x r1 ∧ ResY ρ g L f y r1 L1 f1) := by
  have CC := C
  obtain ⟨many, vW, vIW, vK, vZ, vM, vS, vCt, vC, vRow, vB, vL, vLC, vRe, vR⟩ := r
  obtain ⟨B, rfl, hB, ⟨e_y, e_aWorlds, e_aInWorld, e_aKind, e_aSize, e_aMarks, e_aSeed, e_aContents, e_aContentMany, e_aRow, e_aBits, e_aLayerSize, e_aLayerCame, e_aRest, e_aRestMany, hS⟩, hI, hWY⟩ := C
  obtain ⟨vCome, e_aCome⟩ := hS 16 (by decide)
  obtain ⟨vRivals, e_aRivals⟩ := hS 17 (by decide)
  obtain ⟨vGone, e_aGone⟩ := hS 18 (by decide)
  obtain ⟨vOrder, e_aOrder⟩ := hS 19 (by decide)
  obtain ⟨vOffAt, e_aOffAt⟩ := hS 20 (by decide)
  obtain ⟨vIsOff, e_aIsOff⟩ := hS 21 (by decide)
  obtain ⟨vAlone, e_aAlone⟩ := hS 22 (by decide)
  obtain ⟨vKept, e_aKept⟩ := hS 23 (by decide)
  have m_aWorlds := (hB 1 (by decide) (by decide)).1
  have r_aWorlds := (hB 1 (by decide) (by decide)).2
  have m_aInWorld := (hB 2 (by decide) (by decide)).1
  have r_aInWorld := (hB 2 (by decide) (by decide)).2
  have m_aKind := (hB 3 (by decide) (by decide)).1
  have r_aKind := (hB 3 (by decide) (by decide)).2
  have m_aSize := (hB 4 (by decide) (by decide)).1
  have r_aSize := (hB 4 (by decide) (by decide)).2
  have m_aMarks := (hB 5 (by decide) (by decide)).1
  have r_aMarks := (hB 5 (by decide) (by decide)).2
  have m_aSeed := (hB 6 (by decide) (by decide)).1
  have r_aSeed := (hB 6 (by decide) (by decide)).2
  have m_aContents := (hB 7 (by decide) (by decide)).1
  have r_aContents := (hB 7 (by decide) (by decide)).2
  have m_aContentMany := (hB 8 (by decide) (by decide)).1
  have r_aContentMany := (hB 8 (by decide) (by decide)).2
  have m_aRow := (hB 9 (by decide) (by decide)).1
  have r_aRow := (hB 9 (by decide) (by decide)).2
  have m_aBits := (hB 10 (by decide) (by decide)).1
  have r_aBits := (hB 10 (by decide) (by decide)).2
  have m_aLayerSize := (hB 11 (by decide) (by decide)).1
  have r_aLayerSize := (hB 11 (by decide) (by decide)).2
  have m_aLayerCame := (hB 12 (by decide) (by decide)).1
  have r_aLayerCame := (hB 12 (by decide) (by decide)).2
  have m_aRest := (hB 13 (by decide) (by decide)).1
  have r_aRest := (hB 13 (by decide) (by decide)).2
  have m_aRestMany := (hB 14 (by decide) (by decide)).1
  have r_aRestMany := (hB 14 (by decide) (by decide)).2
  have m_aCome := (hB 16 (by decide) (by decide)).1
  have r_aCome := (hB 16 (by decide) (by decide)).2
  have m_aRivals := (hB 17 (by decide) (by decide)).1
  have r_aRivals := (hB 17 (by decide) (by decide)).2
  have m_aGone := (hB 18 (by decide) (by decide)).1
  have r_aGone := (hB 18 (by decide) (by decide)).2
  have m_aOrder := (hB 19 (by decide) (by decide)).1
  have r_aOrder := (hB 19 (by decide) (by decide)).2
  have m_aOffAt := (hB 20 (by decide) (by decide)).1
  have r_aOffAt := (hB 20 (by decide) (by decide)).2
  have m_aIsOff := (hB 21 (by decide) (by decide)).1
  have r_aIsOff := (hB 21 (by decide) (by decide)).2
  have m_aAlone := (hB 22 (by decide) (by decide)).1
  have r_aAlone := (hB 22 (by decide) (by decide)).2
  have m_aKept := (hB 23 (by decide) (by decide)).1
  have r_aKept := (hB 23 (by decide) (by decide)).2
  have m_y := (hB 0 (by decide) (by decide)).1
  have r_y := (hB 0 (by decide) (by decide)).2
  obtain ⟨z, hz, hq⟩ : OK (mX9_layered many vW vIW vK vZ vM vS vCt vC vRow vB vL vLC vRe vR vCome vRivals vGone wi wa by_) _ := rlayered_ok hI _ _ _ _ _ _ _ _ _ _ _ _ _
  refine cI_up (k_X9_layered l D g m_y e_y m_aWorlds e_aWorlds m_aInWorld e_aInWorld m_aKind e_aKind m_aSize e_aSize m_aMarks e_aMarks m_aSeed e_aSeed m_aContents e_aContents m_aContentMany e_aContentMany m_aRow e_aRow m_aBits e_aBits m_aLayerSize e_aLayerSize m_aLayerCame e_aLayerCame m_aRest e_aRest m_aRestMany e_aRestMany m_aCome e_aCome m_aRivals e_aRivals m_aGone e_aGone m_aOrder e_aOrder m_aOffAt e_aOffAt m_aIsOff e_aIsOff m_aAlone e_aAlone m_aKept e_aKept r_aKind r_aSize r_aMarks r_aSeed r_aContents r_aContentMany r_aLayerSize r_aLayerCame r_aRest r_aRestMany r_aCome r_aRivals r_aGone hz) (by decide) (by decide) (by decide) (by decide) (by decide) (by decide) (fun x L1 f1 P => ?_)
  obtain ⟨ex, eL, fv, E_y, E_aKind, E_aSize, E_aMarks, E_aSeed, E_aContents, E_aContentMany, E_aRow, E_aBits, E_aLayerSize, E_aLayerCame, E_aRest, E_aRestMany, E_aCome, E_aRivals, E_aGone⟩ := P
  subst eL
  refine ⟨_, ⟨vCome, vRivals, vGone, z, hz, ex, rfl⟩, ?_⟩
  have FT : ∀ b, b ∈ L1 → ¬ TR [0, 3, 4, 5, 6, 7, 8, 9, 10, 11, 12, 13, 14, 16, 17, 18] (ρ b) → f1 b = f b := fun b hb ht => fv b hb (ne_T2 ht (tr_y r_y (by decide))) (ne_T2 ht (tr_y r_aKind (by decide))) (ne_T2 ht (tr_y r_aSize (by decide))) (ne_T2 ht (tr_y r_aMarks (by decide))) (ne_T2 ht (tr_y r_aSeed (by decide))) (ne_T2 ht (tr_y r_aContents (by decide))) (ne_T2 ht (tr_y r_aContentMany (by decide))) (ne_T2 ht (tr_y r_aRow (by decide))) (ne_T2 ht (tr_y r_aBits (by decide))) (ne_T2 ht (tr_y r_aLayerSize (by decide))) (ne_T2 ht (tr_y r_aLayerCame (by decide))) (ne_T2 ht (tr_y r_aRest (by decide))) (ne_T2 ht (tr_y r_aRestMany (by decide))) (ne_T2 ht (tr_y r_aCome (by decide))) (ne_T2 ht (tr_y r_aRivals (by decide))) (ne_T2 ht (tr_y r_aGone (by decide)))
  refine CY_up [0, 3, 4, 5, 6, 7, 8, 9, 10, 11, 12, 13, 14, 16, 17, 18] hB hS FT E_y ((FT _ m_aWorlds (tr_n r_aWorlds (by decide))).trans e_aWorlds) ((FT _ m_aInWorld (tr_n r_aInWorld (by decide))).trans e_aInWorld) E_aKind E_aSize E_aMarks E_aSeed E_aContents E_aContentMany E_aRow E_aBits E_aLayerSize E_aLayerCame E_aRest E_aRestMany ?_ ⟨hq, hWY⟩
  intro k hk hK
  have hc : k = 16 ∨ k = 17 ∨ k = 18 := by
    have hh : ∀ q, q ∈ [16, 17, 18, 19, 20, 21, 22, 23] → q ∈ [0, 3, 4, 5, 6, 7, 8, 9, 10, 11, 12, 13, 14, 16, 17, 18] → q = 16 ∨ q = 17 ∨ q = 18 := by decide
    exact hh k hk hK
  rcases hc with rfl | rfl | rfl
  · exact ⟨_, E_aCome⟩
  · exact ⟨_, E_aRivals⟩
  · exact ⟨_, E_aGone⟩
def S9_put (sq : Int32) (t : Int64) : RT → Int32 → RT → Prop := fun (many, vW, vIW, vK, vZ, vM, vS, vCt, vC, vRow, vB, vL, vLC, vRe, vR) x r1 => ∃ vKept : Nat → Int32, ∃ z, mX9_put many vK vZ vM vS vCt vC vRow vKept sq t = some z ∧ x = z.1 ∧ r1 = (many, vW, vIW, vK, vZ, vM, vS, z.2.1, z.2.2.1, z.2.2.2.1, vB, vL, vLC, vRe, vR)
set_option maxHeartbeats 1000000 in
theorem rx_put (l : Launch) (D : va_G) {ρ : Nat → Nat × Nat} {g : Nat → ClassId} {L : List Nat} {f : Nat → va_E} {y : Nat} {r : RT} (C : CfY ρ g L f y r) (sq : Int32) (t : Int64) : cI l yX9_put wsX9_put (RmC 0 0) D g [.ref y, .int sq, .long t] L f 0 0 (fun x L1 f1 => ∃ r1, S9_put sq t r x r1 ∧ ResY ρ g L f y r1 L1 f1) := by
  have CC := C
  obtain ⟨many, vW, vIW, vK, vZ, vM, vS, vCt, vC, vRow, vB, vL, vLC, vRe, vR⟩ := r
  obtain ⟨B, rfl, hB, ⟨e_y, e_aWorlds, e_aInWorld, e_aKind, e_aSize, e_aMarks, e_aSeed, e_aContents, e_aContentMany, e_aRow, e_aBits, e_aLayerSize, e_aLayerCame, e_aRest, e_aRestMany, hS⟩, hI, hWY⟩ := C
  obtain ⟨vCome, e_aCome⟩ := hS 16 (by decide)
  obtain ⟨vRivals, e_aRivals⟩ := hS 17 (by decide)
  obtain ⟨vGone, e_aGone⟩ := hS 18 (by decide)
  obtain ⟨vOrder, e_aOrder⟩ := hS 19 (by decide)
  obtain ⟨vOffAt, e_aOffAt⟩ := hS 20 (by decide)
  obtain ⟨vIsOff, e_aIsOff⟩ := hS 21 (by decide)
  obtain ⟨vAlone, e_aAlone⟩ := hS 22 (by decide)
  obtain ⟨vKept, e_aKept⟩ := hS 23 (by decide)
  have m_aWorlds := (hB 1 (by decide) (by decide)).1
  have r_aWorlds := (hB 1 (by decide) (by decide)).2
  have m_aInWorld := (hB 2 (by decide) (by decide)).1
  have r_aInWorld := (hB 2 (by decide) (by decide)).2
  have m_aKind := (hB 3 (by decide) (by decide)).1
  have r_aKind := (hB 3 (by decide) (by decide)).2
  have m_aSize := (hB 4 (by decide) (by decide)).1
  have r_aSize := (hB 4 (by decide) (by decide)).2
  have m_aMarks := (hB 5 (by decide) (by decide)).1
  have r_aMarks := (hB 5 (by decide) (by decide)).2
  have m_aSeed := (hB 6 (by decide) (by decide)).1
  have r_aSeed := (hB 6 (by decide) (by decide)).2
  have m_aContents := (hB 7 (by decide) (by decide)).1
  have r_aContents := (hB 7 (by decide) (by decide)).2
  have m_aContentMany := (hB 8 (by decide) (by decide)).1
  have r_aContentMany := (hB 8 (by decide) (by decide)).2
  have m_aRow := (hB 9 (by decide) (by decide)).1
  have r_aRow := (hB 9 (by decide) (by decide)).2
  have m_aBits := (hB 10 (by decide) (by decide)).1
  have r_aBits := (hB 10 (by decide) (by decide)).2
  have m_aLayerSize := (hB 11 (by decide) (by decide)).1
  have r_aLayerSize := (hB 11 (by decide) (by decide)).2
  have m_aLayerCame := (hB 12 (by decide) (by decide)).1
  have r_aLayerCame := (hB 12 (by decide) (by decide)).2
  have m_aRest := (hB 13 (by decide) (by decide)).1
  have r_aRest := (hB 13 (by decide) (by decide)).2
  have m_aRestMany := (hB 14 (by decide) (by decide)).1
  have r_aRestMany := (hB 14 (by decide) (by decide)).2
  have m_aCome := (hB 16 (by decide) (by decide)).1
  have r_aCome := (hB 16 (by decide) (by decide)).2
  have m_aRivals := (hB 17 (by decide) (by decide)).1
  have r_aRivals := (hB 17 (by decide) (by decide)).2
  have m_aGone := (hB 18 (by decide) (by decide)).1
  have r_aGone := (hB 18 (by decide) (by decide)).2
  have m_aOrder := (hB 19 (by decide) (by decide)).1
  have r_aOrder := (hB 19 (by decide) (by decide)).2
  have m_aOffAt := (hB 20 (by decide) (by decide)).1
  have r_aOffAt := (hB 20 (by decide) (by decide)).2
  have m_aIsOff := (hB 21 (by decide) (by decide)).1
  have r_aIsOff := (hB 21 (by decide) (by decide)).2
  have m_aAlone := (hB 22 (by decide) (by decide)).1
  have r_aAlone := (hB 22 (by decide) (by decide)).2
  have m_aKept := (hB 23 (by decide) (by decide)).1
  have r_aKept := (hB 23 (by decide) (by decide)).2
  have m_y := (hB 0 (by decide) (by decide)).1
  have r_y := (hB 0 (by decide) (by decide)).2
  obtain ⟨z, hz, hq⟩ : OK (mX9_put many vK vZ vM vS vCt vC vRow vKept sq t) _ := rput_ok hI _ _ _ _ _ _
  refine cI_up (k_X9_put l D g m_y e_y m_aWorlds e_aWorlds m_aInWorld e_aInWorld m_aKind e_aKind m_aSize e_aSize m_aMarks e_aMarks m_aSeed e_aSeed m_aContents e_aContents m_aContentMany e_aContentMany m_aRow e_aRow m_aBits e_aBits m_aLayerSize e_aLayerSize m_aLayerCame e_aLayerCame m_aRest e_aRest m_aRestMany e_aRestMany m_aCome e_aCome m_aRivals e_aRivals m_aGone e_aGone m_aOrder e_aOrder m_aOffAt e_aOffAt m_aIsOff e_aIsOff m_aAlone e_aAlone m_aKept e_aKept r_aAlone r_aKept hz) (by decide) (by decide) (by decide) (by decide) (by decide) (by decide) (fun x L1 f1 P => ?_)
  obtain ⟨ex, eL, fv, E_aContents, E_aContentMany, E_aRow, E_aKept⟩ := P
  subst eL
  refine ⟨_, ⟨vKept, z, hz, ex, rfl⟩, ?_⟩
  have FT : ∀ b, b ∈ L1 → ¬ TR [7, 8, 9, 23] (ρ b) → f1 b = f b := fun b hb ht => fv b hb (ne_T2 ht (tr_y r_aContents (by decide))) (ne_T2 ht (tr_y r_aContentMany (by decide))) (ne_T2 ht (tr_y r_aRow (by decide))) (ne_T2 ht (tr_y r_aKept (by decide)))
  refine CY_up [7, 8, 9, 23] hB hS FT ((FT _ m_y (tr_n r_y (by decide))).trans e_y) ((FT _ m_aWorlds (tr_n r_aWorlds (by decide))).trans e_aWorlds) ((FT _ m_aInWorld (tr_n r_aInWorld (by decide))).trans e_aInWorld) ((FT _ m_aKind (tr_n r_aKind (by decide))).trans e_aKind) ((FT _ m_aSize (tr_n r_aSize (by decide))).trans e_aSize) ((FT _ m_aMarks (tr_n r_aMarks (by decide))).trans e_aMarks) ((FT _ m_aSeed (tr_n r_aSeed (by decide))).trans e_aSeed) E_aContents E_aContentMany E_aRow ((FT _ m_aBits (tr_n r_aBits (by decide))).trans e_aBits) ((FT _ m_aLayerSize (tr_n r_aLayerSize (by decide))).trans e_aLayerSize) ((FT _ m_aLayerCame (tr_n r_aLayerCame (by decide))).trans e_aLayerCame) ((FT _ m_aRest (tr_n r_aRest (by decide))).trans e_aRest) ((FT _ m_aRestMany (tr_n r_aRestMany (by decide))).trans e_aRestMany) ?_ ⟨hq, hWY⟩
  intro k hk hK
  have hc : k = 23 := by
    have hh : ∀ q, q ∈ [16, 17, 18, 19, 20, 21, 22, 23] → q ∈ [7, 8, 9, 23] → q = 23 := by decide
    exact hh k hk hK
  subst hc
  exact ⟨_, E_aKept⟩
def S9_putAll (sq : Int32) (wi : Int32) : RT → Int32 → RT → Prop := fun (many, vW, vIW, vK, vZ, vM, vS, vCt, vC, vRow, vB, vL, vLC, vRe, vR) x r1 => ∃ vKept : Nat → Int32, ∃ z, mX9_putAll many vW vIW vK vZ vM vS vCt vC vRow vKept sq wi = some z ∧ x = z.1 ∧ r1 = (many, vW, vIW, vK, vZ, vM, vS, z.2.1, z.2.2.1, z.2.2.2.1, vB, vL, vLC, vRe, vR)
set_option maxHeartbeats 1000000 in
theorem rx_putAll (l : Launch) (D : va_G) {ρ : Nat → Nat × Nat} {g : Nat → ClassId} {L : List Nat} {f : Nat → va_E} {y : Nat} {r : RT} (C : CfY ρ g L f y r) (sq : Int32) (wi : Int32) : cI l yX9_putAll wsX9_putAll (RmC 0 0) D g [.ref y, .int sq, .int wi] L f 0 0 (fun x L1 f1 => ∃ r1, S9_putAll sq wi r x r1 ∧ ResY ρ g L f y r1 L1 f1) := by
  have CC := C
  obtain ⟨many, vW, vIW, vK, vZ, vM, vS, vCt, vC, vRow, vB, vL, vLC, vRe, vR⟩ := r
  obtain ⟨B, rfl, hB, ⟨e_y, e_aWorlds, e_aInWorld, e_aKind, e_aSize, e_aMarks, e_aSeed, e_aContents, e_aContentMany, e_aRow, e_aBits, e_aLayerSize, e_aLayerCame, e_aRest, e_aRestMany, hS⟩, hI, hWY⟩ := C
  obtain ⟨vCome, e_aCome⟩ := hS 16 (by decide)
  obtain ⟨vRivals, e_aRivals⟩ := hS 17 (by decide)
  obtain ⟨vGone, e_aGone⟩ := hS 18 (by decide)
  obtain ⟨vOrder, e_aOrder⟩ := hS 19 (by decide)
  obtain ⟨vOffAt, e_aOffAt⟩ := hS 20 (by decide)
  obtain ⟨vIsOff, e_aIsOff⟩ := hS 21 (by decide)
  obtain ⟨vAlone, e_aAlone⟩ := hS 22 (by decide)
  obtain ⟨vKept, e_aKept⟩ := hS 23 (by decide)
  have m_aWorlds := (hB 1 (by decide) (by decide)).1
  have r_aWorlds := (hB 1 (by decide) (by decide)).2
  have m_aInWorld := (hB 2 (by decide) (by decide)).1
  have r_aInWorld := (hB 2 (by decide) (by decide)).2
  have m_aKind := (hB 3 (by decide) (by decide)).1
  have r_aKind := (hB 3 (by decide) (by decide)).2
  have m_aSize := (hB 4 (by decide) (by decide)).1
  have r_aSize := (hB 4 (by decide) (by decide)).2
  have m_aMarks := (hB 5 (by decide) (by decide)).1
  have r_aMarks := (hB 5 (by decide) (by decide)).2
  have m_aSeed := (hB 6 (by decide) (by decide)).1
  have r_aSeed := (hB 6 (by decide) (by decide)).2
  have m_aContents := (hB 7 (by decide) (by decide)).1
  have r_aContents := (hB 7 (by decide) (by decide)).2
  have m_aContentMany := (hB 8 (by decide) (by decide)).1
  have r_aContentMany := (hB 8 (by decide) (by decide)).2
  have m_aRow := (hB 9 (by decide) (by decide)).1
  have r_aRow := (hB 9 (by decide) (by decide)).2
  have m_aBits := (hB 10 (by decide) (by decide)).1
  have r_aBits := (hB 10 (by decide) (by decide)).2
  have m_aLayerSize := (hB 11 (by decide) (by decide)).1
  have r_aLayerSize := (hB 11 (by decide) (by decide)).2
  have m_aLayerCame := (hB 12 (by decide) (by decide)).1
  have r_aLayerCame := (hB 12 (by decide) (by decide)).2
  have m_aRest := (hB 13 (by decide) (by decide)).1
  have r_aRest := (hB 13 (by decide) (by decide)).2
  have m_aRestMany := (hB 14 (by decide) (by decide)).1
  have r_aRestMany := (hB 14 (by decide) (by decide)).2
  have m_aCome := (hB 16 (by decide) (by decide)).1
  have r_aCome := (hB 16 (by decide) (by decide)).2
  have m_aRivals := (hB 17 (by decide) (by decide)).1
  have r_aRivals := (hB 17 (by decide) (by decide)).2
  have m_aGone := (hB 18 (by decide) (by decide)).1
  have r_aGone := (hB 18 (by decide) (by decide)).2
  have m_aOrder := (hB 19 (by decide) (by decide)).1
  have r_aOrder := (hB 19 (by decide) (by decide)).2
  have m_aOffAt := (hB 20 (by decide) (by decide)).1
  have r_aOffAt := (hB 20 (by decide) (by decide)).2
  have m_aIsOff := (hB 21 (by decide) (by decide)).1
  have r_aIsOff := (hB 21 (by decide) (by decide)).2
  have m_aAlone := (hB 22 (by decide) (by decide)).1
  have r_aAlone := (hB 22 (by decide) (by decide)).2
  have m_aKept := (hB 23 (by decide) (by decide)).1
  have r_aKept := (hB 23 (by decide) (by decide)).2
  have m_y := (hB 0 (by decide) (by decide)).1
  have r_y := (hB 0 (by decide) (by decide)).2
  obtain ⟨z, hz, hq⟩ : OK (mX9_putAll many vW vIW vK vZ vM vS vCt vC vRow vKept sq wi) _ := rputAll_ok hI _ _ _ _ _ _ _
  refine cI_up (k_X9_putAll l D g m_y e_y m_aWorlds e_aWorlds m_aInWorld e_aInWorld m_aKind e_aKind m_aSize e_aSize m_aMarks e_aMarks m_aSeed e_aSeed m_aContents e_aContents m_aContentMany e_aContentMany m_aRow e_aRow m_aBits e_aBits m_aLayerSize e_aLayerSize m_aLayerCame e_aLayerCame m_aRest e_aRest m_aRestMany e_aRestMany m_aCome e_aCome m_aRivals e_aRivals m_aGone e_aGone m_aOrder e_aOrder m_aOffAt e_aOffAt m_aIsOff e_aIsOff m_aAlone e_aAlone m_aKept e_aKept r_aKind r_aSize r_aMarks r_aSeed r_aContents r_aContentMany r_aRest r_aRestMany r_aAlone r_aKept hz) (by decide) (by decide) (by decide) (by decide) (by decide) (by decide) (fun x L1 f1 P => ?_)
  obtain ⟨ex, eL, fv, E_aContents, E_aContentMany, E_aRow, E_aKept⟩ := P
  subst eL
  refine ⟨_, ⟨vKept, z, hz, ex, rfl⟩, ?_⟩
  have FT : ∀ b, b ∈ L1 → ¬ TR [7, 8, 9, 23] (ρ b) → f1 b = f b := fun b hb ht => fv b hb (ne_T2 ht (tr_y r_aContents (by decide))) (ne_T2 ht (tr_y r_aContentMany (by decide))) (ne_T2 ht (tr_y r_aRow (by decide))) (ne_T2 ht (tr_y r_aKept (by decide)))
  refine CY_up [7, 8, 9, 23] hB hS FT ((FT _ m_y (tr_n r_y (by decide))).trans e_y) ((FT _ m_aWorlds (tr_n r_aWorlds (by decide))).trans e_aWorlds) ((FT _ m_aInWorld (tr_n r_aInWorld (by decide))).trans e_aInWorld) ((FT _ m_aKind (tr_n r_aKind (by decide))).trans e_aKind) ((FT _ m_aSize (tr_n r_aSize (by decide))).trans e_aSize) ((FT _ m_aMarks (tr_n r_aMarks (by decide))).trans e_aMarks) ((FT _ m_aSeed (tr_n r_aSeed (by decide))).trans e_aSeed) E_aContents E_aContentMany E_aRow ((FT _ m_aBits (tr_n r_aBits (by decide))).trans e_aBits) ((FT _ m_aLayerSize (tr_n r_aLayerSize (by decide))).trans e_aLayerSize) ((FT _ m_aLayerCame (tr_n r_aLayerCame (by decide))).trans e_aLayerCame) ((FT _ m_aRest (tr_n r_aRest (by decide))).trans e_aRest) ((FT _ m_aRestMany (tr_n r_aRestMany (by decide))).trans e_aRestMany) ?_ ⟨hq, hWY⟩
  intro k hk hK
  have hc : k = 23 := by
    have hh : ∀ q, q ∈ [16, 17, 18, 19, 20, 21, 22, 23] → q ∈ [7, 8, 9, 23] → q = 23 := by decide
    exact hh k hk hK
  subst hc
  exact ⟨_, E_aKept⟩
def S9_drop (sq : Int32) (t : Int64) : RT → Int32 → RT → Prop := fun (many, vW, vIW, vK, vZ, vM, vS, vCt, vC, vRow, vB, vL, vLC, vRe, vR) x r1 => ∃ z, mX9_drop many vK vZ vM vS vCt vC vRow vB vL vRe vR sq t = some z ∧ x = z.1 ∧ r1 = (many, vW, vIW, vK, vZ, vM, vS, z.2.1, z.2.2.1, z.2.2.2, vB, vL, vLC, vRe, vR)
set_option maxHeartbeats 1000000 in
theorem rx_drop (l : Launch) (D : va_G) {ρ : Nat → Nat × Nat} {g : Nat → ClassId} {L : List Nat} {f : Nat → va_E} {y : Nat} {r : RT} (C : CfY ρ g L f y r) (sq : Int32) (t : Int64) : cI l yX9_drop wsX9_drop (RmC 0 0) D g [.ref y, .int sq, .long t] L f 0 0 (fun x L1 f1 => ∃ r1, S9_drop sq t r x r1 ∧ ResY ρ g L f y r1 L1 f1) := by
  have CC := C
  obtain ⟨many, vW, vIW, vK, vZ, vM, vS, vCt, vC, vRow, vB, vL, vLC, vRe, vR⟩ := r
  obtain ⟨B, rfl, hB, ⟨e_y, e_aWorlds, e_aInWorld, e_aKind, e_aSize, e_aMarks, e_aSeed, e_aContents, e_aContentMany, e_aRow, e_aBits, e_aLayerSize, e_aLayerCame, e_aRest, e_aRestMany, hS⟩, hI, hWY⟩ := C
  obtain ⟨vCome, e_aCome⟩ := hS 16 (by decide)
  obtain ⟨vRivals, e_aRivals⟩ := hS 17 (by decide)
  obtain ⟨vGone, e_aGone⟩ := hS 18 (by decide)
  obtain ⟨vOrder, e_aOrder⟩ := hS 19 (by decide)
  obtain ⟨vOffAt, e_aOffAt⟩ := hS 20 (by decide)
  obtain ⟨vIsOff, e_aIsOff⟩ := hS 21 (by decide)
  obtain ⟨vAlone, e_aAlone⟩ := hS 22 (by decide)
  obtain ⟨vKept, e_aKept⟩ := hS 23 (by decide)
  have m_aWorlds := (hB 1 (by decide) (by decide)).1
  have r_aWorlds := (hB 1 (by decide) (by decide)).2
  have m_aInWorld := (hB 2 (by decide) (by decide)).1
  have r_aInWorld := (hB 2 (by decide) (by decide)).2
  have m_aKind := (hB 3 (by decide) (by decide)).1
  have r_aKind := (hB 3 (by decide) (by decide)).2
  have m_aSize := (hB 4 (by decide) (by decide)).1
  have r_aSize := (hB 4 (by decide) (by decide)).2
  have m_aMarks := (hB 5 (by decide) (by decide)).1
  have r_aMarks := (hB 5 (by decide) (by decide)).2
  have m_aSeed := (hB 6 (by decide) (by decide)).1
  have r_aSeed := (hB 6 (by decide) (by decide)).2
  have m_aContents := (hB 7 (by decide) (by decide)).1
  have r_aContents := (hB 7 (by decide) (by decide)).2
  have m_aContentMany := (hB 8 (by decide) (by decide)).1
  have r_aContentMany := (hB 8 (by decide) (by decide)).2
  have m_aRow := (hB 9 (by decide) (by decide)).1
  have r_aRow := (hB 9 (by decide) (by decide)).2
  have m_aBits := (hB 10 (by decide) (by decide)).1
  have r_aBits := (hB 10 (by decide) (by decide)).2
  have m_aLayerSize := (hB 11 (by decide) (by decide)).1
  have r_aLayerSize := (hB 11 (by decide) (by decide)).2
  have m_aLayerCame := (hB 12 (by decide) (by decide)).1
  have r_aLayerCame := (hB 12 (by decide) (by decide)).2
  have m_aRest := (hB 13 (by decide) (by decide)).1
  have r_aRest := (hB 13 (by decide) (by decide)).2
  have m_aRestMany := (hB 14 (by decide) (by decide)).1
  have r_aRestMany := (hB 14 (by decide) (by decide)).2
  have m_aCome := (hB 16 (by decide) (by decide)).1
  have r_aCome := (hB 16 (by decide) (by decide)).2
  have m_aRivals := (hB 17 (by decide) (by decide)).1
  have r_aRivals := (hB 17 (by decide) (by decide)).2
  have m_aGone := (hB 18 (by decide) (by decide)).1
  have r_aGone := (hB 18 (by decide) (by decide)).2
  have m_aOrder := (hB 19 (by decide) (by decide)).1
  have r_aOrder := (hB 19 (by decide) (by decide)).2
  have m_aOffAt := (hB 20 (by decide) (by decide)).1
  have r_aOffAt := (hB 20 (by decide) (by decide)).2
  have m_aIsOff := (hB 21 (by decide) (by decide)).1
  have r_aIsOff := (hB 21 (by decide) (by decide)).2
  have m_aAlone := (hB 22 (by decide) (by decide)).1
  have r_aAlone := (hB 22 (by decide) (by decide)).2
  have m_aKept := (hB 23 (by decide) (by decide)).1
  have r_aKept := (hB 23 (by decide) (by decide)).2
  have m_y := (hB 0 (by decide) (by decide)).1
  have r_y := (hB 0 (by decide) (by decide)).2
  obtain ⟨z, hz, hq⟩ : OK (mX9_drop many vK vZ vM vS vCt vC vRow vB vL vRe vR sq t) _ := rdrop_ok hI _ _ _ _ _ _ _
  refine cI_up (k_X9_drop l D g m_y e_y m_aWorlds e_aWorlds m_aInWorld e_aInWorld m_aKind e_aKind m_aSize e_aSize m_aMarks e_aMarks m_aSeed e_aSeed m_aContents e_aContents m_aContentMany e_aContentMany m_aRow e_aRow m_aBits e_aBits m_aLayerSize e_aLayerSize m_aLayerCame e_aLayerCame m_aRest e_aRest m_aRestMany e_aRestMany m_aCome e_aCome m_aRivals e_aRivals m_aGone e_aGone m_aOrder e_aOrder m_aOffAt e_aOffAt m_aIsOff e_aIsOff m_aAlone e_aAlone m_aKept e_aKept hz) (by decide) (by decide) (by decide) (by decide) (by decide) (by decide) (fun x L1 f1 P => ?_)
  obtain ⟨ex, eL, fv, E_aContents, E_aContentMany, E_aRow⟩ := P
  subst eL
  refine ⟨_, ⟨z, hz, ex, rfl⟩, ?_⟩
  have FT : ∀ b, b ∈ L1 → ¬ TR [7, 8, 9] (ρ b) → f1 b = f b := fun b hb ht => fv b hb (ne_T2 ht (tr_y r_aContents (by decide))) (ne_T2 ht (tr_y r_aContentMany (by decide))) (ne_T2 ht (tr_y r_aRow (by decide)))
  refine CY_up [7, 8, 9] hB hS FT ((FT _ m_y (tr_n r_y (by decide))).trans e_y) ((FT _ m_aWorlds (tr_n r_aWorlds (by decide))).trans e_aWorlds) ((FT _ m_aInWorld (tr_n r_aInWorld (by decide))).trans e_aInWorld) ((FT _ m_aKind (tr_n r_aKind (by decide))).trans e_aKind) ((FT _ m_aSize (tr_n r_aSize (by decide))).trans e_aSize) ((FT _ m_aMarks (tr_n r_aMarks (by decide))).trans e_aMarks) ((FT _ m_aSeed (tr_n r_aSeed (by decide))).trans e_aSeed) E_aContents E_aContentMany E_aRow ((FT _ m_aBits (tr_n r_aBits (by decide))).trans e_aBits) ((FT _ m_aLayerSize (tr_n r_aLayerSize (by decide))).trans e_aLayerSize) ((FT _ m_aLayerCame (tr_n r_aLayerCame (by decide))).trans e_aLayerCame) ((FT _ m_aRest (tr_n r_aRest (by decide))).trans e_aRest) ((FT _ m_aRestMany (tr_n r_aRestMany (by decide))).trans e_aRestMany) ?_ ⟨hq, hWY⟩
  intro k hk hK
  have hc : False := by
    have hh : ∀ q, q ∈ [16, 17, 18, 19, 20, 21, 22, 23] → q ∈ [7, 8, 9] → False := by decide
    exact hh k hk hK
  exact hc.elim
def S9_lets (sq : Int32) (t : Int64) : RT → Int32 → RT → Prop := fun (many, vW, vIW, vK, vZ, vM, vS, vCt, vC, vRow, vB, vL, vLC, vRe, vR) x r1 => ∃ z, mX9_lets many vK vZ vM vS vRow vB vL vRe vR sq t = some z ∧ x = z ∧ r1 = (many, vW, vIW, vK, vZ, vM, vS, vCt, vC, vRow, vB, vL, vLC, vRe, vR)
set_option maxHeartbeats 1000000 in
theorem rx_lets (l : Launch) (D : va_G) {ρ : Nat → Nat × Nat} {g : Nat → ClassId} {L : List Nat} {f : Nat → va_E} {y : Nat} {r : RT} (C : CfY ρ g L f y r) (sq : Int32) (t : Int64) : cI l yX9_lets wsX9_lets (RmC 0 0) D g [.ref y, .int sq, .long t] L f 0 0 (fun x L1 f1 => ∃ r1, S9_lets sq t r x r1 ∧ ResY ρ g L f y r1 L1 f1) := by
  have CC := C
  obtain ⟨many, vW, vIW, vK, vZ, vM, vS, vCt, vC, vRow, vB, vL, vLC, vRe, vR⟩ := r
  obtain ⟨B, rfl, hB, ⟨e_y, e_aWorlds, e_aInWorld, e_aKind, e_aSize, e_aMarks, e_aSeed, e_aContents, e_aContentMany, e_aRow, e_aBits, e_aLayerSize, e_aLayerCame, e_aRest, e_aRestMany, hS⟩, hI, hWY⟩ := C
  obtain ⟨vCome, e_aCome⟩ := hS 16 (by decide)
  obtain ⟨vRivals, e_aRivals⟩ := hS 17 (by decide)
  obtain ⟨vGone, e_aGone⟩ := hS 18 (by decide)
  obtain ⟨vOrder, e_aOrder⟩ := hS 19 (by decide)
  obtain ⟨vOffAt, e_aOffAt⟩ := hS 20 (by decide)
  obtain ⟨vIsOff, e_aIsOff⟩ := hS 21 (by decide)
  obtain ⟨vAlone, e_aAlone⟩ := hS 22 (by decide)
  obtain ⟨vKept, e_aKept⟩ := hS 23 (by decide)
  have m_aWorlds := (hB 1 (by decide) (by decide)).1
  have r_aWorlds := (hB 1 (by decide) (by decide)).2
  have m_aInWorld := (hB 2 (by decide) (by decide)).1
  have r_aInWorld := (hB 2 (by decide) (by decide)).2
  have m_aKind := (hB 3 (by decide) (by decide)).1
  have r_aKind := (hB 3 (by decide) (by decide)).2
  have m_aSize := (hB 4 (by decide) (by decide)).1
  have r_aSize := (hB 4 (by decide) (by decide)).2
  have m_aMarks := (hB 5 (by decide) (by decide)).1
  have r_aMarks := (hB 5 (by decide) (by decide)).2
  have m_aSeed := (hB 6 (by decide) (by decide)).1
  have r_aSeed := (hB 6 (by decide) (by decide)).2
  have m_aContents := (hB 7 (by decide) (by decide)).1
  have r_aContents := (hB 7 (by decide) (by decide)).2
  have m_aContentMany := (hB 8 (by decide) (by decide)).1
  have r_aContentMany := (hB 8 (by decide) (by decide)).2
  have m_aRow := (hB 9 (by decide) (by decide)).1
  have r_aRow := (hB 9 (by decide) (by decide)).2
  have m_aBits := (hB 10 (by decide) (by decide)).1
  have r_aBits := (hB 10 (by decide) (by decide)).2
  have m_aLayerSize := (hB 11 (by decide) (by decide)).1
  have r_aLayerSize := (hB 11 (by decide) (by decide)).2
  have m_aLayerCame := (hB 12 (by decide) (by decide)).1
  have r_aLayerCame := (hB 12 (by decide) (by decide)).2
  have m_aRest := (hB 13 (by decide) (by decide)).1
  have r_aRest := (hB 13 (by decide) (by decide)).2
  have m_aRestMany := (hB 14 (by decide) (by decide)).1
  have r_aRestMany := (hB 14 (by decide) (by decide)).2
  have m_aCome := (hB 16 (by decide) (by decide)).1
  have r_aCome := (hB 16 (by decide) (by decide)).2
  have m_aRivals := (hB 17 (by decide) (by decide)).1
  have r_aRivals := (hB 17 (by decide) (by decide)).2
  have m_aGone := (hB 18 (by decide) (by decide)).1
  have r_aGone := (hB 18 (by decide) (by decide)).2
  have m_aOrder := (hB 19 (by decide) (by decide)).1
  have r_aOrder := (hB 19 (by decide) (by decide)).2
  have m_aOffAt := (hB 20 (by decide) (by decide)).1
  have r_aOffAt := (hB 20 (by decide) (by decide)).2
  have m_aIsOff := (hB 21 (by decide) (by decide)).1
  have r_aIsOff := (hB 21 (by decide) (by decide)).2
  have m_aAlone := (hB 22 (by decide) (by decide)).1
  have r_aAlone := (hB 22 (by decide) (by decide)).2
  have m_aKept := (hB 23 (by decide) (by decide)).1
  have r_aKept := (hB 23 (by decide) (by decide)).2
  have m_y := (hB 0 (by decide) (by decide)).1
  have r_y := (hB 0 (by decide) (by decide)).2
  obtain ⟨z, hz, hq⟩ : OK (mX9_lets many vK vZ vM vS vRow vB vL vRe vR sq t) _ := rlets_ok hI _ _ _ _ _ _
  refine cI_up (k_X9_lets l D g m_y e_y m_aKind e_aKind m_aSize e_aSize m_aMarks e_aMarks m_aSeed e_aSeed m_aRow e_aRow m_aBits e_aBits m_aLayerSize e_aLayerSize m_aRest e_aRest m_aRestMany e_aRestMany hz) (by decide) (by decide) (by decide) (by decide) (by decide) (by decide) (fun x L1 f1 P => ?_)
  obtain ⟨ex, eL, ef⟩ := P
  subst eL ef
  exact ⟨_, ⟨z, hz, ex, rfl⟩, ResY_same CC⟩
def S9_falses (sq : Int32) (wi : Int32) : RT → Int32 → RT → Prop := fun (many, vW, vIW, vK, vZ, vM, vS, vCt, vC, vRow, vB, vL, vLC, vRe, vR) x r1 => ∃ z, mX9_falses many vW vIW vK vZ vM vS vCt vC vRow vB vL vRe vR sq wi = some z ∧ x = z ∧ r1 = (many, vW, vIW, vK, vZ, vM, vS, vCt, vC, vRow, vB, vL, vLC, vRe, vR)
set_option maxHeartbeats 1000000 in
theorem rx_falses (l : Launch) (D : va_G) {ρ : Nat → Nat × Nat} {g : Nat → ClassId} {L : List Nat} {f : Nat → va_E} {y : Nat} {r : RT} (C : CfY ρ g L f y r) (sq : Int32) (wi : Int32) : cI l yX9_falses wsX9_falses (RmC 0 0) D g [.ref y, .int sq, .int wi] L f 0 0 (fun x L1 f1 => ∃ r1, S9_falses sq wi r x r1 ∧ ResY ρ g L f y r1 L1 f1) := by
  have CC := C
  obtain ⟨many, vW, vIW, vK, vZ, vM, vS, vCt, vC, vRow, vB, vL, vLC, vRe, vR⟩ := r
  obtain ⟨B, rfl, hB, ⟨e_y, e_aWorlds, e_aInWorld, e_aKind, e_aSize, e_aMarks, e_aSeed, e_aContents, e_aContentMany, e_aRow, e_aBits, e_aLayerSize, e_aLayerCame, e_aRest, e_aRestMany, hS⟩, hI, hWY⟩ := C
  obtain ⟨vCome, e_aCome⟩ := hS 16 (by decide)
  obtain ⟨vRivals, e_aRivals⟩ := hS 17 (by decide)
  obtain ⟨vGone, e_aGone⟩ := hS 18 (by decide)
  obtain ⟨vOrder, e_aOrder⟩ := hS 19 (by decide)
  obtain ⟨vOffAt, e_aOffAt⟩ := hS 20 (by decide)
  obtain ⟨vIsOff, e_aIsOff⟩ := hS 21 (by decide)
  obtain ⟨vAlone, e_aAlone⟩ := hS 22 (by decide)
  obtain ⟨vKept, e_aKept⟩ := hS 23 (by decide)
  have m_aWorlds := (hB 1 (by decide) (by decide)).1
  have r_aWorlds := (hB 1 (by decide) (by decide)).2
  have m_aInWorld := (hB 2 (by decide) (by decide)).1
  have r_aInWorld := (hB 2 (by decide) (by decide)).2
  have m_aKind := (hB 3 (by decide) (by decide)).1
  have r_aKind := (hB 3 (by decide) (by decide)).2
  have m_aSize := (hB 4 (by decide) (by decide)).1
  have r_aSize := (hB 4 (by decide) (by decide)).2
  have m_aMarks := (hB 5 (by decide) (by decide)).1
  have r_aMarks := (hB 5 (by decide) (by decide)).2
  have m_aSeed := (hB 6 (by decide) (by decide)).1
  have r_aSeed := (hB 6 (by decide) (by decide)).2
  have m_aContents := (hB 7 (by decide) (by decide)).1
  have r_aContents := (hB 7 (by decide) (by decide)).2
  have m_aContentMany := (hB 8 (by decide) (by decide)).1
  have r_aContentMany := (hB 8 (by decide) (by decide)).2
  have m_aRow := (hB 9 (by decide) (by decide)).1
  have r_aRow := (hB 9 (by decide) (by decide)).2
  have m_aBits := (hB 10 (by decide) (by decide)).1
  have r_aBits := (hB 10 (by decide) (by decide)).2
  have m_aLayerSize := (hB 11 (by decide) (by decide)).1
  have r_aLayerSize := (hB 11 (by decide) (by decide)).2
  have m_aLayerCame := (hB 12 (by decide) (by decide)).1
  have r_aLayerCame := (hB 12 (by decide) (by decide)).2
  have m_aRest := (hB 13 (by decide) (by decide)).1
  have r_aRest := (hB 13 (by decide) (by decide)).2
  have m_aRestMany := (hB 14 (by decide) (by decide)).1
  have r_aRestMany := (hB 14 (by decide) (by decide)).2
  have m_aCome := (hB 16 (by decide) (by decide)).1
  have r_aCome := (hB 16 (by decide) (by decide)).2
  have m_aRivals := (hB 17 (by decide) (by decide)).1
  have r_aRivals := (hB 17 (by decide) (by decide)).2
  have m_aGone := (hB 18 (by decide) (by decide)).1
  have r_aGone := (hB 18 (by decide) (by decide)).2
  have m_aOrder := (hB 19 (by decide) (by decide)).1
  have r_aOrder := (hB 19 (by decide) (by decide)).2
  have m_aOffAt := (hB 20 (by decide) (by decide)).1
  have r_aOffAt := (hB 20 (by decide) (by decide)).2
  have m_aIsOff := (hB 21 (by decide) (by decide)).1
  have r_aIsOff := (hB 21 (by decide) (by decide)).2
  have m_aAlone := (hB 22 (by decide) (by decide)).1
  have r_aAlone := (hB 22 (by decide) (by decide)).2
  have m_aKept := (hB 23 (by decide) (by decide)).1
  have r_aKept := (hB 23 (by decide) (by decide)).2
  have m_y := (hB 0 (by decide) (by decide)).1
  have r_y := (hB 0 (by decide) (by decide)).2
  obtain ⟨z, hz, hq⟩ : OK (mX9_falses many vW vIW vK vZ vM vS vCt vC vRow vB vL vRe vR sq wi) _ := rfalses_ok hI _ _ _ _ _ _ _ _
  refine cI_up (k_X9_falses l D g m_y e_y m_aWorlds e_aWorlds m_aInWorld e_aInWorld m_aKind e_aKind m_aSize e_aSize m_aMarks e_aMarks m_aSeed e_aSeed m_aContents e_aContents m_aContentMany e_aContentMany m_aRow e_aRow m_aBits e_aBits m_aLayerSize e_aLayerSize m_aRest e_aRest m_aRestMany e_aRestMany hz) (by decide) (by decide) (by decide) (by decide) (by decide) (by decide) (fun x L1 f1 P => ?_)
  obtain ⟨ex, eL, ef⟩ := P
  subst eL ef
  exact ⟨_, ⟨z, hz, ex, rfl⟩, ResY_same CC⟩
def S9_falseOne (sq : Int32) (wi : Int32) (i : Int32) : RT → Int64 → RT → Prop := fun (many, vW, vIW, vK, vZ, vM, vS, vCt, vC, vRow, vB, vL, vLC, vRe, vR) x r1 => ∃ z, mX9_falseOne many vW vIW vK vZ vM vS vCt vC vRow vB vL vRe vR sq wi i = some z ∧ x = z ∧ r1 = (many, vW, vIW, vK, vZ, vM, vS, vCt, vC, vRow, vB, vL, vLC, vRe, vR)
set_option maxHeartbeats 1000000 in
theorem rx_falseOne (l : Launch) (D : va_G) {ρ : Nat → Nat × Nat} {g : Nat → ClassId} {L : List Nat} {f : Nat → va_E} {y : Nat} {r : RT} (C : CfY ρ g L f y r) (sq : Int32) (wi : Int32) (i : Int32) : cL l yX9_falseOne wsX9_falseOne (RmC 0 0) D g [.ref y, .int sq, .int wi, .int i] L f 0 0 (fun x L1 f1 => ∃ r1, S9_falseOne sq wi i r x r1 ∧ ResY ρ g L f y r1 L1 f1) := by
  have CC := C
  obtain ⟨many, vW, vIW, vK, vZ, vM, vS, vCt, vC, vRow, vB, vL, vLC, vRe, vR⟩ := r
  obtain ⟨B, rfl, hB, ⟨e_y, e_aWorlds, e_aInWorld, e_aKind, e_aSize, e_aMarks, e_aSeed, e_aContents, e_aContentMany, e_aRow, e_aBits, e_aLayerSize, e_aLayerCame, e_aRest, e_aRestMany, hS⟩, hI, hWY⟩ := C
  obtain ⟨vCome, e_aCome⟩ := hS 16 (by decide)
  obtain ⟨vRivals, e_aRivals⟩ := hS 17 (by decide)
  obtain ⟨vGone, e_aGone⟩ := hS 18 (by decide)
  obtain ⟨vOrder, e_aOrder⟩ := hS 19 (by decide)
  obtain ⟨vOffAt, e_aOffAt⟩ := hS 20 (by decide)
  obtain ⟨vIsOff, e_aIsOff⟩ := hS 21 (by decide)
  obtain ⟨vAlone, e_aAlone⟩ := hS 22 (by decide)
  obtain ⟨vKept, e_aKept⟩ := hS 23 (by decide)
  have m_aWorlds := (hB 1 (by decide) (by decide)).1
  have r_aWorlds := (hB 1 (by decide) (by decide)).2
  have m_aInWorld := (hB 2 (by decide) (by decide)).1
  have r_aInWorld := (hB 2 (by decide) (by decide)).2
  have m_aKind := (hB 3 (by decide) (by decide)).1
  have r_aKind := (hB 3 (by decide) (by decide)).2
  have m_aSize := (hB 4 (by decide) (by decide)).1
  have r_aSize := (hB 4 (by decide) (by decide)).2
  have m_aMarks := (hB 5 (by decide) (by decide)).1
  have r_aMarks := (hB 5 (by decide) (by decide)).2
  have m_aSeed := (hB 6 (by decide) (by decide)).1
  have r_aSeed := (hB 6 (by decide) (by decide)).2
  have m_aContents := (hB 7 (by decide) (by decide)).1
  have r_aContents := (hB 7 (by decide) (by decide)).2
  have m_aContentMany := (hB 8 (by decide) (by decide)).1
  have r_aContentMany := (hB 8 (by decide) (by decide)).2
  have m_aRow := (hB 9 (by decide) (by decide)).1
  have r_aRow := (hB 9 (by decide) (by decide)).2
  have m_aBits := (hB 10 (by decide) (by decide)).1
  have r_aBits := (hB 10 (by decide) (by decide)).2
  have m_aLayerSize := (hB 11 (by decide) (by decide)).1
  have r_aLayerSize := (hB 11 (by decide) (by decide)).2
  have m_aLayerCame := (hB 12 (by decide) (by decide)).1
  have r_aLayerCame := (hB 12 (by decide) (by decide)).2
  have m_aRest := (hB 13 (by decide) (by decide)).1
  have r_aRest := (hB 13 (by decide) (by decide)).2
  have m_aRestMany := (hB 14 (by decide) (by decide)).1
  have r_aRestMany := (hB 14 (by decide) (by decide)).2
  have m_aCome := (hB 16 (by decide) (by decide)).1
  have r_aCome := (hB 16 (by decide) (by decide)).2
  have m_aRivals := (hB 17 (by decide) (by decide)).1
  have r_aRivals := (hB 17 (by decide) (by decide)).2
  have m_aGone := (hB 18 (by decide) (by decide)).1
  have r_aGone := (hB 18 (by decide) (by decide)).2
  have m_aOrder := (hB 19 (by decide) (by decide)).1
  have r_aOrder := (hB 19 (by decide) (by decide)).2
  have m_aOffAt := (hB 20 (by decide) (by decide)).1
  have r_aOffAt := (hB 20 (by decide) (by decide)).2
  have m_aIsOff := (hB 21 (by decide) (by decide)).1
  have r_aIsOff := (hB 21 (by decide) (by decide)).2
  have m_aAlone := (hB 22 (by decide) (by decide)).1
  have r_aAlone := (hB 22 (by decide) (by decide)).2
  have m_aKept := (hB 23 (by decide) (by decide)).1
  have r_aKept := (hB 23 (by decide) (by decide)).2
  have m_y := (hB 0 (by decide) (by decide)).1
  have r_y := (hB 0 (by decide) (by decide)).2
  obtain ⟨z, hz, hq⟩ : OK (mX9_falseOne many vW vIW vK vZ vM vS vCt vC vRow vB vL vRe vR sq wi i) _ := rfalseOne_ok hI _ _ _ _ _ _ _ _ _
  refine cL_up (k_X9_falseOne l D g m_y e_y m_aWorlds e_aWorlds m_aInWorld e_aInWorld m_aKind e_aKind m_aSize e_aSize m_aMarks e_aMarks m_aSeed e_aSeed m_aContents e_aContents m_aContentMany e_aContentMany m_aRow e_aRow m_aBits e_aBits m_aLayerSize e_aLayerSize m_aRest e_aRest m_aRestMany e_aRestMany hz) (by decide) (by decide) (by decide) (by decide) (by decide) (by decide) (fun x L1 f1 P => ?_)
  obtain ⟨ex, eL, ef⟩ := P
  subst eL ef
  exact ⟨_, ⟨z, hz, ex, rfl⟩, ResY_same CC⟩
def S9_missed (sq : Int32) : RT → Int32 → RT → Prop := fun (many, vW, vIW, vK, vZ, vM, vS, vCt, vC, vRow, vB, vL, vLC, vRe, vR) x r1 => ∃ z, mX9_missed many vK vZ vM vS vCt vC vRow vB vL vRe vR sq = some z ∧ x = z ∧ r1 = (many, vW, vIW, vK, vZ, vM, vS, vCt, vC, vRow, vB, vL, vLC, vRe, vR)
set_option maxHeartbeats 1000000 in
theorem rx_missed (l : Launch) (D : va_G) {ρ : Nat → Nat × Nat} {g : Nat → ClassId} {L : List Nat} {f : Nat → va_E} {y : Nat} {r : RT} (C : CfY ρ g L f y r) (sq : Int32) : cI l yX9_missed wsX9_missed (RmC 0 0) D g [.ref y, .int sq] L f 0 0 (fun x L1 f1 => ∃ r1, S9_missed sq r x r1 ∧ ResY ρ g L f y r1 L1 f1) := by
  have CC := C
  obtain ⟨many, vW, vIW, vK, vZ, vM, vS, vCt, vC, vRow, vB, vL, vLC, vRe, vR⟩ := r
  obtain ⟨B, rfl, hB, ⟨e_y, e_aWorlds, e_aInWorld, e_aKind, e_aSize, e_aMarks, e_aSeed, e_aContents, e_aContentMany, e_aRow, e_aBits, e_aLayerSize, e_aLayerCame, e_aRest, e_aRestMany, hS⟩, hI, hWY⟩ := C
  obtain ⟨vCome, e_aCome⟩ := hS 16 (by decide)
  obtain ⟨vRivals, e_aRivals⟩ := hS 17 (by decide)
  obtain ⟨vGone, e_aGone⟩ := hS 18 (by decide)
  obtain ⟨vOrder, e_aOrder⟩ := hS 19 (by decide)
  obtain ⟨vOffAt, e_aOffAt⟩ := hS 20 (by decide)
  obtain ⟨vIsOff, e_aIsOff⟩ := hS 21 (by decide)
  obtain ⟨vAlone, e_aAlone⟩ := hS 22 (by decide)
  obtain ⟨vKept, e_aKept⟩ := hS 23 (by decide)
  have m_aWorlds := (hB 1 (by decide) (by decide)).1
  have r_aWorlds := (hB 1 (by decide) (by decide)).2
  have m_aInWorld := (hB 2 (by decide) (by decide)).1
  have r_aInWorld := (hB 2 (by decide) (by decide)).2
  have m_aKind := (hB 3 (by decide) (by decide)).1
  have r_aKind := (hB 3 (by decide) (by decide)).2
  have m_aSize := (hB 4 (by decide) (by decide)).1
  have r_aSize := (hB 4 (by decide) (by decide)).2
  have m_aMarks := (hB 5 (by decide) (by decide)).1
  have r_aMarks := (hB 5 (by decide) (by decide)).2
  have m_aSeed := (hB 6 (by decide) (by decide)).1
  have r_aSeed := (hB 6 (by decide) (by decide)).2
  have m_aContents := (hB 7 (by decide) (by decide)).1
  have r_aContents := (hB 7 (by decide) (by decide)).2
  have m_aContentMany := (hB 8 (by decide) (by decide)).1
  have r_aContentMany := (hB 8 (by decide) (by decide)).2
  have m_aRow := (hB 9 (by decide) (by decide)).1
  have r_aRow := (hB 9 (by decide) (by decide)).2
  have m_aBits := (hB 10 (by decide) (by decide)).1
  have r_aBits := (hB 10 (by decide) (by decide)).2
  have m_aLayerSize := (hB 11 (by decide) (by decide)).1
  have r_aLayerSize := (hB 11 (by decide) (by decide)).2
  have m_aLayerCame := (hB 12 (by decide) (by decide)).1
  have r_aLayerCame := (hB 12 (by decide) (by decide)).2
  have m_aRest := (hB 13 (by decide) (by decide)).1
  have r_aRest := (hB 13 (by decide) (by decide)).2
  have m_aRestMany := (hB 14 (by decide) (by decide)).1
  have r_aRestMany := (hB 14 (by decide) (by decide)).2
  have m_aCome := (hB 16 (by decide) (by decide)).1
  have r_aCome := (hB 16 (by decide) (by decide)).2
  have m_aRivals := (hB 17 (by decide) (by decide)).1
  have r_aRivals := (hB 17 (by decide) (by decide)).2
  have m_aGone := (hB 18 (by decide) (by decide)).1
  have r_aGone := (hB 18 (by decide) (by decide)).2
  have m_aOrder := (hB 19 (by decide) (by decide)).1
  have r_aOrder := (hB 19 (by decide) (by decide)).2
  have m_aOffAt := (hB 20 (by decide) (by decide)).1
  have r_aOffAt := (hB 20 (by decide) (by decide)).2
  have m_aIsOff := (hB 21 (by decide) (by decide)).1
  have r_aIsOff := (hB 21 (by decide) (by decide)).2
  have m_aAlone := (hB 22 (by decide) (by decide)).1
  have r_aAlone := (hB 22 (by decide) (by decide)).2
  have m_aKept := (hB 23 (by decide) (by decide)).1
  have r_aKept := (hB 23 (by decide) (by decide)).2
  have m_y := (hB 0 (by decide) (by decide)).1
  have r_y := (hB 0 (by decide) (by decide)).2
  obtain ⟨z, hz, hq⟩ : OK (mX9_missed many vK vZ vM vS vCt vC vRow vB vL vRe vR sq) _ := rmissed_ok hI _ _ _ _ _ _
  refine cI_up (k_X9_missed l D g m_y e_y m_aKind e_aKind m_aSize e_aSize m_aMarks e_aMarks m_aSeed e_aSeed m_aContents e_aContents m_aContentMany e_aContentMany m_aRow e_aRow m_aBits e_aBits m_aLayerSize e_aLayerSize m_aRest e_aRest m_aRestMany e_aRestMany hz) (by decide) (by decide) (by decide) (by decide) (by decide) (by decide) (fun x L1 f1 P => ?_)
  obtain ⟨ex, eL, ef⟩ := P
  subst eL ef
  exact ⟨_, ⟨z, hz, ex, rfl⟩, ResY_same CC⟩
def S9_join (ho : Int32) (aq : Int32) (bq : Int32) : RT → Int32 → RT → Prop := fun (many, vW, vIW, vK, vZ, vM, vS, vCt, vC, vRow, vB, vL, vLC, vRe, vR) x r1 => ∃ z, mX9_join many vK vZ vM vS vCt vC vRow vR ho aq bq = some z ∧ x = z.1 ∧ r1 = (z.2.1, vW, vIW, z.2.2.1, z.2.2.2.1, z.2.2.2.2.1, z.2.2.2.2.2.1, z.2.2.2.2.2.2.1, z.2.2.2.2.2.2.2.1, z.2.2.2.2.2.2.2.2.1, vB, vL, vLC, vRe, z.2.2.2.2.2.2.2.2.2)
set_option maxHeartbeats 1000000 in
theorem rx_join (l : Launch) (D : va_G) {ρ : Nat → Nat × Nat} {g : Nat → ClassId} {L : List Nat} {f : Nat → va_E} {y : Nat} {r : RT} (C : CfY ρ g L f y r) (ho : Int32) (aq : Int32) (bq : Int32) : cI l yX9_join wsX9_join (RmC 0 0) D g [.ref y, .int ho, .int aq, .int bq] L f 0 0 (fun x L1 f1 => ∃ r1, S9_join ho aq bq r x r1 ∧ ResY ρ g L f y r1 L1 f1) := by
  have CC := C
  obtain ⟨many, vW, vIW, vK, vZ, vM, vS, vCt, vC, vRow, vB, vL, vLC, vRe, vR⟩ := r
  obtain ⟨B, rfl, hB, ⟨e_y, e_aWorlds, e_aInWorld, e_aKind, e_aSize, e_aMarks, e_aSeed, e_aContents, e_aContentMany, e_aRow, e_aBits, e_aLayerSize, e_aLayerCame, e_aRest, e_aRestMany, hS⟩, hI, hWY⟩ := C
  obtain ⟨vCome, e_aCome⟩ := hS 16 (by decide)
  obtain ⟨vRivals, e_aRivals⟩ := hS 17 (by decide)
  obtain ⟨vGone, e_aGone⟩ := hS 18 (by decide)
  obtain ⟨vOrder, e_aOrder⟩ := hS 19 (by decide)
  obtain ⟨vOffAt, e_aOffAt⟩ := hS 20 (by decide)
  obtain ⟨vIsOff, e_aIsOff⟩ := hS 21 (by decide)
  obtain ⟨vAlone, e_aAlone⟩ := hS 22 (by decide)
  obtain ⟨vKept, e_aKept⟩ := hS 23 (by decide)
  have m_aWorlds := (hB 1 (by decide) (by decide)).1
  have r_aWorlds := (hB 1 (by decide) (by decide)).2
  have m_aInWorld := (hB 2 (by decide) (by decide)).1
  have r_aInWorld := (hB 2 (by decide) (by decide)).2
  have m_aKind := (hB 3 (by decide) (by decide)).1
  have r_aKind := (hB 3 (by decide) (by decide)).2
  have m_aSize := (hB 4 (by decide) (by decide)).1
  have r_aSize := (hB 4 (by decide) (by decide)).2
  have m_aMarks := (hB 5 (by decide) (by decide)).1
  have r_aMarks := (hB 5 (by decide) (by decide)).2
  have m_aSeed := (hB 6 (by decide) (by decide)).1
  have r_aSeed := (hB 6 (by decide) (by decide)).2
  have m_aContents := (hB 7 (by decide) (by decide)).1
  have r_aContents := (hB 7 (by decide) (by decide)).2
  have m_aContentMany := (hB 8 (by decide) (by decide)).1
  have r_aContentMany := (hB 8 (by decide) (by decide)).2
  have m_aRow := (hB 9 (by decide) (by decide)).1
  have r_aRow := (hB 9 (by decide) (by decide)).2
  have m_aBits := (hB 10 (by decide) (by decide)).1
  have r_aBits := (hB 10 (by decide) (by decide)).2
  have m_aLayerSize := (hB 11 (by decide) (by decide)).1
  have r_aLayerSize := (hB 11 (by decide) (by decide)).2
  have m_aLayerCame := (hB 12 (by decide) (by decide)).1
  have r_aLayerCame := (hB 12 (by decide) (by decide)).2
  have m_aRest := (hB 13 (by decide) (by decide)).1
  have r_aRest := (hB 13 (by decide) (by decide)).2
  have m_aRestMany := (hB 14 (by decide) (by decide)).1
  have r_aRestMany := (hB 14 (by decide) (by decide)).2
  have m_aCome := (hB 16 (by decide) (by decide)).1
  have r_aCome := (hB 16 (by decide) (by decide)).2
  have m_aRivals := (hB 17 (by decide) (by decide)).1
  have r_aRivals := (hB 17 (by decide) (by decide)).2
  have m_aGone := (hB 18 (by decide) (by decide)).1
  have r_aGone := (hB 18 (by decide) (by decide)).2
  have m_aOrder := (hB 19 (by decide) (by decide)).1
  have r_aOrder := (hB 19 (by decide) (by decide)).2
  have m_aOffAt := (hB 20 (by decide) (by decide)).1
  have r_aOffAt := (hB 20 (by decide) (by decide)).2
  have m_aIsOff := (hB 21 (by decide) (by decide)).1
  have r_aIsOff := (hB 21 (by decide) (by decide)).2
  have m_aAlone := (hB 22 (by decide) (by decide)).1
  have r_aAlone := (hB 22 (by decide) (by decide)).2
  have m_aKept := (hB 23 (by decide) (by decide)).1
  have r_aKept := (hB 23 (by decide) (by decide)).2
  have m_y := (hB 0 (by decide) (by decide)).1
  have r_y := (hB 0 (by decide) (by decide)).2
  obtain ⟨z, hz, hq⟩ : OK (mX9_join many vK vZ vM vS vCt vC vRow vR ho aq bq) _ := rjoin_ok hI _ _ _ _ _ _
  refine cI_up (k_X9_join l D g m_y e_y m_aWorlds e_aWorlds m_aInWorld e_aInWorld m_aKind e_aKind m_aSize e_aSize m_aMarks e_aMarks m_aSeed e_aSeed m_aContents e_aContents m_aContentMany e_aContentMany m_aRow e_aRow m_aBits e_aBits m_aLayerSize e_aLayerSize m_aLayerCame e_aLayerCame m_aRest e_aRest m_aRestMany e_aRestMany m_aCome e_aCome m_aRivals e_aRivals m_aGone e_aGone m_aOrder e_aOrder m_aOffAt e_aOffAt m_aIsOff e_aIsOff m_aAlone e_aAlone m_aKept e_aKept r_aKind r_aSize r_aMarks r_aSeed r_aContents r_aContentMany r_aRest r_aRestMany hz) (by decide) (by decide) (by decide) (by decide) (by decide) (by decide) (fun x L1 f1 P => ?_)
  obtain ⟨ex, eL, fv, E_y, E_aKind, E_aSize, E_aMarks, E_aSeed, E_aContents, E_aContentMany, E_aRow, E_aRestMany⟩ := P
  subst eL
  refine ⟨_, ⟨z, hz, ex, rfl⟩, ?_⟩
  have FT : ∀ b, b ∈ L1 → ¬ TR [0, 3, 4, 5, 6, 7, 8, 9, 14] (ρ b) → f1 b = f b := fun b hb ht => fv b hb (ne_T2 ht (tr_y r_y (by decide))) (ne_T2 ht (tr_y r_aKind (by decide))) (ne_T2 ht (tr_y r_aSize (by decide))) (ne_T2 ht (tr_y r_aMarks (by decide))) (ne_T2 ht (tr_y r_aSeed (by decide))) (ne_T2 ht (tr_y r_aContents (by decide))) (ne_T2 ht (tr_y r_aContentMany (by decide))) (ne_T2 ht (tr_y r_aRow (by decide))) (ne_T2 ht (tr_y r_aRestMany (by decide)))
  refine CY_up [0, 3, 4, 5, 6, 7, 8, 9, 14] hB hS FT E_y ((FT _ m_aWorlds (tr_n r_aWorlds (by decide))).trans e_aWorlds) ((FT _ m_aInWorld (tr_n r_aInWorld (by decide))).trans e_aInWorld) E_aKind E_aSize E_aMarks E_aSeed E_aContents E_aContentMany E_aRow ((FT _ m_aBits (tr_n r_aBits (by decide))).trans e_aBits) ((FT _ m_aLayerSize (tr_n r_aLayerSize (by decide))).trans e_aLayerSize) ((FT _ m_aLayerCame (tr_n r_aLayerCame (by decide))).trans e_aLayerCame) ((FT _ m_aRest (tr_n r_aRest (by decide))).trans e_aRest) E_aRestMany ?_ ⟨hq, hWY⟩
  intro k hk hK
  have hc : False := by
    have hh : ∀ q, q ∈ [16, 17, 18, 19, 20, 21, 22, 23] → q ∈ [0, 3, 4, 5, 6, 7, 8, 9, 14] → False := by decide
    exact hh k hk hK
  exact hc.elim
def S9_fold (oq : Int32) : RT → Int32 → RT → Prop := fun (many, vW, vIW, vK, vZ, vM, vS, vCt, vC, vRow, vB, vL, vLC, vRe, vR) x r1 => ∃ z, mX9_fold many vK vZ vM vS vCt vC vRow vR oq = some z ∧ x = z.1 ∧ r1 = (z.2.1, vW, vIW, z.2.2.1, z.2.2.2.1, z.2.2.2.2.1, z.2.2.2.2.2.1, z.2.2.2.2.2.2.1, z.2.2.2.2.2.2.2.1, z.2.2.2.2.2.2.2.2.1, vB, vL, vLC, vRe, z.2.2.2.2.2.2.2.2.2)
set_option maxHeartbeats 1000000 in
theorem rx_fold (l : Launch) (D : va_G) {ρ : Nat → Nat × Nat} {g : Nat → ClassId} {L : List Nat} {f : Nat → va_E} {y : Nat} {r : RT} (C : CfY ρ g L f y r) (oq : Int32) : cI l yX9_fold wsX9_fold (RmC 0 0) D g [.ref y, .int oq] L f 0 0 (fun x L1 f1 => ∃ r1, S9_fold oq r x r1 ∧ ResY ρ g L f y r1 L1 f1) := by
  have CC := C
  obtain ⟨many, vW, vIW, vK, vZ, vM, vS, vCt, vC, vRow, vB, vL, vLC, vRe, vR⟩ := r
  obtain ⟨B, rfl, hB, ⟨e_y, e_aWorlds, e_aInWorld, e_aKind, e_aSize, e_aMarks, e_aSeed, e_aContents, e_aContentMany, e_aRow, e_aBits, e_aLayerSize, e_aLayerCame, e_aRest, e_aRestMany, hS⟩, hI, hWY⟩ := C
  obtain ⟨vCome, e_aCome⟩ := hS 16 (by decide)
  obtain ⟨vRivals, e_aRivals⟩ := hS 17 (by decide)
  obtain ⟨vGone, e_aGone⟩ := hS 18 (by decide)
  obtain ⟨vOrder, e_aOrder⟩ := hS 19 (by decide)
  obtain ⟨vOffAt, e_aOffAt⟩ := hS 20 (by decide)
  obtain ⟨vIsOff, e_aIsOff⟩ := hS 21 (by decide)
  obtain ⟨vAlone, e_aAlone⟩ := hS 22 (by decide)
  obtain ⟨vKept, e_aKept⟩ := hS 23 (by decide)
  have m_aWorlds := (hB 1 (by decide) (by decide)).1
  have r_aWorlds := (hB 1 (by decide) (by decide)).2
  have m_aInWorld := (hB 2 (by decide) (by decide)).1
  have r_aInWorld := (hB 2 (by decide) (by decide)).2
  have m_aKind := (hB 3 (by decide) (by decide)).1
  have r_aKind := (hB 3 (by decide) (by decide)).2
  have m_aSize := (hB 4 (by decide) (by decide)).1
  have r_aSize := (hB 4 (by decide) (by decide)).2
  have m_aMarks := (hB 5 (by decide) (by decide)).1
  have r_aMarks := (hB 5 (by decide) (by decide)).2
  have m_aSeed := (hB 6 (by decide) (by decide)).1
  have r_aSeed := (hB 6 (by decide) (by decide)).2
  have m_aContents := (hB 7 (by decide) (by decide)).1
  have r_aContents := (hB 7 (by decide) (by decide)).2
  have m_aContentMany := (hB 8 (by decide) (by decide)).1
  have r_aContentMany := (hB 8 (by decide) (by decide)).2
  have m_aRow := (hB 9 (by decide) (by decide)).1
  have r_aRow := (hB 9 (by decide) (by decide)).2
  have m_aBits := (hB 10 (by decide) (by decide)).1
  have r_aBits := (hB 10 (by decide) (by decide)).2
  have m_aLayerSize := (hB 11 (by decide) (by decide)).1
  have r_aLayerSize := (hB 11 (by decide) (by decide)).2
  have m_aLayerCame := (hB 12 (by decide) (by decide)).1
  have r_aLayerCame := (hB 12 (by decide) (by decide)).2
  have m_aRest := (hB 13 (by decide) (by decide)).1
  have r_aRest := (hB 13 (by decide) (by decide)).2
  have m_aRestMany := (hB 14 (by decide) (by decide)).1
  have r_aRestMany := (hB 14 (by decide) (by decide)).2
  have m_aCome := (hB 16 (by decide) (by decide)).1
  have r_aCome := (hB 16 (by decide) (by decide)).2
  have m_aRivals := (hB 17 (by decide) (by decide)).1
  have r_aRivals := (hB 17 (by decide) (by decide)).2
  have m_aGone := (hB 18 (by decide) (by decide)).1
  have r_aGone := (hB 18 (by decide) (by decide)).2
  have m_aOrder := (hB 19 (by decide) (by decide)).1
  have r_aOrder := (hB 19 (by decide) (by decide)).2
  have m_aOffAt := (hB 20 (by decide) (by decide)).1
  have r_aOffAt := (hB 20 (by decide) (by decide)).2
  have m_aIsOff := (hB 21 (by decide) (by decide)).1
  have r_aIsOff := (hB 21 (by decide) (by decide)).2
  have m_aAlone := (hB 22 (by decide) (by decide)).1
  have r_aAlone := (hB 22 (by decide) (by decide)).2
  have m_aKept := (hB 23 (by decide) (by decide)).1
  have r_aKept := (hB 23 (by decide) (by decide)).2
  have m_y := (hB 0 (by decide) (by decide)).1
  have r_y := (hB 0 (by decide) (by decide)).2
  obtain ⟨z, hz, hq⟩ : OK (mX9_fold many vK vZ vM vS vCt vC vRow vR oq) _ := rfold_ok hI _ _ _ _
  refine cI_up (k_X9_fold l D g m_y e_y m_aWorlds e_aWorlds m_aInWorld e_aInWorld m_aKind e_aKind m_aSize e_aSize m_aMarks e_aMarks m_aSeed e_aSeed m_aContents e_aContents m_aContentMany e_aContentMany m_aRow e_aRow m_aBits e_aBits m_aLayerSize e_aLayerSize m_aLayerCame e_aLayerCame m_aRest e_aRest m_aRestMany e_aRestMany m_aCome e_aCome m_aRivals e_aRivals m_aGone e_aGone m_aOrder e_aOrder m_aOffAt e_aOffAt m_aIsOff e_aIsOff m_aAlone e_aAlone m_aKept e_aKept r_aKind r_aSize r_aMarks r_aSeed r_aContents r_aContentMany r_aRest r_aRestMany hz) (by decide) (by decide) (by decide) (by decide) (by decide) (by decide) (fun x L1 f1 P => ?_)
  obtain ⟨ex, eL, fv, E_y, E_aKind, E_aSize, E_aMarks, E_aSeed, E_aContents, E_aContentMany, E_aRow, E_aRestMany⟩ := P
  subst eL
  refine ⟨_, ⟨z, hz, ex, rfl⟩, ?_⟩
  have FT : ∀ b, b ∈ L1 → ¬ TR [0, 3, 4, 5, 6, 7, 8, 9, 14] (ρ b) → f1 b = f b := fun b hb ht => fv b hb (ne_T2 ht (tr_y r_y (by decide))) (ne_T2 ht (tr_y r_aKind (by decide))) (ne_T2 ht (tr_y r_aSize (by decide))) (ne_T2 ht (tr_y r_aMarks (by decide))) (ne_T2 ht (tr_y r_aSeed (by decide))) (ne_T2 ht (tr_y r_aContents (by decide))) (ne_T2 ht (tr_y r_aContentMany (by decide))) (ne_T2 ht (tr_y r_aRow (by decide))) (ne_T2 ht (tr_y r_aRestMany (by decide)))
  refine CY_up [0, 3, 4, 5, 6, 7, 8, 9, 14] hB hS FT E_y ((FT _ m_aWorlds (tr_n r_aWorlds (by decide))).trans e_aWorlds) ((FT _ m_aInWorld (tr_n r_aInWorld (by decide))).trans e_aInWorld) E_aKind E_aSize E_aMarks E_aSeed E_aContents E_aContentMany E_aRow ((FT _ m_aBits (tr_n r_aBits (by decide))).trans e_aBits) ((FT _ m_aLayerSize (tr_n r_aLayerSize (by decide))).trans e_aLayerSize) ((FT _ m_aLayerCame (tr_n r_aLayerCame (by decide))).trans e_aLayerCame) ((FT _ m_aRest (tr_n r_aRest (by decide))).trans e_aRest) E_aRestMany ?_ ⟨hq, hWY⟩
  intro k hk hK
  have hc : False := by
    have hh : ∀ q, q ∈ [16, 17, 18, 19, 20, 21, 22, 23] → q ∈ [0, 3, 4, 5, 6, 7, 8, 9, 14] → False := by decide
    exact hh k hk hK
  exact hc.elim
def S9_about (sq : Int32) (wh : Int32) : RT → Int32 → RT → Prop := fun (many, vW, vIW, vK, vZ, vM, vS, vCt, vC, vRow, vB, vL, vLC, vRe, vR) x r1 => ∃ z, mX9_about many vK vZ vM vS vC vRow vL vR sq wh = some z ∧ x = z ∧ r1 = (many, vW, vIW, vK, vZ, vM, vS, vCt, vC, vRow, vB, vL, vLC, vRe, vR)
set_option maxHeartbeats 1000000 in
theorem rx_about (l : Launch) (D : va_G) {ρ : Nat → Nat × Nat} {g : Nat → ClassId} {L : List Nat} {f : Nat → va_E} {y : Nat} {r : RT} (C : CfY ρ g L f y r) (sq : Int32) (wh : Int32) : cI l yX9_about wsX9_about (RmC 0 0) D g [.ref y, .int sq, .int wh] L f 0 0 (fun x L1 f1 => ∃ r1, S9_about sq wh r x r1 ∧ ResY ρ g L f y r1 L1 f1) := by
  have CC := C
  obtain ⟨many, vW, vIW, vK, vZ, vM, vS, vCt, vC, vRow, vB, vL, vLC, vRe, vR⟩ := r
  obtain ⟨B, rfl, hB, ⟨e_y, e_aWorlds, e_aInWorld, e_aKind, e_aSize, e_aMarks, e_aSeed, e_aContents, e_aContentMany, e_aRow, e_aBits, e_aLayerSize, e_aLayerCame, e_aRest, e_aRestMany, hS⟩, hI, hWY⟩ := C
  obtain ⟨vCome, e_aCome⟩ := hS 16 (by decide)
  obtain ⟨vRivals, e_aRivals⟩ := hS 17 (by decide)
  obtain ⟨vGone, e_aGone⟩ := hS 18 (by decide)
  obtain ⟨vOrder, e_aOrder⟩ := hS 19 (by decide)
  obtain ⟨vOffAt, e_aOffAt⟩ := hS 20 (by decide)
  obtain ⟨vIsOff, e_aIsOff⟩ := hS 21 (by decide)
  obtain ⟨vAlone, e_aAlone⟩ := hS 22 (by decide)
  obtain ⟨vKept, e_aKept⟩ := hS 23 (by decide)
  have m_aWorlds := (hB 1 (by decide) (by decide)).1
  have r_aWorlds := (hB 1 (by decide) (by decide)).2
  have m_aInWorld := (hB 2 (by decide) (by decide)).1
  have r_aInWorld := (hB 2 (by decide) (by decide)).2
  have m_aKind := (hB 3 (by decide) (by decide)).1
  have r_aKind := (hB 3 (by decide) (by decide)).2
  have m_aSize := (hB 4 (by decide) (by decide)).1
  have r_aSize := (hB 4 (by decide) (by decide)).2
  have m_aMarks := (hB 5 (by decide) (by decide)).1
  have r_aMarks := (hB 5 (by decide) (by decide)).2
  have m_aSeed := (hB 6 (by decide) (by decide)).1
  have r_aSeed := (hB 6 (by decide) (by decide)).2
  have m_aContents := (hB 7 (by decide) (by decide)).1
  have r_aContents := (hB 7 (by decide) (by decide)).2
  have m_aContentMany := (hB 8 (by decide) (by decide)).1
  have r_aContentMany := (hB 8 (by decide) (by decide)).2
  have m_aRow := (hB 9 (by decide) (by decide)).1
  have r_aRow := (hB 9 (by decide) (by decide)).2
  have m_aBits := (hB 10 (by decide) (by decide)).1
  have r_aBits := (hB 10 (by decide) (by decide)).2
  have m_aLayerSize := (hB 11 (by decide) (by decide)).1
  have r_aLayerSize := (hB 11 (by decide) (by decide)).2
  have m_aLayerCame := (hB 12 (by decide) (by decide)).1
  have r_aLayerCame := (hB 12 (by decide) (by decide)).2
  have m_aRest := (hB 13 (by decide) (by decide)).1
  have r_aRest := (hB 13 (by decide) (by decide)).2
  have m_aRestMany := (hB 14 (by decide) (by decide)).1
  have r_aRestMany := (hB 14 (by decide) (by decide)).2
  have m_aCome := (hB 16 (by decide) (by decide)).1
  have r_aCome := (hB 16 (by decide) (by decide)).2
  have m_aRivals := (hB 17 (by decide) (by decide)).1
  have r_aRivals := (hB 17 (by decide) (by decide)).2
  have m_aGone := (hB 18 (by decide) (by decide)).1
  have r_aGone := (hB 18 (by decide) (by decide)).2
  have m_aOrder := (hB 19 (by decide) (by decide)).1
  have r_aOrder := (hB 19 (by decide) (by decide)).2
  have m_aOffAt := (hB 20 (by decide) (by decide)).1
  have r_aOffAt := (hB 20 (by decide) (by decide)).2
  have m_aIsOff := (hB 21 (by decide) (by decide)).1
  have r_aIsOff := (hB 21 (by decide) (by decide)).2
  have m_aAlone := (hB 22 (by decide) (by decide)).1
  have r_aAlone := (hB 22 (by decide) (by decide)).2
  have m_aKept := (hB 23 (by decide) (by decide)).1
  have r_aKept := (hB 23 (by decide) (by decide)).2
  have m_y := (hB 0 (by decide) (by decide)).1
  have r_y := (hB 0 (by decide) (by decide)).2
  obtain ⟨z, hz, hq⟩ : OK (mX9_about many vK vZ vM vS vC vRow vL vR sq wh) _ := rabout_ok hI _ _ _ _
  refine cI_up (k_X9_about l D g m_y e_y m_aKind e_aKind m_aSize e_aSize m_aMarks e_aMarks m_aSeed e_aSeed m_aContentMany e_aContentMany m_aRow e_aRow m_aLayerSize e_aLayerSize m_aRestMany e_aRestMany hz) (by decide) (by decide) (by decide) (by decide) (by decide) (by decide) (fun x L1 f1 P => ?_)
  obtain ⟨ex, eL, ef⟩ := P
  subst eL ef
  exact ⟨_, ⟨z, hz, ex, rfl⟩, ResY_same CC⟩
def S9_cell (sq : Int32) (i : Int32) : RT → Int32 → RT → Prop := fun (many, vW, vIW, vK, vZ, vM, vS, vCt, vC, vRow, vB, vL, vLC, vRe, vR) x r1 => ∃ z, mX9_cell many vK vZ vRow sq i = some z ∧ x = z ∧ r1 = (many, vW, vIW, vK, vZ, vM, vS, vCt, vC, vRow, vB, vL, vLC, vRe, vR)
set_option maxHeartbeats 1000000 in
theorem rx_cell (l : Launch) (D : va_G) {ρ : Nat → Nat × Nat} {g : Nat → ClassId} {L : List Nat} {f : Nat → va_E} {y : Nat} {r : RT} (C : CfY ρ g L f y r) (sq : Int32) (i : Int32) : cI l yX9_cell wsX9_cell (RmC 0 0) D g [.ref y, .int sq, .int i] L f 0 0 (fun x L1 f1 => ∃ r1, S9_cell sq i r x r1 ∧ ResY ρ g L f y r1 L1 f1) := by
  have CC := C
  obtain ⟨many, vW, vIW, vK, vZ, vM, vS, vCt, vC, vRow, vB, vL, vLC, vRe, vR⟩ := r
  obtain ⟨B, rfl, hB, ⟨e_y, e_aWorlds, e_aInWorld, e_aKind, e_aSize, e_aMarks, e_aSeed, e_aContents, e_aContentMany, e_aRow, e_aBits, e_aLayerSize, e_aLayerCame, e_aRest, e_aRestMany, hS⟩, hI, hWY⟩ := C
  obtain ⟨vCome, e_aCome⟩ := hS 16 (by decide)
  obtain ⟨vRivals, e_aRivals⟩ := hS 17 (by decide)
  obtain ⟨vGone, e_aGone⟩ := hS 18 (by decide)
  obtain ⟨vOrder, e_aOrder⟩ := hS 19 (by decide)
  obtain ⟨vOffAt, e_aOffAt⟩ := hS 20 (by decide)
  obtain ⟨vIsOff, e_aIsOff⟩ := hS 21 (by decide)
  obtain ⟨vAlone, e_aAlone⟩ := hS 22 (by decide)
  obtain ⟨vKept, e_aKept⟩ := hS 23 (by decide)
  have m_aWorlds := (hB 1 (by decide) (by decide)).1
  have r_aWorlds := (hB 1 (by decide) (by decide)).2
  have m_aInWorld := (hB 2 (by decide) (by decide)).1
  have r_aInWorld := (hB 2 (by decide) (by decide)).2
  have m_aKind := (hB 3 (by decide) (by decide)).1
  have r_aKind := (hB 3 (by decide) (by decide)).2
  have m_aSize := (hB 4 (by decide) (by decide)).1
  have r_aSize := (hB 4 (by decide) (by decide)).2
  have m_aMarks := (hB 5 (by decide) (by decide)).1
  have r_aMarks := (hB 5 (by decide) (by decide)).2
  have m_aSeed := (hB 6 (by decide) (by decide)).1
  have r_aSeed := (hB 6 (by decide) (by decide)).2
  have m_aContents := (hB 7 (by decide) (by decide)).1
  have r_aContents := (hB 7 (by decide) (by decide)).2
  have m_aContentMany := (hB 8 (by decide) (by decide)).1
  have r_aContentMany := (hB 8 (by decide) (by decide)).2
  have m_aRow := (hB 9 (by decide) (by decide)).1
  have r_aRow := (hB 9 (by decide) (by decide)).2
  have m_aBits := (hB 10 (by decide) (by decide)).1
  have r_aBits := (hB 10 (by decide) (by decide)).2
  have m_aLayerSize := (hB 11 (by decide) (by decide)).1
  have r_aLayerSize := (hB 11 (by decide) (by decide)).2
  have m_aLayerCame := (hB 12 (by decide) (by decide)).1
  have r_aLayerCame := (hB 12 (by decide) (by decide)).2
  have m_aRest := (hB 13 (by decide) (by decide)).1
  have r_aRest := (hB 13 (by decide) (by decide)).2
  have m_aRestMany := (hB 14 (by decide) (by decide)).1
  have r_aRestMany := (hB 14 (by decide) (by decide)).2
  have m_aCome := (hB 16 (by decide) (by decide)).1
  have r_aCome := (hB 16 (by decide) (by decide)).2
  have m_aRivals := (hB 17 (by decide) (by decide)).1
  have r_aRivals := (hB 17 (by decide) (by decide)).2
  have m_aGone := (hB 18 (by decide) (by decide)).1
  have r_aGone := (hB 18 (by decide) (by decide)).2
  have m_aOrder := (hB 19 (by decide) (by decide)).1
  have r_aOrder := (hB 19 (by decide) (by decide)).2
  have m_aOffAt := (hB 20 (by decide) (by decide)).1
  have r_aOffAt := (hB 20 (by decide) (by decide)).2
  have m_aIsOff := (hB 21 (by decide) (by decide)).1
  have r_aIsOff := (hB 21 (by decide) (by decide)).2
  have m_aAlone := (hB 22 (by decide) (by decide)).1
  have r_aAlone := (hB 22 (by decide) (by decide)).2
  have m_aKept := (hB 23 (by decide) (by decide)).1
  have r_aKept := (hB 23 (by decide) (by decide)).2
  have m_y := (hB 0 (by decide) (by decide)).1
  have r_y := (hB 0 (by decide) (by decide)).2
  obtain ⟨z, hz, hq⟩ : OK (mX9_cell many vK vZ vRow sq i) _ := rcell_ok hI _ _ _
  refine cI_up (k_X9_cell l D g m_y e_y m_aKind e_aKind m_aSize e_aSize m_aRow e_aRow hz) (by decide) (by decide) (by decide) (by decide) (by decide) (by decide) (fun x L1 f1 P => ?_)
  obtain ⟨ex, eL, ef⟩ := P
  subst eL ef
  exact ⟨_, ⟨z, hz, ex, rfl⟩, ResY_same CC⟩
def S9_layer (sq : Int32) (i : Int32) (wh : Int32) : RT → Int32 → RT → Prop := fun (many, vW, vIW, vK, vZ, vM, vS, vCt, vC, vRow, vB, vL, vLC, vRe, vR) x r1 => ∃ z, mX9_layer many vK vZ vB vL vLC sq i wh = some z ∧ x = z ∧ r1 = (many, vW, vIW, vK, vZ, vM, vS, vCt, vC, vRow, vB, vL, vLC, vRe, vR)
set_option maxHeartbeats 1000000 in
theorem rx_layer (l : Launch) (D : va_G) {ρ : Nat → Nat × Nat} {g : Nat → ClassId} {L : List Nat} {f : Nat → va_E} {y : Nat} {r : RT} (C : CfY ρ g L f y r) (sq : Int32) (i : Int32) (wh : Int32) : cI l yX9_layer wsX9_layer (RmC 0 0) D g [.ref y, .int sq, .int i, .int wh] L f 0 0 (fun x L1 f1 => ∃ r1, S9_layer sq i wh r x r1 ∧ ResY ρ g L f y r1 L1 f1) := by
  have CC := C
  obtain ⟨many, vW, vIW, vK, vZ, vM, vS, vCt, vC, vRow, vB, vL, vLC, vRe, vR⟩ := r
  obtain ⟨B, rfl, hB, ⟨e_y, e_aWorlds, e_aInWorld, e_aKind, e_aSize, e_aMarks, e_aSeed, e_aContents, e_aContentMany, e_aRow, e_aBits, e_aLayerSize, e_aLayerCame, e_aRest, e_aRestMany, hS⟩, hI, hWY⟩ := C
  obtain ⟨vCome, e_aCome⟩ := hS 16 (by decide)
  obtain ⟨vRivals, e_aRivals⟩ := hS 17 (by decide)
  obtain ⟨vGone, e_aGone⟩ := hS 18 (by decide)
  obtain ⟨vOrder, e_aOrder⟩ := hS 19 (by decide)
  obtain ⟨vOffAt, e_aOffAt⟩ := hS 20 (by decide)
  obtain ⟨vIsOff, e_aIsOff⟩ := hS 21 (by decide)
  obtain ⟨vAlone, e_aAlone⟩ := hS 22 (by decide)
  obtain ⟨vKept, e_aKept⟩ := hS 23 (by decide)
  have m_aWorlds := (hB 1 (by decide) (by decide)).1
  have r_aWorlds := (hB 1 (by decide) (by decide)).2
  have m_aInWorld := (hB 2 (by decide) (by decide)).1
  have r_aInWorld := (hB 2 (by decide) (by decide)).2
  have m_aKind := (hB 3 (by decide) (by decide)).1
  have r_aKind := (hB 3 (by decide) (by decide)).2
  have m_aSize := (hB 4 (by decide) (by decide)).1
  have r_aSize := (hB 4 (by decide) (by decide)).2
  have m_aMarks := (hB 5 (by decide) (by decide)).1
  have r_aMarks := (hB 5 (by decide) (by decide)).2
  have m_aSeed := (hB 6 (by decide) (by decide)).1
  have r_aSeed := (hB 6 (by decide) (by decide)).2
  have m_aContents := (hB 7 (by decide) (by decide)).1
  have r_aContents := (hB 7 (by decide) (by decide)).2
  have m_aContentMany := (hB 8 (by decide) (by decide)).1
  have r_aContentMany := (hB 8 (by decide) (by decide)).2
  have m_aRow := (hB 9 (by decide) (by decide)).1
  have r_aRow := (hB 9 (by decide) (by decide)).2
  have m_aBits := (hB 10 (by decide) (by decide)).1
  have r_aBits := (hB 10 (by decide) (by decide)).2
  have m_aLayerSize := (hB 11 (by decide) (by decide)).1
  have r_aLayerSize := (hB 11 (by decide) (by decide)).2
  have m_aLayerCame := (hB 12 (by decide) (by decide)).1
  have r_aLayerCame := (hB 12 (by decide) (by decide)).2
  have m_aRest := (hB 13 (by decide) (by decide)).1
  have r_aRest := (hB 13 (by decide) (by decide)).2
  have m_aRestMany := (hB 14 (by decide) (by decide)).1
  have r_aRestMany := (hB 14 (by decide) (by decide)).2
  have m_aCome := (hB 16 (by decide) (by decide)).1
  have r_aCome := (hB 16 (by decide) (by decide)).2
  have m_aRivals := (hB 17 (by decide) (by decide)).1
  have r_aRivals := (hB 17 (by decide) (by decide)).2
  have m_aGone := (hB 18 (by decide) (by decide)).1
  have r_aGone := (hB 18 (by decide) (by decide)).2
  have m_aOrder := (hB 19 (by decide) (by decide)).1
  have r_aOrder := (hB 19 (by decide) (by decide)).2
  have m_aOffAt := (hB 20 (by decide) (by decide)).1
  have r_aOffAt := (hB 20 (by decide) (by decide)).2
  have m_aIsOff := (hB 21 (by decide) (by decide)).1
  have r_aIsOff := (hB 21 (by decide) (by decide)).2
  have m_aAlone := (hB 22 (by decide) (by decide)).1
  have r_aAlone := (hB 22 (by decide) (by decide)).2
  have m_aKept := (hB 23 (by decide) (by decide)).1
  have r_aKept := (hB 23 (by decide) (by decide)).2
  have m_y := (hB 0 (by decide) (by decide)).1
  have r_y := (hB 0 (by decide) (by decide)).2
  obtain ⟨z, hz, hq⟩ : OK (mX9_layer many vK vZ vB vL vLC sq i wh) _ := rlayer_ok hI _ _ _ _ _
  refine cI_up (k_X9_layer l D g m_y e_y m_aKind e_aKind m_aSize e_aSize m_aBits e_aBits m_aLayerSize e_aLayerSize m_aLayerCame e_aLayerCame hz) (by decide) (by decide) (by decide) (by decide) (by decide) (by decide) (fun x L1 f1 P => ?_)
  obtain ⟨ex, eL, ef⟩ := P
  subst eL ef
  exact ⟨_, ⟨z, hz, ex, rfl⟩, ResY_same CC⟩
def S9_mark (sq : Int32) (t : Int64) (j : Int32) : RT → Int32 → RT → Prop := fun (many, vW, vIW, vK, vZ, vM, vS, vCt, vC, vRow, vB, vL, vLC, vRe, vR) x r1 => ∃ z, mX9_mark many vK vZ vM vS sq t j = some z ∧ x = z ∧ r1 = (many, vW, vIW, vK, vZ, vM, vS, vCt, vC, vRow, vB, vL, vLC, vRe, vR)
set_option maxHeartbeats 1000000 in
theorem rx_mark (l : Launch) (D : va_G) {ρ : Nat → Nat × Nat} {g : Nat → ClassId} {L : List Nat} {f : Nat → va_E} {y : Nat} {r : RT} (C : CfY ρ g L f y r) (sq : Int32) (t : Int64) (j : Int32) : cI l yX9_mark wsX9_mark (RmC 0 0) D g [.ref y, .int sq, .long t, .int j] L f 0 0 (fun x L1 f1 => ∃ r1, S9_mark sq t j r x r1 ∧ ResY ρ g L f y r1 L1 f1) := by
  have CC := C
  obtain ⟨many, vW, vIW, vK, vZ, vM, vS, vCt, vC, vRow, vB, vL, vLC, vRe, vR⟩ := r
  obtain ⟨B, rfl, hB, ⟨e_y, e_aWorlds, e_aInWorld, e_aKind, e_aSize, e_aMarks, e_aSeed, e_aContents, e_aContentMany, e_aRow, e_aBits, e_aLayerSize, e_aLayerCame, e_aRest, e_aRestMany, hS⟩, hI, hWY⟩ := C
  obtain ⟨vCome, e_aCome⟩ := hS 16 (by decide)
  obtain ⟨vRivals, e_aRivals⟩ := hS 17 (by decide)
  obtain ⟨vGone, e_aGone⟩ := hS 18 (by decide)
  obtain ⟨vOrder, e_aOrder⟩ := hS 19 (by decide)
  obtain ⟨vOffAt, e_aOffAt⟩ := hS 20 (by decide)
  obtain ⟨vIsOff, e_aIsOff⟩ := hS 21 (by decide)
  obtain ⟨vAlone, e_aAlone⟩ := hS 22 (by decide)
  obtain ⟨vKept, e_aKept⟩ := hS 23 (by decide)
  have m_aWorlds := (hB 1 (by decide) (by decide)).1
  have r_aWorlds := (hB 1 (by decide) (by decide)).2
  have m_aInWorld := (hB 2 (by decide) (by decide)).1
  have r_aInWorld := (hB 2 (by decide) (by decide)).2
  have m_aKind := (hB 3 (by decide) (by decide)).1
  have r_aKind := (hB 3 (by decide) (by decide)).2
  have m_aSize := (hB 4 (by decide) (by decide)).1
  have r_aSize := (hB 4 (by decide) (by decide)).2
  have m_aMarks := (hB 5 (by decide) (by decide)).1
  have r_aMarks := (hB 5 (by decide) (by decide)).2
  have m_aSeed := (hB 6 (by decide) (by decide)).1
  have r_aSeed := (hB 6 (by decide) (by decide)).2
  have m_aContents := (hB 7 (by decide) (by decide)).1
  have r_aContents := (hB 7 (by decide) (by decide)).2
  have m_aContentMany := (hB 8 (by decide) (by decide)).1
  have r_aContentMany := (hB 8 (by decide) (by decide)).2
  have m_aRow := (hB 9 (by decide) (by decide)).1
  have r_aRow := (hB 9 (by decide) (by decide)).2
  have m_aBits := (hB 10 (by decide) (by decide)).1
  have r_aBits := (hB 10 (by decide) (by decide)).2
  have m_aLayerSize := (hB 11 (by decide) (by decide)).1
  have r_aLayerSize := (hB 11 (by decide) (by decide)).2
  have m_aLayerCame := (hB 12 (by decide) (by decide)).1
  have r_aLayerCame := (hB 12 (by decide) (by decide)).2
  have m_aRest := (hB 13 (by decide) (by decide)).1
  have r_aRest := (hB 13 (by decide) (by decide)).2
  have m_aRestMany := (hB 14 (by decide) (by decide)).1
  have r_aRestMany := (hB 14 (by decide) (by decide)).2
  have m_aCome := (hB 16 (by decide) (by decide)).1
  have r_aCome := (hB 16 (by decide) (by decide)).2
  have m_aRivals := (hB 17 (by decide) (by decide)).1
  have r_aRivals := (hB 17 (by decide) (by decide)).2
  have m_aGone := (hB 18 (by decide) (by decide)).1
  have r_aGone := (hB 18 (by decide) (by decide)).2
  have m_aOrder := (hB 19 (by decide) (by decide)).1
  have r_aOrder := (hB 19 (by decide) (by decide)).2
  have m_aOffAt := (hB 20 (by decide) (by decide)).1
  have r_aOffAt := (hB 20 (by decide) (by decide)).2
  have m_aIsOff := (hB 21 (by decide) (by decide)).1
  have r_aIsOff := (hB 21 (by decide) (by decide)).2
  have m_aAlone := (hB 22 (by decide) (by decide)).1
  have r_aAlone := (hB 22 (by decide) (by decide)).2
  have m_aKept := (hB 23 (by decide) (by decide)).1
  have r_aKept := (hB 23 (by decide) (by decide)).2
  have m_y := (hB 0 (by decide) (by decide)).1
  have r_y := (hB 0 (by decide) (by decide)).2
  obtain ⟨z, hz, hq⟩ : OK (mX9_mark many vK vZ vM vS sq t j) _ := rmark_ok hI _ _ _ _
  refine cI_up (k_X9_mark l D g m_y e_y m_aKind e_aKind m_aSize e_aSize m_aMarks e_aMarks m_aSeed e_aSeed hz) (by decide) (by decide) (by decide) (by decide) (by decide) (by decide) (fun x L1 f1 P => ?_)
  obtain ⟨ex, eL, ef⟩ := P
  subst eL ef
  exact ⟨_, ⟨z, hz, ex, rfl⟩, ResY_same CC⟩
def S9_fewest (wi : Int32) (wa : Int32) (mo : Int32) (by_ : Int32) : RT → Int32 → RT → Prop := fun (many, vW, vIW, vK, vZ, vM, vS, vCt, vC, vRow, vB, vL, vLC, vRe, vR) x r1 => ∃ vAlone : Nat → Int32, ∃ z, mX9_fewest vW vIW vAlone wi wa mo by_ = some z ∧ x = z.1 ∧ r1 = (many, vW, vIW, vK, vZ, vM, vS, vCt, vC, vRow, vB, vL, vLC, vRe, vR)
set_option maxHeartbeats 1000000 in
theorem rx_fewest (l : Launch) (D : va_G) {ρ : Nat → Nat × Nat} {g : Nat → ClassId} {L : List Nat} {f : Nat → va_E} {y : Nat} {r : RT} (C : CfY ρ g L f y r) (wi : Int32) (wa : Int32) (mo : Int32) (by_ : Int32) : cI l yX9_fewest wsX9_fewest (RmC 0 0) D g [.ref y, .int wi, .int wa, .int mo, .int by_] L f 0 0 (fun x L1 f1 => ∃ r1, S9_fewest wi wa mo by_ r x r1 ∧ ResY ρ g L f y r1 L1 f1) := by
  have CC := C
  obtain ⟨many, vW, vIW, vK, vZ, vM, vS, vCt, vC, vRow, vB, vL, vLC, vRe, vR⟩ := r
  obtain ⟨B, rfl, hB, ⟨e_y, e_aWorlds, e_aInWorld, e_aKind, e_aSize, e_aMarks, e_aSeed, e_aContents, e_aContentMany, e_aRow, e_aBits, e_aLayerSize, e_aLayerCame, e_aRest, e_aRestMany, hS⟩, hI, hWY⟩ := C
  obtain ⟨vCome, e_aCome⟩ := hS 16 (by decide)
  obtain ⟨vRivals, e_aRivals⟩ := hS 17 (by decide)
  obtain ⟨vGone, e_aGone⟩ := hS 18 (by decide)
  obtain ⟨vOrder, e_aOrder⟩ := hS 19 (by decide)
  obtain ⟨vOffAt, e_aOffAt⟩ := hS 20 (by decide)
  obtain ⟨vIsOff, e_aIsOff⟩ := hS 21 (by decide)
  obtain ⟨vAlone, e_aAlone⟩ := hS 22 (by decide)
  obtain ⟨vKept, e_aKept⟩ := hS 23 (by decide)
  have m_aWorlds := (hB 1 (by decide) (by decide)).1
  have r_aWorlds := (hB 1 (by decide) (by decide)).2
  have m_aInWorld := (hB 2 (by decide) (by decide)).1
  have r_aInWorld := (hB 2 (by decide) (by decide)).2
  have m_aKind := (hB 3 (by decide) (by decide)).1
  have r_aKind := (hB 3 (by decide) (by decide)).2
  have m_aSize := (hB 4 (by decide) (by decide)).1
  have r_aSize := (hB 4 (by decide) (by decide)).2
  have m_aMarks := (hB 5 (by decide) (by decide)).1
  have r_aMarks := (hB 5 (by decide) (by decide)).2
  have m_aSeed := (hB 6 (by decide) (by decide)).1
  have r_aSeed := (hB 6 (by decide) (by decide)).2
  have m_aContents := (hB 7 (by decide) (by decide)).1
  have r_aContents := (hB 7 (by decide) (by decide)).2
  have m_aContentMany := (hB 8 (by decide) (by decide)).1
  have r_aContentMany := (hB 8 (by decide) (by decide)).2
  have m_aRow := (hB 9 (by decide) (by decide)).1
  have r_aRow := (hB 9 (by decide) (by decide)).2
  have m_aBits := (hB 10 (by decide) (by decide)).1
  have r_aBits := (hB 10 (by decide) (by decide)).2
  have m_aLayerSize := (hB 11 (by decide) (by decide)).1
  have r_aLayerSize := (hB 11 (by decide) (by decide)).2
  have m_aLayerCame := (hB 12 (by decide) (by decide)).1
  have r_aLayerCame := (hB 12 (by decide) (by decide)).2
  have m_aRest := (hB 13 (by decide) (by decide)).1
  have r_aRest := (hB 13 (by decide) (by decide)).2
  have m_aRestMany := (hB 14 (by decide) (by decide)).1
  have r_aRestMany := (hB 14 (by decide) (by decide)).2
  have m_aCome := (hB 16 (by decide) (by decide)).1
  have r_aCome := (hB 16 (by decide) (by decide)).2
  have m_aRivals := (hB 17 (by decide) (by decide)).1
  have r_aRivals := (hB 17 (by decide) (by decide)).2
  have m_aGone := (hB 18 (by decide) (by decide)).1
  have r_aGone := (hB 18 (by decide) (by decide)).2
  have m_aOrder := (hB 19 (by decide) (by decide)).1
  have r_aOrder := (hB 19 (by decide) (by decide)).2
  have m_aOffAt := (hB 20 (by decide) (by decide)).1
  have r_aOffAt := (hB 20 (by decide) (by decide)).2
  have m_aIsOff := (hB 21 (by decide) (by decide)).1
  have r_aIsOff := (hB 21 (by decide) (by decide)).2
  have m_aAlone := (hB 22 (by decide) (by decide)).1
  have r_aAlone := (hB 22 (by decide) (by decide)).2
  have m_aKept := (hB 23 (by decide) (by decide)).1
  have r_aKept := (hB 23 (by decide) (by decide)).2
  have m_y := (hB 0 (by decide) (by decide)).1
  have r_y := (hB 0 (by decide) (by decide)).2
  obtain ⟨z, hz, hq⟩ : OK (mX9_fewest vW vIW vAlone wi wa mo by_) _ := rfewest_ok hI _ _ _ _ _ _
  refine cI_up (k_X9_fewest l D g m_y e_y m_aWorlds e_aWorlds m_aInWorld e_aInWorld m_aKind e_aKind m_aSize e_aSize m_aMarks e_aMarks m_aSeed e_aSeed m_aContents e_aContents m_aContentMany e_aContentMany m_aRow e_aRow m_aBits e_aBits m_aLayerSize e_aLayerSize m_aLayerCame e_aLayerCame m_aRest e_aRest m_aRestMany e_aRestMany m_aCome e_aCome m_aRivals e_aRivals m_aGone e_aGone m_aOrder e_aOrder m_aOffAt e_aOffAt m_aIsOff e_aIsOff m_aAlone e_aAlone m_aKept e_aKept r_aAlone r_aKept hz) (by decide) (by decide) (by decide) (by decide) (by decide) (by decide) (fun x L1 f1 P => ?_)
  obtain ⟨ex, eL, fv, E_aAlone⟩ := P
  subst eL
  refine ⟨_, ⟨vAlone, z, hz, ex, rfl⟩, ?_⟩
  have FT : ∀ b, b ∈ L1 → ¬ TR [22] (ρ b) → f1 b = f b := fun b hb ht => fv b hb (ne_T2 ht (tr_y r_aAlone (by decide)))
  refine CY_up [22] hB hS FT ((FT _ m_y (tr_n r_y (by decide))).trans e_y) ((FT _ m_aWorlds (tr_n r_aWorlds (by decide))).trans e_aWorlds) ((FT _ m_aInWorld (tr_n r_aInWorld (by decide))).trans e_aInWorld) ((FT _ m_aKind (tr_n r_aKind (by decide))).trans e_aKind) ((FT _ m_aSize (tr_n r_aSize (by decide))).trans e_aSize) ((FT _ m_aMarks (tr_n r_aMarks (by decide))).trans e_aMarks) ((FT _ m_aSeed (tr_n r_aSeed (by decide))).trans e_aSeed) ((FT _ m_aContents (tr_n r_aContents (by decide))).trans e_aContents) ((FT _ m_aContentMany (tr_n r_aContentMany (by decide))).trans e_aContentMany) ((FT _ m_aRow (tr_n r_aRow (by decide))).trans e_aRow) ((FT _ m_aBits (tr_n r_aBits (by decide))).trans e_aBits) ((FT _ m_aLayerSize (tr_n r_aLayerSize (by decide))).trans e_aLayerSize) ((FT _ m_aLayerCame (tr_n r_aLayerCame (by decide))).trans e_aLayerCame) ((FT _ m_aRest (tr_n r_aRest (by decide))).trans e_aRest) ((FT _ m_aRestMany (tr_n r_aRestMany (by decide))).trans e_aRestMany) ?_ ⟨hI, hWY⟩
  intro k hk hK
  have hc : k = 22 := by
    have hh : ∀ q, q ∈ [16, 17, 18, 19, 20, 21, 22, 23] → q ∈ [22] → q = 22 := by decide
    exact hh k hk hK
  subst hc
  exact ⟨_, E_aAlone⟩
def S9_remove  : RT → Int32 → RT → Prop := fun (many, vW, vIW, vK, vZ, vM, vS, vCt, vC, vRow, vB, vL, vLC, vRe, vR) x r1 => ∃ z, mX9_remove many = some z ∧ x = z.1 ∧ r1 = (z.2, vW, vIW, vK, vZ, vM, vS, vCt, vC, vRow, vB, vL, vLC, vRe, vR)
set_option maxHeartbeats 1000000 in
theorem rx_remove (l : Launch) (D : va_G) {ρ : Nat → Nat × Nat} {g : Nat → ClassId} {L : List Nat} {f : Nat → va_E} {y : Nat} {r : RT} (C : CfY ρ g L f y r)  : cI l yX9_remove wsX9_remove (RmC 0 0) D g [.ref y] L f 0 0 (fun x L1 f1 => ∃ r1, S9_remove  r x r1 ∧ ResY ρ g L f y r1 L1 f1) := by
  have CC := C
  obtain ⟨many, vW, vIW, vK, vZ, vM, vS, vCt, vC, vRow, vB, vL, vLC, vRe, vR⟩ := r
  obtain ⟨B, rfl, hB, ⟨e_y, e_aWorlds, e_aInWorld, e_aKind, e_aSize, e_aMarks, e_aSeed, e_aContents, e_aContentMany, e_aRow, e_aBits, e_aLayerSize, e_aLayerCame, e_aRest, e_aRestMany, hS⟩, hI, hWY⟩ := C
  obtain ⟨vCome, e_aCome⟩ := hS 16 (by decide)
  obtain ⟨vRivals, e_aRivals⟩ := hS 17 (by decide)
  obtain ⟨vGone, e_aGone⟩ := hS 18 (by decide)
  obtain ⟨vOrder, e_aOrder⟩ := hS 19 (by decide)
  obtain ⟨vOffAt, e_aOffAt⟩ := hS 20 (by decide)
  obtain ⟨vIsOff, e_aIsOff⟩ := hS 21 (by decide)
  obtain ⟨vAlone, e_aAlone⟩ := hS 22 (by decide)
  obtain ⟨vKept, e_aKept⟩ := hS 23 (by decide)
  have m_aWorlds := (hB 1 (by decide) (by decide)).1
  have r_aWorlds := (hB 1 (by decide) (by decide)).2
  have m_aInWorld := (hB 2 (by decide) (by decide)).1
  have r_aInWorld := (hB 2 (by decide) (by decide)).2
  have m_aKind := (hB 3 (by decide) (by decide)).1
  have r_aKind := (hB 3 (by decide) (by decide)).2
  have m_aSize := (hB 4 (by decide) (by decide)).1
  have r_aSize := (hB 4 (by decide) (by decide)).2
  have m_aMarks := (hB 5 (by decide) (by decide)).1
  have r_aMarks := (hB 5 (by decide) (by decide)).2
  have m_aSeed := (hB 6 (by decide) (by decide)).1
  have r_aSeed := (hB 6 (by decide) (by decide)).2
  have m_aContents := (hB 7 (by decide) (by decide)).1
  have r_aContents := (hB 7 (by decide) (by decide)).2
  have m_aContentMany := (hB 8 (by decide) (by decide)).1
  have r_aContentMany := (hB 8 (by decide) (by decide)).2
  have m_aRow := (hB 9 (by decide) (by decide)).1
  have r_aRow := (hB 9 (by decide) (by decide)).2
  have m_aBits := (hB 10 (by decide) (by decide)).1
  have r_aBits := (hB 10 (by decide) (by decide)).2
  have m_aLayerSize := (hB 11 (by decide) (by decide)).1
  have r_aLayerSize := (hB 11 (by decide) (by decide)).2
  have m_aLayerCame := (hB 12 (by decide) (by decide)).1
  have r_aLayerCame := (hB 12 (by decide) (by decide)).2
  have m_aRest := (hB 13 (by decide) (by decide)).1
  have r_aRest := (hB 13 (by decide) (by decide)).2
  have m_aRestMany := (hB 14 (by decide) (by decide)).1
  have r_aRestMany := (hB 14 (by decide) (by decide)).2
  have m_aCome := (hB 16 (by decide) (by decide)).1
  have r_aCome := (hB 16 (by decide) (by decide)).2
  have m_aRivals := (hB 17 (by decide) (by decide)).1
  have r_aRivals := (hB 17 (by decide) (by decide)).2
  have m_aGone := (hB 18 (by decide) (by decide)).1
  have r_aGone := (hB 18 (by decide) (by decide)).2
  have m_aOrder := (hB 19 (by decide) (by decide)).1
  have r_aOrder := (hB 19 (by decide) (by decide)).2
  have m_aOffAt := (hB 20 (by decide) (by decide)).1
  have r_aOffAt := (hB 20 (by decide) (by decide)).2
  have m_aIsOff := (hB 21 (by decide) (by decide)).1
  have r_aIsOff := (hB 21 (by decide) (by decide)).2
  have m_aAlone := (hB 22 (by decide) (by decide)).1
  have r_aAlone := (hB 22 (by decide) (by decide)).2
  have m_aKept := (hB 23 (by decide) (by decide)).1
  have r_aKept := (hB 23 (by decide) (by decide)).2
  have m_y := (hB 0 (by decide) (by decide)).1
  have r_y := (hB 0 (by decide) (by decide)).2
  obtain ⟨z, hz, hq⟩ : OK (mX9_remove many) _ := rremove_ok hI
  refine cI_up (k_X9_remove l D g m_y e_y hz) (by decide) (by decide) (by decide) (by decide) (by decide) (by decide) (fun x L1 f1 P => ?_)
  obtain ⟨ex, eL, fv, E_y⟩ := P
  subst eL
  refine ⟨_, ⟨z, hz, ex, rfl⟩, ?_⟩
  have FT : ∀ b, b ∈ L1 → ¬ TR [0] (ρ b) → f1 b = f b := fun b hb ht => fv b hb (ne_T2 ht (tr_y r_y (by decide)))
  refine CY_up [0] hB hS FT E_y ((FT _ m_aWorlds (tr_n r_aWorlds (by decide))).trans e_aWorlds) ((FT _ m_aInWorld (tr_n r_aInWorld (by decide))).trans e_aInWorld) ((FT _ m_aKind (tr_n r_aKind (by decide))).trans e_aKind) ((FT _ m_aSize (tr_n r_aSize (by decide))).trans e_aSize) ((FT _ m_aMarks (tr_n r_aMarks (by decide))).trans e_aMarks) ((FT _ m_aSeed (tr_n r_aSeed (by decide))).trans e_aSeed) ((FT _ m_aContents (tr_n r_aContents (by decide))).trans e_aContents) ((FT _ m_aContentMany (tr_n r_aContentMany (by decide))).trans e_aContentMany) ((FT _ m_aRow (tr_n r_aRow (by decide))).trans e_aRow) ((FT _ m_aBits (tr_n r_aBits (by decide))).trans e_aBits) ((FT _ m_aLayerSize (tr_n r_aLayerSize (by decide))).trans e_aLayerSize) ((FT _ m_aLayerCame (tr_n r_aLayerCame (by decide))).trans e_aLayerCame) ((FT _ m_aRest (tr_n r_aRest (by decide))).trans e_aRest) ((FT _ m_aRestMany (tr_n r_aRestMany (by decide))).trans e_aRestMany) ?_ ⟨hq, hWY⟩
  intro k hk hK
  have hc : False := by
    have hh : ∀ q, q ∈ [16, 17, 18, 19, 20, 21, 22, 23] → q ∈ [0] → False := by decide
    exact hh k hk hK
  exact hc.elim
def S9_sieves  : RT → Int32 → RT → Prop := fun (many, vW, vIW, vK, vZ, vM, vS, vCt, vC, vRow, vB, vL, vLC, vRe, vR) x r1 => ∃ z, mX9_sieves many = some z ∧ x = z ∧ r1 = (many, vW, vIW, vK, vZ, vM, vS, vCt, vC, vRow, vB, vL, vLC, vRe, vR)
set_option maxHeartbeats 1000000 in
theorem rx_sieves (l : Launch) (D : va_G) {ρ : Nat → Nat × Nat} {g : Nat → ClassId} {L : List Nat} {f : Nat → va_E} {y : Nat} {r : RT} (C : CfY ρ g L f y r)  : cI l yX9_sieves wsX9_sieves (RmC 0 0) D g [.ref y] L f 0 0 (fun x L1 f1 => ∃ r1, S9_sieves  r x r1 ∧ ResY ρ g L f y r1 L1 f1) := by
  have CC := C
  obtain ⟨many, vW, vIW, vK, vZ, vM, vS, vCt, vC, vRow, vB, vL, vLC, vRe, vR⟩ := r
  obtain ⟨B, rfl, hB, ⟨e_y, e_aWorlds, e_aInWorld, e_aKind, e_aSize, e_aMarks, e_aSeed, e_aContents, e_aContentMany, e_aRow, e_aBits, e_aLayerSize, e_aLayerCame, e_aRest, e_aRestMany, hS⟩, hI, hWY⟩ := C
  obtain ⟨vCome, e_aCome⟩ := hS 16 (by decide)
  obtain ⟨vRivals, e_aRivals⟩ := hS 17 (by decide)
  obtain ⟨vGone, e_aGone⟩ := hS 18 (by decide)
  obtain ⟨vOrder, e_aOrder⟩ := hS 19 (by decide)
  obtain ⟨vOffAt, e_aOffAt⟩ := hS 20 (by decide)
  obtain ⟨vIsOff, e_aIsOff⟩ := hS 21 (by decide)
  obtain ⟨vAlone, e_aAlone⟩ := hS 22 (by decide)
  obtain ⟨vKept, e_aKept⟩ := hS 23 (by decide)
  have m_aWorlds := (hB 1 (by decide) (by decide)).1
  have r_aWorlds := (hB 1 (by decide) (by decide)).2
  have m_aInWorld := (hB 2 (by decide) (by decide)).1
  have r_aInWorld := (hB 2 (by decide) (by decide)).2
  have m_aKind := (hB 3 (by decide) (by decide)).1
  have r_aKind := (hB 3 (by decide) (by decide)).2
  have m_aSize := (hB 4 (by decide) (by decide)).1
  have r_aSize := (hB 4 (by decide) (by decide)).2
  have m_aMarks := (hB 5 (by decide) (by decide)).1
  have r_aMarks := (hB 5 (by decide) (by decide)).2
  have m_aSeed := (hB 6 (by decide) (by decide)).1
  have r_aSeed := (hB 6 (by decide) (by decide)).2
  have m_aContents := (hB 7 (by decide) (by decide)).1
  have r_aContents := (hB 7 (by decide) (by decide)).2
  have m_aContentMany := (hB 8 (by decide) (by decide)).1
  have r_aContentMany := (hB 8 (by decide) (by decide)).2
  have m_aRow := (hB 9 (by decide) (by decide)).1
  have r_aRow := (hB 9 (by decide) (by decide)).2
  have m_aBits := (hB 10 (by decide) (by decide)).1
  have r_aBits := (hB 10 (by decide) (by decide)).2
  have m_aLayerSize := (hB 11 (by decide) (by decide)).1
  have r_aLayerSize := (hB 11 (by decide) (by decide)).2
  have m_aLayerCame := (hB 12 (by decide) (by decide)).1
  have r_aLayerCame := (hB 12 (by decide) (by decide)).2
  have m_aRest := (hB 13 (by decide) (by decide)).1
  have r_aRest := (hB 13 (by decide) (by decide)).2
  have m_aRestMany := (hB 14 (by decide) (by decide)).1
  have r_aRestMany := (hB 14 (by decide) (by decide)).2
  have m_aCome := (hB 16 (by decide) (by decide)).1
  have r_aCome := (hB 16 (by decide) (by decide)).2
  have m_aRivals := (hB 17 (by decide) (by decide)).1
  have r_aRivals := (hB 17 (by decide) (by decide)).2
  have m_aGone := (hB 18 (by decide) (by decide)).1
  have r_aGone := (hB 18 (by decide) (by decide)).2
  have m_aOrder := (hB 19 (by decide) (by decide)).1
  have r_aOrder := (hB 19 (by decide) (by decide)).2
  have m_aOffAt := (hB 20 (by decide) (by decide)).1
  have r_aOffAt := (hB 20 (by decide) (by decide)).2
  have m_aIsOff := (hB 21 (by decide) (by decide)).1
  have r_aIsOff := (hB 21 (by decide) (by decide)).2
  have m_aAlone := (hB 22 (by decide) (by decide)).1
  have r_aAlone := (hB 22 (by decide) (by decide)).2
  have m_aKept := (hB 23 (by decide) (by decide)).1
  have r_aKept := (hB 23 (by decide) (by decide)).2
  have m_y := (hB 0 (by decide) (by decide)).1
  have r_y := (hB 0 (by decide) (by decide)).2
  obtain ⟨z, hz⟩ : ∃ z, mX9_sieves many = some z := ⟨_, rfl⟩
  refine cI_up (k_X9_sieves l D g m_y e_y hz) (by decide) (by decide) (by decide) (by decide) (by decide) (by decide) (fun x L1 f1 P => ?_)
  obtain ⟨ex, eL, ef⟩ := P
  subst eL ef
  exact ⟨_, ⟨z, hz, ex, rfl⟩, ResY_same CC⟩
