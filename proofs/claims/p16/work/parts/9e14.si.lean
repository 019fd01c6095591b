theorem pH_lets {wN wN1 : Nat → Nat} {wV wV1 : Nat → Nat → Int64} {M M1 : Nat} {σ σ1 : Nat → SlT} {r r1 : RT} {sq : Int32} {t : Int64} {x8 x9 : Int32} (hI : RIY r) (hV : ∀ j, j < M → SVs (σ j)) (hR : WRs wN wV) (H : SimH wN wV M σ r) (h8 : T8_lets sq t wN wV M σ x8 wN1 wV1 M1 σ1) (h9 : S9_lets sq t r x9 r1) : SimH wN1 wV1 M1 σ1 r1 := by
  obtain ⟨many, vW, vIW, vK, vZ, vM, vS, vCt, vC, vRow, vB, vL, vLC, vRe, vR⟩ := r
  obtain ⟨-, rfl, rfl, rfl, rfl⟩ := h8
  obtain ⟨z, -, -, rfl⟩ := h9
  exact H
theorem pH_falses {wN wN1 : Nat → Nat} {wV wV1 : Nat → Nat → Int64} {M M1 : Nat} {σ σ1 : Nat → SlT} {r r1 : RT} {sq : Int32} {wi : Int32} {x8 x9 : Int32} (hI : RIY r) (hV : ∀ j, j < M → SVs (σ j)) (hR : WRs wN wV) (H : SimH wN wV M σ r) (h8 : T8_falses sq wi wN wV M σ x8 wN1 wV1 M1 σ1) (h9 : S9_falses sq wi r x9 r1) : SimH wN1 wV1 M1 σ1 r1 := by
  obtain ⟨many, vW, vIW, vK, vZ, vM, vS, vCt, vC, vRow, vB, vL, vLC, vRe, vR⟩ := r
  obtain ⟨-, rfl, rfl, rfl, rfl⟩ := h8
  obtain ⟨z, -, -, rfl⟩ := h9
  exact H
theorem pH_falseOne {wN wN1 : Nat → Nat} {wV wV1 : Nat → Nat → Int64} {M M1 : Nat} {σ σ1 : Nat → SlT} {r r1 : RT} {sq : Int32} {wi : Int32} {i : Int32} {x8 x9 : Int64} (hI : RIY r) (hV : ∀ j, j < M → SVs (σ j)) (hR : WRs wN wV) (H : SimH wN wV M σ r) (h8 : T8_falseOne sq wi i wN wV M σ x8 wN1 wV1 M1 σ1) (h9 : S9_falseOne sq wi i r x9 r1) : SimH wN1 wV1 M1 σ1 r1 := by
  obtain ⟨many, vW, vIW, vK, vZ, vM, vS, vCt, vC, vRow, vB, vL, vLC, vRe, vR⟩ := r
  obtain ⟨-, rfl, rfl, rfl, rfl⟩ := h8
  obtain ⟨z, -, -, rfl⟩ := h9
  exact H
theorem pH_missed {wN wN1 : Nat → Nat} {wV wV1 : Nat → Nat → Int64} {M M1 : Nat} {σ σ1 : Nat → SlT} {r r1 : RT} {sq : Int32} {x8 x9 : Int32} (hI : RIY r) (hV : ∀ j, j < M → SVs (σ j)) (hR : WRs wN wV) (H : SimH wN wV M σ r) (h8 : T8_missed sq wN wV M σ x8 wN1 wV1 M1 σ1) (h9 : S9_missed sq r x9 r1) : SimH wN1 wV1 M1 σ1 r1 := by
  obtain ⟨many, vW, vIW, vK, vZ, vM, vS, vCt, vC, vRow, vB, vL, vLC, vRe, vR⟩ := r
  obtain ⟨-, rfl, rfl, rfl, rfl⟩ := h8
  obtain ⟨z, -, -, rfl⟩ := h9
  exact H
theorem pH_about {wN wN1 : Nat → Nat} {wV wV1 : Nat → Nat → Int64} {M M1 : Nat} {σ σ1 : Nat → SlT} {r r1 : RT} {sq : Int32} {wh : Int32} {x8 x9 : Int32} (hI : RIY r) (hV : ∀ j, j < M → SVs (σ j)) (hR : WRs wN wV) (H : SimH wN wV M σ r) (h8 : T8_about sq wh wN wV M σ x8 wN1 wV1 M1 σ1) (h9 : S9_about sq wh r x9 r1) : SimH wN1 wV1 M1 σ1 r1 := by
  obtain ⟨many, vW, vIW, vK, vZ, vM, vS, vCt, vC, vRow, vB, vL, vLC, vRe, vR⟩ := r
  obtain ⟨-, rfl, rfl, rfl, rfl⟩ := h8
  obtain ⟨z, -, -, rfl⟩ := h9
  exact H
theorem pH_cell {wN wN1 : Nat → Nat} {wV wV1 : Nat → Nat → Int64} {M M1 : Nat} {σ σ1 : Nat → SlT} {r r1 : RT} {sq : Int32} {i : Int32} {x8 x9 : Int32} (hI : RIY r) (hV : ∀ j, j < M → SVs (σ j)) (hR : WRs wN wV) (H : SimH wN wV M σ r) (h8 : T8_cell sq i wN wV M σ x8 wN1 wV1 M1 σ1) (h9 : S9_cell sq i r x9 r1) : SimH wN1 wV1 M1 σ1 r1 := by
  obtain ⟨many, vW, vIW, vK, vZ, vM, vS, vCt, vC, vRow, vB, vL, vLC, vRe, vR⟩ := r
  obtain ⟨-, rfl, rfl, rfl, rfl⟩ := h8
  obtain ⟨z, -, -, rfl⟩ := h9
  exact H
theorem pH_layer {wN wN1 : Nat → Nat} {wV wV1 : Nat → Nat → Int64} {M M1 : Nat} {σ σ1 : Nat → SlT} {r r1 : RT} {sq : Int32} {i : Int32} {wh : Int32} {x8 x9 : Int32} (hI : RIY r) (hV : ∀ j, j < M → SVs (σ j)) (hR : WRs wN wV) (H : SimH wN wV M σ r) (h8 : T8_layer sq i wh wN wV M σ x8 wN1 wV1 M1 σ1) (h9 : S9_layer sq i wh r x9 r1) : SimH wN1 wV1 M1 σ1 r1 := by
  obtain ⟨many, vW, vIW, vK, vZ, vM, vS, vCt, vC, vRow, vB, vL, vLC, vRe, vR⟩ := r
  obtain ⟨-, rfl, rfl, rfl, rfl⟩ := h8
  obtain ⟨z, -, -, rfl⟩ := h9
  exact H
theorem pH_mark {wN wN1 : Nat → Nat} {wV wV1 : Nat → Nat → Int64} {M M1 : Nat} {σ σ1 : Nat → SlT} {r r1 : RT} {sq : Int32} {t : Int64} {j : Int32} {x8 x9 : Int32} (hI : RIY r) (hV : ∀ j, j < M → SVs (σ j)) (hR : WRs wN wV) (H : SimH wN wV M σ r) (h8 : T8_mark sq t j wN wV M σ x8 wN1 wV1 M1 σ1) (h9 : S9_mark sq t j r x9 r1) : SimH wN1 wV1 M1 σ1 r1 := by
  obtain ⟨many, vW, vIW, vK, vZ, vM, vS, vCt, vC, vRow, vB, vL, vLC, vRe, vR⟩ := r
  obtain ⟨-, rfl, rfl, rfl, rfl⟩ := h8
  obtain ⟨z, -, -, rfl⟩ := h9
  exact H
theorem pH_fewest {wN wN1 : Nat → Nat} {wV wV1 : Nat → Nat → Int64} {M M1 : Nat} {σ σ1 : Nat → SlT} {r r1 : RT} {wi : Int32} {wa : Int32} {mo : Int32} {sd_ : Int32} {x8 x9 : Int32} (hI : RIY r) (hV : ∀ j, j < M → SVs (σ j)) (hR : WRs wN wV) (H : SimH wN wV M σ r) (h8 : T8_fewest wi wa mo sd_ wN wV M σ x8 wN1 wV1 M1 σ1) (h9 : S9_fewest wi wa mo sd_ r x9 r1) : SimH wN1 wV1 M1 σ1 r1 := by
  obtain ⟨many, vW, vIW, vK, vZ, vM, vS, vCt, vC, vRow, vB, vL, vLC, vRe, vR⟩ := r
  obtain ⟨-, rfl, rfl, rfl, rfl⟩ := h8
  obtain ⟨al, z, -, -, rfl⟩ := h9
  exact H
theorem pH_things {wN wN1 : Nat → Nat} {wV wV1 : Nat → Nat → Int64} {M M1 : Nat} {σ σ1 : Nat → SlT} {r r1 : RT} {wi : Int32} {x8 x9 : Int32} (hI : RIY r) (hV : ∀ j, j < M → SVs (σ j)) (hR : WRs wN wV) (H : SimH wN wV M σ r) (h8 : T8_things wi wN wV M σ x8 wN1 wV1 M1 σ1) (h9 : S9_things wi r x9 r1) : x8 = x9 ∧ SimH wN1 wV1 M1 σ1 r1 := by
  obtain ⟨many, vW, vIW, vK, vZ, vM, vS, vCt, vC, vRow, vB, vL, vLC, vRe, vR⟩ := r
  obtain ⟨h8, rfl, rfl, rfl, rfl⟩ := h8
  obtain ⟨z, hz, rfl, rfl⟩ := h9
  refine ⟨AnW_det (P' := fun j x => x = vIW j) (fun j a b hj e e' => by rw [e, e', (H.2.2.1 j hj).1]) h8 ?_, H⟩
  rcases isW_v wi with q | ⟨q, j, hj, rfl⟩
  · unfold mX9_things at hz
    rw [q, sb_, if_pos rfl] at hz
    exact Or.inl ⟨q, (Option.some.inj hz).symm⟩
  · unfold mX9_things at hz
    rw [q, sb_, if_neg (show ¬ (1 : Int32) = 0 by decide), if_pos (ix_nI hj), clN (by omega)] at hz
    exact Or.inr ⟨j, hj, rfl, (Option.some.inj hz).symm⟩
theorem pH_thing {wN wN1 : Nat → Nat} {wV wV1 : Nat → Nat → Int64} {M M1 : Nat} {σ σ1 : Nat → SlT} {r r1 : RT} {wi : Int32} {i : Int32} {x8 x9 : Int64} (hI : RIY r) (hV : ∀ j, j < M → SVs (σ j)) (hR : WRs wN wV) (H : SimH wN wV M σ r) (h8 : T8_thing wi i wN wV M σ x8 wN1 wV1 M1 σ1) (h9 : S9_thing wi i r x9 r1) : x8 = x9 ∧ SimH wN1 wV1 M1 σ1 r1 := by
  obtain ⟨many, vW, vIW, vK, vZ, vM, vS, vCt, vC, vRow, vB, vL, vLC, vRe, vR⟩ := r
  obtain ⟨h8, rfl, rfl, rfl, rfl⟩ := h8
  obtain ⟨z, hz, rfl, rfl⟩ := h9
  exact ⟨thing_link H.2.2.1 hR h8 (OK_use (rthing_ok hI.1 vW wi i) hz), H⟩
theorem pH_span {wN wN1 : Nat → Nat} {wV wV1 : Nat → Nat → Int64} {M M1 : Nat} {σ σ1 : Nat → SlT} {r r1 : RT} {wi : Int32} {fi : Int64} {st_ : Int32} {nn : Int32} {x8 x9 : Int32} (hI : RIY r) (hV : ∀ j, j < M → SVs (σ j)) (hR : WRs wN wV) (H : SimH wN wV M σ r) (h8 : T8_span wi fi st_ nn wN wV M σ x8 wN1 wV1 M1 σ1) (h9 : S9_span wi fi st_ nn r x9 r1) : x8 = x9 ∧ SimH wN1 wV1 M1 σ1 r1 := by
  obtain ⟨many, vW, vIW, vK, vZ, vM, vS, vCt, vC, vRow, vB, vL, vLC, vRe, vR⟩ := r
  obtain ⟨ha, a, b, hc, rfl, rfl, rfl, rfl⟩ := h8
  obtain ⟨z, hz, rfl, rfl⟩ := h9
  have hK := H.2.2.1
  have key : AnW (-1) wi (fun j x => SpA (wN j) (wV j) fi st_ nn x) z.1 ∧ SpRP wN wV wi fi st_ nn vW vIW z.2.1 z.2.2 := by
    rcases isW_v wi with q | ⟨q, j, hj, rfl⟩
    · have e : mX9_span vW vIW wi fi st_ nn = some (-1, vW, vIW) := by
        unfold mX9_span
        rw [q, sb_]
        exact if_pos rfl
      rw [e] at hz
      cases Option.some.inj hz
      exact ⟨Or.inl ⟨q, rfl⟩, Or.inl ⟨q, rfl, rfl⟩⟩
    · obtain ⟨hF, m, hm, h1, h2⟩ := OK_use (rspan_ok hj (hR j hj).1 (hK j hj).1 (hR j hj).2 (hK j hj).2 fi st_ nn) hz
      exact ⟨Or.inr ⟨j, hj, rfl, h2⟩, Or.inr ⟨j, hj, rfl, hF, m, hm, h1⟩⟩
  exact ⟨span_ans ha key.1, H.1, H.2.1, span_link hK hR hc key.2, H.2.2.2⟩
theorem pH_take {wN wN1 : Nat → Nat} {wV wV1 : Nat → Nat → Int64} {M M1 : Nat} {σ σ1 : Nat → SlT} {r r1 : RT} {wi : Int32} {t : Int64} {x8 x9 : Int32} (hI : RIY r) (hV : ∀ j, j < M → SVs (σ j)) (hR : WRs wN wV) (H : SimH wN wV M σ r) (h8 : T8_take wi t wN wV M σ x8 wN1 wV1 M1 σ1) (h9 : S9_take wi t r x9 r1) : x8 = x9 ∧ SimH wN1 wV1 M1 σ1 r1 := by
  obtain ⟨many, vW, vIW, vK, vZ, vM, vS, vCt, vC, vRow, vB, vL, vLC, vRe, vR⟩ := r
  obtain ⟨ha, a, b, hc, rfl, rfl, rfl, rfl⟩ := h8
  obtain ⟨z, hz, rfl, rfl⟩ := h9
  have hK := H.2.2.1
  have key : AnW (-1) wi (fun j x => TkA (wN j) (wV j) t x) z.1 ∧ TkRP wN wV wi t vW vIW z.2.1 z.2.2 := by
    rcases isW_v wi with q | ⟨q, j, hj, rfl⟩
    · have e : mX9_take vW vIW wi t = some (-1, vW, vIW) := by
        unfold mX9_take
        rw [q, sb_]
        exact (if_pos rfl).trans (if_neg (by decide))
      rw [e] at hz
      cases Option.some.inj hz
      exact ⟨Or.inl ⟨q, rfl⟩, Or.inl ⟨q, rfl, rfl⟩⟩
    · obtain ⟨hF, m, hm, h1, h2⟩ := OK_use (rtake_ok hj (hR j hj).1 (hK j hj).1 (hK j hj).2 t) hz
      exact ⟨Or.inr ⟨j, hj, rfl, h2⟩, Or.inr ⟨j, hj, rfl, hF, m, hm, h1⟩⟩
  exact ⟨take_ans ha key.1, H.1, H.2.1, take_link hK hR hc key.2, H.2.2.2⟩
theorem pH_sieves {wN wN1 : Nat → Nat} {wV wV1 : Nat → Nat → Int64} {M M1 : Nat} {σ σ1 : Nat → SlT} {r r1 : RT}  {x8 x9 : Int32} (hI : RIY r) (hV : ∀ j, j < M → SVs (σ j)) (hR : WRs wN wV) (H : SimH wN wV M σ r) (h8 : T8_sieves  wN wV M σ x8 wN1 wV1 M1 σ1) (h9 : S9_sieves  r x9 r1) : x8 = x9 ∧ SimH wN1 wV1 M1 σ1 r1 := by
  obtain ⟨many, vW, vIW, vK, vZ, vM, vS, vCt, vC, vRow, vB, vL, vLC, vRe, vR⟩ := r
  obtain ⟨h8, rfl, rfl, rfl, rfl⟩ := h8
  obtain ⟨z, hz, rfl, rfl⟩ := h9
  refine ⟨?_, H⟩
  have : many = x9 := Option.some.inj hz
  rw [h8, ← this]
  exact H.1.symm
theorem pH_remove {wN wN1 : Nat → Nat} {wV wV1 : Nat → Nat → Int64} {M M1 : Nat} {σ σ1 : Nat → SlT} {r r1 : RT}  {x8 x9 : Int32} (hI : RIY r) (hV : ∀ j, j < M → SVs (σ j)) (hR : WRs wN wV) (H : SimH wN wV M σ r) (h8 : T8_remove  wN wV M σ x8 wN1 wV1 M1 σ1) (h9 : S9_remove  r x9 r1) : x8 = x9 ∧ SimH wN1 wV1 M1 σ1 r1 := by
  obtain ⟨many, vW, vIW, vK, vZ, vM, vS, vCt, vC, vRow, vB, vL, vLC, vRe, vR⟩ := r
  have H2 := H
  obtain ⟨rfl, hM, hK, hs⟩ := H2
  obtain ⟨z, hz, rfl, rfl⟩ := h9
  unfold mX9_remove at hz
  rcases h8 with ⟨h0, e, rfl, rfl, rfl, rfl⟩ | ⟨h0, e, rfl, rfl, rfl, rfl⟩
  · rw [if_pos (by rw [h0]; rfl)] at hz
    cases Option.some.inj hz
    exact ⟨e, H⟩
  · rw [if_neg (nI_ne0 h0 (by omega)), show nI M - (1 : Int32) = nI (M - 1) from pk_sub (b := 1) h0] at hz
    cases Option.some.inj hz
    exact ⟨e, rfl, by omega, hK, fun s q => hs s (by omega)⟩
theorem pH_put {wN wN1 : Nat → Nat} {wV wV1 : Nat → Nat → Int64} {M M1 : Nat} {σ σ1 : Nat → SlT} {r r1 : RT} {sq : Int32} {t : Int64} {x8 x9 : Int32} (hI : RIY r) (hV : ∀ j, j < M → SVs (σ j)) (hR : WRs wN wV) (H : SimH wN wV M σ r) (h8 : T8_put sq t wN wV M σ x8 wN1 wV1 M1 σ1) (h9 : S9_put sq t r x9 r1) : SimH wN1 wV1 M1 σ1 r1 := by
  rcases h8 with ⟨hn, -, rfl, rfl, rfl, rfl⟩ | ⟨j, hj, rfl, τ, hP, rfl, rfl, rfl, rfl⟩
  · rw [((sim_put hI hV H h9).1 hn).2]
    exact H
  · exact (sim_put hI hV H h9).2 j hj rfl _ τ hP
theorem pH_drop {wN wN1 : Nat → Nat} {wV wV1 : Nat → Nat → Int64} {M M1 : Nat} {σ σ1 : Nat → SlT} {r r1 : RT} {sq : Int32} {t : Int64} {x8 x9 : Int32} (hI : RIY r) (hV : ∀ j, j < M → SVs (σ j)) (hR : WRs wN wV) (H : SimH wN wV M σ r) (h8 : T8_drop sq t wN wV M σ x8 wN1 wV1 M1 σ1) (h9 : S9_drop sq t r x9 r1) : SimH wN1 wV1 M1 σ1 r1 := by
  rcases h8 with ⟨hn, -, rfl, rfl, rfl, rfl⟩ | ⟨j, hj, rfl, τ, hP, rfl, rfl, rfl, rfl⟩
  · rw [((sim_drop hI H h9).1 hn).2]
    exact H
  · exact (sim_drop hI H h9).2 j hj rfl _ τ hP
theorem pH_putAll {wN wN1 : Nat → Nat} {wV wV1 : Nat → Nat → Int64} {M M1 : Nat} {σ σ1 : Nat → SlT} {r r1 : RT} {sq : Int32} {wi : Int32} {x8 x9 : Int32} (hI : RIY r) (hV : ∀ j, j < M → SVs (σ j)) (hR : WRs wN wV) (H : SimH wN wV M σ r) (h8 : T8_putAll sq wi wN wV M σ x8 wN1 wV1 M1 σ1) (h9 : S9_putAll sq wi r x9 r1) : SimH wN1 wV1 M1 σ1 r1 := by
  rcases h8 with ⟨hn, -, rfl, rfl, rfl, rfl⟩ | ⟨j, hj, w, hw, rfl, rfl, τ, hP, rfl, rfl, rfl, rfl⟩
  · rw [((sim_putAll hR hI hV H h9).1 hn).2]
    exact H
  · exact (sim_putAll hR hI hV H h9).2 j hj w hw rfl rfl _ τ hP
theorem pH_make {wN wN1 : Nat → Nat} {wV wV1 : Nat → Nat → Int64} {M M1 : Nat} {σ σ1 : Nat → SlT} {r r1 : RT} {k0 : Int32} {k1 : Int32} {k2 : Int32} {k3 : Int32} {x8 x9 : Int32} (hI : RIY r) (hV : ∀ j, j < M → SVs (σ j)) (hR : WRs wN wV) (H : SimH wN wV M σ r) (h8 : T8_make k0 k1 k2 k3 wN wV M σ x8 wN1 wV1 M1 σ1) (h9 : S9_make k0 k1 k2 k3 r x9 r1) : x8 = x9 ∧ SimH wN1 wV1 M1 σ1 r1 := by
  rcases sim_make (x8 := 0) H h9 with ⟨g1, g2, g3⟩ | ⟨g1, g2, g3, g4⟩ | ⟨g1, g2, g3, g4⟩
  · rcases h8 with ⟨-, e, rfl, rfl, rfl, rfl⟩ | ⟨q, -⟩ | ⟨q, -⟩
    · exact ⟨e.trans g2.symm, g3⟩
    · exact absurd g1 q
    · exact absurd g1 q
  · rcases h8 with ⟨q, -⟩ | ⟨-, -, e, rfl, rfl, rfl, rfl⟩ | ⟨-, q, -⟩
    · exact absurd q g1
    · exact ⟨e.trans g3.symm, g4⟩
    · omega
  · rcases h8 with ⟨q, -⟩ | ⟨-, q, -⟩ | ⟨-, -, e, τ, hτ, rfl, rfl, rfl, rfl⟩
    · exact absurd q g1
    · omega
    · exact ⟨e.trans g3.symm, g4 τ hτ⟩
theorem pH_solve {wN wN1 : Nat → Nat} {wV wV1 : Nat → Nat → Int64} {M M1 : Nat} {σ σ1 : Nat → SlT} {r r1 : RT} {wi : Int32} {sd_ : Int32} {x8 x9 : Int32} (hI : RIY r) (hV : ∀ j, j < M → SVs (σ j)) (hR : WRs wN wV) (H : SimH wN wV M σ r) (h8 : T8_solve wi sd_ wN wV M σ x8 wN1 wV1 M1 σ1) (h9 : S9_solve wi sd_ r x9 r1) : x8 = x9 ∧ SimH wN1 wV1 M1 σ1 r1 := by
  have no0 : ∀ {wi : Int32} {j : Nat}, j < 8 → wi = nI j → ¬ mX9_isWorld wi = some 0 := by
    intro wi j hj e q
    rw [e, isW1 hj] at q
    exact absurd q (by decide)
  rcases sim_solve hR H h9 with ⟨g1, g2, g3⟩ | ⟨j, hj, rfl, g⟩
  · rcases h8 with ⟨-, e, rfl, rfl, rfl, rfl⟩ | ⟨j, hj, e, -⟩
    · exact ⟨e.trans g2.symm, g3⟩
    · exact absurd g1 (no0 hj e)
  · rcases h8 with ⟨q, -⟩ | ⟨j', hj', e', h8⟩
    · exact absurd q (no0 hj rfl)
    · obtain rfl : j = j' := (nI_eq (by omega) (by omega)).mp e'
      have ex : ∀ {τ}, TrV (wN j) (wV j) sd_ τ → ¬ NoV (wN j) (wV j) sd_ := fun h q => q _ h.1 h.2.2
      have exs : ∀ {τ}, SoNs (wN j) (wV j) sd_ τ → ∃ τ, TrV (wN j) (wV j) sd_ τ := by
        intro τ h
        obtain ⟨kd, sz, mk, sd, kc, n, v, lay⟩ := τ
        obtain ⟨τ, h, -⟩ := h
        exact ⟨τ, h⟩
      rcases g with ⟨g1, g2, g3⟩ | ⟨⟨τ0, g1⟩, g2, g3, g4⟩ | ⟨g1, g2, ⟨τ0, g3⟩, g4⟩
      · rcases h8 with ⟨-, e, rfl, rfl, rfl, rfl⟩ | ⟨⟨τ1, q⟩, -⟩ | ⟨-, -, τ, q, -⟩
        · exact ⟨e.trans g2.symm, g3⟩
        · exact absurd g1 (ex q)
        · obtain ⟨τ2, q2⟩ := exs q
          exact absurd g1 (ex q2)
      · rcases h8 with ⟨q, -⟩ | ⟨-, -, e, rfl, rfl, rfl, rfl⟩ | ⟨q, -⟩
        · exact absurd q (ex g1)
        · exact ⟨e.trans g3.symm, g4⟩
        · omega
      · rcases h8 with ⟨q, -⟩ | ⟨-, q, -⟩ | ⟨-, e, τ, hτ, rfl, rfl, rfl, rfl⟩
        · exact absurd q (ex g3)
        · omega
        · exact ⟨e.trans g2.symm, g4 τ hτ⟩
theorem pH_layered {wN wN1 : Nat → Nat} {wV wV1 : Nat → Nat → Int64} {M M1 : Nat} {σ σ1 : Nat → SlT} {r r1 : RT} {wi : Int32} {wa : Int32} {sd_ : Int32} {x8 x9 : Int32} (hI : RIY r) (hV : ∀ j, j < M → SVs (σ j)) (hR : WRs wN wV) (H : SimH wN wV M σ r) (h8 : T8_layered wi wa sd_ wN wV M σ x8 wN1 wV1 M1 σ1) (h9 : S9_layered wi wa sd_ r x9 r1) : x8 = x9 ∧ SimH wN1 wV1 M1 σ1 r1 := by
  have no0 : ∀ {wi : Int32} {j : Nat}, j < 8 → wi = nI j → ¬ mX9_isWorld wi = some 0 := by
    intro wi j hj e q
    rw [e, isW1 hj] at q
    exact absurd q (by decide)
  rcases sim_layered hR H h9 with ⟨g1, g2, g3⟩ | ⟨i, hi, j, hj, rfl, rfl, g⟩
  · rcases h8 with ⟨-, e, rfl, rfl, rfl, rfl⟩ | ⟨i, hi, j, hj, e1, e2, -⟩
    · exact ⟨e.trans g2.symm, g3⟩
    · exact absurd g1 (fun q => q.elim (no0 hi e1) (no0 hj e2))
  · rcases h8 with ⟨q, -⟩ | ⟨i', hi', j', hj', e1, e2, h8⟩
    · exact absurd q (fun q => q.elim (no0 hi rfl) (no0 hj rfl))
    · obtain rfl : i = i' := (nI_eq (by omega) (by omega)).mp e1
      obtain rfl : j = j' := (nI_eq (by omega) (by omega)).mp e2
      rcases g with ⟨g2, g3, g4⟩ | ⟨g1, g2, g4⟩
      · rcases h8 with ⟨-, e, rfl, rfl, rfl, rfl⟩ | ⟨q, -⟩
        · exact ⟨e.trans g3.symm, g4⟩
        · omega
      · rcases h8 with ⟨q, -⟩ | ⟨-, e, τ, hτ, rfl, rfl, rfl, rfl⟩
        · omega
        · exact ⟨e.trans g2.symm, g4 τ hτ⟩
theorem pH_fold {wN wN1 : Nat → Nat} {wV wV1 : Nat → Nat → Int64} {M M1 : Nat} {σ σ1 : Nat → SlT} {r r1 : RT} {aq : Int32} {x8 x9 : Int32} (hI : RIY r) (hV : ∀ j, j < M → SVs (σ j)) (hR : WRs wN wV) (H : SimH wN wV M σ r) (h8 : T8_fold aq wN wV M σ x8 wN1 wV1 M1 σ1) (h9 : S9_fold aq r x9 r1) : x8 = x9 ∧ SimH wN1 wV1 M1 σ1 r1 := by
  have hM : M ≤ 30 := by
    obtain ⟨many, vW, vIW, vK, vZ, vM, vS, vCt, vC, vRow, vB, vL, vLC, vRe, vR⟩ := r
    exact H.2.1
  have noS : ∀ {j : Nat}, j < M → ¬ NoS M (nI j) := fun hj q => q.elim (nI_pos (by omega)) (nI_ge hj (by omega))
  obtain ⟨f1, f2⟩ := sim_fold hI H h9
  rcases h8 with ⟨hn, e, rfl, rfl, rfl, rfl⟩ | ⟨j, hj, rfl, h8⟩
  · obtain ⟨q1, q2⟩ := f1 hn
    rw [q2]
    exact ⟨e.trans q1.symm, H⟩
  · rcases f2 j hj rfl with ⟨g1, g2, g3⟩ | ⟨g1, g2, g3, g4⟩ | ⟨g1, g2, g3, g4⟩
    · rcases h8 with ⟨-, e, rfl, rfl, rfl, rfl⟩ | ⟨q, -⟩ | ⟨q, -⟩
      · rw [g3]; exact ⟨e.trans g2.symm, H⟩
      · exact absurd q g1
      · exact absurd q g1
    · rcases h8 with ⟨q, -⟩ | ⟨-, -, e, rfl, rfl, rfl, rfl⟩ | ⟨-, q, -⟩
      · exact absurd g1 q
      · rw [g4]; exact ⟨e.trans g3.symm, H⟩
      · omega
    · rcases h8 with ⟨q, -⟩ | ⟨-, q, -⟩ | ⟨-, -, e, τ, hτ, rfl, rfl, rfl, rfl⟩
      · exact absurd g1 q
      · omega
      · exact ⟨e.trans g3.symm, g4 τ hτ⟩
theorem pH_join {wN wN1 : Nat → Nat} {wV wV1 : Nat → Nat → Int64} {M M1 : Nat} {σ σ1 : Nat → SlT} {r r1 : RT} {ho : Int32} {aq : Int32} {bq : Int32} {x8 x9 : Int32} (hI : RIY r) (hV : ∀ j, j < M → SVs (σ j)) (hR : WRs wN wV) (H : SimH wN wV M σ r) (h8 : T8_join ho aq bq wN wV M σ x8 wN1 wV1 M1 σ1) (h9 : S9_join ho aq bq r x9 r1) : x8 = x9 ∧ SimH wN1 wV1 M1 σ1 r1 := by
  have hM : M ≤ 30 := by
    obtain ⟨many, vW, vIW, vK, vZ, vM, vS, vCt, vC, vRow, vB, vL, vLC, vRe, vR⟩ := r
    exact H.2.1
  have noS : ∀ {j : Nat}, j < M → ¬ NoS M (nI j) := fun hj q => q.elim (nI_pos (by omega)) (nI_ge hj (by omega))
  obtain ⟨f1, f2⟩ := sim_join hI hV H h9
  rcases h8 with ⟨hn, e, rfl, rfl, rfl, rfl⟩ | ⟨i, hi, j, hj, rfl, rfl, hh, h8⟩
  · obtain ⟨q1, q2⟩ := f1 hn
    rw [q2]
    exact ⟨e.trans q1.symm, H⟩
  · rcases f2 i hi j hj rfl rfl hh with ⟨g1, g2, g3⟩ | ⟨g1, g2, g3, g4⟩ | ⟨g1, g2, g2b, g3, g4⟩
    · rcases h8 with ⟨-, e, rfl, rfl, rfl, rfl⟩ | ⟨q, -⟩ | ⟨q, -⟩
      · rw [g3]; exact ⟨e.trans g2.symm, H⟩
      · exact absurd q g1
      · exact absurd q g1
    · rcases h8 with ⟨q, -⟩ | ⟨-, -, e, rfl, rfl, rfl, rfl⟩ | ⟨-, q, q2, -⟩
      · exact absurd g1 q
      · rw [g4]; exact ⟨e.trans g3.symm, H⟩
      · exact absurd g2 (fun w => w.elim (fun w => by omega) q2)
    · rcases h8 with ⟨q, -⟩ | ⟨-, q, -⟩ | ⟨-, -, -, e, τ, hτ, rfl, rfl, rfl, rfl⟩
      · exact absurd g1 q
      · exact absurd q (fun w => w.elim (fun w => by omega) g2b)
      · exact ⟨e.trans g3.symm, g4 τ hτ⟩
