def SimG (wN : Nat → Nat) (wV : Nat → Nat → Int64) (M : Nat) (σ : Nat → SlT) (r : RT) : Prop := SimH wN wV M σ r ∧ ExG M σ r
theorem qG_lets {wN wN1 : Nat → Nat} {wV wV1 : Nat → Nat → Int64} {M M1 : Nat} {σ σ1 : Nat → SlT} {r r1 : RT} {sq : Int32} {t : Int64} {x8 x9 : Int32} (hI : RIY r) (hV : ∀ j, j < M → SVs (σ j)) (hR : WRs wN wV) (H : SimG wN wV M σ r) (h8 : T8_lets sq t wN wV M σ x8 wN1 wV1 M1 σ1) (h9 : S9_lets sq t r x9 r1) : SimG wN1 wV1 M1 σ1 r1 := by
  obtain ⟨H, X⟩ := H
  have hp := pH_lets hI hV hR H h8 h9
  refine ⟨hp, ?_⟩
  obtain ⟨many, vW, vIW, vK, vZ, vM, vS, vCt, vC, vRow, vB, vL, vLC, vRe, vR⟩ := r
  obtain ⟨-, rfl, rfl, rfl, rfl⟩ := h8
  obtain ⟨z, -, -, rfl⟩ := h9
  exact X
theorem qG_falses {wN wN1 : Nat → Nat} {wV wV1 : Nat → Nat → Int64} {M M1 : Nat} {σ σ1 : Nat → SlT} {r r1 : RT} {sq : Int32} {wi : Int32} {x8 x9 : Int32} (hI : RIY r) (hV : ∀ j, j < M → SVs (σ j)) (hR : WRs wN wV) (H : SimG wN wV M σ r) (h8 : T8_falses sq wi wN wV M σ x8 wN1 wV1 M1 σ1) (h9 : S9_falses sq wi r x9 r1) : SimG wN1 wV1 M1 σ1 r1 := by
  obtain ⟨H, X⟩ := H
  have hp := pH_falses hI hV hR H h8 h9
  refine ⟨hp, ?_⟩
  obtain ⟨many, vW, vIW, vK, vZ, vM, vS, vCt, vC, vRow, vB, vL, vLC, vRe, vR⟩ := r
  obtain ⟨-, rfl, rfl, rfl, rfl⟩ := h8
  obtain ⟨z, -, -, rfl⟩ := h9
  exact X
theorem qG_falseOne {wN wN1 : Nat → Nat} {wV wV1 : Nat → Nat → Int64} {M M1 : Nat} {σ σ1 : Nat → SlT} {r r1 : RT} {sq : Int32} {wi : Int32} {i : Int32} {x8 x9 : Int64} (hI : RIY r) (hV : ∀ j, j < M → SVs (σ j)) (hR : WRs wN wV) (H : SimG wN wV M σ r) (h8 : T8_falseOne sq wi i wN wV M σ x8 wN1 wV1 M1 σ1) (h9 : S9_falseOne sq wi i r x9 r1) : SimG wN1 wV1 M1 σ1 r1 := by
  obtain ⟨H, X⟩ := H
  have hp := pH_falseOne hI hV hR H h8 h9
  refine ⟨hp, ?_⟩
  obtain ⟨many, vW, vIW, vK, vZ, vM, vS, vCt, vC, vRow, vB, vL, vLC, vRe, vR⟩ := r
  obtain ⟨-, rfl, rfl, rfl, rfl⟩ := h8
  obtain ⟨z, -, -, rfl⟩ := h9
  exact X
theorem qG_missed {wN wN1 : Nat → Nat} {wV wV1 : Nat → Nat → Int64} {M M1 : Nat} {σ σ1 : Nat → SlT} {r r1 : RT} {sq : Int32} {x8 x9 : Int32} (hI : RIY r) (hV : ∀ j, j < M → SVs (σ j)) (hR : WRs wN wV) (H : SimG wN wV M σ r) (h8 : T8_missed sq wN wV M σ x8 wN1 wV1 M1 σ1) (h9 : S9_missed sq r x9 r1) : SimG wN1 wV1 M1 σ1 r1 := by
  obtain ⟨H, X⟩ := H
  have hp := pH_missed hI hV hR H h8 h9
  refine ⟨hp, ?_⟩
  obtain ⟨many, vW, vIW, vK, vZ, vM, vS, vCt, vC, vRow, vB, vL, vLC, vRe, vR⟩ := r
  obtain ⟨-, rfl, rfl, rfl, rfl⟩ := h8
  obtain ⟨z, -, -, rfl⟩ := h9
  exact X
theorem qG_about {wN wN1 : Nat → Nat} {wV wV1 : Nat → Nat → Int64} {M M1 : Nat} {σ σ1 : Nat → SlT} {r r1 : RT} {sq : Int32} {wh : Int32} {x8 x9 : Int32} (hI : RIY r) (hV : ∀ j, j < M → SVs (σ j)) (hR : WRs wN wV) (H : SimG wN wV M σ r) (h8 : T8_about sq wh wN wV M σ x8 wN1 wV1 M1 σ1) (h9 : S9_about sq wh r x9 r1) : SimG wN1 wV1 M1 σ1 r1 := by
  obtain ⟨H, X⟩ := H
  have hp := pH_about hI hV hR H h8 h9
  refine ⟨hp, ?_⟩
  obtain ⟨many, vW, vIW, vK, vZ, vM, vS, vCt, vC, vRow, vB, vL, vLC, vRe, vR⟩ := r
  obtain ⟨-, rfl, rfl, rfl, rfl⟩ := h8
  obtain ⟨z, -, -, rfl⟩ := h9
  exact X
theorem qG_cell {wN wN1 : Nat → Nat} {wV wV1 : Nat → Nat → Int64} {M M1 : Nat} {σ σ1 : Nat → SlT} {r r1 : RT} {sq : Int32} {i : Int32} {x8 x9 : Int32} (hI : RIY r) (hV : ∀ j, j < M → SVs (σ j)) (hR : WRs wN wV) (H : SimG wN wV M σ r) (h8 : T8_cell sq i wN wV M σ x8 wN1 wV1 M1 σ1) (h9 : S9_cell sq i r x9 r1) : SimG wN1 wV1 M1 σ1 r1 := by
  obtain ⟨H, X⟩ := H
  have hp := pH_cell hI hV hR H h8 h9
  refine ⟨hp, ?_⟩
  obtain ⟨many, vW, vIW, vK, vZ, vM, vS, vCt, vC, vRow, vB, vL, vLC, vRe, vR⟩ := r
  obtain ⟨-, rfl, rfl, rfl, rfl⟩ := h8
  obtain ⟨z, -, -, rfl⟩ := h9
  exact X
theorem qG_layer {wN wN1 : Nat → Nat} {wV wV1 : Nat → Nat → Int64} {M M1 : Nat} {σ σ1 : Nat → SlT} {r r1 : RT} {sq : Int32} {i : Int32} {wh : Int32} {x8 x9 : Int32} (hI : RIY r) (hV : ∀ j, j < M → SVs (σ j)) (hR : WRs wN wV) (H : SimG wN wV M σ r) (h8 : T8_layer sq i wh wN wV M σ x8 wN1 wV1 M1 σ1) (h9 : S9_layer sq i wh r x9 r1) : SimG wN1 wV1 M1 σ1 r1 := by
  obtain ⟨H, X⟩ := H
  have hp := pH_layer hI hV hR H h8 h9
  refine ⟨hp, ?_⟩
  obtain ⟨many, vW, vIW, vK, vZ, vM, vS, vCt, vC, vRow, vB, vL, vLC, vRe, vR⟩ := r
  obtain ⟨-, rfl, rfl, rfl, rfl⟩ := h8
  obtain ⟨z, -, -, rfl⟩ := h9
  exact X
theorem qG_mark {wN wN1 : Nat → Nat} {wV wV1 : Nat → Nat → Int64} {M M1 : Nat} {σ σ1 : Nat → SlT} {r r1 : RT} {sq : Int32} {t : Int64} {jm : Int32} {x8 x9 : Int32} (hI : RIY r) (hV : ∀ j, j < M → SVs (σ j)) (hR : WRs wN wV) (H : SimG wN wV M σ r) (h8 : T8_mark sq t jm wN wV M σ x8 wN1 wV1 M1 σ1) (h9 : S9_mark sq t jm r x9 r1) : x8 = x9 ∧ SimG wN1 wV1 M1 σ1 r1 := by
  obtain ⟨H, X⟩ := H
  have hp := pH_markA hI hV hR H h8 h9
  refine ⟨hp.1, hp.2, ?_⟩
  obtain ⟨many, vW, vIW, vK, vZ, vM, vS, vCt, vC, vRow, vB, vL, vLC, vRe, vR⟩ := r
  obtain ⟨-, rfl, rfl, rfl, rfl⟩ := h8
  obtain ⟨z, -, -, rfl⟩ := h9
  exact X
theorem qG_fewest {wN wN1 : Nat → Nat} {wV wV1 : Nat → Nat → Int64} {M M1 : Nat} {σ σ1 : Nat → SlT} {r r1 : RT} {wi : Int32} {wa : Int32} {mo : Int32} {sd_ : Int32} {x8 x9 : Int32} (hI : RIY r) (hV : ∀ j, j < M → SVs (σ j)) (hR : WRs wN wV) (H : SimG wN wV M σ r) (h8 : T8_fewest wi wa mo sd_ wN wV M σ x8 wN1 wV1 M1 σ1) (h9 : S9_fewest wi wa mo sd_ r x9 r1) : x8 = x9 ∧ SimG wN1 wV1 M1 σ1 r1 := by
  obtain ⟨H, X⟩ := H
  have hp := pH_fewestA hI hV hR H h8 h9
  refine ⟨hp.1, hp.2, ?_⟩
  obtain ⟨many, vW, vIW, vK, vZ, vM, vS, vCt, vC, vRow, vB, vL, vLC, vRe, vR⟩ := r
  obtain ⟨-, rfl, rfl, rfl, rfl⟩ := h8
  obtain ⟨al, z, -, -, rfl⟩ := h9
  exact X
theorem qG_things {wN wN1 : Nat → Nat} {wV wV1 : Nat → Nat → Int64} {M M1 : Nat} {σ σ1 : Nat → SlT} {r r1 : RT} {wi : Int32} {x8 x9 : Int32} (hI : RIY r) (hV : ∀ j, j < M → SVs (σ j)) (hR : WRs wN wV) (H : SimG wN wV M σ r) (h8 : T8_things wi wN wV M σ x8 wN1 wV1 M1 σ1) (h9 : S9_things wi r x9 r1) : x8 = x9 ∧ SimG wN1 wV1 M1 σ1 r1 := by
  obtain ⟨H, X⟩ := H
  have hp := pH_things hI hV hR H h8 h9
  refine ⟨hp.1, hp.2, ?_⟩
  obtain ⟨many, vW, vIW, vK, vZ, vM, vS, vCt, vC, vRow, vB, vL, vLC, vRe, vR⟩ := r
  obtain ⟨-, rfl, rfl, rfl, rfl⟩ := h8
  obtain ⟨z, -, -, rfl⟩ := h9
  exact X
theorem qG_thing {wN wN1 : Nat → Nat} {wV wV1 : Nat → Nat → Int64} {M M1 : Nat} {σ σ1 : Nat → SlT} {r r1 : RT} {wi : Int32} {i : Int32} {x8 x9 : Int64} (hI : RIY r) (hV : ∀ j, j < M → SVs (σ j)) (hR : WRs wN wV) (H : SimG wN wV M σ r) (h8 : T8_thing wi i wN wV M σ x8 wN1 wV1 M1 σ1) (h9 : S9_thing wi i r x9 r1) : x8 = x9 ∧ SimG wN1 wV1 M1 σ1 r1 := by
  obtain ⟨H, X⟩ := H
  have hp := pH_thing hI hV hR H h8 h9
  refine ⟨hp.1, hp.2, ?_⟩
  obtain ⟨many, vW, vIW, vK, vZ, vM, vS, vCt, vC, vRow, vB, vL, vLC, vRe, vR⟩ := r
  obtain ⟨-, rfl, rfl, rfl, rfl⟩ := h8
  obtain ⟨z, -, -, rfl⟩ := h9
  exact X
theorem qG_sieves {wN wN1 : Nat → Nat} {wV wV1 : Nat → Nat → Int64} {M M1 : Nat} {σ σ1 : Nat → SlT} {r r1 : RT}  {x8 x9 : Int32} (hI : RIY r) (hV : ∀ j, j < M → SVs (σ j)) (hR : WRs wN wV) (H : SimG wN wV M σ r) (h8 : T8_sieves  wN wV M σ x8 wN1 wV1 M1 σ1) (h9 : S9_sieves  r x9 r1) : x8 = x9 ∧ SimG wN1 wV1 M1 σ1 r1 := by
  obtain ⟨H, X⟩ := H
  have hp := pH_sieves hI hV hR H h8 h9
  refine ⟨hp.1, hp.2, ?_⟩
  obtain ⟨many, vW, vIW, vK, vZ, vM, vS, vCt, vC, vRow, vB, vL, vLC, vRe, vR⟩ := r
  obtain ⟨-, rfl, rfl, rfl, rfl⟩ := h8
  obtain ⟨z, -, -, rfl⟩ := h9
  exact X
theorem qG_span {wN wN1 : Nat → Nat} {wV wV1 : Nat → Nat → Int64} {M M1 : Nat} {σ σ1 : Nat → SlT} {r r1 : RT} {wi : Int32} {fi : Int64} {st_ : Int32} {nn : Int32} {x8 x9 : Int32} (hI : RIY r) (hV : ∀ j, j < M → SVs (σ j)) (hR : WRs wN wV) (H : SimG wN wV M σ r) (h8 : T8_span wi fi st_ nn wN wV M σ x8 wN1 wV1 M1 σ1) (h9 : S9_span wi fi st_ nn r x9 r1) : x8 = x9 ∧ SimG wN1 wV1 M1 σ1 r1 := by
  obtain ⟨H, X⟩ := H
  have hp := pH_span hI hV hR H h8 h9
  refine ⟨hp.1, hp.2, ?_⟩
  obtain ⟨many, vW, vIW, vK, vZ, vM, vS, vCt, vC, vRow, vB, vL, vLC, vRe, vR⟩ := r
  obtain ⟨-, wa1, wb1, -, rfl, rfl, rfl, rfl⟩ := h8
  obtain ⟨z, -, -, rfl⟩ := h9
  exact X
theorem qG_take {wN wN1 : Nat → Nat} {wV wV1 : Nat → Nat → Int64} {M M1 : Nat} {σ σ1 : Nat → SlT} {r r1 : RT} {wi : Int32} {t : Int64} {x8 x9 : Int32} (hI : RIY r) (hV : ∀ j, j < M → SVs (σ j)) (hR : WRs wN wV) (H : SimG wN wV M σ r) (h8 : T8_take wi t wN wV M σ x8 wN1 wV1 M1 σ1) (h9 : S9_take wi t r x9 r1) : x8 = x9 ∧ SimG wN1 wV1 M1 σ1 r1 := by
  obtain ⟨H, X⟩ := H
  have hp := pH_take hI hV hR H h8 h9
  refine ⟨hp.1, hp.2, ?_⟩
  obtain ⟨many, vW, vIW, vK, vZ, vM, vS, vCt, vC, vRow, vB, vL, vLC, vRe, vR⟩ := r
  obtain ⟨-, wa1, wb1, -, rfl, rfl, rfl, rfl⟩ := h8
  obtain ⟨z, -, -, rfl⟩ := h9
  exact X
theorem qG_remove {wN wN1 : Nat → Nat} {wV wV1 : Nat → Nat → Int64} {M M1 : Nat} {σ σ1 : Nat → SlT} {r r1 : RT}  {x8 x9 : Int32} (hI : RIY r) (hV : ∀ j, j < M → SVs (σ j)) (hR : WRs wN wV) (H : SimG wN wV M σ r) (h8 : T8_remove  wN wV M σ x8 wN1 wV1 M1 σ1) (h9 : S9_remove  r x9 r1) : x8 = x9 ∧ SimG wN1 wV1 M1 σ1 r1 := by
  obtain ⟨H, X⟩ := H
  have hp := pH_remove hI hV hR H h8 h9
  refine ⟨hp.1, hp.2, ?_⟩
  obtain ⟨many, vW, vIW, vK, vZ, vM, vS, vCt, vC, vRow, vB, vL, vLC, vRe, vR⟩ := r
  obtain ⟨z, -, -, rfl⟩ := h9
  rcases h8 with ⟨h0, -, rfl, rfl, rfl, rfl⟩ | ⟨h0, -, rfl, rfl, rfl, rfl⟩
  · exact X
  · exact fun s hs => X s (by omega)
theorem qG_put {wN wN1 : Nat → Nat} {wV wV1 : Nat → Nat → Int64} {M M1 : Nat} {σ σ1 : Nat → SlT} {r r1 : RT} {sq : Int32} {t : Int64} {x8 x9 : Int32} (hI : RIY r) (hV : ∀ j, j < M → SVs (σ j)) (hR : WRs wN wV) (H : SimG wN wV M σ r) (h8 : T8_put sq t wN wV M σ x8 wN1 wV1 M1 σ1) (h9 : S9_put sq t r x9 r1) : x8 = x9 ∧ SimG wN1 wV1 M1 σ1 r1 := by
  obtain ⟨H, X⟩ := H
  have hp := pG_put hI hV hR H X h8 h9
  exact ⟨hp.1, pH_put hI hV hR H h8 h9, hp.2⟩
theorem qG_drop {wN wN1 : Nat → Nat} {wV wV1 : Nat → Nat → Int64} {M M1 : Nat} {σ σ1 : Nat → SlT} {r r1 : RT} {sq : Int32} {t : Int64} {x8 x9 : Int32} (hI : RIY r) (hV : ∀ j, j < M → SVs (σ j)) (hR : WRs wN wV) (H : SimG wN wV M σ r) (h8 : T8_drop sq t wN wV M σ x8 wN1 wV1 M1 σ1) (h9 : S9_drop sq t r x9 r1) : x8 = x9 ∧ SimG wN1 wV1 M1 σ1 r1 := by
  obtain ⟨H, X⟩ := H
  have hp := pG_drop hI hV hR H X h8 h9
  exact ⟨hp.1, pH_drop hI hV hR H h8 h9, hp.2⟩
theorem qG_putAll {wN wN1 : Nat → Nat} {wV wV1 : Nat → Nat → Int64} {M M1 : Nat} {σ σ1 : Nat → SlT} {r r1 : RT} {sq : Int32} {wi : Int32} {x8 x9 : Int32} (hI : RIY r) (hV : ∀ j, j < M → SVs (σ j)) (hR : WRs wN wV) (H : SimG wN wV M σ r) (h8 : T8_putAll sq wi wN wV M σ x8 wN1 wV1 M1 σ1) (h9 : S9_putAll sq wi r x9 r1) : x8 = x9 ∧ SimG wN1 wV1 M1 σ1 r1 := by
  obtain ⟨H, X⟩ := H
  have hp := pG_putAll hI hV hR H X h8 h9
  exact ⟨hp.1, pH_putAll hI hV hR H h8 h9, hp.2⟩
theorem qG_make {wN wN1 : Nat → Nat} {wV wV1 : Nat → Nat → Int64} {M M1 : Nat} {σ σ1 : Nat → SlT} {r r1 : RT} {k0 : Int32} {k1 : Int32} {k2 : Int32} {k3 : Int32} {x8 x9 : Int32} (hI : RIY r) (hV : ∀ j, j < M → SVs (σ j)) (hR : WRs wN wV) (H : SimG wN wV M σ r) (h8 : T8_make k0 k1 k2 k3 wN wV M σ x8 wN1 wV1 M1 σ1) (h9 : S9_make k0 k1 k2 k3 r x9 r1) : x8 = x9 ∧ SimG wN1 wV1 M1 σ1 r1 := by
  obtain ⟨H, X⟩ := H
  have hp := pH_make hI hV hR H h8 h9
  exact ⟨hp.1, hp.2, pG_make H X h8 h9⟩
theorem qG_solve {wN wN1 : Nat → Nat} {wV wV1 : Nat → Nat → Int64} {M M1 : Nat} {σ σ1 : Nat → SlT} {r r1 : RT} {wi : Int32} {sd_ : Int32} {x8 x9 : Int32} (hI : RIY r) (hV : ∀ j, j < M → SVs (σ j)) (hR : WRs wN wV) (H : SimG wN wV M σ r) (h8 : T8_solve wi sd_ wN wV M σ x8 wN1 wV1 M1 σ1) (h9 : S9_solve wi sd_ r x9 r1) : x8 = x9 ∧ SimG wN1 wV1 M1 σ1 r1 := by
  obtain ⟨H, X⟩ := H
  have hp := pH_solve hI hV hR H h8 h9
  exact ⟨hp.1, hp.2, pG_solve hI hV hR H X h8 h9⟩
theorem qG_layered {wN wN1 : Nat → Nat} {wV wV1 : Nat → Nat → Int64} {M M1 : Nat} {σ σ1 : Nat → SlT} {r r1 : RT} {wi : Int32} {wa : Int32} {sd_ : Int32} {x8 x9 : Int32} (hI : RIY r) (hV : ∀ j, j < M → SVs (σ j)) (hR : WRs wN wV) (H : SimG wN wV M σ r) (h8 : T8_layered wi wa sd_ wN wV M σ x8 wN1 wV1 M1 σ1) (h9 : S9_layered wi wa sd_ r x9 r1) : x8 = x9 ∧ SimG wN1 wV1 M1 σ1 r1 := by
  obtain ⟨H, X⟩ := H
  have hp := pH_layered hI hV hR H h8 h9
  exact ⟨hp.1, hp.2, pG_layered hI hV hR H X h8 h9⟩
theorem qG_fold {wN wN1 : Nat → Nat} {wV wV1 : Nat → Nat → Int64} {M M1 : Nat} {σ σ1 : Nat → SlT} {r r1 : RT} {aq : Int32} {x8 x9 : Int32} (hI : RIY r) (hV : ∀ j, j < M → SVs (σ j)) (hR : WRs wN wV) (H : SimG wN wV M σ r) (h8 : T8_fold aq wN wV M σ x8 wN1 wV1 M1 σ1) (h9 : S9_fold aq r x9 r1) : x8 = x9 ∧ SimG wN1 wV1 M1 σ1 r1 := by
  obtain ⟨H, X⟩ := H
  have hp := pH_fold hI hV hR H h8 h9
  exact ⟨hp.1, hp.2, pG_fold hI hV hR H X h8 h9⟩
theorem qG_join {wN wN1 : Nat → Nat} {wV wV1 : Nat → Nat → Int64} {M M1 : Nat} {σ σ1 : Nat → SlT} {r r1 : RT} {ho : Int32} {aq : Int32} {bq : Int32} {x8 x9 : Int32} (hI : RIY r) (hV : ∀ j, j < M → SVs (σ j)) (hR : WRs wN wV) (H : SimG wN wV M σ r) (h8 : T8_join ho aq bq wN wV M σ x8 wN1 wV1 M1 σ1) (h9 : S9_join ho aq bq r x9 r1) : x8 = x9 ∧ SimG wN1 wV1 M1 σ1 r1 := by
  obtain ⟨H, X⟩ := H
  have hp := pH_join hI hV hR H h8 h9
  exact ⟨hp.1, hp.2, pG_join hI hV hR H X h8 h9⟩
def InvG (g : Nat → ClassId) (L : List Nat) (f : Nat → va_E) (x y : Nat) : Prop := ∃ (ρ : Nat → Nat × Nat) (wN : Nat → Nat) (wV : Nat → Nat → Int64) (M : Nat) (σ : Nat → SlT) (r : RT), CfX ρ g L f x wN wV M σ ∧ CfY ρ g L f y r ∧ SimG wN wV M σ r
theorem init_invG {g : Nat → ClassId} {L Lx LP : List Nat} {f : Nat → va_E} {A lb lw B : Nat → Nat} {kf : Nat → Option Nat}
    (hA : ∀ k, k < 23 → A k ∈ L ∧ A k ∈ Lx ∧ A k ∈ LP) (nA : ∀ p, p ∈ prL → A p.1 ≠ A p.2)
    (c0 : f (A 0) = .inr (6, [.ref (A 1), .ref (A 2), .ref (A 3), .ref (A 5), .ref (A 7), .ref (A 9), .ref (A 18), .int 0])) (c1 : f (A 1) = .inl (g 3, 8, .inr (.inr (.inr (.inr kf))))) (c2 : f (A 2) = .inl (g 5, 30, .inr (.inr (.inr (.inr (fun _ => none)))))) (cS : ∀ k, k < 23 → 3 ≤ k → Sh g A (f (A k)) k)
    (hW : ∀ j, j < 8 → kf j = some (lb j) ∧ lb j ∈ L ∧ f (lb j) = .inr (0, [.ref (lw j), .int 0]) ∧ lw j ∈ L ∧ f (lw j) = .inl (g 1, 1000, .inr (.inl (fun _ => 0))) ∧ lb j ∉ LP ∧ lw j ∉ LP ∧ lb j ∈ Lx ∧ lw j ∈ Lx) (hWW : ∀ j k, j < 8 → k < 8 → j ≠ k → lb j ≠ lb k ∧ lw j ≠ lw k)
    (hB : ∀ k, k < 24 → k ≠ 15 → B k ∈ L ∧ B k ∉ Lx) (iB : ∀ i j, (i < 24 ∧ i ≠ 15) → (j < 24 ∧ j ≠ 15) → B i = B j → i = j) (cB : RCY g f B (0, fun _ => 0, fun _ => 0, fun _ => 0, fun _ => 0, fun _ => 0, fun _ => 0, fun _ => 0, fun _ => 0, fun _ => 0, fun _ => 0, fun _ => 0, fun _ => 0, fun _ => 0, fun _ => 0)) : InvG g L f (A 0) (B 0) := by
  have tA : ∀ k, k < 23 → some (tgE (f (A k))) = tgL[k]? := by
    refine all23 (by rw [c0]; rfl) (by rw [c1]; rfl) (by rw [c2]; rfl) (by obtain ⟨_, e⟩ := cS 3 (by decide) (by decide); rw [e]; rfl) (by obtain ⟨_, e⟩ := cS 4 (by decide) (by decide); rw [e]; rfl) (by obtain ⟨_, e⟩ := cS 5 (by decide) (by decide); rw [e]; rfl) (by obtain ⟨_, e⟩ := cS 6 (by decide) (by decide); rw [e]; rfl) (by obtain ⟨_, e⟩ := cS 7 (by decide) (by decide); rw [e]; rfl) (by obtain ⟨_, e⟩ := cS 8 (by decide) (by decide); rw [e]; rfl) (by obtain ⟨_, _, e⟩ := cS 9 (by decide) (by decide); rw [e]; rfl) (by obtain ⟨_, e⟩ := cS 10 (by decide) (by decide); rw [e]; rfl) (by obtain ⟨_, e⟩ := cS 11 (by decide) (by decide); rw [e]; rfl) (by obtain ⟨_, e⟩ := cS 12 (by decide) (by decide); rw [e]; rfl) (by obtain ⟨_, e⟩ := cS 13 (by decide) (by decide); rw [e]; rfl) (by obtain ⟨_, e⟩ := cS 14 (by decide) (by decide); rw [e]; rfl) (by obtain ⟨_, e⟩ := cS 15 (by decide) (by decide); rw [e]; rfl) (by obtain ⟨_, e⟩ := cS 16 (by decide) (by decide); rw [e]; rfl) (by obtain ⟨_, e⟩ := cS 17 (by decide) (by decide); rw [e]; rfl) (by obtain ⟨_, _, e⟩ := cS 18 (by decide) (by decide); rw [e]; rfl) (by obtain ⟨_, e⟩ := cS 19 (by decide) (by decide); rw [e]; rfl) (by obtain ⟨_, e⟩ := cS 20 (by decide) (by decide); rw [e]; rfl) (by obtain ⟨_, e⟩ := cS 21 (by decide) (by decide); rw [e]; rfl) (by obtain ⟨_, e⟩ := cS 22 (by decide) (by decide); rw [e]; rfl)
  have iA0 : ∀ i j, i < 23 → j < 23 → i < j → A i ≠ A j := fun i j hi hj hij e => nA (i, j) (prL_ok i hi j hj hij (by rw [← tA i hi, ← tA j hj, e])) e
  have iA : ∀ i j, i < 23 → j < 23 → A i = A j → i = j := fun i j hi hj e => by
    rcases Nat.lt_trichotomy i j with q | q | q
    · exact absurd e (iA0 i j hi hj q)
    · exact q
    · exact absurd e.symm (iA0 j i hj hi q)
  have kW : ∀ i j, i < 8 → j < 8 → lb i ≠ lw j := fun i j hi hj => ne_ir (hW j hj).2.2.2.2.1 (hW i hi).2.2.1
  have rA : ∀ k, k < 23 → rho0 A lb lw B (A k) = (0, k) := fun k hk => rho0_A iA hk
  have rW : ∀ j, j < 8 → rho0 A lb lw B (lb j) = (1 + 2 * j, 0) ∧ rho0 A lb lw B (lw j) = (1 + 2 * j, 0) := fun j hj => rho0_W (A := A) (lb := lb) (lw := lw) (B := B) (fun j hj k hk => ⟨fun e => (hW j hj).2.2.2.2.2.1 (e ▸ (hA k hk).2.2), fun e => (hW j hj).2.2.2.2.2.2.1 (e ▸ (hA k hk).2.2)⟩) (fun i j hi hj e => Decidable.byContradiction (fun h => e.elim (hWW i j hi hj h).1 (fun q => kW j i hj hi q.symm))) (fun i j hi hj e => Decidable.byContradiction (fun h => e.elim (kW i j hi hj) (hWW i j hi hj h).2)) hj
  have rB : ∀ k, k < 24 → k ≠ 15 → rho0 A lb lw B (B k) = (500, k) := fun k hk h15 => rho0_B (A := A) (lb := lb) (lw := lw) (B := B) (fun k hk h15 i hi e => (hB k hk h15).2 (e ▸ (hA i hi).2.1)) (fun k hk h15 j hj => ⟨fun e => (hB k hk h15).2 (e ▸ (hW j hj).2.2.2.2.2.2.2.1), fun e => (hB k hk h15).2 (e ▸ (hW j hj).2.2.2.2.2.2.2.2)⟩) iB hk h15
  have R0 : RI 0 (fun _ => 0) (fun _ => 0) (fun _ => 0) (fun _ => 0) (fun _ => 0) (fun _ => 0) (fun _ => 0) := ⟨⟨0, by decide, rfl, fun s hs => absurd hs (Nat.not_lt_zero s)⟩, fun j _ => ⟨0, by decide, rfl⟩⟩
  have W0 : WY (fun _ => 0) (fun _ => 0) := fun j _ => ⟨0, by decide, rfl, fun i k _ hk => absurd hk (Nat.not_lt_zero k)⟩
  refine ⟨rho0 A lb lw B, fun _ => 0, fun _ _ => 0, 0, fun _ => (0, 0, 0, 0, fun _ => 0, 0, fun _ => 0, L00), _, ⟨A, lb, lw, kf, fun _ => none, rfl, by decide, ⟨fun k hk => ⟨(hA k hk).1, rA k hk⟩, c0, c1, c2, fun k h3 h23 => cS k h23 h3⟩, fun j hj => ?_, fun j hj => ⟨fun q => absurd q (Nat.not_lt_zero j), fun _ => Or.inl rfl⟩⟩, ⟨B, rfl, fun k hk h15 => ⟨(hB k hk h15).1, rB k hk h15⟩, cB, R0, W0⟩, ⟨⟨rfl, by decide, fun j hj => ⟨rfl, fun k hk => absurd hk (Nat.not_lt_zero k)⟩, fun s hs => absurd hs (Nat.not_lt_zero s)⟩, fun s hs => absurd hs (Nat.not_lt_zero s)⟩⟩
  obtain ⟨h1, h2, h3, h4, h5, -⟩ := hW j hj
  exact ⟨h1, h2, (rW j hj).1, h3, h4, (rW j hj).2, h5, Nat.zero_le _, fun i k _ hk => absurd hk (Nat.not_lt_zero k)⟩
