/-! ===== the two states together ===== -/
theorem Own_fr {ρ : Nat → Nat × Nat} {g : Nat → ClassId} {L : List Nat} {f f1 : Nat → va_E} {A : Nat → Nat} {M : Nat} {wf sf : Nat → Option Nat} (F : ∀ b, b ∈ L → (ρ b).1 ≠ 500 → f1 b = f b) (h : Own ρ g L f A M wf sf) : Own ρ g L f1 A M wf sf := by
  obtain ⟨o, o0, o1, o2, oS⟩ := h
  have G : ∀ k, k < 23 → f1 (A k) = f (A k) := fun k hk => F _ (o k hk).1 (by rw [(o k hk).2]; show (0 : Nat) ≠ 500; decide)
  refine ⟨o, (G 0 (by decide)).trans o0, (G 1 (by decide)).trans o1, (G 2 (by decide)).trans o2, fun k h3 h23 => ?_⟩
  rw [G k h23]
  exact oS k h3 h23
theorem n5w {j : Nat} {r : Nat × Nat} (e : r = (1 + 2 * j, 0)) : r.1 ≠ 500 := by
  subst e
  show 1 + 2 * j ≠ 500
  omega
theorem n5s {j : Nat} (h : j < 30) {r : Nat × Nat} (e : r = (2 + 2 * j, 0)) : r.1 ≠ 500 := by
  subst e
  show 2 + 2 * j ≠ 500
  omega
theorem Cf_fr {ρ : Nat → Nat × Nat} {g : Nat → ClassId} {L : List Nat} {f f1 : Nat → va_E} {xb : Nat} {wN : Nat → Nat} {wV : Nat → Nat → Int64} (F : ∀ b, b ∈ L → (ρ b).1 ≠ 500 → f1 b = f b) (h : Cf ρ g L f xb wN wV) : Cf ρ g L f1 xb wN wV := by
  obtain ⟨A, WA, WR, M, wf, sf, h0, hM, hO, hW, hS⟩ := h
  refine ⟨A, WA, WR, M, wf, sf, h0, hM, Own_fr F hO, fun j hj => ⟨(hW j hj).1, Wd_fr (fun _ h => ⟨h, rfl⟩) (fun b hb hr => F b hb (n5w hr)) (hW j hj).2⟩, fun j hj => ?_⟩
  rcases hS j hj with q | ⟨h, q1, q2⟩
  · exact Or.inl q
  · exact Or.inr ⟨h, q1, Sv_fr (fun _ h => ⟨h, rfl⟩) (fun b hb hr => F b hb (n5s hj hr)) q2⟩
def Inv (g : Nat → ClassId) (L : List Nat) (f : Nat → va_E) (x y : Nat) : Prop := ∃ (ρ : Nat → Nat × Nat) (wN : Nat → Nat) (wV : Nat → Nat → Int64) (vW : Nat → Int64) (vIW : Nat → Int32), Cf ρ g L f x wN wV ∧ CfR ρ g L f y vW vIW ∧ Lk wN wV vW vIW
theorem after8 {ρ : Nat → Nat × Nat} {g : Nat → ClassId} {L L1 : List Nat} {f f1 : Nat → va_E} {x y : Nat} {wN : Nat → Nat} {wV : Nat → Nat → Int64} {vW : Nat → Int64} {vIW : Nat → Int32} (R : CfR ρ g L f y vW vIW) (h : Res ρ g L f x wN wV L1 f1) : ∃ ρ1, Cf ρ1 g L1 f1 x wN wV ∧ CfR ρ1 g L1 f1 y vW vIW := by
  obtain ⟨ρ1, hL, h5, C⟩ := h
  exact ⟨ρ1, C, CfR_fr hL h5 R⟩
theorem after9 {ρ : Nat → Nat × Nat} {g : Nat → ClassId} {L L1 : List Nat} {f f1 : Nat → va_E} {x y : Nat} {wN : Nat → Nat} {wV : Nat → Nat → Int64} {P : (Nat → Int64) → (Nat → Int32) → Prop} (C : Cf ρ g L f x wN wV) (h : ResR ρ g L f y P L1 f1) : ∃ vW1 vIW1, P vW1 vIW1 ∧ Cf ρ g L1 f1 x wN wV ∧ CfR ρ g L1 f1 y vW1 vIW1 := by
  obtain ⟨eL, hF, vW1, vIW1, hP, R⟩ := h
  subst eL
  exact ⟨vW1, vIW1, hP, Cf_fr hF C, R⟩
theorem Cf_x {ρ : Nat → Nat × Nat} {g : Nat → ClassId} {L : List Nat} {f : Nat → va_E} {x : Nat} {wN : Nat → Nat} {wV : Nat → Nat → Int64} (C : Cf ρ g L f x wN wV) : ∃ fs, x ∈ L ∧ f x = .inr (6, fs) := by
  obtain ⟨A, WA, WR, M, wf, sf, h0, hM, ⟨o, o0, -⟩, -⟩ := C
  subst h0
  exact ⟨_, (o 0 (by decide)).1, o0⟩
theorem CfR_y {ρ : Nat → Nat × Nat} {g : Nat → ClassId} {L : List Nat} {f : Nat → va_E} {y : Nat} {vW : Nat → Int64} {vIW : Nat → Int32} (C : CfR ρ g L f y vW vIW) : ∃ fs, y ∈ L ∧ f y = .inr (7, fs) := by
  obtain ⟨B, many, vK, vZ, vM, vC, vR, vL, h0, hB, ⟨c0, -⟩, -⟩ := C
  subst h0
  exact ⟨_, (hB 0 (by decide) (by decide)).1, c0⟩
theorem Cf_R {ρ : Nat → Nat × Nat} {g : Nat → ClassId} {L : List Nat} {f : Nat → va_E} {x : Nat} {wN : Nat → Nat} {wV : Nat → Nat → Int64} (C : Cf ρ g L f x wN wV) : WRs wN wV := by
  obtain ⟨A, WA, WR, M, wf, sf, h0, hM, hO, hW, hS⟩ := C
  intro j hj
  obtain ⟨-, -, -, -, -, -, -, h7, h8⟩ := hW j hj
  exact ⟨h7, h8⟩
theorem wOf_fr {vW a : Nat → Int64} {i j : Nat} (hij : i ≠ j) (h : ∀ q, (q < 1000 * j ∨ 1000 * j + 1000 ≤ q) → a q = vW q) {k : Nat} (hk : k < 1000) : wOf a i k = wOf vW i k := by
  unfold wOf
  exact h _ (by omega)
theorem span_link {wN wN1 : Nat → Nat} {wV wV1 : Nat → Nat → Int64} {vW vW1 : Nat → Int64} {vIW vIW1 : Nat → Int32} {wi : Int32} {fi : Int64} {st_ nn : Int32} (hK : Lk wN wV vW vIW) (hR : WRs wN wV) (h8 : SpC wi fi st_ nn wN wV wN1 wV1) (h9 : SpRP wN wV wi fi st_ nn vW vIW vW1 vIW1) : Lk wN1 wV1 vW1 vIW1 := by
  rcases h8 with ⟨q, e1, e2⟩ | ⟨j, hj, ej, ho, hs⟩
  · subst e1 e2
    rcases h9 with ⟨-, e1, e2⟩ | ⟨j, hj, ej, -⟩
    · subst e1 e2; exact hK
    · subst ej
      rw [isW1 hj] at q
      exact absurd q (by decide)
  · rcases h9 with ⟨q, -⟩ | ⟨j', hj', ej', hF, m, hm, hs'⟩
    · subst ej
      rw [isW1 hj] at q
      exact absurd q (by decide)
    · obtain rfl : j = j' := (nI_eq (by omega) (by omega)).mp (ej.symm.trans ej')
      obtain ⟨d1, d2⟩ := SpR_det hs hs'
      intro i hi
      by_cases hij : i = j
      · subst hij
        exact ⟨by rw [hm, d1], AG_s d2⟩
      · rw [(ho i hij).1, (ho i hij).2, hF.1 i hij]
        exact ⟨(hK i hi).1, fun k hk => (wOf_fr hij hF.2 (Nat.lt_of_lt_of_le hk (hR i hi).1)).trans ((hK i hi).2 k hk)⟩
theorem take_link {wN wN1 : Nat → Nat} {wV wV1 : Nat → Nat → Int64} {vW vW1 : Nat → Int64} {vIW vIW1 : Nat → Int32} {wi : Int32} {t : Int64} (hK : Lk wN wV vW vIW) (hR : WRs wN wV) (h8 : TkC wi t wN wV wN1 wV1) (h9 : TkRP wN wV wi t vW vIW vW1 vIW1) : Lk wN1 wV1 vW1 vIW1 := by
  rcases h8 with ⟨q, e1, e2⟩ | ⟨j, hj, ej, ho, hs⟩
  · subst e1 e2
    rcases h9 with ⟨-, e1, e2⟩ | ⟨j, hj, ej, -⟩
    · subst e1 e2; exact hK
    · subst ej
      rw [isW1 hj] at q
      exact absurd q (by decide)
  · rcases h9 with ⟨q, -⟩ | ⟨j', hj', ej', hF, m, hm, hs'⟩
    · subst ej
      rw [isW1 hj] at q
      exact absurd q (by decide)
    · obtain rfl : j = j' := (nI_eq (by omega) (by omega)).mp (ej.symm.trans ej')
      obtain ⟨d1, d2⟩ := TkR_det (hR j hj).2 hs hs'
      intro i hi
      by_cases hij : i = j
      · subst hij
        exact ⟨by rw [hm, d1], AG_s d2⟩
      · rw [(ho i hij).1, (ho i hij).2, hF.1 i hij]
        exact ⟨(hK i hi).1, fun k hk => (wOf_fr hij hF.2 (Nat.lt_of_lt_of_le hk (hR i hi).1)).trans ((hK i hi).2 k hk)⟩
theorem things_link {wN : Nat → Nat} {wV : Nat → Nat → Int64} {vW : Nat → Int64} {vIW : Nat → Int32} (hK : Lk wN wV vW vIW) {wi r1 r2 : Int32} (h8 : AnW (-1) wi (fun j x => x = nI (wN j)) r1) (h9 : AnW (-1) wi (fun j x => x = vIW j) r2) : r1 = r2 := AnW_det (fun j r r' hj e e' => by rw [e, e', (hK j hj).1]) h8 h9
theorem thing_link {wN : Nat → Nat} {wV : Nat → Nat → Int64} {vW : Nat → Int64} {vIW : Nat → Int32} (hK : Lk wN wV vW vIW) (hR : WRs wN wV) {wi i : Int32} {r1 r2 : Int64} (h8 : AnW 0 wi (fun j x => ThA (wN j) (wV j) i x) r1) (h9 : AnW 0 wi (fun j x => (i < 0 → x = 0) ∧ (¬ i < 0 → vIW j ≤ i → x = 0) ∧ (∀ k, k < 1000 → i = nI k → ¬ vIW j ≤ i → x = wOf vW j k)) r2) : r1 = r2 := by
  refine AnW_det (fun j r r' hj e e' => ?_) h8 h9
  obtain ⟨e1, e2, e3⟩ := e'
  unfold ThA at e
  rw [(hK j hj).1] at e2 e3
  by_cases h0 : i < 0
  · rw [e, if_neg (fun q => q.1 h0), e1 h0]
  · by_cases h1 : nI (wN j) ≤ i
    · rw [e, if_neg (fun q => q.2 h1), e2 h0 h1]
    · obtain ⟨k, hk, rfl⟩ := nI_of h0
      have hn := (hR j hj).1
      have hkn : k < wN j := Nat.lt_of_not_le (fun q => h1 (nI_le q hk))
      rw [e, if_pos ⟨h0, h1⟩, e3 k (by omega) rfl h1, clN hk]
      exact ((hK j hj).2 k hkn).symm
theorem span_ans {wN : Nat → Nat} {wV : Nat → Nat → Int64} {wi : Int32} {fi : Int64} {st nn r1 r2 : Int32} (h8 : AnW (-1) wi (fun j x => SpA (wN j) (wV j) fi st nn x) r1) (h9 : AnW (-1) wi (fun j x => SpA (wN j) (wV j) fi st nn x) r2) : r1 = r2 := by
  refine AnW_det ?_ h8 h9
  exact fun _ _ _ _ e e' => SpA_det e e'
theorem take_ans {wN : Nat → Nat} {wV : Nat → Nat → Int64} {wi : Int32} {t : Int64} {r1 r2 : Int32} (h8 : AnW (-1) wi (fun j x => TkA (wN j) (wV j) t x) r1) (h9 : AnW (-1) wi (fun j x => TkA (wN j) (wV j) t x) r2) : r1 = r2 := by
  refine AnW_det ?_ h8 h9
  exact fun _ _ _ _ e e' => TkA_det e e'
/-! ===== roles at the start ===== -/
noncomputable def rho0 (A lb lw B : Nat → Nat) (b : Nat) : Nat × Nat :=
  @dite _ (∃ k, k < 23 ∧ A k = b) (Classical.propDecidable _) (fun h => (0, h.choose)) (fun _ => @dite _ (∃ j, j < 8 ∧ (lb j = b ∨ lw j = b)) (Classical.propDecidable _) (fun h => (1 + 2 * h.choose, 0)) (fun _ => @dite _ (∃ k, (k < 24 ∧ k ≠ 15) ∧ B k = b) (Classical.propDecidable _) (fun h => (500, h.choose)) (fun _ => (1000, 0))))
section Rho
variable {A lb lw B : Nat → Nat}
theorem rho0_A (hA : ∀ i j, i < 23 → j < 23 → A i = A j → i = j) {k : Nat} (hk : k < 23) : rho0 A lb lw B (A k) = (0, k) := by
  have h : ∃ i, i < 23 ∧ A i = A k := ⟨k, hk, rfl⟩
  unfold rho0
  rw [dif_pos h]
  exact congrArg (fun q => (0, q)) (hA _ _ h.choose_spec.1 hk h.choose_spec.2)
theorem rho0_W (hWA : ∀ j, j < 8 → ∀ k, k < 23 → A k ≠ lb j ∧ A k ≠ lw j) (hWW : ∀ i j, i < 8 → j < 8 → (lb i = lb j ∨ lw i = lb j) → i = j) (hWW2 : ∀ i j, i < 8 → j < 8 → (lb i = lw j ∨ lw i = lw j) → i = j) {j : Nat} (hj : j < 8) : rho0 A lb lw B (lb j) = (1 + 2 * j, 0) ∧ rho0 A lb lw B (lw j) = (1 + 2 * j, 0) := by
  constructor
  · have h : ∃ i, i < 8 ∧ (lb i = lb j ∨ lw i = lb j) := ⟨j, hj, Or.inl rfl⟩
    unfold rho0
    rw [dif_neg (fun ⟨k, hk, e⟩ => (hWA j hj k hk).1 e), dif_pos h]
    exact congrArg (fun q => (1 + 2 * q, 0)) (hWW _ _ h.choose_spec.1 hj h.choose_spec.2)
  · have h : ∃ i, i < 8 ∧ (lb i = lw j ∨ lw i = lw j) := ⟨j, hj, Or.inr rfl⟩
    unfold rho0
    rw [dif_neg (fun ⟨k, hk, e⟩ => (hWA j hj k hk).2 e), dif_pos h]
    exact congrArg (fun q => (1 + 2 * q, 0)) (hWW2 _ _ h.choose_spec.1 hj h.choose_spec.2)
theorem rho0_B (hBA : ∀ k, k < 24 → k ≠ 15 → ∀ i, i < 23 → A i ≠ B k) (hBW : ∀ k, k < 24 → k ≠ 15 → ∀ j, j < 8 → lb j ≠ B k ∧ lw j ≠ B k) (hB : ∀ i j, (i < 24 ∧ i ≠ 15) → (j < 24 ∧ j ≠ 15) → B i = B j → i = j) {k : Nat} (hk : k < 24) (h15 : k ≠ 15) : rho0 A lb lw B (B k) = (500, k) := by
  have h : ∃ i, (i < 24 ∧ i ≠ 15) ∧ B i = B k := ⟨k, ⟨hk, h15⟩, rfl⟩
  unfold rho0
  rw [dif_neg (fun ⟨i, hi, e⟩ => hBA k hk h15 i hi e), dif_neg (fun ⟨j, hj, e⟩ => e.elim (hBW k hk h15 j hj).1 (hBW k hk h15 j hj).2), dif_pos h]
  exact congrArg (fun q => (500, q)) (hB _ _ h.choose_spec.1 ⟨hk, h15⟩ h.choose_spec.2)
end Rho
/-- a cell's kind, to tell cells apart -/
def tgE : va_E → Nat × Nat
  | .inr (c, _) => (0, c)
  | .inl (_, n, .inl _) => (1, n)
  | .inl (_, n, .inr _) => (2, n)
theorem tg_ne {f : Nat → va_E} {a b : Nat} {i j : Nat × Nat} (ha : tgE (f a) = i) (hb : tgE (f b) = j) (h : i ≠ j) : a ≠ b := fun e => h (by rw [← ha, ← hb, e])
