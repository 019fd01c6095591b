/-! ===== the class's whole state, exact ===== -/
abbrev LayT : Type := Int32 × Int32 × (Nat → Int32) × Int32 × (Nat → Int64) × (Nat → Int32) × (Nat → Nat → Int64)
abbrev SlT : Type := Int32 × Int32 × Int32 × Int32 × (Nat → Int32) × Int32 × (Nat → Int64) × LayT
def LYX (ρ : Nat → Nat × Nat) (g : Nat → ClassId) (L : List Nat) (f : Nat → va_E) (j co cr : Nat) (lay : Value) : LayT → Prop := fun (lc, lsd, kca, rn, rv, lz, ld) =>
  ∃ (la ro ca re rr : Nat) (rf : Nat → Option Nat) (lb lw : Nat → Nat),
    lay = .ref la ∧ (la ∈ L ∧ ρ la = (2 + 2 * j, 0) ∧ f la = .inr (3, [.ref ro, .ref ca, .ref re, .int lc, .int lsd])) ∧ (ro ∈ L ∧ ρ ro = (2 + 2 * j, 0) ∧ f ro = .inl (g 4, 20, .inr (.inr (.inr (.inr rf))))) ∧ (ca ∈ L ∧ ρ ca = (2 + 2 * j, 0) ∧ f ca = .inl (g 0, 20, .inl kca)) ∧ (re ∈ L ∧ ρ re = (2 + 2 * j, 0) ∧ f re = .inr (0, [.ref rr, .int rn])) ∧ (rr ∈ L ∧ ρ rr = (2 + 2 * j, 0) ∧ f rr = .inl (g 1, 1000, .inr (.inl rv))) ∧ co ≠ re ∧ cr ≠ rr ∧ LF g L f rf lb lw lz ld ∧ LD lb lw ∧ (∀ i, i < 20 → ρ (lb i) = (2 + 2 * j, 0) ∧ ρ (lw i) = (2 + 2 * j, 0)) ∧ LN lc rn lz
theorem LYX_LY {ρ : Nat → Nat × Nat} {g : Nat → ClassId} {L : List Nat} {f : Nat → va_E} {j co cr : Nat} {lay : Value} {τ : LayT} (h : LYX ρ g L f j co cr lay τ) : LY ρ g L f j co cr lay := by
  obtain ⟨lc, lsd, kca, rn, rv, lz, ld⟩ := τ
  obtain ⟨la, ro, ca, re, rr, rf, lb, lw, h⟩ := h
  exact ⟨la, ro, ca, re, rr, lc, lsd, rf, kca, rn, rv, lb, lw, lz, ld, h⟩
theorem LY_LYX {ρ : Nat → Nat × Nat} {g : Nat → ClassId} {L : List Nat} {f : Nat → va_E} {j co cr : Nat} {lay : Value} (h : LY ρ g L f j co cr lay) : ∃ τ, LYX ρ g L f j co cr lay τ := by
  obtain ⟨la, ro, ca, re, rr, lc, lsd, rf, kca, rn, rv, lb, lw, lz, ld, h⟩ := h
  exact ⟨(lc, lsd, kca, rn, rv, lz, ld), la, ro, ca, re, rr, rf, lb, lw, h⟩
/-- the layers of a slot: none, hidden, or just these -/
def LyS (ρ : Nat → Nat × Nat) (g : Nat → ClassId) (L : List Nat) (f : Nat → va_E) (j co cr : Nat) (lay : Value) (kd : Int32) (τ : LayT) : Prop := (lay = .null ∧ ¬ kd = 4) ∨ ∃ τ', LYX ρ g L f j co cr lay τ' ∧ (kd = 4 → τ' = τ)
def SvX (ρ : Nat → Nat × Nat) (g : Nat → ClassId) (L : List Nat) (f : Nat → va_E) (j h : Nat) : SlT → Prop := fun (kd, sz, mk1, sd, kc, n, v, τ) =>
  ∃ (ce co cr : Nat) (lay : Value),
    (h ∈ L ∧ ρ h = (2 + 2 * j, 0) ∧ f h = .inr (4, [.ref ce, .ref co, lay, .int kd, .int sz, .int mk1, .int sd])) ∧ (ce ∈ L ∧ ρ ce = (2 + 2 * j, 0) ∧ f ce = .inl (g 0, 4096, .inl kc)) ∧ (co ∈ L ∧ ρ co = (2 + 2 * j, 0) ∧ f co = .inr (0, [.ref cr, .int n])) ∧ (cr ∈ L ∧ ρ cr = (2 + 2 * j, 0) ∧ f cr = .inl (g 1, 1000, .inr (.inl v))) ∧ SV kd sz mk1 n ∧ LyS ρ g L f j co cr lay kd τ
theorem SvX_Sv {ρ : Nat → Nat × Nat} {g : Nat → ClassId} {L : List Nat} {f : Nat → va_E} {j h : Nat} {σ : SlT} (H : SvX ρ g L f j h σ) : Sv ρ g L f j h := by
  obtain ⟨kd, sz, mk, sd, kc, n, v, τ⟩ := σ
  obtain ⟨ce, co, cr, lay, h1, h2, h3, h4, h5, h6⟩ := H
  refine ⟨ce, co, cr, lay, kd, sz, mk, sd, kc, n, v, h1, h2, h3, h4, h5, ?_, ?_⟩
  · rcases h6 with ⟨-, q⟩ | ⟨τ', q, -⟩
    · exact fun r => absurd r q
    · obtain ⟨lc, lsd, kca, rn, rv, lz, ld⟩ := τ'
      obtain ⟨la, ro, ca, re, rr, rf, lb, lw, e, -⟩ := q
      rw [e]
      exact fun _ r => Value.noConfusion r
  · rcases h6 with ⟨q, -⟩ | ⟨τ', q, -⟩
    · exact Or.inl q
    · exact Or.inr (LYX_LY q)
def SvsX (ρ : Nat → Nat × Nat) (g : Nat → ClassId) (L : List Nat) (f : Nat → va_E) (sf : Nat → Option Nat) (M : Nat) (σ : Nat → SlT) : Prop := ∀ j, j < 30 → (j < M → ∃ h, sf j = some h ∧ SvX ρ g L f j h (σ j)) ∧ (M ≤ j → sf j = none ∨ ∃ h, sf j = some h ∧ Sv ρ g L f j h)
def CfX (ρ : Nat → Nat × Nat) (g : Nat → ClassId) (L : List Nat) (f : Nat → va_E) (xb : Nat) (wN : Nat → Nat) (wV : Nat → Nat → Int64) (M : Nat) (σ : Nat → SlT) : Prop :=
  ∃ (A WA WR : Nat → Nat) (wf sf : Nat → Option Nat), A 0 = xb ∧ M ≤ 30 ∧ Own ρ g L f A M wf sf ∧ Wds ρ g L f wf WA WR wN wV ∧ SvsX ρ g L f sf M σ
def ResX (ρ : Nat → Nat × Nat) (g : Nat → ClassId) (L : List Nat) (f : Nat → va_E) (xb : Nat) (wN : Nat → Nat) (wV : Nat → Nat → Int64) (M : Nat) (σ : Nat → SlT) (L1 : List Nat) (f1 : Nat → va_E) : Prop :=
  ∃ ρ1 : Nat → Nat × Nat, (∀ b, b ∈ L → b ∈ L1 ∧ ρ1 b = ρ b) ∧ (∀ b, b ∈ L → (ρ b).1 = 500 → f1 b = f b) ∧ CfX ρ1 g L1 f1 xb wN wV M σ
section FramesX
variable {ρ ρ1 : Nat → Nat × Nat} {g : Nat → ClassId} {L L1 : List Nat} {f f1 : Nat → va_E}
theorem LYX_fr (hL : ∀ b, b ∈ L → b ∈ L1 ∧ ρ1 b = ρ b) {j h ce co cr : Nat} {lay : Value} {τ : LayT} (hf : ∀ b, b ∈ L → ρ b = (2 + 2 * j, 0) → b ≠ h → b ≠ ce → b ≠ co → b ≠ cr → f1 b = f b) (H : LYX ρ g L f j co cr lay τ) {q1 q3 : List Value} {q2 q4} (eh : f h = .inr (4, q1)) (ece : f ce = .inl (g 0, 4096, q2)) (eco : f co = .inr (0, q3)) (ecr : f cr = .inl (g 1, 1000, q4)) : LYX ρ1 g L1 f1 j co cr lay τ := by
  obtain ⟨lc, lsd, kca, rn, rv, lz, ld⟩ := τ
  obtain ⟨la, ro, ca, re, rr, rf, lb, lw, e, h1, h2, h3, h4, h5, n1, n2, hF, hD, hr, hN⟩ := H
  have cf : ∀ {b : Nat} {x : va_E}, b ∈ L ∧ ρ b = (2 + 2 * j, 0) ∧ f b = x → b ≠ h → b ≠ ce → b ≠ co → b ≠ cr → b ∈ L1 ∧ ρ1 b = (2 + 2 * j, 0) ∧ f1 b = x := fun {b x} h a1 a2 a c => ⟨(hL b h.1).1, (hL b h.1).2.trans h.2.1, (hf b h.1 h.2.1 a1 a2 a c).trans h.2.2⟩
  refine ⟨la, ro, ca, re, rr, rf, lb, lw, e, cf h1 (ne_rr eh h1.2.2 (by decide)) (ne_ir ece h1.2.2) (ne_rr eco h1.2.2 (by decide)) (ne_ir ecr h1.2.2), cf h2 (ne_ri eh h2.2.2) (ne_len ece h2.2.2 (by decide)) (ne_ri eco h2.2.2) (ne_len ecr h2.2.2 (by decide)), cf h3 (ne_ri eh h3.2.2) (ne_len ece h3.2.2 (by decide)) (ne_ri eco h3.2.2) (ne_len ecr h3.2.2 (by decide)), cf h4 (ne_rr eh h4.2.2 (by decide)) (ne_ir ece h4.2.2) (Ne.symm n1) (ne_ir ecr h4.2.2), cf h5 (ne_ri eh h5.2.2) (ne_len ece h5.2.2 (by decide)) (ne_ri eco h5.2.2) (Ne.symm n2), n1, n2, ?_, hD, fun i hi => ⟨(hL _ (hF i hi).2.1).2.trans (hr i hi).1, (hL _ (hF i hi).2.2.2.1).2.trans (hr i hi).2⟩, hN⟩
  intro i hi
  obtain ⟨k1, k2, k3, k4, k5⟩ := hF i hi
  exact ⟨k1, (hL _ k2).1, (hf _ k2 (hr i hi).1 (ne_rr eh k3 (by decide)) (ne_ir ece k3) (ne_rr eco k3 (by decide)) (ne_ir ecr k3)).trans k3, (hL _ k4).1, (hf _ k4 (hr i hi).2 (ne_ri eh k5) (ne_len ece k5 (by decide)) (ne_ri eco k5) (ne_len ecr k5 (by decide))).trans k5⟩
theorem LyS_fr (hL : ∀ b, b ∈ L → b ∈ L1 ∧ ρ1 b = ρ b) {j h ce co cr : Nat} {lay : Value} {kd kd1 : Int32} {τ : LayT} (hf : ∀ b, b ∈ L → ρ b = (2 + 2 * j, 0) → b ≠ h → b ≠ ce → b ≠ co → b ≠ cr → f1 b = f b) (H : LyS ρ g L f j co cr lay kd τ) {q1 q3 : List Value} {q2 q4} (eh : f h = .inr (4, q1)) (ece : f ce = .inl (g 0, 4096, q2)) (eco : f co = .inr (0, q3)) (ecr : f cr = .inl (g 1, 1000, q4)) (hk : kd1 = 4 → kd = 4) : LyS ρ1 g L1 f1 j co cr lay kd1 τ := by
  rcases H with ⟨q, r⟩ | ⟨τ', q, r⟩
  · exact Or.inl ⟨q, fun w => r (hk w)⟩
  · exact Or.inr ⟨τ', LYX_fr hL hf q eh ece eco ecr, fun w => r (hk w)⟩
/-- .. when the slot gets another sieve that has no layers -/
theorem LyS_new (hL : ∀ b, b ∈ L → b ∈ L1 ∧ ρ1 b = ρ b) {j h ce co cr : Nat} {lay : Value} {kd1 : Int32} {τ : LayT} (hf : ∀ b, b ∈ L → ρ b = (2 + 2 * j, 0) → b ≠ h → b ≠ ce → b ≠ co → b ≠ cr → f1 b = f b) (H : lay = .null ∨ LY ρ g L f j co cr lay) {q1 q3 : List Value} {q2 q4} (eh : f h = .inr (4, q1)) (ece : f ce = .inl (g 0, 4096, q2)) (eco : f co = .inr (0, q3)) (ecr : f cr = .inl (g 1, 1000, q4)) (hk : ¬ kd1 = 4) : LyS ρ1 g L1 f1 j co cr lay kd1 τ := by
  rcases H with q | q
  · exact Or.inl ⟨q, hk⟩
  · obtain ⟨τ', q⟩ := LY_LYX q
    exact Or.inr ⟨τ', LYX_fr hL hf q eh ece eco ecr, fun w => absurd w hk⟩
theorem SvX_fr (hL : ∀ b, b ∈ L → b ∈ L1 ∧ ρ1 b = ρ b) {j h : Nat} {σ : SlT} (hf : ∀ b, b ∈ L → ρ b = (2 + 2 * j, 0) → f1 b = f b) (H : SvX ρ g L f j h σ) : SvX ρ1 g L1 f1 j h σ := by
  obtain ⟨kd, sz, mk, sd, kc, n, v, τ⟩ := σ
  obtain ⟨ce, co, cr, lay, h1, h2, h3, h4, h5, h6⟩ := H
  exact ⟨ce, co, cr, lay, cell_fr hL hf h1, cell_fr hL hf h2, cell_fr hL hf h3, cell_fr hL hf h4, h5, LyS_fr hL (fun b hb hr _ _ _ _ => hf b hb hr) h6 h1.2.2 h2.2.2 h3.2.2 h4.2.2 id⟩
/-- the state after a call, from what it touched -/
theorem CX_up {xb : Nat} {wN wN1 : Nat → Nat} {wV wV1 : Nat → Nat → Int64} {A WA WR : Nat → Nat} {M M1 : Nat} {σ σ1 : Nat → SlT} {wf sf sf1 : Nat → Option Nat} (K : List Nat) (w s : Nat → Prop) (hA : A 0 = xb) (hO : Own ρ g L f A M wf sf) (hW : Wds ρ g L f wf WA WR wN wV) (hS : SvsX ρ g L f sf M σ)
    (hL : ∀ b, b ∈ L → b ∈ L1 ∧ ρ1 b = ρ b) (FT : ∀ b, b ∈ L → ¬ TT K w s (ρ b) → f1 b = f b) (s30 : ∀ j, s j → j < 30) (k1 : 1 ∉ K) (hM : M1 ≤ 30)
    (x0 : f1 (A 0) = .inr (6, [.ref (A 1), .ref (A 2), .ref (A 3), .ref (A 5), .ref (A 7), .ref (A 9), .ref (A 18), .int (nI M1)]))
    (x2 : f1 (A 2) = .inl (g 5, 30, .inr (.inr (.inr (.inr sf1)))))
    (xs : ∀ k, 3 ≤ k → k < 23 → k ∈ K → Sh g A (f1 (A k)) k)
    (xw : ∀ j, j < 8 → w j → Wd ρ1 g L1 f1 j (WA j) (WR j) (wN1 j) (wV1 j)) (yw : ∀ j, j < 8 → ¬ w j → wN1 j = wN j ∧ wV1 j = wV j)
    (xv : ∀ j, j < 30 → s j → (j < M1 → ∃ h, sf1 j = some h ∧ SvX ρ1 g L1 f1 j h (σ1 j)) ∧ (M1 ≤ j → sf1 j = none ∨ ∃ h, sf1 j = some h ∧ Sv ρ1 g L1 f1 j h)) (yv : ∀ j, j < 30 → ¬ s j → sf1 j = sf j ∧ σ1 j = σ j ∧ (j < M1 → j < M)) : ResX ρ g L f xb wN1 wV1 M1 σ1 L1 f1 := by
  obtain ⟨o, o0, o1, o2, oS⟩ := hO
  refine ⟨ρ1, hL, fun b hb h5 => FT b hb (tn_5 h5 s30), A, WA, WR, wf, sf1, hA, hM, ⟨fun k hk => ⟨(hL _ (o k hk).1).1, (hL _ (o k hk).1).2.trans (o k hk).2⟩, x0, (FT _ (o 1 (by decide)).1 (tn_o (o 1 (by decide)).2 k1)).trans o1, x2, fun k h3 h23 => ?_⟩, fun j hj => ⟨(hW j hj).1, ?_⟩, fun j hj => ?_⟩
  · by_cases hk : k ∈ K
    · exact xs k h3 h23 hk
    · rw [FT _ (o k h23).1 (tn_o (o k h23).2 hk)]
      exact oS k h3 h23
  · by_cases hw : w j
    · exact xw j hj hw
    · rw [(yw j hj hw).1, (yw j hj hw).2]
      exact Wd_fr hL (fun b hb hr => FT b hb (tn_w hr hw)) (hW j hj).2
  · by_cases hs : s j
    · exact xv j hj hs
    · obtain ⟨y1, y2, y3⟩ := yv j hj hs
      rw [y1, y2]
      have hfr : ∀ b, b ∈ L → ρ b = (2 + 2 * j, 0) → f1 b = f b := fun b hb hr => FT b hb (tn_s hr hs)
      refine ⟨fun q => ?_, fun q => ?_⟩
      · obtain ⟨h, e, H⟩ := (hS j hj).1 (y3 q)
        exact ⟨h, e, SvX_fr hL hfr H⟩
      · rcases Nat.lt_or_ge j M with r | r
        · obtain ⟨h, e, H⟩ := (hS j hj).1 r
          exact Or.inr ⟨h, e, Sv_fr hL hfr (SvX_Sv H)⟩
        · rcases (hS j hj).2 r with e | ⟨h, e, H⟩
          · exact Or.inl e
          · exact Or.inr ⟨h, e, Sv_fr hL hfr H⟩
theorem ResX_same {xb : Nat} {wN : Nat → Nat} {wV : Nat → Nat → Int64} {M : Nat} {σ : Nat → SlT} (C : CfX ρ g L f xb wN wV M σ) : ResX ρ g L f xb wN wV M σ L f := ⟨ρ, fun _ h => ⟨h, rfl⟩, fun _ _ _ => rfl, C⟩
end FramesX
def NoS (M : Nat) (si : Int32) : Prop := si < 0 ∨ nI M ≤ si
theorem sAtX {M : Nat} (hM : M ≤ 30) {sf : Nat → Option Nat} (si : Int32) : (mX8_sieveAt (nI M) sf si = some none ∧ NoS M si) ∨ ∃ j, j < M ∧ si = nI j ∧ ∀ b, sf j = some b → mX8_sieveAt (nI M) sf si = some (some b) := by
  unfold mX8_sieveAt
  by_cases h0 : si < 0
  · rw [if_pos h0]; exact Or.inl ⟨rfl, Or.inl h0⟩
  · rw [if_neg h0]
    by_cases h8 : nI M ≤ si
    · rw [if_pos h8]; exact Or.inl ⟨rfl, Or.inr h8⟩
    · obtain ⟨j, hj, rfl⟩ := nI_of h0
      have h : j < M := Nat.lt_of_not_le (fun q => h8 (nI_le q hj))
      refine Or.inr ⟨j, h, rfl, fun b e => ?_⟩
      rw [if_neg h8, if_neg (show ¬ (30 : Int32) ≤ nI j from nI_ge (b := 30) (by omega) (by omega)), if_pos (ix_nI (by omega)), clN hj, e]
/-- an answer about a sieve -/
def AnS {α : Type} (no : α) (M : Nat) (si : Int32) (P : Nat → α → Prop) (x : α) : Prop := (NoS M si ∧ x = no) ∨ ∃ j, j < M ∧ si = nI j ∧ P j x
def AnSW {α : Type} (no : α) (M : Nat) (si wi : Int32) (P : Nat → Nat → α → Prop) (x : α) : Prop := ((NoS M si ∨ mX9_isWorld wi = some 0) ∧ x = no) ∨ ∃ j, j < M ∧ ∃ w, w < 8 ∧ si = nI j ∧ wi = nI w ∧ P j w x
