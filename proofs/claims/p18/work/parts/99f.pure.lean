/-! ===== a contract in a larger room ===== -/
theorem room_up {s : State} {pl : Platform} {r r' : Room} (hf : r.frames ≤ r'.frames) (hl : r.locals ≤ r'.locals) (hc : r.cells ≤ r'.cells) (hs : r.slots ≤ r'.slots) (h : s.hasRoom pl r' = true) : s.hasRoom pl r = true := by
  simp only [State.hasRoom, Bool.and_eq_true, decide_eq_true_eq] at h ⊢
  obtain ⟨⟨⟨⟨h0, h1, h2, h3, h4, h5⟩, h6⟩, h7⟩, h8⟩ := h
  exact ⟨⟨⟨⟨by omega, by omega, by omega, by omega, by omega, h5⟩, by omega⟩, by omega⟩, h8⟩
theorem met_up {l : Launch} {y : MethodName} {ws : List Cond} {rm rm' : Room} {Pc : Array Value → State → Prop} {Qc Qc' : Array Value → State → Outcome → State → Prop} {mc ms mc' ms' : Nat} {fr : Addr → Prop} (h : Met l y ws rm Pc Qc mc ms fr) (hf : rm.frames ≤ rm'.frames) (hl : rm.locals ≤ rm'.locals) (hc : rm.cells ≤ rm'.cells) (hs : rm.slots ≤ rm'.slots) (h1 : mc ≤ mc') (h2 : ms ≤ ms') (hq : ∀ a st o t, Qc a st o t → Qc' a st o t) : Met l y ws rm' Pc Qc' mc' ms' fr := by
  intro p e ha hcs hk s m args below hfr happ hP hK
  obtain ⟨a1, a2, a3, a4, a5, a6, a7, a8⟩ := (Spec.appliesLoose_iff hfr).mp happ
  obtain ⟨n, o, b1, b2, b3, b4, L, ⟨b5, b6, b7⟩, b8⟩ := h p e ha hcs hk s m args below hfr ((Spec.appliesLoose_iff hfr).mpr ⟨a1, a2, a3, a4, a5, a6, room_up hf hl hc hs a7, a8⟩) hP hK
  exact ⟨n, o, b1, b2, b3, hq _ _ _ _ b4, L, ⟨b5, b6, ⟨b7.1, b7.2.1, Nat.le_trans b7.2.2.1 (Nat.add_le_add_left h1 _), b7.2.2.2.1, Nat.le_trans b7.2.2.2.2.1 h2, b7.2.2.2.2.2⟩⟩, b8⟩
def RmC (mc ms : Nat) : Room := { frames := 6, cells := mc, slots := ms, locals := 160 }
theorem cI_up {l : Launch} {y : MethodName} {ws : List Cond} {rm : Room} {D : va_G} {g : Nat → ClassId} {av : List Value} {L : List Nat} {f : Nat → va_E} {mc ms mc' ms' : Nat} {post post' : Int32 → List Nat → (Nat → va_E) → Prop} (h : cI l y ws rm D g av L f mc ms post) (hf : rm.frames ≤ 6) (hl : rm.locals ≤ 160) (hc : rm.cells ≤ mc') (hs : rm.slots ≤ ms') (h1 : mc ≤ mc') (h2 : ms ≤ ms') (hp : ∀ r L1 f1, post r L1 f1 → post' r L1 f1) : cI l y ws (RmC mc' ms') D g av L f mc' ms' post' := by
  intro sz
  refine met_up (h sz) hf hl hc hs h1 h2 ?_
  rintro a st o t ⟨⟨r, u, e1, e2, e3⟩, e4⟩
  exact ⟨⟨r, u, e1, hp _ _ _ e2, e3⟩, e4⟩
theorem cL_up {l : Launch} {y : MethodName} {ws : List Cond} {rm : Room} {D : va_G} {g : Nat → ClassId} {av : List Value} {L : List Nat} {f : Nat → va_E} {mc ms mc' ms' : Nat} {post post' : Int64 → List Nat → (Nat → va_E) → Prop} (h : cL l y ws rm D g av L f mc ms post) (hf : rm.frames ≤ 6) (hl : rm.locals ≤ 160) (hc : rm.cells ≤ mc') (hs : rm.slots ≤ ms') (h1 : mc ≤ mc') (h2 : ms ≤ ms') (hp : ∀ r L1 f1, post r L1 f1 → post' r L1 f1) : cL l y ws (RmC mc' ms') D g av L f mc' ms' post' := by
  intro sz
  refine met_up (h sz) hf hl hc hs h1 h2 ?_
  rintro a st o t ⟨⟨r, u, e1, e2, e3⟩, e4⟩
  exact ⟨⟨r, u, e1, hp _ _ _ e2, e3⟩, e4⟩
/-! ===== the class's state ===== -/
def Sh (g : Nat → ClassId) (A : Nat → Nat) (e : va_E) : Nat → Prop
  | 3 => ∃ n, e = .inr (0, [.ref (A 4), .int n])
  | 4 => ∃ v, e = .inl (g 1, 1000, .inr (.inl v))
  | 5 => ∃ n, e = .inr (0, [.ref (A 6), .int n])
  | 6 => ∃ v, e = .inl (g 1, 1000, .inr (.inl v))
  | 7 => ∃ n, e = .inr (0, [.ref (A 8), .int n])
  | 8 => ∃ v, e = .inl (g 1, 1000, .inr (.inl v))
  | 9 => ∃ a b, e = .inr (5, [.ref (A 10), .ref (A 11), .ref (A 12), .ref (A 13), .ref (A 14), .ref (A 16), .ref (A 17), .int a, .int b])
  | 10 => ∃ v, e = .inl (g 0, 3000, .inl v)
  | 11 => ∃ v, e = .inl (g 0, 1000, .inl v)
  | 12 => ∃ v, e = .inl (g 0, 3774, .inl v)
  | 13 => ∃ v, e = .inl (g 0, 3774, .inl v)
  | 14 => ∃ n, e = .inr (1, [.ref (A 15), .int n])
  | 15 => ∃ v, e = .inl (g 1, 64, .inr (.inl v))
  | 16 => ∃ v, e = .inl (g 0, 1000, .inl v)
  | 17 => ∃ v, e = .inl (g 0, 1000, .inl v)
  | 18 => ∃ a b, e = .inr (2, [.ref (A 19), .ref (A 20), .ref (A 21), .int a, .int b])
  | 19 => ∃ v, e = .inl (g 1, 1000, .inr (.inl v))
  | 20 => ∃ v, e = .inl (g 1, 1000, .inr (.inl v))
  | 21 => ∃ n, e = .inr (1, [.ref (A 22), .int n])
  | 22 => ∃ v, e = .inl (g 1, 64, .inr (.inl v))
  | _ => True
def Own (ρ : Nat → Nat × Nat) (g : Nat → ClassId) (L : List Nat) (f : Nat → va_E) (A : Nat → Nat) (M : Nat) (wf sf : Nat → Option Nat) : Prop :=
  (∀ k, k < 23 → A k ∈ L ∧ ρ (A k) = (0, k)) ∧ f (A 0) = .inr (6, [.ref (A 1), .ref (A 2), .ref (A 3), .ref (A 5), .ref (A 7), .ref (A 9), .ref (A 18), .int (nI M)]) ∧ f (A 1) = .inl (g 3, 8, .inr (.inr (.inr (.inr wf)))) ∧ f (A 2) = .inl (g 5, 30, .inr (.inr (.inr (.inr sf)))) ∧ ∀ k, 3 ≤ k → k < 23 → Sh g A (f (A k)) k
def Wd (ρ : Nat → Nat × Nat) (g : Nat → ClassId) (L : List Nat) (f : Nat → va_E) (j b r n : Nat) (v : Nat → Int64) : Prop :=
  b ∈ L ∧ ρ b = (1 + 2 * j, 0) ∧ f b = .inr (0, [.ref r, .int (nI n)]) ∧ r ∈ L ∧ ρ r = (1 + 2 * j, 0) ∧ f r = .inl (g 1, 1000, .inr (.inl v)) ∧ n ≤ 1000 ∧ worldR v n
def LY (ρ : Nat → Nat × Nat) (g : Nat → ClassId) (L : List Nat) (f : Nat → va_E) (j co cr : Nat) (lay : Value) : Prop :=
  ∃ (la ro ca re rr : Nat) (lc lsd : Int32) (rf : Nat → Option Nat) (kca : Nat → Int32) (rn : Int32) (rv : Nat → Int64) (lb lw : Nat → Nat) (lz : Nat → Int32) (ld : Nat → Nat → Int64),
    lay = .ref la ∧ (la ∈ L ∧ ρ la = (2 + 2 * j, 0) ∧ f la = .inr (3, [.ref ro, .ref ca, .ref re, .int lc, .int lsd])) ∧ (ro ∈ L ∧ ρ ro = (2 + 2 * j, 0) ∧ f ro = .inl (g 4, 20, .inr (.inr (.inr (.inr rf))))) ∧ (ca ∈ L ∧ ρ ca = (2 + 2 * j, 0) ∧ f ca = .inl (g 0, 20, .inl kca)) ∧ (re ∈ L ∧ ρ re = (2 + 2 * j, 0) ∧ f re = .inr (0, [.ref rr, .int rn])) ∧ (rr ∈ L ∧ ρ rr = (2 + 2 * j, 0) ∧ f rr = .inl (g 1, 1000, .inr (.inl rv))) ∧ co ≠ re ∧ cr ≠ rr ∧ LF g L f rf lb lw lz ld ∧ LD lb lw ∧ (∀ i, i < 20 → ρ (lb i) = (2 + 2 * j, 0) ∧ ρ (lw i) = (2 + 2 * j, 0)) ∧ LN lc rn lz
def Sv (ρ : Nat → Nat × Nat) (g : Nat → ClassId) (L : List Nat) (f : Nat → va_E) (j h : Nat) : Prop :=
  ∃ (ce co cr : Nat) (lay : Value) (kd sz mk sd : Int32) (kc : Nat → Int32) (n : Int32) (v : Nat → Int64),
    (h ∈ L ∧ ρ h = (2 + 2 * j, 0) ∧ f h = .inr (4, [.ref ce, .ref co, lay, .int kd, .int sz, .int mk, .int sd])) ∧ (ce ∈ L ∧ ρ ce = (2 + 2 * j, 0) ∧ f ce = .inl (g 0, 4096, .inl kc)) ∧ (co ∈ L ∧ ρ co = (2 + 2 * j, 0) ∧ f co = .inr (0, [.ref cr, .int n])) ∧ (cr ∈ L ∧ ρ cr = (2 + 2 * j, 0) ∧ f cr = .inl (g 1, 1000, .inr (.inl v))) ∧ SV kd sz mk n ∧ (kd = 4 → lay ≠ .null) ∧ (lay = .null ∨ LY ρ g L f j co cr lay)
def Wds (ρ : Nat → Nat × Nat) (g : Nat → ClassId) (L : List Nat) (f : Nat → va_E) (wf : Nat → Option Nat) (WA WR : Nat → Nat) (wN : Nat → Nat) (wV : Nat → Nat → Int64) : Prop := ∀ j, j < 8 → wf j = some (WA j) ∧ Wd ρ g L f j (WA j) (WR j) (wN j) (wV j)
def Svs (ρ : Nat → Nat × Nat) (g : Nat → ClassId) (L : List Nat) (f : Nat → va_E) (sf : Nat → Option Nat) (M : Nat) : Prop := ∀ j, j < 30 → (sf j = none ∧ M ≤ j) ∨ ∃ h, sf j = some h ∧ Sv ρ g L f j h
def Cf (ρ : Nat → Nat × Nat) (g : Nat → ClassId) (L : List Nat) (f : Nat → va_E) (xb : Nat) (wN : Nat → Nat) (wV : Nat → Nat → Int64) : Prop :=
  ∃ (A WA WR : Nat → Nat) (M : Nat) (wf sf : Nat → Option Nat), A 0 = xb ∧ M ≤ 30 ∧ Own ρ g L f A M wf sf ∧ Wds ρ g L f wf WA WR wN wV ∧ Svs ρ g L f sf M
def Res (ρ : Nat → Nat × Nat) (g : Nat → ClassId) (L : List Nat) (f : Nat → va_E) (xb : Nat) (wN : Nat → Nat) (wV : Nat → Nat → Int64) (L1 : List Nat) (f1 : Nat → va_E) : Prop :=
  ∃ ρ1 : Nat → Nat × Nat, (∀ b, b ∈ L → b ∈ L1 ∧ ρ1 b = ρ b) ∧ (∀ b, b ∈ L → (ρ b).1 = 500 → f1 b = f b) ∧ Cf ρ1 g L1 f1 xb wN wV
/-- what a call may touch -/
def TT (K : List Nat) (w s : Nat → Prop) (r : Nat × Nat) : Prop := (r.1 = 0 ∧ r.2 ∈ K) ∨ (∃ j, w j ∧ r = (1 + 2 * j, 0)) ∨ ∃ j, s j ∧ r = (2 + 2 * j, 0)
theorem tt_o {K : List Nat} {w s : Nat → Prop} {r : Nat × Nat} {k : Nat} (e : r = (0, k)) (h : k ∈ K) : TT K w s r := by subst e; exact Or.inl ⟨rfl, h⟩
theorem tt_w {K : List Nat} {w s : Nat → Prop} {r : Nat × Nat} {j : Nat} (e : r = (1 + 2 * j, 0)) (h : w j) : TT K w s r := Or.inr (Or.inl ⟨j, h, e⟩)
theorem tt_s {K : List Nat} {w s : Nat → Prop} {r : Nat × Nat} {j : Nat} (e : r = (2 + 2 * j, 0)) (h : s j) : TT K w s r := Or.inr (Or.inr ⟨j, h, e⟩)
theorem tn_o {K : List Nat} {w s : Nat → Prop} {r : Nat × Nat} {k : Nat} (e : r = (0, k)) (h : k ∉ K) : ¬ TT K w s r := by
  subst e
  rintro (⟨_, q⟩ | ⟨j, _, q⟩ | ⟨j, _, q⟩)
  · exact h q
  · have := congrArg Prod.fst q; dsimp only at this; omega
  · have := congrArg Prod.fst q; dsimp only at this; omega
theorem tn_w {K : List Nat} {w s : Nat → Prop} {r : Nat × Nat} {j : Nat} (e : r = (1 + 2 * j, 0)) (h : ¬ w j) : ¬ TT K w s r := by
  subst e
  rintro (⟨q, _⟩ | ⟨i, hi, q⟩ | ⟨i, _, q⟩)
  · dsimp only at q; omega
  · have := congrArg Prod.fst q; dsimp only at this
    obtain rfl : i = j := by omega
    exact h hi
  · have := congrArg Prod.fst q; dsimp only at this; omega
theorem tn_s {K : List Nat} {w s : Nat → Prop} {r : Nat × Nat} {j : Nat} (e : r = (2 + 2 * j, 0)) (h : ¬ s j) : ¬ TT K w s r := by
  subst e
  rintro (⟨q, _⟩ | ⟨i, _, q⟩ | ⟨i, hi, q⟩)
  · dsimp only at q; omega
  · have := congrArg Prod.fst q; dsimp only at this; omega
  · have := congrArg Prod.fst q; dsimp only at this
    obtain rfl : i = j := by omega
    exact h hi
theorem tn_5 {K : List Nat} {w s : Nat → Prop} {r : Nat × Nat} (e : r.1 = 500) (h : ∀ j, s j → j < 30) : ¬ TT K w s r := by
  rintro (⟨q, _⟩ | ⟨i, _, q⟩ | ⟨i, hi, q⟩)
  · omega
  · rw [q] at e; dsimp only at e; omega
  · rw [q] at e; dsimp only at e
    have := h i hi
    omega
theorem ne_T2 {T : Nat × Nat → Prop} {ρ : Nat → Nat × Nat} {a b : Nat} (hb : ¬ T (ρ b)) (ha : T (ρ a)) : b ≠ a := fun h => hb (h ▸ ha)
theorem ne_T {T : Nat × Nat → Prop} {ρ : Nat → Nat × Nat} {a b : Nat} (ha : T (ρ a)) (hb : ¬ T (ρ b)) : b ≠ a := fun h => hb (h ▸ ha)
section Frames
variable {ρ ρ1 : Nat → Nat × Nat} {g : Nat → ClassId} {L L1 : List Nat} {f f1 : Nat → va_E}
theorem Wd_fr (hL : ∀ b, b ∈ L → b ∈ L1 ∧ ρ1 b = ρ b) {j b r n : Nat} {v : Nat → Int64} (hf : ∀ b, b ∈ L → ρ b = (1 + 2 * j, 0) → f1 b = f b) (h : Wd ρ g L f j b r n v) : Wd ρ1 g L1 f1 j b r n v := by
  obtain ⟨h1, h2, h3, h4, h5, h6, h7⟩ := h
  exact ⟨(hL b h1).1, (hL b h1).2.trans h2, (hf b h1 h2).trans h3, (hL r h4).1, (hL r h4).2.trans h5, (hf r h4 h5).trans h6, h7⟩
theorem cell_fr (hL : ∀ b, b ∈ L → b ∈ L1 ∧ ρ1 b = ρ b) {i : Nat × Nat} (hf : ∀ b, b ∈ L → ρ b = i → f1 b = f b) {b : Nat} {x : va_E} (h : b ∈ L ∧ ρ b = i ∧ f b = x) : b ∈ L1 ∧ ρ1 b = i ∧ f1 b = x := ⟨(hL b h.1).1, (hL b h.1).2.trans h.2.1, (hf b h.1 h.2.1).trans h.2.2⟩
theorem LY_fr (hL : ∀ b, b ∈ L → b ∈ L1 ∧ ρ1 b = ρ b) {j h ce co cr : Nat} {lay : Value} (hf : ∀ b, b ∈ L → ρ b = (2 + 2 * j, 0) → b ≠ h → b ≠ ce → b ≠ co → b ≠ cr → f1 b = f b) (H : LY ρ g L f j co cr lay) {q1 q3 : List Value} {q2 q4} (eh : f h = .inr (4, q1)) (ece : f ce = .inl (g 0, 4096, q2)) (eco : f co = .inr (0, q3)) (ecr : f cr = .inl (g 1, 1000, q4)) : LY ρ1 g L1 f1 j co cr lay := by
  obtain ⟨la, ro, ca, re, rr, lc, lsd, rf, kca, rn, rv, lb, lw, lz, ld, e, h1, h2, h3, h4, h5, n1, n2, hF, hD, hr, hN⟩ := H
  have cf : ∀ {b : Nat} {x : va_E}, b ∈ L ∧ ρ b = (2 + 2 * j, 0) ∧ f b = x → b ≠ h → b ≠ ce → b ≠ co → b ≠ cr → b ∈ L1 ∧ ρ1 b = (2 + 2 * j, 0) ∧ f1 b = x := fun {b x} h a1 a2 a c => ⟨(hL b h.1).1, (hL b h.1).2.trans h.2.1, (hf b h.1 h.2.1 a1 a2 a c).trans h.2.2⟩
  refine ⟨la, ro, ca, re, rr, lc, lsd, rf, kca, rn, rv, lb, lw, lz, ld, e, cf h1 (ne_rr eh h1.2.2 (by decide)) (ne_ir ece h1.2.2) (ne_rr eco h1.2.2 (by decide)) (ne_ir ecr h1.2.2), cf h2 (ne_ri eh h2.2.2) (ne_len ece h2.2.2 (by decide)) (ne_ri eco h2.2.2) (ne_len ecr h2.2.2 (by decide)), cf h3 (ne_ri eh h3.2.2) (ne_len ece h3.2.2 (by decide)) (ne_ri eco h3.2.2) (ne_len ecr h3.2.2 (by decide)), cf h4 (ne_rr eh h4.2.2 (by decide)) (ne_ir ece h4.2.2) (Ne.symm n1) (ne_ir ecr h4.2.2), cf h5 (ne_ri eh h5.2.2) (ne_len ece h5.2.2 (by decide)) (ne_ri eco h5.2.2) (Ne.symm n2), n1, n2, ?_, hD, fun i hi => ⟨(hL _ (hF i hi).2.1).2.trans (hr i hi).1, (hL _ (hF i hi).2.2.2.1).2.trans (hr i hi).2⟩, hN⟩
  intro i hi
  obtain ⟨k1, k2, k3, k4, k5⟩ := hF i hi
  exact ⟨k1, (hL _ k2).1, (hf _ k2 (hr i hi).1 (ne_rr eh k3 (by decide)) (ne_ir ece k3) (ne_rr eco k3 (by decide)) (ne_ir ecr k3)).trans k3, (hL _ k4).1, (hf _ k4 (hr i hi).2 (ne_ri eh k5) (ne_len ece k5 (by decide)) (ne_ri eco k5) (ne_len ecr k5 (by decide))).trans k5⟩
theorem Sv_fr (hL : ∀ b, b ∈ L → b ∈ L1 ∧ ρ1 b = ρ b) {j h : Nat} (hf : ∀ b, b ∈ L → ρ b = (2 + 2 * j, 0) → f1 b = f b) (H : Sv ρ g L f j h) : Sv ρ1 g L1 f1 j h := by
  obtain ⟨ce, co, cr, lay, kd, sz, mk, sd, kc, n, v, h1, h2, h3, h4, h5, h6, h7⟩ := H
  refine ⟨ce, co, cr, lay, kd, sz, mk, sd, kc, n, v, cell_fr hL hf h1, cell_fr hL hf h2, cell_fr hL hf h3, cell_fr hL hf h4, h5, h6, ?_⟩
  rcases h7 with q | q
  · exact Or.inl q
  · exact Or.inr (LY_fr hL (fun b hb hr _ _ _ _ => hf b hb hr) q h1.2.2 h2.2.2 h3.2.2 h4.2.2)
/-- the state after a call, from what it touched -/
theorem Cf_up {xb : Nat} {wN wN1 : Nat → Nat} {wV wV1 : Nat → Nat → Int64} {A WA WR : Nat → Nat} {M M1 : Nat} {wf sf sf1 : Nat → Option Nat} (K : List Nat) (w s : Nat → Prop) (hA : A 0 = xb) (hO : Own ρ g L f A M wf sf) (hW : Wds ρ g L f wf WA WR wN wV) (hS : Svs ρ g L f sf M)
    (hL : ∀ b, b ∈ L → b ∈ L1 ∧ ρ1 b = ρ b) (FT : ∀ b, b ∈ L → ¬ TT K w s (ρ b) → f1 b = f b) (s30 : ∀ j, s j → j < 30) (k1 : 1 ∉ K) (hM : M1 ≤ 30)
    (x0 : f1 (A 0) = .inr (6, [.ref (A 1), .ref (A 2), .ref (A 3), .ref (A 5), .ref (A 7), .ref (A 9), .ref (A 18), .int (nI M1)]))
    (x2 : f1 (A 2) = .inl (g 5, 30, .inr (.inr (.inr (.inr sf1)))))
    (xs : ∀ k, 3 ≤ k → k < 23 → k ∈ K → Sh g A (f1 (A k)) k)
    (xw : ∀ j, j < 8 → w j → Wd ρ1 g L1 f1 j (WA j) (WR j) (wN1 j) (wV1 j)) (yw : ∀ j, j < 8 → ¬ w j → wN1 j = wN j ∧ wV1 j = wV j)
    (xv : ∀ j, j < 30 → s j → (sf1 j = none ∧ M1 ≤ j) ∨ ∃ h, sf1 j = some h ∧ Sv ρ1 g L1 f1 j h) (yv : ∀ j, j < 30 → ¬ s j → sf1 j = sf j ∧ (M ≤ j → M1 ≤ j)) : Res ρ g L f xb wN1 wV1 L1 f1 := by
  obtain ⟨o, o0, o1, o2, oS⟩ := hO
  refine ⟨ρ1, hL, fun b hb h5 => FT b hb (tn_5 h5 s30), A, WA, WR, M1, wf, sf1, hA, hM, ⟨fun k hk => ⟨(hL _ (o k hk).1).1, (hL _ (o k hk).1).2.trans (o k hk).2⟩, x0, (FT _ (o 1 (by decide)).1 (tn_o (o 1 (by decide)).2 k1)).trans o1, x2, fun k h3 h23 => ?_⟩, fun j hj => ⟨(hW j hj).1, ?_⟩, fun j hj => ?_⟩
  · by_cases hk : k ∈ K
    · exact xs k h3 h23 hk
    · rw [FT _ (o k h23).1 (tn_o (o k h23).2 hk)]
      exact oS k h3 h23
  · by_cases hw : w j
    · exact xw j hj hw
    · rw [(yw j hj hw).1, (yw j hj hw).2]
      exact Wd_fr hL (fun b hb hr => FT b hb (tn_w hr hw)) (hW j hj).2
  · by_cases hs : s j
    · exact xv j hj hs
    · rw [(yv j hj hs).1]
      rcases hS j hj with ⟨q1, q2⟩ | ⟨h, q1, q2⟩
      · exact Or.inl ⟨q1, (yv j hj hs).2 q2⟩
      · exact Or.inr ⟨h, q1, Sv_fr hL (fun b hb hr => FT b hb (tn_s hr hs)) q2⟩
theorem Res_same {xb : Nat} {wN : Nat → Nat} {wV : Nat → Nat → Int64} (C : Cf ρ g L f xb wN wV) : Res ρ g L f xb wN wV L f := ⟨ρ, fun _ h => ⟨h, rfl⟩, fun _ _ _ => rfl, C⟩
end Frames
theorem wAt {wf : Nat → Option Nat} (wi : Int32) : (mX8_worldAt wf wi = some none ∧ mX9_isWorld wi = some 0) ∨ ∃ j, j < 8 ∧ wi = nI j ∧ ∀ b, wf j = some b → mX8_worldAt wf wi = some (some b) := by
  unfold mX8_worldAt mX9_isWorld
  by_cases h0 : wi < 0
  · rw [if_pos h0, if_pos h0]; exact Or.inl ⟨rfl, rfl⟩
  · rw [if_neg h0, if_neg h0]
    by_cases h8 : (8 : Int32) ≤ wi
    · rw [if_pos h8, if_pos h8]; exact Or.inl ⟨rfl, rfl⟩
    · rw [if_neg h8]
      obtain ⟨j, hj, rfl⟩ := nI_of h0
      have h : j < 8 := Nat.lt_of_not_le (fun q => h8 (nI_le (a := 8) q hj))
      refine Or.inr ⟨j, h, rfl, fun b e => ?_⟩
      rw [if_pos (ix_nI h), clN hj, e]
theorem sAt {M : Nat} (hM : M ≤ 30) {sf : Nat → Option Nat} (si : Int32) : mX8_sieveAt (nI M) sf si = some none ∨ ∃ j, j < M ∧ si = nI j ∧ ∀ b, sf j = some b → mX8_sieveAt (nI M) sf si = some (some b) := by
  unfold mX8_sieveAt
  by_cases h0 : si < 0
  · rw [if_pos h0]; exact Or.inl rfl
  · rw [if_neg h0]
    by_cases h8 : nI M ≤ si
    · rw [if_pos h8]; exact Or.inl rfl
    · obtain ⟨j, hj, rfl⟩ := nI_of h0
      have h : j < M := Nat.lt_of_not_le (fun q => h8 (nI_le q hj))
      refine Or.inr ⟨j, h, rfl, fun b e => ?_⟩
      rw [if_neg h8, if_neg (show ¬ (30 : Int32) ≤ nI j from nI_ge (b := 30) (by omega) (by omega)), if_pos (ix_nI (by omega)), clN hj, e]
theorem sspan_ok2 {n : Nat} (hn : n ≤ 1000) {v : Nat → Int64} (hw : worldR v n) (fi : Int64) (st nn dn : Int32) (dv : Nat → Int64) : OK (mX8_span fi st nn (nI n) v dn dv) (fun z => ∃ m, z.2.1 = nI m ∧ SpR n v fi st nn m z.2.2.1 ∧ SpA n v fi st nn z.1) := by
  unfold mX8_span
  refine OK_ite (fun h => OK_some ⟨n, rfl, Or.inl ⟨Or.inl h, rfl, AG_r _ _⟩, Or.inl ⟨Or.inl h, rfl⟩⟩) (fun h1 => OK_ite (fun h2 => ?_) (fun h => OK_some ⟨n, rfl, Or.inl ⟨Or.inr (Or.inl h), rfl, AG_r _ _⟩, Or.inl ⟨Or.inr h, rfl⟩⟩))
  obtain ⟨N, hN, rfl⟩ := nI_of2 (M := nI 1000) (n := 1000) (nI_toInt (by omega)) (fun q => h1 (Int32.lt_of_lt_of_le q (by decide))) h2
  refine OK_be (bag_cpy hn) (OK_bind (span_loop8 hn hN hw fi st v _ (nI n) (AG_cpy v dv)) ?_)
  rintro o (⟨x, rfl, g0, g1, g2, g3, g4⟩ | ⟨x, rfl, g1, g2, g3⟩)
  · exact OK_some ⟨n, g2, Or.inl ⟨Or.inr (Or.inr ⟨N, hN, rfl, g1⟩), rfl, by rw [g3]; exact AG_r _ _⟩, Or.inr ⟨h1, h2, N, hN, rfl, Or.inl ⟨g1, g0⟩⟩⟩
  · show OK ((mX0_copyFrom v x.2.1 x.2.2).bind _) _
    rw [g2]
    exact OK_be (bag_cpy g1) (OK_be rfl (OK_some ⟨_, rfl, Or.inr ⟨h1, h2, N, hN, rfl, g1, rfl, AG_t (AG_cpy _ _) g3⟩, Or.inr ⟨h1, h2, N, hN, rfl, Or.inr ⟨g1, rfl⟩⟩⟩))
/-- an answer about a world: refused, or P -/
def AnW {α : Type} (no : α) (wi : Int32) (P : Nat → α → Prop) (x : α) : Prop := (mX9_isWorld wi = some 0 ∧ x = no) ∨ ∃ j, j < 8 ∧ wi = nI j ∧ P j x
theorem AnW_det {α : Type} {no : α} {wi : Int32} {P P' : Nat → α → Prop} {x x' : α} (hP : ∀ j r r', j < 8 → P j r → P' j r' → r = r') (h : AnW no wi P x) (h' : AnW no wi P' x') : x = x' := by
  have no0 : ∀ j, j < 8 → wi = nI j → ¬ mX9_isWorld wi = some 0 := by
    intro j hj e q
    rw [e, isW1 hj] at q
    exact absurd q (by decide)
  rcases h with ⟨q, e⟩ | ⟨j, hj, ej, h⟩
  · rcases h' with ⟨-, e'⟩ | ⟨j, hj, ej, -⟩
    · rw [e, e']
    · exact absurd q (no0 j hj ej)
  · rcases h' with ⟨q, -⟩ | ⟨j', hj', ej', h'⟩
    · exact absurd q (no0 j hj ej)
    · obtain rfl : j = j' := (nI_eq (by omega) (by omega)).mp (ej.symm.trans ej')
      exact hP j _ _ hj h h'
def ThA (n : Nat) (v : Nat → Int64) (i : Int32) (x : Int64) : Prop := x = if ¬ i < 0 ∧ ¬ nI n ≤ i then v i.toNatClampNeg else 0
