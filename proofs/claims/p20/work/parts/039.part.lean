/-! ===== constructors: families of new cells, all apart ===== -/
theorem famS {g : Nat → ClassId} {cl ln : Nat} {kf : Nat → Option Nat} {Ll L1 LP : List Nat} {fl f1 : Nat → va_E} {i arr q qr : Nat}
    (hV : ∃ lb lw : Nat → Nat, (∀ j, j < i → kf j = some (lb j) ∧ lb j ∈ Ll ∧ fl (lb j) = .inr (cl, [.ref (lw j), .int 0]) ∧ lw j ∈ Ll ∧ fl (lw j) = .inl (g 1, ln, .inr (.inl (fun _ => 0))) ∧ lb j ∉ LP ∧ lw j ∉ LP) ∧ ∀ j k, j < i → k < i → j ≠ k → lb j ≠ lb k ∧ lw j ≠ lw k)
    (hi : i < 2 ^ 31) (nq : q ∉ Ll) (nqr : qr ∉ Ll) (mq : q ∈ L1) (eq : f1 q = .inr (cl, [.ref qr, .int 0])) (mr : qr ∈ L1) (er : f1 qr = .inl (g 1, ln, .inr (.inl (fun _ => 0)))) (hLp : ∀ b, b ∈ LP → b ∈ Ll) (mono : ∀ b, b ∈ Ll → b ∈ L1) (fr : ∀ b, b ∈ Ll → b ≠ arr → f1 b = fl b) (ha : arr ∈ LP) :
    ∃ lb lw : Nat → Nat, (∀ j, j < i + 1 → va_up kf (nI i).toNatClampNeg (some q) j = some (lb j) ∧ lb j ∈ L1 ∧ f1 (lb j) = .inr (cl, [.ref (lw j), .int 0]) ∧ lw j ∈ L1 ∧ f1 (lw j) = .inl (g 1, ln, .inr (.inl (fun _ => 0))) ∧ lb j ∉ LP ∧ lw j ∉ LP) ∧ ∀ j k, j < i + 1 → k < i + 1 → j ≠ k → lb j ≠ lb k ∧ lw j ≠ lw k := by
  obtain ⟨lb, lw, h1, h2⟩ := hV
  rw [nI_clamp hi]
  refine ⟨va_up lb i q, va_up lw i qr, fun j hj => ?_, fun j k hj hk hjk => ?_⟩
  · by_cases h9 : j = i
    · subst h9
      simp only [va_up_self]
      exact ⟨trivial, mq, eq, mr, er, fun h => nq (hLp _ h), fun h => nqr (hLp _ h)⟩
    · obtain ⟨a1, a2, a3, a4, a5, a6, a7⟩ := h1 j (by omega)
      simp only [va_up_ne _ _ h9]
      exact ⟨a1, mono _ a2, (fr _ a2 (fun h => a6 (h ▸ ha))).trans a3, mono _ a4, (fr _ a4 (fun h => a7 (h ▸ ha))).trans a5, a6, a7⟩
  · by_cases hj9 : j = i
    · subst hj9
      have hk9 : k ≠ j := fun h => hjk h.symm
      obtain ⟨-, a2, -, a4, -⟩ := h1 k (by omega)
      simp only [va_up_self, va_up_ne _ _ hk9]
      exact ⟨fun h => nq (h ▸ a2), fun h => nqr (h ▸ a4)⟩
    · by_cases hk9 : k = i
      · subst hk9
        obtain ⟨-, a2, -, a4, -⟩ := h1 j (by omega)
        simp only [va_up_self, va_up_ne _ _ hj9]
        exact ⟨fun h => nq (h ▸ a2), fun h => nqr (h ▸ a4)⟩
      · simp only [va_up_ne _ _ hj9, va_up_ne _ _ hk9]
        exact h2 j k (by omega) (by omega) hjk
theorem famE {g : Nat → ClassId} {kf : Nat → Option Nat} {L Ll LP : List Nat} {fl : Nat → va_E} {i : Nat}
    (hV : ∃ lb lw : Nat → Nat, (∀ j, j < i → kf j = some (lb j) ∧ lb j ∈ Ll ∧ fl (lb j) = .inr (1, [.ref (lw j), .int 0]) ∧ lw j ∈ Ll ∧ fl (lw j) = .inl (g 1, 64, .inr (.inl (fun _ => 0))) ∧ lb j ∉ LP ∧ lw j ∉ LP) ∧ ∀ j k, j < i → k < i → j ≠ k → lb j ≠ lb k ∧ lw j ≠ lw k) (hN : i = 20) (mono0 : ∀ b, b ∈ L → b ∈ LP) :
    ∃ lb lw : Nat → Nat, LF g Ll fl kf lb lw (fun _ => 0) (fun _ _ => 0) ∧ LD lb lw ∧ ∀ j, j < 20 → lb j ∉ L ∧ lw j ∉ L := by
  subst hN
  obtain ⟨lb, lw, h1, h2⟩ := hV
  refine ⟨lb, lw, fun j hj => ?_, fun i j hi hj hij => h2 i j hi hj hij, fun j hj => ?_⟩
  · obtain ⟨a1, a2, a3, a4, a5, -⟩ := h1 j hj
    exact ⟨a1, a2, a3, a4, a5⟩
  · obtain ⟨-, -, -, -, -, a6, a7⟩ := h1 j hj
    exact ⟨fun h => a6 (mono0 _ h), fun h => a7 (mono0 _ h)⟩
set_option maxHeartbeats 4000000 in
set_option maxRecDepth 100000 in
/-- SieveCabinet$Layers.<init> -/
theorem c_X3_initF (l : Launch) (D : va_G) (g : Nat → ClassId) {L : List Nat} {f : Nat → va_E} {h : Nat} (m_h : h ∈ L) (e_h : f h = .inr (3, [.null, .null, .null, .int 0, .int 0]))  : cV l yX3_init wsX3_init { frames := 2, cells := 44, slots := 2362, locals := 32 } D g [.ref h] L f 44 2362 (fun L1 f1 => ∃ q16 : Nat, ∃ q22 : Nat, ∃ q826 : Nat, ∃ q7 : Nat, ∃ kf : Nat → Option Nat, (∀ b, b ∈ L → b ∈ L1) ∧ (∀ b, b ∈ L → b ≠ h → f1 b = f b) ∧ (q16 ∉ L ∧ q16 ∈ L1 ∧ f1 q16 = .inl (g 0, 20, .inl (fun _ => 0))) ∧ (q22 ∉ L ∧ q22 ∈ L1 ∧ f1 q22 = .inr (0, [.ref q826, .int 0])) ∧ (q826 ∉ L ∧ q826 ∈ L1 ∧ f1 q826 = .inl (g 1, 1000, .inr (.inl (fun _ => 0)))) ∧ (q7 ∉ L ∧ q7 ∈ L1 ∧ f1 q7 = .inl (g 4, 20, .inr (.inr (.inr (.inr kf))))) ∧ f1 h = .inr (3, [.ref q7, .ref q16, .ref q22, .int 0, .int 0]) ∧ ∃ lb lw : Nat → Nat, LF g L1 f1 kf lb lw (fun _ => 0) (fun _ _ => 0) ∧ LD lb lw ∧ ∀ j, j < 20 → lb j ∉ L ∧ lw j ∉ L) := by
  refine cV_of (cc := cX3_init) (maxL := 2) (ret := none) (by decide) rfl (Nat.le_of_ble_eq_true rfl) ?_
  intro sz p e s m below meth c hx hb hr hml hts hown hlk hnm S ls hl
  have hl : lv_has ls 2 [(0, .ref h)] := hl
  have in_X0 : ∀ w ∈ wsX00, w ∈ wsX3_init := by decide +kernel
  have in_X1 : ∀ w ∈ wsX10, w ∈ wsX3_init := by decide +kernel
  have in_X3 : ∀ w ∈ wsX30, w ∈ wsX3_init := by decide +kernel
  have fr : ∀ b, b ∈ L → b ≠ h → f b = f b := fun _ _ _ => rfl
  have mono : ∀ b, b ∈ L → b ∈ L := fun _ h => h
  refine lv_aload_n hx hb dX3_init_0 rfl (lv_at hl 0 rfl) ?_
  refine W.objInit hx hb hown (hts (.methodLink RX3 3 objectInit) (by decide +kernel)) (hts (.instanceMethod objectInit) (by decide +kernel)) (hts (.code objectInit ⟨#[0xb1]⟩ 1 none) (by decide +kernel)) rfl (by rw [hml]; exact hl.1) rfl dX3_init_1 (Nat.le_of_ble_eq_true rfl) (Nat.le_of_ble_eq_true rfl) ?_
  refine W.eq (g2 := F0 m 4 ls []) rfl ?_
  refine lv_aload_n hx hb dX3_init_4 rfl (lv_at hl 0 rfl) ?_
  refine lv_bipush (v := 20) hx hb dX3_init_5 (by decide) ?_
  refine q_newq hx hb hown (hts (.classLink RX3 11 RX1) (by decide +kernel)) (by decide) S 4 rfl (N' := 20) (by decide) (by decide) (by decide) (Nat.le_of_ble_eq_true rfl) (Nat.le_of_ble_eq_true rfl) dX3_init_7 (fun q7 H nq7 S => ?_)
  refine W.widen (k := 1) (n := 20) (by decide) (by decide) ?_
  obtain ⟨f1, ef1⟩ : ∃ z_, z_ = va_up f q7 (.inl (g 4, 20, .inr (.inr (.inr (.inr (fun _ => none)))))) := ⟨_, rfl⟩
  obtain ⟨L2, eL2⟩ : ∃ z_, z_ = L ++ [q7] := ⟨_, rfl⟩
  have S : PS D g (va_A (va_pl L f) sz) s.heap s L2 f1 H [] := by rw [ef1, eL2]; exact S
  have e_h : f1 h = .inr (3, [.null, .null, .null, .int 0, .int 0]) := up_ne ef1 (fun h => nq7 (h ▸ m_h)) e_h
  have nq7_h : h ≠ q7 := fun h => nq7 (h ▸ m_h)
  have m_h : h ∈ L2 := by rw [eL2]; exact List.mem_append_left _ m_h
  have e_q7 : f1 q7 = .inl (g 4, 20, .inr (.inr (.inr (.inr (fun _ => none))))) := up_self ef1
  have m_q7 : q7 ∈ L2 := by rw [eL2]; simp
  have nzq7 : q7 ∉ L := fun h => nq7 (mono _ h)
  have fr : ∀ b, b ∈ L → b ≠ h → f1 b = f b := fun b mb nb0 => (up_ne ef1 (fun h => nzq7 (h ▸ mb)) rfl).trans (fr b mb nb0)
  have mono : ∀ b, b ∈ L → b ∈ L2 := fun b h => by rw [eL2]; exact List.mem_append_left _ (mono b h)
  refine q_putF hx hb hts in_X3 tyX3 tyX3_ok nmX3 hown hnm S m_h e_h (C := RX3) (T := TX3) (N := 5) rfl 0 (by decide) (hts (.fieldLink RX3 13 "SieveCabinet$Layers" "rows" "[LSieveCabinet$BitRow;") (by decide +kernel)) rfl rfl rfl rfl (Nat.le_of_ble_eq_true rfl) dX3_init_10 (fun H locs S => ?_)
  obtain ⟨f3, ef3⟩ : ∃ z_, z_ = va_up f1 h (.inr (3, [.ref q7, .null, .null, .int 0, .int 0])) := ⟨_, rfl⟩
  have S : PS D g (va_A (va_pl L f) sz) s.heap s L2 f3 H locs := by rw [ef3]; exact S
  have e_q7 : f3 q7 = .inl (g 4, 20, .inr (.inr (.inr (.inr (fun _ => none))))) := up_ne ef3 (fun h => nq7_h h.symm) e_q7
  have e_h : f3 h = .inr (3, [.ref q7, .null, .null, .int 0, .int 0]) := up_self ef3
  have fr : ∀ b, b ∈ L → b ≠ h → f3 b = f b := fun b mb nb0 => (up_ne ef3 nb0 rfl).trans (fr b mb nb0)
  refine lv_aload_n hx hb dX3_init_13 rfl (lv_at hl 0 rfl) ?_
  refine lv_bipush (v := 20) hx hb dX3_init_14 (by decide) ?_
  refine q_newi hx hb (hts (.arrayClass .int) (by decide +kernel)) S (N' := 20) (by decide) (by decide) (by decide) (Nat.le_of_ble_eq_true rfl) (Nat.le_of_ble_eq_true rfl) dX3_init_16 (fun q16 H nq16 S => ?_)
  refine W.widen (k := 2) (n := 40) (by decide) (by decide) ?_
  obtain ⟨f4, ef4⟩ : ∃ z_, z_ = va_up f3 q16 (.inl (g 0, 20, .inl (fun _ => 0))) := ⟨_, rfl⟩
  obtain ⟨L5, eL5⟩ : ∃ z_, z_ = L2 ++ [q16] := ⟨_, rfl⟩
  have S : PS D g (va_A (va_pl L f) sz) s.heap s L5 f4 H locs := by rw [ef4, eL5]; exact S
  have e_h : f4 h = .inr (3, [.ref q7, .null, .null, .int 0, .int 0]) := up_ne ef4 (fun h => nq16 (h ▸ m_h)) e_h
  have nq16_h : h ≠ q16 := fun h => nq16 (h ▸ m_h)
  have m_h : h ∈ L5 := by rw [eL5]; exact List.mem_append_left _ m_h
  have e_q7 : f4 q7 = .inl (g 4, 20, .inr (.inr (.inr (.inr (fun _ => none))))) := up_ne ef4 (fun h => nq16 (h ▸ m_q7)) e_q7
  have nq16_q7 : q7 ≠ q16 := fun h => nq16 (h ▸ m_q7)
  have m_q7 : q7 ∈ L5 := by rw [eL5]; exact List.mem_append_left _ m_q7
  have e_q16 : f4 q16 = .inl (g 0, 20, .inl (fun _ => 0)) := up_self ef4
  have m_q16 : q16 ∈ L5 := by rw [eL5]; simp
  have nzq16 : q16 ∉ L := fun h => nq16 (mono _ h)
  have fr : ∀ b, b ∈ L → b ≠ h → f4 b = f b := fun b mb nb0 => (up_ne ef4 (fun h => nzq16 (h ▸ mb)) rfl).trans (fr b mb nb0)
  have mono : ∀ b, b ∈ L → b ∈ L5 := fun b h => by rw [eL5]; exact List.mem_append_left _ (mono b h)
  refine q_putF hx hb hts in_X3 tyX3 tyX3_ok nmX3 hown hnm S m_h e_h (C := RX3) (T := TX3) (N := 5) rfl 1 (by decide) (hts (.fieldLink RX3 17 "SieveCabinet$Layers" "came" "[I") (by decide +kernel)) rfl rfl rfl rfl (Nat.le_of_ble_eq_true rfl) dX3_init_18 (fun H locs S => ?_)
  obtain ⟨f6, ef6⟩ : ∃ z_, z_ = va_up f4 h (.inr (3, [.ref q7, .ref q16, .null, .int 0, .int 0])) := ⟨_, rfl⟩
  have S : PS D g (va_A (va_pl L f) sz) s.heap s L5 f6 H locs := by rw [ef6]; exact S
  have e_q7 : f6 q7 = .inl (g 4, 20, .inr (.inr (.inr (.inr (fun _ => none))))) := up_ne ef6 (fun h => nq7_h h.symm) e_q7
  have e_q16 : f6 q16 = .inl (g 0, 20, .inl (fun _ => 0)) := up_ne ef6 (fun h => nq16_h h.symm) e_q16
  have e_h : f6 h = .inr (3, [.ref q7, .ref q16, .null, .int 0, .int 0]) := up_self ef6
  have fr : ∀ b, b ∈ L → b ≠ h → f6 b = f b := fun b mb nb0 => (up_ne ef6 nb0 rfl).trans (fr b mb nb0)
  refine lv_aload_n hx hb dX3_init_21 rfl (lv_at hl 0 rfl) ?_
  refine q_new (fs := [.null, .int 0]) (C := RX0) (T := TX0) (N := 2) (ci := 0) hx hb hts in_X0 tyX0 tyX0_ok hown (hts (.classLink RX3 21 RX0) (by decide +kernel)) (hts (.instantiable RX0 2) (by decide +kernel)) (hts (.initialized RX0) (by decide +kernel)) S rfl (fun j hj => by rcases (show j = 0 ∨ j = 1 by omega) with rfl | rfl <;> rfl) (Nat.le_of_ble_eq_true rfl) (Nat.le_of_ble_eq_true rfl) dX3_init_22 (fun q22 H nq22 S => ?_)
  refine W.widen (k := 3) (n := 42) (by decide) (by decide) ?_
  obtain ⟨f7, ef7⟩ : ∃ z_, z_ = va_up f6 q22 (.inr (0, [.null, .int 0])) := ⟨_, rfl⟩
  obtain ⟨L8, eL8⟩ : ∃ z_, z_ = L5 ++ [q22] := ⟨_, rfl⟩
  have S : PS D g (va_A (va_pl L f) sz) s.heap s L8 f7 H locs := by rw [ef7, eL8]; exact S
  have e_h : f7 h = .inr (3, [.ref q7, .ref q16, .null, .int 0, .int 0]) := up_ne ef7 (fun h => nq22 (h ▸ m_h)) e_h
  have nq22_h : h ≠ q22 := fun h => nq22 (h ▸ m_h)
  have m_h : h ∈ L8 := by rw [eL8]; exact List.mem_append_left _ m_h
  have e_q7 : f7 q7 = .inl (g 4, 20, .inr (.inr (.inr (.inr (fun _ => none))))) := up_ne ef7 (fun h => nq22 (h ▸ m_q7)) e_q7
  have nq22_q7 : q7 ≠ q22 := fun h => nq22 (h ▸ m_q7)
  have m_q7 : q7 ∈ L8 := by rw [eL8]; exact List.mem_append_left _ m_q7
  have e_q16 : f7 q16 = .inl (g 0, 20, .inl (fun _ => 0)) := up_ne ef7 (fun h => nq22 (h ▸ m_q16)) e_q16
  have nq22_q16 : q16 ≠ q22 := fun h => nq22 (h ▸ m_q16)
  have m_q16 : q16 ∈ L8 := by rw [eL8]; exact List.mem_append_left _ m_q16
  have e_q22 : f7 q22 = .inr (0, [.null, .int 0]) := up_self ef7
  have m_q22 : q22 ∈ L8 := by rw [eL8]; simp
  have nzq22 : q22 ∉ L := fun h => nq22 (mono _ h)
  have fr : ∀ b, b ∈ L → b ≠ h → f7 b = f b := fun b mb nb0 => (up_ne ef7 (fun h => nzq22 (h ▸ mb)) rfl).trans (fr b mb nb0)
  have mono : ∀ b, b ∈ L → b ∈ L8 := fun b h => by rw [eL8]; exact List.mem_append_left _ (mono b h)
  refine lv_dup hx hb dX3_init_25 rfl ?_
  refine q_nv (As := []) (rest := [.ref q22, .ref h]) (host := "SieveCabinet") ⟨hx, hb, hml, hown, hts⟩ (c_X0_init l D g m_q22 e_q22) ⟨va_cnB 0 hts gX3_init_X0_init_n23 rfl rfl rfl (S.1.2.1 _ (List.mem_of_getElem? (i := 7) rfl)) (hts (.initialized RX0) (by decide +kernel)) (by decide +kernel) ⟨Nat.le_of_ble_eq_true rfl, Nat.le_of_ble_eq_true rfl⟩, rfl, hts (.instanceMethod yX0_init) (by decide +kernel)⟩ S rfl hl.1 rfl (Nat.le_of_ble_eq_true rfl) dX3_init_26 ⟨Nat.le_of_ble_eq_true rfl, Nat.le_of_ble_eq_true rfl⟩ (fun L9 f10 H locs S w26 => ?_)
  refine W.widen (k := 4) (n := 1042) (by decide) (by decide) ?_
  obtain ⟨q826, mo26, fv26, ⟨nq826, m_q826, e_q826⟩, E_q22⟩ := w26
  have e_h : f10 h = .inr (3, [.ref q7, .ref q16, .null, .int 0, .int 0]) := (fv26 h m_h (fun h => nq22_h h)).trans e_h
  have e_q7 : f10 q7 = .inl (g 4, 20, .inr (.inr (.inr (.inr (fun _ => none))))) := (fv26 q7 m_q7 (fun h => nq22_q7 h)).trans e_q7
  have e_q16 : f10 q16 = .inl (g 0, 20, .inl (fun _ => 0)) := (fv26 q16 m_q16 (fun h => nq22_q16 h)).trans e_q16
  have nq826_h : h ≠ q826 := fun h => nq826 (h ▸ m_h)
  have nq826_q7 : q7 ≠ q826 := fun h => nq826 (h ▸ m_q7)
  have nq826_q16 : q16 ≠ q826 := fun h => nq826 (h ▸ m_q16)
  have nq826_q22 : q22 ≠ q826 := fun h => nq826 (h ▸ m_q22)
  have m_h : h ∈ L9 := mo26 h m_h
  have m_q7 : q7 ∈ L9 := mo26 q7 m_q7
  have m_q16 : q16 ∈ L9 := mo26 q16 m_q16
  have m_q22 : q22 ∈ L9 := mo26 q22 m_q22
  have e_q22 := E_q22
  have nzq826 : q826 ∉ L := fun h => nq826 (mono _ h)
  have fr : ∀ b, b ∈ L → b ≠ h → f10 b = f b := fun b mb nb0 => (fv26 b (mono b mb) (fun h => nzq22 (h ▸ mb))).trans (fr b mb nb0)
  have mono : ∀ b, b ∈ L → b ∈ L9 := fun b h => mo26 b (mono b h)
  refine q_putF hx hb hts in_X3 tyX3 tyX3_ok nmX3 hown hnm S m_h e_h (C := RX3) (T := TX3) (N := 5) rfl 2 (by decide) (hts (.fieldLink RX3 24 "SieveCabinet$Layers" "rest" "LSieveCabinet$Bag;") (by decide +kernel)) rfl rfl rfl rfl (Nat.le_of_ble_eq_true rfl) dX3_init_29 (fun H locs S => ?_)
  obtain ⟨f12, ef12⟩ : ∃ z_, z_ = va_up f10 h (.inr (3, [.ref q7, .ref q16, .ref q22, .int 0, .int 0])) := ⟨_, rfl⟩
  have S : PS D g (va_A (va_pl L f) sz) s.heap s L9 f12 H locs := by rw [ef12]; exact S
  have e_q7 : f12 q7 = .inl (g 4, 20, .inr (.inr (.inr (.inr (fun _ => none))))) := up_ne ef12 (fun h => nq7_h h.symm) e_q7
  have e_q16 : f12 q16 = .inl (g 0, 20, .inl (fun _ => 0)) := up_ne ef12 (fun h => nq16_h h.symm) e_q16
  have e_q22 : f12 q22 = .inr (0, [.ref q826, .int 0]) := up_ne ef12 (fun h => nq22_h h.symm) e_q22
  have e_q826 : f12 q826 = .inl (g 1, 1000, .inr (.inl (fun _ => 0))) := up_ne ef12 (fun h => nq826_h h.symm) e_q826
  have e_h : f12 h = .inr (3, [.ref q7, .ref q16, .ref q22, .int 0, .int 0]) := up_self ef12
  have fr : ∀ b, b ∈ L → b ≠ h → f12 b = f b := fun b mb nb0 => (up_ne ef12 nb0 rfl).trans (fr b mb nb0)
  refine lv_iconst (v := 0) hx hb dX3_init_32 (by decide) ?_
  refine lv_istore_n (lv' := [(1, .int 0), (0, .ref h)]) hx hb dX3_init_33 rfl hl (by decide) rfl (fun ls hl => ?_)
  have mono0 := mono
  have hm0 : q7 ∈ L9 := m_q7
  obtain ⟨i, ei⟩ : ∃ z_ : Nat, z_ = 0 := ⟨_, rfl⟩
  obtain ⟨kf, ekf⟩ : ∃ z_ : Nat → Option Nat, z_ = (fun _ => none) := ⟨_, rfl⟩
  obtain ⟨fl, efl⟩ : ∃ z_, z_ = f12 := ⟨_, rfl⟩
  obtain ⟨Ll, eLl⟩ : ∃ z_, z_ = L9 := ⟨_, rfl⟩
  have e_h : fl h = .inr (3, [.ref q7, .ref q16, .ref q22, .int 0, .int 0]) := by rw [efl]; exact e_h
  have m_h : h ∈ Ll := by rw [eLl]; exact m_h
  have e_q7 : fl q7 = .inl (g 4, 20, .inr (.inr (.inr (.inr kf)))) := by rw [efl, ekf]; exact e_q7
  have m_q7 : q7 ∈ Ll := by rw [eLl]; exact m_q7
  have e_q16 : fl q16 = .inl (g 0, 20, .inl (fun _ => 0)) := by rw [efl]; exact e_q16
  have m_q16 : q16 ∈ Ll := by rw [eLl]; exact m_q16
  have e_q22 : fl q22 = .inr (0, [.ref q826, .int 0]) := by rw [efl]; exact e_q22
  have m_q22 : q22 ∈ Ll := by rw [eLl]; exact m_q22
  have e_q826 : fl q826 = .inl (g 1, 1000, .inr (.inl (fun _ => 0))) := by rw [efl]; exact e_q826
  have m_q826 : q826 ∈ Ll := by rw [eLl]; exact m_q826
  have fr : ∀ b, b ∈ L → b ≠ h → fl b = f b := by rw [efl]; exact fr
  have mono : ∀ b, b ∈ L → b ∈ Ll := by rw [eLl]; exact mono
  have S_0 : PS D g (va_A (va_pl L f) sz) s.heap s Ll fl H locs := by rw [efl, eLl]; exact S
  refine W_any (X := fun H locs => PS D g (va_A (va_pl L f) sz) s.heap s Ll fl H locs) S_0 (fun H locs S => ?_)
  refine W_ls (lv := [(1, .int ((nI i))), (0, .ref h)]) (by have q := lv_sub hl [0, 1] rfl; rw [ei]; exact q) (fun ls hl => ?_)
  refine W.widen (k := 4 + 2 * i) (n := 1042 + 66 * i) (by omega) (by omega) ?_
  have hV : ∃ lb lw : Nat → Nat, (∀ j, j < i → kf j = some (lb j) ∧ lb j ∈ Ll ∧ fl (lb j) = .inr (1, [.ref (lw j), .int 0]) ∧ lw j ∈ Ll ∧ fl (lw j) = .inl (g 1, 64, .inr (.inl (fun _ => 0))) ∧ lb j ∉ L9 ∧ lw j ∉ L9) ∧ ∀ j k, j < i → k < i → j ≠ k → lb j ≠ lb k ∧ lw j ≠ lw k := by exact ⟨fun _ => 0, fun _ => 0, fun j hj9 => absurd hj9 (by omega), fun j k hj9 => absurd hj9 (by omega)⟩
  have hLp : ∀ b, b ∈ L9 → b ∈ Ll := by rw [eLl]; exact fun _ h => h
  obtain ⟨d, hd⟩ : ∃ z_ : Nat, i + z_ = 20 := ⟨20 - i, by omega⟩
  clear ei ekf efl eLl S_0
  induction d generalizing i kf fl Ll H locs ls with
  | zero =>
    have hN : i = 20 := by omega
    refine W.widen (k := 44) (n := 2362) (by omega) (by omega) ?_
    refine lv_iload_n hx hb dX3_init_34 rfl (lv_at hl 0 rfl) ?_
    refine lv_bipush (v := 20) hx hb dX3_init_35 (by decide) ?_
    refine lv_icmp_ge (tgt := 59) hx hb dX3_init_37 (by decide) (fun b37 => ?_) (fun b37 => absurd (by rw [hN]; decide) b37)
    exact q_retv (post := fun L1 f1 => ∃ q16 : Nat, ∃ q22 : Nat, ∃ q826 : Nat, ∃ q7 : Nat, ∃ kf : Nat → Option Nat, (∀ b, b ∈ L → b ∈ L1) ∧ (∀ b, b ∈ L → b ≠ h → f1 b = f b) ∧ (q16 ∉ L ∧ q16 ∈ L1 ∧ f1 q16 = .inl (g 0, 20, .inl (fun _ => 0))) ∧ (q22 ∉ L ∧ q22 ∈ L1 ∧ f1 q22 = .inr (0, [.ref q826, .int 0])) ∧ (q826 ∉ L ∧ q826 ∈ L1 ∧ f1 q826 = .inl (g 1, 1000, .inr (.inl (fun _ => 0)))) ∧ (q7 ∉ L ∧ q7 ∈ L1 ∧ f1 q7 = .inl (g 4, 20, .inr (.inr (.inr (.inr kf))))) ∧ f1 h = .inr (3, [.ref q7, .ref q16, .ref q22, .int 0, .int 0]) ∧ ∃ lb lw : Nat → Nat, LF g L1 f1 kf lb lw (fun _ => 0) (fun _ _ => 0) ∧ LD lb lw ∧ ∀ j, j < 20 → lb j ∉ L ∧ lw j ∉ L) hx hb hr hlk S dX3_init_59 (by decide) (by decide) (⟨q16, q22, q826, q7, kf, mono, fr, ⟨nzq16, m_q16, e_q16⟩, ⟨nzq22, m_q22, e_q22⟩, ⟨nzq826, m_q826, e_q826⟩, ⟨nzq7, m_q7, e_q7⟩, e_h, famE hV hN mono0⟩)
  | succ d ih =>
    have hlt : i < 20 := by omega
    have fr2 : ∀ b, b ∈ Ll → b ≠ q7 → fl b = fl b := fun _ _ _ => rfl
    have mono2 : ∀ b, b ∈ Ll → b ∈ Ll := fun _ h => h
    refine lv_iload_n hx hb dX3_init_34 rfl (lv_at hl 0 rfl) ?_
    refine lv_bipush (v := 20) hx hb dX3_init_35 (by decide) ?_
    refine lv_icmp_ge (tgt := 59) hx hb dX3_init_37 (by decide) (fun b37 => absurd b37 (nI_ge (b := 20) hlt (by decide))) (fun b37 => ?_)
    refine lv_aload_n hx hb dX3_init_40 rfl (lv_at hl 1 rfl) ?_
    refine q_get hx hb hts in_X3 hown S m_h e_h (C := RX3) (T := TX3) (N := 5) rfl 0 (by decide) rfl (hts (.fieldLink RX3 13 "SieveCabinet$Layers" "rows" "[LSieveCabinet$BitRow;") (by decide +kernel)) dX3_init_41 ?_
    refine lv_iload_n hx hb dX3_init_44 rfl (lv_at hl 0 rfl) ?_
    refine q_new (fs := [.null, .int 0]) (C := RX1) (T := TX1) (N := 2) (ci := 1) hx hb hts in_X1 tyX1 tyX1_ok hown (hts (.classLink RX3 11 RX1) (by decide +kernel)) (hts (.instantiable RX1 2) (by decide +kernel)) (hts (.initialized RX1) (by decide +kernel)) S rfl (fun j hj => by rcases (show j = 0 ∨ j = 1 by omega) with rfl | rfl <;> rfl) (by dsimp only; omega) (by dsimp only; omega) dX3_init_45 (fun q45 H nq45 S => ?_)
    refine W.widen (k := 4 + 2 * i + 1) (n := 1042 + 66 * i + 2) (by omega) (by omega) ?_
    obtain ⟨f13, ef13⟩ : ∃ z_, z_ = va_up fl q45 (.inr (1, [.null, .int 0])) := ⟨_, rfl⟩
    obtain ⟨L14, eL14⟩ : ∃ z_, z_ = Ll ++ [q45] := ⟨_, rfl⟩
    have S : PS D g (va_A (va_pl L f) sz) s.heap s L14 f13 H locs := by rw [ef13, eL14]; exact S
    have e_h : f13 h = .inr (3, [.ref q7, .ref q16, .ref q22, .int 0, .int 0]) := up_ne ef13 (fun h => nq45 (h ▸ m_h)) e_h
    have nq45_h : h ≠ q45 := fun h => nq45 (h ▸ m_h)
    have m_h : h ∈ L14 := by rw [eL14]; exact List.mem_append_left _ m_h
    have e_q7 : f13 q7 = .inl (g 4, 20, .inr (.inr (.inr (.inr kf)))) := up_ne ef13 (fun h => nq45 (h ▸ m_q7)) e_q7
    have nq45_q7 : q7 ≠ q45 := fun h => nq45 (h ▸ m_q7)
    have m_q7 : q7 ∈ L14 := by rw [eL14]; exact List.mem_append_left _ m_q7
    have e_q16 : f13 q16 = .inl (g 0, 20, .inl (fun _ => 0)) := up_ne ef13 (fun h => nq45 (h ▸ m_q16)) e_q16
    have nq45_q16 : q16 ≠ q45 := fun h => nq45 (h ▸ m_q16)
    have m_q16 : q16 ∈ L14 := by rw [eL14]; exact List.mem_append_left _ m_q16
    have e_q22 : f13 q22 = .inr (0, [.ref q826, .int 0]) := up_ne ef13 (fun h => nq45 (h ▸ m_q22)) e_q22
    have nq45_q22 : q22 ≠ q45 := fun h => nq45 (h ▸ m_q22)
    have m_q22 : q22 ∈ L14 := by rw [eL14]; exact List.mem_append_left _ m_q22
    have e_q826 : f13 q826 = .inl (g 1, 1000, .inr (.inl (fun _ => 0))) := up_ne ef13 (fun h => nq45 (h ▸ m_q826)) e_q826
    have nq45_q826 : q826 ≠ q45 := fun h => nq45 (h ▸ m_q826)
    have m_q826 : q826 ∈ L14 := by rw [eL14]; exact List.mem_append_left _ m_q826
    have e_q45 : f13 q45 = .inr (1, [.null, .int 0]) := up_self ef13
    have m_q45 : q45 ∈ L14 := by rw [eL14]; simp
    have nzq45 : q45 ∉ L := fun h => nq45 (mono _ h)
    have fr : ∀ b, b ∈ L → b ≠ h → f13 b = f b := fun b mb nb0 => (up_ne ef13 (fun h => nzq45 (h ▸ mb)) rfl).trans (fr b mb nb0)
    have mono : ∀ b, b ∈ L → b ∈ L14 := fun b h => by rw [eL14]; exact List.mem_append_left _ (mono b h)
    have nz2q45 : q45 ∉ Ll := fun h => nq45 (mono2 _ h)
    have fr2 : ∀ b, b ∈ Ll → b ≠ q7 → f13 b = fl b := fun b mb nb0 => (up_ne ef13 (fun h => nz2q45 (h ▸ mb)) rfl).trans (fr2 b mb nb0)
    have mono2 : ∀ b, b ∈ Ll → b ∈ L14 := fun b h => by rw [eL14]; exact List.mem_append_left _ (mono2 b h)
    refine lv_dup hx hb dX3_init_48 rfl ?_
    refine q_nv (As := []) (rest := [.ref q45, .int ((nI i)), .ref q7]) (host := "SieveCabinet") ⟨hx, hb, hml, hown, hts⟩ (c_X1_init l D g m_q45 e_q45) ⟨va_cnB 0 hts gX3_init_X1_init_n28 rfl rfl rfl (S.1.2.1 _ (List.mem_of_getElem? (i := 8) rfl)) (hts (.initialized RX1) (by decide +kernel)) (by decide +kernel) ⟨Nat.le_of_ble_eq_true rfl, Nat.le_of_ble_eq_true rfl⟩, rfl, hts (.instanceMethod yX1_init) (by decide +kernel)⟩ S rfl hl.1 rfl (Nat.le_of_ble_eq_true rfl) dX3_init_49 ⟨(by dsimp only; omega), (by dsimp only; omega)⟩ (fun L15 f16 H locs S w49 => ?_)
    refine W.widen (k := 4 + 2 * i + 2) (n := 1042 + 66 * i + 66) (by omega) (by omega) ?_
    obtain ⟨q749, mo49, fv49, ⟨nq749, m_q749, e_q749⟩, E_q45⟩ := w49
    have e_h : f16 h = .inr (3, [.ref q7, .ref q16, .ref q22, .int 0, .int 0]) := (fv49 h m_h (fun h => nq45_h h)).trans e_h
    have e_q7 : f16 q7 = .inl (g 4, 20, .inr (.inr (.inr (.inr kf)))) := (fv49 q7 m_q7 (fun h => nq45_q7 h)).trans e_q7
    have e_q16 : f16 q16 = .inl (g 0, 20, .inl (fun _ => 0)) := (fv49 q16 m_q16 (fun h => nq45_q16 h)).trans e_q16
    have e_q22 : f16 q22 = .inr (0, [.ref q826, .int 0]) := (fv49 q22 m_q22 (fun h => nq45_q22 h)).trans e_q22
    have e_q826 : f16 q826 = .inl (g 1, 1000, .inr (.inl (fun _ => 0))) := (fv49 q826 m_q826 (fun h => nq45_q826 h)).trans e_q826
    have nq749_h : h ≠ q749 := fun h => nq749 (h ▸ m_h)
    have nq749_q7 : q7 ≠ q749 := fun h => nq749 (h ▸ m_q7)
    have nq749_q16 : q16 ≠ q749 := fun h => nq749 (h ▸ m_q16)
    have nq749_q22 : q22 ≠ q749 := fun h => nq749 (h ▸ m_q22)
    have nq749_q826 : q826 ≠ q749 := fun h => nq749 (h ▸ m_q826)
    have nq749_q45 : q45 ≠ q749 := fun h => nq749 (h ▸ m_q45)
    have m_h : h ∈ L15 := mo49 h m_h
    have m_q7 : q7 ∈ L15 := mo49 q7 m_q7
    have m_q16 : q16 ∈ L15 := mo49 q16 m_q16
    have m_q22 : q22 ∈ L15 := mo49 q22 m_q22
    have m_q826 : q826 ∈ L15 := mo49 q826 m_q826
    have m_q45 : q45 ∈ L15 := mo49 q45 m_q45
    have e_q45 := E_q45
    have nzq749 : q749 ∉ L := fun h => nq749 (mono _ h)
    have fr : ∀ b, b ∈ L → b ≠ h → f16 b = f b := fun b mb nb0 => (fv49 b (mono b mb) (fun h => nzq45 (h ▸ mb))).trans (fr b mb nb0)
    have mono : ∀ b, b ∈ L → b ∈ L15 := fun b h => mo49 b (mono b h)
    have nz2q749 : q749 ∉ Ll := fun h => nq749 (mono2 _ h)
    have fr2 : ∀ b, b ∈ Ll → b ≠ q7 → f16 b = fl b := fun b mb nb0 => (fv49 b (mono2 b mb) (fun h => nz2q45 (h ▸ mb))).trans (fr2 b mb nb0)
    have mono2 : ∀ b, b ∈ Ll → b ∈ L15 := fun b h => mo49 b (mono2 b h)
    refine q_ast hx hb S m_q7 4 (r := (RX1, TX1, 2)) rfl e_q7 m_q45 e_q45 rfl (vp_in_nI hlt (by decide)) dX3_init_52 (fun H locs S => ?_)
    obtain ⟨f18, ef18⟩ : ∃ z_, z_ = va_up f16 q7 (.inl (g 4, 20, .inr (.inr (.inr (.inr (va_up kf ((nI i) : Int32).toNatClampNeg (some q45))))))) := ⟨_, rfl⟩
    have S : PS D g (va_A (va_pl L f) sz) s.heap s L15 f18 H locs := by rw [ef18]; exact S
    have e_h : f18 h = .inr (3, [.ref q7, .ref q16, .ref q22, .int 0, .int 0]) := up_ne ef18 (fun h => nq7_h h) e_h
    have e_q16 : f18 q16 = .inl (g 0, 20, .inl (fun _ => 0)) := up_ne ef18 (fun h => nq16_q7 h.symm) e_q16
    have e_q22 : f18 q22 = .inr (0, [.ref q826, .int 0]) := up_ne ef18 (fun h => nq22_q7 h.symm) e_q22
    have e_q826 : f18 q826 = .inl (g 1, 1000, .inr (.inl (fun _ => 0))) := up_ne ef18 (fun h => nq826_q7 h.symm) e_q826
    have e_q45 : f18 q45 = .inr (1, [.ref q749, .int 0]) := up_ne ef18 (fun h => nq45_q7 h.symm) e_q45
    have e_q749 : f18 q749 = .inl (g 1, 64, .inr (.inl (fun _ => 0))) := up_ne ef18 (fun h => nq749_q7 h.symm) e_q749
    have e_q7 : f18 q7 = .inl (g 4, 20, .inr (.inr (.inr (.inr (va_up kf ((nI i) : Int32).toNatClampNeg (some q45)))))) := up_self ef18
    have fr : ∀ b, b ∈ L → b ≠ h → f18 b = f b := fun b mb nb0 => (up_ne ef18 (fun h => nzq7 (h ▸ mb)) rfl).trans (fr b mb nb0)
    have fr2 : ∀ b, b ∈ Ll → b ≠ q7 → f18 b = fl b := fun b mb nb0 => (up_ne ef18 nb0 rfl).trans (fr2 b mb nb0)
    obtain ⟨i1, ei1⟩ : ∃ y : Int32, y = (nI i) + (1) := ⟨_, rfl⟩
    refine lv_iinc (v := i1) (lv' := [(1, .int i1), (0, .ref h)]) hx hb dX3_init_53 hl (k := 0) rfl (by rw [ei1]; rfl) (by decide) rfl (fun ls hl => ?_)
    refine lv_goto (tgt := 34) hx hb dX3_init_56 (by decide) ?_
    refine W.widen (k := 4 + 2 * (i + 1)) (n := 1042 + 66 * (i + 1)) (by omega) (by omega) ?_
    exact ih (i := i + 1) (kf := (va_up kf ((nI i) : Int32).toNatClampNeg (some q45))) (fl := f18) (Ll := L15) (e_h := e_h) (m_h := m_h) (e_q7 := e_q7) (m_q7 := m_q7) (e_q16 := e_q16) (m_q16 := m_q16) (e_q22 := e_q22) (m_q22 := m_q22) (e_q826 := e_q826) (m_q826 := m_q826) (fr := fr) (mono := mono) (H := _) (locs := _) (S := S) (ls := ls) (hd := by omega) (hV := by exact famS hV (by omega) nz2q45 nz2q749 m_q45 e_q45 m_q749 e_q749 hLp mono2 fr2 hm0) (hLp := fun b h => mono2 b (hLp b h)) (hl := by have q := lv_sub hl [0, 1] rfl; rw [ei1, nI_1] at q; exact q)
