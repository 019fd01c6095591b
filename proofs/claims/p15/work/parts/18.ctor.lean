set_option maxRecDepth 20000 in
theorem gu_wsX0_init_2 : ∀ w ∈ wsX00, w ∈ wsX0_init := fun _ h => List.mem_cons_of_mem _ (List.mem_append_right _ h)
set_option maxRecDepth 20000 in
theorem gu_wsX0_init_1 : ∀ w ∈ ([Cond.methodLink RX0 3 objectInit, Cond.instanceMethod objectInit, Cond.code objectInit ⟨#[0xb1]⟩ 1 none, Cond.arrayClass .long, Cond.fieldLink RX0 9 "SieveCabinet$Bag" "row" "[J"] : List Cond), w ∈ wsX0_init := fun _ h => List.mem_cons_of_mem _ (List.mem_append_left _ h)
set_option maxHeartbeats 4000000 in
set_option maxRecDepth 100000 in
/-- SieveCabinet$Bag.<init> -/
theorem c_X0_init (l : Launch) (D : va_G) (g : Nat → ClassId) {L : List Nat} {f : Nat → va_E} {h : Nat} (m_h : h ∈ L) (e_h : f h = .inr (0, [.null, .int 0]))  : cV l yX0_init wsX0_init { frames := 1, cells := 1, slots := 1000, locals := 12 } D g [.ref h] L f 1 1000 (fun L1 f1 => ∃ q8 : Nat, (∀ b, b ∈ L → b ∈ L1) ∧ (∀ b, b ∈ L → b ≠ h → f1 b = f b) ∧ (q8 ∉ L ∧ q8 ∈ L1 ∧ f1 q8 = .inl (g 1, 1000, .inr (.inl (fun _ => 0)))) ∧ f1 h = .inr (0, [.ref q8, .int 0])) := by
  refine cV_of (cc := cX0_init) (maxL := 1) (ret := none) (by decide) rfl (Nat.le_of_ble_eq_true rfl) ?_
  intro sz p e s m below meth c hx hb hr hml hts hown hlk hnm S ls hl
  have hl : lv_has ls 1 [(0, .ref h)] := hl
  have in_X0 : ∀ w ∈ wsX00, w ∈ wsX0_init := gu_wsX0_init_2
  have fr : ∀ b, b ∈ L → b ≠ h → f b = f b := fun _ _ _ => rfl
  have mono : ∀ b, b ∈ L → b ∈ L := fun _ h => h
  refine lv_aload_n hx hb dX0_init_0 rfl (lv_at hl 0 rfl) ?_
  refine W.objInit hx hb hown (hts (.methodLink RX0 3 objectInit) (gu_wsX0_init_1 _ gm_0)) (hts (.instanceMethod objectInit) (gu_wsX0_init_1 _ gm_1)) (hts (.code objectInit ⟨#[0xb1]⟩ 1 none) (gu_wsX0_init_1 _ gm_2)) rfl (by rw [hml]; exact hl.1) rfl dX0_init_1 (Nat.le_of_ble_eq_true rfl) (Nat.le_of_ble_eq_true rfl) ?_
  refine W.eq (g2 := F0 m 4 ls []) rfl ?_
  refine lv_aload_n hx hb dX0_init_4 rfl (lv_at hl 0 rfl) ?_
  refine lv_sipush (v := 1000) hx hb dX0_init_5 (by decide) ?_
  refine q_newl hx hb (hts (.arrayClass .long) (gu_wsX0_init_1 _ gm_3)) S (N' := 1000) (by decide) (by decide) (by decide) (Nat.le_of_ble_eq_true rfl) (Nat.le_of_ble_eq_true rfl) dX0_init_8 (fun q8 H nq8 S => ?_)
  refine W.widen (k := 1) (n := 1000) (by decide) (by decide) ?_
  obtain ⟨f1, ef1⟩ : ∃ z_, z_ = va_up f q8 (.inl (g 1, 1000, .inr (.inl (fun _ => 0)))) := ⟨_, rfl⟩
  obtain ⟨L2, eL2⟩ : ∃ z_, z_ = L ++ [q8] := ⟨_, rfl⟩
  have S : PS D g (va_A (va_pl L f) sz) s.heap s L2 f1 H [] := by rw [ef1, eL2]; exact S
  have e_h : f1 h = .inr (0, [.null, .int 0]) := up_ne ef1 (fun h => nq8 (h ▸ m_h)) e_h
  have nq8_h : h ≠ q8 := fun h => nq8 (h ▸ m_h)
  have m_h : h ∈ L2 := by rw [eL2]; exact List.mem_append_left _ m_h
  have e_q8 : f1 q8 = .inl (g 1, 1000, .inr (.inl (fun _ => 0))) := up_self ef1
  have m_q8 : q8 ∈ L2 := by rw [eL2]; simp
  have nzq8 : q8 ∉ L := fun h => nq8 (mono _ h)
  have fr : ∀ b, b ∈ L → b ≠ h → f1 b = f b := fun b mb nb0 => (up_ne ef1 (fun h => nzq8 (h ▸ mb)) rfl).trans (fr b mb nb0)
  have mono : ∀ b, b ∈ L → b ∈ L2 := fun b h => by rw [eL2]; exact List.mem_append_left _ (mono b h)
  refine q_putF hx hb hts in_X0 tyX0 tyX0_ok nmX0 hown hnm S m_h e_h (C := RX0) (T := TX0) (N := 2) rfl 0 (by decide) (hts (.fieldLink RX0 9 "SieveCabinet$Bag" "row" "[J") (gu_wsX0_init_1 _ gm_4)) rfl rfl rfl rfl (Nat.le_of_ble_eq_true rfl) dX0_init_10 (fun H locs S => ?_)
  obtain ⟨f3, ef3⟩ : ∃ z_, z_ = va_up f1 h (.inr (0, [.ref q8, .int 0])) := ⟨_, rfl⟩
  have S : PS D g (va_A (va_pl L f) sz) s.heap s L2 f3 H locs := by rw [ef3]; exact S
  have e_q8 : f3 q8 = .inl (g 1, 1000, .inr (.inl (fun _ => 0))) := up_ne ef3 (fun h => nq8_h h.symm) e_q8
  have e_h : f3 h = .inr (0, [.ref q8, .int 0]) := up_self ef3
  have fr : ∀ b, b ∈ L → b ≠ h → f3 b = f b := fun b mb nb0 => (up_ne ef3 nb0 rfl).trans (fr b mb nb0)
  exact q_retv (post := fun L1 f1 => ∃ q8 : Nat, (∀ b, b ∈ L → b ∈ L1) ∧ (∀ b, b ∈ L → b ≠ h → f1 b = f b) ∧ (q8 ∉ L ∧ q8 ∈ L1 ∧ f1 q8 = .inl (g 1, 1000, .inr (.inl (fun _ => 0)))) ∧ f1 h = .inr (0, [.ref q8, .int 0])) hx hb hr hlk S dX0_init_13 (by decide) (by decide) (⟨q8, mono, fr, ⟨nzq8, m_q8, e_q8⟩, e_h⟩)

set_option maxRecDepth 20000 in
theorem gu_wsX1_init_2 : ∀ w ∈ wsX10, w ∈ wsX1_init := fun _ h => List.mem_cons_of_mem _ (List.mem_append_right _ h)
set_option maxRecDepth 20000 in
theorem gu_wsX1_init_1 : ∀ w ∈ ([Cond.methodLink RX1 3 objectInit, Cond.instanceMethod objectInit, Cond.code objectInit ⟨#[0xb1]⟩ 1 none, Cond.arrayClass .long, Cond.fieldLink RX1 9 "SieveCabinet$BitRow" "words" "[J"] : List Cond), w ∈ wsX1_init := fun _ h => List.mem_cons_of_mem _ (List.mem_append_left _ h)
set_option maxHeartbeats 4000000 in
set_option maxRecDepth 100000 in
/-- SieveCabinet$BitRow.<init> -/
theorem c_X1_init (l : Launch) (D : va_G) (g : Nat → ClassId) {L : List Nat} {f : Nat → va_E} {h : Nat} (m_h : h ∈ L) (e_h : f h = .inr (1, [.null, .int 0]))  : cV l yX1_init wsX1_init { frames := 1, cells := 1, slots := 64, locals := 12 } D g [.ref h] L f 1 64 (fun L1 f1 => ∃ q7 : Nat, (∀ b, b ∈ L → b ∈ L1) ∧ (∀ b, b ∈ L → b ≠ h → f1 b = f b) ∧ (q7 ∉ L ∧ q7 ∈ L1 ∧ f1 q7 = .inl (g 1, 64, .inr (.inl (fun _ => 0)))) ∧ f1 h = .inr (1, [.ref q7, .int 0])) := by
  refine cV_of (cc := cX1_init) (maxL := 1) (ret := none) (by decide) rfl (Nat.le_of_ble_eq_true rfl) ?_
  intro sz p e s m below meth c hx hb hr hml hts hown hlk hnm S ls hl
  have hl : lv_has ls 1 [(0, .ref h)] := hl
  have in_X1 : ∀ w ∈ wsX10, w ∈ wsX1_init := gu_wsX1_init_2
  have fr : ∀ b, b ∈ L → b ≠ h → f b = f b := fun _ _ _ => rfl
  have mono : ∀ b, b ∈ L → b ∈ L := fun _ h => h
  refine lv_aload_n hx hb dX1_init_0 rfl (lv_at hl 0 rfl) ?_
  refine W.objInit hx hb hown (hts (.methodLink RX1 3 objectInit) (gu_wsX1_init_1 _ gm_0)) (hts (.instanceMethod objectInit) (gu_wsX1_init_1 _ gm_1)) (hts (.code objectInit ⟨#[0xb1]⟩ 1 none) (gu_wsX1_init_1 _ gm_2)) rfl (by rw [hml]; exact hl.1) rfl dX1_init_1 (Nat.le_of_ble_eq_true rfl) (Nat.le_of_ble_eq_true rfl) ?_
  refine W.eq (g2 := F0 m 4 ls []) rfl ?_
  refine lv_aload_n hx hb dX1_init_4 rfl (lv_at hl 0 rfl) ?_
  refine lv_bipush (v := 64) hx hb dX1_init_5 (by decide) ?_
  refine q_newl hx hb (hts (.arrayClass .long) (gu_wsX1_init_1 _ gm_3)) S (N' := 64) (by decide) (by decide) (by decide) (Nat.le_of_ble_eq_true rfl) (Nat.le_of_ble_eq_true rfl) dX1_init_7 (fun q7 H nq7 S => ?_)
  refine W.widen (k := 1) (n := 64) (by decide) (by decide) ?_
  obtain ⟨f1, ef1⟩ : ∃ z_, z_ = va_up f q7 (.inl (g 1, 64, .inr (.inl (fun _ => 0)))) := ⟨_, rfl⟩
  obtain ⟨L2, eL2⟩ : ∃ z_, z_ = L ++ [q7] := ⟨_, rfl⟩
  have S : PS D g (va_A (va_pl L f) sz) s.heap s L2 f1 H [] := by rw [ef1, eL2]; exact S
  have e_h : f1 h = .inr (1, [.null, .int 0]) := up_ne ef1 (fun h => nq7 (h ▸ m_h)) e_h
  have nq7_h : h ≠ q7 := fun h => nq7 (h ▸ m_h)
  have m_h : h ∈ L2 := by rw [eL2]; exact List.mem_append_left _ m_h
  have e_q7 : f1 q7 = .inl (g 1, 64, .inr (.inl (fun _ => 0))) := up_self ef1
  have m_q7 : q7 ∈ L2 := by rw [eL2]; simp
  have nzq7 : q7 ∉ L := fun h => nq7 (mono _ h)
  have fr : ∀ b, b ∈ L → b ≠ h → f1 b = f b := fun b mb nb0 => (up_ne ef1 (fun h => nzq7 (h ▸ mb)) rfl).trans (fr b mb nb0)
  have mono : ∀ b, b ∈ L → b ∈ L2 := fun b h => by rw [eL2]; exact List.mem_append_left _ (mono b h)
  refine q_putF hx hb hts in_X1 tyX1 tyX1_ok nmX1 hown hnm S m_h e_h (C := RX1) (T := TX1) (N := 2) rfl 0 (by decide) (hts (.fieldLink RX1 9 "SieveCabinet$BitRow" "words" "[J") (gu_wsX1_init_1 _ gm_4)) rfl rfl rfl rfl (Nat.le_of_ble_eq_true rfl) dX1_init_9 (fun H locs S => ?_)
  obtain ⟨f3, ef3⟩ : ∃ z_, z_ = va_up f1 h (.inr (1, [.ref q7, .int 0])) := ⟨_, rfl⟩
  have S : PS D g (va_A (va_pl L f) sz) s.heap s L2 f3 H locs := by rw [ef3]; exact S
  have e_q7 : f3 q7 = .inl (g 1, 64, .inr (.inl (fun _ => 0))) := up_ne ef3 (fun h => nq7_h h.symm) e_q7
  have e_h : f3 h = .inr (1, [.ref q7, .int 0]) := up_self ef3
  have fr : ∀ b, b ∈ L → b ≠ h → f3 b = f b := fun b mb nb0 => (up_ne ef3 nb0 rfl).trans (fr b mb nb0)
  exact q_retv (post := fun L1 f1 => ∃ q7 : Nat, (∀ b, b ∈ L → b ∈ L1) ∧ (∀ b, b ∈ L → b ≠ h → f1 b = f b) ∧ (q7 ∉ L ∧ q7 ∈ L1 ∧ f1 q7 = .inl (g 1, 64, .inr (.inl (fun _ => 0)))) ∧ f1 h = .inr (1, [.ref q7, .int 0])) hx hb hr hlk S dX1_init_12 (by decide) (by decide) (⟨q7, mono, fr, ⟨nzq7, m_q7, e_q7⟩, e_h⟩)

set_option maxRecDepth 20000 in
theorem gu_wsX7_init_2 : ∀ w ∈ wsX70, w ∈ wsX7_init := fun _ h => List.mem_cons_of_mem _ (List.mem_append_left _ (List.mem_append_right _ h))
set_option maxHeartbeats 4000000 in
set_option maxRecDepth 100000 in
/-- SieveCabinet$Solver.<init> -/
theorem c_X7_init (l : Launch) (D : va_G) (g : Nat → ClassId) {L : List Nat} {f : Nat → va_E} {h : Nat} (m_h : h ∈ L) (e_h : f h = .inr (5, [.null, .null, .null, .null, .null, .null, .null, .int 0, .int 0]))  : cV l yX7_init wsX7_init { frames := 2, cells := 8, slots := 13614, locals := 32 } D g [.ref h] L f 8 13614 (fun L1 f1 => ∃ q8 : Nat, ∃ q17 : Nat, ∃ q26 : Nat, ∃ q35 : Nat, ∃ q41 : Nat, ∃ q745 : Nat, ∃ q55 : Nat, ∃ q64 : Nat, (∀ b, b ∈ L → b ∈ L1) ∧ (∀ b, b ∈ L → b ≠ h → f1 b = f b) ∧ (q8 ∉ L ∧ q8 ∈ L1 ∧ f1 q8 = .inl (g 0, 3000, .inl (fun _ => 0))) ∧ (q17 ∉ L ∧ q17 ∈ L1 ∧ f1 q17 = .inl (g 0, 1000, .inl (fun _ => 0))) ∧ (q26 ∉ L ∧ q26 ∈ L1 ∧ f1 q26 = .inl (g 0, 3774, .inl (fun _ => 0))) ∧ (q35 ∉ L ∧ q35 ∈ L1 ∧ f1 q35 = .inl (g 0, 3774, .inl (fun _ => 0))) ∧ (q41 ∉ L ∧ q41 ∈ L1 ∧ f1 q41 = .inr (1, [.ref q745, .int 0])) ∧ (q745 ∉ L ∧ q745 ∈ L1 ∧ f1 q745 = .inl (g 1, 64, .inr (.inl (fun _ => 0)))) ∧ (q55 ∉ L ∧ q55 ∈ L1 ∧ f1 q55 = .inl (g 0, 1000, .inl (fun _ => 0))) ∧ (q64 ∉ L ∧ q64 ∈ L1 ∧ f1 q64 = .inl (g 0, 1000, .inl (fun _ => 0))) ∧ f1 h = .inr (5, [.ref q8, .ref q17, .ref q26, .ref q35, .ref q41, .ref q55, .ref q64, .int 0, .int 0]) ∧ q35 ≠ q26) := by
  refine cV_of (cc := cX7_init) (maxL := 1) (ret := none) (by decide) rfl (Nat.le_of_ble_eq_true rfl) ?_
  intro sz p e s m below meth c hx hb hr hml hts hown hlk hnm S ls hl
  have hl : lv_has ls 1 [(0, .ref h)] := hl
  have in_X1 : ∀ w ∈ wsX10, w ∈ wsX7_init := gu_wsX7_init_3
  have in_X7 : ∀ w ∈ wsX70, w ∈ wsX7_init := gu_wsX7_init_2
  have fr : ∀ b, b ∈ L → b ≠ h → f b = f b := fun _ _ _ => rfl
  have mono : ∀ b, b ∈ L → b ∈ L := fun _ h => h
  refine lv_aload_n hx hb dX7_init_0 rfl (lv_at hl 0 rfl) ?_
  refine W.objInit hx hb hown (hts (.methodLink RX7 3 objectInit) (gu_wsX7_init_1 _ gm_0)) (hts (.instanceMethod objectInit) (gu_wsX7_init_1 _ gm_1)) (hts (.code objectInit ⟨#[0xb1]⟩ 1 none) (gu_wsX7_init_1 _ gm_2)) rfl (by rw [hml]; exact hl.1) rfl dX7_init_1 (Nat.le_of_ble_eq_true rfl) (Nat.le_of_ble_eq_true rfl) ?_
  refine W.eq (g2 := F0 m 4 ls []) rfl ?_
  refine lv_aload_n hx hb dX7_init_4 rfl (lv_at hl 0 rfl) ?_
  refine lv_sipush (v := 3000) hx hb dX7_init_5 (by decide) ?_
  refine q_newi hx hb (hts (.arrayClass .int) (gu_wsX7_init_1 _ gm_3)) S (N' := 3000) (by decide) (by decide) (by decide) (Nat.le_of_ble_eq_true rfl) (Nat.le_of_ble_eq_true rfl) dX7_init_8 (fun q8 H nq8 S => ?_)
  refine W.widen (k := 1) (n := 3000) (by decide) (by decide) ?_
  obtain ⟨f1, ef1⟩ : ∃ z_, z_ = va_up f q8 (.inl (g 0, 3000, .inl (fun _ => 0))) := ⟨_, rfl⟩
  obtain ⟨L2, eL2⟩ : ∃ z_, z_ = L ++ [q8] := ⟨_, rfl⟩
  have S : PS D g (va_A (va_pl L f) sz) s.heap s L2 f1 H [] := by rw [ef1, eL2]; exact S
  have e_h : f1 h = .inr (5, [.null, .null, .null, .null, .null, .null, .null, .int 0, .int 0]) := up_ne ef1 (fun h => nq8 (h ▸ m_h)) e_h
  have nq8_h : h ≠ q8 := fun h => nq8 (h ▸ m_h)
  have m_h : h ∈ L2 := by rw [eL2]; exact List.mem_append_left _ m_h
  have e_q8 : f1 q8 = .inl (g 0, 3000, .inl (fun _ => 0)) := up_self ef1
  have m_q8 : q8 ∈ L2 := by rw [eL2]; simp
  have nzq8 : q8 ∉ L := fun h => nq8 (mono _ h)
  have fr : ∀ b, b ∈ L → b ≠ h → f1 b = f b := fun b mb nb0 => (up_ne ef1 (fun h => nzq8 (h ▸ mb)) rfl).trans (fr b mb nb0)
  have mono : ∀ b, b ∈ L → b ∈ L2 := fun b h => by rw [eL2]; exact List.mem_append_left _ (mono b h)
  refine q_putF hx hb hts in_X7 tyX7 tyX7_ok nmX7 hown hnm S m_h e_h (C := RX7) (T := TX7) (N := 9) rfl 0 (by decide) (hts (.fieldLink RX7 9 "SieveCabinet$Solver" "placeOf" "[I") (gu_wsX7_init_1 _ gm_4)) rfl rfl rfl rfl (Nat.le_of_ble_eq_true rfl) dX7_init_10 (fun H locs S => ?_)
  obtain ⟨f3, ef3⟩ : ∃ z_, z_ = va_up f1 h (.inr (5, [.ref q8, .null, .null, .null, .null, .null, .null, .int 0, .int 0])) := ⟨_, rfl⟩
  have S : PS D g (va_A (va_pl L f) sz) s.heap s L2 f3 H locs := by rw [ef3]; exact S
  have e_q8 : f3 q8 = .inl (g 0, 3000, .inl (fun _ => 0)) := up_ne ef3 (fun h => nq8_h h.symm) e_q8
  have e_h : f3 h = .inr (5, [.ref q8, .null, .null, .null, .null, .null, .null, .int 0, .int 0]) := up_self ef3
  have fr : ∀ b, b ∈ L → b ≠ h → f3 b = f b := fun b mb nb0 => (up_ne ef3 nb0 rfl).trans (fr b mb nb0)
  refine lv_aload_n hx hb dX7_init_13 rfl (lv_at hl 0 rfl) ?_
  refine lv_sipush (v := 1000) hx hb dX7_init_14 (by decide) ?_
  refine q_newi hx hb (hts (.arrayClass .int) (gu_wsX7_init_1 _ gm_3)) S (N' := 1000) (by decide) (by decide) (by decide) (Nat.le_of_ble_eq_true rfl) (Nat.le_of_ble_eq_true rfl) dX7_init_17 (fun q17 H nq17 S => ?_)
  refine W.widen (k := 2) (n := 4000) (by decide) (by decide) ?_
  obtain ⟨f4, ef4⟩ : ∃ z_, z_ = va_up f3 q17 (.inl (g 0, 1000, .inl (fun _ => 0))) := ⟨_, rfl⟩
  obtain ⟨L5, eL5⟩ : ∃ z_, z_ = L2 ++ [q17] := ⟨_, rfl⟩
  have S : PS D g (va_A (va_pl L f) sz) s.heap s L5 f4 H locs := by rw [ef4, eL5]; exact S
  have e_h : f4 h = .inr (5, [.ref q8, .null, .null, .null, .null, .null, .null, .int 0, .int 0]) := up_ne ef4 (fun h => nq17 (h ▸ m_h)) e_h
  have nq17_h : h ≠ q17 := fun h => nq17 (h ▸ m_h)
  have m_h : h ∈ L5 := by rw [eL5]; exact List.mem_append_left _ m_h
  have e_q8 : f4 q8 = .inl (g 0, 3000, .inl (fun _ => 0)) := up_ne ef4 (fun h => nq17 (h ▸ m_q8)) e_q8
  have nq17_q8 : q8 ≠ q17 := fun h => nq17 (h ▸ m_q8)
  have m_q8 : q8 ∈ L5 := by rw [eL5]; exact List.mem_append_left _ m_q8
  have e_q17 : f4 q17 = .inl (g 0, 1000, .inl (fun _ => 0)) := up_self ef4
  have m_q17 : q17 ∈ L5 := by rw [eL5]; simp
  have nzq17 : q17 ∉ L := fun h => nq17 (mono _ h)
  have fr : ∀ b, b ∈ L → b ≠ h → f4 b = f b := fun b mb nb0 => (up_ne ef4 (fun h => nzq17 (h ▸ mb)) rfl).trans (fr b mb nb0)
  have mono : ∀ b, b ∈ L → b ∈ L5 := fun b h => by rw [eL5]; exact List.mem_append_left _ (mono b h)
  refine q_putF hx hb hts in_X7 tyX7 tyX7_ok nmX7 hown hnm S m_h e_h (C := RX7) (T := TX7) (N := 9) rfl 1 (by decide) (hts (.fieldLink RX7 15 "SieveCabinet$Solver" "tagOf" "[I") (gu_wsX7_init_1 _ gm_5)) rfl rfl rfl rfl (Nat.le_of_ble_eq_true rfl) dX7_init_19 (fun H locs S => ?_)
  obtain ⟨f6, ef6⟩ : ∃ z_, z_ = va_up f4 h (.inr (5, [.ref q8, .ref q17, .null, .null, .null, .null, .null, .int 0, .int 0])) := ⟨_, rfl⟩
  have S : PS D g (va_A (va_pl L f) sz) s.heap s L5 f6 H locs := by rw [ef6]; exact S
  have e_q8 : f6 q8 = .inl (g 0, 3000, .inl (fun _ => 0)) := up_ne ef6 (fun h => nq8_h h.symm) e_q8
  have e_q17 : f6 q17 = .inl (g 0, 1000, .inl (fun _ => 0)) := up_ne ef6 (fun h => nq17_h h.symm) e_q17
  have e_h : f6 h = .inr (5, [.ref q8, .ref q17, .null, .null, .null, .null, .null, .int 0, .int 0]) := up_self ef6
  have fr : ∀ b, b ∈ L → b ≠ h → f6 b = f b := fun b mb nb0 => (up_ne ef6 nb0 rfl).trans (fr b mb nb0)
  refine lv_aload_n hx hb dX7_init_22 rfl (lv_at hl 0 rfl) ?_
  refine lv_sipush (v := 3774) hx hb dX7_init_23 (by decide) ?_
  refine q_newi hx hb (hts (.arrayClass .int) (gu_wsX7_init_1 _ gm_3)) S (N' := 3774) (by decide) (by decide) (by decide) (Nat.le_of_ble_eq_true rfl) (Nat.le_of_ble_eq_true rfl) dX7_init_26 (fun q26 H nq26 S => ?_)
  refine W.widen (k := 3) (n := 7774) (by decide) (by decide) ?_
  obtain ⟨f7, ef7⟩ : ∃ z_, z_ = va_up f6 q26 (.inl (g 0, 3774, .inl (fun _ => 0))) := ⟨_, rfl⟩
  obtain ⟨L8, eL8⟩ : ∃ z_, z_ = L5 ++ [q26] := ⟨_, rfl⟩
  have S : PS D g (va_A (va_pl L f) sz) s.heap s L8 f7 H locs := by rw [ef7, eL8]; exact S
  have e_h : f7 h = .inr (5, [.ref q8, .ref q17, .null, .null, .null, .null, .null, .int 0, .int 0]) := up_ne ef7 (fun h => nq26 (h ▸ m_h)) e_h
  have nq26_h : h ≠ q26 := fun h => nq26 (h ▸ m_h)
  have m_h : h ∈ L8 := by rw [eL8]; exact List.mem_append_left _ m_h
  have e_q8 : f7 q8 = .inl (g 0, 3000, .inl (fun _ => 0)) := up_ne ef7 (fun h => nq26 (h ▸ m_q8)) e_q8
  have nq26_q8 : q8 ≠ q26 := fun h => nq26 (h ▸ m_q8)
  have m_q8 : q8 ∈ L8 := by rw [eL8]; exact List.mem_append_left _ m_q8
  have e_q17 : f7 q17 = .inl (g 0, 1000, .inl (fun _ => 0)) := up_ne ef7 (fun h => nq26 (h ▸ m_q17)) e_q17
  have nq26_q17 : q17 ≠ q26 := fun h => nq26 (h ▸ m_q17)
  have m_q17 : q17 ∈ L8 := by rw [eL8]; exact List.mem_append_left _ m_q17
  have e_q26 : f7 q26 = .inl (g 0, 3774, .inl (fun _ => 0)) := up_self ef7
  have m_q26 : q26 ∈ L8 := by rw [eL8]; simp
  have nzq26 : q26 ∉ L := fun h => nq26 (mono _ h)
  have fr : ∀ b, b ∈ L → b ≠ h → f7 b = f b := fun b mb nb0 => (up_ne ef7 (fun h => nzq26 (h ▸ mb)) rfl).trans (fr b mb nb0)
  have mono : ∀ b, b ∈ L → b ∈ L8 := fun b h => by rw [eL8]; exact List.mem_append_left _ (mono b h)
  refine q_putF hx hb hts in_X7 tyX7 tyX7_ok nmX7 hown hnm S m_h e_h (C := RX7) (T := TX7) (N := 9) rfl 2 (by decide) (hts (.fieldLink RX7 18 "SieveCabinet$Solver" "left" "[I") (gu_wsX7_init_1 _ gm_6)) rfl rfl rfl rfl (Nat.le_of_ble_eq_true rfl) dX7_init_28 (fun H locs S => ?_)
  obtain ⟨f9, ef9⟩ : ∃ z_, z_ = va_up f7 h (.inr (5, [.ref q8, .ref q17, .ref q26, .null, .null, .null, .null, .int 0, .int 0])) := ⟨_, rfl⟩
  have S : PS D g (va_A (va_pl L f) sz) s.heap s L8 f9 H locs := by rw [ef9]; exact S
  have e_q8 : f9 q8 = .inl (g 0, 3000, .inl (fun _ => 0)) := up_ne ef9 (fun h => nq8_h h.symm) e_q8
  have e_q17 : f9 q17 = .inl (g 0, 1000, .inl (fun _ => 0)) := up_ne ef9 (fun h => nq17_h h.symm) e_q17
  have e_q26 : f9 q26 = .inl (g 0, 3774, .inl (fun _ => 0)) := up_ne ef9 (fun h => nq26_h h.symm) e_q26
  have e_h : f9 h = .inr (5, [.ref q8, .ref q17, .ref q26, .null, .null, .null, .null, .int 0, .int 0]) := up_self ef9
  have fr : ∀ b, b ∈ L → b ≠ h → f9 b = f b := fun b mb nb0 => (up_ne ef9 nb0 rfl).trans (fr b mb nb0)
  refine lv_aload_n hx hb dX7_init_31 rfl (lv_at hl 0 rfl) ?_
  refine lv_sipush (v := 3774) hx hb dX7_init_32 (by decide) ?_
  refine q_newi hx hb (hts (.arrayClass .int) (gu_wsX7_init_1 _ gm_3)) S (N' := 3774) (by decide) (by decide) (by decide) (Nat.le_of_ble_eq_true rfl) (Nat.le_of_ble_eq_true rfl) dX7_init_35 (fun q35 H nq35 S => ?_)
  refine W.widen (k := 4) (n := 11548) (by decide) (by decide) ?_
  obtain ⟨f10, ef10⟩ : ∃ z_, z_ = va_up f9 q35 (.inl (g 0, 3774, .inl (fun _ => 0))) := ⟨_, rfl⟩
  obtain ⟨L11, eL11⟩ : ∃ z_, z_ = L8 ++ [q35] := ⟨_, rfl⟩
  have S : PS D g (va_A (va_pl L f) sz) s.heap s L11 f10 H locs := by rw [ef10, eL11]; exact S
  have e_h : f10 h = .inr (5, [.ref q8, .ref q17, .ref q26, .null, .null, .null, .null, .int 0, .int 0]) := up_ne ef10 (fun h => nq35 (h ▸ m_h)) e_h
  have nq35_h : h ≠ q35 := fun h => nq35 (h ▸ m_h)
  have m_h : h ∈ L11 := by rw [eL11]; exact List.mem_append_left _ m_h
  have e_q8 : f10 q8 = .inl (g 0, 3000, .inl (fun _ => 0)) := up_ne ef10 (fun h => nq35 (h ▸ m_q8)) e_q8
  have nq35_q8 : q8 ≠ q35 := fun h => nq35 (h ▸ m_q8)
  have m_q8 : q8 ∈ L11 := by rw [eL11]; exact List.mem_append_left _ m_q8
  have e_q17 : f10 q17 = .inl (g 0, 1000, .inl (fun _ => 0)) := up_ne ef10 (fun h => nq35 (h ▸ m_q17)) e_q17
  have nq35_q17 : q17 ≠ q35 := fun h => nq35 (h ▸ m_q17)
  have m_q17 : q17 ∈ L11 := by rw [eL11]; exact List.mem_append_left _ m_q17
  have e_q26 : f10 q26 = .inl (g 0, 3774, .inl (fun _ => 0)) := up_ne ef10 (fun h => nq35 (h ▸ m_q26)) e_q26
  have nq35_q26 : q26 ≠ q35 := fun h => nq35 (h ▸ m_q26)
  have m_q26 : q26 ∈ L11 := by rw [eL11]; exact List.mem_append_left _ m_q26
  have e_q35 : f10 q35 = .inl (g 0, 3774, .inl (fun _ => 0)) := up_self ef10
  have m_q35 : q35 ∈ L11 := by rw [eL11]; simp
  have nzq35 : q35 ∉ L := fun h => nq35 (mono _ h)
  have fr : ∀ b, b ∈ L → b ≠ h → f10 b = f b := fun b mb nb0 => (up_ne ef10 (fun h => nzq35 (h ▸ mb)) rfl).trans (fr b mb nb0)
  have mono : ∀ b, b ∈ L → b ∈ L11 := fun b h => by rw [eL11]; exact List.mem_append_left _ (mono b h)
  refine q_putF hx hb hts in_X7 tyX7 tyX7_ok nmX7 hown hnm S m_h e_h (C := RX7) (T := TX7) (N := 9) rfl 3 (by decide) (hts (.fieldLink RX7 21 "SieveCabinet$Solver" "blend" "[I") (gu_wsX7_init_1 _ gm_7)) rfl rfl rfl rfl (Nat.le_of_ble_eq_true rfl) dX7_init_37 (fun H locs S => ?_)
  obtain ⟨f12, ef12⟩ : ∃ z_, z_ = va_up f10 h (.inr (5, [.ref q8, .ref q17, .ref q26, .ref q35, .null, .null, .null, .int 0, .int 0])) := ⟨_, rfl⟩
  have S : PS D g (va_A (va_pl L f) sz) s.heap s L11 f12 H locs := by rw [ef12]; exact S
  have e_q8 : f12 q8 = .inl (g 0, 3000, .inl (fun _ => 0)) := up_ne ef12 (fun h => nq8_h h.symm) e_q8
  have e_q17 : f12 q17 = .inl (g 0, 1000, .inl (fun _ => 0)) := up_ne ef12 (fun h => nq17_h h.symm) e_q17
  have e_q26 : f12 q26 = .inl (g 0, 3774, .inl (fun _ => 0)) := up_ne ef12 (fun h => nq26_h h.symm) e_q26
  have e_q35 : f12 q35 = .inl (g 0, 3774, .inl (fun _ => 0)) := up_ne ef12 (fun h => nq35_h h.symm) e_q35
  have e_h : f12 h = .inr (5, [.ref q8, .ref q17, .ref q26, .ref q35, .null, .null, .null, .int 0, .int 0]) := up_self ef12
  have fr : ∀ b, b ∈ L → b ≠ h → f12 b = f b := fun b mb nb0 => (up_ne ef12 nb0 rfl).trans (fr b mb nb0)
  refine lv_aload_n hx hb dX7_init_40 rfl (lv_at hl 0 rfl) ?_
  refine q_new (fs := [.null, .int 0]) (C := RX1) (T := TX1) (N := 2) (ci := 1) hx hb hts in_X1 tyX1 tyX1_ok hown (hts (.classLink RX7 24 RX1) (gu_wsX7_init_1 _ gm_8)) (hts (.instantiable RX1 2) (gu_wsX7_init_1 _ gm_9)) (hts (.initialized RX1) (gu_wsX7_init_1 _ gm_10)) S rfl (fun j hj => by rcases (show j = 0 ∨ j = 1 by omega) with rfl | rfl <;> rfl) (Nat.le_of_ble_eq_true rfl) (Nat.le_of_ble_eq_true rfl) dX7_init_41 (fun q41 H nq41 S => ?_)
  refine W.widen (k := 5) (n := 11550) (by decide) (by decide) ?_
  obtain ⟨f13, ef13⟩ : ∃ z_, z_ = va_up f12 q41 (.inr (1, [.null, .int 0])) := ⟨_, rfl⟩
  obtain ⟨L14, eL14⟩ : ∃ z_, z_ = L11 ++ [q41] := ⟨_, rfl⟩
  have S : PS D g (va_A (va_pl L f) sz) s.heap s L14 f13 H locs := by rw [ef13, eL14]; exact S
  have e_h : f13 h = .inr (5, [.ref q8, .ref q17, .ref q26, .ref q35, .null, .null, .null, .int 0, .int 0]) := up_ne ef13 (fun h => nq41 (h ▸ m_h)) e_h
  have nq41_h : h ≠ q41 := fun h => nq41 (h ▸ m_h)
  have m_h : h ∈ L14 := by rw [eL14]; exact List.mem_append_left _ m_h
  have e_q8 : f13 q8 = .inl (g 0, 3000, .inl (fun _ => 0)) := up_ne ef13 (fun h => nq41 (h ▸ m_q8)) e_q8
  have nq41_q8 : q8 ≠ q41 := fun h => nq41 (h ▸ m_q8)
  have m_q8 : q8 ∈ L14 := by rw [eL14]; exact List.mem_append_left _ m_q8
  have e_q17 : f13 q17 = .inl (g 0, 1000, .inl (fun _ => 0)) := up_ne ef13 (fun h => nq41 (h ▸ m_q17)) e_q17
  have nq41_q17 : q17 ≠ q41 := fun h => nq41 (h ▸ m_q17)
  have m_q17 : q17 ∈ L14 := by rw [eL14]; exact List.mem_append_left _ m_q17
  have e_q26 : f13 q26 = .inl (g 0, 3774, .inl (fun _ => 0)) := up_ne ef13 (fun h => nq41 (h ▸ m_q26)) e_q26
  have nq41_q26 : q26 ≠ q41 := fun h => nq41 (h ▸ m_q26)
  have m_q26 : q26 ∈ L14 := by rw [eL14]; exact List.mem_append_left _ m_q26
  have e_q35 : f13 q35 = .inl (g 0, 3774, .inl (fun _ => 0)) := up_ne ef13 (fun h => nq41 (h ▸ m_q35)) e_q35
  have nq41_q35 : q35 ≠ q41 := fun h => nq41 (h ▸ m_q35)
  have m_q35 : q35 ∈ L14 := by rw [eL14]; exact List.mem_append_left _ m_q35
  have e_q41 : f13 q41 = .inr (1, [.null, .int 0]) := up_self ef13
  have m_q41 : q41 ∈ L14 := by rw [eL14]; simp
  have nzq41 : q41 ∉ L := fun h => nq41 (mono _ h)
  have fr : ∀ b, b ∈ L → b ≠ h → f13 b = f b := fun b mb nb0 => (up_ne ef13 (fun h => nzq41 (h ▸ mb)) rfl).trans (fr b mb nb0)
  have mono : ∀ b, b ∈ L → b ∈ L14 := fun b h => by rw [eL14]; exact List.mem_append_left _ (mono b h)
  refine lv_dup hx hb dX7_init_44 rfl ?_
  refine q_nv (As := []) (rest := [.ref q41, .ref h]) (host := "SieveCabinet") ⟨hx, hb, hml, hown, hts⟩ (c_X1_init l D g m_q41 e_q41) ⟨va_cnB 0 hts gX7_init_X1_init_n26 rfl rfl rfl (S.1.2.1 _ (List.mem_of_getElem? (i := 2) rfl)) (hts (.initialized RX1) (gu_wsX7_init_1 _ gm_10)) (by decide +kernel) ⟨Nat.le_of_ble_eq_true rfl, Nat.le_of_ble_eq_true rfl⟩, rfl, hts (.instanceMethod yX1_init) (by decide +kernel)⟩ S rfl hl.1 rfl (Nat.le_of_ble_eq_true rfl) dX7_init_45 ⟨Nat.le_of_ble_eq_true rfl, Nat.le_of_ble_eq_true rfl⟩ (fun L15 f16 H locs S w45 => ?_)
  refine W.widen (k := 6) (n := 11614) (by decide) (by decide) ?_
  obtain ⟨q745, mo45, fv45, ⟨nq745, m_q745, e_q745⟩, E_q41⟩ := w45
  have e_h : f16 h = .inr (5, [.ref q8, .ref q17, .ref q26, .ref q35, .null, .null, .null, .int 0, .int 0]) := (fv45 h m_h (fun h => nq41_h h)).trans e_h
  have e_q8 : f16 q8 = .inl (g 0, 3000, .inl (fun _ => 0)) := (fv45 q8 m_q8 (fun h => nq41_q8 h)).trans e_q8
  have e_q17 : f16 q17 = .inl (g 0, 1000, .inl (fun _ => 0)) := (fv45 q17 m_q17 (fun h => nq41_q17 h)).trans e_q17
  have e_q26 : f16 q26 = .inl (g 0, 3774, .inl (fun _ => 0)) := (fv45 q26 m_q26 (fun h => nq41_q26 h)).trans e_q26
  have e_q35 : f16 q35 = .inl (g 0, 3774, .inl (fun _ => 0)) := (fv45 q35 m_q35 (fun h => nq41_q35 h)).trans e_q35
  have nq745_h : h ≠ q745 := fun h => nq745 (h ▸ m_h)
  have nq745_q8 : q8 ≠ q745 := fun h => nq745 (h ▸ m_q8)
  have nq745_q17 : q17 ≠ q745 := fun h => nq745 (h ▸ m_q17)
  have nq745_q26 : q26 ≠ q745 := fun h => nq745 (h ▸ m_q26)
  have nq745_q35 : q35 ≠ q745 := fun h => nq745 (h ▸ m_q35)
  have nq745_q41 : q41 ≠ q745 := fun h => nq745 (h ▸ m_q41)
  have m_h : h ∈ L15 := mo45 h m_h
  have m_q8 : q8 ∈ L15 := mo45 q8 m_q8
  have m_q17 : q17 ∈ L15 := mo45 q17 m_q17
  have m_q26 : q26 ∈ L15 := mo45 q26 m_q26
  have m_q35 : q35 ∈ L15 := mo45 q35 m_q35
  have m_q41 : q41 ∈ L15 := mo45 q41 m_q41
  have e_q41 := E_q41
  have nzq745 : q745 ∉ L := fun h => nq745 (mono _ h)
  have fr : ∀ b, b ∈ L → b ≠ h → f16 b = f b := fun b mb nb0 => (fv45 b (mono b mb) (fun h => nzq41 (h ▸ mb))).trans (fr b mb nb0)
  have mono : ∀ b, b ∈ L → b ∈ L15 := fun b h => mo45 b (mono b h)
  refine q_putF hx hb hts in_X7 tyX7 tyX7_ok nmX7 hown hnm S m_h e_h (C := RX7) (T := TX7) (N := 9) rfl 4 (by decide) (hts (.fieldLink RX7 27 "SieveCabinet$Solver" "singles" "LSieveCabinet$BitRow;") (gu_wsX7_init_1 _ gm_11)) rfl rfl rfl rfl (Nat.le_of_ble_eq_true rfl) dX7_init_48 (fun H locs S => ?_)
  obtain ⟨f18, ef18⟩ : ∃ z_, z_ = va_up f16 h (.inr (5, [.ref q8, .ref q17, .ref q26, .ref q35, .ref q41, .null, .null, .int 0, .int 0])) := ⟨_, rfl⟩
  have S : PS D g (va_A (va_pl L f) sz) s.heap s L15 f18 H locs := by rw [ef18]; exact S
  have e_q8 : f18 q8 = .inl (g 0, 3000, .inl (fun _ => 0)) := up_ne ef18 (fun h => nq8_h h.symm) e_q8
  have e_q17 : f18 q17 = .inl (g 0, 1000, .inl (fun _ => 0)) := up_ne ef18 (fun h => nq17_h h.symm) e_q17
  have e_q26 : f18 q26 = .inl (g 0, 3774, .inl (fun _ => 0)) := up_ne ef18 (fun h => nq26_h h.symm) e_q26
  have e_q35 : f18 q35 = .inl (g 0, 3774, .inl (fun _ => 0)) := up_ne ef18 (fun h => nq35_h h.symm) e_q35
  have e_q41 : f18 q41 = .inr (1, [.ref q745, .int 0]) := up_ne ef18 (fun h => nq41_h h.symm) e_q41
  have e_q745 : f18 q745 = .inl (g 1, 64, .inr (.inl (fun _ => 0))) := up_ne ef18 (fun h => nq745_h h.symm) e_q745
  have e_h : f18 h = .inr (5, [.ref q8, .ref q17, .ref q26, .ref q35, .ref q41, .null, .null, .int 0, .int 0]) := up_self ef18
  have fr : ∀ b, b ∈ L → b ≠ h → f18 b = f b := fun b mb nb0 => (up_ne ef18 nb0 rfl).trans (fr b mb nb0)
  refine lv_aload_n hx hb dX7_init_51 rfl (lv_at hl 0 rfl) ?_
  refine lv_sipush (v := 1000) hx hb dX7_init_52 (by decide) ?_
  refine q_newi hx hb (hts (.arrayClass .int) (gu_wsX7_init_1 _ gm_3)) S (N' := 1000) (by decide) (by decide) (by decide) (Nat.le_of_ble_eq_true rfl) (Nat.le_of_ble_eq_true rfl) dX7_init_55 (fun q55 H nq55 S => ?_)
  refine W.widen (k := 7) (n := 12614) (by decide) (by decide) ?_
  obtain ⟨f19, ef19⟩ : ∃ z_, z_ = va_up f18 q55 (.inl (g 0, 1000, .inl (fun _ => 0))) := ⟨_, rfl⟩
  obtain ⟨L20, eL20⟩ : ∃ z_, z_ = L15 ++ [q55] := ⟨_, rfl⟩
  have S : PS D g (va_A (va_pl L f) sz) s.heap s L20 f19 H locs := by rw [ef19, eL20]; exact S
  have e_h : f19 h = .inr (5, [.ref q8, .ref q17, .ref q26, .ref q35, .ref q41, .null, .null, .int 0, .int 0]) := up_ne ef19 (fun h => nq55 (h ▸ m_h)) e_h
  have nq55_h : h ≠ q55 := fun h => nq55 (h ▸ m_h)
  have m_h : h ∈ L20 := by rw [eL20]; exact List.mem_append_left _ m_h
  have e_q8 : f19 q8 = .inl (g 0, 3000, .inl (fun _ => 0)) := up_ne ef19 (fun h => nq55 (h ▸ m_q8)) e_q8
  have nq55_q8 : q8 ≠ q55 := fun h => nq55 (h ▸ m_q8)
  have m_q8 : q8 ∈ L20 := by rw [eL20]; exact List.mem_append_left _ m_q8
  have e_q17 : f19 q17 = .inl (g 0, 1000, .inl (fun _ => 0)) := up_ne ef19 (fun h => nq55 (h ▸ m_q17)) e_q17
  have nq55_q17 : q17 ≠ q55 := fun h => nq55 (h ▸ m_q17)
  have m_q17 : q17 ∈ L20 := by rw [eL20]; exact List.mem_append_left _ m_q17
  have e_q26 : f19 q26 = .inl (g 0, 3774, .inl (fun _ => 0)) := up_ne ef19 (fun h => nq55 (h ▸ m_q26)) e_q26
  have nq55_q26 : q26 ≠ q55 := fun h => nq55 (h ▸ m_q26)
  have m_q26 : q26 ∈ L20 := by rw [eL20]; exact List.mem_append_left _ m_q26
  have e_q35 : f19 q35 = .inl (g 0, 3774, .inl (fun _ => 0)) := up_ne ef19 (fun h => nq55 (h ▸ m_q35)) e_q35
  have nq55_q35 : q35 ≠ q55 := fun h => nq55 (h ▸ m_q35)
  have m_q35 : q35 ∈ L20 := by rw [eL20]; exact List.mem_append_left _ m_q35
  have e_q41 : f19 q41 = .inr (1, [.ref q745, .int 0]) := up_ne ef19 (fun h => nq55 (h ▸ m_q41)) e_q41
  have nq55_q41 : q41 ≠ q55 := fun h => nq55 (h ▸ m_q41)
  have m_q41 : q41 ∈ L20 := by rw [eL20]; exact List.mem_append_left _ m_q41
  have e_q745 : f19 q745 = .inl (g 1, 64, .inr (.inl (fun _ => 0))) := up_ne ef19 (fun h => nq55 (h ▸ m_q745)) e_q745
  have nq55_q745 : q745 ≠ q55 := fun h => nq55 (h ▸ m_q745)
  have m_q745 : q745 ∈ L20 := by rw [eL20]; exact List.mem_append_left _ m_q745
  have e_q55 : f19 q55 = .inl (g 0, 1000, .inl (fun _ => 0)) := up_self ef19
  have m_q55 : q55 ∈ L20 := by rw [eL20]; simp
  have nzq55 : q55 ∉ L := fun h => nq55 (mono _ h)
  have fr : ∀ b, b ∈ L → b ≠ h → f19 b = f b := fun b mb nb0 => (up_ne ef19 (fun h => nzq55 (h ▸ mb)) rfl).trans (fr b mb nb0)
  have mono : ∀ b, b ∈ L → b ∈ L20 := fun b h => by rw [eL20]; exact List.mem_append_left _ (mono b h)
  refine q_putF hx hb hts in_X7 tyX7 tyX7_ok nmX7 hown hnm S m_h e_h (C := RX7) (T := TX7) (N := 9) rfl 5 (by decide) (hts (.fieldLink RX7 31 "SieveCabinet$Solver" "takenThing" "[I") (gu_wsX7_init_1 _ gm_12)) rfl rfl rfl rfl (Nat.le_of_ble_eq_true rfl) dX7_init_57 (fun H locs S => ?_)
  obtain ⟨f21, ef21⟩ : ∃ z_, z_ = va_up f19 h (.inr (5, [.ref q8, .ref q17, .ref q26, .ref q35, .ref q41, .ref q55, .null, .int 0, .int 0])) := ⟨_, rfl⟩
  have S : PS D g (va_A (va_pl L f) sz) s.heap s L20 f21 H locs := by rw [ef21]; exact S
  have e_q8 : f21 q8 = .inl (g 0, 3000, .inl (fun _ => 0)) := up_ne ef21 (fun h => nq8_h h.symm) e_q8
  have e_q17 : f21 q17 = .inl (g 0, 1000, .inl (fun _ => 0)) := up_ne ef21 (fun h => nq17_h h.symm) e_q17
  have e_q26 : f21 q26 = .inl (g 0, 3774, .inl (fun _ => 0)) := up_ne ef21 (fun h => nq26_h h.symm) e_q26
  have e_q35 : f21 q35 = .inl (g 0, 3774, .inl (fun _ => 0)) := up_ne ef21 (fun h => nq35_h h.symm) e_q35
  have e_q41 : f21 q41 = .inr (1, [.ref q745, .int 0]) := up_ne ef21 (fun h => nq41_h h.symm) e_q41
  have e_q745 : f21 q745 = .inl (g 1, 64, .inr (.inl (fun _ => 0))) := up_ne ef21 (fun h => nq745_h h.symm) e_q745
  have e_q55 : f21 q55 = .inl (g 0, 1000, .inl (fun _ => 0)) := up_ne ef21 (fun h => nq55_h h.symm) e_q55
  have e_h : f21 h = .inr (5, [.ref q8, .ref q17, .ref q26, .ref q35, .ref q41, .ref q55, .null, .int 0, .int 0]) := up_self ef21
  have fr : ∀ b, b ∈ L → b ≠ h → f21 b = f b := fun b mb nb0 => (up_ne ef21 nb0 rfl).trans (fr b mb nb0)
  refine lv_aload_n hx hb dX7_init_60 rfl (lv_at hl 0 rfl) ?_
  refine lv_sipush (v := 1000) hx hb dX7_init_61 (by decide) ?_
  refine q_newi hx hb (hts (.arrayClass .int) (gu_wsX7_init_1 _ gm_3)) S (N' := 1000) (by decide) (by decide) (by decide) (Nat.le_of_ble_eq_true rfl) (Nat.le_of_ble_eq_true rfl) dX7_init_64 (fun q64 H nq64 S => ?_)
  refine W.widen (k := 8) (n := 13614) (by decide) (by decide) ?_
  obtain ⟨f22, ef22⟩ : ∃ z_, z_ = va_up f21 q64 (.inl (g 0, 1000, .inl (fun _ => 0))) := ⟨_, rfl⟩
  obtain ⟨L23, eL23⟩ : ∃ z_, z_ = L20 ++ [q64] := ⟨_, rfl⟩
  have S : PS D g (va_A (va_pl L f) sz) s.heap s L23 f22 H locs := by rw [ef22, eL23]; exact S
  have e_h : f22 h = .inr (5, [.ref q8, .ref q17, .ref q26, .ref q35, .ref q41, .ref q55, .null, .int 0, .int 0]) := up_ne ef22 (fun h => nq64 (h ▸ m_h)) e_h
  have nq64_h : h ≠ q64 := fun h => nq64 (h ▸ m_h)
  have m_h : h ∈ L23 := by rw [eL23]; exact List.mem_append_left _ m_h
  have e_q8 : f22 q8 = .inl (g 0, 3000, .inl (fun _ => 0)) := up_ne ef22 (fun h => nq64 (h ▸ m_q8)) e_q8
  have nq64_q8 : q8 ≠ q64 := fun h => nq64 (h ▸ m_q8)
  have m_q8 : q8 ∈ L23 := by rw [eL23]; exact List.mem_append_left _ m_q8
  have e_q17 : f22 q17 = .inl (g 0, 1000, .inl (fun _ => 0)) := up_ne ef22 (fun h => nq64 (h ▸ m_q17)) e_q17
  have nq64_q17 : q17 ≠ q64 := fun h => nq64 (h ▸ m_q17)
  have m_q17 : q17 ∈ L23 := by rw [eL23]; exact List.mem_append_left _ m_q17
  have e_q26 : f22 q26 = .inl (g 0, 3774, .inl (fun _ => 0)) := up_ne ef22 (fun h => nq64 (h ▸ m_q26)) e_q26
  have nq64_q26 : q26 ≠ q64 := fun h => nq64 (h ▸ m_q26)
  have m_q26 : q26 ∈ L23 := by rw [eL23]; exact List.mem_append_left _ m_q26
  have e_q35 : f22 q35 = .inl (g 0, 3774, .inl (fun _ => 0)) := up_ne ef22 (fun h => nq64 (h ▸ m_q35)) e_q35
  have nq64_q35 : q35 ≠ q64 := fun h => nq64 (h ▸ m_q35)
  have m_q35 : q35 ∈ L23 := by rw [eL23]; exact List.mem_append_left _ m_q35
  have e_q41 : f22 q41 = .inr (1, [.ref q745, .int 0]) := up_ne ef22 (fun h => nq64 (h ▸ m_q41)) e_q41
  have nq64_q41 : q41 ≠ q64 := fun h => nq64 (h ▸ m_q41)
  have m_q41 : q41 ∈ L23 := by rw [eL23]; exact List.mem_append_left _ m_q41
  have e_q745 : f22 q745 = .inl (g 1, 64, .inr (.inl (fun _ => 0))) := up_ne ef22 (fun h => nq64 (h ▸ m_q745)) e_q745
  have nq64_q745 : q745 ≠ q64 := fun h => nq64 (h ▸ m_q745)
  have m_q745 : q745 ∈ L23 := by rw [eL23]; exact List.mem_append_left _ m_q745
  have e_q55 : f22 q55 = .inl (g 0, 1000, .inl (fun _ => 0)) := up_ne ef22 (fun h => nq64 (h ▸ m_q55)) e_q55
  have nq64_q55 : q55 ≠ q64 := fun h => nq64 (h ▸ m_q55)
  have m_q55 : q55 ∈ L23 := by rw [eL23]; exact List.mem_append_left _ m_q55
  have e_q64 : f22 q64 = .inl (g 0, 1000, .inl (fun _ => 0)) := up_self ef22
  have m_q64 : q64 ∈ L23 := by rw [eL23]; simp
  have nzq64 : q64 ∉ L := fun h => nq64 (mono _ h)
  have fr : ∀ b, b ∈ L → b ≠ h → f22 b = f b := fun b mb nb0 => (up_ne ef22 (fun h => nzq64 (h ▸ mb)) rfl).trans (fr b mb nb0)
  have mono : ∀ b, b ∈ L → b ∈ L23 := fun b h => by rw [eL23]; exact List.mem_append_left _ (mono b h)
  refine q_putF hx hb hts in_X7 tyX7 tyX7_ok nmX7 hown hnm S m_h e_h (C := RX7) (T := TX7) (N := 9) rfl 6 (by decide) (hts (.fieldLink RX7 34 "SieveCabinet$Solver" "takenPlace" "[I") (gu_wsX7_init_1 _ gm_13)) rfl rfl rfl rfl (Nat.le_of_ble_eq_true rfl) dX7_init_66 (fun H locs S => ?_)
  obtain ⟨f24, ef24⟩ : ∃ z_, z_ = va_up f22 h (.inr (5, [.ref q8, .ref q17, .ref q26, .ref q35, .ref q41, .ref q55, .ref q64, .int 0, .int 0])) := ⟨_, rfl⟩
  have S : PS D g (va_A (va_pl L f) sz) s.heap s L23 f24 H locs := by rw [ef24]; exact S
  have e_q8 : f24 q8 = .inl (g 0, 3000, .inl (fun _ => 0)) := up_ne ef24 (fun h => nq8_h h.symm) e_q8
  have e_q17 : f24 q17 = .inl (g 0, 1000, .inl (fun _ => 0)) := up_ne ef24 (fun h => nq17_h h.symm) e_q17
  have e_q26 : f24 q26 = .inl (g 0, 3774, .inl (fun _ => 0)) := up_ne ef24 (fun h => nq26_h h.symm) e_q26
  have e_q35 : f24 q35 = .inl (g 0, 3774, .inl (fun _ => 0)) := up_ne ef24 (fun h => nq35_h h.symm) e_q35
  have e_q41 : f24 q41 = .inr (1, [.ref q745, .int 0]) := up_ne ef24 (fun h => nq41_h h.symm) e_q41
  have e_q745 : f24 q745 = .inl (g 1, 64, .inr (.inl (fun _ => 0))) := up_ne ef24 (fun h => nq745_h h.symm) e_q745
  have e_q55 : f24 q55 = .inl (g 0, 1000, .inl (fun _ => 0)) := up_ne ef24 (fun h => nq55_h h.symm) e_q55
  have e_q64 : f24 q64 = .inl (g 0, 1000, .inl (fun _ => 0)) := up_ne ef24 (fun h => nq64_h h.symm) e_q64
  have e_h : f24 h = .inr (5, [.ref q8, .ref q17, .ref q26, .ref q35, .ref q41, .ref q55, .ref q64, .int 0, .int 0]) := up_self ef24
  have fr : ∀ b, b ∈ L → b ≠ h → f24 b = f b := fun b mb nb0 => (up_ne ef24 nb0 rfl).trans (fr b mb nb0)
  exact q_retv (post := fun L1 f1 => ∃ q8 : Nat, ∃ q17 : Nat, ∃ q26 : Nat, ∃ q35 : Nat, ∃ q41 : Nat, ∃ q745 : Nat, ∃ q55 : Nat, ∃ q64 : Nat, (∀ b, b ∈ L → b ∈ L1) ∧ (∀ b, b ∈ L → b ≠ h → f1 b = f b) ∧ (q8 ∉ L ∧ q8 ∈ L1 ∧ f1 q8 = .inl (g 0, 3000, .inl (fun _ => 0))) ∧ (q17 ∉ L ∧ q17 ∈ L1 ∧ f1 q17 = .inl (g 0, 1000, .inl (fun _ => 0))) ∧ (q26 ∉ L ∧ q26 ∈ L1 ∧ f1 q26 = .inl (g 0, 3774, .inl (fun _ => 0))) ∧ (q35 ∉ L ∧ q35 ∈ L1 ∧ f1 q35 = .inl (g 0, 3774, .inl (fun _ => 0))) ∧ (q41 ∉ L ∧ q41 ∈ L1 ∧ f1 q41 = .inr (1, [.ref q745, .int 0])) ∧ (q745 ∉ L ∧ q745 ∈ L1 ∧ f1 q745 = .inl (g 1, 64, .inr (.inl (fun _ => 0)))) ∧ (q55 ∉ L ∧ q55 ∈ L1 ∧ f1 q55 = .inl (g 0, 1000, .inl (fun _ => 0))) ∧ (q64 ∉ L ∧ q64 ∈ L1 ∧ f1 q64 = .inl (g 0, 1000, .inl (fun _ => 0))) ∧ f1 h = .inr (5, [.ref q8, .ref q17, .ref q26, .ref q35, .ref q41, .ref q55, .ref q64, .int 0, .int 0]) ∧ q35 ≠ q26) hx hb hr hlk S dX7_init_69 (by decide) (by decide) (⟨q8, q17, q26, q35, q41, q745, q55, q64, mono, fr, ⟨nzq8, m_q8, e_q8⟩, ⟨nzq17, m_q17, e_q17⟩, ⟨nzq26, m_q26, e_q26⟩, ⟨nzq35, m_q35, e_q35⟩, ⟨nzq41, m_q41, e_q41⟩, ⟨nzq745, m_q745, e_q745⟩, ⟨nzq55, m_q55, e_q55⟩, ⟨nzq64, m_q64, e_q64⟩, e_h, Ne.symm nq35_q26⟩)

set_option maxRecDepth 20000 in
theorem gu_wsX2_init_2 : ∀ w ∈ wsX20, w ∈ wsX2_init := fun _ h => List.mem_cons_of_mem _ (List.mem_append_left _ (List.mem_append_right _ h))
set_option maxHeartbeats 4000000 in
set_option maxRecDepth 100000 in
/-- SieveCabinet$Chooser.<init> -/
theorem c_X2_init (l : Launch) (D : va_G) (g : Nat → ClassId) {L : List Nat} {f : Nat → va_E} {h : Nat} (m_h : h ∈ L) (e_h : f h = .inr (2, [.null, .null, .null, .int 0, .int 0]))  : cV l yX2_init wsX2_init { frames := 2, cells := 4, slots := 2066, locals := 32 } D g [.ref h] L f 4 2066 (fun L1 f1 => ∃ q8 : Nat, ∃ q17 : Nat, ∃ q23 : Nat, ∃ q727 : Nat, (∀ b, b ∈ L → b ∈ L1) ∧ (∀ b, b ∈ L → b ≠ h → f1 b = f b) ∧ (q8 ∉ L ∧ q8 ∈ L1 ∧ f1 q8 = .inl (g 1, 1000, .inr (.inl (fun _ => 0)))) ∧ (q17 ∉ L ∧ q17 ∈ L1 ∧ f1 q17 = .inl (g 1, 1000, .inr (.inl (fun _ => 0)))) ∧ (q23 ∉ L ∧ q23 ∈ L1 ∧ f1 q23 = .inr (1, [.ref q727, .int 0])) ∧ (q727 ∉ L ∧ q727 ∈ L1 ∧ f1 q727 = .inl (g 1, 64, .inr (.inl (fun _ => 0)))) ∧ f1 h = .inr (2, [.ref q8, .ref q17, .ref q23, .int 0, .int 0])) := by
  refine cV_of (cc := cX2_init) (maxL := 1) (ret := none) (by decide) rfl (Nat.le_of_ble_eq_true rfl) ?_
  intro sz p e s m below meth c hx hb hr hml hts hown hlk hnm S ls hl
  have hl : lv_has ls 1 [(0, .ref h)] := hl
  have in_X1 : ∀ w ∈ wsX10, w ∈ wsX2_init := gu_wsX2_init_3
  have in_X2 : ∀ w ∈ wsX20, w ∈ wsX2_init := gu_wsX2_init_2
  have fr : ∀ b, b ∈ L → b ≠ h → f b = f b := fun _ _ _ => rfl
  have mono : ∀ b, b ∈ L → b ∈ L := fun _ h => h
  refine lv_aload_n hx hb dX2_init_0 rfl (lv_at hl 0 rfl) ?_
  refine W.objInit hx hb hown (hts (.methodLink RX2 3 objectInit) (gu_wsX2_init_1 _ gm_0)) (hts (.instanceMethod objectInit) (gu_wsX2_init_1 _ gm_1)) (hts (.code objectInit ⟨#[0xb1]⟩ 1 none) (gu_wsX2_init_1 _ gm_2)) rfl (by rw [hml]; exact hl.1) rfl dX2_init_1 (Nat.le_of_ble_eq_true rfl) (Nat.le_of_ble_eq_true rfl) ?_
  refine W.eq (g2 := F0 m 4 ls []) rfl ?_
  refine lv_aload_n hx hb dX2_init_4 rfl (lv_at hl 0 rfl) ?_
  refine lv_sipush (v := 1000) hx hb dX2_init_5 (by decide) ?_
  refine q_newl hx hb (hts (.arrayClass .long) (gu_wsX2_init_1 _ gm_3)) S (N' := 1000) (by decide) (by decide) (by decide) (Nat.le_of_ble_eq_true rfl) (Nat.le_of_ble_eq_true rfl) dX2_init_8 (fun q8 H nq8 S => ?_)
  refine W.widen (k := 1) (n := 1000) (by decide) (by decide) ?_
  obtain ⟨f1, ef1⟩ : ∃ z_, z_ = va_up f q8 (.inl (g 1, 1000, .inr (.inl (fun _ => 0)))) := ⟨_, rfl⟩
  obtain ⟨L2, eL2⟩ : ∃ z_, z_ = L ++ [q8] := ⟨_, rfl⟩
  have S : PS D g (va_A (va_pl L f) sz) s.heap s L2 f1 H [] := by rw [ef1, eL2]; exact S
  have e_h : f1 h = .inr (2, [.null, .null, .null, .int 0, .int 0]) := up_ne ef1 (fun h => nq8 (h ▸ m_h)) e_h
  have nq8_h : h ≠ q8 := fun h => nq8 (h ▸ m_h)
  have m_h : h ∈ L2 := by rw [eL2]; exact List.mem_append_left _ m_h
  have e_q8 : f1 q8 = .inl (g 1, 1000, .inr (.inl (fun _ => 0))) := up_self ef1
  have m_q8 : q8 ∈ L2 := by rw [eL2]; simp
  have nzq8 : q8 ∉ L := fun h => nq8 (mono _ h)
  have fr : ∀ b, b ∈ L → b ≠ h → f1 b = f b := fun b mb nb0 => (up_ne ef1 (fun h => nzq8 (h ▸ mb)) rfl).trans (fr b mb nb0)
  have mono : ∀ b, b ∈ L → b ∈ L2 := fun b h => by rw [eL2]; exact List.mem_append_left _ (mono b h)
  refine q_putF hx hb hts in_X2 tyX2 tyX2_ok nmX2 hown hnm S m_h e_h (C := RX2) (T := TX2) (N := 5) rfl 0 (by decide) (hts (.fieldLink RX2 9 "SieveCabinet$Chooser" "inMixes" "[J") (gu_wsX2_init_1 _ gm_4)) rfl rfl rfl rfl (Nat.le_of_ble_eq_true rfl) dX2_init_10 (fun H locs S => ?_)
  obtain ⟨f3, ef3⟩ : ∃ z_, z_ = va_up f1 h (.inr (2, [.ref q8, .null, .null, .int 0, .int 0])) := ⟨_, rfl⟩
  have S : PS D g (va_A (va_pl L f) sz) s.heap s L2 f3 H locs := by rw [ef3]; exact S
  have e_q8 : f3 q8 = .inl (g 1, 1000, .inr (.inl (fun _ => 0))) := up_ne ef3 (fun h => nq8_h h.symm) e_q8
  have e_h : f3 h = .inr (2, [.ref q8, .null, .null, .int 0, .int 0]) := up_self ef3
  have fr : ∀ b, b ∈ L → b ≠ h → f3 b = f b := fun b mb nb0 => (up_ne ef3 nb0 rfl).trans (fr b mb nb0)
  refine lv_aload_n hx hb dX2_init_13 rfl (lv_at hl 0 rfl) ?_
  refine lv_sipush (v := 1000) hx hb dX2_init_14 (by decide) ?_
  refine q_newl hx hb (hts (.arrayClass .long) (gu_wsX2_init_1 _ gm_3)) S (N' := 1000) (by decide) (by decide) (by decide) (Nat.le_of_ble_eq_true rfl) (Nat.le_of_ble_eq_true rfl) dX2_init_17 (fun q17 H nq17 S => ?_)
  refine W.widen (k := 2) (n := 2000) (by decide) (by decide) ?_
  obtain ⟨f4, ef4⟩ : ∃ z_, z_ = va_up f3 q17 (.inl (g 1, 1000, .inr (.inl (fun _ => 0)))) := ⟨_, rfl⟩
  obtain ⟨L5, eL5⟩ : ∃ z_, z_ = L2 ++ [q17] := ⟨_, rfl⟩
  have S : PS D g (va_A (va_pl L f) sz) s.heap s L5 f4 H locs := by rw [ef4, eL5]; exact S
  have e_h : f4 h = .inr (2, [.ref q8, .null, .null, .int 0, .int 0]) := up_ne ef4 (fun h => nq17 (h ▸ m_h)) e_h
  have nq17_h : h ≠ q17 := fun h => nq17 (h ▸ m_h)
  have m_h : h ∈ L5 := by rw [eL5]; exact List.mem_append_left _ m_h
  have e_q8 : f4 q8 = .inl (g 1, 1000, .inr (.inl (fun _ => 0))) := up_ne ef4 (fun h => nq17 (h ▸ m_q8)) e_q8
  have nq17_q8 : q8 ≠ q17 := fun h => nq17 (h ▸ m_q8)
  have m_q8 : q8 ∈ L5 := by rw [eL5]; exact List.mem_append_left _ m_q8
  have e_q17 : f4 q17 = .inl (g 1, 1000, .inr (.inl (fun _ => 0))) := up_self ef4
  have m_q17 : q17 ∈ L5 := by rw [eL5]; simp
  have nzq17 : q17 ∉ L := fun h => nq17 (mono _ h)
  have fr : ∀ b, b ∈ L → b ≠ h → f4 b = f b := fun b mb nb0 => (up_ne ef4 (fun h => nzq17 (h ▸ mb)) rfl).trans (fr b mb nb0)
  have mono : ∀ b, b ∈ L → b ∈ L5 := fun b h => by rw [eL5]; exact List.mem_append_left _ (mono b h)
  refine q_putF hx hb hts in_X2 tyX2 tyX2_ok nmX2 hown hnm S m_h e_h (C := RX2) (T := TX2) (N := 5) rfl 1 (by decide) (hts (.fieldLink RX2 15 "SieveCabinet$Chooser" "rivalMixes" "[J") (gu_wsX2_init_1 _ gm_5)) rfl rfl rfl rfl (Nat.le_of_ble_eq_true rfl) dX2_init_19 (fun H locs S => ?_)
  obtain ⟨f6, ef6⟩ : ∃ z_, z_ = va_up f4 h (.inr (2, [.ref q8, .ref q17, .null, .int 0, .int 0])) := ⟨_, rfl⟩
  have S : PS D g (va_A (va_pl L f) sz) s.heap s L5 f6 H locs := by rw [ef6]; exact S
  have e_q8 : f6 q8 = .inl (g 1, 1000, .inr (.inl (fun _ => 0))) := up_ne ef6 (fun h => nq8_h h.symm) e_q8
  have e_q17 : f6 q17 = .inl (g 1, 1000, .inr (.inl (fun _ => 0))) := up_ne ef6 (fun h => nq17_h h.symm) e_q17
  have e_h : f6 h = .inr (2, [.ref q8, .ref q17, .null, .int 0, .int 0]) := up_self ef6
  have fr : ∀ b, b ∈ L → b ≠ h → f6 b = f b := fun b mb nb0 => (up_ne ef6 nb0 rfl).trans (fr b mb nb0)
  refine lv_aload_n hx hb dX2_init_22 rfl (lv_at hl 0 rfl) ?_
  refine q_new (fs := [.null, .int 0]) (C := RX1) (T := TX1) (N := 2) (ci := 1) hx hb hts in_X1 tyX1 tyX1_ok hown (hts (.classLink RX2 18 RX1) (gu_wsX2_init_1 _ gm_6)) (hts (.instantiable RX1 2) (gu_wsX2_init_1 _ gm_7)) (hts (.initialized RX1) (gu_wsX2_init_1 _ gm_8)) S rfl (fun j hj => by rcases (show j = 0 ∨ j = 1 by omega) with rfl | rfl <;> rfl) (Nat.le_of_ble_eq_true rfl) (Nat.le_of_ble_eq_true rfl) dX2_init_23 (fun q23 H nq23 S => ?_)
  refine W.widen (k := 3) (n := 2002) (by decide) (by decide) ?_
  obtain ⟨f7, ef7⟩ : ∃ z_, z_ = va_up f6 q23 (.inr (1, [.null, .int 0])) := ⟨_, rfl⟩
  obtain ⟨L8, eL8⟩ : ∃ z_, z_ = L5 ++ [q23] := ⟨_, rfl⟩
  have S : PS D g (va_A (va_pl L f) sz) s.heap s L8 f7 H locs := by rw [ef7, eL8]; exact S
  have e_h : f7 h = .inr (2, [.ref q8, .ref q17, .null, .int 0, .int 0]) := up_ne ef7 (fun h => nq23 (h ▸ m_h)) e_h
  have nq23_h : h ≠ q23 := fun h => nq23 (h ▸ m_h)
  have m_h : h ∈ L8 := by rw [eL8]; exact List.mem_append_left _ m_h
  have e_q8 : f7 q8 = .inl (g 1, 1000, .inr (.inl (fun _ => 0))) := up_ne ef7 (fun h => nq23 (h ▸ m_q8)) e_q8
  have nq23_q8 : q8 ≠ q23 := fun h => nq23 (h ▸ m_q8)
  have m_q8 : q8 ∈ L8 := by rw [eL8]; exact List.mem_append_left _ m_q8
  have e_q17 : f7 q17 = .inl (g 1, 1000, .inr (.inl (fun _ => 0))) := up_ne ef7 (fun h => nq23 (h ▸ m_q17)) e_q17
  have nq23_q17 : q17 ≠ q23 := fun h => nq23 (h ▸ m_q17)
  have m_q17 : q17 ∈ L8 := by rw [eL8]; exact List.mem_append_left _ m_q17
  have e_q23 : f7 q23 = .inr (1, [.null, .int 0]) := up_self ef7
  have m_q23 : q23 ∈ L8 := by rw [eL8]; simp
  have nzq23 : q23 ∉ L := fun h => nq23 (mono _ h)
  have fr : ∀ b, b ∈ L → b ≠ h → f7 b = f b := fun b mb nb0 => (up_ne ef7 (fun h => nzq23 (h ▸ mb)) rfl).trans (fr b mb nb0)
  have mono : ∀ b, b ∈ L → b ∈ L8 := fun b h => by rw [eL8]; exact List.mem_append_left _ (mono b h)
  refine lv_dup hx hb dX2_init_26 rfl ?_
  refine q_nv (As := []) (rest := [.ref q23, .ref h]) (host := "SieveCabinet") ⟨hx, hb, hml, hown, hts⟩ (c_X1_init l D g m_q23 e_q23) ⟨va_cnB 0 hts gX2_init_X1_init_n20 rfl rfl rfl (S.1.2.1 _ (List.mem_of_getElem? (i := 4) rfl)) (hts (.initialized RX1) (gu_wsX2_init_1 _ gm_8)) (by decide +kernel) ⟨Nat.le_of_ble_eq_true rfl, Nat.le_of_ble_eq_true rfl⟩, rfl, hts (.instanceMethod yX1_init) (by decide +kernel)⟩ S rfl hl.1 rfl (Nat.le_of_ble_eq_true rfl) dX2_init_27 ⟨Nat.le_of_ble_eq_true rfl, Nat.le_of_ble_eq_true rfl⟩ (fun L9 f10 H locs S w27 => ?_)
  refine W.widen (k := 4) (n := 2066) (by decide) (by decide) ?_
  obtain ⟨q727, mo27, fv27, ⟨nq727, m_q727, e_q727⟩, E_q23⟩ := w27
  have e_h : f10 h = .inr (2, [.ref q8, .ref q17, .null, .int 0, .int 0]) := (fv27 h m_h (fun h => nq23_h h)).trans e_h
  have e_q8 : f10 q8 = .inl (g 1, 1000, .inr (.inl (fun _ => 0))) := (fv27 q8 m_q8 (fun h => nq23_q8 h)).trans e_q8
  have e_q17 : f10 q17 = .inl (g 1, 1000, .inr (.inl (fun _ => 0))) := (fv27 q17 m_q17 (fun h => nq23_q17 h)).trans e_q17
  have nq727_h : h ≠ q727 := fun h => nq727 (h ▸ m_h)
  have nq727_q8 : q8 ≠ q727 := fun h => nq727 (h ▸ m_q8)
  have nq727_q17 : q17 ≠ q727 := fun h => nq727 (h ▸ m_q17)
  have nq727_q23 : q23 ≠ q727 := fun h => nq727 (h ▸ m_q23)
  have m_h : h ∈ L9 := mo27 h m_h
  have m_q8 : q8 ∈ L9 := mo27 q8 m_q8
  have m_q17 : q17 ∈ L9 := mo27 q17 m_q17
  have m_q23 : q23 ∈ L9 := mo27 q23 m_q23
  have e_q23 := E_q23
  have nzq727 : q727 ∉ L := fun h => nq727 (mono _ h)
  have fr : ∀ b, b ∈ L → b ≠ h → f10 b = f b := fun b mb nb0 => (fv27 b (mono b mb) (fun h => nzq23 (h ▸ mb))).trans (fr b mb nb0)
  have mono : ∀ b, b ∈ L → b ∈ L9 := fun b h => mo27 b (mono b h)
  refine q_putF hx hb hts in_X2 tyX2 tyX2_ok nmX2 hown hnm S m_h e_h (C := RX2) (T := TX2) (N := 5) rfl 2 (by decide) (hts (.fieldLink RX2 21 "SieveCabinet$Chooser" "bits" "LSieveCabinet$BitRow;") (gu_wsX2_init_1 _ gm_9)) rfl rfl rfl rfl (Nat.le_of_ble_eq_true rfl) dX2_init_30 (fun H locs S => ?_)
  obtain ⟨f12, ef12⟩ : ∃ z_, z_ = va_up f10 h (.inr (2, [.ref q8, .ref q17, .ref q23, .int 0, .int 0])) := ⟨_, rfl⟩
  have S : PS D g (va_A (va_pl L f) sz) s.heap s L9 f12 H locs := by rw [ef12]; exact S
  have e_q8 : f12 q8 = .inl (g 1, 1000, .inr (.inl (fun _ => 0))) := up_ne ef12 (fun h => nq8_h h.symm) e_q8
  have e_q17 : f12 q17 = .inl (g 1, 1000, .inr (.inl (fun _ => 0))) := up_ne ef12 (fun h => nq17_h h.symm) e_q17
  have e_q23 : f12 q23 = .inr (1, [.ref q727, .int 0]) := up_ne ef12 (fun h => nq23_h h.symm) e_q23
  have e_q727 : f12 q727 = .inl (g 1, 64, .inr (.inl (fun _ => 0))) := up_ne ef12 (fun h => nq727_h h.symm) e_q727
  have e_h : f12 h = .inr (2, [.ref q8, .ref q17, .ref q23, .int 0, .int 0]) := up_self ef12
  have fr : ∀ b, b ∈ L → b ≠ h → f12 b = f b := fun b mb nb0 => (up_ne ef12 nb0 rfl).trans (fr b mb nb0)
  exact q_retv (post := fun L1 f1 => ∃ q8 : Nat, ∃ q17 : Nat, ∃ q23 : Nat, ∃ q727 : Nat, (∀ b, b ∈ L → b ∈ L1) ∧ (∀ b, b ∈ L → b ≠ h → f1 b = f b) ∧ (q8 ∉ L ∧ q8 ∈ L1 ∧ f1 q8 = .inl (g 1, 1000, .inr (.inl (fun _ => 0)))) ∧ (q17 ∉ L ∧ q17 ∈ L1 ∧ f1 q17 = .inl (g 1, 1000, .inr (.inl (fun _ => 0)))) ∧ (q23 ∉ L ∧ q23 ∈ L1 ∧ f1 q23 = .inr (1, [.ref q727, .int 0])) ∧ (q727 ∉ L ∧ q727 ∈ L1 ∧ f1 q727 = .inl (g 1, 64, .inr (.inl (fun _ => 0)))) ∧ f1 h = .inr (2, [.ref q8, .ref q17, .ref q23, .int 0, .int 0])) hx hb hr hlk S dX2_init_33 (by decide) (by decide) (⟨q8, q17, q23, q727, mono, fr, ⟨nzq8, m_q8, e_q8⟩, ⟨nzq17, m_q17, e_q17⟩, ⟨nzq23, m_q23, e_q23⟩, ⟨nzq727, m_q727, e_q727⟩, e_h⟩)

set_option maxRecDepth 20000 in
theorem gu_wsX6_init_2 : ∀ w ∈ wsX60, w ∈ wsX6_init := fun _ h => List.mem_cons_of_mem _ (List.mem_append_left _ (List.mem_append_right _ h))
set_option maxHeartbeats 4000000 in
set_option maxRecDepth 100000 in
/-- SieveCabinet$Sieve.<init> -/
theorem c_X6_init (l : Launch) (D : va_G) (g : Nat → ClassId) {L : List Nat} {f : Nat → va_E} {h : Nat} (m_h : h ∈ L) (e_h : f h = .inr (4, [.null, .null, .null, .int 0, .int 0, .int 0, .int 0]))  : cV l yX6_init wsX6_init { frames := 2, cells := 3, slots := 5098, locals := 32 } D g [.ref h] L f 3 5098 (fun L1 f1 => ∃ q8 : Nat, ∃ q14 : Nat, ∃ q818 : Nat, (∀ b, b ∈ L → b ∈ L1) ∧ (∀ b, b ∈ L → b ≠ h → f1 b = f b) ∧ (q8 ∉ L ∧ q8 ∈ L1 ∧ f1 q8 = .inl (g 0, 4096, .inl (fun _ => 0))) ∧ (q14 ∉ L ∧ q14 ∈ L1 ∧ f1 q14 = .inr (0, [.ref q818, .int 0])) ∧ (q818 ∉ L ∧ q818 ∈ L1 ∧ f1 q818 = .inl (g 1, 1000, .inr (.inl (fun _ => 0)))) ∧ f1 h = .inr (4, [.ref q8, .ref q14, .null, .int 0, .int 0, .int 0, .int 0])) := by
  refine cV_of (cc := cX6_init) (maxL := 1) (ret := none) (by decide) rfl (Nat.le_of_ble_eq_true rfl) ?_
  intro sz p e s m below meth c hx hb hr hml hts hown hlk hnm S ls hl
  have hl : lv_has ls 1 [(0, .ref h)] := hl
  have in_X0 : ∀ w ∈ wsX00, w ∈ wsX6_init := gu_wsX6_init_3
  have in_X6 : ∀ w ∈ wsX60, w ∈ wsX6_init := gu_wsX6_init_2
  have fr : ∀ b, b ∈ L → b ≠ h → f b = f b := fun _ _ _ => rfl
  have mono : ∀ b, b ∈ L → b ∈ L := fun _ h => h
  refine lv_aload_n hx hb dX6_init_0 rfl (lv_at hl 0 rfl) ?_
  refine W.objInit hx hb hown (hts (.methodLink RX6 3 objectInit) (gu_wsX6_init_1 _ gm_0)) (hts (.instanceMethod objectInit) (gu_wsX6_init_1 _ gm_1)) (hts (.code objectInit ⟨#[0xb1]⟩ 1 none) (gu_wsX6_init_1 _ gm_2)) rfl (by rw [hml]; exact hl.1) rfl dX6_init_1 (Nat.le_of_ble_eq_true rfl) (Nat.le_of_ble_eq_true rfl) ?_
  refine W.eq (g2 := F0 m 4 ls []) rfl ?_
  refine lv_aload_n hx hb dX6_init_4 rfl (lv_at hl 0 rfl) ?_
  refine lv_sipush (v := 4096) hx hb dX6_init_5 (by decide) ?_
  refine q_newi hx hb (hts (.arrayClass .int) (gu_wsX6_init_1 _ gm_3)) S (N' := 4096) (by decide) (by decide) (by decide) (Nat.le_of_ble_eq_true rfl) (Nat.le_of_ble_eq_true rfl) dX6_init_8 (fun q8 H nq8 S => ?_)
  refine W.widen (k := 1) (n := 4096) (by decide) (by decide) ?_
  obtain ⟨f1, ef1⟩ : ∃ z_, z_ = va_up f q8 (.inl (g 0, 4096, .inl (fun _ => 0))) := ⟨_, rfl⟩
  obtain ⟨L2, eL2⟩ : ∃ z_, z_ = L ++ [q8] := ⟨_, rfl⟩
  have S : PS D g (va_A (va_pl L f) sz) s.heap s L2 f1 H [] := by rw [ef1, eL2]; exact S
  have e_h : f1 h = .inr (4, [.null, .null, .null, .int 0, .int 0, .int 0, .int 0]) := up_ne ef1 (fun h => nq8 (h ▸ m_h)) e_h
  have nq8_h : h ≠ q8 := fun h => nq8 (h ▸ m_h)
  have m_h : h ∈ L2 := by rw [eL2]; exact List.mem_append_left _ m_h
  have e_q8 : f1 q8 = .inl (g 0, 4096, .inl (fun _ => 0)) := up_self ef1
  have m_q8 : q8 ∈ L2 := by rw [eL2]; simp
  have nzq8 : q8 ∉ L := fun h => nq8 (mono _ h)
  have fr : ∀ b, b ∈ L → b ≠ h → f1 b = f b := fun b mb nb0 => (up_ne ef1 (fun h => nzq8 (h ▸ mb)) rfl).trans (fr b mb nb0)
  have mono : ∀ b, b ∈ L → b ∈ L2 := fun b h => by rw [eL2]; exact List.mem_append_left _ (mono b h)
  refine q_putF hx hb hts in_X6 tyX6 tyX6_ok nmX6 hown hnm S m_h e_h (C := RX6) (T := TX6) (N := 7) rfl 0 (by decide) (hts (.fieldLink RX6 9 "SieveCabinet$Sieve" "cells" "[I") (gu_wsX6_init_1 _ gm_4)) rfl rfl rfl rfl (Nat.le_of_ble_eq_true rfl) dX6_init_10 (fun H locs S => ?_)
  obtain ⟨f3, ef3⟩ : ∃ z_, z_ = va_up f1 h (.inr (4, [.ref q8, .null, .null, .int 0, .int 0, .int 0, .int 0])) := ⟨_, rfl⟩
  have S : PS D g (va_A (va_pl L f) sz) s.heap s L2 f3 H locs := by rw [ef3]; exact S
  have e_q8 : f3 q8 = .inl (g 0, 4096, .inl (fun _ => 0)) := up_ne ef3 (fun h => nq8_h h.symm) e_q8
  have e_h : f3 h = .inr (4, [.ref q8, .null, .null, .int 0, .int 0, .int 0, .int 0]) := up_self ef3
  have fr : ∀ b, b ∈ L → b ≠ h → f3 b = f b := fun b mb nb0 => (up_ne ef3 nb0 rfl).trans (fr b mb nb0)
  refine lv_aload_n hx hb dX6_init_13 rfl (lv_at hl 0 rfl) ?_
  refine q_new (fs := [.null, .int 0]) (C := RX0) (T := TX0) (N := 2) (ci := 0) hx hb hts in_X0 tyX0 tyX0_ok hown (hts (.classLink RX6 15 RX0) (gu_wsX6_init_1 _ gm_5)) (hts (.instantiable RX0 2) (gu_wsX6_init_1 _ gm_6)) (hts (.initialized RX0) (gu_wsX6_init_1 _ gm_7)) S rfl (fun j hj => by rcases (show j = 0 ∨ j = 1 by omega) with rfl | rfl <;> rfl) (Nat.le_of_ble_eq_true rfl) (Nat.le_of_ble_eq_true rfl) dX6_init_14 (fun q14 H nq14 S => ?_)
  refine W.widen (k := 2) (n := 4098) (by decide) (by decide) ?_
  obtain ⟨f4, ef4⟩ : ∃ z_, z_ = va_up f3 q14 (.inr (0, [.null, .int 0])) := ⟨_, rfl⟩
  obtain ⟨L5, eL5⟩ : ∃ z_, z_ = L2 ++ [q14] := ⟨_, rfl⟩
  have S : PS D g (va_A (va_pl L f) sz) s.heap s L5 f4 H locs := by rw [ef4, eL5]; exact S
  have e_h : f4 h = .inr (4, [.ref q8, .null, .null, .int 0, .int 0, .int 0, .int 0]) := up_ne ef4 (fun h => nq14 (h ▸ m_h)) e_h
  have nq14_h : h ≠ q14 := fun h => nq14 (h ▸ m_h)
  have m_h : h ∈ L5 := by rw [eL5]; exact List.mem_append_left _ m_h
  have e_q8 : f4 q8 = .inl (g 0, 4096, .inl (fun _ => 0)) := up_ne ef4 (fun h => nq14 (h ▸ m_q8)) e_q8
  have nq14_q8 : q8 ≠ q14 := fun h => nq14 (h ▸ m_q8)
  have m_q8 : q8 ∈ L5 := by rw [eL5]; exact List.mem_append_left _ m_q8
  have e_q14 : f4 q14 = .inr (0, [.null, .int 0]) := up_self ef4
  have m_q14 : q14 ∈ L5 := by rw [eL5]; simp
  have nzq14 : q14 ∉ L := fun h => nq14 (mono _ h)
  have fr : ∀ b, b ∈ L → b ≠ h → f4 b = f b := fun b mb nb0 => (up_ne ef4 (fun h => nzq14 (h ▸ mb)) rfl).trans (fr b mb nb0)
  have mono : ∀ b, b ∈ L → b ∈ L5 := fun b h => by rw [eL5]; exact List.mem_append_left _ (mono b h)
  refine lv_dup hx hb dX6_init_17 rfl ?_
  refine q_nv (As := []) (rest := [.ref q14, .ref h]) (host := "SieveCabinet") ⟨hx, hb, hml, hown, hts⟩ (c_X0_init l D g m_q14 e_q14) ⟨va_cnB 0 hts gX6_init_X0_init_n17 rfl rfl rfl (S.1.2.1 _ (List.mem_of_getElem? (i := 6) rfl)) (hts (.initialized RX0) (gu_wsX6_init_1 _ gm_7)) (by decide +kernel) ⟨Nat.le_of_ble_eq_true rfl, Nat.le_of_ble_eq_true rfl⟩, rfl, hts (.instanceMethod yX0_init) (by decide +kernel)⟩ S rfl hl.1 rfl (Nat.le_of_ble_eq_true rfl) dX6_init_18 ⟨Nat.le_of_ble_eq_true rfl, Nat.le_of_ble_eq_true rfl⟩ (fun L6 f7 H locs S w18 => ?_)
  refine W.widen (k := 3) (n := 5098) (by decide) (by decide) ?_
  obtain ⟨q818, mo18, fv18, ⟨nq818, m_q818, e_q818⟩, E_q14⟩ := w18
  have e_h : f7 h = .inr (4, [.ref q8, .null, .null, .int 0, .int 0, .int 0, .int 0]) := (fv18 h m_h (fun h => nq14_h h)).trans e_h
  have e_q8 : f7 q8 = .inl (g 0, 4096, .inl (fun _ => 0)) := (fv18 q8 m_q8 (fun h => nq14_q8 h)).trans e_q8
  have nq818_h : h ≠ q818 := fun h => nq818 (h ▸ m_h)
  have nq818_q8 : q8 ≠ q818 := fun h => nq818 (h ▸ m_q8)
  have nq818_q14 : q14 ≠ q818 := fun h => nq818 (h ▸ m_q14)
  have m_h : h ∈ L6 := mo18 h m_h
  have m_q8 : q8 ∈ L6 := mo18 q8 m_q8
  have m_q14 : q14 ∈ L6 := mo18 q14 m_q14
  have e_q14 := E_q14
  have nzq818 : q818 ∉ L := fun h => nq818 (mono _ h)
  have fr : ∀ b, b ∈ L → b ≠ h → f7 b = f b := fun b mb nb0 => (fv18 b (mono b mb) (fun h => nzq14 (h ▸ mb))).trans (fr b mb nb0)
  have mono : ∀ b, b ∈ L → b ∈ L6 := fun b h => mo18 b (mono b h)
  refine q_putF hx hb hts in_X6 tyX6 tyX6_ok nmX6 hown hnm S m_h e_h (C := RX6) (T := TX6) (N := 7) rfl 1 (by decide) (hts (.fieldLink RX6 18 "SieveCabinet$Sieve" "contents" "LSieveCabinet$Bag;") (gu_wsX6_init_1 _ gm_8)) rfl rfl rfl rfl (Nat.le_of_ble_eq_true rfl) dX6_init_21 (fun H locs S => ?_)
  obtain ⟨f9, ef9⟩ : ∃ z_, z_ = va_up f7 h (.inr (4, [.ref q8, .ref q14, .null, .int 0, .int 0, .int 0, .int 0])) := ⟨_, rfl⟩
  have S : PS D g (va_A (va_pl L f) sz) s.heap s L6 f9 H locs := by rw [ef9]; exact S
  have e_q8 : f9 q8 = .inl (g 0, 4096, .inl (fun _ => 0)) := up_ne ef9 (fun h => nq8_h h.symm) e_q8
  have e_q14 : f9 q14 = .inr (0, [.ref q818, .int 0]) := up_ne ef9 (fun h => nq14_h h.symm) e_q14
  have e_q818 : f9 q818 = .inl (g 1, 1000, .inr (.inl (fun _ => 0))) := up_ne ef9 (fun h => nq818_h h.symm) e_q818
  have e_h : f9 h = .inr (4, [.ref q8, .ref q14, .null, .int 0, .int 0, .int 0, .int 0]) := up_self ef9
  have fr : ∀ b, b ∈ L → b ≠ h → f9 b = f b := fun b mb nb0 => (up_ne ef9 nb0 rfl).trans (fr b mb nb0)
  exact q_retv (post := fun L1 f1 => ∃ q8 : Nat, ∃ q14 : Nat, ∃ q818 : Nat, (∀ b, b ∈ L → b ∈ L1) ∧ (∀ b, b ∈ L → b ≠ h → f1 b = f b) ∧ (q8 ∉ L ∧ q8 ∈ L1 ∧ f1 q8 = .inl (g 0, 4096, .inl (fun _ => 0))) ∧ (q14 ∉ L ∧ q14 ∈ L1 ∧ f1 q14 = .inr (0, [.ref q818, .int 0])) ∧ (q818 ∉ L ∧ q818 ∈ L1 ∧ f1 q818 = .inl (g 1, 1000, .inr (.inl (fun _ => 0)))) ∧ f1 h = .inr (4, [.ref q8, .ref q14, .null, .int 0, .int 0, .int 0, .int 0])) hx hb hr hlk S dX6_init_24 (by decide) (by decide) (⟨q8, q14, q818, mono, fr, ⟨nzq8, m_q8, e_q8⟩, ⟨nzq14, m_q14, e_q14⟩, ⟨nzq818, m_q818, e_q818⟩, e_h⟩)
