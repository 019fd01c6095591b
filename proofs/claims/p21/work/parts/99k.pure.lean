set_option maxHeartbeats 4000000 in
set_option maxRecDepth 100000 in
/-- SieveCabinet$Solver.<init> -/
theorem c_X7_initF (l : Launch) (D : va_G) (g : Nat → ClassId) {L : List Nat} {f : Nat → va_E} {h : Nat} (m_h : h ∈ L) (e_h : f h = .inr (5, [.null, .null, .null, .null, .null, .null, .null, .int 0, .int 0]))  : cV l yX7_init wsX7_init { frames := 2, cells := 8, slots := 13614, locals := 32 } D g [.ref h] L f 8 13614 (fun L1 f1 => ∃ q8 : Nat, ∃ q17 : Nat, ∃ q26 : Nat, ∃ q35 : Nat, ∃ q41 : Nat, ∃ q745 : Nat, ∃ q55 : Nat, ∃ q64 : Nat, (∀ b, b ∈ L → b ∈ L1) ∧ (∀ b, b ∈ L → b ≠ h → f1 b = f b) ∧ (q8 ∉ L ∧ q8 ∈ L1 ∧ f1 q8 = .inl (g 0, 3000, .inl (fun _ => 0))) ∧ (q17 ∉ L ∧ q17 ∈ L1 ∧ f1 q17 = .inl (g 0, 1000, .inl (fun _ => 0))) ∧ (q26 ∉ L ∧ q26 ∈ L1 ∧ f1 q26 = .inl (g 0, 3774, .inl (fun _ => 0))) ∧ (q35 ∉ L ∧ q35 ∈ L1 ∧ f1 q35 = .inl (g 0, 3774, .inl (fun _ => 0))) ∧ (q41 ∉ L ∧ q41 ∈ L1 ∧ f1 q41 = .inr (1, [.ref q745, .int 0])) ∧ (q745 ∉ L ∧ q745 ∈ L1 ∧ f1 q745 = .inl (g 1, 64, .inr (.inl (fun _ => 0)))) ∧ (q55 ∉ L ∧ q55 ∈ L1 ∧ f1 q55 = .inl (g 0, 1000, .inl (fun _ => 0))) ∧ (q64 ∉ L ∧ q64 ∈ L1 ∧ f1 q64 = .inl (g 0, 1000, .inl (fun _ => 0))) ∧ f1 h = .inr (5, [.ref q8, .ref q17, .ref q26, .ref q35, .ref q41, .ref q55, .ref q64, .int 0, .int 0]) ∧ q35 ≠ q26 ∧ q55 ≠ q17 ∧ q64 ≠ q17 ∧ q64 ≠ q55) := by
  refine cV_of (cc := cX7_init) (maxL := 1) (ret := none) (by decide) rfl (Nat.le_of_ble_eq_true rfl) ?_
  intro sz p e s m below meth c hx hb hr hml hts hown hlk hnm S ls hl
  have hl : lv_has ls 1 [(0, .ref h)] := hl
  have in_X1 : ∀ w ∈ wsX10, w ∈ wsX7_init := gu_wsX7_init_3
  have in_X7 : ∀ w ∈ wsX70, w ∈ wsX7_init := gu_wsX7_init_2
  have fr : ∀ b, b ∈ L → b ≠ h → f b = f b := fun _ _ _ => rfl
  have mono : ∀ b, b ∈ L → b ∈ L := fun _ h => h
  refine lv_aload_n hx hb dX7_init_0 rfl (lv_at hl 0 rfl) ?_
  refine W.objInit hx hb hown (hts (.methodLink RX7 3 objectInit) (gu_wsX7_init_1 _ gm_0)) (hts (.instanceMethod objectInit) (gu_wsX7_init_1 _ gm_1)) (hts (.code objectInit ⟨#[0xb1]⟩ 1 none) (gu_wsX7_init_1 _ gm_2)) rfl (by rw [hml]; exact hl.1) rfl dX7_init_1 (Nat.le_of_ble_eq_true rfl) (Nat.le_of_ble_eq_true rfl) ?_
  refine W.eq (g2 := F0 m 4 ls []) rfl ?_
  refine lv_aload_n hx hb dX7_init_4 rfl (lv_at hl 0 rfl) ?_
  refine lv_sipush (v := 3000) hx hb dX7_init_5 (by decide) ?_
  refine q_newi hx hb (hts (.arrayClass .int) (gu_wsX7_init_1 _ gm_3)) S (N' := 3000) (by decide) (by decide) (by decide) (Nat.le_of_ble_eq_true rfl) (Nat.le_of_ble_eq_true rfl) dX7_init_8 (fun q8 H nq8 S => ?_)
  refine W.widen (k := 1) (n := 3000) (by decide) (by decide) ?_
  obtain ⟨f1, ef1⟩ : ∃ z_, z_ = va_up f q8 (.inl (g 0, 3000, .inl (fun _ => 0))) := ⟨_, rfl⟩
  obtain ⟨L2, eL2⟩ : ∃ z_, z_ = L ++ [q8] := ⟨_, rfl⟩
  have S : PS D g (va_A (va_pl L f) sz) s.heap s L2 f1 H [] := by rw [ef1, eL2]; exact S
  have e_h : f1 h = .inr (5, [.null, .null, .null, .null, .null, .null, .null, .int 0, .int 0]) := up_ne ef1 (fun h => nq8 (h ▸ m_h)) e_h
  have nq8_h : h ≠ q8 := fun h => nq8 (h ▸ m_h)
  have m_h : h ∈ L2 := by rw [eL2]; exact List.mem_append_left _ m_h
  have e_q8 : f1 q8 = .inl (g 0, 3000, .inl (fun _ => 0)) := up_self ef1
  have m_q8 : q8 ∈ L2 := by rw [eL2]; simp
  have nzq8 : q8 ∉ L := fun h => nq8 (mono _ h)
  have fr : ∀ b, b ∈ L → b ≠ h → f1 b = f b := fun b mb nb0 => (up_ne ef1 (fun h => nzq8 (h ▸ mb)) rfl).trans (fr b mb nb0)
  have mono : ∀ b, b ∈ L → b ∈ L2 := fun b h => by rw [eL2]; exact List.mem_append_left _ (mono b h)
  refine q_putF hx hb hts in_X7 tyX7 tyX7_ok nmX7 hown hnm S m_h e_h (C := RX7) (T := TX7) (N := 9) rfl 0 (by decide) (hts (.fieldLink RX7 9 "SieveCabinet$Solver" "placeOf" "[I") (gu_wsX7_init_1 _ gm_4)) rfl rfl rfl rfl (Nat.le_of_ble_eq_true rfl) dX7_init_10 (fun H locs S => ?_)
  obtain ⟨f3, ef3⟩ : ∃ z_, z_ = va_up f1 h (.inr (5, [.ref q8, .null, .null, .null, .null, .null, .null, .int 0, .int 0])) := ⟨_, rfl⟩
  have S : PS D g (va_A (va_pl L f) sz) s.heap s L2 f3 H locs := by rw [ef3]; exact S
  have e_q8 : f3 q8 = .inl (g 0, 3000, .inl (fun _ => 0)) := up_ne ef3 (fun h => nq8_h h.symm) e_q8
  have e_h : f3 h = .inr (5, [.ref q8, .null, .null, .null, .null, .null, .null, .int 0, .int 0]) := up_self ef3
  have fr : ∀ b, b ∈ L → b ≠ h → f3 b = f b := fun b mb nb0 => (up_ne ef3 nb0 rfl).trans (fr b mb nb0)
  refine lv_aload_n hx hb dX7_init_13 rfl (lv_at hl 0 rfl) ?_
  refine lv_sipush (v := 1000) hx hb dX7_init_14 (by decide) ?_
  refine q_newi hx hb (hts (.arrayClass .int) (gu_wsX7_init_1 _ gm_3)) S (N' := 1000) (by decide) (by decide) (by decide) (Nat.le_of_ble_eq_true rfl) (Nat.le_of_ble_eq_true rfl) dX7_init_17 (fun q17 H nq17 S => ?_)
  refine W.widen (k := 2) (n := 4000) (by decide) (by decide) ?_
  obtain ⟨f4, ef4⟩ : ∃ z_, z_ = va_up f3 q17 (.inl (g 0, 1000, .inl (fun _ => 0))) := ⟨_, rfl⟩
  obtain ⟨L5, eL5⟩ : ∃ z_, z_ = L2 ++ [q17] := ⟨_, rfl⟩
  have S : PS D g (va_A (va_pl L f) sz) s.heap s L5 f4 H locs := by rw [ef4, eL5]; exact S
  have e_h : f4 h = .inr (5, [.ref q8, .null, .null, .null, .null, .null, .null, .int 0, .int 0]) := up_ne ef4 (fun h => nq17 (h ▸ m_h)) e_h
  have nq17_h : h ≠ q17 := fun h => nq17 (h ▸ m_h)
  have m_h : h ∈ L5 := by rw [eL5]; exact List.mem_append_left _ m_h
  have e_q8 : f4 q8 = .inl (g 0, 3000, .inl (fun _ => 0)) := up_ne ef4 (fun h => nq17 (h ▸ m_q8)) e_q8
  have nq17_q8 : q8 ≠ q17 := fun h => nq17 (h ▸ m_q8)
  have m_q8 : q8 ∈ L5 := by rw [eL5]; exact List.mem_append_left _ m_q8
  have e_q17 : f4 q17 = .inl (g 0, 1000, .inl (fun _ => 0)) := up_self ef4
  have m_q17 : q17 ∈ L5 := by rw [eL5]; simp
  have nzq17 : q17 ∉ L := fun h => nq17 (mono _ h)
  have fr : ∀ b, b ∈ L → b ≠ h → f4 b = f b := fun b mb nb0 => (up_ne ef4 (fun h => nzq17 (h ▸ mb)) rfl).trans (fr b mb nb0)
  have mono : ∀ b, b ∈ L → b ∈ L5 := fun b h => by rw [eL5]; exact List.mem_append_left _ (mono b h)
  refine q_putF hx hb hts in_X7 tyX7 tyX7_ok nmX7 hown hnm S m_h e_h (C := RX7) (T := TX7) (N := 9) rfl 1 (by decide) (hts (.fieldLink RX7 15 "SieveCabinet$Solver" "tagOf" "[I") (gu_wsX7_init_1 _ gm_5)) rfl rfl rfl rfl (Nat.le_of_ble_eq_true rfl) dX7_init_19 (fun H locs S => ?_)
  obtain ⟨f6, ef6⟩ : ∃ z_, z_ = va_up f4 h (.inr (5, [.ref q8, .ref q17, .null, .null, .null, .null, .null, .int 0, .int 0])) := ⟨_, rfl⟩
  have S : PS D g (va_A (va_pl L f) sz) s.heap s L5 f6 H locs := by rw [ef6]; exact S
  have e_q8 : f6 q8 = .inl (g 0, 3000, .inl (fun _ => 0)) := up_ne ef6 (fun h => nq8_h h.symm) e_q8
  have e_q17 : f6 q17 = .inl (g 0, 1000, .inl (fun _ => 0)) := up_ne ef6 (fun h => nq17_h h.symm) e_q17
  have e_h : f6 h = .inr (5, [.ref q8, .ref q17, .null, .null, .null, .null, .null, .int 0, .int 0]) := up_self ef6
  have fr : ∀ b, b ∈ L → b ≠ h → f6 b = f b := fun b mb nb0 => (up_ne ef6 nb0 rfl).trans (fr b mb nb0)
  refine lv_aload_n hx hb dX7_init_22 rfl (lv_at hl 0 rfl) ?_
  refine lv_sipush (v := 3774) hx hb dX7_init_23 (by decide) ?_
  refine q_newi hx hb (hts (.arrayClass .int) (gu_wsX7_init_1 _ gm_3)) S (N' := 3774) (by decide) (by decide) (by decide) (Nat.le_of_ble_eq_true rfl) (Nat.le_of_ble_eq_true rfl) dX7_init_26 (fun q26 H nq26 S => ?_)
  refine W.widen (k := 3) (n := 7774) (by decide) (by decide) ?_
  obtain ⟨f7, ef7⟩ : ∃ z_, z_ = va_up f6 q26 (.inl (g 0, 3774, .inl (fun _ => 0))) := ⟨_, rfl⟩
  obtain ⟨L8, eL8⟩ : ∃ z_, z_ = L5 ++ [q26] := ⟨_, rfl⟩
  have S : PS D g (va_A (va_pl L f) sz) s.heap s L8 f7 H locs := by rw [ef7, eL8]; exact S
  have e_h : f7 h = .inr (5, [.ref q8, .ref q17, .null, .null, .null, .null, .null, .int 0, .int 0]) := up_ne ef7 (fun h => nq26 (h ▸ m_h)) e_h
  have nq26_h : h ≠ q26 := fun h => nq26 (h ▸ m_h)
  have m_h : h ∈ L8 := by rw [eL8]; exact List.mem_append_left _ m_h
  have e_q8 : f7 q8 = .inl (g 0, 3000, .inl (fun _ => 0)) := up_ne ef7 (fun h => nq26 (h ▸ m_q8)) e_q8
  have nq26_q8 : q8 ≠ q26 := fun h => nq26 (h ▸ m_q8)
  have m_q8 : q8 ∈ L8 := by rw [eL8]; exact List.mem_append_left _ m_q8
  have e_q17 : f7 q17 = .inl (g 0, 1000, .inl (fun _ => 0)) := up_ne ef7 (fun h => nq26 (h ▸ m_q17)) e_q17
  have nq26_q17 : q17 ≠ q26 := fun h => nq26 (h ▸ m_q17)
  have m_q17 : q17 ∈ L8 := by rw [eL8]; exact List.mem_append_left _ m_q17
  have e_q26 : f7 q26 = .inl (g 0, 3774, .inl (fun _ => 0)) := up_self ef7
  have m_q26 : q26 ∈ L8 := by rw [eL8]; simp
  have nzq26 : q26 ∉ L := fun h => nq26 (mono _ h)
  have fr : ∀ b, b ∈ L → b ≠ h → f7 b = f b := fun b mb nb0 => (up_ne ef7 (fun h => nzq26 (h ▸ mb)) rfl).trans (fr b mb nb0)
  have mono : ∀ b, b ∈ L → b ∈ L8 := fun b h => by rw [eL8]; exact List.mem_append_left _ (mono b h)
  refine q_putF hx hb hts in_X7 tyX7 tyX7_ok nmX7 hown hnm S m_h e_h (C := RX7) (T := TX7) (N := 9) rfl 2 (by decide) (hts (.fieldLink RX7 18 "SieveCabinet$Solver" "left" "[I") (gu_wsX7_init_1 _ gm_6)) rfl rfl rfl rfl (Nat.le_of_ble_eq_true rfl) dX7_init_28 (fun H locs S => ?_)
  obtain ⟨f9, ef9⟩ : ∃ z_, z_ = va_up f7 h (.inr (5, [.ref q8, .ref q17, .ref q26, .null, .null, .null, .null, .int 0, .int 0])) := ⟨_, rfl⟩
  have S : PS D g (va_A (va_pl L f) sz) s.heap s L8 f9 H locs := by rw [ef9]; exact S
  have e_q8 : f9 q8 = .inl (g 0, 3000, .inl (fun _ => 0)) := up_ne ef9 (fun h => nq8_h h.symm) e_q8
  have e_q17 : f9 q17 = .inl (g 0, 1000, .inl (fun _ => 0)) := up_ne ef9 (fun h => nq17_h h.symm) e_q17
  have e_q26 : f9 q26 = .inl (g 0, 3774, .inl (fun _ => 0)) := up_ne ef9 (fun h => nq26_h h.symm) e_q26
  have e_h : f9 h = .inr (5, [.ref q8, .ref q17, .ref q26, .null, .null, .null, .null, .int 0, .int 0]) := up_self ef9
  have fr : ∀ b, b ∈ L → b ≠ h → f9 b = f b := fun b mb nb0 => (up_ne ef9 nb0 rfl).trans (fr b mb nb0)
  refine lv_aload_n hx hb dX7_init_31 rfl (lv_at hl 0 rfl) ?_
  refine lv_sipush (v := 3774) hx hb dX7_init_32 (by decide) ?_
  refine q_newi hx hb (hts (.arrayClass .int) (gu_wsX7_init_1 _ gm_3)) S (N' := 3774) (by decide) (by decide) (by decide) (Nat.le_of_ble_eq_true rfl) (Nat.le_of_ble_eq_true rfl) dX7_init_35 (fun q35 H nq35 S => ?_)
  refine W.widen (k := 4) (n := 11548) (by decide) (by decide) ?_
  obtain ⟨f10, ef10⟩ : ∃ z_, z_ = va_up f9 q35 (.inl (g 0, 3774, .inl (fun _ => 0))) := ⟨_, rfl⟩
  obtain ⟨L11, eL11⟩ : ∃ z_, z_ = L8 ++ [q35] := ⟨_, rfl⟩
  have S : PS D g (va_A (va_pl L f) sz) s.heap s L11 f10 H locs := by rw [ef10, eL11]; exact S
  have e_h : f10 h = .inr (5, [.ref q8, .ref q17, .ref q26, .null, .null, .null, .null, .int 0, .int 0]) := up_ne ef10 (fun h => nq35 (h ▸ m_h)) e_h
  have nq35_h : h ≠ q35 := fun h => nq35 (h ▸ m_h)
  have m_h : h ∈ L11 := by rw [eL11]; exact List.mem_append_left _ m_h
  have e_q8 : f10 q8 = .inl (g 0, 3000, .inl (fun _ => 0)) := up_ne ef10 (fun h => nq35 (h ▸ m_q8)) e_q8
  have nq35_q8 : q8 ≠ q35 := fun h => nq35 (h ▸ m_q8)
  have m_q8 : q8 ∈ L11 := by rw [eL11]; exact List.mem_append_left _ m_q8
  have e_q17 : f10 q17 = .inl (g 0, 1000, .inl (fun _ => 0)) := up_ne ef10 (fun h => nq35 (h ▸ m_q17)) e_q17
  have nq35_q17 : q17 ≠ q35 := fun h => nq35 (h ▸ m_q17)
  have m_q17 : q17 ∈ L11 := by rw [eL11]; exact List.mem_append_left _ m_q17
  have e_q26 : f10 q26 = .inl (g 0, 3774, .inl (fun _ => 0)) := up_ne ef10 (fun h => nq35 (h ▸ m_q26)) e_q26
  have nq35_q26 : q26 ≠ q35 := fun h => nq35 (h ▸ m_q26)
  have m_q26 : q26 ∈ L11 := by rw [eL11]; exact List.mem_append_left _ m_q26
  have e_q35 : f10 q35 = .inl (g 0, 3774, .inl (fun _ => 0)) := up_self ef10
  have m_q35 : q35 ∈ L11 := by rw [eL11]; simp
  have nzq35 : q35 ∉ L := fun h => nq35 (mono _ h)
  have fr : ∀ b, b ∈ L → b ≠ h → f10 b = f b := fun b mb nb0 => (up_ne ef10 (fun h => nzq35 (h ▸ mb)) rfl).trans (fr b mb nb0)
  have mono : ∀ b, b ∈ L → b ∈ L11 := fun b h => by rw [eL11]; exact List.mem_append_left _ (mono b h)
  refine q_putF hx hb hts in_X7 tyX7 tyX7_ok nmX7 hown hnm S m_h e_h (C := RX7) (T := TX7) (N := 9) rfl 3 (by decide) (hts (.fieldLink RX7 21 "SieveCabinet$Solver" "blend" "[I") (gu_wsX7_init_1 _ gm_7)) rfl rfl rfl rfl (Nat.le_of_ble_eq_true rfl) dX7_init_37 (fun H locs S => ?_)
  obtain ⟨f12, ef12⟩ : ∃ z_, z_ = va_up f10 h (.inr (5, [.ref q8, .ref q17, .ref q26, .ref q35, .null, .null, .null, .int 0, .int 0])) := ⟨_, rfl⟩
  have S : PS D g (va_A (va_pl L f) sz) s.heap s L11 f12 H locs := by rw [ef12]; exact S
  have e_q8 : f12 q8 = .inl (g 0, 3000, .inl (fun _ => 0)) := up_ne ef12 (fun h => nq8_h h.symm) e_q8
  have e_q17 : f12 q17 = .inl (g 0, 1000, .inl (fun _ => 0)) := up_ne ef12 (fun h => nq17_h h.symm) e_q17
  have e_q26 : f12 q26 = .inl (g 0, 3774, .inl (fun _ => 0)) := up_ne ef12 (fun h => nq26_h h.symm) e_q26
  have e_q35 : f12 q35 = .inl (g 0, 3774, .inl (fun _ => 0)) := up_ne ef12 (fun h => nq35_h h.symm) e_q35
  have e_h : f12 h = .inr (5, [.ref q8, .ref q17, .ref q26, .ref q35, .null, .null, .null, .int 0, .int 0]) := up_self ef12
  have fr : ∀ b, b ∈ L → b ≠ h → f12 b = f b := fun b mb nb0 => (up_ne ef12 nb0 rfl).trans (fr b mb nb0)
  refine lv_aload_n hx hb dX7_init_40 rfl (lv_at hl 0 rfl) ?_
  refine q_new (fs := [.null, .int 0]) (C := RX1) (T := TX1) (N := 2) (ci := 1) hx hb hts in_X1 tyX1 tyX1_ok hown (hts (.classLink RX7 24 RX1) (gu_wsX7_init_1 _ gm_8)) (hts (.instantiable RX1 2) (gu_wsX7_init_1 _ gm_9)) (hts (.initialized RX1) (gu_wsX7_init_1 _ gm_10)) S rfl (fun j hj => by rcases (show j = 0 ∨ j = 1 by omega) with rfl | rfl <;> rfl) (Nat.le_of_ble_eq_true rfl) (Nat.le_of_ble_eq_true rfl) dX7_init_41 (fun q41 H nq41 S => ?_)
  refine W.widen (k := 5) (n := 11550) (by decide) (by decide) ?_
  obtain ⟨f13, ef13⟩ : ∃ z_, z_ = va_up f12 q41 (.inr (1, [.null, .int 0])) := ⟨_, rfl⟩
  obtain ⟨L14, eL14⟩ : ∃ z_, z_ = L11 ++ [q41] := ⟨_, rfl⟩
  have S : PS D g (va_A (va_pl L f) sz) s.heap s L14 f13 H locs := by rw [ef13, eL14]; exact S
  have e_h : f13 h = .inr (5, [.ref q8, .ref q17, .ref q26, .ref q35, .null, .null, .null, .int 0, .int 0]) := up_ne ef13 (fun h => nq41 (h ▸ m_h)) e_h
  have nq41_h : h ≠ q41 := fun h => nq41 (h ▸ m_h)
  have m_h : h ∈ L14 := by rw [eL14]; exact List.mem_append_left _ m_h
  have e_q8 : f13 q8 = .inl (g 0, 3000, .inl (fun _ => 0)) := up_ne ef13 (fun h => nq41 (h ▸ m_q8)) e_q8
  have nq41_q8 : q8 ≠ q41 := fun h => nq41 (h ▸ m_q8)
  have m_q8 : q8 ∈ L14 := by rw [eL14]; exact List.mem_append_left _ m_q8
  have e_q17 : f13 q17 = .inl (g 0, 1000, .inl (fun _ => 0)) := up_ne ef13 (fun h => nq41 (h ▸ m_q17)) e_q17
  have nq41_q17 : q17 ≠ q41 := fun h => nq41 (h ▸ m_q17)
  have m_q17 : q17 ∈ L14 := by rw [eL14]; exact List.mem_append_left _ m_q17
  have e_q26 : f13 q26 = .inl (g 0, 3774, .inl (fun _ => 0)) := up_ne ef13 (fun h => nq41 (h ▸ m_q26)) e_q26
  have nq41_q26 : q26 ≠ q41 := fun h => nq41 (h ▸ m_q26)
  have m_q26 : q26 ∈ L14 := by rw [eL14]; exact List.mem_append_left _ m_q26
  have e_q35 : f13 q35 = .inl (g 0, 3774, .inl (fun _ => 0)) := up_ne ef13 (fun h => nq41 (h ▸ m_q35)) e_q35
  have nq41_q35 : q35 ≠ q41 := fun h => nq41 (h ▸ m_q35)
  have m_q35 : q35 ∈ L14 := by rw [eL14]; exact List.mem_append_left _ m_q35
  have e_q41 : f13 q41 = .inr (1, [.null, .int 0]) := up_self ef13
  have m_q41 : q41 ∈ L14 := by rw [eL14]; simp
  have nzq41 : q41 ∉ L := fun h => nq41 (mono _ h)
  have fr : ∀ b, b ∈ L → b ≠ h → f13 b = f b := fun b mb nb0 => (up_ne ef13 (fun h => nzq41 (h ▸ mb)) rfl).trans (fr b mb nb0)
  have mono : ∀ b, b ∈ L → b ∈ L14 := fun b h => by rw [eL14]; exact List.mem_append_left _ (mono b h)
  refine lv_dup hx hb dX7_init_44 rfl ?_
  refine q_nv (As := []) (rest := [.ref q41, .ref h]) (host := "SieveCabinet") ⟨hx, hb, hml, hown, hts⟩ (c_X1_init l D g m_q41 e_q41) ⟨va_cnB 0 hts gX7_init_X1_init_n26 rfl rfl rfl (S.1.2.1 _ (List.mem_of_getElem? (i := 2) rfl)) (hts (.initialized RX1) (gu_wsX7_init_1 _ gm_10)) (by decide +kernel) ⟨Nat.le_of_ble_eq_true rfl, Nat.le_of_ble_eq_true rfl⟩, rfl, hts (.instanceMethod yX1_init) (by decide +kernel)⟩ S rfl hl.1 rfl (Nat.le_of_ble_eq_true rfl) dX7_init_45 ⟨Nat.le_of_ble_eq_true rfl, Nat.le_of_ble_eq_true rfl⟩ (fun L15 f16 H locs S w45 => ?_)
  refine W.widen (k := 6) (n := 11614) (by decide) (by decide) ?_
  obtain ⟨q745, mo45, fv45, ⟨nq745, m_q745, e_q745⟩, E_q41⟩ := w45
  have e_h : f16 h = .inr (5, [.ref q8, .ref q17, .ref q26, .ref q35, .null, .null, .null, .int 0, .int 0]) := (fv45 h m_h (fun h => nq41_h h)).trans e_h
  have e_q8 : f16 q8 = .inl (g 0, 3000, .inl (fun _ => 0)) := (fv45 q8 m_q8 (fun h => nq41_q8 h)).trans e_q8
  have e_q17 : f16 q17 = .inl (g 0, 1000, .inl (fun _ => 0)) := (fv45 q17 m_q17 (fun h => nq41_q17 h)).trans e_q17
  have e_q26 : f16 q26 = .inl (g 0, 3774, .inl (fun _ => 0)) := (fv45 q26 m_q26 (fun h => nq41_q26 h)).trans e_q26
  have e_q35 : f16 q35 = .inl (g 0, 3774, .inl (fun _ => 0)) := (fv45 q35 m_q35 (fun h => nq41_q35 h)).trans e_q35
  have nq745_h : h ≠ q745 := fun h => nq745 (h ▸ m_h)
  have nq745_q8 : q8 ≠ q745 := fun h => nq745 (h ▸ m_q8)
  have nq745_q17 : q17 ≠ q745 := fun h => nq745 (h ▸ m_q17)
  have nq745_q26 : q26 ≠ q745 := fun h => nq745 (h ▸ m_q26)
  have nq745_q35 : q35 ≠ q745 := fun h => nq745 (h ▸ m_q35)
  have nq745_q41 : q41 ≠ q745 := fun h => nq745 (h ▸ m_q41)
  have m_h : h ∈ L15 := mo45 h m_h
  have m_q8 : q8 ∈ L15 := mo45 q8 m_q8
  have m_q17 : q17 ∈ L15 := mo45 q17 m_q17
  have m_q26 : q26 ∈ L15 := mo45 q26 m_q26
  have m_q35 : q35 ∈ L15 := mo45 q35 m_q35
  have m_q41 : q41 ∈ L15 := mo45 q41 m_q41
  have e_q41 := E_q41
  have nzq745 : q745 ∉ L := fun h => nq745 (mono _ h)
  have fr : ∀ b, b ∈ L → b ≠ h → f16 b = f b := fun b mb nb0 => (fv45 b (mono b mb) (fun h => nzq41 (h ▸ mb))).trans (fr b mb nb0)
  have mono : ∀ b, b ∈ L → b ∈ L15 := fun b h => mo45 b (mono b h)
  refine q_putF hx hb hts in_X7 tyX7 tyX7_ok nmX7 hown hnm S m_h e_h (C := RX7) (T := TX7) (N := 9) rfl 4 (by decide) (hts (.fieldLink RX7 27 "SieveCabinet$Solver" "singles" "LSieveCabinet$BitRow;") (gu_wsX7_init_1 _ gm_11)) rfl rfl rfl rfl (Nat.le_of_ble_eq_true rfl) dX7_init_48 (fun H locs S => ?_)
  obtain ⟨f18, ef18⟩ : ∃ z_, z_ = va_up f16 h (.inr (5, [.ref q8, .ref q17, .ref q26, .ref q35, .ref q41, .null, .null, .int 0, .int 0])) := ⟨_, rfl⟩
  have S : PS D g (va_A (va_pl L f) sz) s.heap s L15 f18 H locs := by rw [ef18]; exact S
  have e_q8 : f18 q8 = .inl (g 0, 3000, .inl (fun _ => 0)) := up_ne ef18 (fun h => nq8_h h.symm) e_q8
  have e_q17 : f18 q17 = .inl (g 0, 1000, .inl (fun _ => 0)) := up_ne ef18 (fun h => nq17_h h.symm) e_q17
  have e_q26 : f18 q26 = .inl (g 0, 3774, .inl (fun _ => 0)) := up_ne ef18 (fun h => nq26_h h.symm) e_q26
  have e_q35 : f18 q35 = .inl (g 0, 3774, .inl (fun _ => 0)) := up_ne ef18 (fun h => nq35_h h.symm) e_q35
  have e_q41 : f18 q41 = .inr (1, [.ref q745, .int 0]) := up_ne ef18 (fun h => nq41_h h.symm) e_q41
  have e_q745 : f18 q745 = .inl (g 1, 64, .inr (.inl (fun _ => 0))) := up_ne ef18 (fun h => nq745_h h.symm) e_q745
  have e_h : f18 h = .inr (5, [.ref q8, .ref q17, .ref q26, .ref q35, .ref q41, .null, .null, .int 0, .int 0]) := up_self ef18
  have fr : ∀ b, b ∈ L → b ≠ h → f18 b = f b := fun b mb nb0 => (up_ne ef18 nb0 rfl).trans (fr b mb nb0)
  refine lv_aload_n hx hb dX7_init_51 rfl (lv_at hl 0 rfl) ?_
  refine lv_sipush (v := 1000) hx hb dX7_init_52 (by decide) ?_
  refine q_newi hx hb (hts (.arrayClass .int) (gu_wsX7_init_1 _ gm_3)) S (N' := 1000) (by decide) (by decide) (by decide) (Nat.le_of_ble_eq_true rfl) (Nat.le_of_ble_eq_true rfl) dX7_init_55 (fun q55 H nq55 S => ?_)
  refine W.widen (k := 7) (n := 12614) (by decide) (by decide) ?_
  obtain ⟨f19, ef19⟩ : ∃ z_, z_ = va_up f18 q55 (.inl (g 0, 1000, .inl (fun _ => 0))) := ⟨_, rfl⟩
  obtain ⟨L20, eL20⟩ : ∃ z_, z_ = L15 ++ [q55] := ⟨_, rfl⟩
  have S : PS D g (va_A (va_pl L f) sz) s.heap s L20 f19 H locs := by rw [ef19, eL20]; exact S
  have e_h : f19 h = .inr (5, [.ref q8, .ref q17, .ref q26, .ref q35, .ref q41, .null, .null, .int 0, .int 0]) := up_ne ef19 (fun h => nq55 (h ▸ m_h)) e_h
  have nq55_h : h ≠ q55 := fun h => nq55 (h ▸ m_h)
  have m_h : h ∈ L20 := by rw [eL20]; exact List.mem_append_left _ m_h
  have e_q8 : f19 q8 = .inl (g 0, 3000, .inl (fun _ => 0)) := up_ne ef19 (fun h => nq55 (h ▸ m_q8)) e_q8
  have nq55_q8 : q8 ≠ q55 := fun h => nq55 (h ▸ m_q8)
  have m_q8 : q8 ∈ L20 := by rw [eL20]; exact List.mem_append_left _ m_q8
  have e_q17 : f19 q17 = .inl (g 0, 1000, .inl (fun _ => 0)) := up_ne ef19 (fun h => nq55 (h ▸ m_q17)) e_q17
  have nq55_q17 : q17 ≠ q55 := fun h => nq55 (h ▸ m_q17)
  have m_q17 : q17 ∈ L20 := by rw [eL20]; exact List.mem_append_left _ m_q17
  have e_q26 : f19 q26 = .inl (g 0, 3774, .inl (fun _ => 0)) := up_ne ef19 (fun h => nq55 (h ▸ m_q26)) e_q26
  have nq55_q26 : q26 ≠ q55 := fun h => nq55 (h ▸ m_q26)
  have m_q26 : q26 ∈ L20 := by rw [eL20]; exact List.mem_append_left _ m_q26
  have e_q35 : f19 q35 = .inl (g 0, 3774, .inl (fun _ => 0)) := up_ne ef19 (fun h => nq55 (h ▸ m_q35)) e_q35
  have nq55_q35 : q35 ≠ q55 := fun h => nq55 (h ▸ m_q35)
  have m_q35 : q35 ∈ L20 := by rw [eL20]; exact List.mem_append_left _ m_q35
  have e_q41 : f19 q41 = .inr (1, [.ref q745, .int 0]) := up_ne ef19 (fun h => nq55 (h ▸ m_q41)) e_q41
  have nq55_q41 : q41 ≠ q55 := fun h => nq55 (h ▸ m_q41)
  have m_q41 : q41 ∈ L20 := by rw [eL20]; exact List.mem_append_left _ m_q41
  have e_q745 : f19 q745 = .inl (g 1, 64, .inr (.inl (fun _ => 0))) := up_ne ef19 (fun h => nq55 (h ▸ m_q745)) e_q745
  have nq55_q745 : q745 ≠ q55 := fun h => nq55 (h ▸ m_q745)
  have m_q745 : q745 ∈ L20 := by rw [eL20]; exact List.mem_append_left _ m_q745
  have e_q55 : f19 q55 = .inl (g 0, 1000, .inl (fun _ => 0)) := up_self ef19
  have m_q55 : q55 ∈ L20 := by rw [eL20]; simp
  have nzq55 : q55 ∉ L := fun h => nq55 (mono _ h)
  have fr : ∀ b, b ∈ L → b ≠ h → f19 b = f b := fun b mb nb0 => (up_ne ef19 (fun h => nzq55 (h ▸ mb)) rfl).trans (fr b mb nb0)
  have mono : ∀ b, b ∈ L → b ∈ L20 := fun b h => by rw [eL20]; exact List.mem_append_left _ (mono b h)
  refine q_putF hx hb hts in_X7 tyX7 tyX7_ok nmX7 hown hnm S m_h e_h (C := RX7) (T := TX7) (N := 9) rfl 5 (by decide) (hts (.fieldLink RX7 31 "SieveCabinet$Solver" "takenThing" "[I") (gu_wsX7_init_1 _ gm_12)) rfl rfl rfl rfl (Nat.le_of_ble_eq_true rfl) dX7_init_57 (fun H locs S => ?_)
  obtain ⟨f21, ef21⟩ : ∃ z_, z_ = va_up f19 h (.inr (5, [.ref q8, .ref q17, .ref q26, .ref q35, .ref q41, .ref q55, .null, .int 0, .int 0])) := ⟨_, rfl⟩
  have S : PS D g (va_A (va_pl L f) sz) s.heap s L20 f21 H locs := by rw [ef21]; exact S
  have e_q8 : f21 q8 = .inl (g 0, 3000, .inl (fun _ => 0)) := up_ne ef21 (fun h => nq8_h h.symm) e_q8
  have e_q17 : f21 q17 = .inl (g 0, 1000, .inl (fun _ => 0)) := up_ne ef21 (fun h => nq17_h h.symm) e_q17
  have e_q26 : f21 q26 = .inl (g 0, 3774, .inl (fun _ => 0)) := up_ne ef21 (fun h => nq26_h h.symm) e_q26
  have e_q35 : f21 q35 = .inl (g 0, 3774, .inl (fun _ => 0)) := up_ne ef21 (fun h => nq35_h h.symm) e_q35
  have e_q41 : f21 q41 = .inr (1, [.ref q745, .int 0]) := up_ne ef21 (fun h => nq41_h h.symm) e_q41
  have e_q745 : f21 q745 = .inl (g 1, 64, .inr (.inl (fun _ => 0))) := up_ne ef21 (fun h => nq745_h h.symm) e_q745
  have e_q55 : f21 q55 = .inl (g 0, 1000, .inl (fun _ => 0)) := up_ne ef21 (fun h => nq55_h h.symm) e_q55
  have e_h : f21 h = .inr (5, [.ref q8, .ref q17, .ref q26, .ref q35, .ref q41, .ref q55, .null, .int 0, .int 0]) := up_self ef21
  have fr : ∀ b, b ∈ L → b ≠ h → f21 b = f b := fun b mb nb0 => (up_ne ef21 nb0 rfl).trans (fr b mb nb0)
  refine lv_aload_n hx hb dX7_init_60 rfl (lv_at hl 0 rfl) ?_
  refine lv_sipush (v := 1000) hx hb dX7_init_61 (by decide) ?_
  refine q_newi hx hb (hts (.arrayClass .int) (gu_wsX7_init_1 _ gm_3)) S (N' := 1000) (by decide) (by decide) (by decide) (Nat.le_of_ble_eq_true rfl) (Nat.le_of_ble_eq_true rfl) dX7_init_64 (fun q64 H nq64 S => ?_)
  refine W.widen (k := 8) (n := 13614) (by decide) (by decide) ?_
  obtain ⟨f22, ef22⟩ : ∃ z_, z_ = va_up f21 q64 (.inl (g 0, 1000, .inl (fun _ => 0))) := ⟨_, rfl⟩
  obtain ⟨L23, eL23⟩ : ∃ z_, z_ = L20 ++ [q64] := ⟨_, rfl⟩
  have S : PS D g (va_A (va_pl L f) sz) s.heap s L23 f22 H locs := by rw [ef22, eL23]; exact S
  have e_h : f22 h = .inr (5, [.ref q8, .ref q17, .ref q26, .ref q35, .ref q41, .ref q55, .null, .int 0, .int 0]) := up_ne ef22 (fun h => nq64 (h ▸ m_h)) e_h
  have nq64_h : h ≠ q64 := fun h => nq64 (h ▸ m_h)
  have m_h : h ∈ L23 := by rw [eL23]; exact List.mem_append_left _ m_h
  have e_q8 : f22 q8 = .inl (g 0, 3000, .inl (fun _ => 0)) := up_ne ef22 (fun h => nq64 (h ▸ m_q8)) e_q8
  have nq64_q8 : q8 ≠ q64 := fun h => nq64 (h ▸ m_q8)
  have m_q8 : q8 ∈ L23 := by rw [eL23]; exact List.mem_append_left _ m_q8
  have e_q17 : f22 q17 = .inl (g 0, 1000, .inl (fun _ => 0)) := up_ne ef22 (fun h => nq64 (h ▸ m_q17)) e_q17
  have nq64_q17 : q17 ≠ q64 := fun h => nq64 (h ▸ m_q17)
  have m_q17 : q17 ∈ L23 := by rw [eL23]; exact List.mem_append_left _ m_q17
  have e_q26 : f22 q26 = .inl (g 0, 3774, .inl (fun _ => 0)) := up_ne ef22 (fun h => nq64 (h ▸ m_q26)) e_q26
  have nq64_q26 : q26 ≠ q64 := fun h => nq64 (h ▸ m_q26)
  have m_q26 : q26 ∈ L23 := by rw [eL23]; exact List.mem_append_left _ m_q26
  have e_q35 : f22 q35 = .inl (g 0, 3774, .inl (fun _ => 0)) := up_ne ef22 (fun h => nq64 (h ▸ m_q35)) e_q35
  have nq64_q35 : q35 ≠ q64 := fun h => nq64 (h ▸ m_q35)
  have m_q35 : q35 ∈ L23 := by rw [eL23]; exact List.mem_append_left _ m_q35
  have e_q41 : f22 q41 = .inr (1, [.ref q745, .int 0]) := up_ne ef22 (fun h => nq64 (h ▸ m_q41)) e_q41
  have nq64_q41 : q41 ≠ q64 := fun h => nq64 (h ▸ m_q41)
  have m_q41 : q41 ∈ L23 := by rw [eL23]; exact List.mem_append_left _ m_q41
  have e_q745 : f22 q745 = .inl (g 1, 64, .inr (.inl (fun _ => 0))) := up_ne ef22 (fun h => nq64 (h ▸ m_q745)) e_q745
  have nq64_q745 : q745 ≠ q64 := fun h => nq64 (h ▸ m_q745)
  have m_q745 : q745 ∈ L23 := by rw [eL23]; exact List.mem_append_left _ m_q745
  have e_q55 : f22 q55 = .inl (g 0, 1000, .inl (fun _ => 0)) := up_ne ef22 (fun h => nq64 (h ▸ m_q55)) e_q55
  have nq64_q55 : q55 ≠ q64 := fun h => nq64 (h ▸ m_q55)
  have m_q55 : q55 ∈ L23 := by rw [eL23]; exact List.mem_append_left _ m_q55
  have e_q64 : f22 q64 = .inl (g 0, 1000, .inl (fun _ => 0)) := up_self ef22
  have m_q64 : q64 ∈ L23 := by rw [eL23]; simp
  have nzq64 : q64 ∉ L := fun h => nq64 (mono _ h)
  have fr : ∀ b, b ∈ L → b ≠ h → f22 b = f b := fun b mb nb0 => (up_ne ef22 (fun h => nzq64 (h ▸ mb)) rfl).trans (fr b mb nb0)
  have mono : ∀ b, b ∈ L → b ∈ L23 := fun b h => by rw [eL23]; exact List.mem_append_left _ (mono b h)
  refine q_putF hx hb hts in_X7 tyX7 tyX7_ok nmX7 hown hnm S m_h e_h (C := RX7) (T := TX7) (N := 9) rfl 6 (by decide) (hts (.fieldLink RX7 34 "SieveCabinet$Solver" "takenPlace" "[I") (gu_wsX7_init_1 _ gm_13)) rfl rfl rfl rfl (Nat.le_of_ble_eq_true rfl) dX7_init_66 (fun H locs S => ?_)
  obtain ⟨f24, ef24⟩ : ∃ z_, z_ = va_up f22 h (.inr (5, [.ref q8, .ref q17, .ref q26, .ref q35, .ref q41, .ref q55, .ref q64, .int 0, .int 0])) := ⟨_, rfl⟩
  have S : PS D g (va_A (va_pl L f) sz) s.heap s L23 f24 H locs := by rw [ef24]; exact S
  have e_q8 : f24 q8 = .inl (g 0, 3000, .inl (fun _ => 0)) := up_ne ef24 (fun h => nq8_h h.symm) e_q8
  have e_q17 : f24 q17 = .inl (g 0, 1000, .inl (fun _ => 0)) := up_ne ef24 (fun h => nq17_h h.symm) e_q17
  have e_q26 : f24 q26 = .inl (g 0, 3774, .inl (fun _ => 0)) := up_ne ef24 (fun h => nq26_h h.symm) e_q26
  have e_q35 : f24 q35 = .inl (g 0, 3774, .inl (fun _ => 0)) := up_ne ef24 (fun h => nq35_h h.symm) e_q35
  have e_q41 : f24 q41 = .inr (1, [.ref q745, .int 0]) := up_ne ef24 (fun h => nq41_h h.symm) e_q41
  have e_q745 : f24 q745 = .inl (g 1, 64, .inr (.inl (fun _ => 0))) := up_ne ef24 (fun h => nq745_h h.symm) e_q745
  have e_q55 : f24 q55 = .inl (g 0, 1000, .inl (fun _ => 0)) := up_ne ef24 (fun h => nq55_h h.symm) e_q55
  have e_q64 : f24 q64 = .inl (g 0, 1000, .inl (fun _ => 0)) := up_ne ef24 (fun h => nq64_h h.symm) e_q64
  have e_h : f24 h = .inr (5, [.ref q8, .ref q17, .ref q26, .ref q35, .ref q41, .ref q55, .ref q64, .int 0, .int 0]) := up_self ef24
  have fr : ∀ b, b ∈ L → b ≠ h → f24 b = f b := fun b mb nb0 => (up_ne ef24 nb0 rfl).trans (fr b mb nb0)
  exact q_retv (post := fun L1 f1 => ∃ q8 : Nat, ∃ q17 : Nat, ∃ q26 : Nat, ∃ q35 : Nat, ∃ q41 : Nat, ∃ q745 : Nat, ∃ q55 : Nat, ∃ q64 : Nat, (∀ b, b ∈ L → b ∈ L1) ∧ (∀ b, b ∈ L → b ≠ h → f1 b = f b) ∧ (q8 ∉ L ∧ q8 ∈ L1 ∧ f1 q8 = .inl (g 0, 3000, .inl (fun _ => 0))) ∧ (q17 ∉ L ∧ q17 ∈ L1 ∧ f1 q17 = .inl (g 0, 1000, .inl (fun _ => 0))) ∧ (q26 ∉ L ∧ q26 ∈ L1 ∧ f1 q26 = .inl (g 0, 3774, .inl (fun _ => 0))) ∧ (q35 ∉ L ∧ q35 ∈ L1 ∧ f1 q35 = .inl (g 0, 3774, .inl (fun _ => 0))) ∧ (q41 ∉ L ∧ q41 ∈ L1 ∧ f1 q41 = .inr (1, [.ref q745, .int 0])) ∧ (q745 ∉ L ∧ q745 ∈ L1 ∧ f1 q745 = .inl (g 1, 64, .inr (.inl (fun _ => 0)))) ∧ (q55 ∉ L ∧ q55 ∈ L1 ∧ f1 q55 = .inl (g 0, 1000, .inl (fun _ => 0))) ∧ (q64 ∉ L ∧ q64 ∈ L1 ∧ f1 q64 = .inl (g 0, 1000, .inl (fun _ => 0))) ∧ f1 h = .inr (5, [.ref q8, .ref q17, .ref q26, .ref q35, .ref q41, .ref q55, .ref q64, .int 0, .int 0]) ∧ q35 ≠ q26 ∧ q55 ≠ q17 ∧ q64 ≠ q17 ∧ q64 ≠ q55) hx hb hr hlk S dX7_init_69 (by decide) (by decide) (⟨q8, q17, q26, q35, q41, q745, q55, q64, mono, fr, ⟨nzq8, m_q8, e_q8⟩, ⟨nzq17, m_q17, e_q17⟩, ⟨nzq26, m_q26, e_q26⟩, ⟨nzq35, m_q35, e_q35⟩, ⟨nzq41, m_q41, e_q41⟩, ⟨nzq745, m_q745, e_q745⟩, ⟨nzq55, m_q55, e_q55⟩, ⟨nzq64, m_q64, e_q64⟩, e_h, ⟨Ne.symm nq35_q26, Ne.symm nq55_q17, Ne.symm nq64_q17, Ne.symm nq64_q55⟩⟩)

set_option maxHeartbeats 4000000 in
set_option maxRecDepth 100000 in
/-- SieveCabinet$Chooser.<init> -/
theorem c_X2_initF (l : Launch) (D : va_G) (g : Nat → ClassId) {L : List Nat} {f : Nat → va_E} {h : Nat} (m_h : h ∈ L) (e_h : f h = .inr (2, [.null, .null, .null, .int 0, .int 0]))  : cV l yX2_init wsX2_init { frames := 2, cells := 4, slots := 2066, locals := 32 } D g [.ref h] L f 4 2066 (fun L1 f1 => ∃ q8 : Nat, ∃ q17 : Nat, ∃ q23 : Nat, ∃ q727 : Nat, (∀ b, b ∈ L → b ∈ L1) ∧ (∀ b, b ∈ L → b ≠ h → f1 b = f b) ∧ (q8 ∉ L ∧ q8 ∈ L1 ∧ f1 q8 = .inl (g 1, 1000, .inr (.inl (fun _ => 0)))) ∧ (q17 ∉ L ∧ q17 ∈ L1 ∧ f1 q17 = .inl (g 1, 1000, .inr (.inl (fun _ => 0)))) ∧ (q23 ∉ L ∧ q23 ∈ L1 ∧ f1 q23 = .inr (1, [.ref q727, .int 0])) ∧ (q727 ∉ L ∧ q727 ∈ L1 ∧ f1 q727 = .inl (g 1, 64, .inr (.inl (fun _ => 0)))) ∧ f1 h = .inr (2, [.ref q8, .ref q17, .ref q23, .int 0, .int 0]) ∧ q17 ≠ q8) := by
  refine cV_of (cc := cX2_init) (maxL := 1) (ret := none) (by decide) rfl (Nat.le_of_ble_eq_true rfl) ?_
  intro sz p e s m below meth c hx hb hr hml hts hown hlk hnm S ls hl
  have hl : lv_has ls 1 [(0, .ref h)] := hl
  have in_X1 : ∀ w ∈ wsX10, w ∈ wsX2_init := gu_wsX2_init_3
  have in_X2 : ∀ w ∈ wsX20, w ∈ wsX2_init := gu_wsX2_init_2
  have fr : ∀ b, b ∈ L → b ≠ h → f b = f b := fun _ _ _ => rfl
  have mono : ∀ b, b ∈ L → b ∈ L := fun _ h => h
  refine lv_aload_n hx hb dX2_init_0 rfl (lv_at hl 0 rfl) ?_
  refine W.objInit hx hb hown (hts (.methodLink RX2 3 objectInit) (gu_wsX2_init_1 _ gm_0)) (hts (.instanceMethod objectInit) (gu_wsX2_init_1 _ gm_1)) (hts (.code objectInit ⟨#[0xb1]⟩ 1 none) (gu_wsX2_init_1 _ gm_2)) rfl (by rw [hml]; exact hl.1) rfl dX2_init_1 (Nat.le_of_ble_eq_true rfl) (Nat.le_of_ble_eq_true rfl) ?_
  refine W.eq (g2 := F0 m 4 ls []) rfl ?_
  refine lv_aload_n hx hb dX2_init_4 rfl (lv_at hl 0 rfl) ?_
  refine lv_sipush (v := 1000) hx hb dX2_init_5 (by decide) ?_
  refine q_newl hx hb (hts (.arrayClass .long) (gu_wsX2_init_1 _ gm_3)) S (N' := 1000) (by decide) (by decide) (by decide) (Nat.le_of_ble_eq_true rfl) (Nat.le_of_ble_eq_true rfl) dX2_init_8 (fun q8 H nq8 S => ?_)
  refine W.widen (k := 1) (n := 1000) (by decide) (by decide) ?_
  obtain ⟨f1, ef1⟩ : ∃ z_, z_ = va_up f q8 (.inl (g 1, 1000, .inr (.inl (fun _ => 0)))) := ⟨_, rfl⟩
  obtain ⟨L2, eL2⟩ : ∃ z_, z_ = L ++ [q8] := ⟨_, rfl⟩
  have S : PS D g (va_A (va_pl L f) sz) s.heap s L2 f1 H [] := by rw [ef1, eL2]; exact S
  have e_h : f1 h = .inr (2, [.null, .null, .null, .int 0, .int 0]) := up_ne ef1 (fun h => nq8 (h ▸ m_h)) e_h
  have nq8_h : h ≠ q8 := fun h => nq8 (h ▸ m_h)
  have m_h : h ∈ L2 := by rw [eL2]; exact List.mem_append_left _ m_h
  have e_q8 : f1 q8 = .inl (g 1, 1000, .inr (.inl (fun _ => 0))) := up_self ef1
  have m_q8 : q8 ∈ L2 := by rw [eL2]; simp
  have nzq8 : q8 ∉ L := fun h => nq8 (mono _ h)
  have fr : ∀ b, b ∈ L → b ≠ h → f1 b = f b := fun b mb nb0 => (up_ne ef1 (fun h => nzq8 (h ▸ mb)) rfl).trans (fr b mb nb0)
  have mono : ∀ b, b ∈ L → b ∈ L2 := fun b h => by rw [eL2]; exact List.mem_append_left _ (mono b h)
  refine q_putF hx hb hts in_X2 tyX2 tyX2_ok nmX2 hown hnm S m_h e_h (C := RX2) (T := TX2) (N := 5) rfl 0 (by decide) (hts (.fieldLink RX2 9 "SieveCabinet$Chooser" "inMixes" "[J") (gu_wsX2_init_1 _ gm_4)) rfl rfl rfl rfl (Nat.le_of_ble_eq_true rfl) dX2_init_10 (fun H locs S => ?_)
  obtain ⟨f3, ef3⟩ : ∃ z_, z_ = va_up f1 h (.inr (2, [.ref q8, .null, .null, .int 0, .int 0])) := ⟨_, rfl⟩
  have S : PS D g (va_A (va_pl L f) sz) s.heap s L2 f3 H locs := by rw [ef3]; exact S
  have e_q8 : f3 q8 = .inl (g 1, 1000, .inr (.inl (fun _ => 0))) := up_ne ef3 (fun h => nq8_h h.symm) e_q8
  have e_h : f3 h = .inr (2, [.ref q8, .null, .null, .int 0, .int 0]) := up_self ef3
  have fr : ∀ b, b ∈ L → b ≠ h → f3 b = f b := fun b mb nb0 => (up_ne ef3 nb0 rfl).trans (fr b mb nb0)
  refine lv_aload_n hx hb dX2_init_13 rfl (lv_at hl 0 rfl) ?_
  refine lv_sipush (v := 1000) hx hb dX2_init_14 (by decide) ?_
  refine q_newl hx hb (hts (.arrayClass .long) (gu_wsX2_init_1 _ gm_3)) S (N' := 1000) (by decide) (by decide) (by decide) (Nat.le_of_ble_eq_true rfl) (Nat.le_of_ble_eq_true rfl) dX2_init_17 (fun q17 H nq17 S => ?_)
  refine W.widen (k := 2) (n := 2000) (by decide) (by decide) ?_
  obtain ⟨f4, ef4⟩ : ∃ z_, z_ = va_up f3 q17 (.inl (g 1, 1000, .inr (.inl (fun _ => 0)))) := ⟨_, rfl⟩
  obtain ⟨L5, eL5⟩ : ∃ z_, z_ = L2 ++ [q17] := ⟨_, rfl⟩
  have S : PS D g (va_A (va_pl L f) sz) s.heap s L5 f4 H locs := by rw [ef4, eL5]; exact S
  have e_h : f4 h = .inr (2, [.ref q8, .null, .null, .int 0, .int 0]) := up_ne ef4 (fun h => nq17 (h ▸ m_h)) e_h
  have nq17_h : h ≠ q17 := fun h => nq17 (h ▸ m_h)
  have m_h : h ∈ L5 := by rw [eL5]; exact List.mem_append_left _ m_h
  have e_q8 : f4 q8 = .inl (g 1, 1000, .inr (.inl (fun _ => 0))) := up_ne ef4 (fun h => nq17 (h ▸ m_q8)) e_q8
  have nq17_q8 : q8 ≠ q17 := fun h => nq17 (h ▸ m_q8)
  have m_q8 : q8 ∈ L5 := by rw [eL5]; exact List.mem_append_left _ m_q8
  have e_q17 : f4 q17 = .inl (g 1, 1000, .inr (.inl (fun _ => 0))) := up_self ef4
  have m_q17 : q17 ∈ L5 := by rw [eL5]; simp
  have nzq17 : q17 ∉ L := fun h => nq17 (mono _ h)
  have fr : ∀ b, b ∈ L → b ≠ h → f4 b = f b := fun b mb nb0 => (up_ne ef4 (fun h => nzq17 (h ▸ mb)) rfl).trans (fr b mb nb0)
  have mono : ∀ b, b ∈ L → b ∈ L5 := fun b h => by rw [eL5]; exact List.mem_append_left _ (mono b h)
  refine q_putF hx hb hts in_X2 tyX2 tyX2_ok nmX2 hown hnm S m_h e_h (C := RX2) (T := TX2) (N := 5) rfl 1 (by decide) (hts (.fieldLink RX2 15 "SieveCabinet$Chooser" "rivalMixes" "[J") (gu_wsX2_init_1 _ gm_5)) rfl rfl rfl rfl (Nat.le_of_ble_eq_true rfl) dX2_init_19 (fun H locs S => ?_)
  obtain ⟨f6, ef6⟩ : ∃ z_, z_ = va_up f4 h (.inr (2, [.ref q8, .ref q17, .null, .int 0, .int 0])) := ⟨_, rfl⟩
  have S : PS D g (va_A (va_pl L f) sz) s.heap s L5 f6 H locs := by rw [ef6]; exact S
  have e_q8 : f6 q8 = .inl (g 1, 1000, .inr (.inl (fun _ => 0))) := up_ne ef6 (fun h => nq8_h h.symm) e_q8
  have e_q17 : f6 q17 = .inl (g 1, 1000, .inr (.inl (fun _ => 0))) := up_ne ef6 (fun h => nq17_h h.symm) e_q17
  have e_h : f6 h = .inr (2, [.ref q8, .ref q17, .null, .int 0, .int 0]) := up_self ef6
  have fr : ∀ b, b ∈ L → b ≠ h → f6 b = f b := fun b mb nb0 => (up_ne ef6 nb0 rfl).trans (fr b mb nb0)
  refine lv_aload_n hx hb dX2_init_22 rfl (lv_at hl 0 rfl) ?_
  refine q_new (fs := [.null, .int 0]) (C := RX1) (T := TX1) (N := 2) (ci := 1) hx hb hts in_X1 tyX1 tyX1_ok hown (hts (.classLink RX2 18 RX1) (gu_wsX2_init_1 _ gm_6)) (hts (.instantiable RX1 2) (gu_wsX2_init_1 _ gm_7)) (hts (.initialized RX1) (gu_wsX2_init_1 _ gm_8)) S rfl (fun j hj => by rcases (show j = 0 ∨ j = 1 by omega) with rfl | rfl <;> rfl) (Nat.le_of_ble_eq_true rfl) (Nat.le_of_ble_eq_true rfl) dX2_init_23 (fun q23 H nq23 S => ?_)
  refine W.widen (k := 3) (n := 2002) (by decide) (by decide) ?_
  obtain ⟨f7, ef7⟩ : ∃ z_, z_ = va_up f6 q23 (.inr (1, [.null, .int 0])) := ⟨_, rfl⟩
  obtain ⟨L8, eL8⟩ : ∃ z_, z_ = L5 ++ [q23] := ⟨_, rfl⟩
  have S : PS D g (va_A (va_pl L f) sz) s.heap s L8 f7 H locs := by rw [ef7, eL8]; exact S
  have e_h : f7 h = .inr (2, [.ref q8, .ref q17, .null, .int 0, .int 0]) := up_ne ef7 (fun h => nq23 (h ▸ m_h)) e_h
  have nq23_h : h ≠ q23 := fun h => nq23 (h ▸ m_h)
  have m_h : h ∈ L8 := by rw [eL8]; exact List.mem_append_left _ m_h
  have e_q8 : f7 q8 = .inl (g 1, 1000, .inr (.inl (fun _ => 0))) := up_ne ef7 (fun h => nq23 (h ▸ m_q8)) e_q8
  have nq23_q8 : q8 ≠ q23 := fun h => nq23 (h ▸ m_q8)
  have m_q8 : q8 ∈ L8 := by rw [eL8]; exact List.mem_append_left _ m_q8
  have e_q17 : f7 q17 = .inl (g 1, 1000, .inr (.inl (fun _ => 0))) := up_ne ef7 (fun h => nq23 (h ▸ m_q17)) e_q17
  have nq23_q17 : q17 ≠ q23 := fun h => nq23 (h ▸ m_q17)
  have m_q17 : q17 ∈ L8 := by rw [eL8]; exact List.mem_append_left _ m_q17
  have e_q23 : f7 q23 = .inr (1, [.null, .int 0]) := up_self ef7
  have m_q23 : q23 ∈ L8 := by rw [eL8]; simp
  have nzq23 : q23 ∉ L := fun h => nq23 (mono _ h)
  have fr : ∀ b, b ∈ L → b ≠ h → f7 b = f b := fun b mb nb0 => (up_ne ef7 (fun h => nzq23 (h ▸ mb)) rfl).trans (fr b mb nb0)
  have mono : ∀ b, b ∈ L → b ∈ L8 := fun b h => by rw [eL8]; exact List.mem_append_left _ (mono b h)
  refine lv_dup hx hb dX2_init_26 rfl ?_
  refine q_nv (As := []) (rest := [.ref q23, .ref h]) (host := "SieveCabinet") ⟨hx, hb, hml, hown, hts⟩ (c_X1_init l D g m_q23 e_q23) ⟨va_cnB 0 hts gX2_init_X1_init_n20 rfl rfl rfl (S.1.2.1 _ (List.mem_of_getElem? (i := 4) rfl)) (hts (.initialized RX1) (gu_wsX2_init_1 _ gm_8)) (by decide +kernel) ⟨Nat.le_of_ble_eq_true rfl, Nat.le_of_ble_eq_true rfl⟩, rfl, hts (.instanceMethod yX1_init) (by decide +kernel)⟩ S rfl hl.1 rfl (Nat.le_of_ble_eq_true rfl) dX2_init_27 ⟨Nat.le_of_ble_eq_true rfl, Nat.le_of_ble_eq_true rfl⟩ (fun L9 f10 H locs S w27 => ?_)
  refine W.widen (k := 4) (n := 2066) (by decide) (by decide) ?_
  obtain ⟨q727, mo27, fv27, ⟨nq727, m_q727, e_q727⟩, E_q23⟩ := w27
  have e_h : f10 h = .inr (2, [.ref q8, .ref q17, .null, .int 0, .int 0]) := (fv27 h m_h (fun h => nq23_h h)).trans e_h
  have e_q8 : f10 q8 = .inl (g 1, 1000, .inr (.inl (fun _ => 0))) := (fv27 q8 m_q8 (fun h => nq23_q8 h)).trans e_q8
  have e_q17 : f10 q17 = .inl (g 1, 1000, .inr (.inl (fun _ => 0))) := (fv27 q17 m_q17 (fun h => nq23_q17 h)).trans e_q17
  have nq727_h : h ≠ q727 := fun h => nq727 (h ▸ m_h)
  have nq727_q8 : q8 ≠ q727 := fun h => nq727 (h ▸ m_q8)
  have nq727_q17 : q17 ≠ q727 := fun h => nq727 (h ▸ m_q17)
  have nq727_q23 : q23 ≠ q727 := fun h => nq727 (h ▸ m_q23)
  have m_h : h ∈ L9 := mo27 h m_h
  have m_q8 : q8 ∈ L9 := mo27 q8 m_q8
  have m_q17 : q17 ∈ L9 := mo27 q17 m_q17
  have m_q23 : q23 ∈ L9 := mo27 q23 m_q23
  have e_q23 := E_q23
  have nzq727 : q727 ∉ L := fun h => nq727 (mono _ h)
  have fr : ∀ b, b ∈ L → b ≠ h → f10 b = f b := fun b mb nb0 => (fv27 b (mono b mb) (fun h => nzq23 (h ▸ mb))).trans (fr b mb nb0)
  have mono : ∀ b, b ∈ L → b ∈ L9 := fun b h => mo27 b (mono b h)
  refine q_putF hx hb hts in_X2 tyX2 tyX2_ok nmX2 hown hnm S m_h e_h (C := RX2) (T := TX2) (N := 5) rfl 2 (by decide) (hts (.fieldLink RX2 21 "SieveCabinet$Chooser" "bits" "LSieveCabinet$BitRow;") (gu_wsX2_init_1 _ gm_9)) rfl rfl rfl rfl (Nat.le_of_ble_eq_true rfl) dX2_init_30 (fun H locs S => ?_)
  obtain ⟨f12, ef12⟩ : ∃ z_, z_ = va_up f10 h (.inr (2, [.ref q8, .ref q17, .ref q23, .int 0, .int 0])) := ⟨_, rfl⟩
  have S : PS D g (va_A (va_pl L f) sz) s.heap s L9 f12 H locs := by rw [ef12]; exact S
  have e_q8 : f12 q8 = .inl (g 1, 1000, .inr (.inl (fun _ => 0))) := up_ne ef12 (fun h => nq8_h h.symm) e_q8
  have e_q17 : f12 q17 = .inl (g 1, 1000, .inr (.inl (fun _ => 0))) := up_ne ef12 (fun h => nq17_h h.symm) e_q17
  have e_q23 : f12 q23 = .inr (1, [.ref q727, .int 0]) := up_ne ef12 (fun h => nq23_h h.symm) e_q23
  have e_q727 : f12 q727 = .inl (g 1, 64, .inr (.inl (fun _ => 0))) := up_ne ef12 (fun h => nq727_h h.symm) e_q727
  have e_h : f12 h = .inr (2, [.ref q8, .ref q17, .ref q23, .int 0, .int 0]) := up_self ef12
  have fr : ∀ b, b ∈ L → b ≠ h → f12 b = f b := fun b mb nb0 => (up_ne ef12 nb0 rfl).trans (fr b mb nb0)
  exact q_retv (post := fun L1 f1 => ∃ q8 : Nat, ∃ q17 : Nat, ∃ q23 : Nat, ∃ q727 : Nat, (∀ b, b ∈ L → b ∈ L1) ∧ (∀ b, b ∈ L → b ≠ h → f1 b = f b) ∧ (q8 ∉ L ∧ q8 ∈ L1 ∧ f1 q8 = .inl (g 1, 1000, .inr (.inl (fun _ => 0)))) ∧ (q17 ∉ L ∧ q17 ∈ L1 ∧ f1 q17 = .inl (g 1, 1000, .inr (.inl (fun _ => 0)))) ∧ (q23 ∉ L ∧ q23 ∈ L1 ∧ f1 q23 = .inr (1, [.ref q727, .int 0])) ∧ (q727 ∉ L ∧ q727 ∈ L1 ∧ f1 q727 = .inl (g 1, 64, .inr (.inl (fun _ => 0)))) ∧ f1 h = .inr (2, [.ref q8, .ref q17, .ref q23, .int 0, .int 0]) ∧ q17 ≠ q8) hx hb hr hlk S dX2_init_33 (by decide) (by decide) (⟨q8, q17, q23, q727, mono, fr, ⟨nzq8, m_q8, e_q8⟩, ⟨nzq17, m_q17, e_q17⟩, ⟨nzq23, m_q23, e_q23⟩, ⟨nzq727, m_q727, e_q727⟩, e_h, Ne.symm nq17_q8⟩)

set_option maxRecDepth 20000 in
theorem gu_wsX8_init_4 : ∀ w ∈ wsX80, w ∈ wsX8_init := fun _ h => List.mem_cons_of_mem _ (List.mem_append_left _ (List.mem_append_left _ (List.mem_append_left _ (List.mem_append_left _ (List.mem_append_right _ h)))))
set_option maxHeartbeats 4000000 in
set_option maxRecDepth 100000 in
/-- SieveCabinet.<init> -/
theorem c_X8_initF (l : Launch) (D : va_G) (g : Nat → ClassId) {L : List Nat} {f : Nat → va_E} {h : Nat} (m_h : h ∈ L) (e_h : f h = .inr (6, [.null, .null, .null, .null, .null, .null, .null, .int 0]))  : cV l yX8_init wsX8_init { frames := 3, cells := 38, slots := 26754, locals := 52 } D g [.ref h] L f 38 26754 (fun L1 f1 => ∃ q16 : Nat, ∃ q23 : Nat, ∃ q827 : Nat, ∃ q34 : Nat, ∃ q838 : Nat, ∃ q45 : Nat, ∃ q849 : Nat, ∃ q56 : Nat, ∃ q860 : Nat, ∃ q1760 : Nat, ∃ q2660 : Nat, ∃ q3560 : Nat, ∃ q4160 : Nat, ∃ q74560 : Nat, ∃ q5560 : Nat, ∃ q6460 : Nat, ∃ q67 : Nat, ∃ q871 : Nat, ∃ q1771 : Nat, ∃ q2371 : Nat, ∃ q72771 : Nat, ∃ q7 : Nat, ∃ kf : Nat → Option Nat, (∀ b, b ∈ L → b ∈ L1) ∧ (∀ b, b ∈ L → b ≠ h → f1 b = f b) ∧ (q16 ∉ L ∧ q16 ∈ L1 ∧ f1 q16 = .inl (g 5, 30, .inr (.inr (.inr (.inr (fun _ => none)))))) ∧ (q23 ∉ L ∧ q23 ∈ L1 ∧ f1 q23 = .inr (0, [.ref q827, .int 0])) ∧ (q827 ∉ L ∧ q827 ∈ L1 ∧ f1 q827 = .inl (g 1, 1000, .inr (.inl (fun _ => 0)))) ∧ (q34 ∉ L ∧ q34 ∈ L1 ∧ f1 q34 = .inr (0, [.ref q838, .int 0])) ∧ (q838 ∉ L ∧ q838 ∈ L1 ∧ f1 q838 = .inl (g 1, 1000, .inr (.inl (fun _ => 0)))) ∧ (q45 ∉ L ∧ q45 ∈ L1 ∧ f1 q45 = .inr (0, [.ref q849, .int 0])) ∧ (q849 ∉ L ∧ q849 ∈ L1 ∧ f1 q849 = .inl (g 1, 1000, .inr (.inl (fun _ => 0)))) ∧ (q56 ∉ L ∧ q56 ∈ L1 ∧ f1 q56 = .inr (5, [.ref q860, .ref q1760, .ref q2660, .ref q3560, .ref q4160, .ref q5560, .ref q6460, .int 0, .int 0])) ∧ (q860 ∉ L ∧ q860 ∈ L1 ∧ f1 q860 = .inl (g 0, 3000, .inl (fun _ => 0))) ∧ (q1760 ∉ L ∧ q1760 ∈ L1 ∧ f1 q1760 = .inl (g 0, 1000, .inl (fun _ => 0))) ∧ (q2660 ∉ L ∧ q2660 ∈ L1 ∧ f1 q2660 = .inl (g 0, 3774, .inl (fun _ => 0))) ∧ (q3560 ∉ L ∧ q3560 ∈ L1 ∧ f1 q3560 = .inl (g 0, 3774, .inl (fun _ => 0))) ∧ (q4160 ∉ L ∧ q4160 ∈ L1 ∧ f1 q4160 = .inr (1, [.ref q74560, .int 0])) ∧ (q74560 ∉ L ∧ q74560 ∈ L1 ∧ f1 q74560 = .inl (g 1, 64, .inr (.inl (fun _ => 0)))) ∧ (q5560 ∉ L ∧ q5560 ∈ L1 ∧ f1 q5560 = .inl (g 0, 1000, .inl (fun _ => 0))) ∧ (q6460 ∉ L ∧ q6460 ∈ L1 ∧ f1 q6460 = .inl (g 0, 1000, .inl (fun _ => 0))) ∧ (q67 ∉ L ∧ q67 ∈ L1 ∧ f1 q67 = .inr (2, [.ref q871, .ref q1771, .ref q2371, .int 0, .int 0])) ∧ (q871 ∉ L ∧ q871 ∈ L1 ∧ f1 q871 = .inl (g 1, 1000, .inr (.inl (fun _ => 0)))) ∧ (q1771 ∉ L ∧ q1771 ∈ L1 ∧ f1 q1771 = .inl (g 1, 1000, .inr (.inl (fun _ => 0)))) ∧ (q2371 ∉ L ∧ q2371 ∈ L1 ∧ f1 q2371 = .inr (1, [.ref q72771, .int 0])) ∧ (q72771 ∉ L ∧ q72771 ∈ L1 ∧ f1 q72771 = .inl (g 1, 64, .inr (.inl (fun _ => 0)))) ∧ (q7 ∉ L ∧ q7 ∈ L1 ∧ f1 q7 = .inl (g 3, 8, .inr (.inr (.inr (.inr kf))))) ∧ f1 h = .inr (6, [.ref q7, .ref q16, .ref q23, .ref q34, .ref q45, .ref q56, .ref q67, .int 0]) ∧ (q34 ≠ q23 ∧ q45 ≠ q23 ∧ q45 ≠ q34 ∧ q838 ≠ q827 ∧ q849 ≠ q827 ∧ q849 ≠ q838 ∧ q871 ≠ q827 ∧ q871 ≠ q838 ∧ q871 ≠ q849 ∧ q1771 ≠ q827 ∧ q1771 ≠ q838 ∧ q1771 ≠ q849 ∧ q2371 ≠ q4160 ∧ q72771 ≠ q74560) ∧ (q3560 ≠ q2660 ∧ q5560 ≠ q1760 ∧ q6460 ≠ q1760 ∧ q6460 ≠ q5560) ∧ q1771 ≠ q871 ∧ (∃ (LP : List Nat) (lb lw : Nat → Nat), (∀ q, q ∈ [h, q16, q23, q827, q34, q838, q45, q849, q56, q860, q1760, q2660, q3560, q4160, q74560, q5560, q6460, q67, q871, q1771, q2371, q72771, q7] → q ∈ LP) ∧ (∀ j, j < 8 → kf j = some (lb j) ∧ lb j ∈ L1 ∧ f1 (lb j) = .inr (0, [.ref (lw j), .int 0]) ∧ lw j ∈ L1 ∧ f1 (lw j) = .inl (g 1, 1000, .inr (.inl (fun _ => 0))) ∧ lb j ∉ LP ∧ lw j ∉ LP) ∧ ∀ j k, j < 8 → k < 8 → j ≠ k → lb j ≠ lb k ∧ lw j ≠ lw k)) := by
  refine cV_of (cc := cX8_init) (maxL := 2) (ret := none) (by decide) rfl (Nat.le_of_ble_eq_true rfl) ?_
  intro sz p e s m below meth c hx hb hr hml hts hown hlk hnm S ls hl
  have hl : lv_has ls 2 [(0, .ref h)] := hl
  have in_X0 : ∀ w ∈ wsX00, w ∈ wsX8_init := gu_wsX8_init_5
  have in_X2 : ∀ w ∈ wsX20, w ∈ wsX8_init := gu_wsX8_init_7
  have in_X7 : ∀ w ∈ wsX70, w ∈ wsX8_init := gu_wsX8_init_6
  have in_X8 : ∀ w ∈ wsX80, w ∈ wsX8_init := gu_wsX8_init_4
  have fr : ∀ b, b ∈ L → b ≠ h → f b = f b := fun _ _ _ => rfl
  have mono : ∀ b, b ∈ L → b ∈ L := fun _ h => h
  refine lv_aload_n hx hb dX8_init_0 rfl (lv_at hl 0 rfl) ?_
  refine W.objInit hx hb hown (hts (.methodLink RX8 1 objectInit) (gu_wsX8_init_1 _ gm_0)) (hts (.instanceMethod objectInit) (gu_wsX8_init_1 _ gm_1)) (hts (.code objectInit ⟨#[0xb1]⟩ 1 none) (gu_wsX8_init_1 _ gm_2)) rfl (by rw [hml]; exact hl.1) rfl dX8_init_1 (Nat.le_of_ble_eq_true rfl) (Nat.le_of_ble_eq_true rfl) ?_
  refine W.eq (g2 := F0 m 4 ls []) rfl ?_
  refine lv_aload_n hx hb dX8_init_4 rfl (lv_at hl 0 rfl) ?_
  refine lv_bipush (v := 8) hx hb dX8_init_5 (by decide) ?_
  refine q_newq hx hb hown (hts (.classLink RX8 9 RX0) (gu_wsX8_init_1 _ gm_3)) (by decide) S 3 rfl (N' := 8) (by decide) (by decide) (by decide) (Nat.le_of_ble_eq_true rfl) (Nat.le_of_ble_eq_true rfl) dX8_init_7 (fun q7 H nq7 S => ?_)
  refine W.widen (k := 1) (n := 8) (by decide) (by decide) ?_
  obtain ⟨f1, ef1⟩ : ∃ z_, z_ = va_up f q7 (.inl (g 3, 8, .inr (.inr (.inr (.inr (fun _ => none)))))) := ⟨_, rfl⟩
  obtain ⟨L2, eL2⟩ : ∃ z_, z_ = L ++ [q7] := ⟨_, rfl⟩
  have S : PS D g (va_A (va_pl L f) sz) s.heap s L2 f1 H [] := by rw [ef1, eL2]; exact S
  have e_h : f1 h = .inr (6, [.null, .null, .null, .null, .null, .null, .null, .int 0]) := up_ne ef1 (fun h => nq7 (h ▸ m_h)) e_h
  have nq7_h : h ≠ q7 := fun h => nq7 (h ▸ m_h)
  have m_h : h ∈ L2 := by rw [eL2]; exact List.mem_append_left _ m_h
  have e_q7 : f1 q7 = .inl (g 3, 8, .inr (.inr (.inr (.inr (fun _ => none))))) := up_self ef1
  have m_q7 : q7 ∈ L2 := by rw [eL2]; simp
  have nzq7 : q7 ∉ L := fun h => nq7 (mono _ h)
  have fr : ∀ b, b ∈ L → b ≠ h → f1 b = f b := fun b mb nb0 => (up_ne ef1 (fun h => nzq7 (h ▸ mb)) rfl).trans (fr b mb nb0)
  have mono : ∀ b, b ∈ L → b ∈ L2 := fun b h => by rw [eL2]; exact List.mem_append_left _ (mono b h)
  refine q_putF hx hb hts in_X8 tyX8 tyX8_ok nmX8 hown hnm S m_h e_h (C := RX8) (T := TX8) (N := 8) rfl 0 (by decide) (hts (.fieldLink RX8 11 "SieveCabinet" "worlds" "[LSieveCabinet$Bag;") (gu_wsX8_init_1 _ gm_4)) rfl rfl rfl rfl (Nat.le_of_ble_eq_true rfl) dX8_init_10 (fun H locs S => ?_)
  obtain ⟨f3, ef3⟩ : ∃ z_, z_ = va_up f1 h (.inr (6, [.ref q7, .null, .null, .null, .null, .null, .null, .int 0])) := ⟨_, rfl⟩
  have S : PS D g (va_A (va_pl L f) sz) s.heap s L2 f3 H locs := by rw [ef3]; exact S
  have e_q7 : f3 q7 = .inl (g 3, 8, .inr (.inr (.inr (.inr (fun _ => none))))) := up_ne ef3 (fun h => nq7_h h.symm) e_q7
  have e_h : f3 h = .inr (6, [.ref q7, .null, .null, .null, .null, .null, .null, .int 0]) := up_self ef3
  have fr : ∀ b, b ∈ L → b ≠ h → f3 b = f b := fun b mb nb0 => (up_ne ef3 nb0 rfl).trans (fr b mb nb0)
  refine lv_aload_n hx hb dX8_init_13 rfl (lv_at hl 0 rfl) ?_
  refine lv_bipush (v := 30) hx hb dX8_init_14 (by decide) ?_
  refine q_newq hx hb hown (hts (.classLink RX8 15 RX6) (gu_wsX8_init_1 _ gm_5)) (by decide) S 5 rfl (N' := 30) (by decide) (by decide) (by decide) (Nat.le_of_ble_eq_true rfl) (Nat.le_of_ble_eq_true rfl) dX8_init_16 (fun q16 H nq16 S => ?_)
  refine W.widen (k := 2) (n := 38) (by decide) (by decide) ?_
  obtain ⟨f4, ef4⟩ : ∃ z_, z_ = va_up f3 q16 (.inl (g 5, 30, .inr (.inr (.inr (.inr (fun _ => none)))))) := ⟨_, rfl⟩
  obtain ⟨L5, eL5⟩ : ∃ z_, z_ = L2 ++ [q16] := ⟨_, rfl⟩
  have S : PS D g (va_A (va_pl L f) sz) s.heap s L5 f4 H locs := by rw [ef4, eL5]; exact S
  have e_h : f4 h = .inr (6, [.ref q7, .null, .null, .null, .null, .null, .null, .int 0]) := up_ne ef4 (fun h => nq16 (h ▸ m_h)) e_h
  have nq16_h : h ≠ q16 := fun h => nq16 (h ▸ m_h)
  have m_h : h ∈ L5 := by rw [eL5]; exact List.mem_append_left _ m_h
  have e_q7 : f4 q7 = .inl (g 3, 8, .inr (.inr (.inr (.inr (fun _ => none))))) := up_ne ef4 (fun h => nq16 (h ▸ m_q7)) e_q7
  have nq16_q7 : q7 ≠ q16 := fun h => nq16 (h ▸ m_q7)
  have m_q7 : q7 ∈ L5 := by rw [eL5]; exact List.mem_append_left _ m_q7
  have e_q16 : f4 q16 = .inl (g 5, 30, .inr (.inr (.inr (.inr (fun _ => none))))) := up_self ef4
  have m_q16 : q16 ∈ L5 := by rw [eL5]; simp
  have nzq16 : q16 ∉ L := fun h => nq16 (mono _ h)
  have fr : ∀ b, b ∈ L → b ≠ h → f4 b = f b := fun b mb nb0 => (up_ne ef4 (fun h => nzq16 (h ▸ mb)) rfl).trans (fr b mb nb0)
  have mono : ∀ b, b ∈ L → b ∈ L5 := fun b h => by rw [eL5]; exact List.mem_append_left _ (mono b h)
  refine q_putF hx hb hts in_X8 tyX8 tyX8_ok nmX8 hown hnm S m_h e_h (C := RX8) (T := TX8) (N := 8) rfl 1 (by decide) (hts (.fieldLink RX8 17 "SieveCabinet" "slots" "[LSieveCabinet$Sieve;") (gu_wsX8_init_1 _ gm_6)) rfl rfl rfl rfl (Nat.le_of_ble_eq_true rfl) dX8_init_19 (fun H locs S => ?_)
  obtain ⟨f6, ef6⟩ : ∃ z_, z_ = va_up f4 h (.inr (6, [.ref q7, .ref q16, .null, .null, .null, .null, .null, .int 0])) := ⟨_, rfl⟩
  have S : PS D g (va_A (va_pl L f) sz) s.heap s L5 f6 H locs := by rw [ef6]; exact S
  have e_q7 : f6 q7 = .inl (g 3, 8, .inr (.inr (.inr (.inr (fun _ => none))))) := up_ne ef6 (fun h => nq7_h h.symm) e_q7
  have e_q16 : f6 q16 = .inl (g 5, 30, .inr (.inr (.inr (.inr (fun _ => none))))) := up_ne ef6 (fun h => nq16_h h.symm) e_q16
  have e_h : f6 h = .inr (6, [.ref q7, .ref q16, .null, .null, .null, .null, .null, .int 0]) := up_self ef6
  have fr : ∀ b, b ∈ L → b ≠ h → f6 b = f b := fun b mb nb0 => (up_ne ef6 nb0 rfl).trans (fr b mb nb0)
  refine lv_aload_n hx hb dX8_init_22 rfl (lv_at hl 0 rfl) ?_
  refine q_new (fs := [.null, .int 0]) (C := RX0) (T := TX0) (N := 2) (ci := 0) hx hb hts in_X0 tyX0 tyX0_ok hown (hts (.classLink RX8 9 RX0) (gu_wsX8_init_1 _ gm_3)) (hts (.instantiable RX0 2) (gu_wsX8_init_1 _ gm_7)) (hts (.initialized RX0) (gu_wsX8_init_1 _ gm_8)) S rfl (fun j hj => by rcases (show j = 0 ∨ j = 1 by omega) with rfl | rfl <;> rfl) (Nat.le_of_ble_eq_true rfl) (Nat.le_of_ble_eq_true rfl) dX8_init_23 (fun q23 H nq23 S => ?_)
  refine W.widen (k := 3) (n := 40) (by decide) (by decide) ?_
  obtain ⟨f7, ef7⟩ : ∃ z_, z_ = va_up f6 q23 (.inr (0, [.null, .int 0])) := ⟨_, rfl⟩
  obtain ⟨L8, eL8⟩ : ∃ z_, z_ = L5 ++ [q23] := ⟨_, rfl⟩
  have S : PS D g (va_A (va_pl L f) sz) s.heap s L8 f7 H locs := by rw [ef7, eL8]; exact S
  have e_h : f7 h = .inr (6, [.ref q7, .ref q16, .null, .null, .null, .null, .null, .int 0]) := up_ne ef7 (fun h => nq23 (h ▸ m_h)) e_h
  have nq23_h : h ≠ q23 := fun h => nq23 (h ▸ m_h)
  have m_h : h ∈ L8 := by rw [eL8]; exact List.mem_append_left _ m_h
  have e_q7 : f7 q7 = .inl (g 3, 8, .inr (.inr (.inr (.inr (fun _ => none))))) := up_ne ef7 (fun h => nq23 (h ▸ m_q7)) e_q7
  have nq23_q7 : q7 ≠ q23 := fun h => nq23 (h ▸ m_q7)
  have m_q7 : q7 ∈ L8 := by rw [eL8]; exact List.mem_append_left _ m_q7
  have e_q16 : f7 q16 = .inl (g 5, 30, .inr (.inr (.inr (.inr (fun _ => none))))) := up_ne ef7 (fun h => nq23 (h ▸ m_q16)) e_q16
  have nq23_q16 : q16 ≠ q23 := fun h => nq23 (h ▸ m_q16)
  have m_q16 : q16 ∈ L8 := by rw [eL8]; exact List.mem_append_left _ m_q16
  have e_q23 : f7 q23 = .inr (0, [.null, .int 0]) := up_self ef7
  have m_q23 : q23 ∈ L8 := by rw [eL8]; simp
  have nzq23 : q23 ∉ L := fun h => nq23 (mono _ h)
  have fr : ∀ b, b ∈ L → b ≠ h → f7 b = f b := fun b mb nb0 => (up_ne ef7 (fun h => nzq23 (h ▸ mb)) rfl).trans (fr b mb nb0)
  have mono : ∀ b, b ∈ L → b ∈ L8 := fun b h => by rw [eL8]; exact List.mem_append_left _ (mono b h)
  refine lv_dup hx hb dX8_init_26 rfl ?_
  refine q_nv (As := []) (rest := [.ref q23, .ref h]) (host := "SieveCabinet") ⟨hx, hb, hml, hown, hts⟩ (c_X0_init l D g m_q23 e_q23) ⟨va_cnB 0 hts gX8_init_X0_init_n21 rfl rfl rfl (S.1.2.1 _ (List.mem_of_getElem? (i := 0) rfl)) (hts (.initialized RX0) (gu_wsX8_init_1 _ gm_8)) (by decide +kernel) ⟨Nat.le_of_ble_eq_true rfl, Nat.le_of_ble_eq_true rfl⟩, rfl, hts (.instanceMethod yX0_init) (by decide +kernel)⟩ S rfl hl.1 rfl (Nat.le_of_ble_eq_true rfl) dX8_init_27 ⟨Nat.le_of_ble_eq_true rfl, Nat.le_of_ble_eq_true rfl⟩ (fun L9 f10 H locs S w27 => ?_)
  refine W.widen (k := 4) (n := 1040) (by decide) (by decide) ?_
  obtain ⟨q827, mo27, fv27, ⟨nq827, m_q827, e_q827⟩, E_q23⟩ := w27
  have e_h : f10 h = .inr (6, [.ref q7, .ref q16, .null, .null, .null, .null, .null, .int 0]) := (fv27 h m_h (fun h => nq23_h h)).trans e_h
  have e_q7 : f10 q7 = .inl (g 3, 8, .inr (.inr (.inr (.inr (fun _ => none))))) := (fv27 q7 m_q7 (fun h => nq23_q7 h)).trans e_q7
  have e_q16 : f10 q16 = .inl (g 5, 30, .inr (.inr (.inr (.inr (fun _ => none))))) := (fv27 q16 m_q16 (fun h => nq23_q16 h)).trans e_q16
  have nq827_h : h ≠ q827 := fun h => nq827 (h ▸ m_h)
  have nq827_q7 : q7 ≠ q827 := fun h => nq827 (h ▸ m_q7)
  have nq827_q16 : q16 ≠ q827 := fun h => nq827 (h ▸ m_q16)
  have nq827_q23 : q23 ≠ q827 := fun h => nq827 (h ▸ m_q23)
  have m_h : h ∈ L9 := mo27 h m_h
  have m_q7 : q7 ∈ L9 := mo27 q7 m_q7
  have m_q16 : q16 ∈ L9 := mo27 q16 m_q16
  have m_q23 : q23 ∈ L9 := mo27 q23 m_q23
  have e_q23 := E_q23
  have nzq827 : q827 ∉ L := fun h => nq827 (mono _ h)
  have fr : ∀ b, b ∈ L → b ≠ h → f10 b = f b := fun b mb nb0 => (fv27 b (mono b mb) (fun h => nzq23 (h ▸ mb))).trans (fr b mb nb0)
  have mono : ∀ b, b ∈ L → b ∈ L9 := fun b h => mo27 b (mono b h)
  refine q_putF hx hb hts in_X8 tyX8 tyX8_ok nmX8 hown hnm S m_h e_h (C := RX8) (T := TX8) (N := 8) rfl 2 (by decide) (hts (.fieldLink RX8 22 "SieveCabinet" "draft" "LSieveCabinet$Bag;") (gu_wsX8_init_1 _ gm_9)) rfl rfl rfl rfl (Nat.le_of_ble_eq_true rfl) dX8_init_30 (fun H locs S => ?_)
  obtain ⟨f12, ef12⟩ : ∃ z_, z_ = va_up f10 h (.inr (6, [.ref q7, .ref q16, .ref q23, .null, .null, .null, .null, .int 0])) := ⟨_, rfl⟩
  have S : PS D g (va_A (va_pl L f) sz) s.heap s L9 f12 H locs := by rw [ef12]; exact S
  have e_q7 : f12 q7 = .inl (g 3, 8, .inr (.inr (.inr (.inr (fun _ => none))))) := up_ne ef12 (fun h => nq7_h h.symm) e_q7
  have e_q16 : f12 q16 = .inl (g 5, 30, .inr (.inr (.inr (.inr (fun _ => none))))) := up_ne ef12 (fun h => nq16_h h.symm) e_q16
  have e_q23 : f12 q23 = .inr (0, [.ref q827, .int 0]) := up_ne ef12 (fun h => nq23_h h.symm) e_q23
  have e_q827 : f12 q827 = .inl (g 1, 1000, .inr (.inl (fun _ => 0))) := up_ne ef12 (fun h => nq827_h h.symm) e_q827
  have e_h : f12 h = .inr (6, [.ref q7, .ref q16, .ref q23, .null, .null, .null, .null, .int 0]) := up_self ef12
  have fr : ∀ b, b ∈ L → b ≠ h → f12 b = f b := fun b mb nb0 => (up_ne ef12 nb0 rfl).trans (fr b mb nb0)
  refine lv_aload_n hx hb dX8_init_33 rfl (lv_at hl 0 rfl) ?_
  refine q_new (fs := [.null, .int 0]) (C := RX0) (T := TX0) (N := 2) (ci := 0) hx hb hts in_X0 tyX0 tyX0_ok hown (hts (.classLink RX8 9 RX0) (gu_wsX8_init_1 _ gm_3)) (hts (.instantiable RX0 2) (gu_wsX8_init_1 _ gm_7)) (hts (.initialized RX0) (gu_wsX8_init_1 _ gm_8)) S rfl (fun j hj => by rcases (show j = 0 ∨ j = 1 by omega) with rfl | rfl <;> rfl) (Nat.le_of_ble_eq_true rfl) (Nat.le_of_ble_eq_true rfl) dX8_init_34 (fun q34 H nq34 S => ?_)
  refine W.widen (k := 5) (n := 1042) (by decide) (by decide) ?_
  obtain ⟨f13, ef13⟩ : ∃ z_, z_ = va_up f12 q34 (.inr (0, [.null, .int 0])) := ⟨_, rfl⟩
  obtain ⟨L14, eL14⟩ : ∃ z_, z_ = L9 ++ [q34] := ⟨_, rfl⟩
  have S : PS D g (va_A (va_pl L f) sz) s.heap s L14 f13 H locs := by rw [ef13, eL14]; exact S
  have e_h : f13 h = .inr (6, [.ref q7, .ref q16, .ref q23, .null, .null, .null, .null, .int 0]) := up_ne ef13 (fun h => nq34 (h ▸ m_h)) e_h
  have nq34_h : h ≠ q34 := fun h => nq34 (h ▸ m_h)
  have m_h : h ∈ L14 := by rw [eL14]; exact List.mem_append_left _ m_h
  have e_q7 : f13 q7 = .inl (g 3, 8, .inr (.inr (.inr (.inr (fun _ => none))))) := up_ne ef13 (fun h => nq34 (h ▸ m_q7)) e_q7
  have nq34_q7 : q7 ≠ q34 := fun h => nq34 (h ▸ m_q7)
  have m_q7 : q7 ∈ L14 := by rw [eL14]; exact List.mem_append_left _ m_q7
  have e_q16 : f13 q16 = .inl (g 5, 30, .inr (.inr (.inr (.inr (fun _ => none))))) := up_ne ef13 (fun h => nq34 (h ▸ m_q16)) e_q16
  have nq34_q16 : q16 ≠ q34 := fun h => nq34 (h ▸ m_q16)
  have m_q16 : q16 ∈ L14 := by rw [eL14]; exact List.mem_append_left _ m_q16
  have e_q23 : f13 q23 = .inr (0, [.ref q827, .int 0]) := up_ne ef13 (fun h => nq34 (h ▸ m_q23)) e_q23
  have nq34_q23 : q23 ≠ q34 := fun h => nq34 (h ▸ m_q23)
  have m_q23 : q23 ∈ L14 := by rw [eL14]; exact List.mem_append_left _ m_q23
  have e_q827 : f13 q827 = .inl (g 1, 1000, .inr (.inl (fun _ => 0))) := up_ne ef13 (fun h => nq34 (h ▸ m_q827)) e_q827
  have nq34_q827 : q827 ≠ q34 := fun h => nq34 (h ▸ m_q827)
  have m_q827 : q827 ∈ L14 := by rw [eL14]; exact List.mem_append_left _ m_q827
  have e_q34 : f13 q34 = .inr (0, [.null, .int 0]) := up_self ef13
  have m_q34 : q34 ∈ L14 := by rw [eL14]; simp
  have nzq34 : q34 ∉ L := fun h => nq34 (mono _ h)
  have fr : ∀ b, b ∈ L → b ≠ h → f13 b = f b := fun b mb nb0 => (up_ne ef13 (fun h => nzq34 (h ▸ mb)) rfl).trans (fr b mb nb0)
  have mono : ∀ b, b ∈ L → b ∈ L14 := fun b h => by rw [eL14]; exact List.mem_append_left _ (mono b h)
  refine lv_dup hx hb dX8_init_37 rfl ?_
  refine q_nv (As := []) (rest := [.ref q34, .ref h]) (host := "SieveCabinet") ⟨hx, hb, hml, hown, hts⟩ (c_X0_init l D g m_q34 e_q34) ⟨va_cnB 0 hts gX8_init_X0_init_n21 rfl rfl rfl (S.1.2.1 _ (List.mem_of_getElem? (i := 0) rfl)) (hts (.initialized RX0) (gu_wsX8_init_1 _ gm_8)) (by decide +kernel) ⟨Nat.le_of_ble_eq_true rfl, Nat.le_of_ble_eq_true rfl⟩, rfl, hts (.instanceMethod yX0_init) (by decide +kernel)⟩ S rfl hl.1 rfl (Nat.le_of_ble_eq_true rfl) dX8_init_38 ⟨Nat.le_of_ble_eq_true rfl, Nat.le_of_ble_eq_true rfl⟩ (fun L15 f16 H locs S w38 => ?_)
  refine W.widen (k := 6) (n := 2042) (by decide) (by decide) ?_
  obtain ⟨q838, mo38, fv38, ⟨nq838, m_q838, e_q838⟩, E_q34⟩ := w38
  have e_h : f16 h = .inr (6, [.ref q7, .ref q16, .ref q23, .null, .null, .null, .null, .int 0]) := (fv38 h m_h (fun h => nq34_h h)).trans e_h
  have e_q7 : f16 q7 = .inl (g 3, 8, .inr (.inr (.inr (.inr (fun _ => none))))) := (fv38 q7 m_q7 (fun h => nq34_q7 h)).trans e_q7
  have e_q16 : f16 q16 = .inl (g 5, 30, .inr (.inr (.inr (.inr (fun _ => none))))) := (fv38 q16 m_q16 (fun h => nq34_q16 h)).trans e_q16
  have e_q23 : f16 q23 = .inr (0, [.ref q827, .int 0]) := (fv38 q23 m_q23 (fun h => nq34_q23 h)).trans e_q23
  have e_q827 : f16 q827 = .inl (g 1, 1000, .inr (.inl (fun _ => 0))) := (fv38 q827 m_q827 (fun h => nq34_q827 h)).trans e_q827
  have nq838_h : h ≠ q838 := fun h => nq838 (h ▸ m_h)
  have nq838_q7 : q7 ≠ q838 := fun h => nq838 (h ▸ m_q7)
  have nq838_q16 : q16 ≠ q838 := fun h => nq838 (h ▸ m_q16)
  have nq838_q23 : q23 ≠ q838 := fun h => nq838 (h ▸ m_q23)
  have nq838_q827 : q827 ≠ q838 := fun h => nq838 (h ▸ m_q827)
  have nq838_q34 : q34 ≠ q838 := fun h => nq838 (h ▸ m_q34)
  have m_h : h ∈ L15 := mo38 h m_h
  have m_q7 : q7 ∈ L15 := mo38 q7 m_q7
  have m_q16 : q16 ∈ L15 := mo38 q16 m_q16
  have m_q23 : q23 ∈ L15 := mo38 q23 m_q23
  have m_q827 : q827 ∈ L15 := mo38 q827 m_q827
  have m_q34 : q34 ∈ L15 := mo38 q34 m_q34
  have e_q34 := E_q34
  have nzq838 : q838 ∉ L := fun h => nq838 (mono _ h)
  have fr : ∀ b, b ∈ L → b ≠ h → f16 b = f b := fun b mb nb0 => (fv38 b (mono b mb) (fun h => nzq34 (h ▸ mb))).trans (fr b mb nb0)
  have mono : ∀ b, b ∈ L → b ∈ L15 := fun b h => mo38 b (mono b h)
  refine q_putF hx hb hts in_X8 tyX8 tyX8_ok nmX8 hown hnm S m_h e_h (C := RX8) (T := TX8) (N := 8) rfl 3 (by decide) (hts (.fieldLink RX8 26 "SieveCabinet" "rivals" "LSieveCabinet$Bag;") (gu_wsX8_init_1 _ gm_10)) rfl rfl rfl rfl (Nat.le_of_ble_eq_true rfl) dX8_init_41 (fun H locs S => ?_)
  obtain ⟨f18, ef18⟩ : ∃ z_, z_ = va_up f16 h (.inr (6, [.ref q7, .ref q16, .ref q23, .ref q34, .null, .null, .null, .int 0])) := ⟨_, rfl⟩
  have S : PS D g (va_A (va_pl L f) sz) s.heap s L15 f18 H locs := by rw [ef18]; exact S
  have e_q7 : f18 q7 = .inl (g 3, 8, .inr (.inr (.inr (.inr (fun _ => none))))) := up_ne ef18 (fun h => nq7_h h.symm) e_q7
  have e_q16 : f18 q16 = .inl (g 5, 30, .inr (.inr (.inr (.inr (fun _ => none))))) := up_ne ef18 (fun h => nq16_h h.symm) e_q16
  have e_q23 : f18 q23 = .inr (0, [.ref q827, .int 0]) := up_ne ef18 (fun h => nq23_h h.symm) e_q23
  have e_q827 : f18 q827 = .inl (g 1, 1000, .inr (.inl (fun _ => 0))) := up_ne ef18 (fun h => nq827_h h.symm) e_q827
  have e_q34 : f18 q34 = .inr (0, [.ref q838, .int 0]) := up_ne ef18 (fun h => nq34_h h.symm) e_q34
  have e_q838 : f18 q838 = .inl (g 1, 1000, .inr (.inl (fun _ => 0))) := up_ne ef18 (fun h => nq838_h h.symm) e_q838
  have e_h : f18 h = .inr (6, [.ref q7, .ref q16, .ref q23, .ref q34, .null, .null, .null, .int 0]) := up_self ef18
  have fr : ∀ b, b ∈ L → b ≠ h → f18 b = f b := fun b mb nb0 => (up_ne ef18 nb0 rfl).trans (fr b mb nb0)
  refine lv_aload_n hx hb dX8_init_44 rfl (lv_at hl 0 rfl) ?_
  refine q_new (fs := [.null, .int 0]) (C := RX0) (T := TX0) (N := 2) (ci := 0) hx hb hts in_X0 tyX0 tyX0_ok hown (hts (.classLink RX8 9 RX0) (gu_wsX8_init_1 _ gm_3)) (hts (.instantiable RX0 2) (gu_wsX8_init_1 _ gm_7)) (hts (.initialized RX0) (gu_wsX8_init_1 _ gm_8)) S rfl (fun j hj => by rcases (show j = 0 ∨ j = 1 by omega) with rfl | rfl <;> rfl) (Nat.le_of_ble_eq_true rfl) (Nat.le_of_ble_eq_true rfl) dX8_init_45 (fun q45 H nq45 S => ?_)
  refine W.widen (k := 7) (n := 2044) (by decide) (by decide) ?_
  obtain ⟨f19, ef19⟩ : ∃ z_, z_ = va_up f18 q45 (.inr (0, [.null, .int 0])) := ⟨_, rfl⟩
  obtain ⟨L20, eL20⟩ : ∃ z_, z_ = L15 ++ [q45] := ⟨_, rfl⟩
  have S : PS D g (va_A (va_pl L f) sz) s.heap s L20 f19 H locs := by rw [ef19, eL20]; exact S
  have e_h : f19 h = .inr (6, [.ref q7, .ref q16, .ref q23, .ref q34, .null, .null, .null, .int 0]) := up_ne ef19 (fun h => nq45 (h ▸ m_h)) e_h
  have nq45_h : h ≠ q45 := fun h => nq45 (h ▸ m_h)
  have m_h : h ∈ L20 := by rw [eL20]; exact List.mem_append_left _ m_h
  have e_q7 : f19 q7 = .inl (g 3, 8, .inr (.inr (.inr (.inr (fun _ => none))))) := up_ne ef19 (fun h => nq45 (h ▸ m_q7)) e_q7
  have nq45_q7 : q7 ≠ q45 := fun h => nq45 (h ▸ m_q7)
  have m_q7 : q7 ∈ L20 := by rw [eL20]; exact List.mem_append_left _ m_q7
  have e_q16 : f19 q16 = .inl (g 5, 30, .inr (.inr (.inr (.inr (fun _ => none))))) := up_ne ef19 (fun h => nq45 (h ▸ m_q16)) e_q16
  have nq45_q16 : q16 ≠ q45 := fun h => nq45 (h ▸ m_q16)
  have m_q16 : q16 ∈ L20 := by rw [eL20]; exact List.mem_append_left _ m_q16
  have e_q23 : f19 q23 = .inr (0, [.ref q827, .int 0]) := up_ne ef19 (fun h => nq45 (h ▸ m_q23)) e_q23
  have nq45_q23 : q23 ≠ q45 := fun h => nq45 (h ▸ m_q23)
  have m_q23 : q23 ∈ L20 := by rw [eL20]; exact List.mem_append_left _ m_q23
  have e_q827 : f19 q827 = .inl (g 1, 1000, .inr (.inl (fun _ => 0))) := up_ne ef19 (fun h => nq45 (h ▸ m_q827)) e_q827
  have nq45_q827 : q827 ≠ q45 := fun h => nq45 (h ▸ m_q827)
  have m_q827 : q827 ∈ L20 := by rw [eL20]; exact List.mem_append_left _ m_q827
  have e_q34 : f19 q34 = .inr (0, [.ref q838, .int 0]) := up_ne ef19 (fun h => nq45 (h ▸ m_q34)) e_q34
  have nq45_q34 : q34 ≠ q45 := fun h => nq45 (h ▸ m_q34)
  have m_q34 : q34 ∈ L20 := by rw [eL20]; exact List.mem_append_left _ m_q34
  have e_q838 : f19 q838 = .inl (g 1, 1000, .inr (.inl (fun _ => 0))) := up_ne ef19 (fun h => nq45 (h ▸ m_q838)) e_q838
  have nq45_q838 : q838 ≠ q45 := fun h => nq45 (h ▸ m_q838)
  have m_q838 : q838 ∈ L20 := by rw [eL20]; exact List.mem_append_left _ m_q838
  have e_q45 : f19 q45 = .inr (0, [.null, .int 0]) := up_self ef19
  have m_q45 : q45 ∈ L20 := by rw [eL20]; simp
  have nzq45 : q45 ∉ L := fun h => nq45 (mono _ h)
  have fr : ∀ b, b ∈ L → b ≠ h → f19 b = f b := fun b mb nb0 => (up_ne ef19 (fun h => nzq45 (h ▸ mb)) rfl).trans (fr b mb nb0)
  have mono : ∀ b, b ∈ L → b ∈ L20 := fun b h => by rw [eL20]; exact List.mem_append_left _ (mono b h)
  refine lv_dup hx hb dX8_init_48 rfl ?_
  refine q_nv (As := []) (rest := [.ref q45, .ref h]) (host := "SieveCabinet") ⟨hx, hb, hml, hown, hts⟩ (c_X0_init l D g m_q45 e_q45) ⟨va_cnB 0 hts gX8_init_X0_init_n21 rfl rfl rfl (S.1.2.1 _ (List.mem_of_getElem? (i := 0) rfl)) (hts (.initialized RX0) (gu_wsX8_init_1 _ gm_8)) (by decide +kernel) ⟨Nat.le_of_ble_eq_true rfl, Nat.le_of_ble_eq_true rfl⟩, rfl, hts (.instanceMethod yX0_init) (by decide +kernel)⟩ S rfl hl.1 rfl (Nat.le_of_ble_eq_true rfl) dX8_init_49 ⟨Nat.le_of_ble_eq_true rfl, Nat.le_of_ble_eq_true rfl⟩ (fun L21 f22 H locs S w49 => ?_)
  refine W.widen (k := 8) (n := 3044) (by decide) (by decide) ?_
  obtain ⟨q849, mo49, fv49, ⟨nq849, m_q849, e_q849⟩, E_q45⟩ := w49
  have e_h : f22 h = .inr (6, [.ref q7, .ref q16, .ref q23, .ref q34, .null, .null, .null, .int 0]) := (fv49 h m_h (fun h => nq45_h h)).trans e_h
  have e_q7 : f22 q7 = .inl (g 3, 8, .inr (.inr (.inr (.inr (fun _ => none))))) := (fv49 q7 m_q7 (fun h => nq45_q7 h)).trans e_q7
  have e_q16 : f22 q16 = .inl (g 5, 30, .inr (.inr (.inr (.inr (fun _ => none))))) := (fv49 q16 m_q16 (fun h => nq45_q16 h)).trans e_q16
  have e_q23 : f22 q23 = .inr (0, [.ref q827, .int 0]) := (fv49 q23 m_q23 (fun h => nq45_q23 h)).trans e_q23
  have e_q827 : f22 q827 = .inl (g 1, 1000, .inr (.inl (fun _ => 0))) := (fv49 q827 m_q827 (fun h => nq45_q827 h)).trans e_q827
  have e_q34 : f22 q34 = .inr (0, [.ref q838, .int 0]) := (fv49 q34 m_q34 (fun h => nq45_q34 h)).trans e_q34
  have e_q838 : f22 q838 = .inl (g 1, 1000, .inr (.inl (fun _ => 0))) := (fv49 q838 m_q838 (fun h => nq45_q838 h)).trans e_q838
  have nq849_h : h ≠ q849 := fun h => nq849 (h ▸ m_h)
  have nq849_q7 : q7 ≠ q849 := fun h => nq849 (h ▸ m_q7)
  have nq849_q16 : q16 ≠ q849 := fun h => nq849 (h ▸ m_q16)
  have nq849_q23 : q23 ≠ q849 := fun h => nq849 (h ▸ m_q23)
  have nq849_q827 : q827 ≠ q849 := fun h => nq849 (h ▸ m_q827)
  have nq849_q34 : q34 ≠ q849 := fun h => nq849 (h ▸ m_q34)
  have nq849_q838 : q838 ≠ q849 := fun h => nq849 (h ▸ m_q838)
  have nq849_q45 : q45 ≠ q849 := fun h => nq849 (h ▸ m_q45)
  have m_h : h ∈ L21 := mo49 h m_h
  have m_q7 : q7 ∈ L21 := mo49 q7 m_q7
  have m_q16 : q16 ∈ L21 := mo49 q16 m_q16
  have m_q23 : q23 ∈ L21 := mo49 q23 m_q23
  have m_q827 : q827 ∈ L21 := mo49 q827 m_q827
  have m_q34 : q34 ∈ L21 := mo49 q34 m_q34
  have m_q838 : q838 ∈ L21 := mo49 q838 m_q838
  have m_q45 : q45 ∈ L21 := mo49 q45 m_q45
  have e_q45 := E_q45
  have nzq849 : q849 ∉ L := fun h => nq849 (mono _ h)
  have fr : ∀ b, b ∈ L → b ≠ h → f22 b = f b := fun b mb nb0 => (fv49 b (mono b mb) (fun h => nzq45 (h ▸ mb))).trans (fr b mb nb0)
  have mono : ∀ b, b ∈ L → b ∈ L21 := fun b h => mo49 b (mono b h)
  refine q_putF hx hb hts in_X8 tyX8 tyX8_ok nmX8 hown hnm S m_h e_h (C := RX8) (T := TX8) (N := 8) rfl 4 (by decide) (hts (.fieldLink RX8 29 "SieveCabinet" "through" "LSieveCabinet$Bag;") (gu_wsX8_init_1 _ gm_11)) rfl rfl rfl rfl (Nat.le_of_ble_eq_true rfl) dX8_init_52 (fun H locs S => ?_)
  obtain ⟨f24, ef24⟩ : ∃ z_, z_ = va_up f22 h (.inr (6, [.ref q7, .ref q16, .ref q23, .ref q34, .ref q45, .null, .null, .int 0])) := ⟨_, rfl⟩
  have S : PS D g (va_A (va_pl L f) sz) s.heap s L21 f24 H locs := by rw [ef24]; exact S
  have e_q7 : f24 q7 = .inl (g 3, 8, .inr (.inr (.inr (.inr (fun _ => none))))) := up_ne ef24 (fun h => nq7_h h.symm) e_q7
  have e_q16 : f24 q16 = .inl (g 5, 30, .inr (.inr (.inr (.inr (fun _ => none))))) := up_ne ef24 (fun h => nq16_h h.symm) e_q16
  have e_q23 : f24 q23 = .inr (0, [.ref q827, .int 0]) := up_ne ef24 (fun h => nq23_h h.symm) e_q23
  have e_q827 : f24 q827 = .inl (g 1, 1000, .inr (.inl (fun _ => 0))) := up_ne ef24 (fun h => nq827_h h.symm) e_q827
  have e_q34 : f24 q34 = .inr (0, [.ref q838, .int 0]) := up_ne ef24 (fun h => nq34_h h.symm) e_q34
  have e_q838 : f24 q838 = .inl (g 1, 1000, .inr (.inl (fun _ => 0))) := up_ne ef24 (fun h => nq838_h h.symm) e_q838
  have e_q45 : f24 q45 = .inr (0, [.ref q849, .int 0]) := up_ne ef24 (fun h => nq45_h h.symm) e_q45
  have e_q849 : f24 q849 = .inl (g 1, 1000, .inr (.inl (fun _ => 0))) := up_ne ef24 (fun h => nq849_h h.symm) e_q849
  have e_h : f24 h = .inr (6, [.ref q7, .ref q16, .ref q23, .ref q34, .ref q45, .null, .null, .int 0]) := up_self ef24
  have fr : ∀ b, b ∈ L → b ≠ h → f24 b = f b := fun b mb nb0 => (up_ne ef24 nb0 rfl).trans (fr b mb nb0)
  refine lv_aload_n hx hb dX8_init_55 rfl (lv_at hl 0 rfl) ?_
  refine q_new (fs := [.null, .null, .null, .null, .null, .null, .null, .int 0, .int 0]) (C := RX7) (T := TX7) (N := 9) (ci := 5) hx hb hts in_X7 tyX7 tyX7_ok hown (hts (.classLink RX8 32 RX7) (gu_wsX8_init_1 _ gm_12)) (hts (.instantiable RX7 9) (gu_wsX8_init_1 _ gm_13)) (hts (.initialized RX7) (gu_wsX8_init_1 _ gm_14)) S rfl (fun j hj => by rcases (show j = 0 ∨ j = 1 ∨ j = 2 ∨ j = 3 ∨ j = 4 ∨ j = 5 ∨ j = 6 ∨ j = 7 ∨ j = 8 by omega) with rfl | rfl | rfl | rfl | rfl | rfl | rfl | rfl | rfl <;> rfl) (Nat.le_of_ble_eq_true rfl) (Nat.le_of_ble_eq_true rfl) dX8_init_56 (fun q56 H nq56 S => ?_)
  refine W.widen (k := 9) (n := 3053) (by decide) (by decide) ?_
  obtain ⟨f25, ef25⟩ : ∃ z_, z_ = va_up f24 q56 (.inr (5, [.null, .null, .null, .null, .null, .null, .null, .int 0, .int 0])) := ⟨_, rfl⟩
  obtain ⟨L26, eL26⟩ : ∃ z_, z_ = L21 ++ [q56] := ⟨_, rfl⟩
  have S : PS D g (va_A (va_pl L f) sz) s.heap s L26 f25 H locs := by rw [ef25, eL26]; exact S
  have e_h : f25 h = .inr (6, [.ref q7, .ref q16, .ref q23, .ref q34, .ref q45, .null, .null, .int 0]) := up_ne ef25 (fun h => nq56 (h ▸ m_h)) e_h
  have nq56_h : h ≠ q56 := fun h => nq56 (h ▸ m_h)
  have m_h : h ∈ L26 := by rw [eL26]; exact List.mem_append_left _ m_h
  have e_q7 : f25 q7 = .inl (g 3, 8, .inr (.inr (.inr (.inr (fun _ => none))))) := up_ne ef25 (fun h => nq56 (h ▸ m_q7)) e_q7
  have nq56_q7 : q7 ≠ q56 := fun h => nq56 (h ▸ m_q7)
  have m_q7 : q7 ∈ L26 := by rw [eL26]; exact List.mem_append_left _ m_q7
  have e_q16 : f25 q16 = .inl (g 5, 30, .inr (.inr (.inr (.inr (fun _ => none))))) := up_ne ef25 (fun h => nq56 (h ▸ m_q16)) e_q16
  have nq56_q16 : q16 ≠ q56 := fun h => nq56 (h ▸ m_q16)
  have m_q16 : q16 ∈ L26 := by rw [eL26]; exact List.mem_append_left _ m_q16
  have e_q23 : f25 q23 = .inr (0, [.ref q827, .int 0]) := up_ne ef25 (fun h => nq56 (h ▸ m_q23)) e_q23
  have nq56_q23 : q23 ≠ q56 := fun h => nq56 (h ▸ m_q23)
  have m_q23 : q23 ∈ L26 := by rw [eL26]; exact List.mem_append_left _ m_q23
  have e_q827 : f25 q827 = .inl (g 1, 1000, .inr (.inl (fun _ => 0))) := up_ne ef25 (fun h => nq56 (h ▸ m_q827)) e_q827
  have nq56_q827 : q827 ≠ q56 := fun h => nq56 (h ▸ m_q827)
  have m_q827 : q827 ∈ L26 := by rw [eL26]; exact List.mem_append_left _ m_q827
  have e_q34 : f25 q34 = .inr (0, [.ref q838, .int 0]) := up_ne ef25 (fun h => nq56 (h ▸ m_q34)) e_q34
  have nq56_q34 : q34 ≠ q56 := fun h => nq56 (h ▸ m_q34)
  have m_q34 : q34 ∈ L26 := by rw [eL26]; exact List.mem_append_left _ m_q34
  have e_q838 : f25 q838 = .inl (g 1, 1000, .inr (.inl (fun _ => 0))) := up_ne ef25 (fun h => nq56 (h ▸ m_q838)) e_q838
  have nq56_q838 : q838 ≠ q56 := fun h => nq56 (h ▸ m_q838)
  have m_q838 : q838 ∈ L26 := by rw [eL26]; exact List.mem_append_left _ m_q838
  have e_q45 : f25 q45 = .inr (0, [.ref q849, .int 0]) := up_ne ef25 (fun h => nq56 (h ▸ m_q45)) e_q45
  have nq56_q45 : q45 ≠ q56 := fun h => nq56 (h ▸ m_q45)
  have m_q45 : q45 ∈ L26 := by rw [eL26]; exact List.mem_append_left _ m_q45
  have e_q849 : f25 q849 = .inl (g 1, 1000, .inr (.inl (fun _ => 0))) := up_ne ef25 (fun h => nq56 (h ▸ m_q849)) e_q849
  have nq56_q849 : q849 ≠ q56 := fun h => nq56 (h ▸ m_q849)
  have m_q849 : q849 ∈ L26 := by rw [eL26]; exact List.mem_append_left _ m_q849
  have e_q56 : f25 q56 = .inr (5, [.null, .null, .null, .null, .null, .null, .null, .int 0, .int 0]) := up_self ef25
  have m_q56 : q56 ∈ L26 := by rw [eL26]; simp
  have nzq56 : q56 ∉ L := fun h => nq56 (mono _ h)
  have fr : ∀ b, b ∈ L → b ≠ h → f25 b = f b := fun b mb nb0 => (up_ne ef25 (fun h => nzq56 (h ▸ mb)) rfl).trans (fr b mb nb0)
  have mono : ∀ b, b ∈ L → b ∈ L26 := fun b h => by rw [eL26]; exact List.mem_append_left _ (mono b h)
  refine lv_dup hx hb dX8_init_59 rfl ?_
  refine q_nv (As := []) (rest := [.ref q56, .ref h]) (host := "SieveCabinet") ⟨hx, hb, hml, hown, hts⟩ (c_X7_initF l D g m_q56 e_q56) ⟨va_cnB 0 hts gX8_init_X7_init_n34 rfl rfl rfl (S.1.2.1 _ (List.mem_of_getElem? (i := 1) rfl)) (hts (.initialized RX7) (gu_wsX8_init_1 _ gm_14)) (by decide +kernel) ⟨Nat.le_of_ble_eq_true rfl, Nat.le_of_ble_eq_true rfl⟩, rfl, hts (.instanceMethod yX7_init) (by decide +kernel)⟩ S rfl hl.1 rfl (Nat.le_of_ble_eq_true rfl) dX8_init_60 ⟨Nat.le_of_ble_eq_true rfl, Nat.le_of_ble_eq_true rfl⟩ (fun L27 f28 H locs S w60 => ?_)
  refine W.widen (k := 17) (n := 16667) (by decide) (by decide) ?_
  obtain ⟨q860, q1760, q2660, q3560, q4160, q74560, q5560, q6460, mo60, fv60, ⟨nq860, m_q860, e_q860⟩, ⟨nq1760, m_q1760, e_q1760⟩, ⟨nq2660, m_q2660, e_q2660⟩, ⟨nq3560, m_q3560, e_q3560⟩, ⟨nq4160, m_q4160, e_q4160⟩, ⟨nq74560, m_q74560, e_q74560⟩, ⟨nq5560, m_q5560, e_q5560⟩, ⟨nq6460, m_q6460, e_q6460⟩, E_q56, hxx60⟩ := w60
  have e_h : f28 h = .inr (6, [.ref q7, .ref q16, .ref q23, .ref q34, .ref q45, .null, .null, .int 0]) := (fv60 h m_h (fun h => nq56_h h)).trans e_h
  have e_q7 : f28 q7 = .inl (g 3, 8, .inr (.inr (.inr (.inr (fun _ => none))))) := (fv60 q7 m_q7 (fun h => nq56_q7 h)).trans e_q7
  have e_q16 : f28 q16 = .inl (g 5, 30, .inr (.inr (.inr (.inr (fun _ => none))))) := (fv60 q16 m_q16 (fun h => nq56_q16 h)).trans e_q16
  have e_q23 : f28 q23 = .inr (0, [.ref q827, .int 0]) := (fv60 q23 m_q23 (fun h => nq56_q23 h)).trans e_q23
  have e_q827 : f28 q827 = .inl (g 1, 1000, .inr (.inl (fun _ => 0))) := (fv60 q827 m_q827 (fun h => nq56_q827 h)).trans e_q827
  have e_q34 : f28 q34 = .inr (0, [.ref q838, .int 0]) := (fv60 q34 m_q34 (fun h => nq56_q34 h)).trans e_q34
  have e_q838 : f28 q838 = .inl (g 1, 1000, .inr (.inl (fun _ => 0))) := (fv60 q838 m_q838 (fun h => nq56_q838 h)).trans e_q838
  have e_q45 : f28 q45 = .inr (0, [.ref q849, .int 0]) := (fv60 q45 m_q45 (fun h => nq56_q45 h)).trans e_q45
  have e_q849 : f28 q849 = .inl (g 1, 1000, .inr (.inl (fun _ => 0))) := (fv60 q849 m_q849 (fun h => nq56_q849 h)).trans e_q849
  have nq860_h : h ≠ q860 := fun h => nq860 (h ▸ m_h)
  have nq1760_h : h ≠ q1760 := fun h => nq1760 (h ▸ m_h)
  have nq2660_h : h ≠ q2660 := fun h => nq2660 (h ▸ m_h)
  have nq3560_h : h ≠ q3560 := fun h => nq3560 (h ▸ m_h)
  have nq4160_h : h ≠ q4160 := fun h => nq4160 (h ▸ m_h)
  have nq74560_h : h ≠ q74560 := fun h => nq74560 (h ▸ m_h)
  have nq5560_h : h ≠ q5560 := fun h => nq5560 (h ▸ m_h)
  have nq6460_h : h ≠ q6460 := fun h => nq6460 (h ▸ m_h)
  have nq860_q7 : q7 ≠ q860 := fun h => nq860 (h ▸ m_q7)
  have nq1760_q7 : q7 ≠ q1760 := fun h => nq1760 (h ▸ m_q7)
  have nq2660_q7 : q7 ≠ q2660 := fun h => nq2660 (h ▸ m_q7)
  have nq3560_q7 : q7 ≠ q3560 := fun h => nq3560 (h ▸ m_q7)
  have nq4160_q7 : q7 ≠ q4160 := fun h => nq4160 (h ▸ m_q7)
  have nq74560_q7 : q7 ≠ q74560 := fun h => nq74560 (h ▸ m_q7)
  have nq5560_q7 : q7 ≠ q5560 := fun h => nq5560 (h ▸ m_q7)
  have nq6460_q7 : q7 ≠ q6460 := fun h => nq6460 (h ▸ m_q7)
  have nq860_q16 : q16 ≠ q860 := fun h => nq860 (h ▸ m_q16)
  have nq1760_q16 : q16 ≠ q1760 := fun h => nq1760 (h ▸ m_q16)
  have nq2660_q16 : q16 ≠ q2660 := fun h => nq2660 (h ▸ m_q16)
  have nq3560_q16 : q16 ≠ q3560 := fun h => nq3560 (h ▸ m_q16)
  have nq4160_q16 : q16 ≠ q4160 := fun h => nq4160 (h ▸ m_q16)
  have nq74560_q16 : q16 ≠ q74560 := fun h => nq74560 (h ▸ m_q16)
  have nq5560_q16 : q16 ≠ q5560 := fun h => nq5560 (h ▸ m_q16)
  have nq6460_q16 : q16 ≠ q6460 := fun h => nq6460 (h ▸ m_q16)
  have nq860_q23 : q23 ≠ q860 := fun h => nq860 (h ▸ m_q23)
  have nq1760_q23 : q23 ≠ q1760 := fun h => nq1760 (h ▸ m_q23)
  have nq2660_q23 : q23 ≠ q2660 := fun h => nq2660 (h ▸ m_q23)
  have nq3560_q23 : q23 ≠ q3560 := fun h => nq3560 (h ▸ m_q23)
  have nq4160_q23 : q23 ≠ q4160 := fun h => nq4160 (h ▸ m_q23)
  have nq74560_q23 : q23 ≠ q74560 := fun h => nq74560 (h ▸ m_q23)
  have nq5560_q23 : q23 ≠ q5560 := fun h => nq5560 (h ▸ m_q23)
  have nq6460_q23 : q23 ≠ q6460 := fun h => nq6460 (h ▸ m_q23)
  have nq860_q827 : q827 ≠ q860 := fun h => nq860 (h ▸ m_q827)
  have nq1760_q827 : q827 ≠ q1760 := fun h => nq1760 (h ▸ m_q827)
  have nq2660_q827 : q827 ≠ q2660 := fun h => nq2660 (h ▸ m_q827)
  have nq3560_q827 : q827 ≠ q3560 := fun h => nq3560 (h ▸ m_q827)
  have nq4160_q827 : q827 ≠ q4160 := fun h => nq4160 (h ▸ m_q827)
  have nq74560_q827 : q827 ≠ q74560 := fun h => nq74560 (h ▸ m_q827)
  have nq5560_q827 : q827 ≠ q5560 := fun h => nq5560 (h ▸ m_q827)
  have nq6460_q827 : q827 ≠ q6460 := fun h => nq6460 (h ▸ m_q827)
  have nq860_q34 : q34 ≠ q860 := fun h => nq860 (h ▸ m_q34)
  have nq1760_q34 : q34 ≠ q1760 := fun h => nq1760 (h ▸ m_q34)
  have nq2660_q34 : q34 ≠ q2660 := fun h => nq2660 (h ▸ m_q34)
  have nq3560_q34 : q34 ≠ q3560 := fun h => nq3560 (h ▸ m_q34)
  have nq4160_q34 : q34 ≠ q4160 := fun h => nq4160 (h ▸ m_q34)
  have nq74560_q34 : q34 ≠ q74560 := fun h => nq74560 (h ▸ m_q34)
  have nq5560_q34 : q34 ≠ q5560 := fun h => nq5560 (h ▸ m_q34)
  have nq6460_q34 : q34 ≠ q6460 := fun h => nq6460 (h ▸ m_q34)
  have nq860_q838 : q838 ≠ q860 := fun h => nq860 (h ▸ m_q838)
  have nq1760_q838 : q838 ≠ q1760 := fun h => nq1760 (h ▸ m_q838)
  have nq2660_q838 : q838 ≠ q2660 := fun h => nq2660 (h ▸ m_q838)
  have nq3560_q838 : q838 ≠ q3560 := fun h => nq3560 (h ▸ m_q838)
  have nq4160_q838 : q838 ≠ q4160 := fun h => nq4160 (h ▸ m_q838)
  have nq74560_q838 : q838 ≠ q74560 := fun h => nq74560 (h ▸ m_q838)
  have nq5560_q838 : q838 ≠ q5560 := fun h => nq5560 (h ▸ m_q838)
  have nq6460_q838 : q838 ≠ q6460 := fun h => nq6460 (h ▸ m_q838)
  have nq860_q45 : q45 ≠ q860 := fun h => nq860 (h ▸ m_q45)
  have nq1760_q45 : q45 ≠ q1760 := fun h => nq1760 (h ▸ m_q45)
  have nq2660_q45 : q45 ≠ q2660 := fun h => nq2660 (h ▸ m_q45)
  have nq3560_q45 : q45 ≠ q3560 := fun h => nq3560 (h ▸ m_q45)
  have nq4160_q45 : q45 ≠ q4160 := fun h => nq4160 (h ▸ m_q45)
  have nq74560_q45 : q45 ≠ q74560 := fun h => nq74560 (h ▸ m_q45)
  have nq5560_q45 : q45 ≠ q5560 := fun h => nq5560 (h ▸ m_q45)
  have nq6460_q45 : q45 ≠ q6460 := fun h => nq6460 (h ▸ m_q45)
  have nq860_q849 : q849 ≠ q860 := fun h => nq860 (h ▸ m_q849)
  have nq1760_q849 : q849 ≠ q1760 := fun h => nq1760 (h ▸ m_q849)
  have nq2660_q849 : q849 ≠ q2660 := fun h => nq2660 (h ▸ m_q849)
  have nq3560_q849 : q849 ≠ q3560 := fun h => nq3560 (h ▸ m_q849)
  have nq4160_q849 : q849 ≠ q4160 := fun h => nq4160 (h ▸ m_q849)
  have nq74560_q849 : q849 ≠ q74560 := fun h => nq74560 (h ▸ m_q849)
  have nq5560_q849 : q849 ≠ q5560 := fun h => nq5560 (h ▸ m_q849)
  have nq6460_q849 : q849 ≠ q6460 := fun h => nq6460 (h ▸ m_q849)
  have nq860_q56 : q56 ≠ q860 := fun h => nq860 (h ▸ m_q56)
  have nq1760_q56 : q56 ≠ q1760 := fun h => nq1760 (h ▸ m_q56)
  have nq2660_q56 : q56 ≠ q2660 := fun h => nq2660 (h ▸ m_q56)
  have nq3560_q56 : q56 ≠ q3560 := fun h => nq3560 (h ▸ m_q56)
  have nq4160_q56 : q56 ≠ q4160 := fun h => nq4160 (h ▸ m_q56)
  have nq74560_q56 : q56 ≠ q74560 := fun h => nq74560 (h ▸ m_q56)
  have nq5560_q56 : q56 ≠ q5560 := fun h => nq5560 (h ▸ m_q56)
  have nq6460_q56 : q56 ≠ q6460 := fun h => nq6460 (h ▸ m_q56)
  have m_h : h ∈ L27 := mo60 h m_h
  have m_q7 : q7 ∈ L27 := mo60 q7 m_q7
  have m_q16 : q16 ∈ L27 := mo60 q16 m_q16
  have m_q23 : q23 ∈ L27 := mo60 q23 m_q23
  have m_q827 : q827 ∈ L27 := mo60 q827 m_q827
  have m_q34 : q34 ∈ L27 := mo60 q34 m_q34
  have m_q838 : q838 ∈ L27 := mo60 q838 m_q838
  have m_q45 : q45 ∈ L27 := mo60 q45 m_q45
  have m_q849 : q849 ∈ L27 := mo60 q849 m_q849
  have m_q56 : q56 ∈ L27 := mo60 q56 m_q56
  have e_q56 := E_q56
  have nzq860 : q860 ∉ L := fun h => nq860 (mono _ h)
  have nzq1760 : q1760 ∉ L := fun h => nq1760 (mono _ h)
  have nzq2660 : q2660 ∉ L := fun h => nq2660 (mono _ h)
  have nzq3560 : q3560 ∉ L := fun h => nq3560 (mono _ h)
  have nzq4160 : q4160 ∉ L := fun h => nq4160 (mono _ h)
  have nzq74560 : q74560 ∉ L := fun h => nq74560 (mono _ h)
  have nzq5560 : q5560 ∉ L := fun h => nq5560 (mono _ h)
  have nzq6460 : q6460 ∉ L := fun h => nq6460 (mono _ h)
  have fr : ∀ b, b ∈ L → b ≠ h → f28 b = f b := fun b mb nb0 => (fv60 b (mono b mb) (fun h => nzq56 (h ▸ mb))).trans (fr b mb nb0)
  have mono : ∀ b, b ∈ L → b ∈ L27 := fun b h => mo60 b (mono b h)
  refine q_putF hx hb hts in_X8 tyX8 tyX8_ok nmX8 hown hnm S m_h e_h (C := RX8) (T := TX8) (N := 8) rfl 5 (by decide) (hts (.fieldLink RX8 35 "SieveCabinet" "solver" "LSieveCabinet$Solver;") (gu_wsX8_init_1 _ gm_15)) rfl rfl rfl rfl (Nat.le_of_ble_eq_true rfl) dX8_init_63 (fun H locs S => ?_)
  obtain ⟨f30, ef30⟩ : ∃ z_, z_ = va_up f28 h (.inr (6, [.ref q7, .ref q16, .ref q23, .ref q34, .ref q45, .ref q56, .null, .int 0])) := ⟨_, rfl⟩
  have S : PS D g (va_A (va_pl L f) sz) s.heap s L27 f30 H locs := by rw [ef30]; exact S
  have e_q7 : f30 q7 = .inl (g 3, 8, .inr (.inr (.inr (.inr (fun _ => none))))) := up_ne ef30 (fun h => nq7_h h.symm) e_q7
  have e_q16 : f30 q16 = .inl (g 5, 30, .inr (.inr (.inr (.inr (fun _ => none))))) := up_ne ef30 (fun h => nq16_h h.symm) e_q16
  have e_q23 : f30 q23 = .inr (0, [.ref q827, .int 0]) := up_ne ef30 (fun h => nq23_h h.symm) e_q23
  have e_q827 : f30 q827 = .inl (g 1, 1000, .inr (.inl (fun _ => 0))) := up_ne ef30 (fun h => nq827_h h.symm) e_q827
  have e_q34 : f30 q34 = .inr (0, [.ref q838, .int 0]) := up_ne ef30 (fun h => nq34_h h.symm) e_q34
  have e_q838 : f30 q838 = .inl (g 1, 1000, .inr (.inl (fun _ => 0))) := up_ne ef30 (fun h => nq838_h h.symm) e_q838
  have e_q45 : f30 q45 = .inr (0, [.ref q849, .int 0]) := up_ne ef30 (fun h => nq45_h h.symm) e_q45
  have e_q849 : f30 q849 = .inl (g 1, 1000, .inr (.inl (fun _ => 0))) := up_ne ef30 (fun h => nq849_h h.symm) e_q849
  have e_q56 : f30 q56 = .inr (5, [.ref q860, .ref q1760, .ref q2660, .ref q3560, .ref q4160, .ref q5560, .ref q6460, .int 0, .int 0]) := up_ne ef30 (fun h => nq56_h h.symm) e_q56
  have e_q860 : f30 q860 = .inl (g 0, 3000, .inl (fun _ => 0)) := up_ne ef30 (fun h => nq860_h h.symm) e_q860
  have e_q1760 : f30 q1760 = .inl (g 0, 1000, .inl (fun _ => 0)) := up_ne ef30 (fun h => nq1760_h h.symm) e_q1760
  have e_q2660 : f30 q2660 = .inl (g 0, 3774, .inl (fun _ => 0)) := up_ne ef30 (fun h => nq2660_h h.symm) e_q2660
  have e_q3560 : f30 q3560 = .inl (g 0, 3774, .inl (fun _ => 0)) := up_ne ef30 (fun h => nq3560_h h.symm) e_q3560
  have e_q4160 : f30 q4160 = .inr (1, [.ref q74560, .int 0]) := up_ne ef30 (fun h => nq4160_h h.symm) e_q4160
  have e_q74560 : f30 q74560 = .inl (g 1, 64, .inr (.inl (fun _ => 0))) := up_ne ef30 (fun h => nq74560_h h.symm) e_q74560
  have e_q5560 : f30 q5560 = .inl (g 0, 1000, .inl (fun _ => 0)) := up_ne ef30 (fun h => nq5560_h h.symm) e_q5560
  have e_q6460 : f30 q6460 = .inl (g 0, 1000, .inl (fun _ => 0)) := up_ne ef30 (fun h => nq6460_h h.symm) e_q6460
  have e_h : f30 h = .inr (6, [.ref q7, .ref q16, .ref q23, .ref q34, .ref q45, .ref q56, .null, .int 0]) := up_self ef30
  have fr : ∀ b, b ∈ L → b ≠ h → f30 b = f b := fun b mb nb0 => (up_ne ef30 nb0 rfl).trans (fr b mb nb0)
  refine lv_aload_n hx hb dX8_init_66 rfl (lv_at hl 0 rfl) ?_
  refine q_new (fs := [.null, .null, .null, .int 0, .int 0]) (C := RX2) (T := TX2) (N := 5) (ci := 2) hx hb hts in_X2 tyX2 tyX2_ok hown (hts (.classLink RX8 39 RX2) (gu_wsX8_init_1 _ gm_16)) (hts (.instantiable RX2 5) (gu_wsX8_init_1 _ gm_17)) (hts (.initialized RX2) (gu_wsX8_init_1 _ gm_18)) S rfl (fun j hj => by rcases (show j = 0 ∨ j = 1 ∨ j = 2 ∨ j = 3 ∨ j = 4 by omega) with rfl | rfl | rfl | rfl | rfl <;> rfl) (Nat.le_of_ble_eq_true rfl) (Nat.le_of_ble_eq_true rfl) dX8_init_67 (fun q67 H nq67 S => ?_)
  refine W.widen (k := 18) (n := 16672) (by decide) (by decide) ?_
  obtain ⟨f31, ef31⟩ : ∃ z_, z_ = va_up f30 q67 (.inr (2, [.null, .null, .null, .int 0, .int 0])) := ⟨_, rfl⟩
  obtain ⟨L32, eL32⟩ : ∃ z_, z_ = L27 ++ [q67] := ⟨_, rfl⟩
  have S : PS D g (va_A (va_pl L f) sz) s.heap s L32 f31 H locs := by rw [ef31, eL32]; exact S
  have e_h : f31 h = .inr (6, [.ref q7, .ref q16, .ref q23, .ref q34, .ref q45, .ref q56, .null, .int 0]) := up_ne ef31 (fun h => nq67 (h ▸ m_h)) e_h
  have nq67_h : h ≠ q67 := fun h => nq67 (h ▸ m_h)
  have m_h : h ∈ L32 := by rw [eL32]; exact List.mem_append_left _ m_h
  have e_q7 : f31 q7 = .inl (g 3, 8, .inr (.inr (.inr (.inr (fun _ => none))))) := up_ne ef31 (fun h => nq67 (h ▸ m_q7)) e_q7
  have nq67_q7 : q7 ≠ q67 := fun h => nq67 (h ▸ m_q7)
  have m_q7 : q7 ∈ L32 := by rw [eL32]; exact List.mem_append_left _ m_q7
  have e_q16 : f31 q16 = .inl (g 5, 30, .inr (.inr (.inr (.inr (fun _ => none))))) := up_ne ef31 (fun h => nq67 (h ▸ m_q16)) e_q16
  have nq67_q16 : q16 ≠ q67 := fun h => nq67 (h ▸ m_q16)
  have m_q16 : q16 ∈ L32 := by rw [eL32]; exact List.mem_append_left _ m_q16
  have e_q23 : f31 q23 = .inr (0, [.ref q827, .int 0]) := up_ne ef31 (fun h => nq67 (h ▸ m_q23)) e_q23
  have nq67_q23 : q23 ≠ q67 := fun h => nq67 (h ▸ m_q23)
  have m_q23 : q23 ∈ L32 := by rw [eL32]; exact List.mem_append_left _ m_q23
  have e_q827 : f31 q827 = .inl (g 1, 1000, .inr (.inl (fun _ => 0))) := up_ne ef31 (fun h => nq67 (h ▸ m_q827)) e_q827
  have nq67_q827 : q827 ≠ q67 := fun h => nq67 (h ▸ m_q827)
  have m_q827 : q827 ∈ L32 := by rw [eL32]; exact List.mem_append_left _ m_q827
  have e_q34 : f31 q34 = .inr (0, [.ref q838, .int 0]) := up_ne ef31 (fun h => nq67 (h ▸ m_q34)) e_q34
  have nq67_q34 : q34 ≠ q67 := fun h => nq67 (h ▸ m_q34)
  have m_q34 : q34 ∈ L32 := by rw [eL32]; exact List.mem_append_left _ m_q34
  have e_q838 : f31 q838 = .inl (g 1, 1000, .inr (.inl (fun _ => 0))) := up_ne ef31 (fun h => nq67 (h ▸ m_q838)) e_q838
  have nq67_q838 : q838 ≠ q67 := fun h => nq67 (h ▸ m_q838)
  have m_q838 : q838 ∈ L32 := by rw [eL32]; exact List.mem_append_left _ m_q838
  have e_q45 : f31 q45 = .inr (0, [.ref q849, .int 0]) := up_ne ef31 (fun h => nq67 (h ▸ m_q45)) e_q45
  have nq67_q45 : q45 ≠ q67 := fun h => nq67 (h ▸ m_q45)
  have m_q45 : q45 ∈ L32 := by rw [eL32]; exact List.mem_append_left _ m_q45
  have e_q849 : f31 q849 = .inl (g 1, 1000, .inr (.inl (fun _ => 0))) := up_ne ef31 (fun h => nq67 (h ▸ m_q849)) e_q849
  have nq67_q849 : q849 ≠ q67 := fun h => nq67 (h ▸ m_q849)
  have m_q849 : q849 ∈ L32 := by rw [eL32]; exact List.mem_append_left _ m_q849
  have e_q56 : f31 q56 = .inr (5, [.ref q860, .ref q1760, .ref q2660, .ref q3560, .ref q4160, .ref q5560, .ref q6460, .int 0, .int 0]) := up_ne ef31 (fun h => nq67 (h ▸ m_q56)) e_q56
  have nq67_q56 : q56 ≠ q67 := fun h => nq67 (h ▸ m_q56)
  have m_q56 : q56 ∈ L32 := by rw [eL32]; exact List.mem_append_left _ m_q56
  have e_q860 : f31 q860 = .inl (g 0, 3000, .inl (fun _ => 0)) := up_ne ef31 (fun h => nq67 (h ▸ m_q860)) e_q860
  have nq67_q860 : q860 ≠ q67 := fun h => nq67 (h ▸ m_q860)
  have m_q860 : q860 ∈ L32 := by rw [eL32]; exact List.mem_append_left _ m_q860
  have e_q1760 : f31 q1760 = .inl (g 0, 1000, .inl (fun _ => 0)) := up_ne ef31 (fun h => nq67 (h ▸ m_q1760)) e_q1760
  have nq67_q1760 : q1760 ≠ q67 := fun h => nq67 (h ▸ m_q1760)
  have m_q1760 : q1760 ∈ L32 := by rw [eL32]; exact List.mem_append_left _ m_q1760
  have e_q2660 : f31 q2660 = .inl (g 0, 3774, .inl (fun _ => 0)) := up_ne ef31 (fun h => nq67 (h ▸ m_q2660)) e_q2660
  have nq67_q2660 : q2660 ≠ q67 := fun h => nq67 (h ▸ m_q2660)
  have m_q2660 : q2660 ∈ L32 := by rw [eL32]; exact List.mem_append_left _ m_q2660
  have e_q3560 : f31 q3560 = .inl (g 0, 3774, .inl (fun _ => 0)) := up_ne ef31 (fun h => nq67 (h ▸ m_q3560)) e_q3560
  have nq67_q3560 : q3560 ≠ q67 := fun h => nq67 (h ▸ m_q3560)
  have m_q3560 : q3560 ∈ L32 := by rw [eL32]; exact List.mem_append_left _ m_q3560
  have e_q4160 : f31 q4160 = .inr (1, [.ref q74560, .int 0]) := up_ne ef31 (fun h => nq67 (h ▸ m_q4160)) e_q4160
  have nq67_q4160 : q4160 ≠ q67 := fun h => nq67 (h ▸ m_q4160)
  have m_q4160 : q4160 ∈ L32 := by rw [eL32]; exact List.mem_append_left _ m_q4160
  have e_q74560 : f31 q74560 = .inl (g 1, 64, .inr (.inl (fun _ => 0))) := up_ne ef31 (fun h => nq67 (h ▸ m_q74560)) e_q74560
  have nq67_q74560 : q74560 ≠ q67 := fun h => nq67 (h ▸ m_q74560)
  have m_q74560 : q74560 ∈ L32 := by rw [eL32]; exact List.mem_append_left _ m_q74560
  have e_q5560 : f31 q5560 = .inl (g 0, 1000, .inl (fun _ => 0)) := up_ne ef31 (fun h => nq67 (h ▸ m_q5560)) e_q5560
  have nq67_q5560 : q5560 ≠ q67 := fun h => nq67 (h ▸ m_q5560)
  have m_q5560 : q5560 ∈ L32 := by rw [eL32]; exact List.mem_append_left _ m_q5560
  have e_q6460 : f31 q6460 = .inl (g 0, 1000, .inl (fun _ => 0)) := up_ne ef31 (fun h => nq67 (h ▸ m_q6460)) e_q6460
  have nq67_q6460 : q6460 ≠ q67 := fun h => nq67 (h ▸ m_q6460)
  have m_q6460 : q6460 ∈ L32 := by rw [eL32]; exact List.mem_append_left _ m_q6460
  have e_q67 : f31 q67 = .inr (2, [.null, .null, .null, .int 0, .int 0]) := up_self ef31
  have m_q67 : q67 ∈ L32 := by rw [eL32]; simp
  have nzq67 : q67 ∉ L := fun h => nq67 (mono _ h)
  have fr : ∀ b, b ∈ L → b ≠ h → f31 b = f b := fun b mb nb0 => (up_ne ef31 (fun h => nzq67 (h ▸ mb)) rfl).trans (fr b mb nb0)
  have mono : ∀ b, b ∈ L → b ∈ L32 := fun b h => by rw [eL32]; exact List.mem_append_left _ (mono b h)
  refine lv_dup hx hb dX8_init_70 rfl ?_
  refine q_nv (As := []) (rest := [.ref q67, .ref h]) (host := "SieveCabinet") ⟨hx, hb, hml, hown, hts⟩ (c_X2_initF l D g m_q67 e_q67) ⟨va_cnB 0 hts gX8_init_X2_init_n41 rfl rfl rfl (S.1.2.1 _ (List.mem_of_getElem? (i := 3) rfl)) (hts (.initialized RX2) (gu_wsX8_init_1 _ gm_18)) (by decide +kernel) ⟨Nat.le_of_ble_eq_true rfl, Nat.le_of_ble_eq_true rfl⟩, rfl, hts (.instanceMethod yX2_init) (by decide +kernel)⟩ S rfl hl.1 rfl (Nat.le_of_ble_eq_true rfl) dX8_init_71 ⟨Nat.le_of_ble_eq_true rfl, Nat.le_of_ble_eq_true rfl⟩ (fun L33 f34 H locs S w71 => ?_)
  refine W.widen (k := 22) (n := 18738) (by decide) (by decide) ?_
  obtain ⟨q871, q1771, q2371, q72771, mo71, fv71, ⟨nq871, m_q871, e_q871⟩, ⟨nq1771, m_q1771, e_q1771⟩, ⟨nq2371, m_q2371, e_q2371⟩, ⟨nq72771, m_q72771, e_q72771⟩, E_q67, hxx71⟩ := w71
  have e_h : f34 h = .inr (6, [.ref q7, .ref q16, .ref q23, .ref q34, .ref q45, .ref q56, .null, .int 0]) := (fv71 h m_h (fun h => nq67_h h)).trans e_h
  have e_q7 : f34 q7 = .inl (g 3, 8, .inr (.inr (.inr (.inr (fun _ => none))))) := (fv71 q7 m_q7 (fun h => nq67_q7 h)).trans e_q7
  have e_q16 : f34 q16 = .inl (g 5, 30, .inr (.inr (.inr (.inr (fun _ => none))))) := (fv71 q16 m_q16 (fun h => nq67_q16 h)).trans e_q16
  have e_q23 : f34 q23 = .inr (0, [.ref q827, .int 0]) := (fv71 q23 m_q23 (fun h => nq67_q23 h)).trans e_q23
  have e_q827 : f34 q827 = .inl (g 1, 1000, .inr (.inl (fun _ => 0))) := (fv71 q827 m_q827 (fun h => nq67_q827 h)).trans e_q827
  have e_q34 : f34 q34 = .inr (0, [.ref q838, .int 0]) := (fv71 q34 m_q34 (fun h => nq67_q34 h)).trans e_q34
  have e_q838 : f34 q838 = .inl (g 1, 1000, .inr (.inl (fun _ => 0))) := (fv71 q838 m_q838 (fun h => nq67_q838 h)).trans e_q838
  have e_q45 : f34 q45 = .inr (0, [.ref q849, .int 0]) := (fv71 q45 m_q45 (fun h => nq67_q45 h)).trans e_q45
  have e_q849 : f34 q849 = .inl (g 1, 1000, .inr (.inl (fun _ => 0))) := (fv71 q849 m_q849 (fun h => nq67_q849 h)).trans e_q849
  have e_q56 : f34 q56 = .inr (5, [.ref q860, .ref q1760, .ref q2660, .ref q3560, .ref q4160, .ref q5560, .ref q6460, .int 0, .int 0]) := (fv71 q56 m_q56 (fun h => nq67_q56 h)).trans e_q56
  have e_q860 : f34 q860 = .inl (g 0, 3000, .inl (fun _ => 0)) := (fv71 q860 m_q860 (fun h => nq67_q860 h)).trans e_q860
  have e_q1760 : f34 q1760 = .inl (g 0, 1000, .inl (fun _ => 0)) := (fv71 q1760 m_q1760 (fun h => nq67_q1760 h)).trans e_q1760
  have e_q2660 : f34 q2660 = .inl (g 0, 3774, .inl (fun _ => 0)) := (fv71 q2660 m_q2660 (fun h => nq67_q2660 h)).trans e_q2660
  have e_q3560 : f34 q3560 = .inl (g 0, 3774, .inl (fun _ => 0)) := (fv71 q3560 m_q3560 (fun h => nq67_q3560 h)).trans e_q3560
  have e_q4160 : f34 q4160 = .inr (1, [.ref q74560, .int 0]) := (fv71 q4160 m_q4160 (fun h => nq67_q4160 h)).trans e_q4160
  have e_q74560 : f34 q74560 = .inl (g 1, 64, .inr (.inl (fun _ => 0))) := (fv71 q74560 m_q74560 (fun h => nq67_q74560 h)).trans e_q74560
  have e_q5560 : f34 q5560 = .inl (g 0, 1000, .inl (fun _ => 0)) := (fv71 q5560 m_q5560 (fun h => nq67_q5560 h)).trans e_q5560
  have e_q6460 : f34 q6460 = .inl (g 0, 1000, .inl (fun _ => 0)) := (fv71 q6460 m_q6460 (fun h => nq67_q6460 h)).trans e_q6460
  have nq871_h : h ≠ q871 := fun h => nq871 (h ▸ m_h)
  have nq1771_h : h ≠ q1771 := fun h => nq1771 (h ▸ m_h)
  have nq2371_h : h ≠ q2371 := fun h => nq2371 (h ▸ m_h)
  have nq72771_h : h ≠ q72771 := fun h => nq72771 (h ▸ m_h)
  have nq871_q7 : q7 ≠ q871 := fun h => nq871 (h ▸ m_q7)
  have nq1771_q7 : q7 ≠ q1771 := fun h => nq1771 (h ▸ m_q7)
  have nq2371_q7 : q7 ≠ q2371 := fun h => nq2371 (h ▸ m_q7)
  have nq72771_q7 : q7 ≠ q72771 := fun h => nq72771 (h ▸ m_q7)
  have nq871_q16 : q16 ≠ q871 := fun h => nq871 (h ▸ m_q16)
  have nq1771_q16 : q16 ≠ q1771 := fun h => nq1771 (h ▸ m_q16)
  have nq2371_q16 : q16 ≠ q2371 := fun h => nq2371 (h ▸ m_q16)
  have nq72771_q16 : q16 ≠ q72771 := fun h => nq72771 (h ▸ m_q16)
  have nq871_q23 : q23 ≠ q871 := fun h => nq871 (h ▸ m_q23)
  have nq1771_q23 : q23 ≠ q1771 := fun h => nq1771 (h ▸ m_q23)
  have nq2371_q23 : q23 ≠ q2371 := fun h => nq2371 (h ▸ m_q23)
  have nq72771_q23 : q23 ≠ q72771 := fun h => nq72771 (h ▸ m_q23)
  have nq871_q827 : q827 ≠ q871 := fun h => nq871 (h ▸ m_q827)
  have nq1771_q827 : q827 ≠ q1771 := fun h => nq1771 (h ▸ m_q827)
  have nq2371_q827 : q827 ≠ q2371 := fun h => nq2371 (h ▸ m_q827)
  have nq72771_q827 : q827 ≠ q72771 := fun h => nq72771 (h ▸ m_q827)
  have nq871_q34 : q34 ≠ q871 := fun h => nq871 (h ▸ m_q34)
  have nq1771_q34 : q34 ≠ q1771 := fun h => nq1771 (h ▸ m_q34)
  have nq2371_q34 : q34 ≠ q2371 := fun h => nq2371 (h ▸ m_q34)
  have nq72771_q34 : q34 ≠ q72771 := fun h => nq72771 (h ▸ m_q34)
  have nq871_q838 : q838 ≠ q871 := fun h => nq871 (h ▸ m_q838)
  have nq1771_q838 : q838 ≠ q1771 := fun h => nq1771 (h ▸ m_q838)
  have nq2371_q838 : q838 ≠ q2371 := fun h => nq2371 (h ▸ m_q838)
  have nq72771_q838 : q838 ≠ q72771 := fun h => nq72771 (h ▸ m_q838)
  have nq871_q45 : q45 ≠ q871 := fun h => nq871 (h ▸ m_q45)
  have nq1771_q45 : q45 ≠ q1771 := fun h => nq1771 (h ▸ m_q45)
  have nq2371_q45 : q45 ≠ q2371 := fun h => nq2371 (h ▸ m_q45)
  have nq72771_q45 : q45 ≠ q72771 := fun h => nq72771 (h ▸ m_q45)
  have nq871_q849 : q849 ≠ q871 := fun h => nq871 (h ▸ m_q849)
  have nq1771_q849 : q849 ≠ q1771 := fun h => nq1771 (h ▸ m_q849)
  have nq2371_q849 : q849 ≠ q2371 := fun h => nq2371 (h ▸ m_q849)
  have nq72771_q849 : q849 ≠ q72771 := fun h => nq72771 (h ▸ m_q849)
  have nq871_q56 : q56 ≠ q871 := fun h => nq871 (h ▸ m_q56)
  have nq1771_q56 : q56 ≠ q1771 := fun h => nq1771 (h ▸ m_q56)
  have nq2371_q56 : q56 ≠ q2371 := fun h => nq2371 (h ▸ m_q56)
  have nq72771_q56 : q56 ≠ q72771 := fun h => nq72771 (h ▸ m_q56)
  have nq871_q860 : q860 ≠ q871 := fun h => nq871 (h ▸ m_q860)
  have nq1771_q860 : q860 ≠ q1771 := fun h => nq1771 (h ▸ m_q860)
  have nq2371_q860 : q860 ≠ q2371 := fun h => nq2371 (h ▸ m_q860)
  have nq72771_q860 : q860 ≠ q72771 := fun h => nq72771 (h ▸ m_q860)
  have nq871_q1760 : q1760 ≠ q871 := fun h => nq871 (h ▸ m_q1760)
  have nq1771_q1760 : q1760 ≠ q1771 := fun h => nq1771 (h ▸ m_q1760)
  have nq2371_q1760 : q1760 ≠ q2371 := fun h => nq2371 (h ▸ m_q1760)
  have nq72771_q1760 : q1760 ≠ q72771 := fun h => nq72771 (h ▸ m_q1760)
  have nq871_q2660 : q2660 ≠ q871 := fun h => nq871 (h ▸ m_q2660)
  have nq1771_q2660 : q2660 ≠ q1771 := fun h => nq1771 (h ▸ m_q2660)
  have nq2371_q2660 : q2660 ≠ q2371 := fun h => nq2371 (h ▸ m_q2660)
  have nq72771_q2660 : q2660 ≠ q72771 := fun h => nq72771 (h ▸ m_q2660)
  have nq871_q3560 : q3560 ≠ q871 := fun h => nq871 (h ▸ m_q3560)
  have nq1771_q3560 : q3560 ≠ q1771 := fun h => nq1771 (h ▸ m_q3560)
  have nq2371_q3560 : q3560 ≠ q2371 := fun h => nq2371 (h ▸ m_q3560)
  have nq72771_q3560 : q3560 ≠ q72771 := fun h => nq72771 (h ▸ m_q3560)
  have nq871_q4160 : q4160 ≠ q871 := fun h => nq871 (h ▸ m_q4160)
  have nq1771_q4160 : q4160 ≠ q1771 := fun h => nq1771 (h ▸ m_q4160)
  have nq2371_q4160 : q4160 ≠ q2371 := fun h => nq2371 (h ▸ m_q4160)
  have nq72771_q4160 : q4160 ≠ q72771 := fun h => nq72771 (h ▸ m_q4160)
  have nq871_q74560 : q74560 ≠ q871 := fun h => nq871 (h ▸ m_q74560)
  have nq1771_q74560 : q74560 ≠ q1771 := fun h => nq1771 (h ▸ m_q74560)
  have nq2371_q74560 : q74560 ≠ q2371 := fun h => nq2371 (h ▸ m_q74560)
  have nq72771_q74560 : q74560 ≠ q72771 := fun h => nq72771 (h ▸ m_q74560)
  have nq871_q5560 : q5560 ≠ q871 := fun h => nq871 (h ▸ m_q5560)
  have nq1771_q5560 : q5560 ≠ q1771 := fun h => nq1771 (h ▸ m_q5560)
  have nq2371_q5560 : q5560 ≠ q2371 := fun h => nq2371 (h ▸ m_q5560)
  have nq72771_q5560 : q5560 ≠ q72771 := fun h => nq72771 (h ▸ m_q5560)
  have nq871_q6460 : q6460 ≠ q871 := fun h => nq871 (h ▸ m_q6460)
  have nq1771_q6460 : q6460 ≠ q1771 := fun h => nq1771 (h ▸ m_q6460)
  have nq2371_q6460 : q6460 ≠ q2371 := fun h => nq2371 (h ▸ m_q6460)
  have nq72771_q6460 : q6460 ≠ q72771 := fun h => nq72771 (h ▸ m_q6460)
  have nq871_q67 : q67 ≠ q871 := fun h => nq871 (h ▸ m_q67)
  have nq1771_q67 : q67 ≠ q1771 := fun h => nq1771 (h ▸ m_q67)
  have nq2371_q67 : q67 ≠ q2371 := fun h => nq2371 (h ▸ m_q67)
  have nq72771_q67 : q67 ≠ q72771 := fun h => nq72771 (h ▸ m_q67)
  have m_h : h ∈ L33 := mo71 h m_h
  have m_q7 : q7 ∈ L33 := mo71 q7 m_q7
  have m_q16 : q16 ∈ L33 := mo71 q16 m_q16
  have m_q23 : q23 ∈ L33 := mo71 q23 m_q23
  have m_q827 : q827 ∈ L33 := mo71 q827 m_q827
  have m_q34 : q34 ∈ L33 := mo71 q34 m_q34
  have m_q838 : q838 ∈ L33 := mo71 q838 m_q838
  have m_q45 : q45 ∈ L33 := mo71 q45 m_q45
  have m_q849 : q849 ∈ L33 := mo71 q849 m_q849
  have m_q56 : q56 ∈ L33 := mo71 q56 m_q56
  have m_q860 : q860 ∈ L33 := mo71 q860 m_q860
  have m_q1760 : q1760 ∈ L33 := mo71 q1760 m_q1760
  have m_q2660 : q2660 ∈ L33 := mo71 q2660 m_q2660
  have m_q3560 : q3560 ∈ L33 := mo71 q3560 m_q3560
  have m_q4160 : q4160 ∈ L33 := mo71 q4160 m_q4160
  have m_q74560 : q74560 ∈ L33 := mo71 q74560 m_q74560
  have m_q5560 : q5560 ∈ L33 := mo71 q5560 m_q5560
  have m_q6460 : q6460 ∈ L33 := mo71 q6460 m_q6460
  have m_q67 : q67 ∈ L33 := mo71 q67 m_q67
  have e_q67 := E_q67
  have nzq871 : q871 ∉ L := fun h => nq871 (mono _ h)
  have nzq1771 : q1771 ∉ L := fun h => nq1771 (mono _ h)
  have nzq2371 : q2371 ∉ L := fun h => nq2371 (mono _ h)
  have nzq72771 : q72771 ∉ L := fun h => nq72771 (mono _ h)
  have fr : ∀ b, b ∈ L → b ≠ h → f34 b = f b := fun b mb nb0 => (fv71 b (mono b mb) (fun h => nzq67 (h ▸ mb))).trans (fr b mb nb0)
  have mono : ∀ b, b ∈ L → b ∈ L33 := fun b h => mo71 b (mono b h)
  refine q_putF hx hb hts in_X8 tyX8 tyX8_ok nmX8 hown hnm S m_h e_h (C := RX8) (T := TX8) (N := 8) rfl 6 (by decide) (hts (.fieldLink RX8 42 "SieveCabinet" "chooser" "LSieveCabinet$Chooser;") (gu_wsX8_init_1 _ gm_19)) rfl rfl rfl rfl (Nat.le_of_ble_eq_true rfl) dX8_init_74 (fun H locs S => ?_)
  obtain ⟨f36, ef36⟩ : ∃ z_, z_ = va_up f34 h (.inr (6, [.ref q7, .ref q16, .ref q23, .ref q34, .ref q45, .ref q56, .ref q67, .int 0])) := ⟨_, rfl⟩
  have S : PS D g (va_A (va_pl L f) sz) s.heap s L33 f36 H locs := by rw [ef36]; exact S
  have e_q7 : f36 q7 = .inl (g 3, 8, .inr (.inr (.inr (.inr (fun _ => none))))) := up_ne ef36 (fun h => nq7_h h.symm) e_q7
  have e_q16 : f36 q16 = .inl (g 5, 30, .inr (.inr (.inr (.inr (fun _ => none))))) := up_ne ef36 (fun h => nq16_h h.symm) e_q16
  have e_q23 : f36 q23 = .inr (0, [.ref q827, .int 0]) := up_ne ef36 (fun h => nq23_h h.symm) e_q23
  have e_q827 : f36 q827 = .inl (g 1, 1000, .inr (.inl (fun _ => 0))) := up_ne ef36 (fun h => nq827_h h.symm) e_q827
  have e_q34 : f36 q34 = .inr (0, [.ref q838, .int 0]) := up_ne ef36 (fun h => nq34_h h.symm) e_q34
  have e_q838 : f36 q838 = .inl (g 1, 1000, .inr (.inl (fun _ => 0))) := up_ne ef36 (fun h => nq838_h h.symm) e_q838
  have e_q45 : f36 q45 = .inr (0, [.ref q849, .int 0]) := up_ne ef36 (fun h => nq45_h h.symm) e_q45
  have e_q849 : f36 q849 = .inl (g 1, 1000, .inr (.inl (fun _ => 0))) := up_ne ef36 (fun h => nq849_h h.symm) e_q849
  have e_q56 : f36 q56 = .inr (5, [.ref q860, .ref q1760, .ref q2660, .ref q3560, .ref q4160, .ref q5560, .ref q6460, .int 0, .int 0]) := up_ne ef36 (fun h => nq56_h h.symm) e_q56
  have e_q860 : f36 q860 = .inl (g 0, 3000, .inl (fun _ => 0)) := up_ne ef36 (fun h => nq860_h h.symm) e_q860
  have e_q1760 : f36 q1760 = .inl (g 0, 1000, .inl (fun _ => 0)) := up_ne ef36 (fun h => nq1760_h h.symm) e_q1760
  have e_q2660 : f36 q2660 = .inl (g 0, 3774, .inl (fun _ => 0)) := up_ne ef36 (fun h => nq2660_h h.symm) e_q2660
  have e_q3560 : f36 q3560 = .inl (g 0, 3774, .inl (fun _ => 0)) := up_ne ef36 (fun h => nq3560_h h.symm) e_q3560
  have e_q4160 : f36 q4160 = .inr (1, [.ref q74560, .int 0]) := up_ne ef36 (fun h => nq4160_h h.symm) e_q4160
  have e_q74560 : f36 q74560 = .inl (g 1, 64, .inr (.inl (fun _ => 0))) := up_ne ef36 (fun h => nq74560_h h.symm) e_q74560
  have e_q5560 : f36 q5560 = .inl (g 0, 1000, .inl (fun _ => 0)) := up_ne ef36 (fun h => nq5560_h h.symm) e_q5560
  have e_q6460 : f36 q6460 = .inl (g 0, 1000, .inl (fun _ => 0)) := up_ne ef36 (fun h => nq6460_h h.symm) e_q6460
  have e_q67 : f36 q67 = .inr (2, [.ref q871, .ref q1771, .ref q2371, .int 0, .int 0]) := up_ne ef36 (fun h => nq67_h h.symm) e_q67
  have e_q871 : f36 q871 = .inl (g 1, 1000, .inr (.inl (fun _ => 0))) := up_ne ef36 (fun h => nq871_h h.symm) e_q871
  have e_q1771 : f36 q1771 = .inl (g 1, 1000, .inr (.inl (fun _ => 0))) := up_ne ef36 (fun h => nq1771_h h.symm) e_q1771
  have e_q2371 : f36 q2371 = .inr (1, [.ref q72771, .int 0]) := up_ne ef36 (fun h => nq2371_h h.symm) e_q2371
  have e_q72771 : f36 q72771 = .inl (g 1, 64, .inr (.inl (fun _ => 0))) := up_ne ef36 (fun h => nq72771_h h.symm) e_q72771
  have e_h : f36 h = .inr (6, [.ref q7, .ref q16, .ref q23, .ref q34, .ref q45, .ref q56, .ref q67, .int 0]) := up_self ef36
  have fr : ∀ b, b ∈ L → b ≠ h → f36 b = f b := fun b mb nb0 => (up_ne ef36 nb0 rfl).trans (fr b mb nb0)
  refine lv_iconst (v := 0) hx hb dX8_init_77 (by decide) ?_
  refine lv_istore_n (lv' := [(1, .int 0), (0, .ref h)]) hx hb dX8_init_78 rfl hl (by decide) rfl (fun ls hl => ?_)
  have mono0 := mono
  have hm0 : q7 ∈ L33 := m_q7
  have hOwn : ∀ q, q ∈ [h, q16, q23, q827, q34, q838, q45, q849, q56, q860, q1760, q2660, q3560, q4160, q74560, q5560, q6460, q67, q871, q1771, q2371, q72771, q7] → q ∈ L33 := by
    intro q hq
    simp only [List.mem_cons, List.not_mem_nil, or_false] at hq
    rcases hq with rfl | rfl | rfl | rfl | rfl | rfl | rfl | rfl | rfl | rfl | rfl | rfl | rfl | rfl | rfl | rfl | rfl | rfl | rfl | rfl | rfl | rfl | rfl
    · exact m_h
    · exact m_q16
    · exact m_q23
    · exact m_q827
    · exact m_q34
    · exact m_q838
    · exact m_q45
    · exact m_q849
    · exact m_q56
    · exact m_q860
    · exact m_q1760
    · exact m_q2660
    · exact m_q3560
    · exact m_q4160
    · exact m_q74560
    · exact m_q5560
    · exact m_q6460
    · exact m_q67
    · exact m_q871
    · exact m_q1771
    · exact m_q2371
    · exact m_q72771
    · exact m_q7
  obtain ⟨i, ei⟩ : ∃ z_ : Nat, z_ = 0 := ⟨_, rfl⟩
  obtain ⟨kf, ekf⟩ : ∃ z_ : Nat → Option Nat, z_ = (fun _ => none) := ⟨_, rfl⟩
  obtain ⟨fl, efl⟩ : ∃ z_, z_ = f36 := ⟨_, rfl⟩
  obtain ⟨Ll, eLl⟩ : ∃ z_, z_ = L33 := ⟨_, rfl⟩
  have e_h : fl h = .inr (6, [.ref q7, .ref q16, .ref q23, .ref q34, .ref q45, .ref q56, .ref q67, .int 0]) := by rw [efl]; exact e_h
  have m_h : h ∈ Ll := by rw [eLl]; exact m_h
  have e_q7 : fl q7 = .inl (g 3, 8, .inr (.inr (.inr (.inr kf)))) := by rw [efl, ekf]; exact e_q7
  have m_q7 : q7 ∈ Ll := by rw [eLl]; exact m_q7
  have e_q16 : fl q16 = .inl (g 5, 30, .inr (.inr (.inr (.inr (fun _ => none))))) := by rw [efl]; exact e_q16
  have m_q16 : q16 ∈ Ll := by rw [eLl]; exact m_q16
  have e_q23 : fl q23 = .inr (0, [.ref q827, .int 0]) := by rw [efl]; exact e_q23
  have m_q23 : q23 ∈ Ll := by rw [eLl]; exact m_q23
  have e_q827 : fl q827 = .inl (g 1, 1000, .inr (.inl (fun _ => 0))) := by rw [efl]; exact e_q827
  have m_q827 : q827 ∈ Ll := by rw [eLl]; exact m_q827
  have e_q34 : fl q34 = .inr (0, [.ref q838, .int 0]) := by rw [efl]; exact e_q34
  have m_q34 : q34 ∈ Ll := by rw [eLl]; exact m_q34
  have e_q838 : fl q838 = .inl (g 1, 1000, .inr (.inl (fun _ => 0))) := by rw [efl]; exact e_q838
  have m_q838 : q838 ∈ Ll := by rw [eLl]; exact m_q838
  have e_q45 : fl q45 = .inr (0, [.ref q849, .int 0]) := by rw [efl]; exact e_q45
  have m_q45 : q45 ∈ Ll := by rw [eLl]; exact m_q45
  have e_q849 : fl q849 = .inl (g 1, 1000, .inr (.inl (fun _ => 0))) := by rw [efl]; exact e_q849
  have m_q849 : q849 ∈ Ll := by rw [eLl]; exact m_q849
  have e_q56 : fl q56 = .inr (5, [.ref q860, .ref q1760, .ref q2660, .ref q3560, .ref q4160, .ref q5560, .ref q6460, .int 0, .int 0]) := by rw [efl]; exact e_q56
  have m_q56 : q56 ∈ Ll := by rw [eLl]; exact m_q56
  have e_q860 : fl q860 = .inl (g 0, 3000, .inl (fun _ => 0)) := by rw [efl]; exact e_q860
  have m_q860 : q860 ∈ Ll := by rw [eLl]; exact m_q860
  have e_q1760 : fl q1760 = .inl (g 0, 1000, .inl (fun _ => 0)) := by rw [efl]; exact e_q1760
  have m_q1760 : q1760 ∈ Ll := by rw [eLl]; exact m_q1760
  have e_q2660 : fl q2660 = .inl (g 0, 3774, .inl (fun _ => 0)) := by rw [efl]; exact e_q2660
  have m_q2660 : q2660 ∈ Ll := by rw [eLl]; exact m_q2660
  have e_q3560 : fl q3560 = .inl (g 0, 3774, .inl (fun _ => 0)) := by rw [efl]; exact e_q3560
  have m_q3560 : q3560 ∈ Ll := by rw [eLl]; exact m_q3560
  have e_q4160 : fl q4160 = .inr (1, [.ref q74560, .int 0]) := by rw [efl]; exact e_q4160
  have m_q4160 : q4160 ∈ Ll := by rw [eLl]; exact m_q4160
  have e_q74560 : fl q74560 = .inl (g 1, 64, .inr (.inl (fun _ => 0))) := by rw [efl]; exact e_q74560
  have m_q74560 : q74560 ∈ Ll := by rw [eLl]; exact m_q74560
  have e_q5560 : fl q5560 = .inl (g 0, 1000, .inl (fun _ => 0)) := by rw [efl]; exact e_q5560
  have m_q5560 : q5560 ∈ Ll := by rw [eLl]; exact m_q5560
  have e_q6460 : fl q6460 = .inl (g 0, 1000, .inl (fun _ => 0)) := by rw [efl]; exact e_q6460
  have m_q6460 : q6460 ∈ Ll := by rw [eLl]; exact m_q6460
  have e_q67 : fl q67 = .inr (2, [.ref q871, .ref q1771, .ref q2371, .int 0, .int 0]) := by rw [efl]; exact e_q67
  have m_q67 : q67 ∈ Ll := by rw [eLl]; exact m_q67
  have e_q871 : fl q871 = .inl (g 1, 1000, .inr (.inl (fun _ => 0))) := by rw [efl]; exact e_q871
  have m_q871 : q871 ∈ Ll := by rw [eLl]; exact m_q871
  have e_q1771 : fl q1771 = .inl (g 1, 1000, .inr (.inl (fun _ => 0))) := by rw [efl]; exact e_q1771
  have m_q1771 : q1771 ∈ Ll := by rw [eLl]; exact m_q1771
  have e_q2371 : fl q2371 = .inr (1, [.ref q72771, .int 0]) := by rw [efl]; exact e_q2371
  have m_q2371 : q2371 ∈ Ll := by rw [eLl]; exact m_q2371
  have e_q72771 : fl q72771 = .inl (g 1, 64, .inr (.inl (fun _ => 0))) := by rw [efl]; exact e_q72771
  have m_q72771 : q72771 ∈ Ll := by rw [eLl]; exact m_q72771
  have fr : ∀ b, b ∈ L → b ≠ h → fl b = f b := by rw [efl]; exact fr
  have mono : ∀ b, b ∈ L → b ∈ Ll := by rw [eLl]; exact mono
  have S_0 : PS D g (va_A (va_pl L f) sz) s.heap s Ll fl H locs := by rw [efl, eLl]; exact S
  refine W_any (X := fun H locs => PS D g (va_A (va_pl L f) sz) s.heap s Ll fl H locs) S_0 (fun H locs S => ?_)
  refine W_ls (lv := [(1, .int ((nI i))), (0, .ref h)]) (by have q := lv_sub hl [0, 1] rfl; rw [ei]; exact q) (fun ls hl => ?_)
  refine W.widen (k := 22 + 2 * i) (n := 18738 + 1002 * i) (by omega) (by omega) ?_
  have hV : ∃ lb lw : Nat → Nat, (∀ j, j < i → kf j = some (lb j) ∧ lb j ∈ Ll ∧ fl (lb j) = .inr (0, [.ref (lw j), .int 0]) ∧ lw j ∈ Ll ∧ fl (lw j) = .inl (g 1, 1000, .inr (.inl (fun _ => 0))) ∧ lb j ∉ L33 ∧ lw j ∉ L33) ∧ ∀ j k, j < i → k < i → j ≠ k → lb j ≠ lb k ∧ lw j ≠ lw k := by exact ⟨fun _ => 0, fun _ => 0, fun j hj9 => absurd hj9 (by omega), fun j k hj9 => absurd hj9 (by omega)⟩
  have hLp : ∀ b, b ∈ L33 → b ∈ Ll := by rw [eLl]; exact fun _ h => h
  obtain ⟨d, hd⟩ : ∃ z_ : Nat, i + z_ = 8 := ⟨8 - i, by omega⟩
  clear ei ekf efl eLl S_0
  induction d generalizing i kf fl Ll H locs ls with
  | zero =>
    have hN : i = 8 := by omega
    refine W.widen (k := 38) (n := 26754) (by omega) (by omega) ?_
    refine lv_iload_n hx hb dX8_init_79 rfl (lv_at hl 0 rfl) ?_
    refine lv_bipush (v := 8) hx hb dX8_init_80 (by decide) ?_
    refine lv_icmp_ge (tgt := 104) hx hb dX8_init_82 (by decide) (fun b82 => ?_) (fun b82 => absurd (by rw [hN]; decide) b82)
    exact q_retv (post := fun L1 f1 => ∃ q16 : Nat, ∃ q23 : Nat, ∃ q827 : Nat, ∃ q34 : Nat, ∃ q838 : Nat, ∃ q45 : Nat, ∃ q849 : Nat, ∃ q56 : Nat, ∃ q860 : Nat, ∃ q1760 : Nat, ∃ q2660 : Nat, ∃ q3560 : Nat, ∃ q4160 : Nat, ∃ q74560 : Nat, ∃ q5560 : Nat, ∃ q6460 : Nat, ∃ q67 : Nat, ∃ q871 : Nat, ∃ q1771 : Nat, ∃ q2371 : Nat, ∃ q72771 : Nat, ∃ q7 : Nat, ∃ kf : Nat → Option Nat, (∀ b, b ∈ L → b ∈ L1) ∧ (∀ b, b ∈ L → b ≠ h → f1 b = f b) ∧ (q16 ∉ L ∧ q16 ∈ L1 ∧ f1 q16 = .inl (g 5, 30, .inr (.inr (.inr (.inr (fun _ => none)))))) ∧ (q23 ∉ L ∧ q23 ∈ L1 ∧ f1 q23 = .inr (0, [.ref q827, .int 0])) ∧ (q827 ∉ L ∧ q827 ∈ L1 ∧ f1 q827 = .inl (g 1, 1000, .inr (.inl (fun _ => 0)))) ∧ (q34 ∉ L ∧ q34 ∈ L1 ∧ f1 q34 = .inr (0, [.ref q838, .int 0])) ∧ (q838 ∉ L ∧ q838 ∈ L1 ∧ f1 q838 = .inl (g 1, 1000, .inr (.inl (fun _ => 0)))) ∧ (q45 ∉ L ∧ q45 ∈ L1 ∧ f1 q45 = .inr (0, [.ref q849, .int 0])) ∧ (q849 ∉ L ∧ q849 ∈ L1 ∧ f1 q849 = .inl (g 1, 1000, .inr (.inl (fun _ => 0)))) ∧ (q56 ∉ L ∧ q56 ∈ L1 ∧ f1 q56 = .inr (5, [.ref q860, .ref q1760, .ref q2660, .ref q3560, .ref q4160, .ref q5560, .ref q6460, .int 0, .int 0])) ∧ (q860 ∉ L ∧ q860 ∈ L1 ∧ f1 q860 = .inl (g 0, 3000, .inl (fun _ => 0))) ∧ (q1760 ∉ L ∧ q1760 ∈ L1 ∧ f1 q1760 = .inl (g 0, 1000, .inl (fun _ => 0))) ∧ (q2660 ∉ L ∧ q2660 ∈ L1 ∧ f1 q2660 = .inl (g 0, 3774, .inl (fun _ => 0))) ∧ (q3560 ∉ L ∧ q3560 ∈ L1 ∧ f1 q3560 = .inl (g 0, 3774, .inl (fun _ => 0))) ∧ (q4160 ∉ L ∧ q4160 ∈ L1 ∧ f1 q4160 = .inr (1, [.ref q74560, .int 0])) ∧ (q74560 ∉ L ∧ q74560 ∈ L1 ∧ f1 q74560 = .inl (g 1, 64, .inr (.inl (fun _ => 0)))) ∧ (q5560 ∉ L ∧ q5560 ∈ L1 ∧ f1 q5560 = .inl (g 0, 1000, .inl (fun _ => 0))) ∧ (q6460 ∉ L ∧ q6460 ∈ L1 ∧ f1 q6460 = .inl (g 0, 1000, .inl (fun _ => 0))) ∧ (q67 ∉ L ∧ q67 ∈ L1 ∧ f1 q67 = .inr (2, [.ref q871, .ref q1771, .ref q2371, .int 0, .int 0])) ∧ (q871 ∉ L ∧ q871 ∈ L1 ∧ f1 q871 = .inl (g 1, 1000, .inr (.inl (fun _ => 0)))) ∧ (q1771 ∉ L ∧ q1771 ∈ L1 ∧ f1 q1771 = .inl (g 1, 1000, .inr (.inl (fun _ => 0)))) ∧ (q2371 ∉ L ∧ q2371 ∈ L1 ∧ f1 q2371 = .inr (1, [.ref q72771, .int 0])) ∧ (q72771 ∉ L ∧ q72771 ∈ L1 ∧ f1 q72771 = .inl (g 1, 64, .inr (.inl (fun _ => 0)))) ∧ (q7 ∉ L ∧ q7 ∈ L1 ∧ f1 q7 = .inl (g 3, 8, .inr (.inr (.inr (.inr kf))))) ∧ f1 h = .inr (6, [.ref q7, .ref q16, .ref q23, .ref q34, .ref q45, .ref q56, .ref q67, .int 0]) ∧ (q34 ≠ q23 ∧ q45 ≠ q23 ∧ q45 ≠ q34 ∧ q838 ≠ q827 ∧ q849 ≠ q827 ∧ q849 ≠ q838 ∧ q871 ≠ q827 ∧ q871 ≠ q838 ∧ q871 ≠ q849 ∧ q1771 ≠ q827 ∧ q1771 ≠ q838 ∧ q1771 ≠ q849 ∧ q2371 ≠ q4160 ∧ q72771 ≠ q74560) ∧ (q3560 ≠ q2660 ∧ q5560 ≠ q1760 ∧ q6460 ≠ q1760 ∧ q6460 ≠ q5560) ∧ q1771 ≠ q871 ∧ (∃ (LP : List Nat) (lb lw : Nat → Nat), (∀ q, q ∈ [h, q16, q23, q827, q34, q838, q45, q849, q56, q860, q1760, q2660, q3560, q4160, q74560, q5560, q6460, q67, q871, q1771, q2371, q72771, q7] → q ∈ LP) ∧ (∀ j, j < 8 → kf j = some (lb j) ∧ lb j ∈ L1 ∧ f1 (lb j) = .inr (0, [.ref (lw j), .int 0]) ∧ lw j ∈ L1 ∧ f1 (lw j) = .inl (g 1, 1000, .inr (.inl (fun _ => 0))) ∧ lb j ∉ LP ∧ lw j ∉ LP) ∧ ∀ j k, j < 8 → k < 8 → j ≠ k → lb j ≠ lb k ∧ lw j ≠ lw k)) hx hb hr hlk S dX8_init_104 (by decide) (by decide) (⟨q16, q23, q827, q34, q838, q45, q849, q56, q860, q1760, q2660, q3560, q4160, q74560, q5560, q6460, q67, q871, q1771, q2371, q72771, q7, kf, mono, fr, ⟨nzq16, m_q16, e_q16⟩, ⟨nzq23, m_q23, e_q23⟩, ⟨nzq827, m_q827, e_q827⟩, ⟨nzq34, m_q34, e_q34⟩, ⟨nzq838, m_q838, e_q838⟩, ⟨nzq45, m_q45, e_q45⟩, ⟨nzq849, m_q849, e_q849⟩, ⟨nzq56, m_q56, e_q56⟩, ⟨nzq860, m_q860, e_q860⟩, ⟨nzq1760, m_q1760, e_q1760⟩, ⟨nzq2660, m_q2660, e_q2660⟩, ⟨nzq3560, m_q3560, e_q3560⟩, ⟨nzq4160, m_q4160, e_q4160⟩, ⟨nzq74560, m_q74560, e_q74560⟩, ⟨nzq5560, m_q5560, e_q5560⟩, ⟨nzq6460, m_q6460, e_q6460⟩, ⟨nzq67, m_q67, e_q67⟩, ⟨nzq871, m_q871, e_q871⟩, ⟨nzq1771, m_q1771, e_q1771⟩, ⟨nzq2371, m_q2371, e_q2371⟩, ⟨nzq72771, m_q72771, e_q72771⟩, ⟨nzq7, m_q7, e_q7⟩, e_h, ⟨⟨Ne.symm nq34_q23, Ne.symm nq45_q23, Ne.symm nq45_q34, Ne.symm nq838_q827, Ne.symm nq849_q827, Ne.symm nq849_q838, Ne.symm nq871_q827, Ne.symm nq871_q838, Ne.symm nq871_q849, Ne.symm nq1771_q827, Ne.symm nq1771_q838, Ne.symm nq1771_q849, Ne.symm nq2371_q4160, Ne.symm nq72771_q74560⟩, hxx60, hxx71, by subst hN; obtain ⟨lb, lw, a1, a2⟩ := hV; exact ⟨_, lb, lw, hOwn, a1, a2⟩⟩⟩)
  | succ d ih =>
    have hlt : i < 8 := by omega
    have fr2 : ∀ b, b ∈ Ll → b ≠ q7 → fl b = fl b := fun _ _ _ => rfl
    have mono2 : ∀ b, b ∈ Ll → b ∈ Ll := fun _ h => h
    refine lv_iload_n hx hb dX8_init_79 rfl (lv_at hl 0 rfl) ?_
    refine lv_bipush (v := 8) hx hb dX8_init_80 (by decide) ?_
    refine lv_icmp_ge (tgt := 104) hx hb dX8_init_82 (by decide) (fun b82 => absurd b82 (nI_ge (b := 8) hlt (by decide))) (fun b82 => ?_)
    refine lv_aload_n hx hb dX8_init_85 rfl (lv_at hl 1 rfl) ?_
    refine q_get hx hb hts in_X8 hown S m_h e_h (C := RX8) (T := TX8) (N := 8) rfl 0 (by decide) rfl (hts (.fieldLink RX8 11 "SieveCabinet" "worlds" "[LSieveCabinet$Bag;") (gu_wsX8_init_1 _ gm_4)) dX8_init_86 ?_
    refine lv_iload_n hx hb dX8_init_89 rfl (lv_at hl 0 rfl) ?_
    refine q_new (fs := [.null, .int 0]) (C := RX0) (T := TX0) (N := 2) (ci := 0) hx hb hts in_X0 tyX0 tyX0_ok hown (hts (.classLink RX8 9 RX0) (gu_wsX8_init_1 _ gm_3)) (hts (.instantiable RX0 2) (gu_wsX8_init_1 _ gm_7)) (hts (.initialized RX0) (gu_wsX8_init_1 _ gm_8)) S rfl (fun j hj => by rcases (show j = 0 ∨ j = 1 by omega) with rfl | rfl <;> rfl) (by dsimp only; omega) (by dsimp only; omega) dX8_init_90 (fun q90 H nq90 S => ?_)
    refine W.widen (k := 22 + 2 * i + 1) (n := 18738 + 1002 * i + 2) (by omega) (by omega) ?_
    obtain ⟨f37, ef37⟩ : ∃ z_, z_ = va_up fl q90 (.inr (0, [.null, .int 0])) := ⟨_, rfl⟩
    obtain ⟨L38, eL38⟩ : ∃ z_, z_ = Ll ++ [q90] := ⟨_, rfl⟩
    have S : PS D g (va_A (va_pl L f) sz) s.heap s L38 f37 H locs := by rw [ef37, eL38]; exact S
    have e_h : f37 h = .inr (6, [.ref q7, .ref q16, .ref q23, .ref q34, .ref q45, .ref q56, .ref q67, .int 0]) := up_ne ef37 (fun h => nq90 (h ▸ m_h)) e_h
    have nq90_h : h ≠ q90 := fun h => nq90 (h ▸ m_h)
    have m_h : h ∈ L38 := by rw [eL38]; exact List.mem_append_left _ m_h
    have e_q7 : f37 q7 = .inl (g 3, 8, .inr (.inr (.inr (.inr kf)))) := up_ne ef37 (fun h => nq90 (h ▸ m_q7)) e_q7
    have nq90_q7 : q7 ≠ q90 := fun h => nq90 (h ▸ m_q7)
    have m_q7 : q7 ∈ L38 := by rw [eL38]; exact List.mem_append_left _ m_q7
    have e_q16 : f37 q16 = .inl (g 5, 30, .inr (.inr (.inr (.inr (fun _ => none))))) := up_ne ef37 (fun h => nq90 (h ▸ m_q16)) e_q16
    have nq90_q16 : q16 ≠ q90 := fun h => nq90 (h ▸ m_q16)
    have m_q16 : q16 ∈ L38 := by rw [eL38]; exact List.mem_append_left _ m_q16
    have e_q23 : f37 q23 = .inr (0, [.ref q827, .int 0]) := up_ne ef37 (fun h => nq90 (h ▸ m_q23)) e_q23
    have nq90_q23 : q23 ≠ q90 := fun h => nq90 (h ▸ m_q23)
    have m_q23 : q23 ∈ L38 := by rw [eL38]; exact List.mem_append_left _ m_q23
    have e_q827 : f37 q827 = .inl (g 1, 1000, .inr (.inl (fun _ => 0))) := up_ne ef37 (fun h => nq90 (h ▸ m_q827)) e_q827
    have nq90_q827 : q827 ≠ q90 := fun h => nq90 (h ▸ m_q827)
    have m_q827 : q827 ∈ L38 := by rw [eL38]; exact List.mem_append_left _ m_q827
    have e_q34 : f37 q34 = .inr (0, [.ref q838, .int 0]) := up_ne ef37 (fun h => nq90 (h ▸ m_q34)) e_q34
    have nq90_q34 : q34 ≠ q90 := fun h => nq90 (h ▸ m_q34)
    have m_q34 : q34 ∈ L38 := by rw [eL38]; exact List.mem_append_left _ m_q34
    have e_q838 : f37 q838 = .inl (g 1, 1000, .inr (.inl (fun _ => 0))) := up_ne ef37 (fun h => nq90 (h ▸ m_q838)) e_q838
    have nq90_q838 : q838 ≠ q90 := fun h => nq90 (h ▸ m_q838)
    have m_q838 : q838 ∈ L38 := by rw [eL38]; exact List.mem_append_left _ m_q838
    have e_q45 : f37 q45 = .inr (0, [.ref q849, .int 0]) := up_ne ef37 (fun h => nq90 (h ▸ m_q45)) e_q45
    have nq90_q45 : q45 ≠ q90 := fun h => nq90 (h ▸ m_q45)
    have m_q45 : q45 ∈ L38 := by rw [eL38]; exact List.mem_append_left _ m_q45
    have e_q849 : f37 q849 = .inl (g 1, 1000, .inr (.inl (fun _ => 0))) := up_ne ef37 (fun h => nq90 (h ▸ m_q849)) e_q849
    have nq90_q849 : q849 ≠ q90 := fun h => nq90 (h ▸ m_q849)
    have m_q849 : q849 ∈ L38 := by rw [eL38]; exact List.mem_append_left _ m_q849
    have e_q56 : f37 q56 = .inr (5, [.ref q860, .ref q1760, .ref q2660, .ref q3560, .ref q4160, .ref q5560, .ref q6460, .int 0, .int 0]) := up_ne ef37 (fun h => nq90 (h ▸ m_q56)) e_q56
    have nq90_q56 : q56 ≠ q90 := fun h => nq90 (h ▸ m_q56)
    have m_q56 : q56 ∈ L38 := by rw [eL38]; exact List.mem_append_left _ m_q56
    have e_q860 : f37 q860 = .inl (g 0, 3000, .inl (fun _ => 0)) := up_ne ef37 (fun h => nq90 (h ▸ m_q860)) e_q860
    have nq90_q860 : q860 ≠ q90 := fun h => nq90 (h ▸ m_q860)
    have m_q860 : q860 ∈ L38 := by rw [eL38]; exact List.mem_append_left _ m_q860
    have e_q1760 : f37 q1760 = .inl (g 0, 1000, .inl (fun _ => 0)) := up_ne ef37 (fun h => nq90 (h ▸ m_q1760)) e_q1760
    have nq90_q1760 : q1760 ≠ q90 := fun h => nq90 (h ▸ m_q1760)
    have m_q1760 : q1760 ∈ L38 := by rw [eL38]; exact List.mem_append_left _ m_q1760
    have e_q2660 : f37 q2660 = .inl (g 0, 3774, .inl (fun _ => 0)) := up_ne ef37 (fun h => nq90 (h ▸ m_q2660)) e_q2660
    have nq90_q2660 : q2660 ≠ q90 := fun h => nq90 (h ▸ m_q2660)
    have m_q2660 : q2660 ∈ L38 := by rw [eL38]; exact List.mem_append_left _ m_q2660
    have e_q3560 : f37 q3560 = .inl (g 0, 3774, .inl (fun _ => 0)) := up_ne ef37 (fun h => nq90 (h ▸ m_q3560)) e_q3560
    have nq90_q3560 : q3560 ≠ q90 := fun h => nq90 (h ▸ m_q3560)
    have m_q3560 : q3560 ∈ L38 := by rw [eL38]; exact List.mem_append_left _ m_q3560
    have e_q4160 : f37 q4160 = .inr (1, [.ref q74560, .int 0]) := up_ne ef37 (fun h => nq90 (h ▸ m_q4160)) e_q4160
    have nq90_q4160 : q4160 ≠ q90 := fun h => nq90 (h ▸ m_q4160)
    have m_q4160 : q4160 ∈ L38 := by rw [eL38]; exact List.mem_append_left _ m_q4160
    have e_q74560 : f37 q74560 = .inl (g 1, 64, .inr (.inl (fun _ => 0))) := up_ne ef37 (fun h => nq90 (h ▸ m_q74560)) e_q74560
    have nq90_q74560 : q74560 ≠ q90 := fun h => nq90 (h ▸ m_q74560)
    have m_q74560 : q74560 ∈ L38 := by rw [eL38]; exact List.mem_append_left _ m_q74560
    have e_q5560 : f37 q5560 = .inl (g 0, 1000, .inl (fun _ => 0)) := up_ne ef37 (fun h => nq90 (h ▸ m_q5560)) e_q5560
    have nq90_q5560 : q5560 ≠ q90 := fun h => nq90 (h ▸ m_q5560)
    have m_q5560 : q5560 ∈ L38 := by rw [eL38]; exact List.mem_append_left _ m_q5560
    have e_q6460 : f37 q6460 = .inl (g 0, 1000, .inl (fun _ => 0)) := up_ne ef37 (fun h => nq90 (h ▸ m_q6460)) e_q6460
    have nq90_q6460 : q6460 ≠ q90 := fun h => nq90 (h ▸ m_q6460)
    have m_q6460 : q6460 ∈ L38 := by rw [eL38]; exact List.mem_append_left _ m_q6460
    have e_q67 : f37 q67 = .inr (2, [.ref q871, .ref q1771, .ref q2371, .int 0, .int 0]) := up_ne ef37 (fun h => nq90 (h ▸ m_q67)) e_q67
    have nq90_q67 : q67 ≠ q90 := fun h => nq90 (h ▸ m_q67)
    have m_q67 : q67 ∈ L38 := by rw [eL38]; exact List.mem_append_left _ m_q67
    have e_q871 : f37 q871 = .inl (g 1, 1000, .inr (.inl (fun _ => 0))) := up_ne ef37 (fun h => nq90 (h ▸ m_q871)) e_q871
    have nq90_q871 : q871 ≠ q90 := fun h => nq90 (h ▸ m_q871)
    have m_q871 : q871 ∈ L38 := by rw [eL38]; exact List.mem_append_left _ m_q871
    have e_q1771 : f37 q1771 = .inl (g 1, 1000, .inr (.inl (fun _ => 0))) := up_ne ef37 (fun h => nq90 (h ▸ m_q1771)) e_q1771
    have nq90_q1771 : q1771 ≠ q90 := fun h => nq90 (h ▸ m_q1771)
    have m_q1771 : q1771 ∈ L38 := by rw [eL38]; exact List.mem_append_left _ m_q1771
    have e_q2371 : f37 q2371 = .inr (1, [.ref q72771, .int 0]) := up_ne ef37 (fun h => nq90 (h ▸ m_q2371)) e_q2371
    have nq90_q2371 : q2371 ≠ q90 := fun h => nq90 (h ▸ m_q2371)
    have m_q2371 : q2371 ∈ L38 := by rw [eL38]; exact List.mem_append_left _ m_q2371
    have e_q72771 : f37 q72771 = .inl (g 1, 64, .inr (.inl (fun _ => 0))) := up_ne ef37 (fun h => nq90 (h ▸ m_q72771)) e_q72771
    have nq90_q72771 : q72771 ≠ q90 := fun h => nq90 (h ▸ m_q72771)
    have m_q72771 : q72771 ∈ L38 := by rw [eL38]; exact List.mem_append_left _ m_q72771
    have e_q90 : f37 q90 = .inr (0, [.null, .int 0]) := up_self ef37
    have m_q90 : q90 ∈ L38 := by rw [eL38]; simp
    have nzq90 : q90 ∉ L := fun h => nq90 (mono _ h)
    have fr : ∀ b, b ∈ L → b ≠ h → f37 b = f b := fun b mb nb0 => (up_ne ef37 (fun h => nzq90 (h ▸ mb)) rfl).trans (fr b mb nb0)
    have mono : ∀ b, b ∈ L → b ∈ L38 := fun b h => by rw [eL38]; exact List.mem_append_left _ (mono b h)
    have nz2q90 : q90 ∉ Ll := fun h => nq90 (mono2 _ h)
    have fr2 : ∀ b, b ∈ Ll → b ≠ q7 → f37 b = fl b := fun b mb nb0 => (up_ne ef37 (fun h => nz2q90 (h ▸ mb)) rfl).trans (fr2 b mb nb0)
    have mono2 : ∀ b, b ∈ Ll → b ∈ L38 := fun b h => by rw [eL38]; exact List.mem_append_left _ (mono2 b h)
    refine lv_dup hx hb dX8_init_93 rfl ?_
    refine q_nv (As := []) (rest := [.ref q90, .int ((nI i)), .ref q7]) (host := "SieveCabinet") ⟨hx, hb, hml, hown, hts⟩ (c_X0_init l D g m_q90 e_q90) ⟨va_cnB 0 hts gX8_init_X0_init_n21 rfl rfl rfl (S.1.2.1 _ (List.mem_of_getElem? (i := 0) rfl)) (hts (.initialized RX0) (gu_wsX8_init_1 _ gm_8)) (by decide +kernel) ⟨Nat.le_of_ble_eq_true rfl, Nat.le_of_ble_eq_true rfl⟩, rfl, hts (.instanceMethod yX0_init) (by decide +kernel)⟩ S rfl hl.1 rfl (Nat.le_of_ble_eq_true rfl) dX8_init_94 ⟨(by dsimp only; omega), (by dsimp only; omega)⟩ (fun L39 f40 H locs S w94 => ?_)
    refine W.widen (k := 22 + 2 * i + 2) (n := 18738 + 1002 * i + 1002) (by omega) (by omega) ?_
    obtain ⟨q894, mo94, fv94, ⟨nq894, m_q894, e_q894⟩, E_q90⟩ := w94
    have e_h : f40 h = .inr (6, [.ref q7, .ref q16, .ref q23, .ref q34, .ref q45, .ref q56, .ref q67, .int 0]) := (fv94 h m_h (fun h => nq90_h h)).trans e_h
    have e_q7 : f40 q7 = .inl (g 3, 8, .inr (.inr (.inr (.inr kf)))) := (fv94 q7 m_q7 (fun h => nq90_q7 h)).trans e_q7
    have e_q16 : f40 q16 = .inl (g 5, 30, .inr (.inr (.inr (.inr (fun _ => none))))) := (fv94 q16 m_q16 (fun h => nq90_q16 h)).trans e_q16
    have e_q23 : f40 q23 = .inr (0, [.ref q827, .int 0]) := (fv94 q23 m_q23 (fun h => nq90_q23 h)).trans e_q23
    have e_q827 : f40 q827 = .inl (g 1, 1000, .inr (.inl (fun _ => 0))) := (fv94 q827 m_q827 (fun h => nq90_q827 h)).trans e_q827
    have e_q34 : f40 q34 = .inr (0, [.ref q838, .int 0]) := (fv94 q34 m_q34 (fun h => nq90_q34 h)).trans e_q34
    have e_q838 : f40 q838 = .inl (g 1, 1000, .inr (.inl (fun _ => 0))) := (fv94 q838 m_q838 (fun h => nq90_q838 h)).trans e_q838
    have e_q45 : f40 q45 = .inr (0, [.ref q849, .int 0]) := (fv94 q45 m_q45 (fun h => nq90_q45 h)).trans e_q45
    have e_q849 : f40 q849 = .inl (g 1, 1000, .inr (.inl (fun _ => 0))) := (fv94 q849 m_q849 (fun h => nq90_q849 h)).trans e_q849
    have e_q56 : f40 q56 = .inr (5, [.ref q860, .ref q1760, .ref q2660, .ref q3560, .ref q4160, .ref q5560, .ref q6460, .int 0, .int 0]) := (fv94 q56 m_q56 (fun h => nq90_q56 h)).trans e_q56
    have e_q860 : f40 q860 = .inl (g 0, 3000, .inl (fun _ => 0)) := (fv94 q860 m_q860 (fun h => nq90_q860 h)).trans e_q860
    have e_q1760 : f40 q1760 = .inl (g 0, 1000, .inl (fun _ => 0)) := (fv94 q1760 m_q1760 (fun h => nq90_q1760 h)).trans e_q1760
    have e_q2660 : f40 q2660 = .inl (g 0, 3774, .inl (fun _ => 0)) := (fv94 q2660 m_q2660 (fun h => nq90_q2660 h)).trans e_q2660
    have e_q3560 : f40 q3560 = .inl (g 0, 3774, .inl (fun _ => 0)) := (fv94 q3560 m_q3560 (fun h => nq90_q3560 h)).trans e_q3560
    have e_q4160 : f40 q4160 = .inr (1, [.ref q74560, .int 0]) := (fv94 q4160 m_q4160 (fun h => nq90_q4160 h)).trans e_q4160
    have e_q74560 : f40 q74560 = .inl (g 1, 64, .inr (.inl (fun _ => 0))) := (fv94 q74560 m_q74560 (fun h => nq90_q74560 h)).trans e_q74560
    have e_q5560 : f40 q5560 = .inl (g 0, 1000, .inl (fun _ => 0)) := (fv94 q5560 m_q5560 (fun h => nq90_q5560 h)).trans e_q5560
    have e_q6460 : f40 q6460 = .inl (g 0, 1000, .inl (fun _ => 0)) := (fv94 q6460 m_q6460 (fun h => nq90_q6460 h)).trans e_q6460
    have e_q67 : f40 q67 = .inr (2, [.ref q871, .ref q1771, .ref q2371, .int 0, .int 0]) := (fv94 q67 m_q67 (fun h => nq90_q67 h)).trans e_q67
    have e_q871 : f40 q871 = .inl (g 1, 1000, .inr (.inl (fun _ => 0))) := (fv94 q871 m_q871 (fun h => nq90_q871 h)).trans e_q871
    have e_q1771 : f40 q1771 = .inl (g 1, 1000, .inr (.inl (fun _ => 0))) := (fv94 q1771 m_q1771 (fun h => nq90_q1771 h)).trans e_q1771
    have e_q2371 : f40 q2371 = .inr (1, [.ref q72771, .int 0]) := (fv94 q2371 m_q2371 (fun h => nq90_q2371 h)).trans e_q2371
    have e_q72771 : f40 q72771 = .inl (g 1, 64, .inr (.inl (fun _ => 0))) := (fv94 q72771 m_q72771 (fun h => nq90_q72771 h)).trans e_q72771
    have nq894_h : h ≠ q894 := fun h => nq894 (h ▸ m_h)
    have nq894_q7 : q7 ≠ q894 := fun h => nq894 (h ▸ m_q7)
    have nq894_q16 : q16 ≠ q894 := fun h => nq894 (h ▸ m_q16)
    have nq894_q23 : q23 ≠ q894 := fun h => nq894 (h ▸ m_q23)
    have nq894_q827 : q827 ≠ q894 := fun h => nq894 (h ▸ m_q827)
    have nq894_q34 : q34 ≠ q894 := fun h => nq894 (h ▸ m_q34)
    have nq894_q838 : q838 ≠ q894 := fun h => nq894 (h ▸ m_q838)
    have nq894_q45 : q45 ≠ q894 := fun h => nq894 (h ▸ m_q45)
    have nq894_q849 : q849 ≠ q894 := fun h => nq894 (h ▸ m_q849)
    have nq894_q56 : q56 ≠ q894 := fun h => nq894 (h ▸ m_q56)
    have nq894_q860 : q860 ≠ q894 := fun h => nq894 (h ▸ m_q860)
    have nq894_q1760 : q1760 ≠ q894 := fun h => nq894 (h ▸ m_q1760)
    have nq894_q2660 : q2660 ≠ q894 := fun h => nq894 (h ▸ m_q2660)
    have nq894_q3560 : q3560 ≠ q894 := fun h => nq894 (h ▸ m_q3560)
    have nq894_q4160 : q4160 ≠ q894 := fun h => nq894 (h ▸ m_q4160)
    have nq894_q74560 : q74560 ≠ q894 := fun h => nq894 (h ▸ m_q74560)
    have nq894_q5560 : q5560 ≠ q894 := fun h => nq894 (h ▸ m_q5560)
    have nq894_q6460 : q6460 ≠ q894 := fun h => nq894 (h ▸ m_q6460)
    have nq894_q67 : q67 ≠ q894 := fun h => nq894 (h ▸ m_q67)
    have nq894_q871 : q871 ≠ q894 := fun h => nq894 (h ▸ m_q871)
    have nq894_q1771 : q1771 ≠ q894 := fun h => nq894 (h ▸ m_q1771)
    have nq894_q2371 : q2371 ≠ q894 := fun h => nq894 (h ▸ m_q2371)
    have nq894_q72771 : q72771 ≠ q894 := fun h => nq894 (h ▸ m_q72771)
    have nq894_q90 : q90 ≠ q894 := fun h => nq894 (h ▸ m_q90)
    have m_h : h ∈ L39 := mo94 h m_h
    have m_q7 : q7 ∈ L39 := mo94 q7 m_q7
    have m_q16 : q16 ∈ L39 := mo94 q16 m_q16
    have m_q23 : q23 ∈ L39 := mo94 q23 m_q23
    have m_q827 : q827 ∈ L39 := mo94 q827 m_q827
    have m_q34 : q34 ∈ L39 := mo94 q34 m_q34
    have m_q838 : q838 ∈ L39 := mo94 q838 m_q838
    have m_q45 : q45 ∈ L39 := mo94 q45 m_q45
    have m_q849 : q849 ∈ L39 := mo94 q849 m_q849
    have m_q56 : q56 ∈ L39 := mo94 q56 m_q56
    have m_q860 : q860 ∈ L39 := mo94 q860 m_q860
    have m_q1760 : q1760 ∈ L39 := mo94 q1760 m_q1760
    have m_q2660 : q2660 ∈ L39 := mo94 q2660 m_q2660
    have m_q3560 : q3560 ∈ L39 := mo94 q3560 m_q3560
    have m_q4160 : q4160 ∈ L39 := mo94 q4160 m_q4160
    have m_q74560 : q74560 ∈ L39 := mo94 q74560 m_q74560
    have m_q5560 : q5560 ∈ L39 := mo94 q5560 m_q5560
    have m_q6460 : q6460 ∈ L39 := mo94 q6460 m_q6460
    have m_q67 : q67 ∈ L39 := mo94 q67 m_q67
    have m_q871 : q871 ∈ L39 := mo94 q871 m_q871
    have m_q1771 : q1771 ∈ L39 := mo94 q1771 m_q1771
    have m_q2371 : q2371 ∈ L39 := mo94 q2371 m_q2371
    have m_q72771 : q72771 ∈ L39 := mo94 q72771 m_q72771
    have m_q90 : q90 ∈ L39 := mo94 q90 m_q90
    have e_q90 := E_q90
    have nzq894 : q894 ∉ L := fun h => nq894 (mono _ h)
    have fr : ∀ b, b ∈ L → b ≠ h → f40 b = f b := fun b mb nb0 => (fv94 b (mono b mb) (fun h => nzq90 (h ▸ mb))).trans (fr b mb nb0)
    have mono : ∀ b, b ∈ L → b ∈ L39 := fun b h => mo94 b (mono b h)
    have nz2q894 : q894 ∉ Ll := fun h => nq894 (mono2 _ h)
    have fr2 : ∀ b, b ∈ Ll → b ≠ q7 → f40 b = fl b := fun b mb nb0 => (fv94 b (mono2 b mb) (fun h => nz2q90 (h ▸ mb))).trans (fr2 b mb nb0)
    have mono2 : ∀ b, b ∈ Ll → b ∈ L39 := fun b h => mo94 b (mono2 b h)
    refine q_ast hx hb S m_q7 3 (r := (RX0, TX0, 2)) rfl e_q7 m_q90 e_q90 rfl (vp_in_nI hlt (by decide)) dX8_init_97 (fun H locs S => ?_)
    obtain ⟨f42, ef42⟩ : ∃ z_, z_ = va_up f40 q7 (.inl (g 3, 8, .inr (.inr (.inr (.inr (va_up kf ((nI i) : Int32).toNatClampNeg (some q90))))))) := ⟨_, rfl⟩
    have S : PS D g (va_A (va_pl L f) sz) s.heap s L39 f42 H locs := by rw [ef42]; exact S
    have e_h : f42 h = .inr (6, [.ref q7, .ref q16, .ref q23, .ref q34, .ref q45, .ref q56, .ref q67, .int 0]) := up_ne ef42 (fun h => nq7_h h) e_h
    have e_q16 : f42 q16 = .inl (g 5, 30, .inr (.inr (.inr (.inr (fun _ => none))))) := up_ne ef42 (fun h => nq16_q7 h.symm) e_q16
    have e_q23 : f42 q23 = .inr (0, [.ref q827, .int 0]) := up_ne ef42 (fun h => nq23_q7 h.symm) e_q23
    have e_q827 : f42 q827 = .inl (g 1, 1000, .inr (.inl (fun _ => 0))) := up_ne ef42 (fun h => nq827_q7 h.symm) e_q827
    have e_q34 : f42 q34 = .inr (0, [.ref q838, .int 0]) := up_ne ef42 (fun h => nq34_q7 h.symm) e_q34
    have e_q838 : f42 q838 = .inl (g 1, 1000, .inr (.inl (fun _ => 0))) := up_ne ef42 (fun h => nq838_q7 h.symm) e_q838
    have e_q45 : f42 q45 = .inr (0, [.ref q849, .int 0]) := up_ne ef42 (fun h => nq45_q7 h.symm) e_q45
    have e_q849 : f42 q849 = .inl (g 1, 1000, .inr (.inl (fun _ => 0))) := up_ne ef42 (fun h => nq849_q7 h.symm) e_q849
    have e_q56 : f42 q56 = .inr (5, [.ref q860, .ref q1760, .ref q2660, .ref q3560, .ref q4160, .ref q5560, .ref q6460, .int 0, .int 0]) := up_ne ef42 (fun h => nq56_q7 h.symm) e_q56
    have e_q860 : f42 q860 = .inl (g 0, 3000, .inl (fun _ => 0)) := up_ne ef42 (fun h => nq860_q7 h.symm) e_q860
    have e_q1760 : f42 q1760 = .inl (g 0, 1000, .inl (fun _ => 0)) := up_ne ef42 (fun h => nq1760_q7 h.symm) e_q1760
    have e_q2660 : f42 q2660 = .inl (g 0, 3774, .inl (fun _ => 0)) := up_ne ef42 (fun h => nq2660_q7 h.symm) e_q2660
    have e_q3560 : f42 q3560 = .inl (g 0, 3774, .inl (fun _ => 0)) := up_ne ef42 (fun h => nq3560_q7 h.symm) e_q3560
    have e_q4160 : f42 q4160 = .inr (1, [.ref q74560, .int 0]) := up_ne ef42 (fun h => nq4160_q7 h.symm) e_q4160
    have e_q74560 : f42 q74560 = .inl (g 1, 64, .inr (.inl (fun _ => 0))) := up_ne ef42 (fun h => nq74560_q7 h.symm) e_q74560
    have e_q5560 : f42 q5560 = .inl (g 0, 1000, .inl (fun _ => 0)) := up_ne ef42 (fun h => nq5560_q7 h.symm) e_q5560
    have e_q6460 : f42 q6460 = .inl (g 0, 1000, .inl (fun _ => 0)) := up_ne ef42 (fun h => nq6460_q7 h.symm) e_q6460
    have e_q67 : f42 q67 = .inr (2, [.ref q871, .ref q1771, .ref q2371, .int 0, .int 0]) := up_ne ef42 (fun h => nq67_q7 h.symm) e_q67
    have e_q871 : f42 q871 = .inl (g 1, 1000, .inr (.inl (fun _ => 0))) := up_ne ef42 (fun h => nq871_q7 h.symm) e_q871
    have e_q1771 : f42 q1771 = .inl (g 1, 1000, .inr (.inl (fun _ => 0))) := up_ne ef42 (fun h => nq1771_q7 h.symm) e_q1771
    have e_q2371 : f42 q2371 = .inr (1, [.ref q72771, .int 0]) := up_ne ef42 (fun h => nq2371_q7 h.symm) e_q2371
    have e_q72771 : f42 q72771 = .inl (g 1, 64, .inr (.inl (fun _ => 0))) := up_ne ef42 (fun h => nq72771_q7 h.symm) e_q72771
    have e_q90 : f42 q90 = .inr (0, [.ref q894, .int 0]) := up_ne ef42 (fun h => nq90_q7 h.symm) e_q90
    have e_q894 : f42 q894 = .inl (g 1, 1000, .inr (.inl (fun _ => 0))) := up_ne ef42 (fun h => nq894_q7 h.symm) e_q894
    have e_q7 : f42 q7 = .inl (g 3, 8, .inr (.inr (.inr (.inr (va_up kf ((nI i) : Int32).toNatClampNeg (some q90)))))) := up_self ef42
    have fr : ∀ b, b ∈ L → b ≠ h → f42 b = f b := fun b mb nb0 => (up_ne ef42 (fun h => nzq7 (h ▸ mb)) rfl).trans (fr b mb nb0)
    have fr2 : ∀ b, b ∈ Ll → b ≠ q7 → f42 b = fl b := fun b mb nb0 => (up_ne ef42 nb0 rfl).trans (fr2 b mb nb0)
    obtain ⟨i1, ei1⟩ : ∃ y : Int32, y = (nI i) + (1) := ⟨_, rfl⟩
    refine lv_iinc (v := i1) (lv' := [(1, .int i1), (0, .ref h)]) hx hb dX8_init_98 hl (k := 0) rfl (by rw [ei1]; rfl) (by decide) rfl (fun ls hl => ?_)
    refine lv_goto (tgt := 79) hx hb dX8_init_101 (by decide) ?_
    refine W.widen (k := 22 + 2 * (i + 1)) (n := 18738 + 1002 * (i + 1)) (by omega) (by omega) ?_
    exact ih (i := i + 1) (kf := (va_up kf ((nI i) : Int32).toNatClampNeg (some q90))) (fl := f42) (Ll := L39) (e_h := e_h) (m_h := m_h) (e_q7 := e_q7) (m_q7 := m_q7) (e_q16 := e_q16) (m_q16 := m_q16) (e_q23 := e_q23) (m_q23 := m_q23) (e_q827 := e_q827) (m_q827 := m_q827) (e_q34 := e_q34) (m_q34 := m_q34) (e_q838 := e_q838) (m_q838 := m_q838) (e_q45 := e_q45) (m_q45 := m_q45) (e_q849 := e_q849) (m_q849 := m_q849) (e_q56 := e_q56) (m_q56 := m_q56) (e_q860 := e_q860) (m_q860 := m_q860) (e_q1760 := e_q1760) (m_q1760 := m_q1760) (e_q2660 := e_q2660) (m_q2660 := m_q2660) (e_q3560 := e_q3560) (m_q3560 := m_q3560) (e_q4160 := e_q4160) (m_q4160 := m_q4160) (e_q74560 := e_q74560) (m_q74560 := m_q74560) (e_q5560 := e_q5560) (m_q5560 := m_q5560) (e_q6460 := e_q6460) (m_q6460 := m_q6460) (e_q67 := e_q67) (m_q67 := m_q67) (e_q871 := e_q871) (m_q871 := m_q871) (e_q1771 := e_q1771) (m_q1771 := m_q1771) (e_q2371 := e_q2371) (m_q2371 := m_q2371) (e_q72771 := e_q72771) (m_q72771 := m_q72771) (fr := fr) (mono := mono) (H := _) (locs := _) (S := S) (ls := ls) (hd := by omega) (hV := by exact famS hV (by omega) nz2q90 nz2q894 m_q90 e_q90 m_q894 e_q894 hLp mono2 fr2 hm0) (hLp := fun b h => mono2 b (hLp b h)) (hl := by have q := lv_sub hl [0, 1] rfl; rw [ei1, nI_1] at q; exact q)
