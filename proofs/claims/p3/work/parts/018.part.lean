set_option maxHeartbeats 4000000 in
set_option maxRecDepth 100000 in
/-- SieveCabinetModel.<init> -/
theorem c_X9_init (l : Launch) (D : va_G) (g : Nat → ClassId) {L : List Nat} {f : Nat → va_E} {h : Nat} (m_h : h ∈ L) (e_h : f h = .inr (7, [.null, .null, .null, .null, .null, .null, .null, .null, .null, .null, .null, .null, .null, .null, .int 0, .null, .null, .null, .null, .null, .null, .null, .null]))  : cV l yX9_init wsX9_init { frames := 1, cells := 22, slots := 283260, locals := 12 } D g [.ref h] L f 22 283260 (fun L1 f1 => ∃ q8 : Nat, ∃ q16 : Nat, ∃ q24 : Nat, ∃ q32 : Nat, ∃ q40 : Nat, ∃ q48 : Nat, ∃ q57 : Nat, ∃ q65 : Nat, ∃ q73 : Nat, ∃ q81 : Nat, ∃ q90 : Nat, ∃ q99 : Nat, ∃ q108 : Nat, ∃ q116 : Nat, ∃ q125 : Nat, ∃ q134 : Nat, ∃ q143 : Nat, ∃ q152 : Nat, ∃ q161 : Nat, ∃ q170 : Nat, ∃ q179 : Nat, ∃ q188 : Nat, (∀ b, b ∈ L → b ∈ L1) ∧ (∀ b, b ∈ L → b ≠ h → f1 b = f b) ∧ (q8 ∉ L ∧ q8 ∈ L1 ∧ f1 q8 = .inl (g 1, 8000, .inr (.inl (fun _ => 0)))) ∧ (q16 ∉ L ∧ q16 ∈ L1 ∧ f1 q16 = .inl (g 0, 8, .inl (fun _ => 0))) ∧ (q24 ∉ L ∧ q24 ∈ L1 ∧ f1 q24 = .inl (g 0, 30, .inl (fun _ => 0))) ∧ (q32 ∉ L ∧ q32 ∈ L1 ∧ f1 q32 = .inl (g 0, 30, .inl (fun _ => 0))) ∧ (q40 ∉ L ∧ q40 ∈ L1 ∧ f1 q40 = .inl (g 0, 30, .inl (fun _ => 0))) ∧ (q48 ∉ L ∧ q48 ∈ L1 ∧ f1 q48 = .inl (g 0, 30, .inl (fun _ => 0))) ∧ (q57 ∉ L ∧ q57 ∈ L1 ∧ f1 q57 = .inl (g 1, 30000, .inr (.inl (fun _ => 0)))) ∧ (q65 ∉ L ∧ q65 ∈ L1 ∧ f1 q65 = .inl (g 0, 30, .inl (fun _ => 0))) ∧ (q73 ∉ L ∧ q73 ∈ L1 ∧ f1 q73 = .inl (g 0, 122880, .inl (fun _ => 0))) ∧ (q81 ∉ L ∧ q81 ∈ L1 ∧ f1 q81 = .inl (g 0, 76800, .inl (fun _ => 0))) ∧ (q90 ∉ L ∧ q90 ∈ L1 ∧ f1 q90 = .inl (g 0, 600, .inl (fun _ => 0))) ∧ (q99 ∉ L ∧ q99 ∈ L1 ∧ f1 q99 = .inl (g 0, 600, .inl (fun _ => 0))) ∧ (q108 ∉ L ∧ q108 ∈ L1 ∧ f1 q108 = .inl (g 1, 30000, .inr (.inl (fun _ => 0)))) ∧ (q116 ∉ L ∧ q116 ∈ L1 ∧ f1 q116 = .inl (g 0, 30, .inl (fun _ => 0))) ∧ (q125 ∉ L ∧ q125 ∈ L1 ∧ f1 q125 = .inl (g 1, 1000, .inr (.inl (fun _ => 0)))) ∧ (q134 ∉ L ∧ q134 ∈ L1 ∧ f1 q134 = .inl (g 1, 1000, .inr (.inl (fun _ => 0)))) ∧ (q143 ∉ L ∧ q143 ∈ L1 ∧ f1 q143 = .inl (g 1, 1000, .inr (.inl (fun _ => 0)))) ∧ (q152 ∉ L ∧ q152 ∈ L1 ∧ f1 q152 = .inl (g 0, 1000, .inl (fun _ => 0))) ∧ (q161 ∉ L ∧ q161 ∈ L1 ∧ f1 q161 = .inl (g 0, 1000, .inl (fun _ => 0))) ∧ (q170 ∉ L ∧ q170 ∈ L1 ∧ f1 q170 = .inl (g 2, 1000, .inl (fun _ => 0))) ∧ (q179 ∉ L ∧ q179 ∈ L1 ∧ f1 q179 = .inl (g 0, 4096, .inl (fun _ => 0))) ∧ (q188 ∉ L ∧ q188 ∈ L1 ∧ f1 q188 = .inl (g 0, 4096, .inl (fun _ => 0))) ∧ f1 h = .inr (7, [.ref q8, .ref q16, .ref q24, .ref q32, .ref q40, .ref q48, .ref q57, .ref q65, .ref q73, .ref q81, .ref q90, .ref q99, .ref q108, .ref q116, .int 0, .ref q125, .ref q134, .ref q143, .ref q152, .ref q161, .ref q170, .ref q179, .ref q188]) ∧ [h, q8, q16, q24, q32, q40, q48, q57, q65, q73, q81, q90, q99, q108, q116, q125, q134, q143, q152, q161, q170, q179, q188].Nodup) := by
  refine cV_of (cc := cX9_init) (maxL := 1) (ret := none) (by decide) rfl (Nat.le_of_ble_eq_true rfl) ?_
  intro sz p e s m below meth c hx hb hr hml hts hown hlk hnm S ls hl
  have hl : lv_has ls 1 [(0, .ref h)] := hl
  have in_X9 : ∀ w ∈ wsX90, w ∈ wsX9_init := by decide +kernel
  have fr : ∀ b, b ∈ L → b ≠ h → f b = f b := fun _ _ _ => rfl
  have mono : ∀ b, b ∈ L → b ∈ L := fun _ h => h
  refine lv_aload_n hx hb dX9_init_0 rfl (lv_at hl 0 rfl) ?_
  refine W.objInit hx hb hown (hts (.methodLink RX9 1 objectInit) (by decide +kernel)) (hts (.instanceMethod objectInit) (by decide +kernel)) (hts (.code objectInit ⟨#[0xb1]⟩ 1 none) (by decide +kernel)) rfl (by rw [hml]; exact hl.1) rfl dX9_init_1 (Nat.le_of_ble_eq_true rfl) (Nat.le_of_ble_eq_true rfl) ?_
  refine W.eq (g2 := F0 m 4 ls []) rfl ?_
  refine lv_aload_n hx hb dX9_init_4 rfl (lv_at hl 0 rfl) ?_
  refine lv_sipush (v := 8000) hx hb dX9_init_5 (by decide) ?_
  refine q_newl hx hb (hts (.arrayClass .long) (by decide +kernel)) S (N' := 8000) (by decide) (by decide) (by decide) (Nat.le_of_ble_eq_true rfl) (Nat.le_of_ble_eq_true rfl) dX9_init_8 (fun q8 H nq8 S => ?_)
  refine W.widen (k := 1) (n := 8000) (by decide) (by decide) ?_
  obtain ⟨f1, ef1⟩ : ∃ z_, z_ = va_up f q8 (.inl (g 1, 8000, .inr (.inl (fun _ => 0)))) := ⟨_, rfl⟩
  obtain ⟨L2, eL2⟩ : ∃ z_, z_ = L ++ [q8] := ⟨_, rfl⟩
  have S : PS D g (va_A (va_pl L f) sz) s.heap s L2 f1 H [] := by rw [ef1, eL2]; exact S
  have e_h : f1 h = .inr (7, [.null, .null, .null, .null, .null, .null, .null, .null, .null, .null, .null, .null, .null, .null, .int 0, .null, .null, .null, .null, .null, .null, .null, .null]) := up_ne ef1 (fun h => nq8 (h ▸ m_h)) e_h
  have nq8_h : h ≠ q8 := fun h => nq8 (h ▸ m_h)
  have m_h : h ∈ L2 := by rw [eL2]; exact List.mem_append_left _ m_h
  have e_q8 : f1 q8 = .inl (g 1, 8000, .inr (.inl (fun _ => 0))) := up_self ef1
  have m_q8 : q8 ∈ L2 := by rw [eL2]; simp
  have nzq8 : q8 ∉ L := fun h => nq8 (mono _ h)
  have fr : ∀ b, b ∈ L → b ≠ h → f1 b = f b := fun b mb nb0 => (up_ne ef1 (fun h => nzq8 (h ▸ mb)) rfl).trans (fr b mb nb0)
  have mono : ∀ b, b ∈ L → b ∈ L2 := fun b h => by rw [eL2]; exact List.mem_append_left _ (mono b h)
  refine q_putF hx hb hts in_X9 tyX9 tyX9_ok nmX9 hown hnm S m_h e_h (C := RX9) (T := TX9) (N := 23) rfl 0 (by decide) (hts (.fieldLink RX9 9 "SieveCabinetModel" "worlds" "[J") (by decide +kernel)) rfl rfl rfl rfl (Nat.le_of_ble_eq_true rfl) dX9_init_10 (fun H locs S => ?_)
  obtain ⟨f3, ef3⟩ : ∃ z_, z_ = va_up f1 h (.inr (7, [.ref q8, .null, .null, .null, .null, .null, .null, .null, .null, .null, .null, .null, .null, .null, .int 0, .null, .null, .null, .null, .null, .null, .null, .null])) := ⟨_, rfl⟩
  have S : PS D g (va_A (va_pl L f) sz) s.heap s L2 f3 H locs := by rw [ef3]; exact S
  have e_q8 : f3 q8 = .inl (g 1, 8000, .inr (.inl (fun _ => 0))) := up_ne ef3 (fun h => nq8_h h.symm) e_q8
  have e_h : f3 h = .inr (7, [.ref q8, .null, .null, .null, .null, .null, .null, .null, .null, .null, .null, .null, .null, .null, .int 0, .null, .null, .null, .null, .null, .null, .null, .null]) := up_self ef3
  have fr : ∀ b, b ∈ L → b ≠ h → f3 b = f b := fun b mb nb0 => (up_ne ef3 nb0 rfl).trans (fr b mb nb0)
  refine lv_aload_n hx hb dX9_init_13 rfl (lv_at hl 0 rfl) ?_
  refine lv_bipush (v := 8) hx hb dX9_init_14 (by decide) ?_
  refine q_newi hx hb (hts (.arrayClass .int) (by decide +kernel)) S (N' := 8) (by decide) (by decide) (by decide) (Nat.le_of_ble_eq_true rfl) (Nat.le_of_ble_eq_true rfl) dX9_init_16 (fun q16 H nq16 S => ?_)
  refine W.widen (k := 2) (n := 8008) (by decide) (by decide) ?_
  obtain ⟨f4, ef4⟩ : ∃ z_, z_ = va_up f3 q16 (.inl (g 0, 8, .inl (fun _ => 0))) := ⟨_, rfl⟩
  obtain ⟨L5, eL5⟩ : ∃ z_, z_ = L2 ++ [q16] := ⟨_, rfl⟩
  have S : PS D g (va_A (va_pl L f) sz) s.heap s L5 f4 H locs := by rw [ef4, eL5]; exact S
  have e_h : f4 h = .inr (7, [.ref q8, .null, .null, .null, .null, .null, .null, .null, .null, .null, .null, .null, .null, .null, .int 0, .null, .null, .null, .null, .null, .null, .null, .null]) := up_ne ef4 (fun h => nq16 (h ▸ m_h)) e_h
  have nq16_h : h ≠ q16 := fun h => nq16 (h ▸ m_h)
  have m_h : h ∈ L5 := by rw [eL5]; exact List.mem_append_left _ m_h
  have e_q8 : f4 q8 = .inl (g 1, 8000, .inr (.inl (fun _ => 0))) := up_ne ef4 (fun h => nq16 (h ▸ m_q8)) e_q8
  have nq16_q8 : q8 ≠ q16 := fun h => nq16 (h ▸ m_q8)
  have m_q8 : q8 ∈ L5 := by rw [eL5]; exact List.mem_append_left _ m_q8
  have e_q16 : f4 q16 = .inl (g 0, 8, .inl (fun _ => 0)) := up_self ef4
  have m_q16 : q16 ∈ L5 := by rw [eL5]; simp
  have nzq16 : q16 ∉ L := fun h => nq16 (mono _ h)
  have fr : ∀ b, b ∈ L → b ≠ h → f4 b = f b := fun b mb nb0 => (up_ne ef4 (fun h => nzq16 (h ▸ mb)) rfl).trans (fr b mb nb0)
  have mono : ∀ b, b ∈ L → b ∈ L5 := fun b h => by rw [eL5]; exact List.mem_append_left _ (mono b h)
  refine q_putF hx hb hts in_X9 tyX9 tyX9_ok nmX9 hown hnm S m_h e_h (C := RX9) (T := TX9) (N := 23) rfl 1 (by decide) (hts (.fieldLink RX9 13 "SieveCabinetModel" "inWorld" "[I") (by decide +kernel)) rfl rfl rfl rfl (Nat.le_of_ble_eq_true rfl) dX9_init_18 (fun H locs S => ?_)
  obtain ⟨f6, ef6⟩ : ∃ z_, z_ = va_up f4 h (.inr (7, [.ref q8, .ref q16, .null, .null, .null, .null, .null, .null, .null, .null, .null, .null, .null, .null, .int 0, .null, .null, .null, .null, .null, .null, .null, .null])) := ⟨_, rfl⟩
  have S : PS D g (va_A (va_pl L f) sz) s.heap s L5 f6 H locs := by rw [ef6]; exact S
  have e_q8 : f6 q8 = .inl (g 1, 8000, .inr (.inl (fun _ => 0))) := up_ne ef6 (fun h => nq8_h h.symm) e_q8
  have e_q16 : f6 q16 = .inl (g 0, 8, .inl (fun _ => 0)) := up_ne ef6 (fun h => nq16_h h.symm) e_q16
  have e_h : f6 h = .inr (7, [.ref q8, .ref q16, .null, .null, .null, .null, .null, .null, .null, .null, .null, .null, .null, .null, .int 0, .null, .null, .null, .null, .null, .null, .null, .null]) := up_self ef6
  have fr : ∀ b, b ∈ L → b ≠ h → f6 b = f b := fun b mb nb0 => (up_ne ef6 nb0 rfl).trans (fr b mb nb0)
  refine lv_aload_n hx hb dX9_init_21 rfl (lv_at hl 0 rfl) ?_
  refine lv_bipush (v := 30) hx hb dX9_init_22 (by decide) ?_
  refine q_newi hx hb (hts (.arrayClass .int) (by decide +kernel)) S (N' := 30) (by decide) (by decide) (by decide) (Nat.le_of_ble_eq_true rfl) (Nat.le_of_ble_eq_true rfl) dX9_init_24 (fun q24 H nq24 S => ?_)
  refine W.widen (k := 3) (n := 8038) (by decide) (by decide) ?_
  obtain ⟨f7, ef7⟩ : ∃ z_, z_ = va_up f6 q24 (.inl (g 0, 30, .inl (fun _ => 0))) := ⟨_, rfl⟩
  obtain ⟨L8, eL8⟩ : ∃ z_, z_ = L5 ++ [q24] := ⟨_, rfl⟩
  have S : PS D g (va_A (va_pl L f) sz) s.heap s L8 f7 H locs := by rw [ef7, eL8]; exact S
  have e_h : f7 h = .inr (7, [.ref q8, .ref q16, .null, .null, .null, .null, .null, .null, .null, .null, .null, .null, .null, .null, .int 0, .null, .null, .null, .null, .null, .null, .null, .null]) := up_ne ef7 (fun h => nq24 (h ▸ m_h)) e_h
  have nq24_h : h ≠ q24 := fun h => nq24 (h ▸ m_h)
  have m_h : h ∈ L8 := by rw [eL8]; exact List.mem_append_left _ m_h
  have e_q8 : f7 q8 = .inl (g 1, 8000, .inr (.inl (fun _ => 0))) := up_ne ef7 (fun h => nq24 (h ▸ m_q8)) e_q8
  have nq24_q8 : q8 ≠ q24 := fun h => nq24 (h ▸ m_q8)
  have m_q8 : q8 ∈ L8 := by rw [eL8]; exact List.mem_append_left _ m_q8
  have e_q16 : f7 q16 = .inl (g 0, 8, .inl (fun _ => 0)) := up_ne ef7 (fun h => nq24 (h ▸ m_q16)) e_q16
  have nq24_q16 : q16 ≠ q24 := fun h => nq24 (h ▸ m_q16)
  have m_q16 : q16 ∈ L8 := by rw [eL8]; exact List.mem_append_left _ m_q16
  have e_q24 : f7 q24 = .inl (g 0, 30, .inl (fun _ => 0)) := up_self ef7
  have m_q24 : q24 ∈ L8 := by rw [eL8]; simp
  have nzq24 : q24 ∉ L := fun h => nq24 (mono _ h)
  have fr : ∀ b, b ∈ L → b ≠ h → f7 b = f b := fun b mb nb0 => (up_ne ef7 (fun h => nzq24 (h ▸ mb)) rfl).trans (fr b mb nb0)
  have mono : ∀ b, b ∈ L → b ∈ L8 := fun b h => by rw [eL8]; exact List.mem_append_left _ (mono b h)
  refine q_putF hx hb hts in_X9 tyX9 tyX9_ok nmX9 hown hnm S m_h e_h (C := RX9) (T := TX9) (N := 23) rfl 2 (by decide) (hts (.fieldLink RX9 17 "SieveCabinetModel" "kind" "[I") (by decide +kernel)) rfl rfl rfl rfl (Nat.le_of_ble_eq_true rfl) dX9_init_26 (fun H locs S => ?_)
  obtain ⟨f9, ef9⟩ : ∃ z_, z_ = va_up f7 h (.inr (7, [.ref q8, .ref q16, .ref q24, .null, .null, .null, .null, .null, .null, .null, .null, .null, .null, .null, .int 0, .null, .null, .null, .null, .null, .null, .null, .null])) := ⟨_, rfl⟩
  have S : PS D g (va_A (va_pl L f) sz) s.heap s L8 f9 H locs := by rw [ef9]; exact S
  have e_q8 : f9 q8 = .inl (g 1, 8000, .inr (.inl (fun _ => 0))) := up_ne ef9 (fun h => nq8_h h.symm) e_q8
  have e_q16 : f9 q16 = .inl (g 0, 8, .inl (fun _ => 0)) := up_ne ef9 (fun h => nq16_h h.symm) e_q16
  have e_q24 : f9 q24 = .inl (g 0, 30, .inl (fun _ => 0)) := up_ne ef9 (fun h => nq24_h h.symm) e_q24
  have e_h : f9 h = .inr (7, [.ref q8, .ref q16, .ref q24, .null, .null, .null, .null, .null, .null, .null, .null, .null, .null, .null, .int 0, .null, .null, .null, .null, .null, .null, .null, .null]) := up_self ef9
  have fr : ∀ b, b ∈ L → b ≠ h → f9 b = f b := fun b mb nb0 => (up_ne ef9 nb0 rfl).trans (fr b mb nb0)
  refine lv_aload_n hx hb dX9_init_29 rfl (lv_at hl 0 rfl) ?_
  refine lv_bipush (v := 30) hx hb dX9_init_30 (by decide) ?_
  refine q_newi hx hb (hts (.arrayClass .int) (by decide +kernel)) S (N' := 30) (by decide) (by decide) (by decide) (Nat.le_of_ble_eq_true rfl) (Nat.le_of_ble_eq_true rfl) dX9_init_32 (fun q32 H nq32 S => ?_)
  refine W.widen (k := 4) (n := 8068) (by decide) (by decide) ?_
  obtain ⟨f10, ef10⟩ : ∃ z_, z_ = va_up f9 q32 (.inl (g 0, 30, .inl (fun _ => 0))) := ⟨_, rfl⟩
  obtain ⟨L11, eL11⟩ : ∃ z_, z_ = L8 ++ [q32] := ⟨_, rfl⟩
  have S : PS D g (va_A (va_pl L f) sz) s.heap s L11 f10 H locs := by rw [ef10, eL11]; exact S
  have e_h : f10 h = .inr (7, [.ref q8, .ref q16, .ref q24, .null, .null, .null, .null, .null, .null, .null, .null, .null, .null, .null, .int 0, .null, .null, .null, .null, .null, .null, .null, .null]) := up_ne ef10 (fun h => nq32 (h ▸ m_h)) e_h
  have nq32_h : h ≠ q32 := fun h => nq32 (h ▸ m_h)
  have m_h : h ∈ L11 := by rw [eL11]; exact List.mem_append_left _ m_h
  have e_q8 : f10 q8 = .inl (g 1, 8000, .inr (.inl (fun _ => 0))) := up_ne ef10 (fun h => nq32 (h ▸ m_q8)) e_q8
  have nq32_q8 : q8 ≠ q32 := fun h => nq32 (h ▸ m_q8)
  have m_q8 : q8 ∈ L11 := by rw [eL11]; exact List.mem_append_left _ m_q8
  have e_q16 : f10 q16 = .inl (g 0, 8, .inl (fun _ => 0)) := up_ne ef10 (fun h => nq32 (h ▸ m_q16)) e_q16
  have nq32_q16 : q16 ≠ q32 := fun h => nq32 (h ▸ m_q16)
  have m_q16 : q16 ∈ L11 := by rw [eL11]; exact List.mem_append_left _ m_q16
  have e_q24 : f10 q24 = .inl (g 0, 30, .inl (fun _ => 0)) := up_ne ef10 (fun h => nq32 (h ▸ m_q24)) e_q24
  have nq32_q24 : q24 ≠ q32 := fun h => nq32 (h ▸ m_q24)
  have m_q24 : q24 ∈ L11 := by rw [eL11]; exact List.mem_append_left _ m_q24
  have e_q32 : f10 q32 = .inl (g 0, 30, .inl (fun _ => 0)) := up_self ef10
  have m_q32 : q32 ∈ L11 := by rw [eL11]; simp
  have nzq32 : q32 ∉ L := fun h => nq32 (mono _ h)
  have fr : ∀ b, b ∈ L → b ≠ h → f10 b = f b := fun b mb nb0 => (up_ne ef10 (fun h => nzq32 (h ▸ mb)) rfl).trans (fr b mb nb0)
  have mono : ∀ b, b ∈ L → b ∈ L11 := fun b h => by rw [eL11]; exact List.mem_append_left _ (mono b h)
  refine q_putF hx hb hts in_X9 tyX9 tyX9_ok nmX9 hown hnm S m_h e_h (C := RX9) (T := TX9) (N := 23) rfl 3 (by decide) (hts (.fieldLink RX9 20 "SieveCabinetModel" "size" "[I") (by decide +kernel)) rfl rfl rfl rfl (Nat.le_of_ble_eq_true rfl) dX9_init_34 (fun H locs S => ?_)
  obtain ⟨f12, ef12⟩ : ∃ z_, z_ = va_up f10 h (.inr (7, [.ref q8, .ref q16, .ref q24, .ref q32, .null, .null, .null, .null, .null, .null, .null, .null, .null, .null, .int 0, .null, .null, .null, .null, .null, .null, .null, .null])) := ⟨_, rfl⟩
  have S : PS D g (va_A (va_pl L f) sz) s.heap s L11 f12 H locs := by rw [ef12]; exact S
  have e_q8 : f12 q8 = .inl (g 1, 8000, .inr (.inl (fun _ => 0))) := up_ne ef12 (fun h => nq8_h h.symm) e_q8
  have e_q16 : f12 q16 = .inl (g 0, 8, .inl (fun _ => 0)) := up_ne ef12 (fun h => nq16_h h.symm) e_q16
  have e_q24 : f12 q24 = .inl (g 0, 30, .inl (fun _ => 0)) := up_ne ef12 (fun h => nq24_h h.symm) e_q24
  have e_q32 : f12 q32 = .inl (g 0, 30, .inl (fun _ => 0)) := up_ne ef12 (fun h => nq32_h h.symm) e_q32
  have e_h : f12 h = .inr (7, [.ref q8, .ref q16, .ref q24, .ref q32, .null, .null, .null, .null, .null, .null, .null, .null, .null, .null, .int 0, .null, .null, .null, .null, .null, .null, .null, .null]) := up_self ef12
  have fr : ∀ b, b ∈ L → b ≠ h → f12 b = f b := fun b mb nb0 => (up_ne ef12 nb0 rfl).trans (fr b mb nb0)
  refine lv_aload_n hx hb dX9_init_37 rfl (lv_at hl 0 rfl) ?_
  refine lv_bipush (v := 30) hx hb dX9_init_38 (by decide) ?_
  refine q_newi hx hb (hts (.arrayClass .int) (by decide +kernel)) S (N' := 30) (by decide) (by decide) (by decide) (Nat.le_of_ble_eq_true rfl) (Nat.le_of_ble_eq_true rfl) dX9_init_40 (fun q40 H nq40 S => ?_)
  refine W.widen (k := 5) (n := 8098) (by decide) (by decide) ?_
  obtain ⟨f13, ef13⟩ : ∃ z_, z_ = va_up f12 q40 (.inl (g 0, 30, .inl (fun _ => 0))) := ⟨_, rfl⟩
  obtain ⟨L14, eL14⟩ : ∃ z_, z_ = L11 ++ [q40] := ⟨_, rfl⟩
  have S : PS D g (va_A (va_pl L f) sz) s.heap s L14 f13 H locs := by rw [ef13, eL14]; exact S
  have e_h : f13 h = .inr (7, [.ref q8, .ref q16, .ref q24, .ref q32, .null, .null, .null, .null, .null, .null, .null, .null, .null, .null, .int 0, .null, .null, .null, .null, .null, .null, .null, .null]) := up_ne ef13 (fun h => nq40 (h ▸ m_h)) e_h
  have nq40_h : h ≠ q40 := fun h => nq40 (h ▸ m_h)
  have m_h : h ∈ L14 := by rw [eL14]; exact List.mem_append_left _ m_h
  have e_q8 : f13 q8 = .inl (g 1, 8000, .inr (.inl (fun _ => 0))) := up_ne ef13 (fun h => nq40 (h ▸ m_q8)) e_q8
  have nq40_q8 : q8 ≠ q40 := fun h => nq40 (h ▸ m_q8)
  have m_q8 : q8 ∈ L14 := by rw [eL14]; exact List.mem_append_left _ m_q8
  have e_q16 : f13 q16 = .inl (g 0, 8, .inl (fun _ => 0)) := up_ne ef13 (fun h => nq40 (h ▸ m_q16)) e_q16
  have nq40_q16 : q16 ≠ q40 := fun h => nq40 (h ▸ m_q16)
  have m_q16 : q16 ∈ L14 := by rw [eL14]; exact List.mem_append_left _ m_q16
  have e_q24 : f13 q24 = .inl (g 0, 30, .inl (fun _ => 0)) := up_ne ef13 (fun h => nq40 (h ▸ m_q24)) e_q24
  have nq40_q24 : q24 ≠ q40 := fun h => nq40 (h ▸ m_q24)
  have m_q24 : q24 ∈ L14 := by rw [eL14]; exact List.mem_append_left _ m_q24
  have e_q32 : f13 q32 = .inl (g 0, 30, .inl (fun _ => 0)) := up_ne ef13 (fun h => nq40 (h ▸ m_q32)) e_q32
  have nq40_q32 : q32 ≠ q40 := fun h => nq40 (h ▸ m_q32)
  have m_q32 : q32 ∈ L14 := by rw [eL14]; exact List.mem_append_left _ m_q32
  have e_q40 : f13 q40 = .inl (g 0, 30, .inl (fun _ => 0)) := up_self ef13
  have m_q40 : q40 ∈ L14 := by rw [eL14]; simp
  have nzq40 : q40 ∉ L := fun h => nq40 (mono _ h)
  have fr : ∀ b, b ∈ L → b ≠ h → f13 b = f b := fun b mb nb0 => (up_ne ef13 (fun h => nzq40 (h ▸ mb)) rfl).trans (fr b mb nb0)
  have mono : ∀ b, b ∈ L → b ∈ L14 := fun b h => by rw [eL14]; exact List.mem_append_left _ (mono b h)
  refine q_putF hx hb hts in_X9 tyX9 tyX9_ok nmX9 hown hnm S m_h e_h (C := RX9) (T := TX9) (N := 23) rfl 4 (by decide) (hts (.fieldLink RX9 23 "SieveCabinetModel" "marks" "[I") (by decide +kernel)) rfl rfl rfl rfl (Nat.le_of_ble_eq_true rfl) dX9_init_42 (fun H locs S => ?_)
  obtain ⟨f15, ef15⟩ : ∃ z_, z_ = va_up f13 h (.inr (7, [.ref q8, .ref q16, .ref q24, .ref q32, .ref q40, .null, .null, .null, .null, .null, .null, .null, .null, .null, .int 0, .null, .null, .null, .null, .null, .null, .null, .null])) := ⟨_, rfl⟩
  have S : PS D g (va_A (va_pl L f) sz) s.heap s L14 f15 H locs := by rw [ef15]; exact S
  have e_q8 : f15 q8 = .inl (g 1, 8000, .inr (.inl (fun _ => 0))) := up_ne ef15 (fun h => nq8_h h.symm) e_q8
  have e_q16 : f15 q16 = .inl (g 0, 8, .inl (fun _ => 0)) := up_ne ef15 (fun h => nq16_h h.symm) e_q16
  have e_q24 : f15 q24 = .inl (g 0, 30, .inl (fun _ => 0)) := up_ne ef15 (fun h => nq24_h h.symm) e_q24
  have e_q32 : f15 q32 = .inl (g 0, 30, .inl (fun _ => 0)) := up_ne ef15 (fun h => nq32_h h.symm) e_q32
  have e_q40 : f15 q40 = .inl (g 0, 30, .inl (fun _ => 0)) := up_ne ef15 (fun h => nq40_h h.symm) e_q40
  have e_h : f15 h = .inr (7, [.ref q8, .ref q16, .ref q24, .ref q32, .ref q40, .null, .null, .null, .null, .null, .null, .null, .null, .null, .int 0, .null, .null, .null, .null, .null, .null, .null, .null]) := up_self ef15
  have fr : ∀ b, b ∈ L → b ≠ h → f15 b = f b := fun b mb nb0 => (up_ne ef15 nb0 rfl).trans (fr b mb nb0)
  refine lv_aload_n hx hb dX9_init_45 rfl (lv_at hl 0 rfl) ?_
  refine lv_bipush (v := 30) hx hb dX9_init_46 (by decide) ?_
  refine q_newi hx hb (hts (.arrayClass .int) (by decide +kernel)) S (N' := 30) (by decide) (by decide) (by decide) (Nat.le_of_ble_eq_true rfl) (Nat.le_of_ble_eq_true rfl) dX9_init_48 (fun q48 H nq48 S => ?_)
  refine W.widen (k := 6) (n := 8128) (by decide) (by decide) ?_
  obtain ⟨f16, ef16⟩ : ∃ z_, z_ = va_up f15 q48 (.inl (g 0, 30, .inl (fun _ => 0))) := ⟨_, rfl⟩
  obtain ⟨L17, eL17⟩ : ∃ z_, z_ = L14 ++ [q48] := ⟨_, rfl⟩
  have S : PS D g (va_A (va_pl L f) sz) s.heap s L17 f16 H locs := by rw [ef16, eL17]; exact S
  have e_h : f16 h = .inr (7, [.ref q8, .ref q16, .ref q24, .ref q32, .ref q40, .null, .null, .null, .null, .null, .null, .null, .null, .null, .int 0, .null, .null, .null, .null, .null, .null, .null, .null]) := up_ne ef16 (fun h => nq48 (h ▸ m_h)) e_h
  have nq48_h : h ≠ q48 := fun h => nq48 (h ▸ m_h)
  have m_h : h ∈ L17 := by rw [eL17]; exact List.mem_append_left _ m_h
  have e_q8 : f16 q8 = .inl (g 1, 8000, .inr (.inl (fun _ => 0))) := up_ne ef16 (fun h => nq48 (h ▸ m_q8)) e_q8
  have nq48_q8 : q8 ≠ q48 := fun h => nq48 (h ▸ m_q8)
  have m_q8 : q8 ∈ L17 := by rw [eL17]; exact List.mem_append_left _ m_q8
  have e_q16 : f16 q16 = .inl (g 0, 8, .inl (fun _ => 0)) := up_ne ef16 (fun h => nq48 (h ▸ m_q16)) e_q16
  have nq48_q16 : q16 ≠ q48 := fun h => nq48 (h ▸ m_q16)
  have m_q16 : q16 ∈ L17 := by rw [eL17]; exact List.mem_append_left _ m_q16
  have e_q24 : f16 q24 = .inl (g 0, 30, .inl (fun _ => 0)) := up_ne ef16 (fun h => nq48 (h ▸ m_q24)) e_q24
  have nq48_q24 : q24 ≠ q48 := fun h => nq48 (h ▸ m_q24)
  have m_q24 : q24 ∈ L17 := by rw [eL17]; exact List.mem_append_left _ m_q24
  have e_q32 : f16 q32 = .inl (g 0, 30, .inl (fun _ => 0)) := up_ne ef16 (fun h => nq48 (h ▸ m_q32)) e_q32
  have nq48_q32 : q32 ≠ q48 := fun h => nq48 (h ▸ m_q32)
  have m_q32 : q32 ∈ L17 := by rw [eL17]; exact List.mem_append_left _ m_q32
  have e_q40 : f16 q40 = .inl (g 0, 30, .inl (fun _ => 0)) := up_ne ef16 (fun h => nq48 (h ▸ m_q40)) e_q40
  have nq48_q40 : q40 ≠ q48 := fun h => nq48 (h ▸ m_q40)
  have m_q40 : q40 ∈ L17 := by rw [eL17]; exact List.mem_append_left _ m_q40
  have e_q48 : f16 q48 = .inl (g 0, 30, .inl (fun _ => 0)) := up_self ef16
  have m_q48 : q48 ∈ L17 := by rw [eL17]; simp
  have nzq48 : q48 ∉ L := fun h => nq48 (mono _ h)
  have fr : ∀ b, b ∈ L → b ≠ h → f16 b = f b := fun b mb nb0 => (up_ne ef16 (fun h => nzq48 (h ▸ mb)) rfl).trans (fr b mb nb0)
  have mono : ∀ b, b ∈ L → b ∈ L17 := fun b h => by rw [eL17]; exact List.mem_append_left _ (mono b h)
  refine q_putF hx hb hts in_X9 tyX9 tyX9_ok nmX9 hown hnm S m_h e_h (C := RX9) (T := TX9) (N := 23) rfl 5 (by decide) (hts (.fieldLink RX9 26 "SieveCabinetModel" "seed" "[I") (by decide +kernel)) rfl rfl rfl rfl (Nat.le_of_ble_eq_true rfl) dX9_init_50 (fun H locs S => ?_)
  obtain ⟨f18, ef18⟩ : ∃ z_, z_ = va_up f16 h (.inr (7, [.ref q8, .ref q16, .ref q24, .ref q32, .ref q40, .ref q48, .null, .null, .null, .null, .null, .null, .null, .null, .int 0, .null, .null, .null, .null, .null, .null, .null, .null])) := ⟨_, rfl⟩
  have S : PS D g (va_A (va_pl L f) sz) s.heap s L17 f18 H locs := by rw [ef18]; exact S
  have e_q8 : f18 q8 = .inl (g 1, 8000, .inr (.inl (fun _ => 0))) := up_ne ef18 (fun h => nq8_h h.symm) e_q8
  have e_q16 : f18 q16 = .inl (g 0, 8, .inl (fun _ => 0)) := up_ne ef18 (fun h => nq16_h h.symm) e_q16
  have e_q24 : f18 q24 = .inl (g 0, 30, .inl (fun _ => 0)) := up_ne ef18 (fun h => nq24_h h.symm) e_q24
  have e_q32 : f18 q32 = .inl (g 0, 30, .inl (fun _ => 0)) := up_ne ef18 (fun h => nq32_h h.symm) e_q32
  have e_q40 : f18 q40 = .inl (g 0, 30, .inl (fun _ => 0)) := up_ne ef18 (fun h => nq40_h h.symm) e_q40
  have e_q48 : f18 q48 = .inl (g 0, 30, .inl (fun _ => 0)) := up_ne ef18 (fun h => nq48_h h.symm) e_q48
  have e_h : f18 h = .inr (7, [.ref q8, .ref q16, .ref q24, .ref q32, .ref q40, .ref q48, .null, .null, .null, .null, .null, .null, .null, .null, .int 0, .null, .null, .null, .null, .null, .null, .null, .null]) := up_self ef18
  have fr : ∀ b, b ∈ L → b ≠ h → f18 b = f b := fun b mb nb0 => (up_ne ef18 nb0 rfl).trans (fr b mb nb0)
  refine lv_aload_n hx hb dX9_init_53 rfl (lv_at hl 0 rfl) ?_
  refine lv_sipush (v := 30000) hx hb dX9_init_54 (by decide) ?_
  refine q_newl hx hb (hts (.arrayClass .long) (by decide +kernel)) S (N' := 30000) (by decide) (by decide) (by decide) (Nat.le_of_ble_eq_true rfl) (Nat.le_of_ble_eq_true rfl) dX9_init_57 (fun q57 H nq57 S => ?_)
  refine W.widen (k := 7) (n := 38128) (by decide) (by decide) ?_
  obtain ⟨f19, ef19⟩ : ∃ z_, z_ = va_up f18 q57 (.inl (g 1, 30000, .inr (.inl (fun _ => 0)))) := ⟨_, rfl⟩
  obtain ⟨L20, eL20⟩ : ∃ z_, z_ = L17 ++ [q57] := ⟨_, rfl⟩
  have S : PS D g (va_A (va_pl L f) sz) s.heap s L20 f19 H locs := by rw [ef19, eL20]; exact S
  have e_h : f19 h = .inr (7, [.ref q8, .ref q16, .ref q24, .ref q32, .ref q40, .ref q48, .null, .null, .null, .null, .null, .null, .null, .null, .int 0, .null, .null, .null, .null, .null, .null, .null, .null]) := up_ne ef19 (fun h => nq57 (h ▸ m_h)) e_h
  have nq57_h : h ≠ q57 := fun h => nq57 (h ▸ m_h)
  have m_h : h ∈ L20 := by rw [eL20]; exact List.mem_append_left _ m_h
  have e_q8 : f19 q8 = .inl (g 1, 8000, .inr (.inl (fun _ => 0))) := up_ne ef19 (fun h => nq57 (h ▸ m_q8)) e_q8
  have nq57_q8 : q8 ≠ q57 := fun h => nq57 (h ▸ m_q8)
  have m_q8 : q8 ∈ L20 := by rw [eL20]; exact List.mem_append_left _ m_q8
  have e_q16 : f19 q16 = .inl (g 0, 8, .inl (fun _ => 0)) := up_ne ef19 (fun h => nq57 (h ▸ m_q16)) e_q16
  have nq57_q16 : q16 ≠ q57 := fun h => nq57 (h ▸ m_q16)
  have m_q16 : q16 ∈ L20 := by rw [eL20]; exact List.mem_append_left _ m_q16
  have e_q24 : f19 q24 = .inl (g 0, 30, .inl (fun _ => 0)) := up_ne ef19 (fun h => nq57 (h ▸ m_q24)) e_q24
  have nq57_q24 : q24 ≠ q57 := fun h => nq57 (h ▸ m_q24)
  have m_q24 : q24 ∈ L20 := by rw [eL20]; exact List.mem_append_left _ m_q24
  have e_q32 : f19 q32 = .inl (g 0, 30, .inl (fun _ => 0)) := up_ne ef19 (fun h => nq57 (h ▸ m_q32)) e_q32
  have nq57_q32 : q32 ≠ q57 := fun h => nq57 (h ▸ m_q32)
  have m_q32 : q32 ∈ L20 := by rw [eL20]; exact List.mem_append_left _ m_q32
  have e_q40 : f19 q40 = .inl (g 0, 30, .inl (fun _ => 0)) := up_ne ef19 (fun h => nq57 (h ▸ m_q40)) e_q40
  have nq57_q40 : q40 ≠ q57 := fun h => nq57 (h ▸ m_q40)
  have m_q40 : q40 ∈ L20 := by rw [eL20]; exact List.mem_append_left _ m_q40
  have e_q48 : f19 q48 = .inl (g 0, 30, .inl (fun _ => 0)) := up_ne ef19 (fun h => nq57 (h ▸ m_q48)) e_q48
  have nq57_q48 : q48 ≠ q57 := fun h => nq57 (h ▸ m_q48)
  have m_q48 : q48 ∈ L20 := by rw [eL20]; exact List.mem_append_left _ m_q48
  have e_q57 : f19 q57 = .inl (g 1, 30000, .inr (.inl (fun _ => 0))) := up_self ef19
  have m_q57 : q57 ∈ L20 := by rw [eL20]; simp
  have nzq57 : q57 ∉ L := fun h => nq57 (mono _ h)
  have fr : ∀ b, b ∈ L → b ≠ h → f19 b = f b := fun b mb nb0 => (up_ne ef19 (fun h => nzq57 (h ▸ mb)) rfl).trans (fr b mb nb0)
  have mono : ∀ b, b ∈ L → b ∈ L20 := fun b h => by rw [eL20]; exact List.mem_append_left _ (mono b h)
  refine q_putF hx hb hts in_X9 tyX9 tyX9_ok nmX9 hown hnm S m_h e_h (C := RX9) (T := TX9) (N := 23) rfl 6 (by decide) (hts (.fieldLink RX9 29 "SieveCabinetModel" "contents" "[J") (by decide +kernel)) rfl rfl rfl rfl (Nat.le_of_ble_eq_true rfl) dX9_init_59 (fun H locs S => ?_)
  obtain ⟨f21, ef21⟩ : ∃ z_, z_ = va_up f19 h (.inr (7, [.ref q8, .ref q16, .ref q24, .ref q32, .ref q40, .ref q48, .ref q57, .null, .null, .null, .null, .null, .null, .null, .int 0, .null, .null, .null, .null, .null, .null, .null, .null])) := ⟨_, rfl⟩
  have S : PS D g (va_A (va_pl L f) sz) s.heap s L20 f21 H locs := by rw [ef21]; exact S
  have e_q8 : f21 q8 = .inl (g 1, 8000, .inr (.inl (fun _ => 0))) := up_ne ef21 (fun h => nq8_h h.symm) e_q8
  have e_q16 : f21 q16 = .inl (g 0, 8, .inl (fun _ => 0)) := up_ne ef21 (fun h => nq16_h h.symm) e_q16
  have e_q24 : f21 q24 = .inl (g 0, 30, .inl (fun _ => 0)) := up_ne ef21 (fun h => nq24_h h.symm) e_q24
  have e_q32 : f21 q32 = .inl (g 0, 30, .inl (fun _ => 0)) := up_ne ef21 (fun h => nq32_h h.symm) e_q32
  have e_q40 : f21 q40 = .inl (g 0, 30, .inl (fun _ => 0)) := up_ne ef21 (fun h => nq40_h h.symm) e_q40
  have e_q48 : f21 q48 = .inl (g 0, 30, .inl (fun _ => 0)) := up_ne ef21 (fun h => nq48_h h.symm) e_q48
  have e_q57 : f21 q57 = .inl (g 1, 30000, .inr (.inl (fun _ => 0))) := up_ne ef21 (fun h => nq57_h h.symm) e_q57
  have e_h : f21 h = .inr (7, [.ref q8, .ref q16, .ref q24, .ref q32, .ref q40, .ref q48, .ref q57, .null, .null, .null, .null, .null, .null, .null, .int 0, .null, .null, .null, .null, .null, .null, .null, .null]) := up_self ef21
  have fr : ∀ b, b ∈ L → b ≠ h → f21 b = f b := fun b mb nb0 => (up_ne ef21 nb0 rfl).trans (fr b mb nb0)
  refine lv_aload_n hx hb dX9_init_62 rfl (lv_at hl 0 rfl) ?_
  refine lv_bipush (v := 30) hx hb dX9_init_63 (by decide) ?_
  refine q_newi hx hb (hts (.arrayClass .int) (by decide +kernel)) S (N' := 30) (by decide) (by decide) (by decide) (Nat.le_of_ble_eq_true rfl) (Nat.le_of_ble_eq_true rfl) dX9_init_65 (fun q65 H nq65 S => ?_)
  refine W.widen (k := 8) (n := 38158) (by decide) (by decide) ?_
  obtain ⟨f22, ef22⟩ : ∃ z_, z_ = va_up f21 q65 (.inl (g 0, 30, .inl (fun _ => 0))) := ⟨_, rfl⟩
  obtain ⟨L23, eL23⟩ : ∃ z_, z_ = L20 ++ [q65] := ⟨_, rfl⟩
  have S : PS D g (va_A (va_pl L f) sz) s.heap s L23 f22 H locs := by rw [ef22, eL23]; exact S
  have e_h : f22 h = .inr (7, [.ref q8, .ref q16, .ref q24, .ref q32, .ref q40, .ref q48, .ref q57, .null, .null, .null, .null, .null, .null, .null, .int 0, .null, .null, .null, .null, .null, .null, .null, .null]) := up_ne ef22 (fun h => nq65 (h ▸ m_h)) e_h
  have nq65_h : h ≠ q65 := fun h => nq65 (h ▸ m_h)
  have m_h : h ∈ L23 := by rw [eL23]; exact List.mem_append_left _ m_h
  have e_q8 : f22 q8 = .inl (g 1, 8000, .inr (.inl (fun _ => 0))) := up_ne ef22 (fun h => nq65 (h ▸ m_q8)) e_q8
  have nq65_q8 : q8 ≠ q65 := fun h => nq65 (h ▸ m_q8)
  have m_q8 : q8 ∈ L23 := by rw [eL23]; exact List.mem_append_left _ m_q8
  have e_q16 : f22 q16 = .inl (g 0, 8, .inl (fun _ => 0)) := up_ne ef22 (fun h => nq65 (h ▸ m_q16)) e_q16
  have nq65_q16 : q16 ≠ q65 := fun h => nq65 (h ▸ m_q16)
  have m_q16 : q16 ∈ L23 := by rw [eL23]; exact List.mem_append_left _ m_q16
  have e_q24 : f22 q24 = .inl (g 0, 30, .inl (fun _ => 0)) := up_ne ef22 (fun h => nq65 (h ▸ m_q24)) e_q24
  have nq65_q24 : q24 ≠ q65 := fun h => nq65 (h ▸ m_q24)
  have m_q24 : q24 ∈ L23 := by rw [eL23]; exact List.mem_append_left _ m_q24
  have e_q32 : f22 q32 = .inl (g 0, 30, .inl (fun _ => 0)) := up_ne ef22 (fun h => nq65 (h ▸ m_q32)) e_q32
  have nq65_q32 : q32 ≠ q65 := fun h => nq65 (h ▸ m_q32)
  have m_q32 : q32 ∈ L23 := by rw [eL23]; exact List.mem_append_left _ m_q32
  have e_q40 : f22 q40 = .inl (g 0, 30, .inl (fun _ => 0)) := up_ne ef22 (fun h => nq65 (h ▸ m_q40)) e_q40
  have nq65_q40 : q40 ≠ q65 := fun h => nq65 (h ▸ m_q40)
  have m_q40 : q40 ∈ L23 := by rw [eL23]; exact List.mem_append_left _ m_q40
  have e_q48 : f22 q48 = .inl (g 0, 30, .inl (fun _ => 0)) := up_ne ef22 (fun h => nq65 (h ▸ m_q48)) e_q48
  have nq65_q48 : q48 ≠ q65 := fun h => nq65 (h ▸ m_q48)
  have m_q48 : q48 ∈ L23 := by rw [eL23]; exact List.mem_append_left _ m_q48
  have e_q57 : f22 q57 = .inl (g 1, 30000, .inr (.inl (fun _ => 0))) := up_ne ef22 (fun h => nq65 (h ▸ m_q57)) e_q57
  have nq65_q57 : q57 ≠ q65 := fun h => nq65 (h ▸ m_q57)
  have m_q57 : q57 ∈ L23 := by rw [eL23]; exact List.mem_append_left _ m_q57
  have e_q65 : f22 q65 = .inl (g 0, 30, .inl (fun _ => 0)) := up_self ef22
  have m_q65 : q65 ∈ L23 := by rw [eL23]; simp
  have nzq65 : q65 ∉ L := fun h => nq65 (mono _ h)
  have fr : ∀ b, b ∈ L → b ≠ h → f22 b = f b := fun b mb nb0 => (up_ne ef22 (fun h => nzq65 (h ▸ mb)) rfl).trans (fr b mb nb0)
  have mono : ∀ b, b ∈ L → b ∈ L23 := fun b h => by rw [eL23]; exact List.mem_append_left _ (mono b h)
  refine q_putF hx hb hts in_X9 tyX9 tyX9_ok nmX9 hown hnm S m_h e_h (C := RX9) (T := TX9) (N := 23) rfl 7 (by decide) (hts (.fieldLink RX9 32 "SieveCabinetModel" "contentMany" "[I") (by decide +kernel)) rfl rfl rfl rfl (Nat.le_of_ble_eq_true rfl) dX9_init_67 (fun H locs S => ?_)
  obtain ⟨f24, ef24⟩ : ∃ z_, z_ = va_up f22 h (.inr (7, [.ref q8, .ref q16, .ref q24, .ref q32, .ref q40, .ref q48, .ref q57, .ref q65, .null, .null, .null, .null, .null, .null, .int 0, .null, .null, .null, .null, .null, .null, .null, .null])) := ⟨_, rfl⟩
  have S : PS D g (va_A (va_pl L f) sz) s.heap s L23 f24 H locs := by rw [ef24]; exact S
  have e_q8 : f24 q8 = .inl (g 1, 8000, .inr (.inl (fun _ => 0))) := up_ne ef24 (fun h => nq8_h h.symm) e_q8
  have e_q16 : f24 q16 = .inl (g 0, 8, .inl (fun _ => 0)) := up_ne ef24 (fun h => nq16_h h.symm) e_q16
  have e_q24 : f24 q24 = .inl (g 0, 30, .inl (fun _ => 0)) := up_ne ef24 (fun h => nq24_h h.symm) e_q24
  have e_q32 : f24 q32 = .inl (g 0, 30, .inl (fun _ => 0)) := up_ne ef24 (fun h => nq32_h h.symm) e_q32
  have e_q40 : f24 q40 = .inl (g 0, 30, .inl (fun _ => 0)) := up_ne ef24 (fun h => nq40_h h.symm) e_q40
  have e_q48 : f24 q48 = .inl (g 0, 30, .inl (fun _ => 0)) := up_ne ef24 (fun h => nq48_h h.symm) e_q48
  have e_q57 : f24 q57 = .inl (g 1, 30000, .inr (.inl (fun _ => 0))) := up_ne ef24 (fun h => nq57_h h.symm) e_q57
  have e_q65 : f24 q65 = .inl (g 0, 30, .inl (fun _ => 0)) := up_ne ef24 (fun h => nq65_h h.symm) e_q65
  have e_h : f24 h = .inr (7, [.ref q8, .ref q16, .ref q24, .ref q32, .ref q40, .ref q48, .ref q57, .ref q65, .null, .null, .null, .null, .null, .null, .int 0, .null, .null, .null, .null, .null, .null, .null, .null]) := up_self ef24
  have fr : ∀ b, b ∈ L → b ≠ h → f24 b = f b := fun b mb nb0 => (up_ne ef24 nb0 rfl).trans (fr b mb nb0)
  refine lv_aload_n hx hb dX9_init_70 rfl (lv_at hl 0 rfl) ?_
  refine lv_ldc (v := 122880) hx hb hown (hts (.constant RX9 35 122880) (by decide +kernel)) dX9_init_71 ?_
  refine q_newi hx hb (hts (.arrayClass .int) (by decide +kernel)) S (N' := 122880) (by decide) (by decide) (by decide) (Nat.le_of_ble_eq_true rfl) (Nat.le_of_ble_eq_true rfl) dX9_init_73 (fun q73 H nq73 S => ?_)
  refine W.widen (k := 9) (n := 161038) (by decide) (by decide) ?_
  obtain ⟨f25, ef25⟩ : ∃ z_, z_ = va_up f24 q73 (.inl (g 0, 122880, .inl (fun _ => 0))) := ⟨_, rfl⟩
  obtain ⟨L26, eL26⟩ : ∃ z_, z_ = L23 ++ [q73] := ⟨_, rfl⟩
  have S : PS D g (va_A (va_pl L f) sz) s.heap s L26 f25 H locs := by rw [ef25, eL26]; exact S
  have e_h : f25 h = .inr (7, [.ref q8, .ref q16, .ref q24, .ref q32, .ref q40, .ref q48, .ref q57, .ref q65, .null, .null, .null, .null, .null, .null, .int 0, .null, .null, .null, .null, .null, .null, .null, .null]) := up_ne ef25 (fun h => nq73 (h ▸ m_h)) e_h
  have nq73_h : h ≠ q73 := fun h => nq73 (h ▸ m_h)
  have m_h : h ∈ L26 := by rw [eL26]; exact List.mem_append_left _ m_h
  have e_q8 : f25 q8 = .inl (g 1, 8000, .inr (.inl (fun _ => 0))) := up_ne ef25 (fun h => nq73 (h ▸ m_q8)) e_q8
  have nq73_q8 : q8 ≠ q73 := fun h => nq73 (h ▸ m_q8)
  have m_q8 : q8 ∈ L26 := by rw [eL26]; exact List.mem_append_left _ m_q8
  have e_q16 : f25 q16 = .inl (g 0, 8, .inl (fun _ => 0)) := up_ne ef25 (fun h => nq73 (h ▸ m_q16)) e_q16
  have nq73_q16 : q16 ≠ q73 := fun h => nq73 (h ▸ m_q16)
  have m_q16 : q16 ∈ L26 := by rw [eL26]; exact List.mem_append_left _ m_q16
  have e_q24 : f25 q24 = .inl (g 0, 30, .inl (fun _ => 0)) := up_ne ef25 (fun h => nq73 (h ▸ m_q24)) e_q24
  have nq73_q24 : q24 ≠ q73 := fun h => nq73 (h ▸ m_q24)
  have m_q24 : q24 ∈ L26 := by rw [eL26]; exact List.mem_append_left _ m_q24
  have e_q32 : f25 q32 = .inl (g 0, 30, .inl (fun _ => 0)) := up_ne ef25 (fun h => nq73 (h ▸ m_q32)) e_q32
  have nq73_q32 : q32 ≠ q73 := fun h => nq73 (h ▸ m_q32)
  have m_q32 : q32 ∈ L26 := by rw [eL26]; exact List.mem_append_left _ m_q32
  have e_q40 : f25 q40 = .inl (g 0, 30, .inl (fun _ => 0)) := up_ne ef25 (fun h => nq73 (h ▸ m_q40)) e_q40
  have nq73_q40 : q40 ≠ q73 := fun h => nq73 (h ▸ m_q40)
  have m_q40 : q40 ∈ L26 := by rw [eL26]; exact List.mem_append_left _ m_q40
  have e_q48 : f25 q48 = .inl (g 0, 30, .inl (fun _ => 0)) := up_ne ef25 (fun h => nq73 (h ▸ m_q48)) e_q48
  have nq73_q48 : q48 ≠ q73 := fun h => nq73 (h ▸ m_q48)
  have m_q48 : q48 ∈ L26 := by rw [eL26]; exact List.mem_append_left _ m_q48
  have e_q57 : f25 q57 = .inl (g 1, 30000, .inr (.inl (fun _ => 0))) := up_ne ef25 (fun h => nq73 (h ▸ m_q57)) e_q57
  have nq73_q57 : q57 ≠ q73 := fun h => nq73 (h ▸ m_q57)
  have m_q57 : q57 ∈ L26 := by rw [eL26]; exact List.mem_append_left _ m_q57
  have e_q65 : f25 q65 = .inl (g 0, 30, .inl (fun _ => 0)) := up_ne ef25 (fun h => nq73 (h ▸ m_q65)) e_q65
  have nq73_q65 : q65 ≠ q73 := fun h => nq73 (h ▸ m_q65)
  have m_q65 : q65 ∈ L26 := by rw [eL26]; exact List.mem_append_left _ m_q65
  have e_q73 : f25 q73 = .inl (g 0, 122880, .inl (fun _ => 0)) := up_self ef25
  have m_q73 : q73 ∈ L26 := by rw [eL26]; simp
  have nzq73 : q73 ∉ L := fun h => nq73 (mono _ h)
  have fr : ∀ b, b ∈ L → b ≠ h → f25 b = f b := fun b mb nb0 => (up_ne ef25 (fun h => nzq73 (h ▸ mb)) rfl).trans (fr b mb nb0)
  have mono : ∀ b, b ∈ L → b ∈ L26 := fun b h => by rw [eL26]; exact List.mem_append_left _ (mono b h)
  refine q_putF hx hb hts in_X9 tyX9 tyX9_ok nmX9 hown hnm S m_h e_h (C := RX9) (T := TX9) (N := 23) rfl 8 (by decide) (hts (.fieldLink RX9 36 "SieveCabinetModel" "row" "[I") (by decide +kernel)) rfl rfl rfl rfl (Nat.le_of_ble_eq_true rfl) dX9_init_75 (fun H locs S => ?_)
  obtain ⟨f27, ef27⟩ : ∃ z_, z_ = va_up f25 h (.inr (7, [.ref q8, .ref q16, .ref q24, .ref q32, .ref q40, .ref q48, .ref q57, .ref q65, .ref q73, .null, .null, .null, .null, .null, .int 0, .null, .null, .null, .null, .null, .null, .null, .null])) := ⟨_, rfl⟩
  have S : PS D g (va_A (va_pl L f) sz) s.heap s L26 f27 H locs := by rw [ef27]; exact S
  have e_q8 : f27 q8 = .inl (g 1, 8000, .inr (.inl (fun _ => 0))) := up_ne ef27 (fun h => nq8_h h.symm) e_q8
  have e_q16 : f27 q16 = .inl (g 0, 8, .inl (fun _ => 0)) := up_ne ef27 (fun h => nq16_h h.symm) e_q16
  have e_q24 : f27 q24 = .inl (g 0, 30, .inl (fun _ => 0)) := up_ne ef27 (fun h => nq24_h h.symm) e_q24
  have e_q32 : f27 q32 = .inl (g 0, 30, .inl (fun _ => 0)) := up_ne ef27 (fun h => nq32_h h.symm) e_q32
  have e_q40 : f27 q40 = .inl (g 0, 30, .inl (fun _ => 0)) := up_ne ef27 (fun h => nq40_h h.symm) e_q40
  have e_q48 : f27 q48 = .inl (g 0, 30, .inl (fun _ => 0)) := up_ne ef27 (fun h => nq48_h h.symm) e_q48
  have e_q57 : f27 q57 = .inl (g 1, 30000, .inr (.inl (fun _ => 0))) := up_ne ef27 (fun h => nq57_h h.symm) e_q57
  have e_q65 : f27 q65 = .inl (g 0, 30, .inl (fun _ => 0)) := up_ne ef27 (fun h => nq65_h h.symm) e_q65
  have e_q73 : f27 q73 = .inl (g 0, 122880, .inl (fun _ => 0)) := up_ne ef27 (fun h => nq73_h h.symm) e_q73
  have e_h : f27 h = .inr (7, [.ref q8, .ref q16, .ref q24, .ref q32, .ref q40, .ref q48, .ref q57, .ref q65, .ref q73, .null, .null, .null, .null, .null, .int 0, .null, .null, .null, .null, .null, .null, .null, .null]) := up_self ef27
  have fr : ∀ b, b ∈ L → b ≠ h → f27 b = f b := fun b mb nb0 => (up_ne ef27 nb0 rfl).trans (fr b mb nb0)
  refine lv_aload_n hx hb dX9_init_78 rfl (lv_at hl 0 rfl) ?_
  refine lv_ldc (v := 76800) hx hb hown (hts (.constant RX9 39 76800) (by decide +kernel)) dX9_init_79 ?_
  refine q_newi hx hb (hts (.arrayClass .int) (by decide +kernel)) S (N' := 76800) (by decide) (by decide) (by decide) (Nat.le_of_ble_eq_true rfl) (Nat.le_of_ble_eq_true rfl) dX9_init_81 (fun q81 H nq81 S => ?_)
  refine W.widen (k := 10) (n := 237838) (by decide) (by decide) ?_
  obtain ⟨f28, ef28⟩ : ∃ z_, z_ = va_up f27 q81 (.inl (g 0, 76800, .inl (fun _ => 0))) := ⟨_, rfl⟩
  obtain ⟨L29, eL29⟩ : ∃ z_, z_ = L26 ++ [q81] := ⟨_, rfl⟩
  have S : PS D g (va_A (va_pl L f) sz) s.heap s L29 f28 H locs := by rw [ef28, eL29]; exact S
  have e_h : f28 h = .inr (7, [.ref q8, .ref q16, .ref q24, .ref q32, .ref q40, .ref q48, .ref q57, .ref q65, .ref q73, .null, .null, .null, .null, .null, .int 0, .null, .null, .null, .null, .null, .null, .null, .null]) := up_ne ef28 (fun h => nq81 (h ▸ m_h)) e_h
  have nq81_h : h ≠ q81 := fun h => nq81 (h ▸ m_h)
  have m_h : h ∈ L29 := by rw [eL29]; exact List.mem_append_left _ m_h
  have e_q8 : f28 q8 = .inl (g 1, 8000, .inr (.inl (fun _ => 0))) := up_ne ef28 (fun h => nq81 (h ▸ m_q8)) e_q8
  have nq81_q8 : q8 ≠ q81 := fun h => nq81 (h ▸ m_q8)
  have m_q8 : q8 ∈ L29 := by rw [eL29]; exact List.mem_append_left _ m_q8
  have e_q16 : f28 q16 = .inl (g 0, 8, .inl (fun _ => 0)) := up_ne ef28 (fun h => nq81 (h ▸ m_q16)) e_q16
  have nq81_q16 : q16 ≠ q81 := fun h => nq81 (h ▸ m_q16)
  have m_q16 : q16 ∈ L29 := by rw [eL29]; exact List.mem_append_left _ m_q16
  have e_q24 : f28 q24 = .inl (g 0, 30, .inl (fun _ => 0)) := up_ne ef28 (fun h => nq81 (h ▸ m_q24)) e_q24
  have nq81_q24 : q24 ≠ q81 := fun h => nq81 (h ▸ m_q24)
  have m_q24 : q24 ∈ L29 := by rw [eL29]; exact List.mem_append_left _ m_q24
  have e_q32 : f28 q32 = .inl (g 0, 30, .inl (fun _ => 0)) := up_ne ef28 (fun h => nq81 (h ▸ m_q32)) e_q32
  have nq81_q32 : q32 ≠ q81 := fun h => nq81 (h ▸ m_q32)
  have m_q32 : q32 ∈ L29 := by rw [eL29]; exact List.mem_append_left _ m_q32
  have e_q40 : f28 q40 = .inl (g 0, 30, .inl (fun _ => 0)) := up_ne ef28 (fun h => nq81 (h ▸ m_q40)) e_q40
  have nq81_q40 : q40 ≠ q81 := fun h => nq81 (h ▸ m_q40)
  have m_q40 : q40 ∈ L29 := by rw [eL29]; exact List.mem_append_left _ m_q40
  have e_q48 : f28 q48 = .inl (g 0, 30, .inl (fun _ => 0)) := up_ne ef28 (fun h => nq81 (h ▸ m_q48)) e_q48
  have nq81_q48 : q48 ≠ q81 := fun h => nq81 (h ▸ m_q48)
  have m_q48 : q48 ∈ L29 := by rw [eL29]; exact List.mem_append_left _ m_q48
  have e_q57 : f28 q57 = .inl (g 1, 30000, .inr (.inl (fun _ => 0))) := up_ne ef28 (fun h => nq81 (h ▸ m_q57)) e_q57
  have nq81_q57 : q57 ≠ q81 := fun h => nq81 (h ▸ m_q57)
  have m_q57 : q57 ∈ L29 := by rw [eL29]; exact List.mem_append_left _ m_q57
  have e_q65 : f28 q65 = .inl (g 0, 30, .inl (fun _ => 0)) := up_ne ef28 (fun h => nq81 (h ▸ m_q65)) e_q65
  have nq81_q65 : q65 ≠ q81 := fun h => nq81 (h ▸ m_q65)
  have m_q65 : q65 ∈ L29 := by rw [eL29]; exact List.mem_append_left _ m_q65
  have e_q73 : f28 q73 = .inl (g 0, 122880, .inl (fun _ => 0)) := up_ne ef28 (fun h => nq81 (h ▸ m_q73)) e_q73
  have nq81_q73 : q73 ≠ q81 := fun h => nq81 (h ▸ m_q73)
  have m_q73 : q73 ∈ L29 := by rw [eL29]; exact List.mem_append_left _ m_q73
  have e_q81 : f28 q81 = .inl (g 0, 76800, .inl (fun _ => 0)) := up_self ef28
  have m_q81 : q81 ∈ L29 := by rw [eL29]; simp
  have nzq81 : q81 ∉ L := fun h => nq81 (mono _ h)
  have fr : ∀ b, b ∈ L → b ≠ h → f28 b = f b := fun b mb nb0 => (up_ne ef28 (fun h => nzq81 (h ▸ mb)) rfl).trans (fr b mb nb0)
  have mono : ∀ b, b ∈ L → b ∈ L29 := fun b h => by rw [eL29]; exact List.mem_append_left _ (mono b h)
  refine q_putF hx hb hts in_X9 tyX9 tyX9_ok nmX9 hown hnm S m_h e_h (C := RX9) (T := TX9) (N := 23) rfl 9 (by decide) (hts (.fieldLink RX9 40 "SieveCabinetModel" "bits" "[I") (by decide +kernel)) rfl rfl rfl rfl (Nat.le_of_ble_eq_true rfl) dX9_init_83 (fun H locs S => ?_)
  obtain ⟨f30, ef30⟩ : ∃ z_, z_ = va_up f28 h (.inr (7, [.ref q8, .ref q16, .ref q24, .ref q32, .ref q40, .ref q48, .ref q57, .ref q65, .ref q73, .ref q81, .null, .null, .null, .null, .int 0, .null, .null, .null, .null, .null, .null, .null, .null])) := ⟨_, rfl⟩
  have S : PS D g (va_A (va_pl L f) sz) s.heap s L29 f30 H locs := by rw [ef30]; exact S
  have e_q8 : f30 q8 = .inl (g 1, 8000, .inr (.inl (fun _ => 0))) := up_ne ef30 (fun h => nq8_h h.symm) e_q8
  have e_q16 : f30 q16 = .inl (g 0, 8, .inl (fun _ => 0)) := up_ne ef30 (fun h => nq16_h h.symm) e_q16
  have e_q24 : f30 q24 = .inl (g 0, 30, .inl (fun _ => 0)) := up_ne ef30 (fun h => nq24_h h.symm) e_q24
  have e_q32 : f30 q32 = .inl (g 0, 30, .inl (fun _ => 0)) := up_ne ef30 (fun h => nq32_h h.symm) e_q32
  have e_q40 : f30 q40 = .inl (g 0, 30, .inl (fun _ => 0)) := up_ne ef30 (fun h => nq40_h h.symm) e_q40
  have e_q48 : f30 q48 = .inl (g 0, 30, .inl (fun _ => 0)) := up_ne ef30 (fun h => nq48_h h.symm) e_q48
  have e_q57 : f30 q57 = .inl (g 1, 30000, .inr (.inl (fun _ => 0))) := up_ne ef30 (fun h => nq57_h h.symm) e_q57
  have e_q65 : f30 q65 = .inl (g 0, 30, .inl (fun _ => 0)) := up_ne ef30 (fun h => nq65_h h.symm) e_q65
  have e_q73 : f30 q73 = .inl (g 0, 122880, .inl (fun _ => 0)) := up_ne ef30 (fun h => nq73_h h.symm) e_q73
  have e_q81 : f30 q81 = .inl (g 0, 76800, .inl (fun _ => 0)) := up_ne ef30 (fun h => nq81_h h.symm) e_q81
  have e_h : f30 h = .inr (7, [.ref q8, .ref q16, .ref q24, .ref q32, .ref q40, .ref q48, .ref q57, .ref q65, .ref q73, .ref q81, .null, .null, .null, .null, .int 0, .null, .null, .null, .null, .null, .null, .null, .null]) := up_self ef30
  have fr : ∀ b, b ∈ L → b ≠ h → f30 b = f b := fun b mb nb0 => (up_ne ef30 nb0 rfl).trans (fr b mb nb0)
  refine lv_aload_n hx hb dX9_init_86 rfl (lv_at hl 0 rfl) ?_
  refine lv_sipush (v := 600) hx hb dX9_init_87 (by decide) ?_
  refine q_newi hx hb (hts (.arrayClass .int) (by decide +kernel)) S (N' := 600) (by decide) (by decide) (by decide) (Nat.le_of_ble_eq_true rfl) (Nat.le_of_ble_eq_true rfl) dX9_init_90 (fun q90 H nq90 S => ?_)
  refine W.widen (k := 11) (n := 238438) (by decide) (by decide) ?_
  obtain ⟨f31, ef31⟩ : ∃ z_, z_ = va_up f30 q90 (.inl (g 0, 600, .inl (fun _ => 0))) := ⟨_, rfl⟩
  obtain ⟨L32, eL32⟩ : ∃ z_, z_ = L29 ++ [q90] := ⟨_, rfl⟩
  have S : PS D g (va_A (va_pl L f) sz) s.heap s L32 f31 H locs := by rw [ef31, eL32]; exact S
  have e_h : f31 h = .inr (7, [.ref q8, .ref q16, .ref q24, .ref q32, .ref q40, .ref q48, .ref q57, .ref q65, .ref q73, .ref q81, .null, .null, .null, .null, .int 0, .null, .null, .null, .null, .null, .null, .null, .null]) := up_ne ef31 (fun h => nq90 (h ▸ m_h)) e_h
  have nq90_h : h ≠ q90 := fun h => nq90 (h ▸ m_h)
  have m_h : h ∈ L32 := by rw [eL32]; exact List.mem_append_left _ m_h
  have e_q8 : f31 q8 = .inl (g 1, 8000, .inr (.inl (fun _ => 0))) := up_ne ef31 (fun h => nq90 (h ▸ m_q8)) e_q8
  have nq90_q8 : q8 ≠ q90 := fun h => nq90 (h ▸ m_q8)
  have m_q8 : q8 ∈ L32 := by rw [eL32]; exact List.mem_append_left _ m_q8
  have e_q16 : f31 q16 = .inl (g 0, 8, .inl (fun _ => 0)) := up_ne ef31 (fun h => nq90 (h ▸ m_q16)) e_q16
  have nq90_q16 : q16 ≠ q90 := fun h => nq90 (h ▸ m_q16)
  have m_q16 : q16 ∈ L32 := by rw [eL32]; exact List.mem_append_left _ m_q16
  have e_q24 : f31 q24 = .inl (g 0, 30, .inl (fun _ => 0)) := up_ne ef31 (fun h => nq90 (h ▸ m_q24)) e_q24
  have nq90_q24 : q24 ≠ q90 := fun h => nq90 (h ▸ m_q24)
  have m_q24 : q24 ∈ L32 := by rw [eL32]; exact List.mem_append_left _ m_q24
  have e_q32 : f31 q32 = .inl (g 0, 30, .inl (fun _ => 0)) := up_ne ef31 (fun h => nq90 (h ▸ m_q32)) e_q32
  have nq90_q32 : q32 ≠ q90 := fun h => nq90 (h ▸ m_q32)
  have m_q32 : q32 ∈ L32 := by rw [eL32]; exact List.mem_append_left _ m_q32
  have e_q40 : f31 q40 = .inl (g 0, 30, .inl (fun _ => 0)) := up_ne ef31 (fun h => nq90 (h ▸ m_q40)) e_q40
  have nq90_q40 : q40 ≠ q90 := fun h => nq90 (h ▸ m_q40)
  have m_q40 : q40 ∈ L32 := by rw [eL32]; exact List.mem_append_left _ m_q40
  have e_q48 : f31 q48 = .inl (g 0, 30, .inl (fun _ => 0)) := up_ne ef31 (fun h => nq90 (h ▸ m_q48)) e_q48
  have nq90_q48 : q48 ≠ q90 := fun h => nq90 (h ▸ m_q48)
  have m_q48 : q48 ∈ L32 := by rw [eL32]; exact List.mem_append_left _ m_q48
  have e_q57 : f31 q57 = .inl (g 1, 30000, .inr (.inl (fun _ => 0))) := up_ne ef31 (fun h => nq90 (h ▸ m_q57)) e_q57
  have nq90_q57 : q57 ≠ q90 := fun h => nq90 (h ▸ m_q57)
  have m_q57 : q57 ∈ L32 := by rw [eL32]; exact List.mem_append_left _ m_q57
  have e_q65 : f31 q65 = .inl (g 0, 30, .inl (fun _ => 0)) := up_ne ef31 (fun h => nq90 (h ▸ m_q65)) e_q65
  have nq90_q65 : q65 ≠ q90 := fun h => nq90 (h ▸ m_q65)
  have m_q65 : q65 ∈ L32 := by rw [eL32]; exact List.mem_append_left _ m_q65
  have e_q73 : f31 q73 = .inl (g 0, 122880, .inl (fun _ => 0)) := up_ne ef31 (fun h => nq90 (h ▸ m_q73)) e_q73
  have nq90_q73 : q73 ≠ q90 := fun h => nq90 (h ▸ m_q73)
  have m_q73 : q73 ∈ L32 := by rw [eL32]; exact List.mem_append_left _ m_q73
  have e_q81 : f31 q81 = .inl (g 0, 76800, .inl (fun _ => 0)) := up_ne ef31 (fun h => nq90 (h ▸ m_q81)) e_q81
  have nq90_q81 : q81 ≠ q90 := fun h => nq90 (h ▸ m_q81)
  have m_q81 : q81 ∈ L32 := by rw [eL32]; exact List.mem_append_left _ m_q81
  have e_q90 : f31 q90 = .inl (g 0, 600, .inl (fun _ => 0)) := up_self ef31
  have m_q90 : q90 ∈ L32 := by rw [eL32]; simp
  have nzq90 : q90 ∉ L := fun h => nq90 (mono _ h)
  have fr : ∀ b, b ∈ L → b ≠ h → f31 b = f b := fun b mb nb0 => (up_ne ef31 (fun h => nzq90 (h ▸ mb)) rfl).trans (fr b mb nb0)
  have mono : ∀ b, b ∈ L → b ∈ L32 := fun b h => by rw [eL32]; exact List.mem_append_left _ (mono b h)
  refine q_putF hx hb hts in_X9 tyX9 tyX9_ok nmX9 hown hnm S m_h e_h (C := RX9) (T := TX9) (N := 23) rfl 10 (by decide) (hts (.fieldLink RX9 43 "SieveCabinetModel" "layerSize" "[I") (by decide +kernel)) rfl rfl rfl rfl (Nat.le_of_ble_eq_true rfl) dX9_init_92 (fun H locs S => ?_)
  obtain ⟨f33, ef33⟩ : ∃ z_, z_ = va_up f31 h (.inr (7, [.ref q8, .ref q16, .ref q24, .ref q32, .ref q40, .ref q48, .ref q57, .ref q65, .ref q73, .ref q81, .ref q90, .null, .null, .null, .int 0, .null, .null, .null, .null, .null, .null, .null, .null])) := ⟨_, rfl⟩
  have S : PS D g (va_A (va_pl L f) sz) s.heap s L32 f33 H locs := by rw [ef33]; exact S
  have e_q8 : f33 q8 = .inl (g 1, 8000, .inr (.inl (fun _ => 0))) := up_ne ef33 (fun h => nq8_h h.symm) e_q8
  have e_q16 : f33 q16 = .inl (g 0, 8, .inl (fun _ => 0)) := up_ne ef33 (fun h => nq16_h h.symm) e_q16
  have e_q24 : f33 q24 = .inl (g 0, 30, .inl (fun _ => 0)) := up_ne ef33 (fun h => nq24_h h.symm) e_q24
  have e_q32 : f33 q32 = .inl (g 0, 30, .inl (fun _ => 0)) := up_ne ef33 (fun h => nq32_h h.symm) e_q32
  have e_q40 : f33 q40 = .inl (g 0, 30, .inl (fun _ => 0)) := up_ne ef33 (fun h => nq40_h h.symm) e_q40
  have e_q48 : f33 q48 = .inl (g 0, 30, .inl (fun _ => 0)) := up_ne ef33 (fun h => nq48_h h.symm) e_q48
  have e_q57 : f33 q57 = .inl (g 1, 30000, .inr (.inl (fun _ => 0))) := up_ne ef33 (fun h => nq57_h h.symm) e_q57
  have e_q65 : f33 q65 = .inl (g 0, 30, .inl (fun _ => 0)) := up_ne ef33 (fun h => nq65_h h.symm) e_q65
  have e_q73 : f33 q73 = .inl (g 0, 122880, .inl (fun _ => 0)) := up_ne ef33 (fun h => nq73_h h.symm) e_q73
  have e_q81 : f33 q81 = .inl (g 0, 76800, .inl (fun _ => 0)) := up_ne ef33 (fun h => nq81_h h.symm) e_q81
  have e_q90 : f33 q90 = .inl (g 0, 600, .inl (fun _ => 0)) := up_ne ef33 (fun h => nq90_h h.symm) e_q90
  have e_h : f33 h = .inr (7, [.ref q8, .ref q16, .ref q24, .ref q32, .ref q40, .ref q48, .ref q57, .ref q65, .ref q73, .ref q81, .ref q90, .null, .null, .null, .int 0, .null, .null, .null, .null, .null, .null, .null, .null]) := up_self ef33
  have fr : ∀ b, b ∈ L → b ≠ h → f33 b = f b := fun b mb nb0 => (up_ne ef33 nb0 rfl).trans (fr b mb nb0)
  refine lv_aload_n hx hb dX9_init_95 rfl (lv_at hl 0 rfl) ?_
  refine lv_sipush (v := 600) hx hb dX9_init_96 (by decide) ?_
  refine q_newi hx hb (hts (.arrayClass .int) (by decide +kernel)) S (N' := 600) (by decide) (by decide) (by decide) (Nat.le_of_ble_eq_true rfl) (Nat.le_of_ble_eq_true rfl) dX9_init_99 (fun q99 H nq99 S => ?_)
  refine W.widen (k := 12) (n := 239038) (by decide) (by decide) ?_
  obtain ⟨f34, ef34⟩ : ∃ z_, z_ = va_up f33 q99 (.inl (g 0, 600, .inl (fun _ => 0))) := ⟨_, rfl⟩
  obtain ⟨L35, eL35⟩ : ∃ z_, z_ = L32 ++ [q99] := ⟨_, rfl⟩
  have S : PS D g (va_A (va_pl L f) sz) s.heap s L35 f34 H locs := by rw [ef34, eL35]; exact S
  have e_h : f34 h = .inr (7, [.ref q8, .ref q16, .ref q24, .ref q32, .ref q40, .ref q48, .ref q57, .ref q65, .ref q73, .ref q81, .ref q90, .null, .null, .null, .int 0, .null, .null, .null, .null, .null, .null, .null, .null]) := up_ne ef34 (fun h => nq99 (h ▸ m_h)) e_h
  have nq99_h : h ≠ q99 := fun h => nq99 (h ▸ m_h)
  have m_h : h ∈ L35 := by rw [eL35]; exact List.mem_append_left _ m_h
  have e_q8 : f34 q8 = .inl (g 1, 8000, .inr (.inl (fun _ => 0))) := up_ne ef34 (fun h => nq99 (h ▸ m_q8)) e_q8
  have nq99_q8 : q8 ≠ q99 := fun h => nq99 (h ▸ m_q8)
  have m_q8 : q8 ∈ L35 := by rw [eL35]; exact List.mem_append_left _ m_q8
  have e_q16 : f34 q16 = .inl (g 0, 8, .inl (fun _ => 0)) := up_ne ef34 (fun h => nq99 (h ▸ m_q16)) e_q16
  have nq99_q16 : q16 ≠ q99 := fun h => nq99 (h ▸ m_q16)
  have m_q16 : q16 ∈ L35 := by rw [eL35]; exact List.mem_append_left _ m_q16
  have e_q24 : f34 q24 = .inl (g 0, 30, .inl (fun _ => 0)) := up_ne ef34 (fun h => nq99 (h ▸ m_q24)) e_q24
  have nq99_q24 : q24 ≠ q99 := fun h => nq99 (h ▸ m_q24)
  have m_q24 : q24 ∈ L35 := by rw [eL35]; exact List.mem_append_left _ m_q24
  have e_q32 : f34 q32 = .inl (g 0, 30, .inl (fun _ => 0)) := up_ne ef34 (fun h => nq99 (h ▸ m_q32)) e_q32
  have nq99_q32 : q32 ≠ q99 := fun h => nq99 (h ▸ m_q32)
  have m_q32 : q32 ∈ L35 := by rw [eL35]; exact List.mem_append_left _ m_q32
  have e_q40 : f34 q40 = .inl (g 0, 30, .inl (fun _ => 0)) := up_ne ef34 (fun h => nq99 (h ▸ m_q40)) e_q40
  have nq99_q40 : q40 ≠ q99 := fun h => nq99 (h ▸ m_q40)
  have m_q40 : q40 ∈ L35 := by rw [eL35]; exact List.mem_append_left _ m_q40
  have e_q48 : f34 q48 = .inl (g 0, 30, .inl (fun _ => 0)) := up_ne ef34 (fun h => nq99 (h ▸ m_q48)) e_q48
  have nq99_q48 : q48 ≠ q99 := fun h => nq99 (h ▸ m_q48)
  have m_q48 : q48 ∈ L35 := by rw [eL35]; exact List.mem_append_left _ m_q48
  have e_q57 : f34 q57 = .inl (g 1, 30000, .inr (.inl (fun _ => 0))) := up_ne ef34 (fun h => nq99 (h ▸ m_q57)) e_q57
  have nq99_q57 : q57 ≠ q99 := fun h => nq99 (h ▸ m_q57)
  have m_q57 : q57 ∈ L35 := by rw [eL35]; exact List.mem_append_left _ m_q57
  have e_q65 : f34 q65 = .inl (g 0, 30, .inl (fun _ => 0)) := up_ne ef34 (fun h => nq99 (h ▸ m_q65)) e_q65
  have nq99_q65 : q65 ≠ q99 := fun h => nq99 (h ▸ m_q65)
  have m_q65 : q65 ∈ L35 := by rw [eL35]; exact List.mem_append_left _ m_q65
  have e_q73 : f34 q73 = .inl (g 0, 122880, .inl (fun _ => 0)) := up_ne ef34 (fun h => nq99 (h ▸ m_q73)) e_q73
  have nq99_q73 : q73 ≠ q99 := fun h => nq99 (h ▸ m_q73)
  have m_q73 : q73 ∈ L35 := by rw [eL35]; exact List.mem_append_left _ m_q73
  have e_q81 : f34 q81 = .inl (g 0, 76800, .inl (fun _ => 0)) := up_ne ef34 (fun h => nq99 (h ▸ m_q81)) e_q81
  have nq99_q81 : q81 ≠ q99 := fun h => nq99 (h ▸ m_q81)
  have m_q81 : q81 ∈ L35 := by rw [eL35]; exact List.mem_append_left _ m_q81
  have e_q90 : f34 q90 = .inl (g 0, 600, .inl (fun _ => 0)) := up_ne ef34 (fun h => nq99 (h ▸ m_q90)) e_q90
  have nq99_q90 : q90 ≠ q99 := fun h => nq99 (h ▸ m_q90)
  have m_q90 : q90 ∈ L35 := by rw [eL35]; exact List.mem_append_left _ m_q90
  have e_q99 : f34 q99 = .inl (g 0, 600, .inl (fun _ => 0)) := up_self ef34
  have m_q99 : q99 ∈ L35 := by rw [eL35]; simp
  have nzq99 : q99 ∉ L := fun h => nq99 (mono _ h)
  have fr : ∀ b, b ∈ L → b ≠ h → f34 b = f b := fun b mb nb0 => (up_ne ef34 (fun h => nzq99 (h ▸ mb)) rfl).trans (fr b mb nb0)
  have mono : ∀ b, b ∈ L → b ∈ L35 := fun b h => by rw [eL35]; exact List.mem_append_left _ (mono b h)
  refine q_putF hx hb hts in_X9 tyX9 tyX9_ok nmX9 hown hnm S m_h e_h (C := RX9) (T := TX9) (N := 23) rfl 11 (by decide) (hts (.fieldLink RX9 46 "SieveCabinetModel" "layerCame" "[I") (by decide +kernel)) rfl rfl rfl rfl (Nat.le_of_ble_eq_true rfl) dX9_init_101 (fun H locs S => ?_)
  obtain ⟨f36, ef36⟩ : ∃ z_, z_ = va_up f34 h (.inr (7, [.ref q8, .ref q16, .ref q24, .ref q32, .ref q40, .ref q48, .ref q57, .ref q65, .ref q73, .ref q81, .ref q90, .ref q99, .null, .null, .int 0, .null, .null, .null, .null, .null, .null, .null, .null])) := ⟨_, rfl⟩
  have S : PS D g (va_A (va_pl L f) sz) s.heap s L35 f36 H locs := by rw [ef36]; exact S
  have e_q8 : f36 q8 = .inl (g 1, 8000, .inr (.inl (fun _ => 0))) := up_ne ef36 (fun h => nq8_h h.symm) e_q8
  have e_q16 : f36 q16 = .inl (g 0, 8, .inl (fun _ => 0)) := up_ne ef36 (fun h => nq16_h h.symm) e_q16
  have e_q24 : f36 q24 = .inl (g 0, 30, .inl (fun _ => 0)) := up_ne ef36 (fun h => nq24_h h.symm) e_q24
  have e_q32 : f36 q32 = .inl (g 0, 30, .inl (fun _ => 0)) := up_ne ef36 (fun h => nq32_h h.symm) e_q32
  have e_q40 : f36 q40 = .inl (g 0, 30, .inl (fun _ => 0)) := up_ne ef36 (fun h => nq40_h h.symm) e_q40
  have e_q48 : f36 q48 = .inl (g 0, 30, .inl (fun _ => 0)) := up_ne ef36 (fun h => nq48_h h.symm) e_q48
  have e_q57 : f36 q57 = .inl (g 1, 30000, .inr (.inl (fun _ => 0))) := up_ne ef36 (fun h => nq57_h h.symm) e_q57
  have e_q65 : f36 q65 = .inl (g 0, 30, .inl (fun _ => 0)) := up_ne ef36 (fun h => nq65_h h.symm) e_q65
  have e_q73 : f36 q73 = .inl (g 0, 122880, .inl (fun _ => 0)) := up_ne ef36 (fun h => nq73_h h.symm) e_q73
  have e_q81 : f36 q81 = .inl (g 0, 76800, .inl (fun _ => 0)) := up_ne ef36 (fun h => nq81_h h.symm) e_q81
  have e_q90 : f36 q90 = .inl (g 0, 600, .inl (fun _ => 0)) := up_ne ef36 (fun h => nq90_h h.symm) e_q90
  have e_q99 : f36 q99 = .inl (g 0, 600, .inl (fun _ => 0)) := up_ne ef36 (fun h => nq99_h h.symm) e_q99
  have e_h : f36 h = .inr (7, [.ref q8, .ref q16, .ref q24, .ref q32, .ref q40, .ref q48, .ref q57, .ref q65, .ref q73, .ref q81, .ref q90, .ref q99, .null, .null, .int 0, .null, .null, .null, .null, .null, .null, .null, .null]) := up_self ef36
  have fr : ∀ b, b ∈ L → b ≠ h → f36 b = f b := fun b mb nb0 => (up_ne ef36 nb0 rfl).trans (fr b mb nb0)
  refine lv_aload_n hx hb dX9_init_104 rfl (lv_at hl 0 rfl) ?_
  refine lv_sipush (v := 30000) hx hb dX9_init_105 (by decide) ?_
  refine q_newl hx hb (hts (.arrayClass .long) (by decide +kernel)) S (N' := 30000) (by decide) (by decide) (by decide) (Nat.le_of_ble_eq_true rfl) (Nat.le_of_ble_eq_true rfl) dX9_init_108 (fun q108 H nq108 S => ?_)
  refine W.widen (k := 13) (n := 269038) (by decide) (by decide) ?_
  obtain ⟨f37, ef37⟩ : ∃ z_, z_ = va_up f36 q108 (.inl (g 1, 30000, .inr (.inl (fun _ => 0)))) := ⟨_, rfl⟩
  obtain ⟨L38, eL38⟩ : ∃ z_, z_ = L35 ++ [q108] := ⟨_, rfl⟩
  have S : PS D g (va_A (va_pl L f) sz) s.heap s L38 f37 H locs := by rw [ef37, eL38]; exact S
  have e_h : f37 h = .inr (7, [.ref q8, .ref q16, .ref q24, .ref q32, .ref q40, .ref q48, .ref q57, .ref q65, .ref q73, .ref q81, .ref q90, .ref q99, .null, .null, .int 0, .null, .null, .null, .null, .null, .null, .null, .null]) := up_ne ef37 (fun h => nq108 (h ▸ m_h)) e_h
  have nq108_h : h ≠ q108 := fun h => nq108 (h ▸ m_h)
  have m_h : h ∈ L38 := by rw [eL38]; exact List.mem_append_left _ m_h
  have e_q8 : f37 q8 = .inl (g 1, 8000, .inr (.inl (fun _ => 0))) := up_ne ef37 (fun h => nq108 (h ▸ m_q8)) e_q8
  have nq108_q8 : q8 ≠ q108 := fun h => nq108 (h ▸ m_q8)
  have m_q8 : q8 ∈ L38 := by rw [eL38]; exact List.mem_append_left _ m_q8
  have e_q16 : f37 q16 = .inl (g 0, 8, .inl (fun _ => 0)) := up_ne ef37 (fun h => nq108 (h ▸ m_q16)) e_q16
  have nq108_q16 : q16 ≠ q108 := fun h => nq108 (h ▸ m_q16)
  have m_q16 : q16 ∈ L38 := by rw [eL38]; exact List.mem_append_left _ m_q16
  have e_q24 : f37 q24 = .inl (g 0, 30, .inl (fun _ => 0)) := up_ne ef37 (fun h => nq108 (h ▸ m_q24)) e_q24
  have nq108_q24 : q24 ≠ q108 := fun h => nq108 (h ▸ m_q24)
  have m_q24 : q24 ∈ L38 := by rw [eL38]; exact List.mem_append_left _ m_q24
  have e_q32 : f37 q32 = .inl (g 0, 30, .inl (fun _ => 0)) := up_ne ef37 (fun h => nq108 (h ▸ m_q32)) e_q32
  have nq108_q32 : q32 ≠ q108 := fun h => nq108 (h ▸ m_q32)
  have m_q32 : q32 ∈ L38 := by rw [eL38]; exact List.mem_append_left _ m_q32
  have e_q40 : f37 q40 = .inl (g 0, 30, .inl (fun _ => 0)) := up_ne ef37 (fun h => nq108 (h ▸ m_q40)) e_q40
  have nq108_q40 : q40 ≠ q108 := fun h => nq108 (h ▸ m_q40)
  have m_q40 : q40 ∈ L38 := by rw [eL38]; exact List.mem_append_left _ m_q40
  have e_q48 : f37 q48 = .inl (g 0, 30, .inl (fun _ => 0)) := up_ne ef37 (fun h => nq108 (h ▸ m_q48)) e_q48
  have nq108_q48 : q48 ≠ q108 := fun h => nq108 (h ▸ m_q48)
  have m_q48 : q48 ∈ L38 := by rw [eL38]; exact List.mem_append_left _ m_q48
  have e_q57 : f37 q57 = .inl (g 1, 30000, .inr (.inl (fun _ => 0))) := up_ne ef37 (fun h => nq108 (h ▸ m_q57)) e_q57
  have nq108_q57 : q57 ≠ q108 := fun h => nq108 (h ▸ m_q57)
  have m_q57 : q57 ∈ L38 := by rw [eL38]; exact List.mem_append_left _ m_q57
  have e_q65 : f37 q65 = .inl (g 0, 30, .inl (fun _ => 0)) := up_ne ef37 (fun h => nq108 (h ▸ m_q65)) e_q65
  have nq108_q65 : q65 ≠ q108 := fun h => nq108 (h ▸ m_q65)
  have m_q65 : q65 ∈ L38 := by rw [eL38]; exact List.mem_append_left _ m_q65
  have e_q73 : f37 q73 = .inl (g 0, 122880, .inl (fun _ => 0)) := up_ne ef37 (fun h => nq108 (h ▸ m_q73)) e_q73
  have nq108_q73 : q73 ≠ q108 := fun h => nq108 (h ▸ m_q73)
  have m_q73 : q73 ∈ L38 := by rw [eL38]; exact List.mem_append_left _ m_q73
  have e_q81 : f37 q81 = .inl (g 0, 76800, .inl (fun _ => 0)) := up_ne ef37 (fun h => nq108 (h ▸ m_q81)) e_q81
  have nq108_q81 : q81 ≠ q108 := fun h => nq108 (h ▸ m_q81)
  have m_q81 : q81 ∈ L38 := by rw [eL38]; exact List.mem_append_left _ m_q81
  have e_q90 : f37 q90 = .inl (g 0, 600, .inl (fun _ => 0)) := up_ne ef37 (fun h => nq108 (h ▸ m_q90)) e_q90
  have nq108_q90 : q90 ≠ q108 := fun h => nq108 (h ▸ m_q90)
  have m_q90 : q90 ∈ L38 := by rw [eL38]; exact List.mem_append_left _ m_q90
  have e_q99 : f37 q99 = .inl (g 0, 600, .inl (fun _ => 0)) := up_ne ef37 (fun h => nq108 (h ▸ m_q99)) e_q99
  have nq108_q99 : q99 ≠ q108 := fun h => nq108 (h ▸ m_q99)
  have m_q99 : q99 ∈ L38 := by rw [eL38]; exact List.mem_append_left _ m_q99
  have e_q108 : f37 q108 = .inl (g 1, 30000, .inr (.inl (fun _ => 0))) := up_self ef37
  have m_q108 : q108 ∈ L38 := by rw [eL38]; simp
  have nzq108 : q108 ∉ L := fun h => nq108 (mono _ h)
  have fr : ∀ b, b ∈ L → b ≠ h → f37 b = f b := fun b mb nb0 => (up_ne ef37 (fun h => nzq108 (h ▸ mb)) rfl).trans (fr b mb nb0)
  have mono : ∀ b, b ∈ L → b ∈ L38 := fun b h => by rw [eL38]; exact List.mem_append_left _ (mono b h)
  refine q_putF hx hb hts in_X9 tyX9 tyX9_ok nmX9 hown hnm S m_h e_h (C := RX9) (T := TX9) (N := 23) rfl 12 (by decide) (hts (.fieldLink RX9 49 "SieveCabinetModel" "rest" "[J") (by decide +kernel)) rfl rfl rfl rfl (Nat.le_of_ble_eq_true rfl) dX9_init_110 (fun H locs S => ?_)
  obtain ⟨f39, ef39⟩ : ∃ z_, z_ = va_up f37 h (.inr (7, [.ref q8, .ref q16, .ref q24, .ref q32, .ref q40, .ref q48, .ref q57, .ref q65, .ref q73, .ref q81, .ref q90, .ref q99, .ref q108, .null, .int 0, .null, .null, .null, .null, .null, .null, .null, .null])) := ⟨_, rfl⟩
  have S : PS D g (va_A (va_pl L f) sz) s.heap s L38 f39 H locs := by rw [ef39]; exact S
  have e_q8 : f39 q8 = .inl (g 1, 8000, .inr (.inl (fun _ => 0))) := up_ne ef39 (fun h => nq8_h h.symm) e_q8
  have e_q16 : f39 q16 = .inl (g 0, 8, .inl (fun _ => 0)) := up_ne ef39 (fun h => nq16_h h.symm) e_q16
  have e_q24 : f39 q24 = .inl (g 0, 30, .inl (fun _ => 0)) := up_ne ef39 (fun h => nq24_h h.symm) e_q24
  have e_q32 : f39 q32 = .inl (g 0, 30, .inl (fun _ => 0)) := up_ne ef39 (fun h => nq32_h h.symm) e_q32
  have e_q40 : f39 q40 = .inl (g 0, 30, .inl (fun _ => 0)) := up_ne ef39 (fun h => nq40_h h.symm) e_q40
  have e_q48 : f39 q48 = .inl (g 0, 30, .inl (fun _ => 0)) := up_ne ef39 (fun h => nq48_h h.symm) e_q48
  have e_q57 : f39 q57 = .inl (g 1, 30000, .inr (.inl (fun _ => 0))) := up_ne ef39 (fun h => nq57_h h.symm) e_q57
  have e_q65 : f39 q65 = .inl (g 0, 30, .inl (fun _ => 0)) := up_ne ef39 (fun h => nq65_h h.symm) e_q65
  have e_q73 : f39 q73 = .inl (g 0, 122880, .inl (fun _ => 0)) := up_ne ef39 (fun h => nq73_h h.symm) e_q73
  have e_q81 : f39 q81 = .inl (g 0, 76800, .inl (fun _ => 0)) := up_ne ef39 (fun h => nq81_h h.symm) e_q81
  have e_q90 : f39 q90 = .inl (g 0, 600, .inl (fun _ => 0)) := up_ne ef39 (fun h => nq90_h h.symm) e_q90
  have e_q99 : f39 q99 = .inl (g 0, 600, .inl (fun _ => 0)) := up_ne ef39 (fun h => nq99_h h.symm) e_q99
  have e_q108 : f39 q108 = .inl (g 1, 30000, .inr (.inl (fun _ => 0))) := up_ne ef39 (fun h => nq108_h h.symm) e_q108
  have e_h : f39 h = .inr (7, [.ref q8, .ref q16, .ref q24, .ref q32, .ref q40, .ref q48, .ref q57, .ref q65, .ref q73, .ref q81, .ref q90, .ref q99, .ref q108, .null, .int 0, .null, .null, .null, .null, .null, .null, .null, .null]) := up_self ef39
  have fr : ∀ b, b ∈ L → b ≠ h → f39 b = f b := fun b mb nb0 => (up_ne ef39 nb0 rfl).trans (fr b mb nb0)
  refine lv_aload_n hx hb dX9_init_113 rfl (lv_at hl 0 rfl) ?_
  refine lv_bipush (v := 30) hx hb dX9_init_114 (by decide) ?_
  refine q_newi hx hb (hts (.arrayClass .int) (by decide +kernel)) S (N' := 30) (by decide) (by decide) (by decide) (Nat.le_of_ble_eq_true rfl) (Nat.le_of_ble_eq_true rfl) dX9_init_116 (fun q116 H nq116 S => ?_)
  refine W.widen (k := 14) (n := 269068) (by decide) (by decide) ?_
  obtain ⟨f40, ef40⟩ : ∃ z_, z_ = va_up f39 q116 (.inl (g 0, 30, .inl (fun _ => 0))) := ⟨_, rfl⟩
  obtain ⟨L41, eL41⟩ : ∃ z_, z_ = L38 ++ [q116] := ⟨_, rfl⟩
  have S : PS D g (va_A (va_pl L f) sz) s.heap s L41 f40 H locs := by rw [ef40, eL41]; exact S
  have e_h : f40 h = .inr (7, [.ref q8, .ref q16, .ref q24, .ref q32, .ref q40, .ref q48, .ref q57, .ref q65, .ref q73, .ref q81, .ref q90, .ref q99, .ref q108, .null, .int 0, .null, .null, .null, .null, .null, .null, .null, .null]) := up_ne ef40 (fun h => nq116 (h ▸ m_h)) e_h
  have nq116_h : h ≠ q116 := fun h => nq116 (h ▸ m_h)
  have m_h : h ∈ L41 := by rw [eL41]; exact List.mem_append_left _ m_h
  have e_q8 : f40 q8 = .inl (g 1, 8000, .inr (.inl (fun _ => 0))) := up_ne ef40 (fun h => nq116 (h ▸ m_q8)) e_q8
  have nq116_q8 : q8 ≠ q116 := fun h => nq116 (h ▸ m_q8)
  have m_q8 : q8 ∈ L41 := by rw [eL41]; exact List.mem_append_left _ m_q8
  have e_q16 : f40 q16 = .inl (g 0, 8, .inl (fun _ => 0)) := up_ne ef40 (fun h => nq116 (h ▸ m_q16)) e_q16
  have nq116_q16 : q16 ≠ q116 := fun h => nq116 (h ▸ m_q16)
  have m_q16 : q16 ∈ L41 := by rw [eL41]; exact List.mem_append_left _ m_q16
  have e_q24 : f40 q24 = .inl (g 0, 30, .inl (fun _ => 0)) := up_ne ef40 (fun h => nq116 (h ▸ m_q24)) e_q24
  have nq116_q24 : q24 ≠ q116 := fun h => nq116 (h ▸ m_q24)
  have m_q24 : q24 ∈ L41 := by rw [eL41]; exact List.mem_append_left _ m_q24
  have e_q32 : f40 q32 = .inl (g 0, 30, .inl (fun _ => 0)) := up_ne ef40 (fun h => nq116 (h ▸ m_q32)) e_q32
  have nq116_q32 : q32 ≠ q116 := fun h => nq116 (h ▸ m_q32)
  have m_q32 : q32 ∈ L41 := by rw [eL41]; exact List.mem_append_left _ m_q32
  have e_q40 : f40 q40 = .inl (g 0, 30, .inl (fun _ => 0)) := up_ne ef40 (fun h => nq116 (h ▸ m_q40)) e_q40
  have nq116_q40 : q40 ≠ q116 := fun h => nq116 (h ▸ m_q40)
  have m_q40 : q40 ∈ L41 := by rw [eL41]; exact List.mem_append_left _ m_q40
  have e_q48 : f40 q48 = .inl (g 0, 30, .inl (fun _ => 0)) := up_ne ef40 (fun h => nq116 (h ▸ m_q48)) e_q48
  have nq116_q48 : q48 ≠ q116 := fun h => nq116 (h ▸ m_q48)
  have m_q48 : q48 ∈ L41 := by rw [eL41]; exact List.mem_append_left _ m_q48
  have e_q57 : f40 q57 = .inl (g 1, 30000, .inr (.inl (fun _ => 0))) := up_ne ef40 (fun h => nq116 (h ▸ m_q57)) e_q57
  have nq116_q57 : q57 ≠ q116 := fun h => nq116 (h ▸ m_q57)
  have m_q57 : q57 ∈ L41 := by rw [eL41]; exact List.mem_append_left _ m_q57
  have e_q65 : f40 q65 = .inl (g 0, 30, .inl (fun _ => 0)) := up_ne ef40 (fun h => nq116 (h ▸ m_q65)) e_q65
  have nq116_q65 : q65 ≠ q116 := fun h => nq116 (h ▸ m_q65)
  have m_q65 : q65 ∈ L41 := by rw [eL41]; exact List.mem_append_left _ m_q65
  have e_q73 : f40 q73 = .inl (g 0, 122880, .inl (fun _ => 0)) := up_ne ef40 (fun h => nq116 (h ▸ m_q73)) e_q73
  have nq116_q73 : q73 ≠ q116 := fun h => nq116 (h ▸ m_q73)
  have m_q73 : q73 ∈ L41 := by rw [eL41]; exact List.mem_append_left _ m_q73
  have e_q81 : f40 q81 = .inl (g 0, 76800, .inl (fun _ => 0)) := up_ne ef40 (fun h => nq116 (h ▸ m_q81)) e_q81
  have nq116_q81 : q81 ≠ q116 := fun h => nq116 (h ▸ m_q81)
  have m_q81 : q81 ∈ L41 := by rw [eL41]; exact List.mem_append_left _ m_q81
  have e_q90 : f40 q90 = .inl (g 0, 600, .inl (fun _ => 0)) := up_ne ef40 (fun h => nq116 (h ▸ m_q90)) e_q90
  have nq116_q90 : q90 ≠ q116 := fun h => nq116 (h ▸ m_q90)
  have m_q90 : q90 ∈ L41 := by rw [eL41]; exact List.mem_append_left _ m_q90
  have e_q99 : f40 q99 = .inl (g 0, 600, .inl (fun _ => 0)) := up_ne ef40 (fun h => nq116 (h ▸ m_q99)) e_q99
  have nq116_q99 : q99 ≠ q116 := fun h => nq116 (h ▸ m_q99)
  have m_q99 : q99 ∈ L41 := by rw [eL41]; exact List.mem_append_left _ m_q99
  have e_q108 : f40 q108 = .inl (g 1, 30000, .inr (.inl (fun _ => 0))) := up_ne ef40 (fun h => nq116 (h ▸ m_q108)) e_q108
  have nq116_q108 : q108 ≠ q116 := fun h => nq116 (h ▸ m_q108)
  have m_q108 : q108 ∈ L41 := by rw [eL41]; exact List.mem_append_left _ m_q108
  have e_q116 : f40 q116 = .inl (g 0, 30, .inl (fun _ => 0)) := up_self ef40
  have m_q116 : q116 ∈ L41 := by rw [eL41]; simp
  have nzq116 : q116 ∉ L := fun h => nq116 (mono _ h)
  have fr : ∀ b, b ∈ L → b ≠ h → f40 b = f b := fun b mb nb0 => (up_ne ef40 (fun h => nzq116 (h ▸ mb)) rfl).trans (fr b mb nb0)
  have mono : ∀ b, b ∈ L → b ∈ L41 := fun b h => by rw [eL41]; exact List.mem_append_left _ (mono b h)
  refine q_putF hx hb hts in_X9 tyX9 tyX9_ok nmX9 hown hnm S m_h e_h (C := RX9) (T := TX9) (N := 23) rfl 13 (by decide) (hts (.fieldLink RX9 52 "SieveCabinetModel" "restMany" "[I") (by decide +kernel)) rfl rfl rfl rfl (Nat.le_of_ble_eq_true rfl) dX9_init_118 (fun H locs S => ?_)
  obtain ⟨f42, ef42⟩ : ∃ z_, z_ = va_up f40 h (.inr (7, [.ref q8, .ref q16, .ref q24, .ref q32, .ref q40, .ref q48, .ref q57, .ref q65, .ref q73, .ref q81, .ref q90, .ref q99, .ref q108, .ref q116, .int 0, .null, .null, .null, .null, .null, .null, .null, .null])) := ⟨_, rfl⟩
  have S : PS D g (va_A (va_pl L f) sz) s.heap s L41 f42 H locs := by rw [ef42]; exact S
  have e_q8 : f42 q8 = .inl (g 1, 8000, .inr (.inl (fun _ => 0))) := up_ne ef42 (fun h => nq8_h h.symm) e_q8
  have e_q16 : f42 q16 = .inl (g 0, 8, .inl (fun _ => 0)) := up_ne ef42 (fun h => nq16_h h.symm) e_q16
  have e_q24 : f42 q24 = .inl (g 0, 30, .inl (fun _ => 0)) := up_ne ef42 (fun h => nq24_h h.symm) e_q24
  have e_q32 : f42 q32 = .inl (g 0, 30, .inl (fun _ => 0)) := up_ne ef42 (fun h => nq32_h h.symm) e_q32
  have e_q40 : f42 q40 = .inl (g 0, 30, .inl (fun _ => 0)) := up_ne ef42 (fun h => nq40_h h.symm) e_q40
  have e_q48 : f42 q48 = .inl (g 0, 30, .inl (fun _ => 0)) := up_ne ef42 (fun h => nq48_h h.symm) e_q48
  have e_q57 : f42 q57 = .inl (g 1, 30000, .inr (.inl (fun _ => 0))) := up_ne ef42 (fun h => nq57_h h.symm) e_q57
  have e_q65 : f42 q65 = .inl (g 0, 30, .inl (fun _ => 0)) := up_ne ef42 (fun h => nq65_h h.symm) e_q65
  have e_q73 : f42 q73 = .inl (g 0, 122880, .inl (fun _ => 0)) := up_ne ef42 (fun h => nq73_h h.symm) e_q73
  have e_q81 : f42 q81 = .inl (g 0, 76800, .inl (fun _ => 0)) := up_ne ef42 (fun h => nq81_h h.symm) e_q81
  have e_q90 : f42 q90 = .inl (g 0, 600, .inl (fun _ => 0)) := up_ne ef42 (fun h => nq90_h h.symm) e_q90
  have e_q99 : f42 q99 = .inl (g 0, 600, .inl (fun _ => 0)) := up_ne ef42 (fun h => nq99_h h.symm) e_q99
  have e_q108 : f42 q108 = .inl (g 1, 30000, .inr (.inl (fun _ => 0))) := up_ne ef42 (fun h => nq108_h h.symm) e_q108
  have e_q116 : f42 q116 = .inl (g 0, 30, .inl (fun _ => 0)) := up_ne ef42 (fun h => nq116_h h.symm) e_q116
  have e_h : f42 h = .inr (7, [.ref q8, .ref q16, .ref q24, .ref q32, .ref q40, .ref q48, .ref q57, .ref q65, .ref q73, .ref q81, .ref q90, .ref q99, .ref q108, .ref q116, .int 0, .null, .null, .null, .null, .null, .null, .null, .null]) := up_self ef42
  have fr : ∀ b, b ∈ L → b ≠ h → f42 b = f b := fun b mb nb0 => (up_ne ef42 nb0 rfl).trans (fr b mb nb0)
  refine lv_aload_n hx hb dX9_init_121 rfl (lv_at hl 0 rfl) ?_
  refine lv_sipush (v := 1000) hx hb dX9_init_122 (by decide) ?_
  refine q_newl hx hb (hts (.arrayClass .long) (by decide +kernel)) S (N' := 1000) (by decide) (by decide) (by decide) (Nat.le_of_ble_eq_true rfl) (Nat.le_of_ble_eq_true rfl) dX9_init_125 (fun q125 H nq125 S => ?_)
  refine W.widen (k := 15) (n := 270068) (by decide) (by decide) ?_
  obtain ⟨f43, ef43⟩ : ∃ z_, z_ = va_up f42 q125 (.inl (g 1, 1000, .inr (.inl (fun _ => 0)))) := ⟨_, rfl⟩
  obtain ⟨L44, eL44⟩ : ∃ z_, z_ = L41 ++ [q125] := ⟨_, rfl⟩
  have S : PS D g (va_A (va_pl L f) sz) s.heap s L44 f43 H locs := by rw [ef43, eL44]; exact S
  have e_h : f43 h = .inr (7, [.ref q8, .ref q16, .ref q24, .ref q32, .ref q40, .ref q48, .ref q57, .ref q65, .ref q73, .ref q81, .ref q90, .ref q99, .ref q108, .ref q116, .int 0, .null, .null, .null, .null, .null, .null, .null, .null]) := up_ne ef43 (fun h => nq125 (h ▸ m_h)) e_h
  have nq125_h : h ≠ q125 := fun h => nq125 (h ▸ m_h)
  have m_h : h ∈ L44 := by rw [eL44]; exact List.mem_append_left _ m_h
  have e_q8 : f43 q8 = .inl (g 1, 8000, .inr (.inl (fun _ => 0))) := up_ne ef43 (fun h => nq125 (h ▸ m_q8)) e_q8
  have nq125_q8 : q8 ≠ q125 := fun h => nq125 (h ▸ m_q8)
  have m_q8 : q8 ∈ L44 := by rw [eL44]; exact List.mem_append_left _ m_q8
  have e_q16 : f43 q16 = .inl (g 0, 8, .inl (fun _ => 0)) := up_ne ef43 (fun h => nq125 (h ▸ m_q16)) e_q16
  have nq125_q16 : q16 ≠ q125 := fun h => nq125 (h ▸ m_q16)
  have m_q16 : q16 ∈ L44 := by rw [eL44]; exact List.mem_append_left _ m_q16
  have e_q24 : f43 q24 = .inl (g 0, 30, .inl (fun _ => 0)) := up_ne ef43 (fun h => nq125 (h ▸ m_q24)) e_q24
  have nq125_q24 : q24 ≠ q125 := fun h => nq125 (h ▸ m_q24)
  have m_q24 : q24 ∈ L44 := by rw [eL44]; exact List.mem_append_left _ m_q24
  have e_q32 : f43 q32 = .inl (g 0, 30, .inl (fun _ => 0)) := up_ne ef43 (fun h => nq125 (h ▸ m_q32)) e_q32
  have nq125_q32 : q32 ≠ q125 := fun h => nq125 (h ▸ m_q32)
  have m_q32 : q32 ∈ L44 := by rw [eL44]; exact List.mem_append_left _ m_q32
  have e_q40 : f43 q40 = .inl (g 0, 30, .inl (fun _ => 0)) := up_ne ef43 (fun h => nq125 (h ▸ m_q40)) e_q40
  have nq125_q40 : q40 ≠ q125 := fun h => nq125 (h ▸ m_q40)
  have m_q40 : q40 ∈ L44 := by rw [eL44]; exact List.mem_append_left _ m_q40
  have e_q48 : f43 q48 = .inl (g 0, 30, .inl (fun _ => 0)) := up_ne ef43 (fun h => nq125 (h ▸ m_q48)) e_q48
  have nq125_q48 : q48 ≠ q125 := fun h => nq125 (h ▸ m_q48)
  have m_q48 : q48 ∈ L44 := by rw [eL44]; exact List.mem_append_left _ m_q48
  have e_q57 : f43 q57 = .inl (g 1, 30000, .inr (.inl (fun _ => 0))) := up_ne ef43 (fun h => nq125 (h ▸ m_q57)) e_q57
  have nq125_q57 : q57 ≠ q125 := fun h => nq125 (h ▸ m_q57)
  have m_q57 : q57 ∈ L44 := by rw [eL44]; exact List.mem_append_left _ m_q57
  have e_q65 : f43 q65 = .inl (g 0, 30, .inl (fun _ => 0)) := up_ne ef43 (fun h => nq125 (h ▸ m_q65)) e_q65
  have nq125_q65 : q65 ≠ q125 := fun h => nq125 (h ▸ m_q65)
  have m_q65 : q65 ∈ L44 := by rw [eL44]; exact List.mem_append_left _ m_q65
  have e_q73 : f43 q73 = .inl (g 0, 122880, .inl (fun _ => 0)) := up_ne ef43 (fun h => nq125 (h ▸ m_q73)) e_q73
  have nq125_q73 : q73 ≠ q125 := fun h => nq125 (h ▸ m_q73)
  have m_q73 : q73 ∈ L44 := by rw [eL44]; exact List.mem_append_left _ m_q73
  have e_q81 : f43 q81 = .inl (g 0, 76800, .inl (fun _ => 0)) := up_ne ef43 (fun h => nq125 (h ▸ m_q81)) e_q81
  have nq125_q81 : q81 ≠ q125 := fun h => nq125 (h ▸ m_q81)
  have m_q81 : q81 ∈ L44 := by rw [eL44]; exact List.mem_append_left _ m_q81
  have e_q90 : f43 q90 = .inl (g 0, 600, .inl (fun _ => 0)) := up_ne ef43 (fun h => nq125 (h ▸ m_q90)) e_q90
  have nq125_q90 : q90 ≠ q125 := fun h => nq125 (h ▸ m_q90)
  have m_q90 : q90 ∈ L44 := by rw [eL44]; exact List.mem_append_left _ m_q90
  have e_q99 : f43 q99 = .inl (g 0, 600, .inl (fun _ => 0)) := up_ne ef43 (fun h => nq125 (h ▸ m_q99)) e_q99
  have nq125_q99 : q99 ≠ q125 := fun h => nq125 (h ▸ m_q99)
  have m_q99 : q99 ∈ L44 := by rw [eL44]; exact List.mem_append_left _ m_q99
  have e_q108 : f43 q108 = .inl (g 1, 30000, .inr (.inl (fun _ => 0))) := up_ne ef43 (fun h => nq125 (h ▸ m_q108)) e_q108
  have nq125_q108 : q108 ≠ q125 := fun h => nq125 (h ▸ m_q108)
  have m_q108 : q108 ∈ L44 := by rw [eL44]; exact List.mem_append_left _ m_q108
  have e_q116 : f43 q116 = .inl (g 0, 30, .inl (fun _ => 0)) := up_ne ef43 (fun h => nq125 (h ▸ m_q116)) e_q116
  have nq125_q116 : q116 ≠ q125 := fun h => nq125 (h ▸ m_q116)
  have m_q116 : q116 ∈ L44 := by rw [eL44]; exact List.mem_append_left _ m_q116
  have e_q125 : f43 q125 = .inl (g 1, 1000, .inr (.inl (fun _ => 0))) := up_self ef43
  have m_q125 : q125 ∈ L44 := by rw [eL44]; simp
  have nzq125 : q125 ∉ L := fun h => nq125 (mono _ h)
  have fr : ∀ b, b ∈ L → b ≠ h → f43 b = f b := fun b mb nb0 => (up_ne ef43 (fun h => nzq125 (h ▸ mb)) rfl).trans (fr b mb nb0)
  have mono : ∀ b, b ∈ L → b ∈ L44 := fun b h => by rw [eL44]; exact List.mem_append_left _ (mono b h)
  refine q_putF hx hb hts in_X9 tyX9 tyX9_ok nmX9 hown hnm S m_h e_h (C := RX9) (T := TX9) (N := 23) rfl 15 (by decide) (hts (.fieldLink RX9 55 "SieveCabinetModel" "come" "[J") (by decide +kernel)) rfl rfl rfl rfl (Nat.le_of_ble_eq_true rfl) dX9_init_127 (fun H locs S => ?_)
  obtain ⟨f45, ef45⟩ : ∃ z_, z_ = va_up f43 h (.inr (7, [.ref q8, .ref q16, .ref q24, .ref q32, .ref q40, .ref q48, .ref q57, .ref q65, .ref q73, .ref q81, .ref q90, .ref q99, .ref q108, .ref q116, .int 0, .ref q125, .null, .null, .null, .null, .null, .null, .null])) := ⟨_, rfl⟩
  have S : PS D g (va_A (va_pl L f) sz) s.heap s L44 f45 H locs := by rw [ef45]; exact S
  have e_q8 : f45 q8 = .inl (g 1, 8000, .inr (.inl (fun _ => 0))) := up_ne ef45 (fun h => nq8_h h.symm) e_q8
  have e_q16 : f45 q16 = .inl (g 0, 8, .inl (fun _ => 0)) := up_ne ef45 (fun h => nq16_h h.symm) e_q16
  have e_q24 : f45 q24 = .inl (g 0, 30, .inl (fun _ => 0)) := up_ne ef45 (fun h => nq24_h h.symm) e_q24
  have e_q32 : f45 q32 = .inl (g 0, 30, .inl (fun _ => 0)) := up_ne ef45 (fun h => nq32_h h.symm) e_q32
  have e_q40 : f45 q40 = .inl (g 0, 30, .inl (fun _ => 0)) := up_ne ef45 (fun h => nq40_h h.symm) e_q40
  have e_q48 : f45 q48 = .inl (g 0, 30, .inl (fun _ => 0)) := up_ne ef45 (fun h => nq48_h h.symm) e_q48
  have e_q57 : f45 q57 = .inl (g 1, 30000, .inr (.inl (fun _ => 0))) := up_ne ef45 (fun h => nq57_h h.symm) e_q57
  have e_q65 : f45 q65 = .inl (g 0, 30, .inl (fun _ => 0)) := up_ne ef45 (fun h => nq65_h h.symm) e_q65
  have e_q73 : f45 q73 = .inl (g 0, 122880, .inl (fun _ => 0)) := up_ne ef45 (fun h => nq73_h h.symm) e_q73
  have e_q81 : f45 q81 = .inl (g 0, 76800, .inl (fun _ => 0)) := up_ne ef45 (fun h => nq81_h h.symm) e_q81
  have e_q90 : f45 q90 = .inl (g 0, 600, .inl (fun _ => 0)) := up_ne ef45 (fun h => nq90_h h.symm) e_q90
  have e_q99 : f45 q99 = .inl (g 0, 600, .inl (fun _ => 0)) := up_ne ef45 (fun h => nq99_h h.symm) e_q99
  have e_q108 : f45 q108 = .inl (g 1, 30000, .inr (.inl (fun _ => 0))) := up_ne ef45 (fun h => nq108_h h.symm) e_q108
  have e_q116 : f45 q116 = .inl (g 0, 30, .inl (fun _ => 0)) := up_ne ef45 (fun h => nq116_h h.symm) e_q116
  have e_q125 : f45 q125 = .inl (g 1, 1000, .inr (.inl (fun _ => 0))) := up_ne ef45 (fun h => nq125_h h.symm) e_q125
  have e_h : f45 h = .inr (7, [.ref q8, .ref q16, .ref q24, .ref q32, .ref q40, .ref q48, .ref q57, .ref q65, .ref q73, .ref q81, .ref q90, .ref q99, .ref q108, .ref q116, .int 0, .ref q125, .null, .null, .null, .null, .null, .null, .null]) := up_self ef45
  have fr : ∀ b, b ∈ L → b ≠ h → f45 b = f b := fun b mb nb0 => (up_ne ef45 nb0 rfl).trans (fr b mb nb0)
  refine lv_aload_n hx hb dX9_init_130 rfl (lv_at hl 0 rfl) ?_
  refine lv_sipush (v := 1000) hx hb dX9_init_131 (by decide) ?_
  refine q_newl hx hb (hts (.arrayClass .long) (by decide +kernel)) S (N' := 1000) (by decide) (by decide) (by decide) (Nat.le_of_ble_eq_true rfl) (Nat.le_of_ble_eq_true rfl) dX9_init_134 (fun q134 H nq134 S => ?_)
  refine W.widen (k := 16) (n := 271068) (by decide) (by decide) ?_
  obtain ⟨f46, ef46⟩ : ∃ z_, z_ = va_up f45 q134 (.inl (g 1, 1000, .inr (.inl (fun _ => 0)))) := ⟨_, rfl⟩
  obtain ⟨L47, eL47⟩ : ∃ z_, z_ = L44 ++ [q134] := ⟨_, rfl⟩
  have S : PS D g (va_A (va_pl L f) sz) s.heap s L47 f46 H locs := by rw [ef46, eL47]; exact S
  have e_h : f46 h = .inr (7, [.ref q8, .ref q16, .ref q24, .ref q32, .ref q40, .ref q48, .ref q57, .ref q65, .ref q73, .ref q81, .ref q90, .ref q99, .ref q108, .ref q116, .int 0, .ref q125, .null, .null, .null, .null, .null, .null, .null]) := up_ne ef46 (fun h => nq134 (h ▸ m_h)) e_h
  have nq134_h : h ≠ q134 := fun h => nq134 (h ▸ m_h)
  have m_h : h ∈ L47 := by rw [eL47]; exact List.mem_append_left _ m_h
  have e_q8 : f46 q8 = .inl (g 1, 8000, .inr (.inl (fun _ => 0))) := up_ne ef46 (fun h => nq134 (h ▸ m_q8)) e_q8
  have nq134_q8 : q8 ≠ q134 := fun h => nq134 (h ▸ m_q8)
  have m_q8 : q8 ∈ L47 := by rw [eL47]; exact List.mem_append_left _ m_q8
  have e_q16 : f46 q16 = .inl (g 0, 8, .inl (fun _ => 0)) := up_ne ef46 (fun h => nq134 (h ▸ m_q16)) e_q16
  have nq134_q16 : q16 ≠ q134 := fun h => nq134 (h ▸ m_q16)
  have m_q16 : q16 ∈ L47 := by rw [eL47]; exact List.mem_append_left _ m_q16
  have e_q24 : f46 q24 = .inl (g 0, 30, .inl (fun _ => 0)) := up_ne ef46 (fun h => nq134 (h ▸ m_q24)) e_q24
  have nq134_q24 : q24 ≠ q134 := fun h => nq134 (h ▸ m_q24)
  have m_q24 : q24 ∈ L47 := by rw [eL47]; exact List.mem_append_left _ m_q24
  have e_q32 : f46 q32 = .inl (g 0, 30, .inl (fun _ => 0)) := up_ne ef46 (fun h => nq134 (h ▸ m_q32)) e_q32
  have nq134_q32 : q32 ≠ q134 := fun h => nq134 (h ▸ m_q32)
  have m_q32 : q32 ∈ L47 := by rw [eL47]; exact List.mem_append_left _ m_q32
  have e_q40 : f46 q40 = .inl (g 0, 30, .inl (fun _ => 0)) := up_ne ef46 (fun h => nq134 (h ▸ m_q40)) e_q40
  have nq134_q40 : q40 ≠ q134 := fun h => nq134 (h ▸ m_q40)
  have m_q40 : q40 ∈ L47 := by rw [eL47]; exact List.mem_append_left _ m_q40
  have e_q48 : f46 q48 = .inl (g 0, 30, .inl (fun _ => 0)) := up_ne ef46 (fun h => nq134 (h ▸ m_q48)) e_q48
  have nq134_q48 : q48 ≠ q134 := fun h => nq134 (h ▸ m_q48)
  have m_q48 : q48 ∈ L47 := by rw [eL47]; exact List.mem_append_left _ m_q48
  have e_q57 : f46 q57 = .inl (g 1, 30000, .inr (.inl (fun _ => 0))) := up_ne ef46 (fun h => nq134 (h ▸ m_q57)) e_q57
  have nq134_q57 : q57 ≠ q134 := fun h => nq134 (h ▸ m_q57)
  have m_q57 : q57 ∈ L47 := by rw [eL47]; exact List.mem_append_left _ m_q57
  have e_q65 : f46 q65 = .inl (g 0, 30, .inl (fun _ => 0)) := up_ne ef46 (fun h => nq134 (h ▸ m_q65)) e_q65
  have nq134_q65 : q65 ≠ q134 := fun h => nq134 (h ▸ m_q65)
  have m_q65 : q65 ∈ L47 := by rw [eL47]; exact List.mem_append_left _ m_q65
  have e_q73 : f46 q73 = .inl (g 0, 122880, .inl (fun _ => 0)) := up_ne ef46 (fun h => nq134 (h ▸ m_q73)) e_q73
  have nq134_q73 : q73 ≠ q134 := fun h => nq134 (h ▸ m_q73)
  have m_q73 : q73 ∈ L47 := by rw [eL47]; exact List.mem_append_left _ m_q73
  have e_q81 : f46 q81 = .inl (g 0, 76800, .inl (fun _ => 0)) := up_ne ef46 (fun h => nq134 (h ▸ m_q81)) e_q81
  have nq134_q81 : q81 ≠ q134 := fun h => nq134 (h ▸ m_q81)
  have m_q81 : q81 ∈ L47 := by rw [eL47]; exact List.mem_append_left _ m_q81
  have e_q90 : f46 q90 = .inl (g 0, 600, .inl (fun _ => 0)) := up_ne ef46 (fun h => nq134 (h ▸ m_q90)) e_q90
  have nq134_q90 : q90 ≠ q134 := fun h => nq134 (h ▸ m_q90)
  have m_q90 : q90 ∈ L47 := by rw [eL47]; exact List.mem_append_left _ m_q90
  have e_q99 : f46 q99 = .inl (g 0, 600, .inl (fun _ => 0)) := up_ne ef46 (fun h => nq134 (h ▸ m_q99)) e_q99
  have nq134_q99 : q99 ≠ q134 := fun h => nq134 (h ▸ m_q99)
  have m_q99 : q99 ∈ L47 := by rw [eL47]; exact List.mem_append_left _ m_q99
  have e_q108 : f46 q108 = .inl (g 1, 30000, .inr (.inl (fun _ => 0))) := up_ne ef46 (fun h => nq134 (h ▸ m_q108)) e_q108
  have nq134_q108 : q108 ≠ q134 := fun h => nq134 (h ▸ m_q108)
  have m_q108 : q108 ∈ L47 := by rw [eL47]; exact List.mem_append_left _ m_q108
  have e_q116 : f46 q116 = .inl (g 0, 30, .inl (fun _ => 0)) := up_ne ef46 (fun h => nq134 (h ▸ m_q116)) e_q116
  have nq134_q116 : q116 ≠ q134 := fun h => nq134 (h ▸ m_q116)
  have m_q116 : q116 ∈ L47 := by rw [eL47]; exact List.mem_append_left _ m_q116
  have e_q125 : f46 q125 = .inl (g 1, 1000, .inr (.inl (fun _ => 0))) := up_ne ef46 (fun h => nq134 (h ▸ m_q125)) e_q125
  have nq134_q125 : q125 ≠ q134 := fun h => nq134 (h ▸ m_q125)
  have m_q125 : q125 ∈ L47 := by rw [eL47]; exact List.mem_append_left _ m_q125
  have e_q134 : f46 q134 = .inl (g 1, 1000, .inr (.inl (fun _ => 0))) := up_self ef46
  have m_q134 : q134 ∈ L47 := by rw [eL47]; simp
  have nzq134 : q134 ∉ L := fun h => nq134 (mono _ h)
  have fr : ∀ b, b ∈ L → b ≠ h → f46 b = f b := fun b mb nb0 => (up_ne ef46 (fun h => nzq134 (h ▸ mb)) rfl).trans (fr b mb nb0)
  have mono : ∀ b, b ∈ L → b ∈ L47 := fun b h => by rw [eL47]; exact List.mem_append_left _ (mono b h)
  refine q_putF hx hb hts in_X9 tyX9 tyX9_ok nmX9 hown hnm S m_h e_h (C := RX9) (T := TX9) (N := 23) rfl 16 (by decide) (hts (.fieldLink RX9 58 "SieveCabinetModel" "rivals" "[J") (by decide +kernel)) rfl rfl rfl rfl (Nat.le_of_ble_eq_true rfl) dX9_init_136 (fun H locs S => ?_)
  obtain ⟨f48, ef48⟩ : ∃ z_, z_ = va_up f46 h (.inr (7, [.ref q8, .ref q16, .ref q24, .ref q32, .ref q40, .ref q48, .ref q57, .ref q65, .ref q73, .ref q81, .ref q90, .ref q99, .ref q108, .ref q116, .int 0, .ref q125, .ref q134, .null, .null, .null, .null, .null, .null])) := ⟨_, rfl⟩
  have S : PS D g (va_A (va_pl L f) sz) s.heap s L47 f48 H locs := by rw [ef48]; exact S
  have e_q8 : f48 q8 = .inl (g 1, 8000, .inr (.inl (fun _ => 0))) := up_ne ef48 (fun h => nq8_h h.symm) e_q8
  have e_q16 : f48 q16 = .inl (g 0, 8, .inl (fun _ => 0)) := up_ne ef48 (fun h => nq16_h h.symm) e_q16
  have e_q24 : f48 q24 = .inl (g 0, 30, .inl (fun _ => 0)) := up_ne ef48 (fun h => nq24_h h.symm) e_q24
  have e_q32 : f48 q32 = .inl (g 0, 30, .inl (fun _ => 0)) := up_ne ef48 (fun h => nq32_h h.symm) e_q32
  have e_q40 : f48 q40 = .inl (g 0, 30, .inl (fun _ => 0)) := up_ne ef48 (fun h => nq40_h h.symm) e_q40
  have e_q48 : f48 q48 = .inl (g 0, 30, .inl (fun _ => 0)) := up_ne ef48 (fun h => nq48_h h.symm) e_q48
  have e_q57 : f48 q57 = .inl (g 1, 30000, .inr (.inl (fun _ => 0))) := up_ne ef48 (fun h => nq57_h h.symm) e_q57
  have e_q65 : f48 q65 = .inl (g 0, 30, .inl (fun _ => 0)) := up_ne ef48 (fun h => nq65_h h.symm) e_q65
  have e_q73 : f48 q73 = .inl (g 0, 122880, .inl (fun _ => 0)) := up_ne ef48 (fun h => nq73_h h.symm) e_q73
  have e_q81 : f48 q81 = .inl (g 0, 76800, .inl (fun _ => 0)) := up_ne ef48 (fun h => nq81_h h.symm) e_q81
  have e_q90 : f48 q90 = .inl (g 0, 600, .inl (fun _ => 0)) := up_ne ef48 (fun h => nq90_h h.symm) e_q90
  have e_q99 : f48 q99 = .inl (g 0, 600, .inl (fun _ => 0)) := up_ne ef48 (fun h => nq99_h h.symm) e_q99
  have e_q108 : f48 q108 = .inl (g 1, 30000, .inr (.inl (fun _ => 0))) := up_ne ef48 (fun h => nq108_h h.symm) e_q108
  have e_q116 : f48 q116 = .inl (g 0, 30, .inl (fun _ => 0)) := up_ne ef48 (fun h => nq116_h h.symm) e_q116
  have e_q125 : f48 q125 = .inl (g 1, 1000, .inr (.inl (fun _ => 0))) := up_ne ef48 (fun h => nq125_h h.symm) e_q125
  have e_q134 : f48 q134 = .inl (g 1, 1000, .inr (.inl (fun _ => 0))) := up_ne ef48 (fun h => nq134_h h.symm) e_q134
  have e_h : f48 h = .inr (7, [.ref q8, .ref q16, .ref q24, .ref q32, .ref q40, .ref q48, .ref q57, .ref q65, .ref q73, .ref q81, .ref q90, .ref q99, .ref q108, .ref q116, .int 0, .ref q125, .ref q134, .null, .null, .null, .null, .null, .null]) := up_self ef48
  have fr : ∀ b, b ∈ L → b ≠ h → f48 b = f b := fun b mb nb0 => (up_ne ef48 nb0 rfl).trans (fr b mb nb0)
  refine lv_aload_n hx hb dX9_init_139 rfl (lv_at hl 0 rfl) ?_
  refine lv_sipush (v := 1000) hx hb dX9_init_140 (by decide) ?_
  refine q_newl hx hb (hts (.arrayClass .long) (by decide +kernel)) S (N' := 1000) (by decide) (by decide) (by decide) (Nat.le_of_ble_eq_true rfl) (Nat.le_of_ble_eq_true rfl) dX9_init_143 (fun q143 H nq143 S => ?_)
  refine W.widen (k := 17) (n := 272068) (by decide) (by decide) ?_
  obtain ⟨f49, ef49⟩ : ∃ z_, z_ = va_up f48 q143 (.inl (g 1, 1000, .inr (.inl (fun _ => 0)))) := ⟨_, rfl⟩
  obtain ⟨L50, eL50⟩ : ∃ z_, z_ = L47 ++ [q143] := ⟨_, rfl⟩
  have S : PS D g (va_A (va_pl L f) sz) s.heap s L50 f49 H locs := by rw [ef49, eL50]; exact S
  have e_h : f49 h = .inr (7, [.ref q8, .ref q16, .ref q24, .ref q32, .ref q40, .ref q48, .ref q57, .ref q65, .ref q73, .ref q81, .ref q90, .ref q99, .ref q108, .ref q116, .int 0, .ref q125, .ref q134, .null, .null, .null, .null, .null, .null]) := up_ne ef49 (fun h => nq143 (h ▸ m_h)) e_h
  have nq143_h : h ≠ q143 := fun h => nq143 (h ▸ m_h)
  have m_h : h ∈ L50 := by rw [eL50]; exact List.mem_append_left _ m_h
  have e_q8 : f49 q8 = .inl (g 1, 8000, .inr (.inl (fun _ => 0))) := up_ne ef49 (fun h => nq143 (h ▸ m_q8)) e_q8
  have nq143_q8 : q8 ≠ q143 := fun h => nq143 (h ▸ m_q8)
  have m_q8 : q8 ∈ L50 := by rw [eL50]; exact List.mem_append_left _ m_q8
  have e_q16 : f49 q16 = .inl (g 0, 8, .inl (fun _ => 0)) := up_ne ef49 (fun h => nq143 (h ▸ m_q16)) e_q16
  have nq143_q16 : q16 ≠ q143 := fun h => nq143 (h ▸ m_q16)
  have m_q16 : q16 ∈ L50 := by rw [eL50]; exact List.mem_append_left _ m_q16
  have e_q24 : f49 q24 = .inl (g 0, 30, .inl (fun _ => 0)) := up_ne ef49 (fun h => nq143 (h ▸ m_q24)) e_q24
  have nq143_q24 : q24 ≠ q143 := fun h => nq143 (h ▸ m_q24)
  have m_q24 : q24 ∈ L50 := by rw [eL50]; exact List.mem_append_left _ m_q24
  have e_q32 : f49 q32 = .inl (g 0, 30, .inl (fun _ => 0)) := up_ne ef49 (fun h => nq143 (h ▸ m_q32)) e_q32
  have nq143_q32 : q32 ≠ q143 := fun h => nq143 (h ▸ m_q32)
  have m_q32 : q32 ∈ L50 := by rw [eL50]; exact List.mem_append_left _ m_q32
  have e_q40 : f49 q40 = .inl (g 0, 30, .inl (fun _ => 0)) := up_ne ef49 (fun h => nq143 (h ▸ m_q40)) e_q40
  have nq143_q40 : q40 ≠ q143 := fun h => nq143 (h ▸ m_q40)
  have m_q40 : q40 ∈ L50 := by rw [eL50]; exact List.mem_append_left _ m_q40
  have e_q48 : f49 q48 = .inl (g 0, 30, .inl (fun _ => 0)) := up_ne ef49 (fun h => nq143 (h ▸ m_q48)) e_q48
  have nq143_q48 : q48 ≠ q143 := fun h => nq143 (h ▸ m_q48)
  have m_q48 : q48 ∈ L50 := by rw [eL50]; exact List.mem_append_left _ m_q48
  have e_q57 : f49 q57 = .inl (g 1, 30000, .inr (.inl (fun _ => 0))) := up_ne ef49 (fun h => nq143 (h ▸ m_q57)) e_q57
  have nq143_q57 : q57 ≠ q143 := fun h => nq143 (h ▸ m_q57)
  have m_q57 : q57 ∈ L50 := by rw [eL50]; exact List.mem_append_left _ m_q57
  have e_q65 : f49 q65 = .inl (g 0, 30, .inl (fun _ => 0)) := up_ne ef49 (fun h => nq143 (h ▸ m_q65)) e_q65
  have nq143_q65 : q65 ≠ q143 := fun h => nq143 (h ▸ m_q65)
  have m_q65 : q65 ∈ L50 := by rw [eL50]; exact List.mem_append_left _ m_q65
  have e_q73 : f49 q73 = .inl (g 0, 122880, .inl (fun _ => 0)) := up_ne ef49 (fun h => nq143 (h ▸ m_q73)) e_q73
  have nq143_q73 : q73 ≠ q143 := fun h => nq143 (h ▸ m_q73)
  have m_q73 : q73 ∈ L50 := by rw [eL50]; exact List.mem_append_left _ m_q73
  have e_q81 : f49 q81 = .inl (g 0, 76800, .inl (fun _ => 0)) := up_ne ef49 (fun h => nq143 (h ▸ m_q81)) e_q81
  have nq143_q81 : q81 ≠ q143 := fun h => nq143 (h ▸ m_q81)
  have m_q81 : q81 ∈ L50 := by rw [eL50]; exact List.mem_append_left _ m_q81
  have e_q90 : f49 q90 = .inl (g 0, 600, .inl (fun _ => 0)) := up_ne ef49 (fun h => nq143 (h ▸ m_q90)) e_q90
  have nq143_q90 : q90 ≠ q143 := fun h => nq143 (h ▸ m_q90)
  have m_q90 : q90 ∈ L50 := by rw [eL50]; exact List.mem_append_left _ m_q90
  have e_q99 : f49 q99 = .inl (g 0, 600, .inl (fun _ => 0)) := up_ne ef49 (fun h => nq143 (h ▸ m_q99)) e_q99
  have nq143_q99 : q99 ≠ q143 := fun h => nq143 (h ▸ m_q99)
  have m_q99 : q99 ∈ L50 := by rw [eL50]; exact List.mem_append_left _ m_q99
  have e_q108 : f49 q108 = .inl (g 1, 30000, .inr (.inl (fun _ => 0))) := up_ne ef49 (fun h => nq143 (h ▸ m_q108)) e_q108
  have nq143_q108 : q108 ≠ q143 := fun h => nq143 (h ▸ m_q108)
  have m_q108 : q108 ∈ L50 := by rw [eL50]; exact List.mem_append_left _ m_q108
  have e_q116 : f49 q116 = .inl (g 0, 30, .inl (fun _ => 0)) := up_ne ef49 (fun h => nq143 (h ▸ m_q116)) e_q116
  have nq143_q116 : q116 ≠ q143 := fun h => nq143 (h ▸ m_q116)
  have m_q116 : q116 ∈ L50 := by rw [eL50]; exact List.mem_append_left _ m_q116
  have e_q125 : f49 q125 = .inl (g 1, 1000, .inr (.inl (fun _ => 0))) := up_ne ef49 (fun h => nq143 (h ▸ m_q125)) e_q125
  have nq143_q125 : q125 ≠ q143 := fun h => nq143 (h ▸ m_q125)
  have m_q125 : q125 ∈ L50 := by rw [eL50]; exact List.mem_append_left _ m_q125
  have e_q134 : f49 q134 = .inl (g 1, 1000, .inr (.inl (fun _ => 0))) := up_ne ef49 (fun h => nq143 (h ▸ m_q134)) e_q134
  have nq143_q134 : q134 ≠ q143 := fun h => nq143 (h ▸ m_q134)
  have m_q134 : q134 ∈ L50 := by rw [eL50]; exact List.mem_append_left _ m_q134
  have e_q143 : f49 q143 = .inl (g 1, 1000, .inr (.inl (fun _ => 0))) := up_self ef49
  have m_q143 : q143 ∈ L50 := by rw [eL50]; simp
  have nzq143 : q143 ∉ L := fun h => nq143 (mono _ h)
  have fr : ∀ b, b ∈ L → b ≠ h → f49 b = f b := fun b mb nb0 => (up_ne ef49 (fun h => nzq143 (h ▸ mb)) rfl).trans (fr b mb nb0)
  have mono : ∀ b, b ∈ L → b ∈ L50 := fun b h => by rw [eL50]; exact List.mem_append_left _ (mono b h)
  refine q_putF hx hb hts in_X9 tyX9 tyX9_ok nmX9 hown hnm S m_h e_h (C := RX9) (T := TX9) (N := 23) rfl 17 (by decide) (hts (.fieldLink RX9 61 "SieveCabinetModel" "gone" "[J") (by decide +kernel)) rfl rfl rfl rfl (Nat.le_of_ble_eq_true rfl) dX9_init_145 (fun H locs S => ?_)
  obtain ⟨f51, ef51⟩ : ∃ z_, z_ = va_up f49 h (.inr (7, [.ref q8, .ref q16, .ref q24, .ref q32, .ref q40, .ref q48, .ref q57, .ref q65, .ref q73, .ref q81, .ref q90, .ref q99, .ref q108, .ref q116, .int 0, .ref q125, .ref q134, .ref q143, .null, .null, .null, .null, .null])) := ⟨_, rfl⟩
  have S : PS D g (va_A (va_pl L f) sz) s.heap s L50 f51 H locs := by rw [ef51]; exact S
  have e_q8 : f51 q8 = .inl (g 1, 8000, .inr (.inl (fun _ => 0))) := up_ne ef51 (fun h => nq8_h h.symm) e_q8
  have e_q16 : f51 q16 = .inl (g 0, 8, .inl (fun _ => 0)) := up_ne ef51 (fun h => nq16_h h.symm) e_q16
  have e_q24 : f51 q24 = .inl (g 0, 30, .inl (fun _ => 0)) := up_ne ef51 (fun h => nq24_h h.symm) e_q24
  have e_q32 : f51 q32 = .inl (g 0, 30, .inl (fun _ => 0)) := up_ne ef51 (fun h => nq32_h h.symm) e_q32
  have e_q40 : f51 q40 = .inl (g 0, 30, .inl (fun _ => 0)) := up_ne ef51 (fun h => nq40_h h.symm) e_q40
  have e_q48 : f51 q48 = .inl (g 0, 30, .inl (fun _ => 0)) := up_ne ef51 (fun h => nq48_h h.symm) e_q48
  have e_q57 : f51 q57 = .inl (g 1, 30000, .inr (.inl (fun _ => 0))) := up_ne ef51 (fun h => nq57_h h.symm) e_q57
  have e_q65 : f51 q65 = .inl (g 0, 30, .inl (fun _ => 0)) := up_ne ef51 (fun h => nq65_h h.symm) e_q65
  have e_q73 : f51 q73 = .inl (g 0, 122880, .inl (fun _ => 0)) := up_ne ef51 (fun h => nq73_h h.symm) e_q73
  have e_q81 : f51 q81 = .inl (g 0, 76800, .inl (fun _ => 0)) := up_ne ef51 (fun h => nq81_h h.symm) e_q81
  have e_q90 : f51 q90 = .inl (g 0, 600, .inl (fun _ => 0)) := up_ne ef51 (fun h => nq90_h h.symm) e_q90
  have e_q99 : f51 q99 = .inl (g 0, 600, .inl (fun _ => 0)) := up_ne ef51 (fun h => nq99_h h.symm) e_q99
  have e_q108 : f51 q108 = .inl (g 1, 30000, .inr (.inl (fun _ => 0))) := up_ne ef51 (fun h => nq108_h h.symm) e_q108
  have e_q116 : f51 q116 = .inl (g 0, 30, .inl (fun _ => 0)) := up_ne ef51 (fun h => nq116_h h.symm) e_q116
  have e_q125 : f51 q125 = .inl (g 1, 1000, .inr (.inl (fun _ => 0))) := up_ne ef51 (fun h => nq125_h h.symm) e_q125
  have e_q134 : f51 q134 = .inl (g 1, 1000, .inr (.inl (fun _ => 0))) := up_ne ef51 (fun h => nq134_h h.symm) e_q134
  have e_q143 : f51 q143 = .inl (g 1, 1000, .inr (.inl (fun _ => 0))) := up_ne ef51 (fun h => nq143_h h.symm) e_q143
  have e_h : f51 h = .inr (7, [.ref q8, .ref q16, .ref q24, .ref q32, .ref q40, .ref q48, .ref q57, .ref q65, .ref q73, .ref q81, .ref q90, .ref q99, .ref q108, .ref q116, .int 0, .ref q125, .ref q134, .ref q143, .null, .null, .null, .null, .null]) := up_self ef51
  have fr : ∀ b, b ∈ L → b ≠ h → f51 b = f b := fun b mb nb0 => (up_ne ef51 nb0 rfl).trans (fr b mb nb0)
  refine lv_aload_n hx hb dX9_init_148 rfl (lv_at hl 0 rfl) ?_
  refine lv_sipush (v := 1000) hx hb dX9_init_149 (by decide) ?_
  refine q_newi hx hb (hts (.arrayClass .int) (by decide +kernel)) S (N' := 1000) (by decide) (by decide) (by decide) (Nat.le_of_ble_eq_true rfl) (Nat.le_of_ble_eq_true rfl) dX9_init_152 (fun q152 H nq152 S => ?_)
  refine W.widen (k := 18) (n := 273068) (by decide) (by decide) ?_
  obtain ⟨f52, ef52⟩ : ∃ z_, z_ = va_up f51 q152 (.inl (g 0, 1000, .inl (fun _ => 0))) := ⟨_, rfl⟩
  obtain ⟨L53, eL53⟩ : ∃ z_, z_ = L50 ++ [q152] := ⟨_, rfl⟩
  have S : PS D g (va_A (va_pl L f) sz) s.heap s L53 f52 H locs := by rw [ef52, eL53]; exact S
  have e_h : f52 h = .inr (7, [.ref q8, .ref q16, .ref q24, .ref q32, .ref q40, .ref q48, .ref q57, .ref q65, .ref q73, .ref q81, .ref q90, .ref q99, .ref q108, .ref q116, .int 0, .ref q125, .ref q134, .ref q143, .null, .null, .null, .null, .null]) := up_ne ef52 (fun h => nq152 (h ▸ m_h)) e_h
  have nq152_h : h ≠ q152 := fun h => nq152 (h ▸ m_h)
  have m_h : h ∈ L53 := by rw [eL53]; exact List.mem_append_left _ m_h
  have e_q8 : f52 q8 = .inl (g 1, 8000, .inr (.inl (fun _ => 0))) := up_ne ef52 (fun h => nq152 (h ▸ m_q8)) e_q8
  have nq152_q8 : q8 ≠ q152 := fun h => nq152 (h ▸ m_q8)
  have m_q8 : q8 ∈ L53 := by rw [eL53]; exact List.mem_append_left _ m_q8
  have e_q16 : f52 q16 = .inl (g 0, 8, .inl (fun _ => 0)) := up_ne ef52 (fun h => nq152 (h ▸ m_q16)) e_q16
  have nq152_q16 : q16 ≠ q152 := fun h => nq152 (h ▸ m_q16)
  have m_q16 : q16 ∈ L53 := by rw [eL53]; exact List.mem_append_left _ m_q16
  have e_q24 : f52 q24 = .inl (g 0, 30, .inl (fun _ => 0)) := up_ne ef52 (fun h => nq152 (h ▸ m_q24)) e_q24
  have nq152_q24 : q24 ≠ q152 := fun h => nq152 (h ▸ m_q24)
  have m_q24 : q24 ∈ L53 := by rw [eL53]; exact List.mem_append_left _ m_q24
  have e_q32 : f52 q32 = .inl (g 0, 30, .inl (fun _ => 0)) := up_ne ef52 (fun h => nq152 (h ▸ m_q32)) e_q32
  have nq152_q32 : q32 ≠ q152 := fun h => nq152 (h ▸ m_q32)
  have m_q32 : q32 ∈ L53 := by rw [eL53]; exact List.mem_append_left _ m_q32
  have e_q40 : f52 q40 = .inl (g 0, 30, .inl (fun _ => 0)) := up_ne ef52 (fun h => nq152 (h ▸ m_q40)) e_q40
  have nq152_q40 : q40 ≠ q152 := fun h => nq152 (h ▸ m_q40)
  have m_q40 : q40 ∈ L53 := by rw [eL53]; exact List.mem_append_left _ m_q40
  have e_q48 : f52 q48 = .inl (g 0, 30, .inl (fun _ => 0)) := up_ne ef52 (fun h => nq152 (h ▸ m_q48)) e_q48
  have nq152_q48 : q48 ≠ q152 := fun h => nq152 (h ▸ m_q48)
  have m_q48 : q48 ∈ L53 := by rw [eL53]; exact List.mem_append_left _ m_q48
  have e_q57 : f52 q57 = .inl (g 1, 30000, .inr (.inl (fun _ => 0))) := up_ne ef52 (fun h => nq152 (h ▸ m_q57)) e_q57
  have nq152_q57 : q57 ≠ q152 := fun h => nq152 (h ▸ m_q57)
  have m_q57 : q57 ∈ L53 := by rw [eL53]; exact List.mem_append_left _ m_q57
  have e_q65 : f52 q65 = .inl (g 0, 30, .inl (fun _ => 0)) := up_ne ef52 (fun h => nq152 (h ▸ m_q65)) e_q65
  have nq152_q65 : q65 ≠ q152 := fun h => nq152 (h ▸ m_q65)
  have m_q65 : q65 ∈ L53 := by rw [eL53]; exact List.mem_append_left _ m_q65
  have e_q73 : f52 q73 = .inl (g 0, 122880, .inl (fun _ => 0)) := up_ne ef52 (fun h => nq152 (h ▸ m_q73)) e_q73
  have nq152_q73 : q73 ≠ q152 := fun h => nq152 (h ▸ m_q73)
  have m_q73 : q73 ∈ L53 := by rw [eL53]; exact List.mem_append_left _ m_q73
  have e_q81 : f52 q81 = .inl (g 0, 76800, .inl (fun _ => 0)) := up_ne ef52 (fun h => nq152 (h ▸ m_q81)) e_q81
  have nq152_q81 : q81 ≠ q152 := fun h => nq152 (h ▸ m_q81)
  have m_q81 : q81 ∈ L53 := by rw [eL53]; exact List.mem_append_left _ m_q81
  have e_q90 : f52 q90 = .inl (g 0, 600, .inl (fun _ => 0)) := up_ne ef52 (fun h => nq152 (h ▸ m_q90)) e_q90
  have nq152_q90 : q90 ≠ q152 := fun h => nq152 (h ▸ m_q90)
  have m_q90 : q90 ∈ L53 := by rw [eL53]; exact List.mem_append_left _ m_q90
  have e_q99 : f52 q99 = .inl (g 0, 600, .inl (fun _ => 0)) := up_ne ef52 (fun h => nq152 (h ▸ m_q99)) e_q99
  have nq152_q99 : q99 ≠ q152 := fun h => nq152 (h ▸ m_q99)
  have m_q99 : q99 ∈ L53 := by rw [eL53]; exact List.mem_append_left _ m_q99
  have e_q108 : f52 q108 = .inl (g 1, 30000, .inr (.inl (fun _ => 0))) := up_ne ef52 (fun h => nq152 (h ▸ m_q108)) e_q108
  have nq152_q108 : q108 ≠ q152 := fun h => nq152 (h ▸ m_q108)
  have m_q108 : q108 ∈ L53 := by rw [eL53]; exact List.mem_append_left _ m_q108
  have e_q116 : f52 q116 = .inl (g 0, 30, .inl (fun _ => 0)) := up_ne ef52 (fun h => nq152 (h ▸ m_q116)) e_q116
  have nq152_q116 : q116 ≠ q152 := fun h => nq152 (h ▸ m_q116)
  have m_q116 : q116 ∈ L53 := by rw [eL53]; exact List.mem_append_left _ m_q116
  have e_q125 : f52 q125 = .inl (g 1, 1000, .inr (.inl (fun _ => 0))) := up_ne ef52 (fun h => nq152 (h ▸ m_q125)) e_q125
  have nq152_q125 : q125 ≠ q152 := fun h => nq152 (h ▸ m_q125)
  have m_q125 : q125 ∈ L53 := by rw [eL53]; exact List.mem_append_left _ m_q125
  have e_q134 : f52 q134 = .inl (g 1, 1000, .inr (.inl (fun _ => 0))) := up_ne ef52 (fun h => nq152 (h ▸ m_q134)) e_q134
  have nq152_q134 : q134 ≠ q152 := fun h => nq152 (h ▸ m_q134)
  have m_q134 : q134 ∈ L53 := by rw [eL53]; exact List.mem_append_left _ m_q134
  have e_q143 : f52 q143 = .inl (g 1, 1000, .inr (.inl (fun _ => 0))) := up_ne ef52 (fun h => nq152 (h ▸ m_q143)) e_q143
  have nq152_q143 : q143 ≠ q152 := fun h => nq152 (h ▸ m_q143)
  have m_q143 : q143 ∈ L53 := by rw [eL53]; exact List.mem_append_left _ m_q143
  have e_q152 : f52 q152 = .inl (g 0, 1000, .inl (fun _ => 0)) := up_self ef52
  have m_q152 : q152 ∈ L53 := by rw [eL53]; simp
  have nzq152 : q152 ∉ L := fun h => nq152 (mono _ h)
  have fr : ∀ b, b ∈ L → b ≠ h → f52 b = f b := fun b mb nb0 => (up_ne ef52 (fun h => nzq152 (h ▸ mb)) rfl).trans (fr b mb nb0)
  have mono : ∀ b, b ∈ L → b ∈ L53 := fun b h => by rw [eL53]; exact List.mem_append_left _ (mono b h)
  refine q_putF hx hb hts in_X9 tyX9 tyX9_ok nmX9 hown hnm S m_h e_h (C := RX9) (T := TX9) (N := 23) rfl 18 (by decide) (hts (.fieldLink RX9 64 "SieveCabinetModel" "order" "[I") (by decide +kernel)) rfl rfl rfl rfl (Nat.le_of_ble_eq_true rfl) dX9_init_154 (fun H locs S => ?_)
  obtain ⟨f54, ef54⟩ : ∃ z_, z_ = va_up f52 h (.inr (7, [.ref q8, .ref q16, .ref q24, .ref q32, .ref q40, .ref q48, .ref q57, .ref q65, .ref q73, .ref q81, .ref q90, .ref q99, .ref q108, .ref q116, .int 0, .ref q125, .ref q134, .ref q143, .ref q152, .null, .null, .null, .null])) := ⟨_, rfl⟩
  have S : PS D g (va_A (va_pl L f) sz) s.heap s L53 f54 H locs := by rw [ef54]; exact S
  have e_q8 : f54 q8 = .inl (g 1, 8000, .inr (.inl (fun _ => 0))) := up_ne ef54 (fun h => nq8_h h.symm) e_q8
  have e_q16 : f54 q16 = .inl (g 0, 8, .inl (fun _ => 0)) := up_ne ef54 (fun h => nq16_h h.symm) e_q16
  have e_q24 : f54 q24 = .inl (g 0, 30, .inl (fun _ => 0)) := up_ne ef54 (fun h => nq24_h h.symm) e_q24
  have e_q32 : f54 q32 = .inl (g 0, 30, .inl (fun _ => 0)) := up_ne ef54 (fun h => nq32_h h.symm) e_q32
  have e_q40 : f54 q40 = .inl (g 0, 30, .inl (fun _ => 0)) := up_ne ef54 (fun h => nq40_h h.symm) e_q40
  have e_q48 : f54 q48 = .inl (g 0, 30, .inl (fun _ => 0)) := up_ne ef54 (fun h => nq48_h h.symm) e_q48
  have e_q57 : f54 q57 = .inl (g 1, 30000, .inr (.inl (fun _ => 0))) := up_ne ef54 (fun h => nq57_h h.symm) e_q57
  have e_q65 : f54 q65 = .inl (g 0, 30, .inl (fun _ => 0)) := up_ne ef54 (fun h => nq65_h h.symm) e_q65
  have e_q73 : f54 q73 = .inl (g 0, 122880, .inl (fun _ => 0)) := up_ne ef54 (fun h => nq73_h h.symm) e_q73
  have e_q81 : f54 q81 = .inl (g 0, 76800, .inl (fun _ => 0)) := up_ne ef54 (fun h => nq81_h h.symm) e_q81
  have e_q90 : f54 q90 = .inl (g 0, 600, .inl (fun _ => 0)) := up_ne ef54 (fun h => nq90_h h.symm) e_q90
  have e_q99 : f54 q99 = .inl (g 0, 600, .inl (fun _ => 0)) := up_ne ef54 (fun h => nq99_h h.symm) e_q99
  have e_q108 : f54 q108 = .inl (g 1, 30000, .inr (.inl (fun _ => 0))) := up_ne ef54 (fun h => nq108_h h.symm) e_q108
  have e_q116 : f54 q116 = .inl (g 0, 30, .inl (fun _ => 0)) := up_ne ef54 (fun h => nq116_h h.symm) e_q116
  have e_q125 : f54 q125 = .inl (g 1, 1000, .inr (.inl (fun _ => 0))) := up_ne ef54 (fun h => nq125_h h.symm) e_q125
  have e_q134 : f54 q134 = .inl (g 1, 1000, .inr (.inl (fun _ => 0))) := up_ne ef54 (fun h => nq134_h h.symm) e_q134
  have e_q143 : f54 q143 = .inl (g 1, 1000, .inr (.inl (fun _ => 0))) := up_ne ef54 (fun h => nq143_h h.symm) e_q143
  have e_q152 : f54 q152 = .inl (g 0, 1000, .inl (fun _ => 0)) := up_ne ef54 (fun h => nq152_h h.symm) e_q152
  have e_h : f54 h = .inr (7, [.ref q8, .ref q16, .ref q24, .ref q32, .ref q40, .ref q48, .ref q57, .ref q65, .ref q73, .ref q81, .ref q90, .ref q99, .ref q108, .ref q116, .int 0, .ref q125, .ref q134, .ref q143, .ref q152, .null, .null, .null, .null]) := up_self ef54
  have fr : ∀ b, b ∈ L → b ≠ h → f54 b = f b := fun b mb nb0 => (up_ne ef54 nb0 rfl).trans (fr b mb nb0)
  refine lv_aload_n hx hb dX9_init_157 rfl (lv_at hl 0 rfl) ?_
  refine lv_sipush (v := 1000) hx hb dX9_init_158 (by decide) ?_
  refine q_newi hx hb (hts (.arrayClass .int) (by decide +kernel)) S (N' := 1000) (by decide) (by decide) (by decide) (Nat.le_of_ble_eq_true rfl) (Nat.le_of_ble_eq_true rfl) dX9_init_161 (fun q161 H nq161 S => ?_)
  refine W.widen (k := 19) (n := 274068) (by decide) (by decide) ?_
  obtain ⟨f55, ef55⟩ : ∃ z_, z_ = va_up f54 q161 (.inl (g 0, 1000, .inl (fun _ => 0))) := ⟨_, rfl⟩
  obtain ⟨L56, eL56⟩ : ∃ z_, z_ = L53 ++ [q161] := ⟨_, rfl⟩
  have S : PS D g (va_A (va_pl L f) sz) s.heap s L56 f55 H locs := by rw [ef55, eL56]; exact S
  have e_h : f55 h = .inr (7, [.ref q8, .ref q16, .ref q24, .ref q32, .ref q40, .ref q48, .ref q57, .ref q65, .ref q73, .ref q81, .ref q90, .ref q99, .ref q108, .ref q116, .int 0, .ref q125, .ref q134, .ref q143, .ref q152, .null, .null, .null, .null]) := up_ne ef55 (fun h => nq161 (h ▸ m_h)) e_h
  have nq161_h : h ≠ q161 := fun h => nq161 (h ▸ m_h)
  have m_h : h ∈ L56 := by rw [eL56]; exact List.mem_append_left _ m_h
  have e_q8 : f55 q8 = .inl (g 1, 8000, .inr (.inl (fun _ => 0))) := up_ne ef55 (fun h => nq161 (h ▸ m_q8)) e_q8
  have nq161_q8 : q8 ≠ q161 := fun h => nq161 (h ▸ m_q8)
  have m_q8 : q8 ∈ L56 := by rw [eL56]; exact List.mem_append_left _ m_q8
  have e_q16 : f55 q16 = .inl (g 0, 8, .inl (fun _ => 0)) := up_ne ef55 (fun h => nq161 (h ▸ m_q16)) e_q16
  have nq161_q16 : q16 ≠ q161 := fun h => nq161 (h ▸ m_q16)
  have m_q16 : q16 ∈ L56 := by rw [eL56]; exact List.mem_append_left _ m_q16
  have e_q24 : f55 q24 = .inl (g 0, 30, .inl (fun _ => 0)) := up_ne ef55 (fun h => nq161 (h ▸ m_q24)) e_q24
  have nq161_q24 : q24 ≠ q161 := fun h => nq161 (h ▸ m_q24)
  have m_q24 : q24 ∈ L56 := by rw [eL56]; exact List.mem_append_left _ m_q24
  have e_q32 : f55 q32 = .inl (g 0, 30, .inl (fun _ => 0)) := up_ne ef55 (fun h => nq161 (h ▸ m_q32)) e_q32
  have nq161_q32 : q32 ≠ q161 := fun h => nq161 (h ▸ m_q32)
  have m_q32 : q32 ∈ L56 := by rw [eL56]; exact List.mem_append_left _ m_q32
  have e_q40 : f55 q40 = .inl (g 0, 30, .inl (fun _ => 0)) := up_ne ef55 (fun h => nq161 (h ▸ m_q40)) e_q40
  have nq161_q40 : q40 ≠ q161 := fun h => nq161 (h ▸ m_q40)
  have m_q40 : q40 ∈ L56 := by rw [eL56]; exact List.mem_append_left _ m_q40
  have e_q48 : f55 q48 = .inl (g 0, 30, .inl (fun _ => 0)) := up_ne ef55 (fun h => nq161 (h ▸ m_q48)) e_q48
  have nq161_q48 : q48 ≠ q161 := fun h => nq161 (h ▸ m_q48)
  have m_q48 : q48 ∈ L56 := by rw [eL56]; exact List.mem_append_left _ m_q48
  have e_q57 : f55 q57 = .inl (g 1, 30000, .inr (.inl (fun _ => 0))) := up_ne ef55 (fun h => nq161 (h ▸ m_q57)) e_q57
  have nq161_q57 : q57 ≠ q161 := fun h => nq161 (h ▸ m_q57)
  have m_q57 : q57 ∈ L56 := by rw [eL56]; exact List.mem_append_left _ m_q57
  have e_q65 : f55 q65 = .inl (g 0, 30, .inl (fun _ => 0)) := up_ne ef55 (fun h => nq161 (h ▸ m_q65)) e_q65
  have nq161_q65 : q65 ≠ q161 := fun h => nq161 (h ▸ m_q65)
  have m_q65 : q65 ∈ L56 := by rw [eL56]; exact List.mem_append_left _ m_q65
  have e_q73 : f55 q73 = .inl (g 0, 122880, .inl (fun _ => 0)) := up_ne ef55 (fun h => nq161 (h ▸ m_q73)) e_q73
  have nq161_q73 : q73 ≠ q161 := fun h => nq161 (h ▸ m_q73)
  have m_q73 : q73 ∈ L56 := by rw [eL56]; exact List.mem_append_left _ m_q73
  have e_q81 : f55 q81 = .inl (g 0, 76800, .inl (fun _ => 0)) := up_ne ef55 (fun h => nq161 (h ▸ m_q81)) e_q81
  have nq161_q81 : q81 ≠ q161 := fun h => nq161 (h ▸ m_q81)
  have m_q81 : q81 ∈ L56 := by rw [eL56]; exact List.mem_append_left _ m_q81
  have e_q90 : f55 q90 = .inl (g 0, 600, .inl (fun _ => 0)) := up_ne ef55 (fun h => nq161 (h ▸ m_q90)) e_q90
  have nq161_q90 : q90 ≠ q161 := fun h => nq161 (h ▸ m_q90)
  have m_q90 : q90 ∈ L56 := by rw [eL56]; exact List.mem_append_left _ m_q90
  have e_q99 : f55 q99 = .inl (g 0, 600, .inl (fun _ => 0)) := up_ne ef55 (fun h => nq161 (h ▸ m_q99)) e_q99
  have nq161_q99 : q99 ≠ q161 := fun h => nq161 (h ▸ m_q99)
  have m_q99 : q99 ∈ L56 := by rw [eL56]; exact List.mem_append_left _ m_q99
  have e_q108 : f55 q108 = .inl (g 1, 30000, .inr (.inl (fun _ => 0))) := up_ne ef55 (fun h => nq161 (h ▸ m_q108)) e_q108
  have nq161_q108 : q108 ≠ q161 := fun h => nq161 (h ▸ m_q108)
  have m_q108 : q108 ∈ L56 := by rw [eL56]; exact List.mem_append_left _ m_q108
  have e_q116 : f55 q116 = .inl (g 0, 30, .inl (fun _ => 0)) := up_ne ef55 (fun h => nq161 (h ▸ m_q116)) e_q116
  have nq161_q116 : q116 ≠ q161 := fun h => nq161 (h ▸ m_q116)
  have m_q116 : q116 ∈ L56 := by rw [eL56]; exact List.mem_append_left _ m_q116
  have e_q125 : f55 q125 = .inl (g 1, 1000, .inr (.inl (fun _ => 0))) := up_ne ef55 (fun h => nq161 (h ▸ m_q125)) e_q125
  have nq161_q125 : q125 ≠ q161 := fun h => nq161 (h ▸ m_q125)
  have m_q125 : q125 ∈ L56 := by rw [eL56]; exact List.mem_append_left _ m_q125
  have e_q134 : f55 q134 = .inl (g 1, 1000, .inr (.inl (fun _ => 0))) := up_ne ef55 (fun h => nq161 (h ▸ m_q134)) e_q134
  have nq161_q134 : q134 ≠ q161 := fun h => nq161 (h ▸ m_q134)
  have m_q134 : q134 ∈ L56 := by rw [eL56]; exact List.mem_append_left _ m_q134
  have e_q143 : f55 q143 = .inl (g 1, 1000, .inr (.inl (fun _ => 0))) := up_ne ef55 (fun h => nq161 (h ▸ m_q143)) e_q143
  have nq161_q143 : q143 ≠ q161 := fun h => nq161 (h ▸ m_q143)
  have m_q143 : q143 ∈ L56 := by rw [eL56]; exact List.mem_append_left _ m_q143
  have e_q152 : f55 q152 = .inl (g 0, 1000, .inl (fun _ => 0)) := up_ne ef55 (fun h => nq161 (h ▸ m_q152)) e_q152
  have nq161_q152 : q152 ≠ q161 := fun h => nq161 (h ▸ m_q152)
  have m_q152 : q152 ∈ L56 := by rw [eL56]; exact List.mem_append_left _ m_q152
  have e_q161 : f55 q161 = .inl (g 0, 1000, .inl (fun _ => 0)) := up_self ef55
  have m_q161 : q161 ∈ L56 := by rw [eL56]; simp
  have nzq161 : q161 ∉ L := fun h => nq161 (mono _ h)
  have fr : ∀ b, b ∈ L → b ≠ h → f55 b = f b := fun b mb nb0 => (up_ne ef55 (fun h => nzq161 (h ▸ mb)) rfl).trans (fr b mb nb0)
  have mono : ∀ b, b ∈ L → b ∈ L56 := fun b h => by rw [eL56]; exact List.mem_append_left _ (mono b h)
  refine q_putF hx hb hts in_X9 tyX9 tyX9_ok nmX9 hown hnm S m_h e_h (C := RX9) (T := TX9) (N := 23) rfl 19 (by decide) (hts (.fieldLink RX9 67 "SieveCabinetModel" "offAt" "[I") (by decide +kernel)) rfl rfl rfl rfl (Nat.le_of_ble_eq_true rfl) dX9_init_163 (fun H locs S => ?_)
  obtain ⟨f57, ef57⟩ : ∃ z_, z_ = va_up f55 h (.inr (7, [.ref q8, .ref q16, .ref q24, .ref q32, .ref q40, .ref q48, .ref q57, .ref q65, .ref q73, .ref q81, .ref q90, .ref q99, .ref q108, .ref q116, .int 0, .ref q125, .ref q134, .ref q143, .ref q152, .ref q161, .null, .null, .null])) := ⟨_, rfl⟩
  have S : PS D g (va_A (va_pl L f) sz) s.heap s L56 f57 H locs := by rw [ef57]; exact S
  have e_q8 : f57 q8 = .inl (g 1, 8000, .inr (.inl (fun _ => 0))) := up_ne ef57 (fun h => nq8_h h.symm) e_q8
  have e_q16 : f57 q16 = .inl (g 0, 8, .inl (fun _ => 0)) := up_ne ef57 (fun h => nq16_h h.symm) e_q16
  have e_q24 : f57 q24 = .inl (g 0, 30, .inl (fun _ => 0)) := up_ne ef57 (fun h => nq24_h h.symm) e_q24
  have e_q32 : f57 q32 = .inl (g 0, 30, .inl (fun _ => 0)) := up_ne ef57 (fun h => nq32_h h.symm) e_q32
  have e_q40 : f57 q40 = .inl (g 0, 30, .inl (fun _ => 0)) := up_ne ef57 (fun h => nq40_h h.symm) e_q40
  have e_q48 : f57 q48 = .inl (g 0, 30, .inl (fun _ => 0)) := up_ne ef57 (fun h => nq48_h h.symm) e_q48
  have e_q57 : f57 q57 = .inl (g 1, 30000, .inr (.inl (fun _ => 0))) := up_ne ef57 (fun h => nq57_h h.symm) e_q57
  have e_q65 : f57 q65 = .inl (g 0, 30, .inl (fun _ => 0)) := up_ne ef57 (fun h => nq65_h h.symm) e_q65
  have e_q73 : f57 q73 = .inl (g 0, 122880, .inl (fun _ => 0)) := up_ne ef57 (fun h => nq73_h h.symm) e_q73
  have e_q81 : f57 q81 = .inl (g 0, 76800, .inl (fun _ => 0)) := up_ne ef57 (fun h => nq81_h h.symm) e_q81
  have e_q90 : f57 q90 = .inl (g 0, 600, .inl (fun _ => 0)) := up_ne ef57 (fun h => nq90_h h.symm) e_q90
  have e_q99 : f57 q99 = .inl (g 0, 600, .inl (fun _ => 0)) := up_ne ef57 (fun h => nq99_h h.symm) e_q99
  have e_q108 : f57 q108 = .inl (g 1, 30000, .inr (.inl (fun _ => 0))) := up_ne ef57 (fun h => nq108_h h.symm) e_q108
  have e_q116 : f57 q116 = .inl (g 0, 30, .inl (fun _ => 0)) := up_ne ef57 (fun h => nq116_h h.symm) e_q116
  have e_q125 : f57 q125 = .inl (g 1, 1000, .inr (.inl (fun _ => 0))) := up_ne ef57 (fun h => nq125_h h.symm) e_q125
  have e_q134 : f57 q134 = .inl (g 1, 1000, .inr (.inl (fun _ => 0))) := up_ne ef57 (fun h => nq134_h h.symm) e_q134
  have e_q143 : f57 q143 = .inl (g 1, 1000, .inr (.inl (fun _ => 0))) := up_ne ef57 (fun h => nq143_h h.symm) e_q143
  have e_q152 : f57 q152 = .inl (g 0, 1000, .inl (fun _ => 0)) := up_ne ef57 (fun h => nq152_h h.symm) e_q152
  have e_q161 : f57 q161 = .inl (g 0, 1000, .inl (fun _ => 0)) := up_ne ef57 (fun h => nq161_h h.symm) e_q161
  have e_h : f57 h = .inr (7, [.ref q8, .ref q16, .ref q24, .ref q32, .ref q40, .ref q48, .ref q57, .ref q65, .ref q73, .ref q81, .ref q90, .ref q99, .ref q108, .ref q116, .int 0, .ref q125, .ref q134, .ref q143, .ref q152, .ref q161, .null, .null, .null]) := up_self ef57
  have fr : ∀ b, b ∈ L → b ≠ h → f57 b = f b := fun b mb nb0 => (up_ne ef57 nb0 rfl).trans (fr b mb nb0)
  refine lv_aload_n hx hb dX9_init_166 rfl (lv_at hl 0 rfl) ?_
  refine lv_sipush (v := 1000) hx hb dX9_init_167 (by decide) ?_
  refine q_newz hx hb (hts (.arrayClass .boolean) (by decide +kernel)) S (N' := 1000) (by decide) (by decide) (by decide) (Nat.le_of_ble_eq_true rfl) (Nat.le_of_ble_eq_true rfl) dX9_init_170 (fun q170 H nq170 S => ?_)
  refine W.widen (k := 20) (n := 275068) (by decide) (by decide) ?_
  obtain ⟨f58, ef58⟩ : ∃ z_, z_ = va_up f57 q170 (.inl (g 2, 1000, .inl (fun _ => 0))) := ⟨_, rfl⟩
  obtain ⟨L59, eL59⟩ : ∃ z_, z_ = L56 ++ [q170] := ⟨_, rfl⟩
  have S : PS D g (va_A (va_pl L f) sz) s.heap s L59 f58 H locs := by rw [ef58, eL59]; exact S
  have e_h : f58 h = .inr (7, [.ref q8, .ref q16, .ref q24, .ref q32, .ref q40, .ref q48, .ref q57, .ref q65, .ref q73, .ref q81, .ref q90, .ref q99, .ref q108, .ref q116, .int 0, .ref q125, .ref q134, .ref q143, .ref q152, .ref q161, .null, .null, .null]) := up_ne ef58 (fun h => nq170 (h ▸ m_h)) e_h
  have nq170_h : h ≠ q170 := fun h => nq170 (h ▸ m_h)
  have m_h : h ∈ L59 := by rw [eL59]; exact List.mem_append_left _ m_h
  have e_q8 : f58 q8 = .inl (g 1, 8000, .inr (.inl (fun _ => 0))) := up_ne ef58 (fun h => nq170 (h ▸ m_q8)) e_q8
  have nq170_q8 : q8 ≠ q170 := fun h => nq170 (h ▸ m_q8)
  have m_q8 : q8 ∈ L59 := by rw [eL59]; exact List.mem_append_left _ m_q8
  have e_q16 : f58 q16 = .inl (g 0, 8, .inl (fun _ => 0)) := up_ne ef58 (fun h => nq170 (h ▸ m_q16)) e_q16
  have nq170_q16 : q16 ≠ q170 := fun h => nq170 (h ▸ m_q16)
  have m_q16 : q16 ∈ L59 := by rw [eL59]; exact List.mem_append_left _ m_q16
  have e_q24 : f58 q24 = .inl (g 0, 30, .inl (fun _ => 0)) := up_ne ef58 (fun h => nq170 (h ▸ m_q24)) e_q24
  have nq170_q24 : q24 ≠ q170 := fun h => nq170 (h ▸ m_q24)
  have m_q24 : q24 ∈ L59 := by rw [eL59]; exact List.mem_append_left _ m_q24
  have e_q32 : f58 q32 = .inl (g 0, 30, .inl (fun _ => 0)) := up_ne ef58 (fun h => nq170 (h ▸ m_q32)) e_q32
  have nq170_q32 : q32 ≠ q170 := fun h => nq170 (h ▸ m_q32)
  have m_q32 : q32 ∈ L59 := by rw [eL59]; exact List.mem_append_left _ m_q32
  have e_q40 : f58 q40 = .inl (g 0, 30, .inl (fun _ => 0)) := up_ne ef58 (fun h => nq170 (h ▸ m_q40)) e_q40
  have nq170_q40 : q40 ≠ q170 := fun h => nq170 (h ▸ m_q40)
  have m_q40 : q40 ∈ L59 := by rw [eL59]; exact List.mem_append_left _ m_q40
  have e_q48 : f58 q48 = .inl (g 0, 30, .inl (fun _ => 0)) := up_ne ef58 (fun h => nq170 (h ▸ m_q48)) e_q48
  have nq170_q48 : q48 ≠ q170 := fun h => nq170 (h ▸ m_q48)
  have m_q48 : q48 ∈ L59 := by rw [eL59]; exact List.mem_append_left _ m_q48
  have e_q57 : f58 q57 = .inl (g 1, 30000, .inr (.inl (fun _ => 0))) := up_ne ef58 (fun h => nq170 (h ▸ m_q57)) e_q57
  have nq170_q57 : q57 ≠ q170 := fun h => nq170 (h ▸ m_q57)
  have m_q57 : q57 ∈ L59 := by rw [eL59]; exact List.mem_append_left _ m_q57
  have e_q65 : f58 q65 = .inl (g 0, 30, .inl (fun _ => 0)) := up_ne ef58 (fun h => nq170 (h ▸ m_q65)) e_q65
  have nq170_q65 : q65 ≠ q170 := fun h => nq170 (h ▸ m_q65)
  have m_q65 : q65 ∈ L59 := by rw [eL59]; exact List.mem_append_left _ m_q65
  have e_q73 : f58 q73 = .inl (g 0, 122880, .inl (fun _ => 0)) := up_ne ef58 (fun h => nq170 (h ▸ m_q73)) e_q73
  have nq170_q73 : q73 ≠ q170 := fun h => nq170 (h ▸ m_q73)
  have m_q73 : q73 ∈ L59 := by rw [eL59]; exact List.mem_append_left _ m_q73
  have e_q81 : f58 q81 = .inl (g 0, 76800, .inl (fun _ => 0)) := up_ne ef58 (fun h => nq170 (h ▸ m_q81)) e_q81
  have nq170_q81 : q81 ≠ q170 := fun h => nq170 (h ▸ m_q81)
  have m_q81 : q81 ∈ L59 := by rw [eL59]; exact List.mem_append_left _ m_q81
  have e_q90 : f58 q90 = .inl (g 0, 600, .inl (fun _ => 0)) := up_ne ef58 (fun h => nq170 (h ▸ m_q90)) e_q90
  have nq170_q90 : q90 ≠ q170 := fun h => nq170 (h ▸ m_q90)
  have m_q90 : q90 ∈ L59 := by rw [eL59]; exact List.mem_append_left _ m_q90
  have e_q99 : f58 q99 = .inl (g 0, 600, .inl (fun _ => 0)) := up_ne ef58 (fun h => nq170 (h ▸ m_q99)) e_q99
  have nq170_q99 : q99 ≠ q170 := fun h => nq170 (h ▸ m_q99)
  have m_q99 : q99 ∈ L59 := by rw [eL59]; exact List.mem_append_left _ m_q99
  have e_q108 : f58 q108 = .inl (g 1, 30000, .inr (.inl (fun _ => 0))) := up_ne ef58 (fun h => nq170 (h ▸ m_q108)) e_q108
  have nq170_q108 : q108 ≠ q170 := fun h => nq170 (h ▸ m_q108)
  have m_q108 : q108 ∈ L59 := by rw [eL59]; exact List.mem_append_left _ m_q108
  have e_q116 : f58 q116 = .inl (g 0, 30, .inl (fun _ => 0)) := up_ne ef58 (fun h => nq170 (h ▸ m_q116)) e_q116
  have nq170_q116 : q116 ≠ q170 := fun h => nq170 (h ▸ m_q116)
  have m_q116 : q116 ∈ L59 := by rw [eL59]; exact List.mem_append_left _ m_q116
  have e_q125 : f58 q125 = .inl (g 1, 1000, .inr (.inl (fun _ => 0))) := up_ne ef58 (fun h => nq170 (h ▸ m_q125)) e_q125
  have nq170_q125 : q125 ≠ q170 := fun h => nq170 (h ▸ m_q125)
  have m_q125 : q125 ∈ L59 := by rw [eL59]; exact List.mem_append_left _ m_q125
  have e_q134 : f58 q134 = .inl (g 1, 1000, .inr (.inl (fun _ => 0))) := up_ne ef58 (fun h => nq170 (h ▸ m_q134)) e_q134
  have nq170_q134 : q134 ≠ q170 := fun h => nq170 (h ▸ m_q134)
  have m_q134 : q134 ∈ L59 := by rw [eL59]; exact List.mem_append_left _ m_q134
  have e_q143 : f58 q143 = .inl (g 1, 1000, .inr (.inl (fun _ => 0))) := up_ne ef58 (fun h => nq170 (h ▸ m_q143)) e_q143
  have nq170_q143 : q143 ≠ q170 := fun h => nq170 (h ▸ m_q143)
  have m_q143 : q143 ∈ L59 := by rw [eL59]; exact List.mem_append_left _ m_q143
  have e_q152 : f58 q152 = .inl (g 0, 1000, .inl (fun _ => 0)) := up_ne ef58 (fun h => nq170 (h ▸ m_q152)) e_q152
  have nq170_q152 : q152 ≠ q170 := fun h => nq170 (h ▸ m_q152)
  have m_q152 : q152 ∈ L59 := by rw [eL59]; exact List.mem_append_left _ m_q152
  have e_q161 : f58 q161 = .inl (g 0, 1000, .inl (fun _ => 0)) := up_ne ef58 (fun h => nq170 (h ▸ m_q161)) e_q161
  have nq170_q161 : q161 ≠ q170 := fun h => nq170 (h ▸ m_q161)
  have m_q161 : q161 ∈ L59 := by rw [eL59]; exact List.mem_append_left _ m_q161
  have e_q170 : f58 q170 = .inl (g 2, 1000, .inl (fun _ => 0)) := up_self ef58
  have m_q170 : q170 ∈ L59 := by rw [eL59]; simp
  have nzq170 : q170 ∉ L := fun h => nq170 (mono _ h)
  have fr : ∀ b, b ∈ L → b ≠ h → f58 b = f b := fun b mb nb0 => (up_ne ef58 (fun h => nzq170 (h ▸ mb)) rfl).trans (fr b mb nb0)
  have mono : ∀ b, b ∈ L → b ∈ L59 := fun b h => by rw [eL59]; exact List.mem_append_left _ (mono b h)
  refine q_putF hx hb hts in_X9 tyX9 tyX9_ok nmX9 hown hnm S m_h e_h (C := RX9) (T := TX9) (N := 23) rfl 20 (by decide) (hts (.fieldLink RX9 70 "SieveCabinetModel" "isOff" "[Z") (by decide +kernel)) rfl rfl rfl rfl (Nat.le_of_ble_eq_true rfl) dX9_init_172 (fun H locs S => ?_)
  obtain ⟨f60, ef60⟩ : ∃ z_, z_ = va_up f58 h (.inr (7, [.ref q8, .ref q16, .ref q24, .ref q32, .ref q40, .ref q48, .ref q57, .ref q65, .ref q73, .ref q81, .ref q90, .ref q99, .ref q108, .ref q116, .int 0, .ref q125, .ref q134, .ref q143, .ref q152, .ref q161, .ref q170, .null, .null])) := ⟨_, rfl⟩
  have S : PS D g (va_A (va_pl L f) sz) s.heap s L59 f60 H locs := by rw [ef60]; exact S
  have e_q8 : f60 q8 = .inl (g 1, 8000, .inr (.inl (fun _ => 0))) := up_ne ef60 (fun h => nq8_h h.symm) e_q8
  have e_q16 : f60 q16 = .inl (g 0, 8, .inl (fun _ => 0)) := up_ne ef60 (fun h => nq16_h h.symm) e_q16
  have e_q24 : f60 q24 = .inl (g 0, 30, .inl (fun _ => 0)) := up_ne ef60 (fun h => nq24_h h.symm) e_q24
  have e_q32 : f60 q32 = .inl (g 0, 30, .inl (fun _ => 0)) := up_ne ef60 (fun h => nq32_h h.symm) e_q32
  have e_q40 : f60 q40 = .inl (g 0, 30, .inl (fun _ => 0)) := up_ne ef60 (fun h => nq40_h h.symm) e_q40
  have e_q48 : f60 q48 = .inl (g 0, 30, .inl (fun _ => 0)) := up_ne ef60 (fun h => nq48_h h.symm) e_q48
  have e_q57 : f60 q57 = .inl (g 1, 30000, .inr (.inl (fun _ => 0))) := up_ne ef60 (fun h => nq57_h h.symm) e_q57
  have e_q65 : f60 q65 = .inl (g 0, 30, .inl (fun _ => 0)) := up_ne ef60 (fun h => nq65_h h.symm) e_q65
  have e_q73 : f60 q73 = .inl (g 0, 122880, .inl (fun _ => 0)) := up_ne ef60 (fun h => nq73_h h.symm) e_q73
  have e_q81 : f60 q81 = .inl (g 0, 76800, .inl (fun _ => 0)) := up_ne ef60 (fun h => nq81_h h.symm) e_q81
  have e_q90 : f60 q90 = .inl (g 0, 600, .inl (fun _ => 0)) := up_ne ef60 (fun h => nq90_h h.symm) e_q90
  have e_q99 : f60 q99 = .inl (g 0, 600, .inl (fun _ => 0)) := up_ne ef60 (fun h => nq99_h h.symm) e_q99
  have e_q108 : f60 q108 = .inl (g 1, 30000, .inr (.inl (fun _ => 0))) := up_ne ef60 (fun h => nq108_h h.symm) e_q108
  have e_q116 : f60 q116 = .inl (g 0, 30, .inl (fun _ => 0)) := up_ne ef60 (fun h => nq116_h h.symm) e_q116
  have e_q125 : f60 q125 = .inl (g 1, 1000, .inr (.inl (fun _ => 0))) := up_ne ef60 (fun h => nq125_h h.symm) e_q125
  have e_q134 : f60 q134 = .inl (g 1, 1000, .inr (.inl (fun _ => 0))) := up_ne ef60 (fun h => nq134_h h.symm) e_q134
  have e_q143 : f60 q143 = .inl (g 1, 1000, .inr (.inl (fun _ => 0))) := up_ne ef60 (fun h => nq143_h h.symm) e_q143
  have e_q152 : f60 q152 = .inl (g 0, 1000, .inl (fun _ => 0)) := up_ne ef60 (fun h => nq152_h h.symm) e_q152
  have e_q161 : f60 q161 = .inl (g 0, 1000, .inl (fun _ => 0)) := up_ne ef60 (fun h => nq161_h h.symm) e_q161
  have e_q170 : f60 q170 = .inl (g 2, 1000, .inl (fun _ => 0)) := up_ne ef60 (fun h => nq170_h h.symm) e_q170
  have e_h : f60 h = .inr (7, [.ref q8, .ref q16, .ref q24, .ref q32, .ref q40, .ref q48, .ref q57, .ref q65, .ref q73, .ref q81, .ref q90, .ref q99, .ref q108, .ref q116, .int 0, .ref q125, .ref q134, .ref q143, .ref q152, .ref q161, .ref q170, .null, .null]) := up_self ef60
  have fr : ∀ b, b ∈ L → b ≠ h → f60 b = f b := fun b mb nb0 => (up_ne ef60 nb0 rfl).trans (fr b mb nb0)
  refine lv_aload_n hx hb dX9_init_175 rfl (lv_at hl 0 rfl) ?_
  refine lv_sipush (v := 4096) hx hb dX9_init_176 (by decide) ?_
  refine q_newi hx hb (hts (.arrayClass .int) (by decide +kernel)) S (N' := 4096) (by decide) (by decide) (by decide) (Nat.le_of_ble_eq_true rfl) (Nat.le_of_ble_eq_true rfl) dX9_init_179 (fun q179 H nq179 S => ?_)
  refine W.widen (k := 21) (n := 279164) (by decide) (by decide) ?_
  obtain ⟨f61, ef61⟩ : ∃ z_, z_ = va_up f60 q179 (.inl (g 0, 4096, .inl (fun _ => 0))) := ⟨_, rfl⟩
  obtain ⟨L62, eL62⟩ : ∃ z_, z_ = L59 ++ [q179] := ⟨_, rfl⟩
  have S : PS D g (va_A (va_pl L f) sz) s.heap s L62 f61 H locs := by rw [ef61, eL62]; exact S
  have e_h : f61 h = .inr (7, [.ref q8, .ref q16, .ref q24, .ref q32, .ref q40, .ref q48, .ref q57, .ref q65, .ref q73, .ref q81, .ref q90, .ref q99, .ref q108, .ref q116, .int 0, .ref q125, .ref q134, .ref q143, .ref q152, .ref q161, .ref q170, .null, .null]) := up_ne ef61 (fun h => nq179 (h ▸ m_h)) e_h
  have nq179_h : h ≠ q179 := fun h => nq179 (h ▸ m_h)
  have m_h : h ∈ L62 := by rw [eL62]; exact List.mem_append_left _ m_h
  have e_q8 : f61 q8 = .inl (g 1, 8000, .inr (.inl (fun _ => 0))) := up_ne ef61 (fun h => nq179 (h ▸ m_q8)) e_q8
  have nq179_q8 : q8 ≠ q179 := fun h => nq179 (h ▸ m_q8)
  have m_q8 : q8 ∈ L62 := by rw [eL62]; exact List.mem_append_left _ m_q8
  have e_q16 : f61 q16 = .inl (g 0, 8, .inl (fun _ => 0)) := up_ne ef61 (fun h => nq179 (h ▸ m_q16)) e_q16
  have nq179_q16 : q16 ≠ q179 := fun h => nq179 (h ▸ m_q16)
  have m_q16 : q16 ∈ L62 := by rw [eL62]; exact List.mem_append_left _ m_q16
  have e_q24 : f61 q24 = .inl (g 0, 30, .inl (fun _ => 0)) := up_ne ef61 (fun h => nq179 (h ▸ m_q24)) e_q24
  have nq179_q24 : q24 ≠ q179 := fun h => nq179 (h ▸ m_q24)
  have m_q24 : q24 ∈ L62 := by rw [eL62]; exact List.mem_append_left _ m_q24
  have e_q32 : f61 q32 = .inl (g 0, 30, .inl (fun _ => 0)) := up_ne ef61 (fun h => nq179 (h ▸ m_q32)) e_q32
  have nq179_q32 : q32 ≠ q179 := fun h => nq179 (h ▸ m_q32)
  have m_q32 : q32 ∈ L62 := by rw [eL62]; exact List.mem_append_left _ m_q32
  have e_q40 : f61 q40 = .inl (g 0, 30, .inl (fun _ => 0)) := up_ne ef61 (fun h => nq179 (h ▸ m_q40)) e_q40
  have nq179_q40 : q40 ≠ q179 := fun h => nq179 (h ▸ m_q40)
  have m_q40 : q40 ∈ L62 := by rw [eL62]; exact List.mem_append_left _ m_q40
  have e_q48 : f61 q48 = .inl (g 0, 30, .inl (fun _ => 0)) := up_ne ef61 (fun h => nq179 (h ▸ m_q48)) e_q48
  have nq179_q48 : q48 ≠ q179 := fun h => nq179 (h ▸ m_q48)
  have m_q48 : q48 ∈ L62 := by rw [eL62]; exact List.mem_append_left _ m_q48
  have e_q57 : f61 q57 = .inl (g 1, 30000, .inr (.inl (fun _ => 0))) := up_ne ef61 (fun h => nq179 (h ▸ m_q57)) e_q57
  have nq179_q57 : q57 ≠ q179 := fun h => nq179 (h ▸ m_q57)
  have m_q57 : q57 ∈ L62 := by rw [eL62]; exact List.mem_append_left _ m_q57
  have e_q65 : f61 q65 = .inl (g 0, 30, .inl (fun _ => 0)) := up_ne ef61 (fun h => nq179 (h ▸ m_q65)) e_q65
  have nq179_q65 : q65 ≠ q179 := fun h => nq179 (h ▸ m_q65)
  have m_q65 : q65 ∈ L62 := by rw [eL62]; exact List.mem_append_left _ m_q65
  have e_q73 : f61 q73 = .inl (g 0, 122880, .inl (fun _ => 0)) := up_ne ef61 (fun h => nq179 (h ▸ m_q73)) e_q73
  have nq179_q73 : q73 ≠ q179 := fun h => nq179 (h ▸ m_q73)
  have m_q73 : q73 ∈ L62 := by rw [eL62]; exact List.mem_append_left _ m_q73
  have e_q81 : f61 q81 = .inl (g 0, 76800, .inl (fun _ => 0)) := up_ne ef61 (fun h => nq179 (h ▸ m_q81)) e_q81
  have nq179_q81 : q81 ≠ q179 := fun h => nq179 (h ▸ m_q81)
  have m_q81 : q81 ∈ L62 := by rw [eL62]; exact List.mem_append_left _ m_q81
  have e_q90 : f61 q90 = .inl (g 0, 600, .inl (fun _ => 0)) := up_ne ef61 (fun h => nq179 (h ▸ m_q90)) e_q90
  have nq179_q90 : q90 ≠ q179 := fun h => nq179 (h ▸ m_q90)
  have m_q90 : q90 ∈ L62 := by rw [eL62]; exact List.mem_append_left _ m_q90
  have e_q99 : f61 q99 = .inl (g 0, 600, .inl (fun _ => 0)) := up_ne ef61 (fun h => nq179 (h ▸ m_q99)) e_q99
  have nq179_q99 : q99 ≠ q179 := fun h => nq179 (h ▸ m_q99)
  have m_q99 : q99 ∈ L62 := by rw [eL62]; exact List.mem_append_left _ m_q99
  have e_q108 : f61 q108 = .inl (g 1, 30000, .inr (.inl (fun _ => 0))) := up_ne ef61 (fun h => nq179 (h ▸ m_q108)) e_q108
  have nq179_q108 : q108 ≠ q179 := fun h => nq179 (h ▸ m_q108)
  have m_q108 : q108 ∈ L62 := by rw [eL62]; exact List.mem_append_left _ m_q108
  have e_q116 : f61 q116 = .inl (g 0, 30, .inl (fun _ => 0)) := up_ne ef61 (fun h => nq179 (h ▸ m_q116)) e_q116
  have nq179_q116 : q116 ≠ q179 := fun h => nq179 (h ▸ m_q116)
  have m_q116 : q116 ∈ L62 := by rw [eL62]; exact List.mem_append_left _ m_q116
  have e_q125 : f61 q125 = .inl (g 1, 1000, .inr (.inl (fun _ => 0))) := up_ne ef61 (fun h => nq179 (h ▸ m_q125)) e_q125
  have nq179_q125 : q125 ≠ q179 := fun h => nq179 (h ▸ m_q125)
  have m_q125 : q125 ∈ L62 := by rw [eL62]; exact List.mem_append_left _ m_q125
  have e_q134 : f61 q134 = .inl (g 1, 1000, .inr (.inl (fun _ => 0))) := up_ne ef61 (fun h => nq179 (h ▸ m_q134)) e_q134
  have nq179_q134 : q134 ≠ q179 := fun h => nq179 (h ▸ m_q134)
  have m_q134 : q134 ∈ L62 := by rw [eL62]; exact List.mem_append_left _ m_q134
  have e_q143 : f61 q143 = .inl (g 1, 1000, .inr (.inl (fun _ => 0))) := up_ne ef61 (fun h => nq179 (h ▸ m_q143)) e_q143
  have nq179_q143 : q143 ≠ q179 := fun h => nq179 (h ▸ m_q143)
  have m_q143 : q143 ∈ L62 := by rw [eL62]; exact List.mem_append_left _ m_q143
  have e_q152 : f61 q152 = .inl (g 0, 1000, .inl (fun _ => 0)) := up_ne ef61 (fun h => nq179 (h ▸ m_q152)) e_q152
  have nq179_q152 : q152 ≠ q179 := fun h => nq179 (h ▸ m_q152)
  have m_q152 : q152 ∈ L62 := by rw [eL62]; exact List.mem_append_left _ m_q152
  have e_q161 : f61 q161 = .inl (g 0, 1000, .inl (fun _ => 0)) := up_ne ef61 (fun h => nq179 (h ▸ m_q161)) e_q161
  have nq179_q161 : q161 ≠ q179 := fun h => nq179 (h ▸ m_q161)
  have m_q161 : q161 ∈ L62 := by rw [eL62]; exact List.mem_append_left _ m_q161
  have e_q170 : f61 q170 = .inl (g 2, 1000, .inl (fun _ => 0)) := up_ne ef61 (fun h => nq179 (h ▸ m_q170)) e_q170
  have nq179_q170 : q170 ≠ q179 := fun h => nq179 (h ▸ m_q170)
  have m_q170 : q170 ∈ L62 := by rw [eL62]; exact List.mem_append_left _ m_q170
  have e_q179 : f61 q179 = .inl (g 0, 4096, .inl (fun _ => 0)) := up_self ef61
  have m_q179 : q179 ∈ L62 := by rw [eL62]; simp
  have nzq179 : q179 ∉ L := fun h => nq179 (mono _ h)
  have fr : ∀ b, b ∈ L → b ≠ h → f61 b = f b := fun b mb nb0 => (up_ne ef61 (fun h => nzq179 (h ▸ mb)) rfl).trans (fr b mb nb0)
  have mono : ∀ b, b ∈ L → b ∈ L62 := fun b h => by rw [eL62]; exact List.mem_append_left _ (mono b h)
  refine q_putF hx hb hts in_X9 tyX9 tyX9_ok nmX9 hown hnm S m_h e_h (C := RX9) (T := TX9) (N := 23) rfl 21 (by decide) (hts (.fieldLink RX9 74 "SieveCabinetModel" "alone" "[I") (by decide +kernel)) rfl rfl rfl rfl (Nat.le_of_ble_eq_true rfl) dX9_init_181 (fun H locs S => ?_)
  obtain ⟨f63, ef63⟩ : ∃ z_, z_ = va_up f61 h (.inr (7, [.ref q8, .ref q16, .ref q24, .ref q32, .ref q40, .ref q48, .ref q57, .ref q65, .ref q73, .ref q81, .ref q90, .ref q99, .ref q108, .ref q116, .int 0, .ref q125, .ref q134, .ref q143, .ref q152, .ref q161, .ref q170, .ref q179, .null])) := ⟨_, rfl⟩
  have S : PS D g (va_A (va_pl L f) sz) s.heap s L62 f63 H locs := by rw [ef63]; exact S
  have e_q8 : f63 q8 = .inl (g 1, 8000, .inr (.inl (fun _ => 0))) := up_ne ef63 (fun h => nq8_h h.symm) e_q8
  have e_q16 : f63 q16 = .inl (g 0, 8, .inl (fun _ => 0)) := up_ne ef63 (fun h => nq16_h h.symm) e_q16
  have e_q24 : f63 q24 = .inl (g 0, 30, .inl (fun _ => 0)) := up_ne ef63 (fun h => nq24_h h.symm) e_q24
  have e_q32 : f63 q32 = .inl (g 0, 30, .inl (fun _ => 0)) := up_ne ef63 (fun h => nq32_h h.symm) e_q32
  have e_q40 : f63 q40 = .inl (g 0, 30, .inl (fun _ => 0)) := up_ne ef63 (fun h => nq40_h h.symm) e_q40
  have e_q48 : f63 q48 = .inl (g 0, 30, .inl (fun _ => 0)) := up_ne ef63 (fun h => nq48_h h.symm) e_q48
  have e_q57 : f63 q57 = .inl (g 1, 30000, .inr (.inl (fun _ => 0))) := up_ne ef63 (fun h => nq57_h h.symm) e_q57
  have e_q65 : f63 q65 = .inl (g 0, 30, .inl (fun _ => 0)) := up_ne ef63 (fun h => nq65_h h.symm) e_q65
  have e_q73 : f63 q73 = .inl (g 0, 122880, .inl (fun _ => 0)) := up_ne ef63 (fun h => nq73_h h.symm) e_q73
  have e_q81 : f63 q81 = .inl (g 0, 76800, .inl (fun _ => 0)) := up_ne ef63 (fun h => nq81_h h.symm) e_q81
  have e_q90 : f63 q90 = .inl (g 0, 600, .inl (fun _ => 0)) := up_ne ef63 (fun h => nq90_h h.symm) e_q90
  have e_q99 : f63 q99 = .inl (g 0, 600, .inl (fun _ => 0)) := up_ne ef63 (fun h => nq99_h h.symm) e_q99
  have e_q108 : f63 q108 = .inl (g 1, 30000, .inr (.inl (fun _ => 0))) := up_ne ef63 (fun h => nq108_h h.symm) e_q108
  have e_q116 : f63 q116 = .inl (g 0, 30, .inl (fun _ => 0)) := up_ne ef63 (fun h => nq116_h h.symm) e_q116
  have e_q125 : f63 q125 = .inl (g 1, 1000, .inr (.inl (fun _ => 0))) := up_ne ef63 (fun h => nq125_h h.symm) e_q125
  have e_q134 : f63 q134 = .inl (g 1, 1000, .inr (.inl (fun _ => 0))) := up_ne ef63 (fun h => nq134_h h.symm) e_q134
  have e_q143 : f63 q143 = .inl (g 1, 1000, .inr (.inl (fun _ => 0))) := up_ne ef63 (fun h => nq143_h h.symm) e_q143
  have e_q152 : f63 q152 = .inl (g 0, 1000, .inl (fun _ => 0)) := up_ne ef63 (fun h => nq152_h h.symm) e_q152
  have e_q161 : f63 q161 = .inl (g 0, 1000, .inl (fun _ => 0)) := up_ne ef63 (fun h => nq161_h h.symm) e_q161
  have e_q170 : f63 q170 = .inl (g 2, 1000, .inl (fun _ => 0)) := up_ne ef63 (fun h => nq170_h h.symm) e_q170
  have e_q179 : f63 q179 = .inl (g 0, 4096, .inl (fun _ => 0)) := up_ne ef63 (fun h => nq179_h h.symm) e_q179
  have e_h : f63 h = .inr (7, [.ref q8, .ref q16, .ref q24, .ref q32, .ref q40, .ref q48, .ref q57, .ref q65, .ref q73, .ref q81, .ref q90, .ref q99, .ref q108, .ref q116, .int 0, .ref q125, .ref q134, .ref q143, .ref q152, .ref q161, .ref q170, .ref q179, .null]) := up_self ef63
  have fr : ∀ b, b ∈ L → b ≠ h → f63 b = f b := fun b mb nb0 => (up_ne ef63 nb0 rfl).trans (fr b mb nb0)
  refine lv_aload_n hx hb dX9_init_184 rfl (lv_at hl 0 rfl) ?_
  refine lv_sipush (v := 4096) hx hb dX9_init_185 (by decide) ?_
  refine q_newi hx hb (hts (.arrayClass .int) (by decide +kernel)) S (N' := 4096) (by decide) (by decide) (by decide) (Nat.le_of_ble_eq_true rfl) (Nat.le_of_ble_eq_true rfl) dX9_init_188 (fun q188 H nq188 S => ?_)
  refine W.widen (k := 22) (n := 283260) (by decide) (by decide) ?_
  obtain ⟨f64, ef64⟩ : ∃ z_, z_ = va_up f63 q188 (.inl (g 0, 4096, .inl (fun _ => 0))) := ⟨_, rfl⟩
  obtain ⟨L65, eL65⟩ : ∃ z_, z_ = L62 ++ [q188] := ⟨_, rfl⟩
  have S : PS D g (va_A (va_pl L f) sz) s.heap s L65 f64 H locs := by rw [ef64, eL65]; exact S
  have e_h : f64 h = .inr (7, [.ref q8, .ref q16, .ref q24, .ref q32, .ref q40, .ref q48, .ref q57, .ref q65, .ref q73, .ref q81, .ref q90, .ref q99, .ref q108, .ref q116, .int 0, .ref q125, .ref q134, .ref q143, .ref q152, .ref q161, .ref q170, .ref q179, .null]) := up_ne ef64 (fun h => nq188 (h ▸ m_h)) e_h
  have nq188_h : h ≠ q188 := fun h => nq188 (h ▸ m_h)
  have m_h : h ∈ L65 := by rw [eL65]; exact List.mem_append_left _ m_h
  have e_q8 : f64 q8 = .inl (g 1, 8000, .inr (.inl (fun _ => 0))) := up_ne ef64 (fun h => nq188 (h ▸ m_q8)) e_q8
  have nq188_q8 : q8 ≠ q188 := fun h => nq188 (h ▸ m_q8)
  have m_q8 : q8 ∈ L65 := by rw [eL65]; exact List.mem_append_left _ m_q8
  have e_q16 : f64 q16 = .inl (g 0, 8, .inl (fun _ => 0)) := up_ne ef64 (fun h => nq188 (h ▸ m_q16)) e_q16
  have nq188_q16 : q16 ≠ q188 := fun h => nq188 (h ▸ m_q16)
  have m_q16 : q16 ∈ L65 := by rw [eL65]; exact List.mem_append_left _ m_q16
  have e_q24 : f64 q24 = .inl (g 0, 30, .inl (fun _ => 0)) := up_ne ef64 (fun h => nq188 (h ▸ m_q24)) e_q24
  have nq188_q24 : q24 ≠ q188 := fun h => nq188 (h ▸ m_q24)
  have m_q24 : q24 ∈ L65 := by rw [eL65]; exact List.mem_append_left _ m_q24
  have e_q32 : f64 q32 = .inl (g 0, 30, .inl (fun _ => 0)) := up_ne ef64 (fun h => nq188 (h ▸ m_q32)) e_q32
  have nq188_q32 : q32 ≠ q188 := fun h => nq188 (h ▸ m_q32)
  have m_q32 : q32 ∈ L65 := by rw [eL65]; exact List.mem_append_left _ m_q32
  have e_q40 : f64 q40 = .inl (g 0, 30, .inl (fun _ => 0)) := up_ne ef64 (fun h => nq188 (h ▸ m_q40)) e_q40
  have nq188_q40 : q40 ≠ q188 := fun h => nq188 (h ▸ m_q40)
  have m_q40 : q40 ∈ L65 := by rw [eL65]; exact List.mem_append_left _ m_q40
  have e_q48 : f64 q48 = .inl (g 0, 30, .inl (fun _ => 0)) := up_ne ef64 (fun h => nq188 (h ▸ m_q48)) e_q48
  have nq188_q48 : q48 ≠ q188 := fun h => nq188 (h ▸ m_q48)
  have m_q48 : q48 ∈ L65 := by rw [eL65]; exact List.mem_append_left _ m_q48
  have e_q57 : f64 q57 = .inl (g 1, 30000, .inr (.inl (fun _ => 0))) := up_ne ef64 (fun h => nq188 (h ▸ m_q57)) e_q57
  have nq188_q57 : q57 ≠ q188 := fun h => nq188 (h ▸ m_q57)
  have m_q57 : q57 ∈ L65 := by rw [eL65]; exact List.mem_append_left _ m_q57
  have e_q65 : f64 q65 = .inl (g 0, 30, .inl (fun _ => 0)) := up_ne ef64 (fun h => nq188 (h ▸ m_q65)) e_q65
  have nq188_q65 : q65 ≠ q188 := fun h => nq188 (h ▸ m_q65)
  have m_q65 : q65 ∈ L65 := by rw [eL65]; exact List.mem_append_left _ m_q65
  have e_q73 : f64 q73 = .inl (g 0, 122880, .inl (fun _ => 0)) := up_ne ef64 (fun h => nq188 (h ▸ m_q73)) e_q73
  have nq188_q73 : q73 ≠ q188 := fun h => nq188 (h ▸ m_q73)
  have m_q73 : q73 ∈ L65 := by rw [eL65]; exact List.mem_append_left _ m_q73
  have e_q81 : f64 q81 = .inl (g 0, 76800, .inl (fun _ => 0)) := up_ne ef64 (fun h => nq188 (h ▸ m_q81)) e_q81
  have nq188_q81 : q81 ≠ q188 := fun h => nq188 (h ▸ m_q81)
  have m_q81 : q81 ∈ L65 := by rw [eL65]; exact List.mem_append_left _ m_q81
  have e_q90 : f64 q90 = .inl (g 0, 600, .inl (fun _ => 0)) := up_ne ef64 (fun h => nq188 (h ▸ m_q90)) e_q90
  have nq188_q90 : q90 ≠ q188 := fun h => nq188 (h ▸ m_q90)
  have m_q90 : q90 ∈ L65 := by rw [eL65]; exact List.mem_append_left _ m_q90
  have e_q99 : f64 q99 = .inl (g 0, 600, .inl (fun _ => 0)) := up_ne ef64 (fun h => nq188 (h ▸ m_q99)) e_q99
  have nq188_q99 : q99 ≠ q188 := fun h => nq188 (h ▸ m_q99)
  have m_q99 : q99 ∈ L65 := by rw [eL65]; exact List.mem_append_left _ m_q99
  have e_q108 : f64 q108 = .inl (g 1, 30000, .inr (.inl (fun _ => 0))) := up_ne ef64 (fun h => nq188 (h ▸ m_q108)) e_q108
  have nq188_q108 : q108 ≠ q188 := fun h => nq188 (h ▸ m_q108)
  have m_q108 : q108 ∈ L65 := by rw [eL65]; exact List.mem_append_left _ m_q108
  have e_q116 : f64 q116 = .inl (g 0, 30, .inl (fun _ => 0)) := up_ne ef64 (fun h => nq188 (h ▸ m_q116)) e_q116
  have nq188_q116 : q116 ≠ q188 := fun h => nq188 (h ▸ m_q116)
  have m_q116 : q116 ∈ L65 := by rw [eL65]; exact List.mem_append_left _ m_q116
  have e_q125 : f64 q125 = .inl (g 1, 1000, .inr (.inl (fun _ => 0))) := up_ne ef64 (fun h => nq188 (h ▸ m_q125)) e_q125
  have nq188_q125 : q125 ≠ q188 := fun h => nq188 (h ▸ m_q125)
  have m_q125 : q125 ∈ L65 := by rw [eL65]; exact List.mem_append_left _ m_q125
  have e_q134 : f64 q134 = .inl (g 1, 1000, .inr (.inl (fun _ => 0))) := up_ne ef64 (fun h => nq188 (h ▸ m_q134)) e_q134
  have nq188_q134 : q134 ≠ q188 := fun h => nq188 (h ▸ m_q134)
  have m_q134 : q134 ∈ L65 := by rw [eL65]; exact List.mem_append_left _ m_q134
  have e_q143 : f64 q143 = .inl (g 1, 1000, .inr (.inl (fun _ => 0))) := up_ne ef64 (fun h => nq188 (h ▸ m_q143)) e_q143
  have nq188_q143 : q143 ≠ q188 := fun h => nq188 (h ▸ m_q143)
  have m_q143 : q143 ∈ L65 := by rw [eL65]; exact List.mem_append_left _ m_q143
  have e_q152 : f64 q152 = .inl (g 0, 1000, .inl (fun _ => 0)) := up_ne ef64 (fun h => nq188 (h ▸ m_q152)) e_q152
  have nq188_q152 : q152 ≠ q188 := fun h => nq188 (h ▸ m_q152)
  have m_q152 : q152 ∈ L65 := by rw [eL65]; exact List.mem_append_left _ m_q152
  have e_q161 : f64 q161 = .inl (g 0, 1000, .inl (fun _ => 0)) := up_ne ef64 (fun h => nq188 (h ▸ m_q161)) e_q161
  have nq188_q161 : q161 ≠ q188 := fun h => nq188 (h ▸ m_q161)
  have m_q161 : q161 ∈ L65 := by rw [eL65]; exact List.mem_append_left _ m_q161
  have e_q170 : f64 q170 = .inl (g 2, 1000, .inl (fun _ => 0)) := up_ne ef64 (fun h => nq188 (h ▸ m_q170)) e_q170
  have nq188_q170 : q170 ≠ q188 := fun h => nq188 (h ▸ m_q170)
  have m_q170 : q170 ∈ L65 := by rw [eL65]; exact List.mem_append_left _ m_q170
  have e_q179 : f64 q179 = .inl (g 0, 4096, .inl (fun _ => 0)) := up_ne ef64 (fun h => nq188 (h ▸ m_q179)) e_q179
  have nq188_q179 : q179 ≠ q188 := fun h => nq188 (h ▸ m_q179)
  have m_q179 : q179 ∈ L65 := by rw [eL65]; exact List.mem_append_left _ m_q179
  have e_q188 : f64 q188 = .inl (g 0, 4096, .inl (fun _ => 0)) := up_self ef64
  have m_q188 : q188 ∈ L65 := by rw [eL65]; simp
  have nzq188 : q188 ∉ L := fun h => nq188 (mono _ h)
  have fr : ∀ b, b ∈ L → b ≠ h → f64 b = f b := fun b mb nb0 => (up_ne ef64 (fun h => nzq188 (h ▸ mb)) rfl).trans (fr b mb nb0)
  have mono : ∀ b, b ∈ L → b ∈ L65 := fun b h => by rw [eL65]; exact List.mem_append_left _ (mono b h)
  refine q_putF hx hb hts in_X9 tyX9 tyX9_ok nmX9 hown hnm S m_h e_h (C := RX9) (T := TX9) (N := 23) rfl 22 (by decide) (hts (.fieldLink RX9 77 "SieveCabinetModel" "kept" "[I") (by decide +kernel)) rfl rfl rfl rfl (Nat.le_of_ble_eq_true rfl) dX9_init_190 (fun H locs S => ?_)
  obtain ⟨f66, ef66⟩ : ∃ z_, z_ = va_up f64 h (.inr (7, [.ref q8, .ref q16, .ref q24, .ref q32, .ref q40, .ref q48, .ref q57, .ref q65, .ref q73, .ref q81, .ref q90, .ref q99, .ref q108, .ref q116, .int 0, .ref q125, .ref q134, .ref q143, .ref q152, .ref q161, .ref q170, .ref q179, .ref q188])) := ⟨_, rfl⟩
  have S : PS D g (va_A (va_pl L f) sz) s.heap s L65 f66 H locs := by rw [ef66]; exact S
  have e_q8 : f66 q8 = .inl (g 1, 8000, .inr (.inl (fun _ => 0))) := up_ne ef66 (fun h => nq8_h h.symm) e_q8
  have e_q16 : f66 q16 = .inl (g 0, 8, .inl (fun _ => 0)) := up_ne ef66 (fun h => nq16_h h.symm) e_q16
  have e_q24 : f66 q24 = .inl (g 0, 30, .inl (fun _ => 0)) := up_ne ef66 (fun h => nq24_h h.symm) e_q24
  have e_q32 : f66 q32 = .inl (g 0, 30, .inl (fun _ => 0)) := up_ne ef66 (fun h => nq32_h h.symm) e_q32
  have e_q40 : f66 q40 = .inl (g 0, 30, .inl (fun _ => 0)) := up_ne ef66 (fun h => nq40_h h.symm) e_q40
  have e_q48 : f66 q48 = .inl (g 0, 30, .inl (fun _ => 0)) := up_ne ef66 (fun h => nq48_h h.symm) e_q48
  have e_q57 : f66 q57 = .inl (g 1, 30000, .inr (.inl (fun _ => 0))) := up_ne ef66 (fun h => nq57_h h.symm) e_q57
  have e_q65 : f66 q65 = .inl (g 0, 30, .inl (fun _ => 0)) := up_ne ef66 (fun h => nq65_h h.symm) e_q65
  have e_q73 : f66 q73 = .inl (g 0, 122880, .inl (fun _ => 0)) := up_ne ef66 (fun h => nq73_h h.symm) e_q73
  have e_q81 : f66 q81 = .inl (g 0, 76800, .inl (fun _ => 0)) := up_ne ef66 (fun h => nq81_h h.symm) e_q81
  have e_q90 : f66 q90 = .inl (g 0, 600, .inl (fun _ => 0)) := up_ne ef66 (fun h => nq90_h h.symm) e_q90
  have e_q99 : f66 q99 = .inl (g 0, 600, .inl (fun _ => 0)) := up_ne ef66 (fun h => nq99_h h.symm) e_q99
  have e_q108 : f66 q108 = .inl (g 1, 30000, .inr (.inl (fun _ => 0))) := up_ne ef66 (fun h => nq108_h h.symm) e_q108
  have e_q116 : f66 q116 = .inl (g 0, 30, .inl (fun _ => 0)) := up_ne ef66 (fun h => nq116_h h.symm) e_q116
  have e_q125 : f66 q125 = .inl (g 1, 1000, .inr (.inl (fun _ => 0))) := up_ne ef66 (fun h => nq125_h h.symm) e_q125
  have e_q134 : f66 q134 = .inl (g 1, 1000, .inr (.inl (fun _ => 0))) := up_ne ef66 (fun h => nq134_h h.symm) e_q134
  have e_q143 : f66 q143 = .inl (g 1, 1000, .inr (.inl (fun _ => 0))) := up_ne ef66 (fun h => nq143_h h.symm) e_q143
  have e_q152 : f66 q152 = .inl (g 0, 1000, .inl (fun _ => 0)) := up_ne ef66 (fun h => nq152_h h.symm) e_q152
  have e_q161 : f66 q161 = .inl (g 0, 1000, .inl (fun _ => 0)) := up_ne ef66 (fun h => nq161_h h.symm) e_q161
  have e_q170 : f66 q170 = .inl (g 2, 1000, .inl (fun _ => 0)) := up_ne ef66 (fun h => nq170_h h.symm) e_q170
  have e_q179 : f66 q179 = .inl (g 0, 4096, .inl (fun _ => 0)) := up_ne ef66 (fun h => nq179_h h.symm) e_q179
  have e_q188 : f66 q188 = .inl (g 0, 4096, .inl (fun _ => 0)) := up_ne ef66 (fun h => nq188_h h.symm) e_q188
  have e_h : f66 h = .inr (7, [.ref q8, .ref q16, .ref q24, .ref q32, .ref q40, .ref q48, .ref q57, .ref q65, .ref q73, .ref q81, .ref q90, .ref q99, .ref q108, .ref q116, .int 0, .ref q125, .ref q134, .ref q143, .ref q152, .ref q161, .ref q170, .ref q179, .ref q188]) := up_self ef66
  have fr : ∀ b, b ∈ L → b ≠ h → f66 b = f b := fun b mb nb0 => (up_ne ef66 nb0 rfl).trans (fr b mb nb0)
  exact q_retv (post := fun L1 f1 => ∃ q8 : Nat, ∃ q16 : Nat, ∃ q24 : Nat, ∃ q32 : Nat, ∃ q40 : Nat, ∃ q48 : Nat, ∃ q57 : Nat, ∃ q65 : Nat, ∃ q73 : Nat, ∃ q81 : Nat, ∃ q90 : Nat, ∃ q99 : Nat, ∃ q108 : Nat, ∃ q116 : Nat, ∃ q125 : Nat, ∃ q134 : Nat, ∃ q143 : Nat, ∃ q152 : Nat, ∃ q161 : Nat, ∃ q170 : Nat, ∃ q179 : Nat, ∃ q188 : Nat, (∀ b, b ∈ L → b ∈ L1) ∧ (∀ b, b ∈ L → b ≠ h → f1 b = f b) ∧ (q8 ∉ L ∧ q8 ∈ L1 ∧ f1 q8 = .inl (g 1, 8000, .inr (.inl (fun _ => 0)))) ∧ (q16 ∉ L ∧ q16 ∈ L1 ∧ f1 q16 = .inl (g 0, 8, .inl (fun _ => 0))) ∧ (q24 ∉ L ∧ q24 ∈ L1 ∧ f1 q24 = .inl (g 0, 30, .inl (fun _ => 0))) ∧ (q32 ∉ L ∧ q32 ∈ L1 ∧ f1 q32 = .inl (g 0, 30, .inl (fun _ => 0))) ∧ (q40 ∉ L ∧ q40 ∈ L1 ∧ f1 q40 = .inl (g 0, 30, .inl (fun _ => 0))) ∧ (q48 ∉ L ∧ q48 ∈ L1 ∧ f1 q48 = .inl (g 0, 30, .inl (fun _ => 0))) ∧ (q57 ∉ L ∧ q57 ∈ L1 ∧ f1 q57 = .inl (g 1, 30000, .inr (.inl (fun _ => 0)))) ∧ (q65 ∉ L ∧ q65 ∈ L1 ∧ f1 q65 = .inl (g 0, 30, .inl (fun _ => 0))) ∧ (q73 ∉ L ∧ q73 ∈ L1 ∧ f1 q73 = .inl (g 0, 122880, .inl (fun _ => 0))) ∧ (q81 ∉ L ∧ q81 ∈ L1 ∧ f1 q81 = .inl (g 0, 76800, .inl (fun _ => 0))) ∧ (q90 ∉ L ∧ q90 ∈ L1 ∧ f1 q90 = .inl (g 0, 600, .inl (fun _ => 0))) ∧ (q99 ∉ L ∧ q99 ∈ L1 ∧ f1 q99 = .inl (g 0, 600, .inl (fun _ => 0))) ∧ (q108 ∉ L ∧ q108 ∈ L1 ∧ f1 q108 = .inl (g 1, 30000, .inr (.inl (fun _ => 0)))) ∧ (q116 ∉ L ∧ q116 ∈ L1 ∧ f1 q116 = .inl (g 0, 30, .inl (fun _ => 0))) ∧ (q125 ∉ L ∧ q125 ∈ L1 ∧ f1 q125 = .inl (g 1, 1000, .inr (.inl (fun _ => 0)))) ∧ (q134 ∉ L ∧ q134 ∈ L1 ∧ f1 q134 = .inl (g 1, 1000, .inr (.inl (fun _ => 0)))) ∧ (q143 ∉ L ∧ q143 ∈ L1 ∧ f1 q143 = .inl (g 1, 1000, .inr (.inl (fun _ => 0)))) ∧ (q152 ∉ L ∧ q152 ∈ L1 ∧ f1 q152 = .inl (g 0, 1000, .inl (fun _ => 0))) ∧ (q161 ∉ L ∧ q161 ∈ L1 ∧ f1 q161 = .inl (g 0, 1000, .inl (fun _ => 0))) ∧ (q170 ∉ L ∧ q170 ∈ L1 ∧ f1 q170 = .inl (g 2, 1000, .inl (fun _ => 0))) ∧ (q179 ∉ L ∧ q179 ∈ L1 ∧ f1 q179 = .inl (g 0, 4096, .inl (fun _ => 0))) ∧ (q188 ∉ L ∧ q188 ∈ L1 ∧ f1 q188 = .inl (g 0, 4096, .inl (fun _ => 0))) ∧ f1 h = .inr (7, [.ref q8, .ref q16, .ref q24, .ref q32, .ref q40, .ref q48, .ref q57, .ref q65, .ref q73, .ref q81, .ref q90, .ref q99, .ref q108, .ref q116, .int 0, .ref q125, .ref q134, .ref q143, .ref q152, .ref q161, .ref q170, .ref q179, .ref q188]) ∧ [h, q8, q16, q24, q32, q40, q48, q57, q65, q73, q81, q90, q99, q108, q116, q125, q134, q143, q152, q161, q170, q179, q188].Nodup) hx hb hr hlk S dX9_init_193 (by decide) (by decide) (⟨q8, q16, q24, q32, q40, q48, q57, q65, q73, q81, q90, q99, q108, q116, q125, q134, q143, q152, q161, q170, q179, q188, mono, fr, ⟨nzq8, m_q8, e_q8⟩, ⟨nzq16, m_q16, e_q16⟩, ⟨nzq24, m_q24, e_q24⟩, ⟨nzq32, m_q32, e_q32⟩, ⟨nzq40, m_q40, e_q40⟩, ⟨nzq48, m_q48, e_q48⟩, ⟨nzq57, m_q57, e_q57⟩, ⟨nzq65, m_q65, e_q65⟩, ⟨nzq73, m_q73, e_q73⟩, ⟨nzq81, m_q81, e_q81⟩, ⟨nzq90, m_q90, e_q90⟩, ⟨nzq99, m_q99, e_q99⟩, ⟨nzq108, m_q108, e_q108⟩, ⟨nzq116, m_q116, e_q116⟩, ⟨nzq125, m_q125, e_q125⟩, ⟨nzq134, m_q134, e_q134⟩, ⟨nzq143, m_q143, e_q143⟩, ⟨nzq152, m_q152, e_q152⟩, ⟨nzq161, m_q161, e_q161⟩, ⟨nzq170, m_q170, e_q170⟩, ⟨nzq179, m_q179, e_q179⟩, ⟨nzq188, m_q188, e_q188⟩, e_h, (List.Pairwise.cons (List.forall_mem_cons.mpr ⟨nq8_h, (List.forall_mem_cons.mpr ⟨nq16_h, (List.forall_mem_cons.mpr ⟨nq24_h, (List.forall_mem_cons.mpr ⟨nq32_h, (List.forall_mem_cons.mpr ⟨nq40_h, (List.forall_mem_cons.mpr ⟨nq48_h, (List.forall_mem_cons.mpr ⟨nq57_h, (List.forall_mem_cons.mpr ⟨nq65_h, (List.forall_mem_cons.mpr ⟨nq73_h, (List.forall_mem_cons.mpr ⟨nq81_h, (List.forall_mem_cons.mpr ⟨nq90_h, (List.forall_mem_cons.mpr ⟨nq99_h, (List.forall_mem_cons.mpr ⟨nq108_h, (List.forall_mem_cons.mpr ⟨nq116_h, (List.forall_mem_cons.mpr ⟨nq125_h, (List.forall_mem_cons.mpr ⟨nq134_h, (List.forall_mem_cons.mpr ⟨nq143_h, (List.forall_mem_cons.mpr ⟨nq152_h, (List.forall_mem_cons.mpr ⟨nq161_h, (List.forall_mem_cons.mpr ⟨nq170_h, (List.forall_mem_cons.mpr ⟨nq179_h, (List.forall_mem_cons.mpr ⟨nq188_h, (fun _ h => absurd h List.not_mem_nil)⟩)⟩)⟩)⟩)⟩)⟩)⟩)⟩)⟩)⟩)⟩)⟩)⟩)⟩)⟩)⟩)⟩)⟩)⟩)⟩)⟩)⟩) (List.Pairwise.cons (List.forall_mem_cons.mpr ⟨nq16_q8, (List.forall_mem_cons.mpr ⟨nq24_q8, (List.forall_mem_cons.mpr ⟨nq32_q8, (List.forall_mem_cons.mpr ⟨nq40_q8, (List.forall_mem_cons.mpr ⟨nq48_q8, (List.forall_mem_cons.mpr ⟨nq57_q8, (List.forall_mem_cons.mpr ⟨nq65_q8, (List.forall_mem_cons.mpr ⟨nq73_q8, (List.forall_mem_cons.mpr ⟨nq81_q8, (List.forall_mem_cons.mpr ⟨nq90_q8, (List.forall_mem_cons.mpr ⟨nq99_q8, (List.forall_mem_cons.mpr ⟨nq108_q8, (List.forall_mem_cons.mpr ⟨nq116_q8, (List.forall_mem_cons.mpr ⟨nq125_q8, (List.forall_mem_cons.mpr ⟨nq134_q8, (List.forall_mem_cons.mpr ⟨nq143_q8, (List.forall_mem_cons.mpr ⟨nq152_q8, (List.forall_mem_cons.mpr ⟨nq161_q8, (List.forall_mem_cons.mpr ⟨nq170_q8, (List.forall_mem_cons.mpr ⟨nq179_q8, (List.forall_mem_cons.mpr ⟨nq188_q8, (fun _ h => absurd h List.not_mem_nil)⟩)⟩)⟩)⟩)⟩)⟩)⟩)⟩)⟩)⟩)⟩)⟩)⟩)⟩)⟩)⟩)⟩)⟩)⟩)⟩)⟩) (List.Pairwise.cons (List.forall_mem_cons.mpr ⟨nq24_q16, (List.forall_mem_cons.mpr ⟨nq32_q16, (List.forall_mem_cons.mpr ⟨nq40_q16, (List.forall_mem_cons.mpr ⟨nq48_q16, (List.forall_mem_cons.mpr ⟨nq57_q16, (List.forall_mem_cons.mpr ⟨nq65_q16, (List.forall_mem_cons.mpr ⟨nq73_q16, (List.forall_mem_cons.mpr ⟨nq81_q16, (List.forall_mem_cons.mpr ⟨nq90_q16, (List.forall_mem_cons.mpr ⟨nq99_q16, (List.forall_mem_cons.mpr ⟨nq108_q16, (List.forall_mem_cons.mpr ⟨nq116_q16, (List.forall_mem_cons.mpr ⟨nq125_q16, (List.forall_mem_cons.mpr ⟨nq134_q16, (List.forall_mem_cons.mpr ⟨nq143_q16, (List.forall_mem_cons.mpr ⟨nq152_q16, (List.forall_mem_cons.mpr ⟨nq161_q16, (List.forall_mem_cons.mpr ⟨nq170_q16, (List.forall_mem_cons.mpr ⟨nq179_q16, (List.forall_mem_cons.mpr ⟨nq188_q16, (fun _ h => absurd h List.not_mem_nil)⟩)⟩)⟩)⟩)⟩)⟩)⟩)⟩)⟩)⟩)⟩)⟩)⟩)⟩)⟩)⟩)⟩)⟩)⟩)⟩) (List.Pairwise.cons (List.forall_mem_cons.mpr ⟨nq32_q24, (List.forall_mem_cons.mpr ⟨nq40_q24, (List.forall_mem_cons.mpr ⟨nq48_q24, (List.forall_mem_cons.mpr ⟨nq57_q24, (List.forall_mem_cons.mpr ⟨nq65_q24, (List.forall_mem_cons.mpr ⟨nq73_q24, (List.forall_mem_cons.mpr ⟨nq81_q24, (List.forall_mem_cons.mpr ⟨nq90_q24, (List.forall_mem_cons.mpr ⟨nq99_q24, (List.forall_mem_cons.mpr ⟨nq108_q24, (List.forall_mem_cons.mpr ⟨nq116_q24, (List.forall_mem_cons.mpr ⟨nq125_q24, (List.forall_mem_cons.mpr ⟨nq134_q24, (List.forall_mem_cons.mpr ⟨nq143_q24, (List.forall_mem_cons.mpr ⟨nq152_q24, (List.forall_mem_cons.mpr ⟨nq161_q24, (List.forall_mem_cons.mpr ⟨nq170_q24, (List.forall_mem_cons.mpr ⟨nq179_q24, (List.forall_mem_cons.mpr ⟨nq188_q24, (fun _ h => absurd h List.not_mem_nil)⟩)⟩)⟩)⟩)⟩)⟩)⟩)⟩)⟩)⟩)⟩)⟩)⟩)⟩)⟩)⟩)⟩)⟩)⟩) (List.Pairwise.cons (List.forall_mem_cons.mpr ⟨nq40_q32, (List.forall_mem_cons.mpr ⟨nq48_q32, (List.forall_mem_cons.mpr ⟨nq57_q32, (List.forall_mem_cons.mpr ⟨nq65_q32, (List.forall_mem_cons.mpr ⟨nq73_q32, (List.forall_mem_cons.mpr ⟨nq81_q32, (List.forall_mem_cons.mpr ⟨nq90_q32, (List.forall_mem_cons.mpr ⟨nq99_q32, (List.forall_mem_cons.mpr ⟨nq108_q32, (List.forall_mem_cons.mpr ⟨nq116_q32, (List.forall_mem_cons.mpr ⟨nq125_q32, (List.forall_mem_cons.mpr ⟨nq134_q32, (List.forall_mem_cons.mpr ⟨nq143_q32, (List.forall_mem_cons.mpr ⟨nq152_q32, (List.forall_mem_cons.mpr ⟨nq161_q32, (List.forall_mem_cons.mpr ⟨nq170_q32, (List.forall_mem_cons.mpr ⟨nq179_q32, (List.forall_mem_cons.mpr ⟨nq188_q32, (fun _ h => absurd h List.not_mem_nil)⟩)⟩)⟩)⟩)⟩)⟩)⟩)⟩)⟩)⟩)⟩)⟩)⟩)⟩)⟩)⟩)⟩)⟩) (List.Pairwise.cons (List.forall_mem_cons.mpr ⟨nq48_q40, (List.forall_mem_cons.mpr ⟨nq57_q40, (List.forall_mem_cons.mpr ⟨nq65_q40, (List.forall_mem_cons.mpr ⟨nq73_q40, (List.forall_mem_cons.mpr ⟨nq81_q40, (List.forall_mem_cons.mpr ⟨nq90_q40, (List.forall_mem_cons.mpr ⟨nq99_q40, (List.forall_mem_cons.mpr ⟨nq108_q40, (List.forall_mem_cons.mpr ⟨nq116_q40, (List.forall_mem_cons.mpr ⟨nq125_q40, (List.forall_mem_cons.mpr ⟨nq134_q40, (List.forall_mem_cons.mpr ⟨nq143_q40, (List.forall_mem_cons.mpr ⟨nq152_q40, (List.forall_mem_cons.mpr ⟨nq161_q40, (List.forall_mem_cons.mpr ⟨nq170_q40, (List.forall_mem_cons.mpr ⟨nq179_q40, (List.forall_mem_cons.mpr ⟨nq188_q40, (fun _ h => absurd h List.not_mem_nil)⟩)⟩)⟩)⟩)⟩)⟩)⟩)⟩)⟩)⟩)⟩)⟩)⟩)⟩)⟩)⟩)⟩) (List.Pairwise.cons (List.forall_mem_cons.mpr ⟨nq57_q48, (List.forall_mem_cons.mpr ⟨nq65_q48, (List.forall_mem_cons.mpr ⟨nq73_q48, (List.forall_mem_cons.mpr ⟨nq81_q48, (List.forall_mem_cons.mpr ⟨nq90_q48, (List.forall_mem_cons.mpr ⟨nq99_q48, (List.forall_mem_cons.mpr ⟨nq108_q48, (List.forall_mem_cons.mpr ⟨nq116_q48, (List.forall_mem_cons.mpr ⟨nq125_q48, (List.forall_mem_cons.mpr ⟨nq134_q48, (List.forall_mem_cons.mpr ⟨nq143_q48, (List.forall_mem_cons.mpr ⟨nq152_q48, (List.forall_mem_cons.mpr ⟨nq161_q48, (List.forall_mem_cons.mpr ⟨nq170_q48, (List.forall_mem_cons.mpr ⟨nq179_q48, (List.forall_mem_cons.mpr ⟨nq188_q48, (fun _ h => absurd h List.not_mem_nil)⟩)⟩)⟩)⟩)⟩)⟩)⟩)⟩)⟩)⟩)⟩)⟩)⟩)⟩)⟩)⟩) (List.Pairwise.cons (List.forall_mem_cons.mpr ⟨nq65_q57, (List.forall_mem_cons.mpr ⟨nq73_q57, (List.forall_mem_cons.mpr ⟨nq81_q57, (List.forall_mem_cons.mpr ⟨nq90_q57, (List.forall_mem_cons.mpr ⟨nq99_q57, (List.forall_mem_cons.mpr ⟨nq108_q57, (List.forall_mem_cons.mpr ⟨nq116_q57, (List.forall_mem_cons.mpr ⟨nq125_q57, (List.forall_mem_cons.mpr ⟨nq134_q57, (List.forall_mem_cons.mpr ⟨nq143_q57, (List.forall_mem_cons.mpr ⟨nq152_q57, (List.forall_mem_cons.mpr ⟨nq161_q57, (List.forall_mem_cons.mpr ⟨nq170_q57, (List.forall_mem_cons.mpr ⟨nq179_q57, (List.forall_mem_cons.mpr ⟨nq188_q57, (fun _ h => absurd h List.not_mem_nil)⟩)⟩)⟩)⟩)⟩)⟩)⟩)⟩)⟩)⟩)⟩)⟩)⟩)⟩)⟩) (List.Pairwise.cons (List.forall_mem_cons.mpr ⟨nq73_q65, (List.forall_mem_cons.mpr ⟨nq81_q65, (List.forall_mem_cons.mpr ⟨nq90_q65, (List.forall_mem_cons.mpr ⟨nq99_q65, (List.forall_mem_cons.mpr ⟨nq108_q65, (List.forall_mem_cons.mpr ⟨nq116_q65, (List.forall_mem_cons.mpr ⟨nq125_q65, (List.forall_mem_cons.mpr ⟨nq134_q65, (List.forall_mem_cons.mpr ⟨nq143_q65, (List.forall_mem_cons.mpr ⟨nq152_q65, (List.forall_mem_cons.mpr ⟨nq161_q65, (List.forall_mem_cons.mpr ⟨nq170_q65, (List.forall_mem_cons.mpr ⟨nq179_q65, (List.forall_mem_cons.mpr ⟨nq188_q65, (fun _ h => absurd h List.not_mem_nil)⟩)⟩)⟩)⟩)⟩)⟩)⟩)⟩)⟩)⟩)⟩)⟩)⟩)⟩) (List.Pairwise.cons (List.forall_mem_cons.mpr ⟨nq81_q73, (List.forall_mem_cons.mpr ⟨nq90_q73, (List.forall_mem_cons.mpr ⟨nq99_q73, (List.forall_mem_cons.mpr ⟨nq108_q73, (List.forall_mem_cons.mpr ⟨nq116_q73, (List.forall_mem_cons.mpr ⟨nq125_q73, (List.forall_mem_cons.mpr ⟨nq134_q73, (List.forall_mem_cons.mpr ⟨nq143_q73, (List.forall_mem_cons.mpr ⟨nq152_q73, (List.forall_mem_cons.mpr ⟨nq161_q73, (List.forall_mem_cons.mpr ⟨nq170_q73, (List.forall_mem_cons.mpr ⟨nq179_q73, (List.forall_mem_cons.mpr ⟨nq188_q73, (fun _ h => absurd h List.not_mem_nil)⟩)⟩)⟩)⟩)⟩)⟩)⟩)⟩)⟩)⟩)⟩)⟩)⟩) (List.Pairwise.cons (List.forall_mem_cons.mpr ⟨nq90_q81, (List.forall_mem_cons.mpr ⟨nq99_q81, (List.forall_mem_cons.mpr ⟨nq108_q81, (List.forall_mem_cons.mpr ⟨nq116_q81, (List.forall_mem_cons.mpr ⟨nq125_q81, (List.forall_mem_cons.mpr ⟨nq134_q81, (List.forall_mem_cons.mpr ⟨nq143_q81, (List.forall_mem_cons.mpr ⟨nq152_q81, (List.forall_mem_cons.mpr ⟨nq161_q81, (List.forall_mem_cons.mpr ⟨nq170_q81, (List.forall_mem_cons.mpr ⟨nq179_q81, (List.forall_mem_cons.mpr ⟨nq188_q81, (fun _ h => absurd h List.not_mem_nil)⟩)⟩)⟩)⟩)⟩)⟩)⟩)⟩)⟩)⟩)⟩)⟩) (List.Pairwise.cons (List.forall_mem_cons.mpr ⟨nq99_q90, (List.forall_mem_cons.mpr ⟨nq108_q90, (List.forall_mem_cons.mpr ⟨nq116_q90, (List.forall_mem_cons.mpr ⟨nq125_q90, (List.forall_mem_cons.mpr ⟨nq134_q90, (List.forall_mem_cons.mpr ⟨nq143_q90, (List.forall_mem_cons.mpr ⟨nq152_q90, (List.forall_mem_cons.mpr ⟨nq161_q90, (List.forall_mem_cons.mpr ⟨nq170_q90, (List.forall_mem_cons.mpr ⟨nq179_q90, (List.forall_mem_cons.mpr ⟨nq188_q90, (fun _ h => absurd h List.not_mem_nil)⟩)⟩)⟩)⟩)⟩)⟩)⟩)⟩)⟩)⟩)⟩) (List.Pairwise.cons (List.forall_mem_cons.mpr ⟨nq108_q99, (List.forall_mem_cons.mpr ⟨nq116_q99, (List.forall_mem_cons.mpr ⟨nq125_q99, (List.forall_mem_cons.mpr ⟨nq134_q99, (List.forall_mem_cons.mpr ⟨nq143_q99, (List.forall_mem_cons.mpr ⟨nq152_q99, (List.forall_mem_cons.mpr ⟨nq161_q99, (List.forall_mem_cons.mpr ⟨nq170_q99, (List.forall_mem_cons.mpr ⟨nq179_q99, (List.forall_mem_cons.mpr ⟨nq188_q99, (fun _ h => absurd h List.not_mem_nil)⟩)⟩)⟩)⟩)⟩)⟩)⟩)⟩)⟩)⟩) (List.Pairwise.cons (List.forall_mem_cons.mpr ⟨nq116_q108, (List.forall_mem_cons.mpr ⟨nq125_q108, (List.forall_mem_cons.mpr ⟨nq134_q108, (List.forall_mem_cons.mpr ⟨nq143_q108, (List.forall_mem_cons.mpr ⟨nq152_q108, (List.forall_mem_cons.mpr ⟨nq161_q108, (List.forall_mem_cons.mpr ⟨nq170_q108, (List.forall_mem_cons.mpr ⟨nq179_q108, (List.forall_mem_cons.mpr ⟨nq188_q108, (fun _ h => absurd h List.not_mem_nil)⟩)⟩)⟩)⟩)⟩)⟩)⟩)⟩)⟩) (List.Pairwise.cons (List.forall_mem_cons.mpr ⟨nq125_q116, (List.forall_mem_cons.mpr ⟨nq134_q116, (List.forall_mem_cons.mpr ⟨nq143_q116, (List.forall_mem_cons.mpr ⟨nq152_q116, (List.forall_mem_cons.mpr ⟨nq161_q116, (List.forall_mem_cons.mpr ⟨nq170_q116, (List.forall_mem_cons.mpr ⟨nq179_q116, (List.forall_mem_cons.mpr ⟨nq188_q116, (fun _ h => absurd h List.not_mem_nil)⟩)⟩)⟩)⟩)⟩)⟩)⟩)⟩) (List.Pairwise.cons (List.forall_mem_cons.mpr ⟨nq134_q125, (List.forall_mem_cons.mpr ⟨nq143_q125, (List.forall_mem_cons.mpr ⟨nq152_q125, (List.forall_mem_cons.mpr ⟨nq161_q125, (List.forall_mem_cons.mpr ⟨nq170_q125, (List.forall_mem_cons.mpr ⟨nq179_q125, (List.forall_mem_cons.mpr ⟨nq188_q125, (fun _ h => absurd h List.not_mem_nil)⟩)⟩)⟩)⟩)⟩)⟩)⟩) (List.Pairwise.cons (List.forall_mem_cons.mpr ⟨nq143_q134, (List.forall_mem_cons.mpr ⟨nq152_q134, (List.forall_mem_cons.mpr ⟨nq161_q134, (List.forall_mem_cons.mpr ⟨nq170_q134, (List.forall_mem_cons.mpr ⟨nq179_q134, (List.forall_mem_cons.mpr ⟨nq188_q134, (fun _ h => absurd h List.not_mem_nil)⟩)⟩)⟩)⟩)⟩)⟩) (List.Pairwise.cons (List.forall_mem_cons.mpr ⟨nq152_q143, (List.forall_mem_cons.mpr ⟨nq161_q143, (List.forall_mem_cons.mpr ⟨nq170_q143, (List.forall_mem_cons.mpr ⟨nq179_q143, (List.forall_mem_cons.mpr ⟨nq188_q143, (fun _ h => absurd h List.not_mem_nil)⟩)⟩)⟩)⟩)⟩) (List.Pairwise.cons (List.forall_mem_cons.mpr ⟨nq161_q152, (List.forall_mem_cons.mpr ⟨nq170_q152, (List.forall_mem_cons.mpr ⟨nq179_q152, (List.forall_mem_cons.mpr ⟨nq188_q152, (fun _ h => absurd h List.not_mem_nil)⟩)⟩)⟩)⟩) (List.Pairwise.cons (List.forall_mem_cons.mpr ⟨nq170_q161, (List.forall_mem_cons.mpr ⟨nq179_q161, (List.forall_mem_cons.mpr ⟨nq188_q161, (fun _ h => absurd h List.not_mem_nil)⟩)⟩)⟩) (List.Pairwise.cons (List.forall_mem_cons.mpr ⟨nq179_q170, (List.forall_mem_cons.mpr ⟨nq188_q170, (fun _ h => absurd h List.not_mem_nil)⟩)⟩) (List.Pairwise.cons (List.forall_mem_cons.mpr ⟨nq188_q179, (fun _ h => absurd h List.not_mem_nil)⟩) (List.Pairwise.cons (fun _ h => absurd h List.not_mem_nil) List.Pairwise.nil)))))))))))))))))))))))⟩)
