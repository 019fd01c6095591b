set_option maxHeartbeats 4000000 in
set_option maxRecDepth 100000 in
/-- Sieve.beginLayered of nothing -/
theorem c_X6_beginLayered0 (l : Launch) (D : va_G) (g : Nat → ClassId) {L : List Nat} {f : Nat → va_E} {sv ce co cr o1 q1 o2 q2 o3 q3 : Nat} {sd : Int32} {v : Nat → Int32} (m_sv : sv ∈ L) (e_sv : f sv = .inr (4, [.ref ce, .ref co, .null, .int 0, .int 0, .int 0, .int 0])) (m_ce : ce ∈ L) (e_ce : f ce = .inl (g 0, 4096, .inl v)) (m_co : co ∈ L) (e_co : f co = .inr (0, [.ref cr, .int ((nI 0))])) (m_o1 : o1 ∈ L) (e_o1 : f o1 = .inr (0, [.ref q1, .int ((nI 0))])) (m_o2 : o2 ∈ L) (e_o2 : f o2 = .inr (0, [.ref q2, .int ((nI 0))])) (m_o3 : o3 ∈ L) (e_o3 : f o3 = .inr (0, [.ref q3, .int ((nI 0))])) (n_co_o1 : co ≠ o1) (n_co_o2 : co ≠ o2) (n_co_o3 : co ≠ o3) (n_o1_o3 : o1 ≠ o3) (n_o2_o3 : o2 ≠ o3) : cV l yX6_beginLayered wsX6_beginLayered { frames := 4, cells := 45, slots := 2367, locals := 97 } D g [.ref sv, .ref o1, .ref o2, .ref o3, .int sd] L f 45 2367 (fun L1 f1 => ∃ ly : Nat, (∀ b, b ∈ L → b ∈ L1) ∧ (∀ b, b ∈ L → b ≠ sv → b ≠ ce → b ≠ co → b ≠ o3 → f1 b = f b) ∧ f1 sv = .inr (4, [.ref ce, .ref co, .ref ly, .int 4, .int 1, .int 3, .int sd]) ∧ f1 co = .inr (0, [.ref cr, .int 0])) := by
  refine cV_of (cc := cX6_beginLayered) (maxL := 5) (ret := none) (by decide) rfl (Nat.le_of_ble_eq_true rfl) ?_
  intro sz p e s m below meth c hx hb hr hml hts hown hlk hnm S ls hl
  have hl : lv_has ls 5 [(0, .ref sv), (1, .ref o1), (2, .ref o2), (3, .ref o3), (4, .int sd)] := hl
  have in_X3 : ∀ w ∈ wsX30, w ∈ wsX6_beginLayered := by decide +kernel
  have in_X6 : ∀ w ∈ wsX60, w ∈ wsX6_beginLayered := by decide +kernel
  have fr : ∀ b, b ∈ L → b ≠ sv → b ≠ ce → b ≠ co → b ≠ o3 → f b = f b := fun _ _ _ _ _ _ => rfl
  have mono : ∀ b, b ∈ L → b ∈ L := fun _ h => h
  refine lv_aload_n hx hb dX6_beginLayered_0 rfl (lv_at hl 0 rfl) ?_
  refine q_get hx hb hts in_X6 hown S m_sv e_sv (C := RX6) (T := TX6) (N := 7) rfl 2 (by decide) rfl (hts (.fieldLink RX6 44 "SieveCabinet$Sieve" "layers" "LSieveCabinet$Layers;") (by decide +kernel)) dX6_beginLayered_1 ?_
  refine lv_ifnonnullN hx hb dX6_beginLayered_4 ?_
  refine lv_aload_n hx hb dX6_beginLayered_7 rfl (lv_at hl 0 rfl) ?_
  refine q_new (fs := [.null, .null, .null, .int 0, .int 0]) (C := RX3) (T := TX3) (N := 5) (ci := 3) hx hb hts in_X3 tyX3 tyX3_ok hown (hts (.classLink RX6 48 RX3) (by decide +kernel)) (hts (.instantiable RX3 5) (by decide +kernel)) (hts (.initialized RX3) (by decide +kernel)) S rfl (fun j hj => by rcases (show j = 0 ∨ j = 1 ∨ j = 2 ∨ j = 3 ∨ j = 4 by omega) with rfl | rfl | rfl | rfl | rfl <;> rfl) (Nat.le_of_ble_eq_true rfl) (Nat.le_of_ble_eq_true rfl) dX6_beginLayered_8 (fun q8 H nq8 S => ?_)
  refine W.widen (k := 1) (n := 5) (by decide) (by decide) ?_
  obtain ⟨f1, ef1⟩ : ∃ z_, z_ = va_up f q8 (.inr (3, [.null, .null, .null, .int 0, .int 0])) := ⟨_, rfl⟩
  obtain ⟨L2, eL2⟩ : ∃ z_, z_ = L ++ [q8] := ⟨_, rfl⟩
  have S : PS D g (va_A (va_pl L f) sz) s.heap s L2 f1 H [] := by rw [ef1, eL2]; exact S
  have e_sv : f1 sv = .inr (4, [.ref ce, .ref co, .null, .int 0, .int 0, .int 0, .int 0]) := up_ne ef1 (fun h => nq8 (h ▸ m_sv)) e_sv
  have nq8_sv : sv ≠ q8 := fun h => nq8 (h ▸ m_sv)
  have m_sv : sv ∈ L2 := by rw [eL2]; exact List.mem_append_left _ m_sv
  have e_ce : f1 ce = .inl (g 0, 4096, .inl v) := up_ne ef1 (fun h => nq8 (h ▸ m_ce)) e_ce
  have nq8_ce : ce ≠ q8 := fun h => nq8 (h ▸ m_ce)
  have m_ce : ce ∈ L2 := by rw [eL2]; exact List.mem_append_left _ m_ce
  have e_co : f1 co = .inr (0, [.ref cr, .int ((nI 0))]) := up_ne ef1 (fun h => nq8 (h ▸ m_co)) e_co
  have nq8_co : co ≠ q8 := fun h => nq8 (h ▸ m_co)
  have m_co : co ∈ L2 := by rw [eL2]; exact List.mem_append_left _ m_co
  have e_o1 : f1 o1 = .inr (0, [.ref q1, .int ((nI 0))]) := up_ne ef1 (fun h => nq8 (h ▸ m_o1)) e_o1
  have nq8_o1 : o1 ≠ q8 := fun h => nq8 (h ▸ m_o1)
  have m_o1 : o1 ∈ L2 := by rw [eL2]; exact List.mem_append_left _ m_o1
  have e_o2 : f1 o2 = .inr (0, [.ref q2, .int ((nI 0))]) := up_ne ef1 (fun h => nq8 (h ▸ m_o2)) e_o2
  have nq8_o2 : o2 ≠ q8 := fun h => nq8 (h ▸ m_o2)
  have m_o2 : o2 ∈ L2 := by rw [eL2]; exact List.mem_append_left _ m_o2
  have e_o3 : f1 o3 = .inr (0, [.ref q3, .int ((nI 0))]) := up_ne ef1 (fun h => nq8 (h ▸ m_o3)) e_o3
  have nq8_o3 : o3 ≠ q8 := fun h => nq8 (h ▸ m_o3)
  have m_o3 : o3 ∈ L2 := by rw [eL2]; exact List.mem_append_left _ m_o3
  have e_q8 : f1 q8 = .inr (3, [.null, .null, .null, .int 0, .int 0]) := up_self ef1
  have m_q8 : q8 ∈ L2 := by rw [eL2]; simp
  have nzq8 : q8 ∉ L := fun h => nq8 (mono _ h)
  have fr : ∀ b, b ∈ L → b ≠ sv → b ≠ ce → b ≠ co → b ≠ o3 → f1 b = f b := fun b mb nb0 nb1 nb2 nb3 => (up_ne ef1 (fun h => nzq8 (h ▸ mb)) rfl).trans (fr b mb nb0 nb1 nb2 nb3)
  have mono : ∀ b, b ∈ L → b ∈ L2 := fun b h => by rw [eL2]; exact List.mem_append_left _ (mono b h)
  refine lv_dup hx hb dX6_beginLayered_11 rfl ?_
  have monoP := mono
  refine q_iv (As := []) (rest := [.ref q8, .ref sv]) ⟨hx, hb, hml, hown, hts⟩ (c_X3_init l D g m_q8 e_q8) (cwI 0 hts gX6_beginLayered_X3_init rfl rfl rfl (hts (.initialized RX3) (by decide +kernel)) (hts (.methodLink RX6 50 yX3_init) (by decide +kernel)) (hts (.instanceMethod yX3_init) (by decide +kernel)) rfl (by decide +kernel) ⟨Nat.le_of_ble_eq_true rfl, Nat.le_of_ble_eq_true rfl⟩) S rfl hl.1 rfl (Nat.le_of_ble_eq_true rfl) dX6_beginLayered_12 ⟨Nat.le_of_ble_eq_true rfl, Nat.le_of_ble_eq_true rfl⟩ (fun L3 f4 H locs S w12 => ?_)
  refine W.widen (k := 45) (n := 2367) (by decide) (by decide) ?_
  obtain ⟨q16_3, q22_3, q826_3, q7_3, kf3, mo12, fv12, ⟨nq16_3, m_q16_3, e_q16_3⟩, ⟨nq22_3, m_q22_3, e_q22_3⟩, ⟨nq826_3, m_q826_3, e_q826_3⟩, ⟨nq7_3, m_q7_3, e_q7_3⟩, E_q8, ⟨r0, rw, hr0, m_r0, e_r0, m_rw, ⟨vrw, e_rw⟩, nr0, nrw⟩⟩ := w12
  have e_sv : f4 sv = .inr (4, [.ref ce, .ref co, .null, .int 0, .int 0, .int 0, .int 0]) := (fv12 sv m_sv (fun h => nq8_sv h)).trans e_sv
  have e_ce : f4 ce = .inl (g 0, 4096, .inl v) := (fv12 ce m_ce (fun h => nq8_ce h)).trans e_ce
  have e_co : f4 co = .inr (0, [.ref cr, .int ((nI 0))]) := (fv12 co m_co (fun h => nq8_co h)).trans e_co
  have e_o1 : f4 o1 = .inr (0, [.ref q1, .int ((nI 0))]) := (fv12 o1 m_o1 (fun h => nq8_o1 h)).trans e_o1
  have e_o2 : f4 o2 = .inr (0, [.ref q2, .int ((nI 0))]) := (fv12 o2 m_o2 (fun h => nq8_o2 h)).trans e_o2
  have e_o3 : f4 o3 = .inr (0, [.ref q3, .int ((nI 0))]) := (fv12 o3 m_o3 (fun h => nq8_o3 h)).trans e_o3
  have nq16_3_sv : sv ≠ q16_3 := fun h => nq16_3 (h ▸ m_sv)
  have nq22_3_sv : sv ≠ q22_3 := fun h => nq22_3 (h ▸ m_sv)
  have nq826_3_sv : sv ≠ q826_3 := fun h => nq826_3 (h ▸ m_sv)
  have nq7_3_sv : sv ≠ q7_3 := fun h => nq7_3 (h ▸ m_sv)
  have nq16_3_ce : ce ≠ q16_3 := fun h => nq16_3 (h ▸ m_ce)
  have nq22_3_ce : ce ≠ q22_3 := fun h => nq22_3 (h ▸ m_ce)
  have nq826_3_ce : ce ≠ q826_3 := fun h => nq826_3 (h ▸ m_ce)
  have nq7_3_ce : ce ≠ q7_3 := fun h => nq7_3 (h ▸ m_ce)
  have nq16_3_co : co ≠ q16_3 := fun h => nq16_3 (h ▸ m_co)
  have nq22_3_co : co ≠ q22_3 := fun h => nq22_3 (h ▸ m_co)
  have nq826_3_co : co ≠ q826_3 := fun h => nq826_3 (h ▸ m_co)
  have nq7_3_co : co ≠ q7_3 := fun h => nq7_3 (h ▸ m_co)
  have nq16_3_o1 : o1 ≠ q16_3 := fun h => nq16_3 (h ▸ m_o1)
  have nq22_3_o1 : o1 ≠ q22_3 := fun h => nq22_3 (h ▸ m_o1)
  have nq826_3_o1 : o1 ≠ q826_3 := fun h => nq826_3 (h ▸ m_o1)
  have nq7_3_o1 : o1 ≠ q7_3 := fun h => nq7_3 (h ▸ m_o1)
  have nq16_3_o2 : o2 ≠ q16_3 := fun h => nq16_3 (h ▸ m_o2)
  have nq22_3_o2 : o2 ≠ q22_3 := fun h => nq22_3 (h ▸ m_o2)
  have nq826_3_o2 : o2 ≠ q826_3 := fun h => nq826_3 (h ▸ m_o2)
  have nq7_3_o2 : o2 ≠ q7_3 := fun h => nq7_3 (h ▸ m_o2)
  have nq16_3_o3 : o3 ≠ q16_3 := fun h => nq16_3 (h ▸ m_o3)
  have nq22_3_o3 : o3 ≠ q22_3 := fun h => nq22_3 (h ▸ m_o3)
  have nq826_3_o3 : o3 ≠ q826_3 := fun h => nq826_3 (h ▸ m_o3)
  have nq7_3_o3 : o3 ≠ q7_3 := fun h => nq7_3 (h ▸ m_o3)
  have nq16_3_q8 : q8 ≠ q16_3 := fun h => nq16_3 (h ▸ m_q8)
  have nq22_3_q8 : q8 ≠ q22_3 := fun h => nq22_3 (h ▸ m_q8)
  have nq826_3_q8 : q8 ≠ q826_3 := fun h => nq826_3 (h ▸ m_q8)
  have nq7_3_q8 : q8 ≠ q7_3 := fun h => nq7_3 (h ▸ m_q8)
  have m_sv : sv ∈ L3 := mo12 sv m_sv
  have m_ce : ce ∈ L3 := mo12 ce m_ce
  have m_co : co ∈ L3 := mo12 co m_co
  have m_o1 : o1 ∈ L3 := mo12 o1 m_o1
  have m_o2 : o2 ∈ L3 := mo12 o2 m_o2
  have m_o3 : o3 ∈ L3 := mo12 o3 m_o3
  have m_q8 : q8 ∈ L3 := mo12 q8 m_q8
  have e_q8 := E_q8
  have nzq16_3 : q16_3 ∉ L := fun h => nq16_3 (mono _ h)
  have nzq22_3 : q22_3 ∉ L := fun h => nq22_3 (mono _ h)
  have nzq826_3 : q826_3 ∉ L := fun h => nq826_3 (mono _ h)
  have nzq7_3 : q7_3 ∉ L := fun h => nq7_3 (mono _ h)
  have fr : ∀ b, b ∈ L → b ≠ sv → b ≠ ce → b ≠ co → b ≠ o3 → f4 b = f b := fun b mb nb0 nb1 nb2 nb3 => (fv12 b (mono b mb) (fun h => nzq8 (h ▸ mb))).trans (fr b mb nb0 nb1 nb2 nb3)
  have mono : ∀ b, b ∈ L → b ∈ L3 := fun b h => mo12 b (mono b h)
  have nzr0 : r0 ∉ L := fun h => nr0 (monoP _ h)
  have nzrw : rw ∉ L := fun h => nrw (monoP _ h)
  refine q_put hx hb hts in_X6 tyX6 tyX6_ok nmX6 hown S m_sv e_sv (C := RX6) (T := TX6) (N := 7) rfl 2 (by decide) (hts (.fieldLink RX6 44 "SieveCabinet$Sieve" "layers" "LSieveCabinet$Layers;") (by decide +kernel)) rfl rfl rfl (Nat.le_of_ble_eq_true rfl) dX6_beginLayered_15 (fun H locs S => ?_)
  obtain ⟨f6, ef6⟩ : ∃ z_, z_ = va_up f4 sv (.inr (4, [.ref ce, .ref co, .ref q8, .int 0, .int 0, .int 0, .int 0])) := ⟨_, rfl⟩
  have S : PS D g (va_A (va_pl L f) sz) s.heap s L3 f6 H locs := by rw [ef6]; exact S
  have e_ce : f6 ce = .inl (g 0, 4096, .inl v) := up_ne ef6 (ne_sh e_sv e_ce (fun h => by cases h)) e_ce
  have e_co : f6 co = .inr (0, [.ref cr, .int ((nI 0))]) := up_ne ef6 (ne_sh e_sv e_co (by intro h; injection h with h; injection h with h1 h2; first | (cases h1; done) | (cases h2; done) | (injection h2 with h3 h4; cases h4; done))) e_co
  have e_o1 : f6 o1 = .inr (0, [.ref q1, .int ((nI 0))]) := up_ne ef6 (ne_sh e_sv e_o1 (by intro h; injection h with h; injection h with h1 h2; first | (cases h1; done) | (cases h2; done) | (injection h2 with h3 h4; cases h4; done))) e_o1
  have e_o2 : f6 o2 = .inr (0, [.ref q2, .int ((nI 0))]) := up_ne ef6 (ne_sh e_sv e_o2 (by intro h; injection h with h; injection h with h1 h2; first | (cases h1; done) | (cases h2; done) | (injection h2 with h3 h4; cases h4; done))) e_o2
  have e_o3 : f6 o3 = .inr (0, [.ref q3, .int ((nI 0))]) := up_ne ef6 (ne_sh e_sv e_o3 (by intro h; injection h with h; injection h with h1 h2; first | (cases h1; done) | (cases h2; done) | (injection h2 with h3 h4; cases h4; done))) e_o3
  have e_q8 : f6 q8 = .inr (3, [.ref q7_3, .ref q16_3, .ref q22_3, .int 0, .int 0]) := up_ne ef6 (fun h => nq8_sv h.symm) e_q8
  have e_q16_3 : f6 q16_3 = .inl (g 0, 20, .inl (fun _ => 0)) := up_ne ef6 (fun h => nq16_3_sv h.symm) e_q16_3
  have e_q22_3 : f6 q22_3 = .inr (0, [.ref q826_3, .int 0]) := up_ne ef6 (fun h => nq22_3_sv h.symm) e_q22_3
  have e_q826_3 : f6 q826_3 = .inl (g 1, 1000, .inr (.inl (fun _ => 0))) := up_ne ef6 (fun h => nq826_3_sv h.symm) e_q826_3
  have e_q7_3 : f6 q7_3 = .inl (g 4, 20, .inr (.inr (.inr (.inr kf3)))) := up_ne ef6 (fun h => nq7_3_sv h.symm) e_q7_3
  have e_r0 : f6 r0 = .inr (1, [.ref rw, .int ((nI 0))]) := up_ne ef6 (ne_sh e_sv e_r0 (by intro h; injection h with h; injection h with h1 h2; first | (cases h1; done) | (cases h2; done) | (injection h2 with h3 h4; cases h4; done))) e_r0
  have e_rw : f6 rw = .inl (g 1, 64, .inr (.inl vrw)) := up_ne ef6 (ne_sh e_sv e_rw (fun h => by cases h)) e_rw
  have e_sv : f6 sv = .inr (4, [.ref ce, .ref co, .ref q8, .int 0, .int 0, .int 0, .int 0]) := up_self ef6
  have fr : ∀ b, b ∈ L → b ≠ sv → b ≠ ce → b ≠ co → b ≠ o3 → f6 b = f b := fun b mb nb0 nb1 nb2 nb3 => (up_ne ef6 nb0 rfl).trans (fr b mb nb0 nb1 nb2 nb3)
  refine lv_aload_n hx hb dX6_beginLayered_18 rfl (lv_at hl 0 rfl) ?_
  refine q_get hx hb hts in_X6 hown S m_sv e_sv (C := RX6) (T := TX6) (N := 7) rfl 2 (by decide) rfl (hts (.fieldLink RX6 44 "SieveCabinet$Sieve" "layers" "LSieveCabinet$Layers;") (by decide +kernel)) dX6_beginLayered_19 ?_
  refine lv_aload_n hx hb dX6_beginLayered_22 rfl (lv_at hl 1 rfl) ?_
  refine lv_aload_n hx hb dX6_beginLayered_23 rfl (lv_at hl 2 rfl) ?_
  refine lv_aload_n hx hb dX6_beginLayered_24 rfl (lv_at hl 3 rfl) ?_
  refine lv_iload hx hb dX6_beginLayered_25 (lv_at hl 4 rfl) ?_
  refine q_vv (As := [.ref o1, .ref o2, .ref o3, .int sd]) (rest := []) ⟨hx, hb, hml, hown, hts⟩ (c_X3_build0 l D g  m_q8 e_q8 m_q7_3 e_q7_3 m_r0 e_r0 m_rw e_rw m_q16_3 e_q16_3 m_q22_3 e_q22_3 m_o1 e_o1 m_o2 e_o2 m_o3 e_o3 hr0 (fun h => nq22_3_o1 h) (fun h => nq22_3_o2 h) (fun h => nq22_3_o3 h) n_o1_o3 n_o2_o3) (cwV 4 hts gX6_beginLayered_X3_build rfl rfl rfl (by decide +kernel) ⟨Nat.le_of_ble_eq_true rfl, Nat.le_of_ble_eq_true rfl⟩) S m_q8 e_q8 (T := TX3) (N := 5) rfl rfl hl.1 rfl (Nat.le_of_ble_eq_true rfl) dX6_beginLayered_27 ⟨Nat.le_of_ble_eq_true rfl, Nat.le_of_ble_eq_true rfl⟩ (fun L7 f8 H locs S w27 => ?_)
  obtain ⟨eLw27, fvw27, v1_27_1, v2_27_1, E_q8, E_r0, E_rw, E_q16_3, E_q22_3, E_o3⟩ := w27
  rw [eLw27] at S
  have e_sv : f8 sv = .inr (4, [.ref ce, .ref co, .ref q8, .int 0, .int 0, .int 0, .int 0]) := (fvw27 sv m_sv (fun h => nq8_sv h) (ne_sh e_r0 e_sv (by intro h; injection h with h; injection h with h1 h2; first | (cases h1; done) | (cases h2; done) | (injection h2 with h3 h4; cases h4; done))) (ne_sh e_rw e_sv (fun h => by cases h)) (fun h => nq16_3_sv h) (fun h => nq22_3_sv h) (ne_sh e_o3 e_sv (by intro h; injection h with h; injection h with h1 h2; first | (cases h1; done) | (cases h2; done) | (injection h2 with h3 h4; cases h4; done)))).trans e_sv
  have e_ce : f8 ce = .inl (g 0, 4096, .inl v) := (fvw27 ce m_ce (fun h => nq8_ce h) (ne_sh e_r0 e_ce (fun h => by cases h)) (ne_sh e_rw e_ce (by intro h; injection h with h; injection h with h1 h2; first | (cases h1; done) | (cases h2; done) | (injection h2 with h3 h4; cases h4; done))) (fun h => nq16_3_ce h) (fun h => nq22_3_ce h) (ne_sh e_o3 e_ce (fun h => by cases h))).trans e_ce
  have e_co : f8 co = .inr (0, [.ref cr, .int ((nI 0))]) := (fvw27 co m_co (fun h => nq8_co h) (ne_sh e_r0 e_co (by intro h; injection h with h; injection h with h1 h2; first | (cases h1; done) | (cases h2; done) | (injection h2 with h3 h4; cases h4; done))) (ne_sh e_rw e_co (fun h => by cases h)) (fun h => nq16_3_co h) (fun h => nq22_3_co h) n_co_o3).trans e_co
  have e_o1 : f8 o1 = .inr (0, [.ref q1, .int ((nI 0))]) := (fvw27 o1 m_o1 (fun h => nq8_o1 h) (ne_sh e_r0 e_o1 (by intro h; injection h with h; injection h with h1 h2; first | (cases h1; done) | (cases h2; done) | (injection h2 with h3 h4; cases h4; done))) (ne_sh e_rw e_o1 (fun h => by cases h)) (fun h => nq16_3_o1 h) (fun h => nq22_3_o1 h) (n_o1_o3)).trans e_o1
  have e_o2 : f8 o2 = .inr (0, [.ref q2, .int ((nI 0))]) := (fvw27 o2 m_o2 (fun h => nq8_o2 h) (ne_sh e_r0 e_o2 (by intro h; injection h with h; injection h with h1 h2; first | (cases h1; done) | (cases h2; done) | (injection h2 with h3 h4; cases h4; done))) (ne_sh e_rw e_o2 (fun h => by cases h)) (fun h => nq16_3_o2 h) (fun h => nq22_3_o2 h) (n_o2_o3)).trans e_o2
  have e_q826_3 : f8 q826_3 = .inl (g 1, 1000, .inr (.inl (fun _ => 0))) := (fvw27 q826_3 m_q826_3 (fun h => nq826_3_q8 h.symm) (ne_sh e_r0 e_q826_3 (fun h => by cases h)) (ne_sh e_rw e_q826_3 (by intro h; injection h with h; injection h with h1 h2; injection h2 with h3 h4; exact absurd h3 (by decide))) (ne_sh e_q16_3 e_q826_3 (by intro h; injection h with h; injection h with h1 h2; first | (cases h1; done) | (cases h2; done) | (injection h2 with h3 h4; cases h4; done))) (ne_sh e_q22_3 e_q826_3 (fun h => by cases h)) (fun h => nq826_3_o3 h.symm)).trans e_q826_3
  have e_q7_3 : f8 q7_3 = .inl (g 4, 20, .inr (.inr (.inr (.inr kf3)))) := (fvw27 q7_3 m_q7_3 (fun h => nq7_3_q8 h.symm) (ne_sh e_r0 e_q7_3 (fun h => by cases h)) (ne_sh e_rw e_q7_3 (by intro h; injection h with h; injection h with h1 h2; first | (cases h1; done) | (cases h2; done) | (injection h2 with h3 h4; cases h4; done))) (ne_sh e_q16_3 e_q7_3 (by intro h; injection h with h; injection h with h1 h2; first | (cases h1; done) | (cases h2; done) | (injection h2 with h3 h4; cases h4; done))) (ne_sh e_q22_3 e_q7_3 (fun h => by cases h)) (fun h => nq7_3_o3 h.symm)).trans e_q7_3
  have e_q8 := E_q8
  have e_r0 := E_r0
  have e_rw := E_rw
  have e_q16_3 := E_q16_3
  have e_q22_3 := E_q22_3
  have e_o3 := E_o3
  have fr : ∀ b, b ∈ L → b ≠ sv → b ≠ ce → b ≠ co → b ≠ o3 → f8 b = f b := fun b mb nb0 nb1 nb2 nb3 => (fvw27 b (mono b mb) (fun h => nzq8 (h ▸ mb)) (fun h => nzr0 (h ▸ mb)) (fun h => nzrw (h ▸ mb)) (fun h => nzq16_3 (h ▸ mb)) (fun h => nzq22_3 (h ▸ mb)) nb3).trans (fr b mb nb0 nb1 nb2 nb3)
  refine lv_aload_n hx hb dX6_beginLayered_30 rfl (lv_at hl 0 rfl) ?_
  refine lv_iconst (v := 4) hx hb dX6_beginLayered_31 (by decide) ?_
  refine lv_aload_n hx hb dX6_beginLayered_32 rfl (lv_at hl 0 rfl) ?_
  refine q_get hx hb hts in_X6 hown S m_sv e_sv (C := RX6) (T := TX6) (N := 7) rfl 2 (by decide) rfl (hts (.fieldLink RX6 44 "SieveCabinet$Sieve" "layers" "LSieveCabinet$Layers;") (by decide +kernel)) dX6_beginLayered_33 ?_
  refine q_vi (As := []) (rest := [.int 4, .ref sv]) ⟨hx, hb, hml, hown, hts⟩ (c_X3_count l D g m_q8 e_q8 ) (cwV 0 hts gX6_beginLayered_X3_count rfl rfl rfl (by decide +kernel) ⟨Nat.le_of_ble_eq_true rfl, Nat.le_of_ble_eq_true rfl⟩) S m_q8 e_q8 (T := TX3) (N := 5) rfl rfl hl.1 rfl (Nat.le_of_ble_eq_true rfl) dX6_beginLayered_36 ⟨Nat.le_of_ble_eq_true rfl, Nat.le_of_ble_eq_true rfl⟩ (fun r12 L10 f11 H locs S w36 => ?_)
  obtain ⟨exw36, eLw36, efw36⟩ := w36
  rw [eLw36, efw36] at S
  subst exw36
  refine lv_iconst (v := 3) hx hb dX6_beginLayered_39 (by decide) ?_
  refine lv_iload hx hb dX6_beginLayered_40 (lv_at hl 4 rfl) ?_
  refine q_vv (As := [.int 4, .int 1, .int 3, .int sd]) (rest := []) ⟨hx, hb, hml, hown, hts⟩ (c_X6_begin l D g  m_sv e_sv m_co e_co m_ce e_ce ) (cwV 4 hts gX6_beginLayered_X6_begin rfl rfl rfl (by decide +kernel) ⟨Nat.le_of_ble_eq_true rfl, Nat.le_of_ble_eq_true rfl⟩) S m_sv e_sv (T := TX6) (N := 7) rfl rfl hl.1 rfl (Nat.le_of_ble_eq_true rfl) dX6_beginLayered_42 ⟨Nat.le_of_ble_eq_true rfl, Nat.le_of_ble_eq_true rfl⟩ (fun L13 f14 H locs S w42 => ?_)
  obtain ⟨eLw42, fvw42, v1_42_1, E_sv, E_co, E_ce⟩ := w42
  rw [eLw42] at S
  have e_o1 : f14 o1 = .inr (0, [.ref q1, .int ((nI 0))]) := (fvw42 o1 m_o1 (ne_sh e_sv e_o1 (by intro h; injection h with h; injection h with h1 h2; first | (cases h1; done) | (cases h2; done) | (injection h2 with h3 h4; cases h4; done))) (Ne.symm n_co_o1) (ne_sh e_ce e_o1 (fun h => by cases h))).trans e_o1
  have e_o2 : f14 o2 = .inr (0, [.ref q2, .int ((nI 0))]) := (fvw42 o2 m_o2 (ne_sh e_sv e_o2 (by intro h; injection h with h; injection h with h1 h2; first | (cases h1; done) | (cases h2; done) | (injection h2 with h3 h4; cases h4; done))) (Ne.symm n_co_o2) (ne_sh e_ce e_o2 (fun h => by cases h))).trans e_o2
  have e_o3 : f14 o3 = .inr (0, [.ref q3, .int 0]) := (fvw42 o3 m_o3 (ne_sh e_sv e_o3 (by intro h; injection h with h; injection h with h1 h2; first | (cases h1; done) | (cases h2; done) | (injection h2 with h3 h4; cases h4; done))) (Ne.symm n_co_o3) (ne_sh e_ce e_o3 (fun h => by cases h))).trans e_o3
  have e_q8 : f14 q8 = .inr (3, [.ref q7_3, .ref q16_3, .ref q22_3, .int 1, .int sd]) := (fvw42 q8 m_q8 (fun h => nq8_sv h.symm) (fun h => nq8_co h.symm) (fun h => nq8_ce h.symm)).trans e_q8
  have e_q16_3 : f14 q16_3 = .inl (g 0, 20, .inl v2_27_1) := (fvw42 q16_3 m_q16_3 (fun h => nq16_3_sv h.symm) (fun h => nq16_3_co h.symm) (fun h => nq16_3_ce h.symm)).trans e_q16_3
  have e_q22_3 : f14 q22_3 = .inr (0, [.ref q826_3, .int 0]) := (fvw42 q22_3 m_q22_3 (fun h => nq22_3_sv h.symm) (fun h => nq22_3_co h.symm) (fun h => nq22_3_ce h.symm)).trans e_q22_3
  have e_q826_3 : f14 q826_3 = .inl (g 1, 1000, .inr (.inl (fun _ => 0))) := (fvw42 q826_3 m_q826_3 (fun h => nq826_3_sv h.symm) (fun h => nq826_3_co h.symm) (fun h => nq826_3_ce h.symm)).trans e_q826_3
  have e_q7_3 : f14 q7_3 = .inl (g 4, 20, .inr (.inr (.inr (.inr kf3)))) := (fvw42 q7_3 m_q7_3 (fun h => nq7_3_sv h.symm) (fun h => nq7_3_co h.symm) (fun h => nq7_3_ce h.symm)).trans e_q7_3
  have e_r0 : f14 r0 = .inr (1, [.ref rw, .int ((nI 8))]) := (fvw42 r0 m_r0 (ne_sh e_sv e_r0 (by intro h; injection h with h; injection h with h1 h2; first | (cases h1; done) | (cases h2; done) | (injection h2 with h3 h4; cases h4; done))) (ne_sh e_co e_r0 (by intro h; injection h with h; injection h with h1 h2; first | (cases h1; done) | (cases h2; done) | (injection h2 with h3 h4; cases h4; done))) (ne_sh e_ce e_r0 (fun h => by cases h))).trans e_r0
  have e_rw : f14 rw = .inl (g 1, 64, .inr (.inl v1_27_1)) := (fvw42 rw m_rw (ne_sh e_sv e_rw (fun h => by cases h)) (ne_sh e_co e_rw (fun h => by cases h)) (ne_sh e_ce e_rw (by intro h; injection h with h; injection h with h1 h2; first | (cases h1; done) | (cases h2; done) | (injection h2 with h3 h4; cases h4; done)))).trans e_rw
  have e_sv := E_sv
  have e_co := E_co
  have e_ce := E_ce
  have fr : ∀ b, b ∈ L → b ≠ sv → b ≠ ce → b ≠ co → b ≠ o3 → f14 b = f b := fun b mb nb0 nb1 nb2 nb3 => (fvw42 b (mono b mb) nb0 nb2 nb1).trans (fr b mb nb0 nb1 nb2 nb3)
  exact q_retv (post := fun L1 f1 => ∃ ly : Nat, (∀ b, b ∈ L → b ∈ L1) ∧ (∀ b, b ∈ L → b ≠ sv → b ≠ ce → b ≠ co → b ≠ o3 → f1 b = f b) ∧ f1 sv = .inr (4, [.ref ce, .ref co, .ref ly, .int 4, .int 1, .int 3, .int sd]) ∧ f1 co = .inr (0, [.ref cr, .int 0])) hx hb hr hlk S dX6_beginLayered_45 (by decide) (by decide) (⟨q8, mono, fr, e_sv, e_co⟩)

set_option maxHeartbeats 4000000 in
set_option maxRecDepth 100000 in
/-- layered of a new one -/
theorem c_X8_layered0 (l : Launch) (D : va_G) (g : Nat → ClassId) {L : List Nat} {f : Nat → va_E} {x wo Sl dr ri th so ch : Nat} {wf : Nat → Option Nat} {sf : Nat → Option Nat} {Lx : List Nat} {w w2 sd : Int32} {drr rir thr : Nat} {vd : Nat → Int64} (m_x : x ∈ L) (e_x : f x = .inr (6, [.ref wo, .ref Sl, .ref dr, .ref ri, .ref th, .ref so, .ref ch, .int 0])) (m_wo : wo ∈ L) (e_wo : f wo = .inl (g 3, 8, .inr (.inr (.inr (.inr wf))))) (m_Sl : Sl ∈ L) (e_Sl : f Sl = .inl (g 5, 30, .inr (.inr (.inr (.inr sf))))) (m_dr : dr ∈ L) (e_dr : f dr = .inr (0, [.ref drr, .int ((nI 0))])) (m_drr : drr ∈ L) (e_drr : f drr = .inl (g 1, 1000, .inr (.inl vd))) (m_ri : ri ∈ L) (e_ri : f ri = .inr (0, [.ref rir, .int ((nI 0))])) (m_th : th ∈ L) (e_th : f th = .inr (0, [.ref thr, .int ((nI 0))])) (hs0 : sf 0 = none) (n_ri_dr : ri ≠ dr) (n_th_dr : th ≠ dr) (n_th_ri : th ≠ ri) (hWr : ∀ (j b rb : Nat) (z : Value), j < 8 → wf j = some b → f b = .inr (0, [.ref rb, z]) → rb ≠ drr) (hW : ∀ j, j < 8 → ∃ b rb : Nat, ∃ vb : Nat → Int64, wf j = some b ∧ b ∈ L ∧ f b = .inr (0, [.ref rb, .int (nI 0)]) ∧ rb ∈ L ∧ f rb = .inl (g 1, 1000, .inr (.inl vb)) ∧ b ≠ dr ∧ b ≠ ri ∧ b ≠ th) (lx_x : x ∈ Lx) (lx_Sl : Sl ∈ Lx) (lx_dr : dr ∈ Lx) (lx_drr : drr ∈ Lx) (lx_ri : ri ∈ Lx) (lx_th : th ∈ Lx) : cI l yX8_layered wsX8_layered { frames := 5, cells := 49, slots := 7472, locals := 121 } D g [.ref x, .int w, .int w2, .int sd] L f 49 7472 (fun r L1 f1 => r = (if (¬ w < 0 ∧ ¬ 8 ≤ w) ∧ (¬ w2 < 0 ∧ ¬ 8 ≤ w2) then 0 else -1) ∧ (∀ b, b ∈ L → b ∈ L1) ∧ (∀ b, b ∈ L → b ∉ Lx → f1 b = f b)) := by
  refine cI_of (cc := cX8_layered) (maxL := 7) (ret := (some .int)) (by decide) rfl (Nat.le_of_ble_eq_true rfl) ?_
  intro sz p e s m below meth c hx hb hr hml hts hown hlk hnm S ls hl
  have hl : lv_has ls 7 [(0, .ref x), (1, .int w), (2, .int w2), (3, .int sd)] := hl
  have in_X6 : ∀ w ∈ wsX60, w ∈ wsX8_layered := by decide +kernel
  have in_X8 : ∀ w ∈ wsX80, w ∈ wsX8_layered := by decide +kernel
  have fr : ∀ b, b ∈ L → b ≠ x → b ≠ Sl → b ≠ dr → b ≠ drr → b ≠ ri → b ≠ th → f b = f b := fun _ _ _ _ _ _ _ _ => rfl
  have mono : ∀ b, b ∈ L → b ∈ L := fun _ h => h
  refine lv_aload_n hx hb dX8_layered_0 rfl (lv_at hl 0 rfl) ?_
  refine lv_iload_n hx hb dX8_layered_1 rfl (lv_at hl 1 rfl) ?_
  refine q_vq (As := [.int w]) (rest := []) ⟨hx, hb, hml, hown, hts⟩ (c_X8_worldAt l D g m_x e_x m_wo e_wo) (cwV 1 hts gX8_layered_X8_worldAt rfl rfl rfl (by decide +kernel) ⟨Nat.le_of_ble_eq_true rfl, Nat.le_of_ble_eq_true rfl⟩) S m_x e_x (T := TX8) (N := 8) rfl rfl hl.1 rfl (Nat.le_of_ble_eq_true rfl) dX8_layered_2 ⟨Nat.le_of_ble_eq_true rfl, Nat.le_of_ble_eq_true rfl⟩ (fun r3 L1 f2 H locs S w2 => ?_)
  obtain ⟨exw2, eLw2, efw2⟩ := w2
  rw [eLw2, efw2] at S
  by_cases hw2 : ¬ w < 0 ∧ ¬ 8 ≤ w
  · skip
    obtain ⟨j2, hj2, ej2⟩ := pu_of (n := 8) hw2.1 hw2.2 (by decide)
    obtain ⟨b2_, rb2_, vb2_, ew2, m_b2_, e_b2_, m_rb2_, e_rb2_, n_b2__dr, n_b2__ri, n_b2__th⟩ := hW j2 hj2
    rw [if_pos hw2, ej2, nI_clamp (by omega), ew2] at exw2
    subst exw2
    refine W.eq (g2 := F0 m 5 ls [.ref b2_]) rfl ?_
    have n_rb2__drr : rb2_ ≠ drr := hWr _ _ _ _ hj2 ew2 e_b2_
    refine lv_astore (lv' := [(4, .ref b2_), (0, .ref x), (1, .int w), (2, .int w2), (3, .int sd)]) hx hb dX8_layered_5 hl (by decide) rfl (fun ls hl => ?_)
    refine lv_aload_n hx hb dX8_layered_7 rfl (lv_at hl 1 rfl) ?_
    refine lv_iload_n hx hb dX8_layered_8 rfl (lv_at hl 3 rfl) ?_
    refine q_vq (As := [.int w2]) (rest := []) ⟨hx, hb, hml, hown, hts⟩ (c_X8_worldAt l D g m_x e_x m_wo e_wo) (cwV 1 hts gX8_layered_X8_worldAt rfl rfl rfl (by decide +kernel) ⟨Nat.le_of_ble_eq_true rfl, Nat.le_of_ble_eq_true rfl⟩) S m_x e_x (T := TX8) (N := 8) rfl rfl hl.1 rfl (Nat.le_of_ble_eq_true rfl) dX8_layered_9 ⟨Nat.le_of_ble_eq_true rfl, Nat.le_of_ble_eq_true rfl⟩ (fun r6 L4 f5 H locs S w9 => ?_)
    obtain ⟨exw9, eLw9, efw9⟩ := w9
    rw [eLw9, efw9] at S
    by_cases hw9 : ¬ w2 < 0 ∧ ¬ 8 ≤ w2
    · skip
      obtain ⟨j9, hj9, ej9⟩ := pu_of (n := 8) hw9.1 hw9.2 (by decide)
      obtain ⟨b9_, rb9_, vb9_, ew9, m_b9_, e_b9_, m_rb9_, e_rb9_, n_b9__dr, n_b9__ri, n_b9__th⟩ := hW j9 hj9
      rw [if_pos hw9, ej9, nI_clamp (by omega), ew9] at exw9
      subst exw9
      refine W.eq (g2 := F0 m 12 ls [.ref b9_]) rfl ?_
      have n_rb9__drr : rb9_ ≠ drr := hWr _ _ _ _ hj9 ew9 e_b9_
      refine lv_astore (lv' := [(5, .ref b9_), (4, .ref b2_), (0, .ref x), (1, .int w), (2, .int w2), (3, .int sd)]) hx hb dX8_layered_12 hl (by decide) rfl (fun ls hl => ?_)
      refine lv_aload hx hb dX8_layered_14 (lv_at hl 1 rfl) ?_
      refine lv_ifnull hx hb dX8_layered_16 ?_
      refine lv_aload hx hb dX8_layered_19 (lv_at hl 0 rfl) ?_
      refine lv_ifnonnull (tgt := 26) hx hb dX8_layered_21 (by decide) ?_
      refine lv_aload_n hx hb dX8_layered_26 rfl (lv_at hl 2 rfl) ?_
      refine q_vq (As := []) (rest := []) ⟨hx, hb, hml, hown, hts⟩ (c_X8_nextSlot0 l D g m_x e_x m_Sl e_Sl hs0) (cwV 0 hts gX8_layered_X8_nextSlot rfl rfl rfl (by decide +kernel) ⟨Nat.le_of_ble_eq_true rfl, Nat.le_of_ble_eq_true rfl⟩) S m_x e_x (T := TX8) (N := 8) rfl rfl hl.1 rfl (Nat.le_of_ble_eq_true rfl) dX8_layered_27 ⟨Nat.le_of_ble_eq_true rfl, Nat.le_of_ble_eq_true rfl⟩ (fun r9 L7 f8 H locs S w27 => ?_)
      refine W.widen (k := 4) (n := 5105) (by decide) (by decide) ?_
      obtain ⟨sv, ce, co, cr, sf1, mo0, fv0, h_sv, h_ce, h_co, h_cr, h_Sl, ez0⟩ := w27
      have hq9 : ∃ sv ce co cr : Nat, (∀ b, b ∈ L → b ∈ L7) ∧ (∀ b, b ∈ L → b ≠ Sl → f8 b = f b) ∧ (sv ∉ L ∧ sv ∈ L7 ∧ f8 sv = .inr (4, [.ref ce, .ref co, .null, .int 0, .int 0, .int 0, .int 0])) ∧ (ce ∉ L ∧ ce ∈ L7 ∧ f8 ce = .inl (g 0, 4096, .inl (fun _ => 0))) ∧ (co ∉ L ∧ co ∈ L7 ∧ f8 co = .inr (0, [.ref cr, .int 0])) ∧ (cr ∉ L ∧ cr ∈ L7 ∧ f8 cr = .inl (g 1, 1000, .inr (.inl (fun _ => 0)))) ∧ f8 Sl = .inl (g 5, 30, .inr (.inr (.inr (.inr sf1)))) ∧ r9 = some sv := ⟨sv, ce, co, cr, mo0, fv0, h_sv, h_ce, h_co, h_cr, h_Sl, ez0⟩
      clear h_sv h_ce h_co h_cr h_Sl ez0
      obtain ⟨sv, ce, co, cr, mo27, fv27, ⟨nsv, m_sv, e_sv⟩, ⟨nce, m_ce, e_ce⟩, ⟨nco, m_co, e_co⟩, ⟨ncr, m_cr, e_cr⟩, E_Sl, ezs⟩ := hq9
      have e_x : f8 x = .inr (6, [.ref wo, .ref Sl, .ref dr, .ref ri, .ref th, .ref so, .ref ch, .int 0]) := (fv27 x m_x (ne_sh e_Sl e_x (fun h => by cases h))).trans e_x
      have e_wo : f8 wo = .inl (g 3, 8, .inr (.inr (.inr (.inr wf)))) := (fv27 wo m_wo (ne_sh e_Sl e_wo (by intro h; injection h with h; injection h with h1 h2; injection h2 with h3 h4; exact absurd h3 (by decide)))).trans e_wo
      have e_dr : f8 dr = .inr (0, [.ref drr, .int ((nI 0))]) := (fv27 dr m_dr (ne_sh e_Sl e_dr (fun h => by cases h))).trans e_dr
      have e_drr : f8 drr = .inl (g 1, 1000, .inr (.inl vd)) := (fv27 drr m_drr (ne_sh e_Sl e_drr (by intro h; injection h with h; injection h with h1 h2; first | (cases h1; done) | (cases h2; done) | (injection h2 with h3 h4; cases h4; done)))).trans e_drr
      have e_ri : f8 ri = .inr (0, [.ref rir, .int ((nI 0))]) := (fv27 ri m_ri (ne_sh e_Sl e_ri (fun h => by cases h))).trans e_ri
      have e_th : f8 th = .inr (0, [.ref thr, .int ((nI 0))]) := (fv27 th m_th (ne_sh e_Sl e_th (fun h => by cases h))).trans e_th
      have e_b2_ : f8 b2_ = .inr (0, [.ref rb2_, .int ((nI 0))]) := (fv27 b2_ m_b2_ (ne_sh e_Sl e_b2_ (fun h => by cases h))).trans e_b2_
      have e_rb2_ : f8 rb2_ = .inl (g 1, 1000, .inr (.inl vb2_)) := (fv27 rb2_ m_rb2_ (ne_sh e_Sl e_rb2_ (by intro h; injection h with h; injection h with h1 h2; first | (cases h1; done) | (cases h2; done) | (injection h2 with h3 h4; cases h4; done)))).trans e_rb2_
      have e_b9_ : f8 b9_ = .inr (0, [.ref rb9_, .int ((nI 0))]) := (fv27 b9_ m_b9_ (ne_sh e_Sl e_b9_ (fun h => by cases h))).trans e_b9_
      have e_rb9_ : f8 rb9_ = .inl (g 1, 1000, .inr (.inl vb9_)) := (fv27 rb9_ m_rb9_ (ne_sh e_Sl e_rb9_ (by intro h; injection h with h; injection h with h1 h2; first | (cases h1; done) | (cases h2; done) | (injection h2 with h3 h4; cases h4; done)))).trans e_rb9_
      have nsv_x : x ≠ sv := fun h => nsv (h ▸ m_x)
      have nce_x : x ≠ ce := fun h => nce (h ▸ m_x)
      have nco_x : x ≠ co := fun h => nco (h ▸ m_x)
      have ncr_x : x ≠ cr := fun h => ncr (h ▸ m_x)
      have nsv_wo : wo ≠ sv := fun h => nsv (h ▸ m_wo)
      have nce_wo : wo ≠ ce := fun h => nce (h ▸ m_wo)
      have nco_wo : wo ≠ co := fun h => nco (h ▸ m_wo)
      have ncr_wo : wo ≠ cr := fun h => ncr (h ▸ m_wo)
      have nsv_Sl : Sl ≠ sv := fun h => nsv (h ▸ m_Sl)
      have nce_Sl : Sl ≠ ce := fun h => nce (h ▸ m_Sl)
      have nco_Sl : Sl ≠ co := fun h => nco (h ▸ m_Sl)
      have ncr_Sl : Sl ≠ cr := fun h => ncr (h ▸ m_Sl)
      have nsv_dr : dr ≠ sv := fun h => nsv (h ▸ m_dr)
      have nce_dr : dr ≠ ce := fun h => nce (h ▸ m_dr)
      have nco_dr : dr ≠ co := fun h => nco (h ▸ m_dr)
      have ncr_dr : dr ≠ cr := fun h => ncr (h ▸ m_dr)
      have nsv_drr : drr ≠ sv := fun h => nsv (h ▸ m_drr)
      have nce_drr : drr ≠ ce := fun h => nce (h ▸ m_drr)
      have nco_drr : drr ≠ co := fun h => nco (h ▸ m_drr)
      have ncr_drr : drr ≠ cr := fun h => ncr (h ▸ m_drr)
      have nsv_ri : ri ≠ sv := fun h => nsv (h ▸ m_ri)
      have nce_ri : ri ≠ ce := fun h => nce (h ▸ m_ri)
      have nco_ri : ri ≠ co := fun h => nco (h ▸ m_ri)
      have ncr_ri : ri ≠ cr := fun h => ncr (h ▸ m_ri)
      have nsv_th : th ≠ sv := fun h => nsv (h ▸ m_th)
      have nce_th : th ≠ ce := fun h => nce (h ▸ m_th)
      have nco_th : th ≠ co := fun h => nco (h ▸ m_th)
      have ncr_th : th ≠ cr := fun h => ncr (h ▸ m_th)
      have nsv_b2_ : b2_ ≠ sv := fun h => nsv (h ▸ m_b2_)
      have nce_b2_ : b2_ ≠ ce := fun h => nce (h ▸ m_b2_)
      have nco_b2_ : b2_ ≠ co := fun h => nco (h ▸ m_b2_)
      have ncr_b2_ : b2_ ≠ cr := fun h => ncr (h ▸ m_b2_)
      have nsv_rb2_ : rb2_ ≠ sv := fun h => nsv (h ▸ m_rb2_)
      have nce_rb2_ : rb2_ ≠ ce := fun h => nce (h ▸ m_rb2_)
      have nco_rb2_ : rb2_ ≠ co := fun h => nco (h ▸ m_rb2_)
      have ncr_rb2_ : rb2_ ≠ cr := fun h => ncr (h ▸ m_rb2_)
      have nsv_b9_ : b9_ ≠ sv := fun h => nsv (h ▸ m_b9_)
      have nce_b9_ : b9_ ≠ ce := fun h => nce (h ▸ m_b9_)
      have nco_b9_ : b9_ ≠ co := fun h => nco (h ▸ m_b9_)
      have ncr_b9_ : b9_ ≠ cr := fun h => ncr (h ▸ m_b9_)
      have nsv_rb9_ : rb9_ ≠ sv := fun h => nsv (h ▸ m_rb9_)
      have nce_rb9_ : rb9_ ≠ ce := fun h => nce (h ▸ m_rb9_)
      have nco_rb9_ : rb9_ ≠ co := fun h => nco (h ▸ m_rb9_)
      have ncr_rb9_ : rb9_ ≠ cr := fun h => ncr (h ▸ m_rb9_)
      have m_x : x ∈ L7 := mo27 x m_x
      have m_wo : wo ∈ L7 := mo27 wo m_wo
      have m_Sl : Sl ∈ L7 := mo27 Sl m_Sl
      have m_dr : dr ∈ L7 := mo27 dr m_dr
      have m_drr : drr ∈ L7 := mo27 drr m_drr
      have m_ri : ri ∈ L7 := mo27 ri m_ri
      have m_th : th ∈ L7 := mo27 th m_th
      have m_b2_ : b2_ ∈ L7 := mo27 b2_ m_b2_
      have m_rb2_ : rb2_ ∈ L7 := mo27 rb2_ m_rb2_
      have m_b9_ : b9_ ∈ L7 := mo27 b9_ m_b9_
      have m_rb9_ : rb9_ ∈ L7 := mo27 rb9_ m_rb9_
      have e_Sl := E_Sl
      have nzsv : sv ∉ L := fun h => nsv (mono _ h)
      have nzce : ce ∉ L := fun h => nce (mono _ h)
      have nzco : co ∉ L := fun h => nco (mono _ h)
      have nzcr : cr ∉ L := fun h => ncr (mono _ h)
      have fr : ∀ b, b ∈ L → b ≠ x → b ≠ Sl → b ≠ dr → b ≠ drr → b ≠ ri → b ≠ th → f8 b = f b := fun b mb nb0 nb1 nb2 nb3 nb4 nb5 => (fv27 b (mono b mb) nb1).trans (fr b mb nb0 nb1 nb2 nb3 nb4 nb5)
      have mono : ∀ b, b ∈ L → b ∈ L7 := fun b h => mo27 b (mono b h)
      subst ezs
      refine W.eq (g2 := F0 m 30 ls [.ref sv]) rfl ?_
      refine lv_astore (lv' := [(6, .ref sv), (5, .ref b9_), (4, .ref b2_), (0, .ref x), (1, .int w), (2, .int w2), (3, .int sd)]) hx hb dX8_layered_30 hl (by decide) rfl (fun ls hl => ?_)
      refine lv_aload hx hb dX8_layered_32 (lv_at hl 0 rfl) ?_
      refine lv_ifnonnull (tgt := 40) hx hb dX8_layered_34 (by decide) ?_
      refine lv_aload_n hx hb dX8_layered_40 rfl (lv_at hl 3 rfl) ?_
      refine q_get hx hb hts in_X8 hown S m_x e_x (C := RX8) (T := TX8) (N := 8) rfl 2 (by decide) rfl (hts (.fieldLink RX8 22 "SieveCabinet" "draft" "LSieveCabinet$Bag;") (by decide +kernel)) dX8_layered_41 ?_
      refine lv_aload hx hb dX8_layered_44 (lv_at hl 2 rfl) ?_
      refine q_vv (As := [.ref b2_]) (rest := []) ⟨hx, hb, hml, hown, hts⟩ (c_X0_copyFrom l D g m_dr e_dr m_drr e_drr m_b2_ e_b2_ m_rb2_ e_rb2_ (by first | omega | decide) (n_b2__dr) (n_rb2__drr)) (cwV 1 hts gX8_layered_X0_copyFrom rfl rfl rfl (by decide +kernel) ⟨Nat.le_of_ble_eq_true rfl, Nat.le_of_ble_eq_true rfl⟩) S m_dr e_dr (T := TX0) (N := 2) rfl rfl hl.1 rfl (Nat.le_of_ble_eq_true rfl) dX8_layered_46 ⟨Nat.le_of_ble_eq_true rfl, Nat.le_of_ble_eq_true rfl⟩ (fun L10 f11 H locs S w46 => ?_)
      obtain ⟨eLw46, efw46⟩ := w46
      rw [eLw46, efw46] at S
      obtain ⟨f13, ef13⟩ : ∃ z_, z_ = va_up f8 drr (.inl (g 1, 1000, .inr (.inl (va_cpy vb2_ vd 0 0 0)))) := ⟨_, rfl⟩
      have e_x : f13 x = .inr (6, [.ref wo, .ref Sl, .ref dr, .ref ri, .ref th, .ref so, .ref ch, .int 0]) := up_ne ef13 (ne_sh e_drr e_x (fun h => by cases h)) e_x
      have e_wo : f13 wo = .inl (g 3, 8, .inr (.inr (.inr (.inr wf)))) := up_ne ef13 (ne_sh e_drr e_wo (by intro h; injection h with h; injection h with h1 h2; first | (cases h1; done) | (cases h2; done) | (injection h2 with h3 h4; cases h4; done))) e_wo
      have e_Sl : f13 Sl = .inl (g 5, 30, .inr (.inr (.inr (.inr sf1)))) := up_ne ef13 (ne_sh e_drr e_Sl (by intro h; injection h with h; injection h with h1 h2; first | (cases h1; done) | (cases h2; done) | (injection h2 with h3 h4; cases h4; done))) e_Sl
      have e_dr : f13 dr = .inr (0, [.ref drr, .int ((nI 0))]) := up_ne ef13 (ne_sh e_drr e_dr (fun h => by cases h)) e_dr
      have e_ri : f13 ri = .inr (0, [.ref rir, .int ((nI 0))]) := up_ne ef13 (ne_sh e_drr e_ri (fun h => by cases h)) e_ri
      have e_th : f13 th = .inr (0, [.ref thr, .int ((nI 0))]) := up_ne ef13 (ne_sh e_drr e_th (fun h => by cases h)) e_th
      have e_b2_ : f13 b2_ = .inr (0, [.ref rb2_, .int ((nI 0))]) := up_ne ef13 (ne_sh e_drr e_b2_ (fun h => by cases h)) e_b2_
      have e_rb2_ : f13 rb2_ = .inl (g 1, 1000, .inr (.inl vb2_)) := up_ne ef13 (n_rb2__drr) e_rb2_
      have e_b9_ : f13 b9_ = .inr (0, [.ref rb9_, .int ((nI 0))]) := up_ne ef13 (ne_sh e_drr e_b9_ (fun h => by cases h)) e_b9_
      have e_rb9_ : f13 rb9_ = .inl (g 1, 1000, .inr (.inl vb9_)) := up_ne ef13 (n_rb9__drr) e_rb9_
      have e_sv : f13 sv = .inr (4, [.ref ce, .ref co, .null, .int 0, .int 0, .int 0, .int 0]) := up_ne ef13 (fun h => nsv_drr h.symm) e_sv
      have e_ce : f13 ce = .inl (g 0, 4096, .inl (fun _ => 0)) := up_ne ef13 (fun h => nce_drr h.symm) e_ce
      have e_co : f13 co = .inr (0, [.ref cr, .int 0]) := up_ne ef13 (fun h => nco_drr h.symm) e_co
      have e_cr : f13 cr = .inl (g 1, 1000, .inr (.inl (fun _ => 0))) := up_ne ef13 (fun h => ncr_drr h.symm) e_cr
      have e_drr : f13 drr = .inl (g 1, 1000, .inr (.inl (va_cpy vb2_ vd 0 0 0))) := up_self ef13
      have fr : ∀ b, b ∈ L → b ≠ x → b ≠ Sl → b ≠ dr → b ≠ drr → b ≠ ri → b ≠ th → f13 b = f b := fun b mb nb0 nb1 nb2 nb3 nb4 nb5 => (up_ne ef13 nb3 rfl).trans (fr b mb nb0 nb1 nb2 nb3 nb4 nb5)
      obtain ⟨f14, ef14⟩ : ∃ z_, z_ = va_up f13 dr (.inr (0, [.ref drr, .int ((nI 0))])) := ⟨_, rfl⟩
      have S : PS D g (va_A (va_pl L f) sz) s.heap s L7 f14 H locs := by rw [ef14, ef13]; exact S
      have e_x : f14 x = .inr (6, [.ref wo, .ref Sl, .ref dr, .ref ri, .ref th, .ref so, .ref ch, .int 0]) := up_ne ef14 (ne_sh e_dr e_x (by intro h; injection h with h; injection h with h1 h2; first | (cases h1; done) | (cases h2; done) | (injection h2 with h3 h4; cases h4; done))) e_x
      have e_wo : f14 wo = .inl (g 3, 8, .inr (.inr (.inr (.inr wf)))) := up_ne ef14 (ne_sh e_dr e_wo (fun h => by cases h)) e_wo
      have e_Sl : f14 Sl = .inl (g 5, 30, .inr (.inr (.inr (.inr sf1)))) := up_ne ef14 (ne_sh e_dr e_Sl (fun h => by cases h)) e_Sl
      have e_drr : f14 drr = .inl (g 1, 1000, .inr (.inl (va_cpy vb2_ vd 0 0 0))) := up_ne ef14 (ne_sh e_dr e_drr (fun h => by cases h)) e_drr
      have e_ri : f14 ri = .inr (0, [.ref rir, .int ((nI 0))]) := up_ne ef14 n_ri_dr e_ri
      have e_th : f14 th = .inr (0, [.ref thr, .int ((nI 0))]) := up_ne ef14 n_th_dr e_th
      have e_b2_ : f14 b2_ = .inr (0, [.ref rb2_, .int ((nI 0))]) := up_ne ef14 (n_b2__dr) e_b2_
      have e_rb2_ : f14 rb2_ = .inl (g 1, 1000, .inr (.inl vb2_)) := up_ne ef14 (ne_sh e_dr e_rb2_ (fun h => by cases h)) e_rb2_
      have e_b9_ : f14 b9_ = .inr (0, [.ref rb9_, .int ((nI 0))]) := up_ne ef14 (n_b9__dr) e_b9_
      have e_rb9_ : f14 rb9_ = .inl (g 1, 1000, .inr (.inl vb9_)) := up_ne ef14 (ne_sh e_dr e_rb9_ (fun h => by cases h)) e_rb9_
      have e_sv : f14 sv = .inr (4, [.ref ce, .ref co, .null, .int 0, .int 0, .int 0, .int 0]) := up_ne ef14 (fun h => nsv_dr h.symm) e_sv
      have e_ce : f14 ce = .inl (g 0, 4096, .inl (fun _ => 0)) := up_ne ef14 (fun h => nce_dr h.symm) e_ce
      have e_co : f14 co = .inr (0, [.ref cr, .int 0]) := up_ne ef14 (fun h => nco_dr h.symm) e_co
      have e_cr : f14 cr = .inl (g 1, 1000, .inr (.inl (fun _ => 0))) := up_ne ef14 (fun h => ncr_dr h.symm) e_cr
      have e_dr : f14 dr = .inr (0, [.ref drr, .int ((nI 0))]) := up_self ef14
      have fr : ∀ b, b ∈ L → b ≠ x → b ≠ Sl → b ≠ dr → b ≠ drr → b ≠ ri → b ≠ th → f14 b = f b := fun b mb nb0 nb1 nb2 nb3 nb4 nb5 => (up_ne ef14 nb2 rfl).trans (fr b mb nb0 nb1 nb2 nb3 nb4 nb5)
      refine lv_aload_n hx hb dX8_layered_49 rfl (lv_at hl 3 rfl) ?_
      refine q_get hx hb hts in_X8 hown S m_x e_x (C := RX8) (T := TX8) (N := 8) rfl 3 (by decide) rfl (hts (.fieldLink RX8 26 "SieveCabinet" "rivals" "LSieveCabinet$Bag;") (by decide +kernel)) dX8_layered_50 ?_
      refine lv_aload hx hb dX8_layered_53 (lv_at hl 1 rfl) ?_
      refine lv_aload hx hb dX8_layered_55 (lv_at hl 2 rfl) ?_
      refine q_vv (As := [.ref b9_, .ref b2_]) (rest := []) ⟨hx, hb, hml, hown, hts⟩ (c_X0_becomeWithout0 l D g m_ri e_ri m_b9_ e_b9_ (n_b9__ri)) (cwV 2 hts gX8_layered_X0_becomeWithout rfl rfl rfl (by decide +kernel) ⟨Nat.le_of_ble_eq_true rfl, Nat.le_of_ble_eq_true rfl⟩) S m_ri e_ri (T := TX0) (N := 2) rfl rfl hl.1 rfl (Nat.le_of_ble_eq_true rfl) dX8_layered_57 ⟨Nat.le_of_ble_eq_true rfl, Nat.le_of_ble_eq_true rfl⟩ (fun L15 f16 H locs S w57 => ?_)
      obtain ⟨eLw57, efw57⟩ := w57
      rw [eLw57, efw57] at S
      obtain ⟨f18, ef18⟩ : ∃ z_, z_ = va_up f14 ri (.inr (0, [.ref rir, .int 0])) := ⟨_, rfl⟩
      have S : PS D g (va_A (va_pl L f) sz) s.heap s L7 f18 H locs := by rw [ef18]; exact S
      have e_x : f18 x = .inr (6, [.ref wo, .ref Sl, .ref dr, .ref ri, .ref th, .ref so, .ref ch, .int 0]) := up_ne ef18 (ne_sh e_ri e_x (by intro h; injection h with h; injection h with h1 h2; first | (cases h1; done) | (cases h2; done) | (injection h2 with h3 h4; cases h4; done))) e_x
      have e_wo : f18 wo = .inl (g 3, 8, .inr (.inr (.inr (.inr wf)))) := up_ne ef18 (ne_sh e_ri e_wo (fun h => by cases h)) e_wo
      have e_Sl : f18 Sl = .inl (g 5, 30, .inr (.inr (.inr (.inr sf1)))) := up_ne ef18 (ne_sh e_ri e_Sl (fun h => by cases h)) e_Sl
      have e_dr : f18 dr = .inr (0, [.ref drr, .int ((nI 0))]) := up_ne ef18 (Ne.symm n_ri_dr) e_dr
      have e_drr : f18 drr = .inl (g 1, 1000, .inr (.inl (va_cpy vb2_ vd 0 0 0))) := up_ne ef18 (ne_sh e_ri e_drr (fun h => by cases h)) e_drr
      have e_th : f18 th = .inr (0, [.ref thr, .int ((nI 0))]) := up_ne ef18 n_th_ri e_th
      have e_b2_ : f18 b2_ = .inr (0, [.ref rb2_, .int ((nI 0))]) := up_ne ef18 (n_b2__ri) e_b2_
      have e_rb2_ : f18 rb2_ = .inl (g 1, 1000, .inr (.inl vb2_)) := up_ne ef18 (ne_sh e_ri e_rb2_ (fun h => by cases h)) e_rb2_
      have e_b9_ : f18 b9_ = .inr (0, [.ref rb9_, .int ((nI 0))]) := up_ne ef18 (n_b9__ri) e_b9_
      have e_rb9_ : f18 rb9_ = .inl (g 1, 1000, .inr (.inl vb9_)) := up_ne ef18 (ne_sh e_ri e_rb9_ (fun h => by cases h)) e_rb9_
      have e_sv : f18 sv = .inr (4, [.ref ce, .ref co, .null, .int 0, .int 0, .int 0, .int 0]) := up_ne ef18 (fun h => nsv_ri h.symm) e_sv
      have e_ce : f18 ce = .inl (g 0, 4096, .inl (fun _ => 0)) := up_ne ef18 (fun h => nce_ri h.symm) e_ce
      have e_co : f18 co = .inr (0, [.ref cr, .int 0]) := up_ne ef18 (fun h => nco_ri h.symm) e_co
      have e_cr : f18 cr = .inl (g 1, 1000, .inr (.inl (fun _ => 0))) := up_ne ef18 (fun h => ncr_ri h.symm) e_cr
      have e_ri : f18 ri = .inr (0, [.ref rir, .int 0]) := up_self ef18
      have fr : ∀ b, b ∈ L → b ≠ x → b ≠ Sl → b ≠ dr → b ≠ drr → b ≠ ri → b ≠ th → f18 b = f b := fun b mb nb0 nb1 nb2 nb3 nb4 nb5 => (up_ne ef18 nb4 rfl).trans (fr b mb nb0 nb1 nb2 nb3 nb4 nb5)
      refine lv_aload hx hb dX8_layered_60 (lv_at hl 0 rfl) ?_
      refine lv_aload_n hx hb dX8_layered_62 rfl (lv_at hl 3 rfl) ?_
      refine q_get hx hb hts in_X8 hown S m_x e_x (C := RX8) (T := TX8) (N := 8) rfl 2 (by decide) rfl (hts (.fieldLink RX8 22 "SieveCabinet" "draft" "LSieveCabinet$Bag;") (by decide +kernel)) dX8_layered_63 ?_
      refine lv_aload_n hx hb dX8_layered_66 rfl (lv_at hl 3 rfl) ?_
      refine q_get hx hb hts in_X8 hown S m_x e_x (C := RX8) (T := TX8) (N := 8) rfl 3 (by decide) rfl (hts (.fieldLink RX8 26 "SieveCabinet" "rivals" "LSieveCabinet$Bag;") (by decide +kernel)) dX8_layered_67 ?_
      refine lv_aload_n hx hb dX8_layered_70 rfl (lv_at hl 3 rfl) ?_
      refine q_get hx hb hts in_X8 hown S m_x e_x (C := RX8) (T := TX8) (N := 8) rfl 4 (by decide) rfl (hts (.fieldLink RX8 29 "SieveCabinet" "through" "LSieveCabinet$Bag;") (by decide +kernel)) dX8_layered_71 ?_
      refine lv_iload_n hx hb dX8_layered_74 rfl (lv_at hl 6 rfl) ?_
      refine q_vv (As := [.ref dr, .ref ri, .ref th, .int sd]) (rest := []) ⟨hx, hb, hml, hown, hts⟩ (c_X6_beginLayered0 l D g m_sv e_sv m_ce e_ce m_co e_co m_dr e_dr m_ri e_ri m_th e_th (fun h => nco_dr h.symm) (fun h => nco_ri h.symm) (fun h => nco_th h.symm) (Ne.symm n_th_dr) (Ne.symm n_th_ri)) (cwV 4 hts gX8_layered_X6_beginLayered rfl rfl rfl (by decide +kernel) ⟨Nat.le_of_ble_eq_true rfl, Nat.le_of_ble_eq_true rfl⟩) S m_sv e_sv (T := TX6) (N := 7) rfl rfl hl.1 rfl (Nat.le_of_ble_eq_true rfl) dX8_layered_75 ⟨Nat.le_of_ble_eq_true rfl, Nat.le_of_ble_eq_true rfl⟩ (fun L19 f20 H locs S w75 => ?_)
      refine W.widen (k := 49) (n := 7472) (by decide) (by decide) ?_
      obtain ⟨ly, mo75, fv75, E_sv, E_co⟩ := w75
      have e_x : f20 x = .inr (6, [.ref wo, .ref Sl, .ref dr, .ref ri, .ref th, .ref so, .ref ch, .int 0]) := (fv75 x m_x (fun h => nsv_x h) (fun h => nce_x h) (fun h => nco_x h) (ne_sh e_th e_x (by intro h; injection h with h; injection h with h1 h2; first | (cases h1; done) | (cases h2; done) | (injection h2 with h3 h4; cases h4; done)))).trans e_x
      have e_wo : f20 wo = .inl (g 3, 8, .inr (.inr (.inr (.inr wf)))) := (fv75 wo m_wo (fun h => nsv_wo h) (fun h => nce_wo h) (fun h => nco_wo h) (ne_sh e_th e_wo (fun h => by cases h))).trans e_wo
      have e_Sl : f20 Sl = .inl (g 5, 30, .inr (.inr (.inr (.inr sf1)))) := (fv75 Sl m_Sl (fun h => nsv_Sl h) (fun h => nce_Sl h) (fun h => nco_Sl h) (ne_sh e_th e_Sl (fun h => by cases h))).trans e_Sl
      have e_dr : f20 dr = .inr (0, [.ref drr, .int ((nI 0))]) := (fv75 dr m_dr (fun h => nsv_dr h) (fun h => nce_dr h) (fun h => nco_dr h) (Ne.symm n_th_dr)).trans e_dr
      have e_drr : f20 drr = .inl (g 1, 1000, .inr (.inl (va_cpy vb2_ vd 0 0 0))) := (fv75 drr m_drr (fun h => nsv_drr h) (fun h => nce_drr h) (fun h => nco_drr h) (ne_sh e_th e_drr (fun h => by cases h))).trans e_drr
      have e_ri : f20 ri = .inr (0, [.ref rir, .int 0]) := (fv75 ri m_ri (fun h => nsv_ri h) (fun h => nce_ri h) (fun h => nco_ri h) (Ne.symm n_th_ri)).trans e_ri
      have e_b2_ : f20 b2_ = .inr (0, [.ref rb2_, .int ((nI 0))]) := (fv75 b2_ m_b2_ (fun h => nsv_b2_ h) (fun h => nce_b2_ h) (fun h => nco_b2_ h) (n_b2__th)).trans e_b2_
      have e_rb2_ : f20 rb2_ = .inl (g 1, 1000, .inr (.inl vb2_)) := (fv75 rb2_ m_rb2_ (fun h => nsv_rb2_ h) (fun h => nce_rb2_ h) (fun h => nco_rb2_ h) (ne_sh e_th e_rb2_ (fun h => by cases h))).trans e_rb2_
      have e_b9_ : f20 b9_ = .inr (0, [.ref rb9_, .int ((nI 0))]) := (fv75 b9_ m_b9_ (fun h => nsv_b9_ h) (fun h => nce_b9_ h) (fun h => nco_b9_ h) (n_b9__th)).trans e_b9_
      have e_rb9_ : f20 rb9_ = .inl (g 1, 1000, .inr (.inl vb9_)) := (fv75 rb9_ m_rb9_ (fun h => nsv_rb9_ h) (fun h => nce_rb9_ h) (fun h => nco_rb9_ h) (ne_sh e_th e_rb9_ (fun h => by cases h))).trans e_rb9_
      have e_cr : f20 cr = .inl (g 1, 1000, .inr (.inl (fun _ => 0))) := (fv75 cr m_cr (ne_sh e_sv e_cr (fun h => by cases h)) (ne_sh e_ce e_cr (by intro h; injection h with h; injection h with h1 h2; first | (cases h1; done) | (cases h2; done) | (injection h2 with h3 h4; cases h4; done))) (ne_sh e_co e_cr (fun h => by cases h)) (fun h => ncr_th h.symm)).trans e_cr
      have m_x : x ∈ L19 := mo75 x m_x
      have m_wo : wo ∈ L19 := mo75 wo m_wo
      have m_Sl : Sl ∈ L19 := mo75 Sl m_Sl
      have m_dr : dr ∈ L19 := mo75 dr m_dr
      have m_drr : drr ∈ L19 := mo75 drr m_drr
      have m_ri : ri ∈ L19 := mo75 ri m_ri
      have m_th : th ∈ L19 := mo75 th m_th
      have m_b2_ : b2_ ∈ L19 := mo75 b2_ m_b2_
      have m_rb2_ : rb2_ ∈ L19 := mo75 rb2_ m_rb2_
      have m_b9_ : b9_ ∈ L19 := mo75 b9_ m_b9_
      have m_rb9_ : rb9_ ∈ L19 := mo75 rb9_ m_rb9_
      have m_sv : sv ∈ L19 := mo75 sv m_sv
      have m_ce : ce ∈ L19 := mo75 ce m_ce
      have m_co : co ∈ L19 := mo75 co m_co
      have m_cr : cr ∈ L19 := mo75 cr m_cr
      have fr : ∀ b, b ∈ L → b ≠ x → b ≠ Sl → b ≠ dr → b ≠ drr → b ≠ ri → b ≠ th → f20 b = f b := fun b mb nb0 nb1 nb2 nb3 nb4 nb5 => (fv75 b (mono b mb) (fun h => nzsv (h ▸ mb)) (fun h => nzce (h ▸ mb)) (fun h => nzco (h ▸ mb)) nb5).trans (fr b mb nb0 nb1 nb2 nb3 nb4 nb5)
      have mono : ∀ b, b ∈ L → b ∈ L19 := fun b h => mo75 b (mono b h)
      have e_sv := E_sv
      have e_co := E_co
      refine lv_aload hx hb dX8_layered_78 (lv_at hl 0 rfl) ?_
      refine q_getN hx hb hts in_X6 hown S m_sv e_sv (C := RX6) (T := TX6) (N := 7) rfl 1 (by decide) rfl (by decide) dX8_layered_80 ?_
      refine lv_aload hx hb dX8_layered_83 (lv_at hl 2 rfl) ?_
      refine q_vv (As := [.ref b2_]) (rest := []) ⟨hx, hb, hml, hown, hts⟩ (c_X0_copyFrom l D g m_co e_co m_cr e_cr m_b2_ e_b2_ m_rb2_ e_rb2_ (by first | omega | decide) (fun h => nco_b2_ h) (fun h => ncr_rb2_ h)) (cwV 1 hts gX8_layered_X0_copyFrom rfl rfl rfl (by decide +kernel) ⟨Nat.le_of_ble_eq_true rfl, Nat.le_of_ble_eq_true rfl⟩) S m_co e_co (T := TX0) (N := 2) rfl rfl hl.1 rfl (Nat.le_of_ble_eq_true rfl) dX8_layered_85 ⟨Nat.le_of_ble_eq_true rfl, Nat.le_of_ble_eq_true rfl⟩ (fun L22 f23 H locs S w85 => ?_)
      obtain ⟨eLw85, efw85⟩ := w85
      rw [eLw85, efw85] at S
      obtain ⟨f25, ef25⟩ : ∃ z_, z_ = va_up f20 cr (.inl (g 1, 1000, .inr (.inl (va_cpy vb2_ (fun _ => 0) 0 0 0)))) := ⟨_, rfl⟩
      have e_x : f25 x = .inr (6, [.ref wo, .ref Sl, .ref dr, .ref ri, .ref th, .ref so, .ref ch, .int 0]) := up_ne ef25 (fun h => ncr_x h) e_x
      have e_wo : f25 wo = .inl (g 3, 8, .inr (.inr (.inr (.inr wf)))) := up_ne ef25 (fun h => ncr_wo h) e_wo
      have e_Sl : f25 Sl = .inl (g 5, 30, .inr (.inr (.inr (.inr sf1)))) := up_ne ef25 (fun h => ncr_Sl h) e_Sl
      have e_dr : f25 dr = .inr (0, [.ref drr, .int ((nI 0))]) := up_ne ef25 (fun h => ncr_dr h) e_dr
      have e_drr : f25 drr = .inl (g 1, 1000, .inr (.inl (va_cpy vb2_ vd 0 0 0))) := up_ne ef25 (fun h => ncr_drr h) e_drr
      have e_ri : f25 ri = .inr (0, [.ref rir, .int 0]) := up_ne ef25 (fun h => ncr_ri h) e_ri
      have e_b2_ : f25 b2_ = .inr (0, [.ref rb2_, .int ((nI 0))]) := up_ne ef25 (fun h => ncr_b2_ h) e_b2_
      have e_rb2_ : f25 rb2_ = .inl (g 1, 1000, .inr (.inl vb2_)) := up_ne ef25 (fun h => ncr_rb2_ h) e_rb2_
      have e_b9_ : f25 b9_ = .inr (0, [.ref rb9_, .int ((nI 0))]) := up_ne ef25 (fun h => ncr_b9_ h) e_b9_
      have e_rb9_ : f25 rb9_ = .inl (g 1, 1000, .inr (.inl vb9_)) := up_ne ef25 (fun h => ncr_rb9_ h) e_rb9_
      have e_sv : f25 sv = .inr (4, [.ref ce, .ref co, .ref ly, .int 4, .int 1, .int 3, .int sd]) := up_ne ef25 (ne_sh e_cr e_sv (fun h => by cases h)) e_sv
      have e_co : f25 co = .inr (0, [.ref cr, .int 0]) := up_ne ef25 (ne_sh e_cr e_co (fun h => by cases h)) e_co
      have e_cr : f25 cr = .inl (g 1, 1000, .inr (.inl (va_cpy vb2_ (fun _ => 0) 0 0 0))) := up_self ef25
      have fr : ∀ b, b ∈ L → b ≠ x → b ≠ Sl → b ≠ dr → b ≠ drr → b ≠ ri → b ≠ th → f25 b = f b := fun b mb nb0 nb1 nb2 nb3 nb4 nb5 => (up_ne ef25 (fun h => nzcr (h ▸ mb)) rfl).trans (fr b mb nb0 nb1 nb2 nb3 nb4 nb5)
      obtain ⟨f26, ef26⟩ : ∃ z_, z_ = va_up f25 co (.inr (0, [.ref cr, .int ((nI 0))])) := ⟨_, rfl⟩
      have S : PS D g (va_A (va_pl L f) sz) s.heap s L19 f26 H locs := by rw [ef26, ef25]; exact S
      have e_x : f26 x = .inr (6, [.ref wo, .ref Sl, .ref dr, .ref ri, .ref th, .ref so, .ref ch, .int 0]) := up_ne ef26 (fun h => nco_x h) e_x
      have e_wo : f26 wo = .inl (g 3, 8, .inr (.inr (.inr (.inr wf)))) := up_ne ef26 (fun h => nco_wo h) e_wo
      have e_Sl : f26 Sl = .inl (g 5, 30, .inr (.inr (.inr (.inr sf1)))) := up_ne ef26 (fun h => nco_Sl h) e_Sl
      have e_dr : f26 dr = .inr (0, [.ref drr, .int ((nI 0))]) := up_ne ef26 (fun h => nco_dr h) e_dr
      have e_drr : f26 drr = .inl (g 1, 1000, .inr (.inl (va_cpy vb2_ vd 0 0 0))) := up_ne ef26 (fun h => nco_drr h) e_drr
      have e_ri : f26 ri = .inr (0, [.ref rir, .int 0]) := up_ne ef26 (fun h => nco_ri h) e_ri
      have e_b2_ : f26 b2_ = .inr (0, [.ref rb2_, .int ((nI 0))]) := up_ne ef26 (fun h => nco_b2_ h) e_b2_
      have e_rb2_ : f26 rb2_ = .inl (g 1, 1000, .inr (.inl vb2_)) := up_ne ef26 (fun h => nco_rb2_ h) e_rb2_
      have e_b9_ : f26 b9_ = .inr (0, [.ref rb9_, .int ((nI 0))]) := up_ne ef26 (fun h => nco_b9_ h) e_b9_
      have e_rb9_ : f26 rb9_ = .inl (g 1, 1000, .inr (.inl vb9_)) := up_ne ef26 (fun h => nco_rb9_ h) e_rb9_
      have e_sv : f26 sv = .inr (4, [.ref ce, .ref co, .ref ly, .int 4, .int 1, .int 3, .int sd]) := up_ne ef26 (ne_sh e_co e_sv (by intro h; injection h with h; injection h with h1 h2; first | (cases h1; done) | (cases h2; done) | (injection h2 with h3 h4; cases h4; done))) e_sv
      have e_cr : f26 cr = .inl (g 1, 1000, .inr (.inl (va_cpy vb2_ (fun _ => 0) 0 0 0))) := up_ne ef26 (ne_sh e_co e_cr (fun h => by cases h)) e_cr
      have e_co : f26 co = .inr (0, [.ref cr, .int ((nI 0))]) := up_self ef26
      have fr : ∀ b, b ∈ L → b ≠ x → b ≠ Sl → b ≠ dr → b ≠ drr → b ≠ ri → b ≠ th → f26 b = f b := fun b mb nb0 nb1 nb2 nb3 nb4 nb5 => (up_ne ef26 (fun h => nzco (h ▸ mb)) rfl).trans (fr b mb nb0 nb1 nb2 nb3 nb4 nb5)
      refine lv_aload_n hx hb dX8_layered_88 rfl (lv_at hl 3 rfl) ?_
      refine lv_dup hx hb dX8_layered_89 rfl ?_
      refine q_get hx hb hts in_X8 hown S m_x e_x (C := RX8) (T := TX8) (N := 8) rfl 7 (by decide) rfl (hts (.fieldLink RX8 84 "SieveCabinet" "made" "I") (by decide +kernel)) dX8_layered_90 ?_
      refine lv_dup_x1 hx hb dX8_layered_93 rfl rfl ?_
      refine lv_iconst (v := 1) hx hb dX8_layered_94 (by decide) ?_
      refine lv_iadd hx hb dX8_layered_95 ?_
      refine lv_topi (fun t_ et_ => ?_)
      obtain rfl : t_ = 1 := et_.trans (by decide)
      refine q_put hx hb hts in_X8 tyX8 tyX8_ok nmX8 hown S m_x e_x (C := RX8) (T := TX8) (N := 8) rfl 7 (by decide) (hts (.fieldLink RX8 84 "SieveCabinet" "made" "I") (by decide +kernel)) rfl rfl rfl (Nat.le_of_ble_eq_true rfl) dX8_layered_96 (fun H locs S => ?_)
      obtain ⟨f27, ef27⟩ : ∃ z_, z_ = va_up f26 x (.inr (6, [.ref wo, .ref Sl, .ref dr, .ref ri, .ref th, .ref so, .ref ch, .int 1])) := ⟨_, rfl⟩
      have S : PS D g (va_A (va_pl L f) sz) s.heap s L19 f27 H locs := by rw [ef27]; exact S
      have e_wo : f27 wo = .inl (g 3, 8, .inr (.inr (.inr (.inr wf)))) := up_ne ef27 (ne_sh e_x e_wo (fun h => by cases h)) e_wo
      have e_Sl : f27 Sl = .inl (g 5, 30, .inr (.inr (.inr (.inr sf1)))) := up_ne ef27 (ne_sh e_x e_Sl (fun h => by cases h)) e_Sl
      have e_dr : f27 dr = .inr (0, [.ref drr, .int ((nI 0))]) := up_ne ef27 (ne_sh e_x e_dr (by intro h; injection h with h; injection h with h1 h2; first | (cases h1; done) | (cases h2; done) | (injection h2 with h3 h4; cases h4; done))) e_dr
      have e_drr : f27 drr = .inl (g 1, 1000, .inr (.inl (va_cpy vb2_ vd 0 0 0))) := up_ne ef27 (ne_sh e_x e_drr (fun h => by cases h)) e_drr
      have e_ri : f27 ri = .inr (0, [.ref rir, .int 0]) := up_ne ef27 (ne_sh e_x e_ri (by intro h; injection h with h; injection h with h1 h2; first | (cases h1; done) | (cases h2; done) | (injection h2 with h3 h4; cases h4; done))) e_ri
      have e_b2_ : f27 b2_ = .inr (0, [.ref rb2_, .int ((nI 0))]) := up_ne ef27 (ne_sh e_x e_b2_ (by intro h; injection h with h; injection h with h1 h2; first | (cases h1; done) | (cases h2; done) | (injection h2 with h3 h4; cases h4; done))) e_b2_
      have e_rb2_ : f27 rb2_ = .inl (g 1, 1000, .inr (.inl vb2_)) := up_ne ef27 (ne_sh e_x e_rb2_ (fun h => by cases h)) e_rb2_
      have e_b9_ : f27 b9_ = .inr (0, [.ref rb9_, .int ((nI 0))]) := up_ne ef27 (ne_sh e_x e_b9_ (by intro h; injection h with h; injection h with h1 h2; first | (cases h1; done) | (cases h2; done) | (injection h2 with h3 h4; cases h4; done))) e_b9_
      have e_rb9_ : f27 rb9_ = .inl (g 1, 1000, .inr (.inl vb9_)) := up_ne ef27 (ne_sh e_x e_rb9_ (fun h => by cases h)) e_rb9_
      have e_sv : f27 sv = .inr (4, [.ref ce, .ref co, .ref ly, .int 4, .int 1, .int 3, .int sd]) := up_ne ef27 (fun h => nsv_x h.symm) e_sv
      have e_co : f27 co = .inr (0, [.ref cr, .int ((nI 0))]) := up_ne ef27 (fun h => nco_x h.symm) e_co
      have e_cr : f27 cr = .inl (g 1, 1000, .inr (.inl (va_cpy vb2_ (fun _ => 0) 0 0 0))) := up_ne ef27 (fun h => ncr_x h.symm) e_cr
      have e_x : f27 x = .inr (6, [.ref wo, .ref Sl, .ref dr, .ref ri, .ref th, .ref so, .ref ch, .int 1]) := up_self ef27
      have fr : ∀ b, b ∈ L → b ≠ x → b ≠ Sl → b ≠ dr → b ≠ drr → b ≠ ri → b ≠ th → f27 b = f b := fun b mb nb0 nb1 nb2 nb3 nb4 nb5 => (up_ne ef27 nb0 rfl).trans (fr b mb nb0 nb1 nb2 nb3 nb4 nb5)
      exact q_reti (post := fun r L1 f1 => r = (if (¬ w < 0 ∧ ¬ 8 ≤ w) ∧ (¬ w2 < 0 ∧ ¬ 8 ≤ w2) then 0 else -1) ∧ (∀ b, b ∈ L → b ∈ L1) ∧ (∀ b, b ∈ L → b ∉ Lx → f1 b = f b)) hx hb hr hlk S dX8_layered_99 (by decide) (by decide) (⟨(if_pos ⟨hw2, hw9⟩).symm, mono, fun b mb hb => fr b mb (fun h => hb (h ▸ lx_x)) (fun h => hb (h ▸ lx_Sl)) (fun h => hb (h ▸ lx_dr)) (fun h => hb (h ▸ lx_drr)) (fun h => hb (h ▸ lx_ri)) (fun h => hb (h ▸ lx_th))⟩)
    · skip
      rw [if_neg hw9] at exw9
      subst exw9
      refine W.eq (g2 := F0 m 12 ls [.null]) rfl ?_
      refine lv_astoreN (lv' := [(5, .null), (4, .ref b2_), (0, .ref x), (1, .int w), (2, .int w2), (3, .int sd)]) hx hb dX8_layered_12 hl (by decide) rfl (fun ls hl => ?_)
      refine lv_aload hx hb dX8_layered_14 (lv_at hl 1 rfl) ?_
      refine lv_ifnull hx hb dX8_layered_16 ?_
      refine lv_aloadN hx hb dX8_layered_19 (lv_at hl 0 rfl) ?_
      refine lv_ifnonnullN hx hb dX8_layered_21 ?_
      refine lv_iconst (v := -1) hx hb dX8_layered_24 (by decide) ?_
      exact q_reti (post := fun r L1 f1 => r = (if (¬ w < 0 ∧ ¬ 8 ≤ w) ∧ (¬ w2 < 0 ∧ ¬ 8 ≤ w2) then 0 else -1) ∧ (∀ b, b ∈ L → b ∈ L1) ∧ (∀ b, b ∈ L → b ∉ Lx → f1 b = f b)) hx hb hr hlk S dX8_layered_25 (by decide) (by decide) (⟨(if_neg (fun h => hw9 h.2)).symm, mono, fun b mb hb => fr b mb (fun h => hb (h ▸ lx_x)) (fun h => hb (h ▸ lx_Sl)) (fun h => hb (h ▸ lx_dr)) (fun h => hb (h ▸ lx_drr)) (fun h => hb (h ▸ lx_ri)) (fun h => hb (h ▸ lx_th))⟩)
  · skip
    rw [if_neg hw2] at exw2
    subst exw2
    refine W.eq (g2 := F0 m 5 ls [.null]) rfl ?_
    refine lv_astoreN (lv' := [(4, .null), (0, .ref x), (1, .int w), (2, .int w2), (3, .int sd)]) hx hb dX8_layered_5 hl (by decide) rfl (fun ls hl => ?_)
    refine lv_aload_n hx hb dX8_layered_7 rfl (lv_at hl 1 rfl) ?_
    refine lv_iload_n hx hb dX8_layered_8 rfl (lv_at hl 3 rfl) ?_
    refine q_vq (As := [.int w2]) (rest := []) ⟨hx, hb, hml, hown, hts⟩ (c_X8_worldAt l D g m_x e_x m_wo e_wo) (cwV 1 hts gX8_layered_X8_worldAt rfl rfl rfl (by decide +kernel) ⟨Nat.le_of_ble_eq_true rfl, Nat.le_of_ble_eq_true rfl⟩) S m_x e_x (T := TX8) (N := 8) rfl rfl hl.1 rfl (Nat.le_of_ble_eq_true rfl) dX8_layered_9 ⟨Nat.le_of_ble_eq_true rfl, Nat.le_of_ble_eq_true rfl⟩ (fun r6 L4 f5 H locs S w9 => ?_)
    obtain ⟨exw9, eLw9, efw9⟩ := w9
    rw [eLw9, efw9] at S
    by_cases hw9 : ¬ w2 < 0 ∧ ¬ 8 ≤ w2
    · skip
      obtain ⟨j9, hj9, ej9⟩ := pu_of (n := 8) hw9.1 hw9.2 (by decide)
      obtain ⟨b9_, rb9_, vb9_, ew9, m_b9_, e_b9_, m_rb9_, e_rb9_, n_b9__dr, n_b9__ri, n_b9__th⟩ := hW j9 hj9
      rw [if_pos hw9, ej9, nI_clamp (by omega), ew9] at exw9
      subst exw9
      refine W.eq (g2 := F0 m 12 ls [.ref b9_]) rfl ?_
      have n_rb9__drr : rb9_ ≠ drr := hWr _ _ _ _ hj9 ew9 e_b9_
      refine lv_astore (lv' := [(5, .ref b9_), (4, .null), (0, .ref x), (1, .int w), (2, .int w2), (3, .int sd)]) hx hb dX8_layered_12 hl (by decide) rfl (fun ls hl => ?_)
      refine lv_aloadN hx hb dX8_layered_14 (lv_at hl 1 rfl) ?_
      refine lv_ifnullN (tgt := 24) hx hb dX8_layered_16 (by decide) ?_
      refine lv_iconst (v := -1) hx hb dX8_layered_24 (by decide) ?_
      exact q_reti (post := fun r L1 f1 => r = (if (¬ w < 0 ∧ ¬ 8 ≤ w) ∧ (¬ w2 < 0 ∧ ¬ 8 ≤ w2) then 0 else -1) ∧ (∀ b, b ∈ L → b ∈ L1) ∧ (∀ b, b ∈ L → b ∉ Lx → f1 b = f b)) hx hb hr hlk S dX8_layered_25 (by decide) (by decide) (⟨(if_neg (fun h => hw2 h.1)).symm, mono, fun b mb hb => fr b mb (fun h => hb (h ▸ lx_x)) (fun h => hb (h ▸ lx_Sl)) (fun h => hb (h ▸ lx_dr)) (fun h => hb (h ▸ lx_drr)) (fun h => hb (h ▸ lx_ri)) (fun h => hb (h ▸ lx_th))⟩)
    · skip
      rw [if_neg hw9] at exw9
      subst exw9
      refine W.eq (g2 := F0 m 12 ls [.null]) rfl ?_
      refine lv_astoreN (lv' := [(5, .null), (4, .null), (0, .ref x), (1, .int w), (2, .int w2), (3, .int sd)]) hx hb dX8_layered_12 hl (by decide) rfl (fun ls hl => ?_)
      refine lv_aloadN hx hb dX8_layered_14 (lv_at hl 1 rfl) ?_
      refine lv_ifnullN (tgt := 24) hx hb dX8_layered_16 (by decide) ?_
      refine lv_iconst (v := -1) hx hb dX8_layered_24 (by decide) ?_
      exact q_reti (post := fun r L1 f1 => r = (if (¬ w < 0 ∧ ¬ 8 ≤ w) ∧ (¬ w2 < 0 ∧ ¬ 8 ≤ w2) then 0 else -1) ∧ (∀ b, b ∈ L → b ∈ L1) ∧ (∀ b, b ∈ L → b ∉ Lx → f1 b = f b)) hx hb hr hlk S dX8_layered_25 (by decide) (by decide) (⟨(if_neg (fun h => hw2 h.1)).symm, mono, fun b mb hb => fr b mb (fun h => hb (h ▸ lx_x)) (fun h => hb (h ▸ lx_Sl)) (fun h => hb (h ▸ lx_dr)) (fun h => hb (h ▸ lx_drr)) (fun h => hb (h ▸ lx_ri)) (fun h => hb (h ▸ lx_th))⟩)
