set_option maxHeartbeats 4000000 in
set_option maxRecDepth 100000 in
/-- nextSlot, the first -/
theorem c_X8_nextSlot0 (l : Launch) (D : va_G) (g : Nat → ClassId) {L : List Nat} {f : Nat → va_E} {x wo Sl dr ri th so ch : Nat}  {sf : Nat → Option Nat} (m_x : x ∈ L) (e_x : f x = .inr (6, [.ref wo, .ref Sl, .ref dr, .ref ri, .ref th, .ref so, .ref ch, .int 0])) (m_Sl : Sl ∈ L) (e_Sl : f Sl = .inl (g 5, 30, .inr (.inr (.inr (.inr sf))))) (hs0 : sf 0 = none) : cQ l yX8_nextSlot wsX8_nextSlot { frames := 3, cells := 4, slots := 5105, locals := 52 } D g [.ref x] L f 4 5105 (fun z L1 f1 => ∃ sv : Nat, ∃ ce : Nat, ∃ co : Nat, ∃ cr : Nat, ∃ sf1 : Nat → Option Nat, (∀ b, b ∈ L → b ∈ L1) ∧ (∀ b, b ∈ L → b ≠ Sl → f1 b = f b) ∧ (sv ∉ L ∧ sv ∈ L1 ∧ f1 sv = .inr (4, [.ref ce, .ref co, .null, .int 0, .int 0, .int 0, .int 0])) ∧ (ce ∉ L ∧ ce ∈ L1 ∧ f1 ce = .inl (g 0, 4096, .inl (fun _ => 0))) ∧ (co ∉ L ∧ co ∈ L1 ∧ f1 co = .inr (0, [.ref cr, .int 0])) ∧ (cr ∉ L ∧ cr ∈ L1 ∧ f1 cr = .inl (g 1, 1000, .inr (.inl (fun _ => 0)))) ∧ f1 Sl = .inl (g 5, 30, .inr (.inr (.inr (.inr sf1)))) ∧ z = some sv) := by
  refine cQ_of (cc := cX8_nextSlot) (maxL := 1) (ret := (some (.object "SieveCabinet$Sieve"))) (by decide) rfl (Nat.le_of_ble_eq_true rfl) ?_
  intro sz p e s m below meth c hx hb hr hml hts hown hlk hnm S ls hl
  have hl : lv_has ls 1 [(0, .ref x)] := hl
  have in_X6 : ∀ w ∈ wsX60, w ∈ wsX8_nextSlot := by decide +kernel
  have in_X8 : ∀ w ∈ wsX80, w ∈ wsX8_nextSlot := by decide +kernel
  have fr : ∀ b, b ∈ L → b ≠ Sl → f b = f b := fun _ _ _ => rfl
  have mono : ∀ b, b ∈ L → b ∈ L := fun _ h => h
  refine lv_aload_n hx hb dX8_nextSlot_0 rfl (lv_at hl 0 rfl) ?_
  refine q_get hx hb hts in_X8 hown S m_x e_x (C := RX8) (T := TX8) (N := 8) rfl 7 (by decide) rfl (hts (.fieldLink RX8 84 "SieveCabinet" "made" "I") (by decide +kernel)) dX8_nextSlot_1 ?_
  refine lv_if_lt (tgt := 16) hx hb dX8_nextSlot_4 (by decide) (fun b4 => absurd b4 (by decide)) (fun b4 => ?_)
  refine lv_aload_n hx hb dX8_nextSlot_7 rfl (lv_at hl 0 rfl) ?_
  refine q_get hx hb hts in_X8 hown S m_x e_x (C := RX8) (T := TX8) (N := 8) rfl 7 (by decide) rfl (hts (.fieldLink RX8 84 "SieveCabinet" "made" "I") (by decide +kernel)) dX8_nextSlot_8 ?_
  refine lv_bipush (v := 30) hx hb dX8_nextSlot_11 (by decide) ?_
  refine lv_icmp_lt (tgt := 18) hx hb dX8_nextSlot_13 (by decide) (fun b13 => ?_) (fun b13 => absurd (by decide) b13)
  refine lv_aload_n hx hb dX8_nextSlot_18 rfl (lv_at hl 0 rfl) ?_
  refine q_get hx hb hts in_X8 hown S m_x e_x (C := RX8) (T := TX8) (N := 8) rfl 1 (by decide) rfl (hts (.fieldLink RX8 17 "SieveCabinet" "slots" "[LSieveCabinet$Sieve;") (by decide +kernel)) dX8_nextSlot_19 ?_
  refine lv_aload_n hx hb dX8_nextSlot_22 rfl (lv_at hl 0 rfl) ?_
  refine q_get hx hb hts in_X8 hown S m_x e_x (C := RX8) (T := TX8) (N := 8) rfl 7 (by decide) rfl (hts (.fieldLink RX8 84 "SieveCabinet" "made" "I") (by decide +kernel)) dX8_nextSlot_23 ?_
  refine q_ald hx hb S m_Sl 5 rfl e_Sl (pu_in0 (by decide) (by decide)) dX8_nextSlot_26 ?_
  rw [show sf (0 : Int32).toNatClampNeg = none from hs0]
  refine W.eq (g2 := F0 m 27 ls [.null]) rfl ?_
  refine lv_ifnonnullN hx hb dX8_nextSlot_27 ?_
  refine lv_aload_n hx hb dX8_nextSlot_30 rfl (lv_at hl 0 rfl) ?_
  refine q_get hx hb hts in_X8 hown S m_x e_x (C := RX8) (T := TX8) (N := 8) rfl 1 (by decide) rfl (hts (.fieldLink RX8 17 "SieveCabinet" "slots" "[LSieveCabinet$Sieve;") (by decide +kernel)) dX8_nextSlot_31 ?_
  refine lv_aload_n hx hb dX8_nextSlot_34 rfl (lv_at hl 0 rfl) ?_
  refine q_get hx hb hts in_X8 hown S m_x e_x (C := RX8) (T := TX8) (N := 8) rfl 7 (by decide) rfl (hts (.fieldLink RX8 84 "SieveCabinet" "made" "I") (by decide +kernel)) dX8_nextSlot_35 ?_
  refine q_new (fs := [.null, .null, .null, .int 0, .int 0, .int 0, .int 0]) (C := RX6) (T := TX6) (N := 7) (ci := 4) hx hb hts in_X6 tyX6 tyX6_ok hown (hts (.classLink RX8 15 RX6) (by decide +kernel)) (hts (.instantiable RX6 7) (by decide +kernel)) (hts (.initialized RX6) (by decide +kernel)) S rfl (fun j hj => by rcases (show j = 0 ∨ j = 1 ∨ j = 2 ∨ j = 3 ∨ j = 4 ∨ j = 5 ∨ j = 6 by omega) with rfl | rfl | rfl | rfl | rfl | rfl | rfl <;> rfl) (Nat.le_of_ble_eq_true rfl) (Nat.le_of_ble_eq_true rfl) dX8_nextSlot_38 (fun q38 H nq38 S => ?_)
  refine W.widen (k := 1) (n := 7) (by decide) (by decide) ?_
  obtain ⟨f1, ef1⟩ : ∃ z_, z_ = va_up f q38 (.inr (4, [.null, .null, .null, .int 0, .int 0, .int 0, .int 0])) := ⟨_, rfl⟩
  obtain ⟨L2, eL2⟩ : ∃ z_, z_ = L ++ [q38] := ⟨_, rfl⟩
  have S : PS D g (va_A (va_pl L f) sz) s.heap s L2 f1 H [] := by rw [ef1, eL2]; exact S
  have e_x : f1 x = .inr (6, [.ref wo, .ref Sl, .ref dr, .ref ri, .ref th, .ref so, .ref ch, .int 0]) := up_ne ef1 (fun h => nq38 (h ▸ m_x)) e_x
  have nq38_x : x ≠ q38 := fun h => nq38 (h ▸ m_x)
  have m_x : x ∈ L2 := by rw [eL2]; exact List.mem_append_left _ m_x
  have e_Sl : f1 Sl = .inl (g 5, 30, .inr (.inr (.inr (.inr sf)))) := up_ne ef1 (fun h => nq38 (h ▸ m_Sl)) e_Sl
  have nq38_Sl : Sl ≠ q38 := fun h => nq38 (h ▸ m_Sl)
  have m_Sl : Sl ∈ L2 := by rw [eL2]; exact List.mem_append_left _ m_Sl
  have e_q38 : f1 q38 = .inr (4, [.null, .null, .null, .int 0, .int 0, .int 0, .int 0]) := up_self ef1
  have m_q38 : q38 ∈ L2 := by rw [eL2]; simp
  have nzq38 : q38 ∉ L := fun h => nq38 (mono _ h)
  have fr : ∀ b, b ∈ L → b ≠ Sl → f1 b = f b := fun b mb nb0 => (up_ne ef1 (fun h => nzq38 (h ▸ mb)) rfl).trans (fr b mb nb0)
  have mono : ∀ b, b ∈ L → b ∈ L2 := fun b h => by rw [eL2]; exact List.mem_append_left _ (mono b h)
  refine lv_dup hx hb dX8_nextSlot_41 rfl ?_
  refine q_nv (As := []) (rest := [.ref q38, .int 0, .ref Sl]) (host := "SieveCabinet") ⟨hx, hb, hml, hown, hts⟩ (c_X6_init l D g m_q38 e_q38) ⟨va_cnB 0 hts gX8_nextSlot_X6_init_n195 rfl rfl rfl (S.1.2.1 _ (List.mem_of_getElem? (i := 5) rfl)) (hts (.initialized RX6) (by decide +kernel)) (by decide +kernel) ⟨Nat.le_of_ble_eq_true rfl, Nat.le_of_ble_eq_true rfl⟩, rfl, hts (.instanceMethod yX6_init) (by decide +kernel)⟩ S rfl hl.1 rfl (Nat.le_of_ble_eq_true rfl) dX8_nextSlot_42 ⟨Nat.le_of_ble_eq_true rfl, Nat.le_of_ble_eq_true rfl⟩ (fun L3 f4 H locs S w42 => ?_)
  refine W.widen (k := 4) (n := 5105) (by decide) (by decide) ?_
  obtain ⟨q842, q1442, q81842, mo42, fv42, ⟨nq842, m_q842, e_q842⟩, ⟨nq1442, m_q1442, e_q1442⟩, ⟨nq81842, m_q81842, e_q81842⟩, E_q38⟩ := w42
  have e_x : f4 x = .inr (6, [.ref wo, .ref Sl, .ref dr, .ref ri, .ref th, .ref so, .ref ch, .int 0]) := (fv42 x m_x (fun h => nq38_x h)).trans e_x
  have e_Sl : f4 Sl = .inl (g 5, 30, .inr (.inr (.inr (.inr sf)))) := (fv42 Sl m_Sl (fun h => nq38_Sl h)).trans e_Sl
  have nq842_x : x ≠ q842 := fun h => nq842 (h ▸ m_x)
  have nq1442_x : x ≠ q1442 := fun h => nq1442 (h ▸ m_x)
  have nq81842_x : x ≠ q81842 := fun h => nq81842 (h ▸ m_x)
  have nq842_Sl : Sl ≠ q842 := fun h => nq842 (h ▸ m_Sl)
  have nq1442_Sl : Sl ≠ q1442 := fun h => nq1442 (h ▸ m_Sl)
  have nq81842_Sl : Sl ≠ q81842 := fun h => nq81842 (h ▸ m_Sl)
  have nq842_q38 : q38 ≠ q842 := fun h => nq842 (h ▸ m_q38)
  have nq1442_q38 : q38 ≠ q1442 := fun h => nq1442 (h ▸ m_q38)
  have nq81842_q38 : q38 ≠ q81842 := fun h => nq81842 (h ▸ m_q38)
  have m_x : x ∈ L3 := mo42 x m_x
  have m_Sl : Sl ∈ L3 := mo42 Sl m_Sl
  have m_q38 : q38 ∈ L3 := mo42 q38 m_q38
  have e_q38 := E_q38
  have nzq842 : q842 ∉ L := fun h => nq842 (mono _ h)
  have nzq1442 : q1442 ∉ L := fun h => nq1442 (mono _ h)
  have nzq81842 : q81842 ∉ L := fun h => nq81842 (mono _ h)
  have fr : ∀ b, b ∈ L → b ≠ Sl → f4 b = f b := fun b mb nb0 => (fv42 b (mono b mb) (fun h => nzq38 (h ▸ mb))).trans (fr b mb nb0)
  have mono : ∀ b, b ∈ L → b ∈ L3 := fun b h => mo42 b (mono b h)
  refine q_ast hx hb S m_Sl 5 (r := (RX6, TX6, 7)) rfl e_Sl m_q38 e_q38 rfl (pu_in0 (by decide) (by decide)) dX8_nextSlot_45 (fun H locs S => ?_)
  obtain ⟨f6, ef6⟩ : ∃ z_, z_ = va_up f4 Sl (.inl (g 5, 30, .inr (.inr (.inr (.inr (va_up sf (0 : Int32).toNatClampNeg (some q38))))))) := ⟨_, rfl⟩
  have S : PS D g (va_A (va_pl L f) sz) s.heap s L3 f6 H locs := by rw [ef6]; exact S
  have e_x : f6 x = .inr (6, [.ref wo, .ref Sl, .ref dr, .ref ri, .ref th, .ref so, .ref ch, .int 0]) := up_ne ef6 (ne_sh e_Sl e_x (fun h => by cases h)) e_x
  have e_q38 : f6 q38 = .inr (4, [.ref q842, .ref q1442, .null, .int 0, .int 0, .int 0, .int 0]) := up_ne ef6 (fun h => nq38_Sl h.symm) e_q38
  have e_q842 : f6 q842 = .inl (g 0, 4096, .inl (fun _ => 0)) := up_ne ef6 (fun h => nq842_Sl h.symm) e_q842
  have e_q1442 : f6 q1442 = .inr (0, [.ref q81842, .int 0]) := up_ne ef6 (fun h => nq1442_Sl h.symm) e_q1442
  have e_q81842 : f6 q81842 = .inl (g 1, 1000, .inr (.inl (fun _ => 0))) := up_ne ef6 (fun h => nq81842_Sl h.symm) e_q81842
  have e_Sl : f6 Sl = .inl (g 5, 30, .inr (.inr (.inr (.inr (va_up sf (0 : Int32).toNatClampNeg (some q38)))))) := up_self ef6
  have fr : ∀ b, b ∈ L → b ≠ Sl → f6 b = f b := fun b mb nb0 => (up_ne ef6 nb0 rfl).trans (fr b mb nb0)
  refine lv_aload_n hx hb dX8_nextSlot_46 rfl (lv_at hl 0 rfl) ?_
  refine q_get hx hb hts in_X8 hown S m_x e_x (C := RX8) (T := TX8) (N := 8) rfl 1 (by decide) rfl (hts (.fieldLink RX8 17 "SieveCabinet" "slots" "[LSieveCabinet$Sieve;") (by decide +kernel)) dX8_nextSlot_47 ?_
  refine lv_aload_n hx hb dX8_nextSlot_50 rfl (lv_at hl 0 rfl) ?_
  refine q_get hx hb hts in_X8 hown S m_x e_x (C := RX8) (T := TX8) (N := 8) rfl 7 (by decide) rfl (hts (.fieldLink RX8 84 "SieveCabinet" "made" "I") (by decide +kernel)) dX8_nextSlot_51 ?_
  refine q_ald hx hb S m_Sl 5 rfl e_Sl (pu_in0 (by decide) (by decide)) dX8_nextSlot_54 ?_
  rw [show (va_up sf (0 : Int32).toNatClampNeg (some q38)) (0 : Int32).toNatClampNeg = some q38 from va_up_self _ _ _]
  refine W.eq (g2 := F0 m 55 ls [.ref q38]) rfl ?_
  exact q_retq (post := fun z L1 f1 => ∃ sv : Nat, ∃ ce : Nat, ∃ co : Nat, ∃ cr : Nat, ∃ sf1 : Nat → Option Nat, (∀ b, b ∈ L → b ∈ L1) ∧ (∀ b, b ∈ L → b ≠ Sl → f1 b = f b) ∧ (sv ∉ L ∧ sv ∈ L1 ∧ f1 sv = .inr (4, [.ref ce, .ref co, .null, .int 0, .int 0, .int 0, .int 0])) ∧ (ce ∉ L ∧ ce ∈ L1 ∧ f1 ce = .inl (g 0, 4096, .inl (fun _ => 0))) ∧ (co ∉ L ∧ co ∈ L1 ∧ f1 co = .inr (0, [.ref cr, .int 0])) ∧ (cr ∉ L ∧ cr ∈ L1 ∧ f1 cr = .inl (g 1, 1000, .inr (.inl (fun _ => 0)))) ∧ f1 Sl = .inl (g 5, 30, .inr (.inr (.inr (.inr sf1)))) ∧ z = some sv) (v := some q38) hx hb hr hlk S dX8_nextSlot_55 (by decide) (by decide) (⟨q38, q842, q1442, q81842, _, mono, fr, ⟨nzq38, m_q38, e_q38⟩, ⟨nzq842, m_q842, e_q842⟩, ⟨nzq1442, m_q1442, e_q1442⟩, ⟨nzq81842, m_q81842, e_q81842⟩, e_Sl, rfl⟩)

set_option maxHeartbeats 4000000 in
set_option maxRecDepth 100000 in
/-- make of a new one -/
theorem c_X8_make0 (l : Launch) (D : va_G) (g : Nat → ClassId) {L : List Nat} {f : Nat → va_E} {x wo Sl dr ri th so ch : Nat}  {sf : Nat → Option Nat} {Lx : List Nat} {k z mk sd : Int32} (m_x : x ∈ L) (e_x : f x = .inr (6, [.ref wo, .ref Sl, .ref dr, .ref ri, .ref th, .ref so, .ref ch, .int 0])) (m_Sl : Sl ∈ L) (e_Sl : f Sl = .inl (g 5, 30, .inr (.inr (.inr (.inr sf))))) (hs0 : sf 0 = none) (lx_x : x ∈ Lx) (lx_Sl : Sl ∈ Lx) : cI l yX8_make wsX8_make { frames := 4, cells := 4, slots := 5105, locals := 72 } D g [.ref x, .int k, .int z, .int mk, .int sd] L f 4 5105 (fun r L1 f1 => ((makeP k z mk → r = 0) ∧ (¬ makeP k z mk → r = -1)) ∧ (∀ b, b ∈ L → b ∈ L1) ∧ (∀ b, b ∈ L → b ∉ Lx → f1 b = f b)) := by
  refine cI_of (cc := cX8_make) (maxL := 6) (ret := (some .int)) (by decide) rfl (Nat.le_of_ble_eq_true rfl) ?_
  intro sz p e s m below meth c hx hb hr hml hts hown hlk hnm S ls hl
  have hl : lv_has ls 6 [(0, .ref x), (1, .int k), (2, .int z), (3, .int mk), (4, .int sd)] := hl
  have in_X8 : ∀ w ∈ wsX80, w ∈ wsX8_make := by decide +kernel
  have fr : ∀ b, b ∈ L → b ≠ x → b ≠ Sl → f b = f b := fun _ _ _ _ => rfl
  have mono : ∀ b, b ∈ L → b ∈ L := fun _ h => h
  refine lv_iload_n hx hb dX8_make_0 rfl (lv_at hl 1 rfl) ?_
  refine lv_iload_n hx hb dX8_make_1 rfl (lv_at hl 2 rfl) ?_
  refine lv_iload_n hx hb dX8_make_2 rfl (lv_at hl 3 rfl) ?_
  refine q_si (As := [.int k, .int z, .int mk]) (rest := []) ⟨hx, hb, hml, hown, hts⟩ (c_X8_isMakeable l D g ) (va_cwS 3 hts gX8_make_X8_isMakeable rfl rfl rfl (by decide +kernel) ⟨Nat.le_of_ble_eq_true rfl, Nat.le_of_ble_eq_true rfl⟩) S rfl hl.1 rfl (Nat.le_of_ble_eq_true rfl) dX8_make_3 ⟨Nat.le_of_ble_eq_true rfl, Nat.le_of_ble_eq_true rfl⟩ (fun r3 L1 f2 H locs S w3 => ?_)
  obtain ⟨exw3, eLw3, efw3⟩ := w3
  rw [eLw3, efw3] at S
  rcases exw3 with ⟨er3, hp3⟩ | ⟨er3, hp3⟩
  · skip
    subst er3
    refine lv_if_ne (tgt := 11) hx hb dX8_make_6 (by decide) (fun b6 => ?_) (fun b6 => absurd b6 (by decide))
    refine lv_aload_n hx hb dX8_make_11 rfl (lv_at hl 0 rfl) ?_
    refine q_vq (As := []) (rest := []) ⟨hx, hb, hml, hown, hts⟩ (c_X8_nextSlot0 l D g m_x e_x m_Sl e_Sl hs0) (cwV 0 hts gX8_make_X8_nextSlot rfl rfl rfl (by decide +kernel) ⟨Nat.le_of_ble_eq_true rfl, Nat.le_of_ble_eq_true rfl⟩) S m_x e_x (T := TX8) (N := 8) rfl rfl hl.1 rfl (Nat.le_of_ble_eq_true rfl) dX8_make_12 ⟨Nat.le_of_ble_eq_true rfl, Nat.le_of_ble_eq_true rfl⟩ (fun r6 L4 f5 H locs S w12 => ?_)
    refine W.widen (k := 4) (n := 5105) (by decide) (by decide) ?_
    obtain ⟨sv, ce, co, cr, sf1, mo0, fv0, h_sv, h_ce, h_co, h_cr, h_Sl, ez0⟩ := w12
    have hq9 : ∃ sv ce co cr : Nat, (∀ b, b ∈ L → b ∈ L4) ∧ (∀ b, b ∈ L → b ≠ Sl → f5 b = f b) ∧ (sv ∉ L ∧ sv ∈ L4 ∧ f5 sv = .inr (4, [.ref ce, .ref co, .null, .int 0, .int 0, .int 0, .int 0])) ∧ (ce ∉ L ∧ ce ∈ L4 ∧ f5 ce = .inl (g 0, 4096, .inl (fun _ => 0))) ∧ (co ∉ L ∧ co ∈ L4 ∧ f5 co = .inr (0, [.ref cr, .int 0])) ∧ (cr ∉ L ∧ cr ∈ L4 ∧ f5 cr = .inl (g 1, 1000, .inr (.inl (fun _ => 0)))) ∧ f5 Sl = .inl (g 5, 30, .inr (.inr (.inr (.inr sf1)))) ∧ r6 = some sv := ⟨sv, ce, co, cr, mo0, fv0, h_sv, h_ce, h_co, h_cr, h_Sl, ez0⟩
    clear h_sv h_ce h_co h_cr h_Sl ez0
    obtain ⟨sv, ce, co, cr, mo12, fv12, ⟨nsv, m_sv, e_sv⟩, ⟨nce, m_ce, e_ce⟩, ⟨nco, m_co, e_co⟩, ⟨ncr, m_cr, e_cr⟩, E_Sl, ezs⟩ := hq9
    have e_x : f5 x = .inr (6, [.ref wo, .ref Sl, .ref dr, .ref ri, .ref th, .ref so, .ref ch, .int 0]) := (fv12 x m_x (ne_sh e_Sl e_x (fun h => by cases h))).trans e_x
    have nsv_x : x ≠ sv := fun h => nsv (h ▸ m_x)
    have nce_x : x ≠ ce := fun h => nce (h ▸ m_x)
    have nco_x : x ≠ co := fun h => nco (h ▸ m_x)
    have ncr_x : x ≠ cr := fun h => ncr (h ▸ m_x)
    have nsv_Sl : Sl ≠ sv := fun h => nsv (h ▸ m_Sl)
    have nce_Sl : Sl ≠ ce := fun h => nce (h ▸ m_Sl)
    have nco_Sl : Sl ≠ co := fun h => nco (h ▸ m_Sl)
    have ncr_Sl : Sl ≠ cr := fun h => ncr (h ▸ m_Sl)
    have m_x : x ∈ L4 := mo12 x m_x
    have m_Sl : Sl ∈ L4 := mo12 Sl m_Sl
    have e_Sl := E_Sl
    have nzsv : sv ∉ L := fun h => nsv (mono _ h)
    have nzce : ce ∉ L := fun h => nce (mono _ h)
    have nzco : co ∉ L := fun h => nco (mono _ h)
    have nzcr : cr ∉ L := fun h => ncr (mono _ h)
    have fr : ∀ b, b ∈ L → b ≠ x → b ≠ Sl → f5 b = f b := fun b mb nb0 nb1 => (fv12 b (mono b mb) nb1).trans (fr b mb nb0 nb1)
    have mono : ∀ b, b ∈ L → b ∈ L4 := fun b h => mo12 b (mono b h)
    subst ezs
    refine W.eq (g2 := F0 m 15 ls [.ref sv]) rfl ?_
    refine lv_astore (lv' := [(5, .ref sv), (0, .ref x), (1, .int k), (2, .int z), (3, .int mk), (4, .int sd)]) hx hb dX8_make_15 hl (by decide) rfl (fun ls hl => ?_)
    refine lv_aload hx hb dX8_make_17 (lv_at hl 0 rfl) ?_
    refine lv_ifnonnull (tgt := 25) hx hb dX8_make_19 (by decide) ?_
    refine lv_aload hx hb dX8_make_25 (lv_at hl 0 rfl) ?_
    refine lv_iload_n hx hb dX8_make_27 rfl (lv_at hl 2 rfl) ?_
    refine lv_iload_n hx hb dX8_make_28 rfl (lv_at hl 3 rfl) ?_
    refine lv_iload_n hx hb dX8_make_29 rfl (lv_at hl 2 rfl) ?_
    refine lv_iconst (v := 2) hx hb dX8_make_30 (by decide) ?_
    refine lv_icmp_ne (tgt := 38) hx hb dX8_make_31 (by decide) (fun b31 => ?_) (fun b31 => ?_)
    · skip
      refine lv_iload_n hx hb dX8_make_38 rfl (lv_at hl 4 rfl) ?_
      refine lv_iload hx hb dX8_make_39 (lv_at hl 5 rfl) ?_
      refine q_vv (As := [.int k, .int z, .int mk, .int sd]) (rest := []) ⟨hx, hb, hml, hown, hts⟩ (c_X6_begin l D g  m_sv e_sv m_co e_co m_ce e_ce ) (cwV 4 hts gX8_make_X6_begin rfl rfl rfl (by decide +kernel) ⟨Nat.le_of_ble_eq_true rfl, Nat.le_of_ble_eq_true rfl⟩) S m_sv e_sv (T := TX6) (N := 7) rfl rfl hl.1 rfl (Nat.le_of_ble_eq_true rfl) dX8_make_41 ⟨Nat.le_of_ble_eq_true rfl, Nat.le_of_ble_eq_true rfl⟩ (fun L7 f8 H locs S w41 => ?_)
      obtain ⟨eLw41, fvw41, v1_41_1, E_sv, E_co, E_ce⟩ := w41
      rw [eLw41] at S
      have e_x : f8 x = .inr (6, [.ref wo, .ref Sl, .ref dr, .ref ri, .ref th, .ref so, .ref ch, .int 0]) := (fvw41 x m_x (fun h => nsv_x h) (fun h => nco_x h) (fun h => nce_x h)).trans e_x
      have e_Sl : f8 Sl = .inl (g 5, 30, .inr (.inr (.inr (.inr sf1)))) := (fvw41 Sl m_Sl (fun h => nsv_Sl h) (fun h => nco_Sl h) (fun h => nce_Sl h)).trans e_Sl
      have e_cr : f8 cr = .inl (g 1, 1000, .inr (.inl (fun _ => 0))) := (fvw41 cr m_cr (ne_sh e_sv e_cr (fun h => by cases h)) (ne_sh e_co e_cr (fun h => by cases h)) (ne_sh e_ce e_cr (by intro h; injection h with h; injection h with h1 h2; first | (cases h1; done) | (cases h2; done) | (injection h2 with h3 h4; cases h4; done)))).trans e_cr
      have e_sv := E_sv
      have e_co := E_co
      have e_ce := E_ce
      have fr : ∀ b, b ∈ L → b ≠ x → b ≠ Sl → f8 b = f b := fun b mb nb0 nb1 => (fvw41 b (mono b mb) (fun h => nzsv (h ▸ mb)) (fun h => nzco (h ▸ mb)) (fun h => nzce (h ▸ mb))).trans (fr b mb nb0 nb1)
      refine lv_aload_n hx hb dX8_make_44 rfl (lv_at hl 1 rfl) ?_
      refine lv_dup hx hb dX8_make_45 rfl ?_
      refine q_get hx hb hts in_X8 hown S m_x e_x (C := RX8) (T := TX8) (N := 8) rfl 7 (by decide) rfl (hts (.fieldLink RX8 84 "SieveCabinet" "made" "I") (by decide +kernel)) dX8_make_46 ?_
      refine lv_dup_x1 hx hb dX8_make_49 rfl rfl ?_
      refine lv_iconst (v := 1) hx hb dX8_make_50 (by decide) ?_
      refine lv_iadd hx hb dX8_make_51 ?_
      refine lv_topi (fun t_ et_ => ?_)
      obtain rfl : t_ = 1 := et_.trans (by decide)
      refine q_put hx hb hts in_X8 tyX8 tyX8_ok nmX8 hown S m_x e_x (C := RX8) (T := TX8) (N := 8) rfl 7 (by decide) (hts (.fieldLink RX8 84 "SieveCabinet" "made" "I") (by decide +kernel)) rfl rfl rfl (Nat.le_of_ble_eq_true rfl) dX8_make_52 (fun H locs S => ?_)
      obtain ⟨f10, ef10⟩ : ∃ z_, z_ = va_up f8 x (.inr (6, [.ref wo, .ref Sl, .ref dr, .ref ri, .ref th, .ref so, .ref ch, .int 1])) := ⟨_, rfl⟩
      have S : PS D g (va_A (va_pl L f) sz) s.heap s L4 f10 H locs := by rw [ef10]; exact S
      have e_Sl : f10 Sl = .inl (g 5, 30, .inr (.inr (.inr (.inr sf1)))) := up_ne ef10 (ne_sh e_x e_Sl (fun h => by cases h)) e_Sl
      have e_sv : f10 sv = .inr (4, [.ref ce, .ref co, .null, .int k, .int z, .int mk, .int sd]) := up_ne ef10 (fun h => nsv_x h.symm) e_sv
      have e_ce : f10 ce = .inl (g 0, 4096, .inl v1_41_1) := up_ne ef10 (fun h => nce_x h.symm) e_ce
      have e_co : f10 co = .inr (0, [.ref cr, .int 0]) := up_ne ef10 (fun h => nco_x h.symm) e_co
      have e_cr : f10 cr = .inl (g 1, 1000, .inr (.inl (fun _ => 0))) := up_ne ef10 (fun h => ncr_x h.symm) e_cr
      have e_x : f10 x = .inr (6, [.ref wo, .ref Sl, .ref dr, .ref ri, .ref th, .ref so, .ref ch, .int 1]) := up_self ef10
      have fr : ∀ b, b ∈ L → b ≠ x → b ≠ Sl → f10 b = f b := fun b mb nb0 nb1 => (up_ne ef10 nb0 rfl).trans (fr b mb nb0 nb1)
      exact q_reti (post := fun r L1 f1 => ((makeP k z mk → r = 0) ∧ (¬ makeP k z mk → r = -1)) ∧ (∀ b, b ∈ L → b ∈ L1) ∧ (∀ b, b ∈ L → b ∉ Lx → f1 b = f b)) hx hb hr hlk S dX8_make_55 (by decide) (by decide) (⟨⟨fun _ => rfl, fun h => absurd hp3 h⟩, mono, fun b mb hb => fr b mb (fun h => hb (h ▸ lx_x)) (fun h => hb (h ▸ lx_Sl))⟩)
    · skip
      refine lv_iconst (v := 0) hx hb dX8_make_34 (by decide) ?_
      refine lv_goto (tgt := 39) hx hb dX8_make_35 (by decide) ?_
      refine lv_iload hx hb dX8_make_39 (lv_at hl 5 rfl) ?_
      refine q_vv (As := [.int k, .int z, .int 0, .int sd]) (rest := []) ⟨hx, hb, hml, hown, hts⟩ (c_X6_begin l D g  m_sv e_sv m_co e_co m_ce e_ce ) (cwV 4 hts gX8_make_X6_begin rfl rfl rfl (by decide +kernel) ⟨Nat.le_of_ble_eq_true rfl, Nat.le_of_ble_eq_true rfl⟩) S m_sv e_sv (T := TX6) (N := 7) rfl rfl hl.1 rfl (Nat.le_of_ble_eq_true rfl) dX8_make_41 ⟨Nat.le_of_ble_eq_true rfl, Nat.le_of_ble_eq_true rfl⟩ (fun L11 f12 H locs S w41 => ?_)
      obtain ⟨eLw41, fvw41, v1_41_1, E_sv, E_co, E_ce⟩ := w41
      rw [eLw41] at S
      have e_x : f12 x = .inr (6, [.ref wo, .ref Sl, .ref dr, .ref ri, .ref th, .ref so, .ref ch, .int 0]) := (fvw41 x m_x (fun h => nsv_x h) (fun h => nco_x h) (fun h => nce_x h)).trans e_x
      have e_Sl : f12 Sl = .inl (g 5, 30, .inr (.inr (.inr (.inr sf1)))) := (fvw41 Sl m_Sl (fun h => nsv_Sl h) (fun h => nco_Sl h) (fun h => nce_Sl h)).trans e_Sl
      have e_cr : f12 cr = .inl (g 1, 1000, .inr (.inl (fun _ => 0))) := (fvw41 cr m_cr (ne_sh e_sv e_cr (fun h => by cases h)) (ne_sh e_co e_cr (fun h => by cases h)) (ne_sh e_ce e_cr (by intro h; injection h with h; injection h with h1 h2; first | (cases h1; done) | (cases h2; done) | (injection h2 with h3 h4; cases h4; done)))).trans e_cr
      have e_sv := E_sv
      have e_co := E_co
      have e_ce := E_ce
      have fr : ∀ b, b ∈ L → b ≠ x → b ≠ Sl → f12 b = f b := fun b mb nb0 nb1 => (fvw41 b (mono b mb) (fun h => nzsv (h ▸ mb)) (fun h => nzco (h ▸ mb)) (fun h => nzce (h ▸ mb))).trans (fr b mb nb0 nb1)
      refine lv_aload_n hx hb dX8_make_44 rfl (lv_at hl 1 rfl) ?_
      refine lv_dup hx hb dX8_make_45 rfl ?_
      refine q_get hx hb hts in_X8 hown S m_x e_x (C := RX8) (T := TX8) (N := 8) rfl 7 (by decide) rfl (hts (.fieldLink RX8 84 "SieveCabinet" "made" "I") (by decide +kernel)) dX8_make_46 ?_
      refine lv_dup_x1 hx hb dX8_make_49 rfl rfl ?_
      refine lv_iconst (v := 1) hx hb dX8_make_50 (by decide) ?_
      refine lv_iadd hx hb dX8_make_51 ?_
      refine lv_topi (fun t_ et_ => ?_)
      obtain rfl : t_ = 1 := et_.trans (by decide)
      refine q_put hx hb hts in_X8 tyX8 tyX8_ok nmX8 hown S m_x e_x (C := RX8) (T := TX8) (N := 8) rfl 7 (by decide) (hts (.fieldLink RX8 84 "SieveCabinet" "made" "I") (by decide +kernel)) rfl rfl rfl (Nat.le_of_ble_eq_true rfl) dX8_make_52 (fun H locs S => ?_)
      obtain ⟨f14, ef14⟩ : ∃ z_, z_ = va_up f12 x (.inr (6, [.ref wo, .ref Sl, .ref dr, .ref ri, .ref th, .ref so, .ref ch, .int 1])) := ⟨_, rfl⟩
      have S : PS D g (va_A (va_pl L f) sz) s.heap s L4 f14 H locs := by rw [ef14]; exact S
      have e_Sl : f14 Sl = .inl (g 5, 30, .inr (.inr (.inr (.inr sf1)))) := up_ne ef14 (ne_sh e_x e_Sl (fun h => by cases h)) e_Sl
      have e_sv : f14 sv = .inr (4, [.ref ce, .ref co, .null, .int k, .int z, .int 0, .int sd]) := up_ne ef14 (fun h => nsv_x h.symm) e_sv
      have e_ce : f14 ce = .inl (g 0, 4096, .inl v1_41_1) := up_ne ef14 (fun h => nce_x h.symm) e_ce
      have e_co : f14 co = .inr (0, [.ref cr, .int 0]) := up_ne ef14 (fun h => nco_x h.symm) e_co
      have e_cr : f14 cr = .inl (g 1, 1000, .inr (.inl (fun _ => 0))) := up_ne ef14 (fun h => ncr_x h.symm) e_cr
      have e_x : f14 x = .inr (6, [.ref wo, .ref Sl, .ref dr, .ref ri, .ref th, .ref so, .ref ch, .int 1]) := up_self ef14
      have fr : ∀ b, b ∈ L → b ≠ x → b ≠ Sl → f14 b = f b := fun b mb nb0 nb1 => (up_ne ef14 nb0 rfl).trans (fr b mb nb0 nb1)
      exact q_reti (post := fun r L1 f1 => ((makeP k z mk → r = 0) ∧ (¬ makeP k z mk → r = -1)) ∧ (∀ b, b ∈ L → b ∈ L1) ∧ (∀ b, b ∈ L → b ∉ Lx → f1 b = f b)) hx hb hr hlk S dX8_make_55 (by decide) (by decide) (⟨⟨fun _ => rfl, fun h => absurd hp3 h⟩, mono, fun b mb hb => fr b mb (fun h => hb (h ▸ lx_x)) (fun h => hb (h ▸ lx_Sl))⟩)
  · skip
    subst er3
    refine lv_if_ne (tgt := 11) hx hb dX8_make_6 (by decide) (fun b6 => absurd b6 (fun h => h rfl)) (fun b6 => ?_)
    refine lv_iconst (v := -1) hx hb dX8_make_9 (by decide) ?_
    exact q_reti (post := fun r L1 f1 => ((makeP k z mk → r = 0) ∧ (¬ makeP k z mk → r = -1)) ∧ (∀ b, b ∈ L → b ∈ L1) ∧ (∀ b, b ∈ L → b ∉ Lx → f1 b = f b)) hx hb hr hlk S dX8_make_10 (by decide) (by decide) (⟨⟨fun h => absurd h hp3, fun _ => rfl⟩, mono, fun b mb hb => fr b mb (fun h => hb (h ▸ lx_x)) (fun h => hb (h ▸ lx_Sl))⟩)

set_option maxHeartbeats 4000000 in
set_option maxRecDepth 100000 in
/-- solve of a new one -/
theorem c_X8_solve0 (l : Launch) (D : va_G) (g : Nat → ClassId) {L : List Nat} {f : Nat → va_E} {x wo Sl dr ri th so ch : Nat} {wf : Nat → Option Nat} {sf : Nat → Option Nat} {Lx : List Nat} {w sd : Int32} {pa ta la ba si tt tp sw : Nat}  {vl vb : Nat → Int32} {vs : Nat → Int64} (m_x : x ∈ L) (e_x : f x = .inr (6, [.ref wo, .ref Sl, .ref dr, .ref ri, .ref th, .ref so, .ref ch, .int 0])) (m_wo : wo ∈ L) (e_wo : f wo = .inl (g 3, 8, .inr (.inr (.inr (.inr wf))))) (m_Sl : Sl ∈ L) (e_Sl : f Sl = .inl (g 5, 30, .inr (.inr (.inr (.inr sf))))) (m_so : so ∈ L) (e_so : f so = .inr (5, [.ref pa, .ref ta, .ref la, .ref ba, .ref si, .ref tt, .ref tp, .int 0, .int 0])) (m_la : la ∈ L) (e_la : f la = .inl (g 0, 3774, .inl vl)) (m_ba : ba ∈ L) (e_ba : f ba = .inl (g 0, 3774, .inl vb)) (m_si : si ∈ L) (e_si : f si = .inr (1, [.ref sw, .int ((nI 0))])) (m_sw : sw ∈ L) (e_sw : f sw = .inl (g 1, 64, .inr (.inl vs))) (hs0 : sf 0 = none) (n_ba_la : ba ≠ la) (hW : ∀ j, j < 8 → ∃ b rb : Nat, ∃ vb : Nat → Int64, wf j = some b ∧ b ∈ L ∧ f b = .inr (0, [.ref rb, .int (nI 0)]) ∧ rb ∈ L ∧ f rb = .inl (g 1, 1000, .inr (.inl vb)) ∧ b ≠ dr ∧ b ≠ ri ∧ b ≠ th) (lx_x : x ∈ Lx) (lx_Sl : Sl ∈ Lx) (lx_so : so ∈ Lx) (lx_la : la ∈ Lx) (lx_ba : ba ∈ Lx) (lx_si : si ∈ Lx) (lx_sw : sw ∈ Lx) : cI l yX8_solve wsX8_solve { frames := 4, cells := 4, slots := 5105, locals := 95 } D g [.ref x, .int w, .int sd] L f 4 5105 (fun r L1 f1 => r = (if ¬ w < 0 ∧ ¬ 8 ≤ w then 0 else -1) ∧ (∀ b, b ∈ L → b ∈ L1) ∧ (∀ b, b ∈ L → b ∉ Lx → f1 b = f b)) := by
  refine cI_of (cc := cX8_solve) (maxL := 6) (ret := (some .int)) (by decide) rfl (Nat.le_of_ble_eq_true rfl) ?_
  intro sz p e s m below meth c hx hb hr hml hts hown hlk hnm S ls hl
  have hl : lv_has ls 6 [(0, .ref x), (1, .int w), (2, .int sd)] := hl
  have in_X6 : ∀ w ∈ wsX60, w ∈ wsX8_solve := by decide +kernel
  have in_X8 : ∀ w ∈ wsX80, w ∈ wsX8_solve := by decide +kernel
  have fr : ∀ b, b ∈ L → b ≠ x → b ≠ Sl → b ≠ so → b ≠ la → b ≠ ba → b ≠ si → b ≠ sw → f b = f b := fun _ _ _ _ _ _ _ _ _ => rfl
  have mono : ∀ b, b ∈ L → b ∈ L := fun _ h => h
  refine lv_aload_n hx hb dX8_solve_0 rfl (lv_at hl 0 rfl) ?_
  refine lv_iload_n hx hb dX8_solve_1 rfl (lv_at hl 1 rfl) ?_
  refine q_vq (As := [.int w]) (rest := []) ⟨hx, hb, hml, hown, hts⟩ (c_X8_worldAt l D g m_x e_x m_wo e_wo) (cwV 1 hts gX8_solve_X8_worldAt rfl rfl rfl (by decide +kernel) ⟨Nat.le_of_ble_eq_true rfl, Nat.le_of_ble_eq_true rfl⟩) S m_x e_x (T := TX8) (N := 8) rfl rfl hl.1 rfl (Nat.le_of_ble_eq_true rfl) dX8_solve_2 ⟨Nat.le_of_ble_eq_true rfl, Nat.le_of_ble_eq_true rfl⟩ (fun r3 L1 f2 H locs S w2 => ?_)
  obtain ⟨exw2, eLw2, efw2⟩ := w2
  rw [eLw2, efw2] at S
  by_cases hw2 : ¬ w < 0 ∧ ¬ 8 ≤ w
  · skip
    obtain ⟨j2, hj2, ej2⟩ := pu_of (n := 8) hw2.1 hw2.2 (by decide)
    obtain ⟨b2_, rb2_, vb2_, ew2, m_b2_, e_b2_, m_rb2_, e_rb2_, n_b2__dr, n_b2__ri, n_b2__th⟩ := hW j2 hj2
    rw [if_pos hw2, ej2, nI_clamp (by omega), ew2] at exw2
    subst exw2
    refine W.eq (g2 := F0 m 5 ls [.ref b2_]) rfl ?_
    refine lv_astore_n (lv' := [(3, .ref b2_), (0, .ref x), (1, .int w), (2, .int sd)]) hx hb dX8_solve_5 rfl hl (by decide) rfl (fun ls hl => ?_)
    refine lv_aload_n hx hb dX8_solve_6 rfl (lv_at hl 0 rfl) ?_
    refine lv_ifnonnull (tgt := 12) hx hb dX8_solve_7 (by decide) ?_
    refine lv_aload_n hx hb dX8_solve_12 rfl (lv_at hl 1 rfl) ?_
    refine q_get hx hb hts in_X8 hown S m_x e_x (C := RX8) (T := TX8) (N := 8) rfl 5 (by decide) rfl (hts (.fieldLink RX8 35 "SieveCabinet" "solver" "LSieveCabinet$Solver;") (by decide +kernel)) dX8_solve_13 ?_
    refine lv_aload_n hx hb dX8_solve_16 rfl (lv_at hl 0 rfl) ?_
    refine lv_iload_n hx hb dX8_solve_17 rfl (lv_at hl 3 rfl) ?_
    refine q_vi (As := [.ref b2_, .int sd]) (rest := []) ⟨hx, hb, hml, hown, hts⟩ (c_X7_tries0 l D g  m_so e_so m_b2_ e_b2_ m_la e_la m_ba e_ba m_si e_si m_sw e_sw n_ba_la) (cwV 2 hts gX8_solve_X7_triesUntilSolved rfl rfl rfl (by decide +kernel) ⟨Nat.le_of_ble_eq_true rfl, Nat.le_of_ble_eq_true rfl⟩) S m_so e_so (T := TX7) (N := 9) rfl rfl hl.1 rfl (Nat.le_of_ble_eq_true rfl) dX8_solve_18 ⟨Nat.le_of_ble_eq_true rfl, Nat.le_of_ble_eq_true rfl⟩ (fun r6 L4 f5 H locs S w18 => ?_)
    obtain ⟨exw18, eLw18, fvw18, v1_18_1, v2_18_1, v3_18_1, E_so, E_la, E_ba, E_si, E_sw⟩ := w18
    rw [eLw18] at S
    have e_x : f5 x = .inr (6, [.ref wo, .ref Sl, .ref dr, .ref ri, .ref th, .ref so, .ref ch, .int 0]) := (fvw18 x m_x (ne_sh e_so e_x (by intro h; injection h with h; injection h with h1 h2; first | (cases h1; done) | (cases h2; done) | (injection h2 with h3 h4; cases h4; done))) (ne_sh e_la e_x (fun h => by cases h)) (ne_sh e_ba e_x (fun h => by cases h)) (ne_sh e_si e_x (by intro h; injection h with h; injection h with h1 h2; first | (cases h1; done) | (cases h2; done) | (injection h2 with h3 h4; cases h4; done))) (ne_sh e_sw e_x (fun h => by cases h))).trans e_x
    have e_wo : f5 wo = .inl (g 3, 8, .inr (.inr (.inr (.inr wf)))) := (fvw18 wo m_wo (ne_sh e_so e_wo (fun h => by cases h)) (ne_sh e_la e_wo (by intro h; injection h with h; injection h with h1 h2; first | (cases h1; done) | (cases h2; done) | (injection h2 with h3 h4; cases h4; done))) (ne_sh e_ba e_wo (by intro h; injection h with h; injection h with h1 h2; first | (cases h1; done) | (cases h2; done) | (injection h2 with h3 h4; cases h4; done))) (ne_sh e_si e_wo (fun h => by cases h)) (ne_sh e_sw e_wo (by intro h; injection h with h; injection h with h1 h2; first | (cases h1; done) | (cases h2; done) | (injection h2 with h3 h4; cases h4; done)))).trans e_wo
    have e_Sl : f5 Sl = .inl (g 5, 30, .inr (.inr (.inr (.inr sf)))) := (fvw18 Sl m_Sl (ne_sh e_so e_Sl (fun h => by cases h)) (ne_sh e_la e_Sl (by intro h; injection h with h; injection h with h1 h2; first | (cases h1; done) | (cases h2; done) | (injection h2 with h3 h4; cases h4; done))) (ne_sh e_ba e_Sl (by intro h; injection h with h; injection h with h1 h2; first | (cases h1; done) | (cases h2; done) | (injection h2 with h3 h4; cases h4; done))) (ne_sh e_si e_Sl (fun h => by cases h)) (ne_sh e_sw e_Sl (by intro h; injection h with h; injection h with h1 h2; first | (cases h1; done) | (cases h2; done) | (injection h2 with h3 h4; cases h4; done)))).trans e_Sl
    have e_b2_ : f5 b2_ = .inr (0, [.ref rb2_, .int ((nI 0))]) := (fvw18 b2_ m_b2_ (ne_sh e_so e_b2_ (by intro h; injection h with h; injection h with h1 h2; first | (cases h1; done) | (cases h2; done) | (injection h2 with h3 h4; cases h4; done))) (ne_sh e_la e_b2_ (fun h => by cases h)) (ne_sh e_ba e_b2_ (fun h => by cases h)) (ne_sh e_si e_b2_ (by intro h; injection h with h; injection h with h1 h2; first | (cases h1; done) | (cases h2; done) | (injection h2 with h3 h4; cases h4; done))) (ne_sh e_sw e_b2_ (fun h => by cases h))).trans e_b2_
    have e_rb2_ : f5 rb2_ = .inl (g 1, 1000, .inr (.inl vb2_)) := (fvw18 rb2_ m_rb2_ (ne_sh e_so e_rb2_ (fun h => by cases h)) (ne_sh e_la e_rb2_ (by intro h; injection h with h; injection h with h1 h2; first | (cases h1; done) | (cases h2; done) | (injection h2 with h3 h4; cases h4; done))) (ne_sh e_ba e_rb2_ (by intro h; injection h with h; injection h with h1 h2; first | (cases h1; done) | (cases h2; done) | (injection h2 with h3 h4; cases h4; done))) (ne_sh e_si e_rb2_ (fun h => by cases h)) (ne_sh e_sw e_rb2_ (by intro h; injection h with h; injection h with h1 h2; injection h2 with h3 h4; exact absurd h3 (by decide)))).trans e_rb2_
    have e_so := E_so
    have e_la := E_la
    have e_ba := E_ba
    have e_si := E_si
    have e_sw := E_sw
    have fr : ∀ b, b ∈ L → b ≠ x → b ≠ Sl → b ≠ so → b ≠ la → b ≠ ba → b ≠ si → b ≠ sw → f5 b = f b := fun b mb nb0 nb1 nb2 nb3 nb4 nb5 nb6 => (fvw18 b (mono b mb) nb2 nb3 nb4 nb5 nb6).trans (fr b mb nb0 nb1 nb2 nb3 nb4 nb5 nb6)
    subst exw18
    refine lv_istore (lv' := [(4, .int 0), (3, .ref b2_), (0, .ref x), (1, .int w), (2, .int sd)]) hx hb dX8_solve_21 hl (by decide) rfl (fun ls hl => ?_)
    refine lv_iload hx hb dX8_solve_23 (lv_at hl 0 rfl) ?_
    refine lv_if_ge (tgt := 31) hx hb dX8_solve_25 (by decide) (fun b25 => ?_) (fun b25 => absurd (by decide) b25)
    refine lv_aload_n hx hb dX8_solve_31 rfl (lv_at hl 2 rfl) ?_
    refine q_vq (As := []) (rest := []) ⟨hx, hb, hml, hown, hts⟩ (c_X8_nextSlot0 l D g m_x e_x m_Sl e_Sl hs0) (cwV 0 hts gX8_solve_X8_nextSlot rfl rfl rfl (by decide +kernel) ⟨Nat.le_of_ble_eq_true rfl, Nat.le_of_ble_eq_true rfl⟩) S m_x e_x (T := TX8) (N := 8) rfl rfl hl.1 rfl (Nat.le_of_ble_eq_true rfl) dX8_solve_32 ⟨Nat.le_of_ble_eq_true rfl, Nat.le_of_ble_eq_true rfl⟩ (fun r9 L7 f8 H locs S w32 => ?_)
    refine W.widen (k := 4) (n := 5105) (by decide) (by decide) ?_
    obtain ⟨sv, ce, co, cr, sf1, mo0, fv0, h_sv, h_ce, h_co, h_cr, h_Sl, ez0⟩ := w32
    have hq9 : ∃ sv ce co cr : Nat, (∀ b, b ∈ L → b ∈ L7) ∧ (∀ b, b ∈ L → b ≠ Sl → f8 b = f5 b) ∧ (sv ∉ L ∧ sv ∈ L7 ∧ f8 sv = .inr (4, [.ref ce, .ref co, .null, .int 0, .int 0, .int 0, .int 0])) ∧ (ce ∉ L ∧ ce ∈ L7 ∧ f8 ce = .inl (g 0, 4096, .inl (fun _ => 0))) ∧ (co ∉ L ∧ co ∈ L7 ∧ f8 co = .inr (0, [.ref cr, .int 0])) ∧ (cr ∉ L ∧ cr ∈ L7 ∧ f8 cr = .inl (g 1, 1000, .inr (.inl (fun _ => 0)))) ∧ f8 Sl = .inl (g 5, 30, .inr (.inr (.inr (.inr sf1)))) ∧ r9 = some sv := ⟨sv, ce, co, cr, mo0, fv0, h_sv, h_ce, h_co, h_cr, h_Sl, ez0⟩
    clear h_sv h_ce h_co h_cr h_Sl ez0
    obtain ⟨sv, ce, co, cr, mo32, fv32, ⟨nsv, m_sv, e_sv⟩, ⟨nce, m_ce, e_ce⟩, ⟨nco, m_co, e_co⟩, ⟨ncr, m_cr, e_cr⟩, E_Sl, ezs⟩ := hq9
    have e_x : f8 x = .inr (6, [.ref wo, .ref Sl, .ref dr, .ref ri, .ref th, .ref so, .ref ch, .int 0]) := (fv32 x m_x (ne_sh e_Sl e_x (fun h => by cases h))).trans e_x
    have e_wo : f8 wo = .inl (g 3, 8, .inr (.inr (.inr (.inr wf)))) := (fv32 wo m_wo (ne_sh e_Sl e_wo (by intro h; injection h with h; injection h with h1 h2; injection h2 with h3 h4; exact absurd h3 (by decide)))).trans e_wo
    have e_so : f8 so = .inr (5, [.ref pa, .ref ta, .ref la, .ref ba, .ref si, .ref tt, .ref tp, .int 0, .int 8]) := (fv32 so m_so (ne_sh e_Sl e_so (fun h => by cases h))).trans e_so
    have e_la : f8 la = .inl (g 0, 3774, .inl v1_18_1) := (fv32 la m_la (ne_sh e_Sl e_la (by intro h; injection h with h; injection h with h1 h2; first | (cases h1; done) | (cases h2; done) | (injection h2 with h3 h4; cases h4; done)))).trans e_la
    have e_ba : f8 ba = .inl (g 0, 3774, .inl v2_18_1) := (fv32 ba m_ba (ne_sh e_Sl e_ba (by intro h; injection h with h; injection h with h1 h2; first | (cases h1; done) | (cases h2; done) | (injection h2 with h3 h4; cases h4; done)))).trans e_ba
    have e_si : f8 si = .inr (1, [.ref sw, .int ((nI 24))]) := (fv32 si m_si (ne_sh e_Sl e_si (fun h => by cases h))).trans e_si
    have e_sw : f8 sw = .inl (g 1, 64, .inr (.inl v3_18_1)) := (fv32 sw m_sw (ne_sh e_Sl e_sw (by intro h; injection h with h; injection h with h1 h2; first | (cases h1; done) | (cases h2; done) | (injection h2 with h3 h4; cases h4; done)))).trans e_sw
    have e_b2_ : f8 b2_ = .inr (0, [.ref rb2_, .int ((nI 0))]) := (fv32 b2_ m_b2_ (ne_sh e_Sl e_b2_ (fun h => by cases h))).trans e_b2_
    have e_rb2_ : f8 rb2_ = .inl (g 1, 1000, .inr (.inl vb2_)) := (fv32 rb2_ m_rb2_ (ne_sh e_Sl e_rb2_ (by intro h; injection h with h; injection h with h1 h2; first | (cases h1; done) | (cases h2; done) | (injection h2 with h3 h4; cases h4; done)))).trans e_rb2_
    have nsv_x : x ≠ sv := fun h => nsv (h ▸ m_x)
    have nce_x : x ≠ ce := fun h => nce (h ▸ m_x)
    have nco_x : x ≠ co := fun h => nco (h ▸ m_x)
    have ncr_x : x ≠ cr := fun h => ncr (h ▸ m_x)
    have nsv_wo : wo ≠ sv := fun h => nsv (h ▸ m_wo)
    have nce_wo : wo ≠ ce := fun h => nce (h ▸ m_wo)
    have nco_wo : wo ≠ co := fun h => nco (h ▸ m_wo)
    have ncr_wo : wo ≠ cr := fun h => ncr (h ▸ m_wo)
    have nsv_Sl : Sl ≠ sv := fun h => nsv (h ▸ m_Sl)
    have nce_Sl : Sl ≠ ce := fun h => nce (h ▸ m_Sl)
    have nco_Sl : Sl ≠ co := fun h => nco (h ▸ m_Sl)
    have ncr_Sl : Sl ≠ cr := fun h => ncr (h ▸ m_Sl)
    have nsv_so : so ≠ sv := fun h => nsv (h ▸ m_so)
    have nce_so : so ≠ ce := fun h => nce (h ▸ m_so)
    have nco_so : so ≠ co := fun h => nco (h ▸ m_so)
    have ncr_so : so ≠ cr := fun h => ncr (h ▸ m_so)
    have nsv_la : la ≠ sv := fun h => nsv (h ▸ m_la)
    have nce_la : la ≠ ce := fun h => nce (h ▸ m_la)
    have nco_la : la ≠ co := fun h => nco (h ▸ m_la)
    have ncr_la : la ≠ cr := fun h => ncr (h ▸ m_la)
    have nsv_ba : ba ≠ sv := fun h => nsv (h ▸ m_ba)
    have nce_ba : ba ≠ ce := fun h => nce (h ▸ m_ba)
    have nco_ba : ba ≠ co := fun h => nco (h ▸ m_ba)
    have ncr_ba : ba ≠ cr := fun h => ncr (h ▸ m_ba)
    have nsv_si : si ≠ sv := fun h => nsv (h ▸ m_si)
    have nce_si : si ≠ ce := fun h => nce (h ▸ m_si)
    have nco_si : si ≠ co := fun h => nco (h ▸ m_si)
    have ncr_si : si ≠ cr := fun h => ncr (h ▸ m_si)
    have nsv_sw : sw ≠ sv := fun h => nsv (h ▸ m_sw)
    have nce_sw : sw ≠ ce := fun h => nce (h ▸ m_sw)
    have nco_sw : sw ≠ co := fun h => nco (h ▸ m_sw)
    have ncr_sw : sw ≠ cr := fun h => ncr (h ▸ m_sw)
    have nsv_b2_ : b2_ ≠ sv := fun h => nsv (h ▸ m_b2_)
    have nce_b2_ : b2_ ≠ ce := fun h => nce (h ▸ m_b2_)
    have nco_b2_ : b2_ ≠ co := fun h => nco (h ▸ m_b2_)
    have ncr_b2_ : b2_ ≠ cr := fun h => ncr (h ▸ m_b2_)
    have nsv_rb2_ : rb2_ ≠ sv := fun h => nsv (h ▸ m_rb2_)
    have nce_rb2_ : rb2_ ≠ ce := fun h => nce (h ▸ m_rb2_)
    have nco_rb2_ : rb2_ ≠ co := fun h => nco (h ▸ m_rb2_)
    have ncr_rb2_ : rb2_ ≠ cr := fun h => ncr (h ▸ m_rb2_)
    have m_x : x ∈ L7 := mo32 x m_x
    have m_wo : wo ∈ L7 := mo32 wo m_wo
    have m_Sl : Sl ∈ L7 := mo32 Sl m_Sl
    have m_so : so ∈ L7 := mo32 so m_so
    have m_la : la ∈ L7 := mo32 la m_la
    have m_ba : ba ∈ L7 := mo32 ba m_ba
    have m_si : si ∈ L7 := mo32 si m_si
    have m_sw : sw ∈ L7 := mo32 sw m_sw
    have m_b2_ : b2_ ∈ L7 := mo32 b2_ m_b2_
    have m_rb2_ : rb2_ ∈ L7 := mo32 rb2_ m_rb2_
    have e_Sl := E_Sl
    have nzsv : sv ∉ L := fun h => nsv (mono _ h)
    have nzce : ce ∉ L := fun h => nce (mono _ h)
    have nzco : co ∉ L := fun h => nco (mono _ h)
    have nzcr : cr ∉ L := fun h => ncr (mono _ h)
    have fr : ∀ b, b ∈ L → b ≠ x → b ≠ Sl → b ≠ so → b ≠ la → b ≠ ba → b ≠ si → b ≠ sw → f8 b = f b := fun b mb nb0 nb1 nb2 nb3 nb4 nb5 nb6 => (fv32 b (mono b mb) nb1).trans (fr b mb nb0 nb1 nb2 nb3 nb4 nb5 nb6)
    have mono : ∀ b, b ∈ L → b ∈ L7 := fun b h => mo32 b (mono b h)
    subst ezs
    refine W.eq (g2 := F0 m 35 ls [.ref sv]) rfl ?_
    refine lv_astore (lv' := [(5, .ref sv), (4, .int 0), (3, .ref b2_), (0, .ref x), (1, .int w), (2, .int sd)]) hx hb dX8_solve_35 hl (by decide) rfl (fun ls hl => ?_)
    refine lv_aload hx hb dX8_solve_37 (lv_at hl 0 rfl) ?_
    refine lv_ifnonnull (tgt := 45) hx hb dX8_solve_39 (by decide) ?_
    refine lv_aload hx hb dX8_solve_45 (lv_at hl 0 rfl) ?_
    refine lv_iconst (v := 3) hx hb dX8_solve_47 (by decide) ?_
    refine lv_aload_n hx hb dX8_solve_48 rfl (lv_at hl 3 rfl) ?_
    refine q_get hx hb hts in_X8 hown S m_x e_x (C := RX8) (T := TX8) (N := 8) rfl 5 (by decide) rfl (hts (.fieldLink RX8 35 "SieveCabinet" "solver" "LSieveCabinet$Solver;") (by decide +kernel)) dX8_solve_49 ?_
    refine q_vi (As := []) (rest := [.int 3, .ref sv]) ⟨hx, hb, hml, hown, hts⟩ (c_X7_places0 l D g m_so e_so ) (cwV 0 hts gX8_solve_X7_places rfl rfl rfl (by decide +kernel) ⟨Nat.le_of_ble_eq_true rfl, Nat.le_of_ble_eq_true rfl⟩) S m_so e_so (T := TX7) (N := 9) rfl rfl hl.1 rfl (Nat.le_of_ble_eq_true rfl) dX8_solve_52 ⟨Nat.le_of_ble_eq_true rfl, Nat.le_of_ble_eq_true rfl⟩ (fun r12 L10 f11 H locs S w52 => ?_)
    obtain ⟨exw52, eLw52, efw52⟩ := w52
    rw [eLw52, efw52] at S
    subst exw52
    refine lv_iconst (v := 0) hx hb dX8_solve_55 (by decide) ?_
    refine lv_iload_n hx hb dX8_solve_56 rfl (lv_at hl 5 rfl) ?_
    refine lv_iload hx hb dX8_solve_57 (lv_at hl 1 rfl) ?_
    refine lv_iadd hx hb dX8_solve_59 ?_
    refine q_vv (As := [.int 3, .int 24, .int 0, .int ((sd + 0))]) (rest := []) ⟨hx, hb, hml, hown, hts⟩ (c_X6_begin l D g  m_sv e_sv m_co e_co m_ce e_ce ) (cwV 4 hts gX8_solve_X6_begin rfl rfl rfl (by decide +kernel) ⟨Nat.le_of_ble_eq_true rfl, Nat.le_of_ble_eq_true rfl⟩) S m_sv e_sv (T := TX6) (N := 7) rfl rfl hl.1 rfl (Nat.le_of_ble_eq_true rfl) dX8_solve_60 ⟨Nat.le_of_ble_eq_true rfl, Nat.le_of_ble_eq_true rfl⟩ (fun L13 f14 H locs S w60 => ?_)
    obtain ⟨eLw60, fvw60, v1_60_1, E_sv, E_co, E_ce⟩ := w60
    rw [eLw60] at S
    have e_x : f14 x = .inr (6, [.ref wo, .ref Sl, .ref dr, .ref ri, .ref th, .ref so, .ref ch, .int 0]) := (fvw60 x m_x (fun h => nsv_x h) (fun h => nco_x h) (fun h => nce_x h)).trans e_x
    have e_wo : f14 wo = .inl (g 3, 8, .inr (.inr (.inr (.inr wf)))) := (fvw60 wo m_wo (fun h => nsv_wo h) (fun h => nco_wo h) (fun h => nce_wo h)).trans e_wo
    have e_Sl : f14 Sl = .inl (g 5, 30, .inr (.inr (.inr (.inr sf1)))) := (fvw60 Sl m_Sl (fun h => nsv_Sl h) (fun h => nco_Sl h) (fun h => nce_Sl h)).trans e_Sl
    have e_so : f14 so = .inr (5, [.ref pa, .ref ta, .ref la, .ref ba, .ref si, .ref tt, .ref tp, .int 0, .int 8]) := (fvw60 so m_so (fun h => nsv_so h) (fun h => nco_so h) (fun h => nce_so h)).trans e_so
    have e_la : f14 la = .inl (g 0, 3774, .inl v1_18_1) := (fvw60 la m_la (fun h => nsv_la h) (fun h => nco_la h) (fun h => nce_la h)).trans e_la
    have e_ba : f14 ba = .inl (g 0, 3774, .inl v2_18_1) := (fvw60 ba m_ba (fun h => nsv_ba h) (fun h => nco_ba h) (fun h => nce_ba h)).trans e_ba
    have e_si : f14 si = .inr (1, [.ref sw, .int ((nI 24))]) := (fvw60 si m_si (fun h => nsv_si h) (fun h => nco_si h) (fun h => nce_si h)).trans e_si
    have e_sw : f14 sw = .inl (g 1, 64, .inr (.inl v3_18_1)) := (fvw60 sw m_sw (fun h => nsv_sw h) (fun h => nco_sw h) (fun h => nce_sw h)).trans e_sw
    have e_b2_ : f14 b2_ = .inr (0, [.ref rb2_, .int ((nI 0))]) := (fvw60 b2_ m_b2_ (fun h => nsv_b2_ h) (fun h => nco_b2_ h) (fun h => nce_b2_ h)).trans e_b2_
    have e_rb2_ : f14 rb2_ = .inl (g 1, 1000, .inr (.inl vb2_)) := (fvw60 rb2_ m_rb2_ (fun h => nsv_rb2_ h) (fun h => nco_rb2_ h) (fun h => nce_rb2_ h)).trans e_rb2_
    have e_cr : f14 cr = .inl (g 1, 1000, .inr (.inl (fun _ => 0))) := (fvw60 cr m_cr (ne_sh e_sv e_cr (fun h => by cases h)) (ne_sh e_co e_cr (fun h => by cases h)) (ne_sh e_ce e_cr (by intro h; injection h with h; injection h with h1 h2; first | (cases h1; done) | (cases h2; done) | (injection h2 with h3 h4; cases h4; done)))).trans e_cr
    have e_sv := E_sv
    have e_co := E_co
    have e_ce := E_ce
    have fr : ∀ b, b ∈ L → b ≠ x → b ≠ Sl → b ≠ so → b ≠ la → b ≠ ba → b ≠ si → b ≠ sw → f14 b = f b := fun b mb nb0 nb1 nb2 nb3 nb4 nb5 nb6 => (fvw60 b (mono b mb) (fun h => nzsv (h ▸ mb)) (fun h => nzco (h ▸ mb)) (fun h => nzce (h ▸ mb))).trans (fr b mb nb0 nb1 nb2 nb3 nb4 nb5 nb6)
    refine lv_aload hx hb dX8_solve_63 (lv_at hl 0 rfl) ?_
    refine q_getN hx hb hts in_X6 hown S m_sv e_sv (C := RX6) (T := TX6) (N := 7) rfl 1 (by decide) rfl (by decide) dX8_solve_65 ?_
    refine lv_aload_n hx hb dX8_solve_68 rfl (lv_at hl 2 rfl) ?_
    refine q_vv (As := [.ref b2_]) (rest := []) ⟨hx, hb, hml, hown, hts⟩ (c_X0_copyFrom l D g m_co e_co m_cr e_cr m_b2_ e_b2_ m_rb2_ e_rb2_ (by first | omega | decide) (fun h => nco_b2_ h) (fun h => ncr_rb2_ h)) (cwV 1 hts gX8_solve_X0_copyFrom rfl rfl rfl (by decide +kernel) ⟨Nat.le_of_ble_eq_true rfl, Nat.le_of_ble_eq_true rfl⟩) S m_co e_co (T := TX0) (N := 2) rfl rfl hl.1 rfl (Nat.le_of_ble_eq_true rfl) dX8_solve_69 ⟨Nat.le_of_ble_eq_true rfl, Nat.le_of_ble_eq_true rfl⟩ (fun L16 f17 H locs S w69 => ?_)
    obtain ⟨eLw69, efw69⟩ := w69
    rw [eLw69, efw69] at S
    obtain ⟨f19, ef19⟩ : ∃ z_, z_ = va_up f14 cr (.inl (g 1, 1000, .inr (.inl (va_cpy vb2_ (fun _ => 0) 0 0 0)))) := ⟨_, rfl⟩
    have e_x : f19 x = .inr (6, [.ref wo, .ref Sl, .ref dr, .ref ri, .ref th, .ref so, .ref ch, .int 0]) := up_ne ef19 (fun h => ncr_x h) e_x
    have e_wo : f19 wo = .inl (g 3, 8, .inr (.inr (.inr (.inr wf)))) := up_ne ef19 (fun h => ncr_wo h) e_wo
    have e_Sl : f19 Sl = .inl (g 5, 30, .inr (.inr (.inr (.inr sf1)))) := up_ne ef19 (fun h => ncr_Sl h) e_Sl
    have e_so : f19 so = .inr (5, [.ref pa, .ref ta, .ref la, .ref ba, .ref si, .ref tt, .ref tp, .int 0, .int 8]) := up_ne ef19 (fun h => ncr_so h) e_so
    have e_la : f19 la = .inl (g 0, 3774, .inl v1_18_1) := up_ne ef19 (fun h => ncr_la h) e_la
    have e_ba : f19 ba = .inl (g 0, 3774, .inl v2_18_1) := up_ne ef19 (fun h => ncr_ba h) e_ba
    have e_si : f19 si = .inr (1, [.ref sw, .int ((nI 24))]) := up_ne ef19 (fun h => ncr_si h) e_si
    have e_sw : f19 sw = .inl (g 1, 64, .inr (.inl v3_18_1)) := up_ne ef19 (fun h => ncr_sw h) e_sw
    have e_b2_ : f19 b2_ = .inr (0, [.ref rb2_, .int ((nI 0))]) := up_ne ef19 (fun h => ncr_b2_ h) e_b2_
    have e_rb2_ : f19 rb2_ = .inl (g 1, 1000, .inr (.inl vb2_)) := up_ne ef19 (fun h => ncr_rb2_ h) e_rb2_
    have e_sv : f19 sv = .inr (4, [.ref ce, .ref co, .null, .int 3, .int 24, .int 0, .int ((sd + 0))]) := up_ne ef19 (ne_sh e_cr e_sv (fun h => by cases h)) e_sv
    have e_ce : f19 ce = .inl (g 0, 4096, .inl v1_60_1) := up_ne ef19 (ne_sh e_cr e_ce (by intro h; injection h with h; injection h with h1 h2; first | (cases h1; done) | (cases h2; done) | (injection h2 with h3 h4; cases h4; done))) e_ce
    have e_co : f19 co = .inr (0, [.ref cr, .int 0]) := up_ne ef19 (ne_sh e_cr e_co (fun h => by cases h)) e_co
    have e_cr : f19 cr = .inl (g 1, 1000, .inr (.inl (va_cpy vb2_ (fun _ => 0) 0 0 0))) := up_self ef19
    have fr : ∀ b, b ∈ L → b ≠ x → b ≠ Sl → b ≠ so → b ≠ la → b ≠ ba → b ≠ si → b ≠ sw → f19 b = f b := fun b mb nb0 nb1 nb2 nb3 nb4 nb5 nb6 => (up_ne ef19 (fun h => nzcr (h ▸ mb)) rfl).trans (fr b mb nb0 nb1 nb2 nb3 nb4 nb5 nb6)
    obtain ⟨f20, ef20⟩ : ∃ z_, z_ = va_up f19 co (.inr (0, [.ref cr, .int ((nI 0))])) := ⟨_, rfl⟩
    have S : PS D g (va_A (va_pl L f) sz) s.heap s L7 f20 H locs := by rw [ef20, ef19]; exact S
    have e_x : f20 x = .inr (6, [.ref wo, .ref Sl, .ref dr, .ref ri, .ref th, .ref so, .ref ch, .int 0]) := up_ne ef20 (fun h => nco_x h) e_x
    have e_wo : f20 wo = .inl (g 3, 8, .inr (.inr (.inr (.inr wf)))) := up_ne ef20 (fun h => nco_wo h) e_wo
    have e_Sl : f20 Sl = .inl (g 5, 30, .inr (.inr (.inr (.inr sf1)))) := up_ne ef20 (fun h => nco_Sl h) e_Sl
    have e_so : f20 so = .inr (5, [.ref pa, .ref ta, .ref la, .ref ba, .ref si, .ref tt, .ref tp, .int 0, .int 8]) := up_ne ef20 (fun h => nco_so h) e_so
    have e_la : f20 la = .inl (g 0, 3774, .inl v1_18_1) := up_ne ef20 (fun h => nco_la h) e_la
    have e_ba : f20 ba = .inl (g 0, 3774, .inl v2_18_1) := up_ne ef20 (fun h => nco_ba h) e_ba
    have e_si : f20 si = .inr (1, [.ref sw, .int ((nI 24))]) := up_ne ef20 (fun h => nco_si h) e_si
    have e_sw : f20 sw = .inl (g 1, 64, .inr (.inl v3_18_1)) := up_ne ef20 (fun h => nco_sw h) e_sw
    have e_b2_ : f20 b2_ = .inr (0, [.ref rb2_, .int ((nI 0))]) := up_ne ef20 (fun h => nco_b2_ h) e_b2_
    have e_rb2_ : f20 rb2_ = .inl (g 1, 1000, .inr (.inl vb2_)) := up_ne ef20 (fun h => nco_rb2_ h) e_rb2_
    have e_sv : f20 sv = .inr (4, [.ref ce, .ref co, .null, .int 3, .int 24, .int 0, .int ((sd + 0))]) := up_ne ef20 (ne_sh e_co e_sv (by intro h; injection h with h; injection h with h1 h2; first | (cases h1; done) | (cases h2; done) | (injection h2 with h3 h4; cases h4; done))) e_sv
    have e_ce : f20 ce = .inl (g 0, 4096, .inl v1_60_1) := up_ne ef20 (ne_sh e_co e_ce (fun h => by cases h)) e_ce
    have e_cr : f20 cr = .inl (g 1, 1000, .inr (.inl (va_cpy vb2_ (fun _ => 0) 0 0 0))) := up_ne ef20 (ne_sh e_co e_cr (fun h => by cases h)) e_cr
    have e_co : f20 co = .inr (0, [.ref cr, .int ((nI 0))]) := up_self ef20
    have fr : ∀ b, b ∈ L → b ≠ x → b ≠ Sl → b ≠ so → b ≠ la → b ≠ ba → b ≠ si → b ≠ sw → f20 b = f b := fun b mb nb0 nb1 nb2 nb3 nb4 nb5 nb6 => (up_ne ef20 (fun h => nzco (h ▸ mb)) rfl).trans (fr b mb nb0 nb1 nb2 nb3 nb4 nb5 nb6)
    refine lv_aload_n hx hb dX8_solve_72 rfl (lv_at hl 3 rfl) ?_
    refine q_get hx hb hts in_X8 hown S m_x e_x (C := RX8) (T := TX8) (N := 8) rfl 5 (by decide) rfl (hts (.fieldLink RX8 35 "SieveCabinet" "solver" "LSieveCabinet$Solver;") (by decide +kernel)) dX8_solve_73 ?_
    refine lv_aload hx hb dX8_solve_76 (lv_at hl 0 rfl) ?_
    refine q_vv (As := [.ref sv]) (rest := []) ⟨hx, hb, hml, hown, hts⟩ (c_X7_fill0 l D g m_so e_so ) (cwV 1 hts gX8_solve_X7_fill rfl rfl rfl (by decide +kernel) ⟨Nat.le_of_ble_eq_true rfl, Nat.le_of_ble_eq_true rfl⟩) S m_so e_so (T := TX7) (N := 9) rfl rfl hl.1 rfl (Nat.le_of_ble_eq_true rfl) dX8_solve_78 ⟨Nat.le_of_ble_eq_true rfl, Nat.le_of_ble_eq_true rfl⟩ (fun L21 f22 H locs S w78 => ?_)
    obtain ⟨eLw78, efw78⟩ := w78
    rw [eLw78, efw78] at S
    refine lv_aload_n hx hb dX8_solve_81 rfl (lv_at hl 3 rfl) ?_
    refine lv_dup hx hb dX8_solve_82 rfl ?_
    refine q_get hx hb hts in_X8 hown S m_x e_x (C := RX8) (T := TX8) (N := 8) rfl 7 (by decide) rfl (hts (.fieldLink RX8 84 "SieveCabinet" "made" "I") (by decide +kernel)) dX8_solve_83 ?_
    refine lv_dup_x1 hx hb dX8_solve_86 rfl rfl ?_
    refine lv_iconst (v := 1) hx hb dX8_solve_87 (by decide) ?_
    refine lv_iadd hx hb dX8_solve_88 ?_
    refine lv_topi (fun t_ et_ => ?_)
    obtain rfl : t_ = 1 := et_.trans (by decide)
    refine q_put hx hb hts in_X8 tyX8 tyX8_ok nmX8 hown S m_x e_x (C := RX8) (T := TX8) (N := 8) rfl 7 (by decide) (hts (.fieldLink RX8 84 "SieveCabinet" "made" "I") (by decide +kernel)) rfl rfl rfl (Nat.le_of_ble_eq_true rfl) dX8_solve_89 (fun H locs S => ?_)
    obtain ⟨f24, ef24⟩ : ∃ z_, z_ = va_up f20 x (.inr (6, [.ref wo, .ref Sl, .ref dr, .ref ri, .ref th, .ref so, .ref ch, .int 1])) := ⟨_, rfl⟩
    have S : PS D g (va_A (va_pl L f) sz) s.heap s L7 f24 H locs := by rw [ef24]; exact S
    have e_wo : f24 wo = .inl (g 3, 8, .inr (.inr (.inr (.inr wf)))) := up_ne ef24 (ne_sh e_x e_wo (fun h => by cases h)) e_wo
    have e_Sl : f24 Sl = .inl (g 5, 30, .inr (.inr (.inr (.inr sf1)))) := up_ne ef24 (ne_sh e_x e_Sl (fun h => by cases h)) e_Sl
    have e_so : f24 so = .inr (5, [.ref pa, .ref ta, .ref la, .ref ba, .ref si, .ref tt, .ref tp, .int 0, .int 8]) := up_ne ef24 (ne_sh e_x e_so (by intro h; injection h with h; injection h with h1 h2; first | (cases h1; done) | (cases h2; done) | (injection h2 with h3 h4; cases h4; done))) e_so
    have e_la : f24 la = .inl (g 0, 3774, .inl v1_18_1) := up_ne ef24 (ne_sh e_x e_la (fun h => by cases h)) e_la
    have e_ba : f24 ba = .inl (g 0, 3774, .inl v2_18_1) := up_ne ef24 (ne_sh e_x e_ba (fun h => by cases h)) e_ba
    have e_si : f24 si = .inr (1, [.ref sw, .int ((nI 24))]) := up_ne ef24 (ne_sh e_x e_si (by intro h; injection h with h; injection h with h1 h2; first | (cases h1; done) | (cases h2; done) | (injection h2 with h3 h4; cases h4; done))) e_si
    have e_sw : f24 sw = .inl (g 1, 64, .inr (.inl v3_18_1)) := up_ne ef24 (ne_sh e_x e_sw (fun h => by cases h)) e_sw
    have e_b2_ : f24 b2_ = .inr (0, [.ref rb2_, .int ((nI 0))]) := up_ne ef24 (ne_sh e_x e_b2_ (by intro h; injection h with h; injection h with h1 h2; first | (cases h1; done) | (cases h2; done) | (injection h2 with h3 h4; cases h4; done))) e_b2_
    have e_rb2_ : f24 rb2_ = .inl (g 1, 1000, .inr (.inl vb2_)) := up_ne ef24 (ne_sh e_x e_rb2_ (fun h => by cases h)) e_rb2_
    have e_sv : f24 sv = .inr (4, [.ref ce, .ref co, .null, .int 3, .int 24, .int 0, .int ((sd + 0))]) := up_ne ef24 (fun h => nsv_x h.symm) e_sv
    have e_ce : f24 ce = .inl (g 0, 4096, .inl v1_60_1) := up_ne ef24 (fun h => nce_x h.symm) e_ce
    have e_co : f24 co = .inr (0, [.ref cr, .int ((nI 0))]) := up_ne ef24 (fun h => nco_x h.symm) e_co
    have e_cr : f24 cr = .inl (g 1, 1000, .inr (.inl (va_cpy vb2_ (fun _ => 0) 0 0 0))) := up_ne ef24 (fun h => ncr_x h.symm) e_cr
    have e_x : f24 x = .inr (6, [.ref wo, .ref Sl, .ref dr, .ref ri, .ref th, .ref so, .ref ch, .int 1]) := up_self ef24
    have fr : ∀ b, b ∈ L → b ≠ x → b ≠ Sl → b ≠ so → b ≠ la → b ≠ ba → b ≠ si → b ≠ sw → f24 b = f b := fun b mb nb0 nb1 nb2 nb3 nb4 nb5 nb6 => (up_ne ef24 nb0 rfl).trans (fr b mb nb0 nb1 nb2 nb3 nb4 nb5 nb6)
    exact q_reti (post := fun r L1 f1 => r = (if ¬ w < 0 ∧ ¬ 8 ≤ w then 0 else -1) ∧ (∀ b, b ∈ L → b ∈ L1) ∧ (∀ b, b ∈ L → b ∉ Lx → f1 b = f b)) hx hb hr hlk S dX8_solve_92 (by decide) (by decide) (⟨(if_pos hw2).symm, mono, fun b mb hb => fr b mb (fun h => hb (h ▸ lx_x)) (fun h => hb (h ▸ lx_Sl)) (fun h => hb (h ▸ lx_so)) (fun h => hb (h ▸ lx_la)) (fun h => hb (h ▸ lx_ba)) (fun h => hb (h ▸ lx_si)) (fun h => hb (h ▸ lx_sw))⟩)
  · skip
    rw [if_neg hw2] at exw2
    subst exw2
    refine W.eq (g2 := F0 m 5 ls [.null]) rfl ?_
    refine lv_astore_nN (lv' := [(3, .null), (0, .ref x), (1, .int w), (2, .int sd)]) hx hb dX8_solve_5 rfl hl (by decide) rfl (fun ls hl => ?_)
    refine lv_aload_nN hx hb dX8_solve_6 rfl (lv_at hl 0 rfl) ?_
    refine lv_ifnonnullN hx hb dX8_solve_7 ?_
    refine lv_iconst (v := -1) hx hb dX8_solve_10 (by decide) ?_
    exact q_reti (post := fun r L1 f1 => r = (if ¬ w < 0 ∧ ¬ 8 ≤ w then 0 else -1) ∧ (∀ b, b ∈ L → b ∈ L1) ∧ (∀ b, b ∈ L → b ∉ Lx → f1 b = f b)) hx hb hr hlk S dX8_solve_11 (by decide) (by decide) (⟨(if_neg hw2).symm, mono, fun b mb hb => fr b mb (fun h => hb (h ▸ lx_x)) (fun h => hb (h ▸ lx_Sl)) (fun h => hb (h ▸ lx_so)) (fun h => hb (h ▸ lx_la)) (fun h => hb (h ▸ lx_ba)) (fun h => hb (h ▸ lx_si)) (fun h => hb (h ▸ lx_sw))⟩)

set_option maxHeartbeats 4000000 in
set_option maxRecDepth 100000 in
/-- fewest of a new one -/
theorem c_X8_fewest0 (l : Launch) (D : va_G) (g : Nat → ClassId) {L : List Nat} {f : Nat → va_E} {x wo Sl dr ri th so ch : Nat} {wf : Nat → Option Nat} {Lx : List Nat} {w w2 mo sd : Int32} {rir im rm bo bw : Nat} {vs : Nat → Int64} (m_x : x ∈ L) (e_x : f x = .inr (6, [.ref wo, .ref Sl, .ref dr, .ref ri, .ref th, .ref so, .ref ch, .int 0])) (m_wo : wo ∈ L) (e_wo : f wo = .inl (g 3, 8, .inr (.inr (.inr (.inr wf))))) (m_ri : ri ∈ L) (e_ri : f ri = .inr (0, [.ref rir, .int ((nI 0))])) (m_ch : ch ∈ L) (e_ch : f ch = .inr (2, [.ref im, .ref rm, .ref bo, .int 0, .int 0])) (m_bo : bo ∈ L) (e_bo : f bo = .inr (1, [.ref bw, .int ((nI 0))])) (m_bw : bw ∈ L) (e_bw : f bw = .inl (g 1, 64, .inr (.inl vs))) (hW : ∀ j, j < 8 → ∃ b rb : Nat, ∃ vb : Nat → Int64, wf j = some b ∧ b ∈ L ∧ f b = .inr (0, [.ref rb, .int (nI 0)]) ∧ rb ∈ L ∧ f rb = .inl (g 1, 1000, .inr (.inl vb)) ∧ b ≠ dr ∧ b ≠ ri ∧ b ≠ th) (lx_ri : ri ∈ Lx) (lx_ch : ch ∈ Lx) (lx_bo : bo ∈ Lx) (lx_bw : bw ∈ Lx) : cI l yX8_fewest wsX8_fewest { frames := 3, cells := 0, slots := 0, locals := 71 } D g [.ref x, .int w, .int w2, .int mo, .int sd] L f 0 0 (fun r L1 f1 => r = (if (¬ w < 0 ∧ ¬ 8 ≤ w) ∧ (¬ w2 < 0 ∧ ¬ 8 ≤ w2) ∧ ¬ mo < 8 ∧ mo ≤ 4096 then 129 else -1) ∧ (∀ b, b ∈ L → b ∈ L1) ∧ (∀ b, b ∈ L → b ∉ Lx → f1 b = f b)) := by
  refine cI_of (cc := cX8_fewest) (maxL := 7) (ret := (some .int)) (by decide) rfl (Nat.le_of_ble_eq_true rfl) ?_
  intro sz p e s m below meth c hx hb hr hml hts hown hlk hnm S ls hl
  have hl : lv_has ls 7 [(0, .ref x), (1, .int w), (2, .int w2), (3, .int mo), (4, .int sd)] := hl
  have in_X8 : ∀ w ∈ wsX80, w ∈ wsX8_fewest := by decide +kernel
  have fr : ∀ b, b ∈ L → b ≠ ri → b ≠ ch → b ≠ bo → b ≠ bw → f b = f b := fun _ _ _ _ _ _ => rfl
  have mono : ∀ b, b ∈ L → b ∈ L := fun _ h => h
  refine lv_aload_n hx hb dX8_fewest_0 rfl (lv_at hl 0 rfl) ?_
  refine lv_iload_n hx hb dX8_fewest_1 rfl (lv_at hl 1 rfl) ?_
  refine q_vq (As := [.int w]) (rest := []) ⟨hx, hb, hml, hown, hts⟩ (c_X8_worldAt l D g m_x e_x m_wo e_wo) (cwV 1 hts gX8_fewest_X8_worldAt rfl rfl rfl (by decide +kernel) ⟨Nat.le_of_ble_eq_true rfl, Nat.le_of_ble_eq_true rfl⟩) S m_x e_x (T := TX8) (N := 8) rfl rfl hl.1 rfl (Nat.le_of_ble_eq_true rfl) dX8_fewest_2 ⟨Nat.le_of_ble_eq_true rfl, Nat.le_of_ble_eq_true rfl⟩ (fun r3 L1 f2 H locs S w2 => ?_)
  obtain ⟨exw2, eLw2, efw2⟩ := w2
  rw [eLw2, efw2] at S
  by_cases hw2 : ¬ w < 0 ∧ ¬ 8 ≤ w
  · skip
    obtain ⟨j2, hj2, ej2⟩ := pu_of (n := 8) hw2.1 hw2.2 (by decide)
    obtain ⟨b2_, rb2_, vb2_, ew2, m_b2_, e_b2_, m_rb2_, e_rb2_, n_b2__dr, n_b2__ri, n_b2__th⟩ := hW j2 hj2
    rw [if_pos hw2, ej2, nI_clamp (by omega), ew2] at exw2
    subst exw2
    refine W.eq (g2 := F0 m 5 ls [.ref b2_]) rfl ?_
    refine lv_astore (lv' := [(5, .ref b2_), (0, .ref x), (1, .int w), (2, .int w2), (3, .int mo), (4, .int sd)]) hx hb dX8_fewest_5 hl (by decide) rfl (fun ls hl => ?_)
    refine lv_aload_n hx hb dX8_fewest_7 rfl (lv_at hl 1 rfl) ?_
    refine lv_iload_n hx hb dX8_fewest_8 rfl (lv_at hl 3 rfl) ?_
    refine q_vq (As := [.int w2]) (rest := []) ⟨hx, hb, hml, hown, hts⟩ (c_X8_worldAt l D g m_x e_x m_wo e_wo) (cwV 1 hts gX8_fewest_X8_worldAt rfl rfl rfl (by decide +kernel) ⟨Nat.le_of_ble_eq_true rfl, Nat.le_of_ble_eq_true rfl⟩) S m_x e_x (T := TX8) (N := 8) rfl rfl hl.1 rfl (Nat.le_of_ble_eq_true rfl) dX8_fewest_9 ⟨Nat.le_of_ble_eq_true rfl, Nat.le_of_ble_eq_true rfl⟩ (fun r6 L4 f5 H locs S w9 => ?_)
    obtain ⟨exw9, eLw9, efw9⟩ := w9
    rw [eLw9, efw9] at S
    by_cases hw9 : ¬ w2 < 0 ∧ ¬ 8 ≤ w2
    · skip
      obtain ⟨j9, hj9, ej9⟩ := pu_of (n := 8) hw9.1 hw9.2 (by decide)
      obtain ⟨b9_, rb9_, vb9_, ew9, m_b9_, e_b9_, m_rb9_, e_rb9_, n_b9__dr, n_b9__ri, n_b9__th⟩ := hW j9 hj9
      rw [if_pos hw9, ej9, nI_clamp (by omega), ew9] at exw9
      subst exw9
      refine W.eq (g2 := F0 m 12 ls [.ref b9_]) rfl ?_
      refine lv_astore (lv' := [(6, .ref b9_), (5, .ref b2_), (0, .ref x), (1, .int w), (2, .int w2), (3, .int mo), (4, .int sd)]) hx hb dX8_fewest_12 hl (by decide) rfl (fun ls hl => ?_)
      refine lv_aload hx hb dX8_fewest_14 (lv_at hl 1 rfl) ?_
      refine lv_ifnull hx hb dX8_fewest_16 ?_
      refine lv_aload hx hb dX8_fewest_19 (lv_at hl 0 rfl) ?_
      refine lv_ifnull hx hb dX8_fewest_21 ?_
      refine lv_iload_n hx hb dX8_fewest_24 rfl (lv_at hl 5 rfl) ?_
      refine lv_bipush (v := 8) hx hb dX8_fewest_25 (by decide) ?_
      refine lv_icmp_lt (tgt := 37) hx hb dX8_fewest_27 (by decide) (fun b27 => ?_) (fun b27 => ?_)
      · skip
        refine lv_iconst (v := -1) hx hb dX8_fewest_37 (by decide) ?_
        exact q_reti (post := fun r L1 f1 => r = (if (¬ w < 0 ∧ ¬ 8 ≤ w) ∧ (¬ w2 < 0 ∧ ¬ 8 ≤ w2) ∧ ¬ mo < 8 ∧ mo ≤ 4096 then 129 else -1) ∧ (∀ b, b ∈ L → b ∈ L1) ∧ (∀ b, b ∈ L → b ∉ Lx → f1 b = f b)) hx hb hr hlk S dX8_fewest_38 (by decide) (by decide) (⟨(if_neg (fun h => h.2.2.1 b27)).symm, mono, fun b mb hb => fr b mb (fun h => hb (h ▸ lx_ri)) (fun h => hb (h ▸ lx_ch)) (fun h => hb (h ▸ lx_bo)) (fun h => hb (h ▸ lx_bw))⟩)
      · skip
        refine lv_iload_n hx hb dX8_fewest_30 rfl (lv_at hl 5 rfl) ?_
        refine lv_sipush (v := 4096) hx hb dX8_fewest_31 (by decide) ?_
        refine lv_icmp_le (tgt := 39) hx hb dX8_fewest_34 (by decide) (fun b34 => ?_) (fun b34 => ?_)
        · skip
          refine lv_aload_n hx hb dX8_fewest_39 rfl (lv_at hl 2 rfl) ?_
          refine q_get hx hb hts in_X8 hown S m_x e_x (C := RX8) (T := TX8) (N := 8) rfl 3 (by decide) rfl (hts (.fieldLink RX8 26 "SieveCabinet" "rivals" "LSieveCabinet$Bag;") (by decide +kernel)) dX8_fewest_40 ?_
          refine lv_aload hx hb dX8_fewest_43 (lv_at hl 0 rfl) ?_
          refine lv_aload hx hb dX8_fewest_45 (lv_at hl 1 rfl) ?_
          refine q_vv (As := [.ref b9_, .ref b2_]) (rest := []) ⟨hx, hb, hml, hown, hts⟩ (c_X0_becomeWithout0 l D g m_ri e_ri m_b9_ e_b9_ (n_b9__ri)) (cwV 2 hts gX8_fewest_X0_becomeWithout rfl rfl rfl (by decide +kernel) ⟨Nat.le_of_ble_eq_true rfl, Nat.le_of_ble_eq_true rfl⟩) S m_ri e_ri (T := TX0) (N := 2) rfl rfl hl.1 rfl (Nat.le_of_ble_eq_true rfl) dX8_fewest_47 ⟨Nat.le_of_ble_eq_true rfl, Nat.le_of_ble_eq_true rfl⟩ (fun L7 f8 H locs S w47 => ?_)
          obtain ⟨eLw47, efw47⟩ := w47
          rw [eLw47, efw47] at S
          obtain ⟨f10, ef10⟩ : ∃ z_, z_ = va_up f ri (.inr (0, [.ref rir, .int 0])) := ⟨_, rfl⟩
          have S : PS D g (va_A (va_pl L f) sz) s.heap s L f10 H locs := by rw [ef10]; exact S
          have e_x : f10 x = .inr (6, [.ref wo, .ref Sl, .ref dr, .ref ri, .ref th, .ref so, .ref ch, .int 0]) := up_ne ef10 (ne_sh e_ri e_x (by intro h; injection h with h; injection h with h1 h2; first | (cases h1; done) | (cases h2; done) | (injection h2 with h3 h4; cases h4; done))) e_x
          have e_wo : f10 wo = .inl (g 3, 8, .inr (.inr (.inr (.inr wf)))) := up_ne ef10 (ne_sh e_ri e_wo (fun h => by cases h)) e_wo
          have e_ch : f10 ch = .inr (2, [.ref im, .ref rm, .ref bo, .int 0, .int 0]) := up_ne ef10 (ne_sh e_ri e_ch (by intro h; injection h with h; injection h with h1 h2; first | (cases h1; done) | (cases h2; done) | (injection h2 with h3 h4; cases h4; done))) e_ch
          have e_bo : f10 bo = .inr (1, [.ref bw, .int ((nI 0))]) := up_ne ef10 (ne_sh e_ri e_bo (by intro h; injection h with h; injection h with h1 h2; first | (cases h1; done) | (cases h2; done) | (injection h2 with h3 h4; cases h4; done))) e_bo
          have e_bw : f10 bw = .inl (g 1, 64, .inr (.inl vs)) := up_ne ef10 (ne_sh e_ri e_bw (fun h => by cases h)) e_bw
          have e_b2_ : f10 b2_ = .inr (0, [.ref rb2_, .int ((nI 0))]) := up_ne ef10 (n_b2__ri) e_b2_
          have e_rb2_ : f10 rb2_ = .inl (g 1, 1000, .inr (.inl vb2_)) := up_ne ef10 (ne_sh e_ri e_rb2_ (fun h => by cases h)) e_rb2_
          have e_b9_ : f10 b9_ = .inr (0, [.ref rb9_, .int ((nI 0))]) := up_ne ef10 (n_b9__ri) e_b9_
          have e_rb9_ : f10 rb9_ = .inl (g 1, 1000, .inr (.inl vb9_)) := up_ne ef10 (ne_sh e_ri e_rb9_ (fun h => by cases h)) e_rb9_
          have e_ri : f10 ri = .inr (0, [.ref rir, .int 0]) := up_self ef10
          have fr : ∀ b, b ∈ L → b ≠ ri → b ≠ ch → b ≠ bo → b ≠ bw → f10 b = f b := fun b mb nb0 nb1 nb2 nb3 => (up_ne ef10 nb0 rfl).trans (fr b mb nb0 nb1 nb2 nb3)
          refine lv_aload_n hx hb dX8_fewest_50 rfl (lv_at hl 2 rfl) ?_
          refine q_get hx hb hts in_X8 hown S m_x e_x (C := RX8) (T := TX8) (N := 8) rfl 6 (by decide) rfl (hts (.fieldLink RX8 42 "SieveCabinet" "chooser" "LSieveCabinet$Chooser;") (by decide +kernel)) dX8_fewest_51 ?_
          refine lv_aload hx hb dX8_fewest_54 (lv_at hl 1 rfl) ?_
          refine lv_aload_n hx hb dX8_fewest_56 rfl (lv_at hl 2 rfl) ?_
          refine q_get hx hb hts in_X8 hown S m_x e_x (C := RX8) (T := TX8) (N := 8) rfl 3 (by decide) rfl (hts (.fieldLink RX8 26 "SieveCabinet" "rivals" "LSieveCabinet$Bag;") (by decide +kernel)) dX8_fewest_57 ?_
          refine lv_iload hx hb dX8_fewest_60 (lv_at hl 6 rfl) ?_
          refine q_vv (As := [.ref b2_, .ref ri, .int sd]) (rest := []) ⟨hx, hb, hml, hown, hts⟩ (c_X2_begin0 l D g  m_ch e_ch m_b2_ e_b2_ m_ri e_ri ) (cwV 3 hts gX8_fewest_X2_begin rfl rfl rfl (by decide +kernel) ⟨Nat.le_of_ble_eq_true rfl, Nat.le_of_ble_eq_true rfl⟩) S m_ch e_ch (T := TX2) (N := 5) rfl rfl hl.1 rfl (Nat.le_of_ble_eq_true rfl) dX8_fewest_62 ⟨Nat.le_of_ble_eq_true rfl, Nat.le_of_ble_eq_true rfl⟩ (fun L11 f12 H locs S w62 => ?_)
          obtain ⟨eLw62, fvw62, E_ch⟩ := w62
          rw [eLw62] at S
          have e_x : f12 x = .inr (6, [.ref wo, .ref Sl, .ref dr, .ref ri, .ref th, .ref so, .ref ch, .int 0]) := (fvw62 x m_x (ne_sh e_ch e_x (by intro h; injection h with h; injection h with h1 h2; first | (cases h1; done) | (cases h2; done) | (injection h2 with h3 h4; cases h4; done)))).trans e_x
          have e_wo : f12 wo = .inl (g 3, 8, .inr (.inr (.inr (.inr wf)))) := (fvw62 wo m_wo (ne_sh e_ch e_wo (fun h => by cases h))).trans e_wo
          have e_ri : f12 ri = .inr (0, [.ref rir, .int 0]) := (fvw62 ri m_ri (ne_sh e_ch e_ri (by intro h; injection h with h; injection h with h1 h2; first | (cases h1; done) | (cases h2; done) | (injection h2 with h3 h4; cases h4; done)))).trans e_ri
          have e_bo : f12 bo = .inr (1, [.ref bw, .int ((nI 0))]) := (fvw62 bo m_bo (ne_sh e_ch e_bo (by intro h; injection h with h; injection h with h1 h2; first | (cases h1; done) | (cases h2; done) | (injection h2 with h3 h4; cases h4; done)))).trans e_bo
          have e_bw : f12 bw = .inl (g 1, 64, .inr (.inl vs)) := (fvw62 bw m_bw (ne_sh e_ch e_bw (fun h => by cases h))).trans e_bw
          have e_b2_ : f12 b2_ = .inr (0, [.ref rb2_, .int ((nI 0))]) := (fvw62 b2_ m_b2_ (ne_sh e_ch e_b2_ (by intro h; injection h with h; injection h with h1 h2; first | (cases h1; done) | (cases h2; done) | (injection h2 with h3 h4; cases h4; done)))).trans e_b2_
          have e_rb2_ : f12 rb2_ = .inl (g 1, 1000, .inr (.inl vb2_)) := (fvw62 rb2_ m_rb2_ (ne_sh e_ch e_rb2_ (fun h => by cases h))).trans e_rb2_
          have e_b9_ : f12 b9_ = .inr (0, [.ref rb9_, .int ((nI 0))]) := (fvw62 b9_ m_b9_ (ne_sh e_ch e_b9_ (by intro h; injection h with h; injection h with h1 h2; first | (cases h1; done) | (cases h2; done) | (injection h2 with h3 h4; cases h4; done)))).trans e_b9_
          have e_rb9_ : f12 rb9_ = .inl (g 1, 1000, .inr (.inl vb9_)) := (fvw62 rb9_ m_rb9_ (ne_sh e_ch e_rb9_ (fun h => by cases h))).trans e_rb9_
          have e_ch := E_ch
          have fr : ∀ b, b ∈ L → b ≠ ri → b ≠ ch → b ≠ bo → b ≠ bw → f12 b = f b := fun b mb nb0 nb1 nb2 nb3 => (fvw62 b (mono b mb) nb1).trans (fr b mb nb0 nb1 nb2 nb3)
          refine lv_aload_n hx hb dX8_fewest_65 rfl (lv_at hl 2 rfl) ?_
          refine q_get hx hb hts in_X8 hown S m_x e_x (C := RX8) (T := TX8) (N := 8) rfl 6 (by decide) rfl (hts (.fieldLink RX8 42 "SieveCabinet" "chooser" "LSieveCabinet$Chooser;") (by decide +kernel)) dX8_fewest_66 ?_
          refine lv_iload_n hx hb dX8_fewest_69 rfl (lv_at hl 5 rfl) ?_
          refine q_vi (As := [.int mo]) (rest := []) ⟨hx, hb, hml, hown, hts⟩ (c_X2_choose0 l D g  m_ch e_ch m_bo e_bo m_bw e_bw b27) (cwV 1 hts gX8_fewest_X2_choose rfl rfl rfl (by decide +kernel) ⟨Nat.le_of_ble_eq_true rfl, Nat.le_of_ble_eq_true rfl⟩) S m_ch e_ch (T := TX2) (N := 5) rfl rfl hl.1 rfl (Nat.le_of_ble_eq_true rfl) dX8_fewest_70 ⟨Nat.le_of_ble_eq_true rfl, Nat.le_of_ble_eq_true rfl⟩ (fun r16 L14 f15 H locs S w70 => ?_)
          obtain ⟨exw70, eLw70, fvw70, v1_70_1, E_bo, E_bw⟩ := w70
          rw [eLw70] at S
          have e_x : f15 x = .inr (6, [.ref wo, .ref Sl, .ref dr, .ref ri, .ref th, .ref so, .ref ch, .int 0]) := (fvw70 x m_x (ne_sh e_bo e_x (by intro h; injection h with h; injection h with h1 h2; first | (cases h1; done) | (cases h2; done) | (injection h2 with h3 h4; cases h4; done))) (ne_sh e_bw e_x (fun h => by cases h))).trans e_x
          have e_wo : f15 wo = .inl (g 3, 8, .inr (.inr (.inr (.inr wf)))) := (fvw70 wo m_wo (ne_sh e_bo e_wo (fun h => by cases h)) (ne_sh e_bw e_wo (by intro h; injection h with h; injection h with h1 h2; first | (cases h1; done) | (cases h2; done) | (injection h2 with h3 h4; cases h4; done)))).trans e_wo
          have e_ri : f15 ri = .inr (0, [.ref rir, .int 0]) := (fvw70 ri m_ri (ne_sh e_bo e_ri (by intro h; injection h with h; injection h with h1 h2; first | (cases h1; done) | (cases h2; done) | (injection h2 with h3 h4; cases h4; done))) (ne_sh e_bw e_ri (fun h => by cases h))).trans e_ri
          have e_ch : f15 ch = .inr (2, [.ref im, .ref rm, .ref bo, .int 0, .int 0]) := (fvw70 ch m_ch (ne_sh e_bo e_ch (by intro h; injection h with h; injection h with h1 h2; first | (cases h1; done) | (cases h2; done) | (injection h2 with h3 h4; cases h4; done))) (ne_sh e_bw e_ch (fun h => by cases h))).trans e_ch
          have e_b2_ : f15 b2_ = .inr (0, [.ref rb2_, .int ((nI 0))]) := (fvw70 b2_ m_b2_ (ne_sh e_bo e_b2_ (by intro h; injection h with h; injection h with h1 h2; first | (cases h1; done) | (cases h2; done) | (injection h2 with h3 h4; cases h4; done))) (ne_sh e_bw e_b2_ (fun h => by cases h))).trans e_b2_
          have e_rb2_ : f15 rb2_ = .inl (g 1, 1000, .inr (.inl vb2_)) := (fvw70 rb2_ m_rb2_ (ne_sh e_bo e_rb2_ (fun h => by cases h)) (ne_sh e_bw e_rb2_ (by intro h; injection h with h; injection h with h1 h2; injection h2 with h3 h4; exact absurd h3 (by decide)))).trans e_rb2_
          have e_b9_ : f15 b9_ = .inr (0, [.ref rb9_, .int ((nI 0))]) := (fvw70 b9_ m_b9_ (ne_sh e_bo e_b9_ (by intro h; injection h with h; injection h with h1 h2; first | (cases h1; done) | (cases h2; done) | (injection h2 with h3 h4; cases h4; done))) (ne_sh e_bw e_b9_ (fun h => by cases h))).trans e_b9_
          have e_rb9_ : f15 rb9_ = .inl (g 1, 1000, .inr (.inl vb9_)) := (fvw70 rb9_ m_rb9_ (ne_sh e_bo e_rb9_ (fun h => by cases h)) (ne_sh e_bw e_rb9_ (by intro h; injection h with h; injection h with h1 h2; injection h2 with h3 h4; exact absurd h3 (by decide)))).trans e_rb9_
          have e_bo := E_bo
          have e_bw := E_bw
          have fr : ∀ b, b ∈ L → b ≠ ri → b ≠ ch → b ≠ bo → b ≠ bw → f15 b = f b := fun b mb nb0 nb1 nb2 nb3 => (fvw70 b (mono b mb) nb2 nb3).trans (fr b mb nb0 nb1 nb2 nb3)
          subst exw70
          exact q_reti (post := fun r L1 f1 => r = (if (¬ w < 0 ∧ ¬ 8 ≤ w) ∧ (¬ w2 < 0 ∧ ¬ 8 ≤ w2) ∧ ¬ mo < 8 ∧ mo ≤ 4096 then 129 else -1) ∧ (∀ b, b ∈ L → b ∈ L1) ∧ (∀ b, b ∈ L → b ∉ Lx → f1 b = f b)) hx hb hr hlk S dX8_fewest_73 (by decide) (by decide) (⟨(if_pos ⟨hw2, hw9, b27, b34⟩).symm, mono, fun b mb hb => fr b mb (fun h => hb (h ▸ lx_ri)) (fun h => hb (h ▸ lx_ch)) (fun h => hb (h ▸ lx_bo)) (fun h => hb (h ▸ lx_bw))⟩)
        · skip
          refine lv_iconst (v := -1) hx hb dX8_fewest_37 (by decide) ?_
          exact q_reti (post := fun r L1 f1 => r = (if (¬ w < 0 ∧ ¬ 8 ≤ w) ∧ (¬ w2 < 0 ∧ ¬ 8 ≤ w2) ∧ ¬ mo < 8 ∧ mo ≤ 4096 then 129 else -1) ∧ (∀ b, b ∈ L → b ∈ L1) ∧ (∀ b, b ∈ L → b ∉ Lx → f1 b = f b)) hx hb hr hlk S dX8_fewest_38 (by decide) (by decide) (⟨(if_neg (fun h => b34 h.2.2.2)).symm, mono, fun b mb hb => fr b mb (fun h => hb (h ▸ lx_ri)) (fun h => hb (h ▸ lx_ch)) (fun h => hb (h ▸ lx_bo)) (fun h => hb (h ▸ lx_bw))⟩)
    · skip
      rw [if_neg hw9] at exw9
      subst exw9
      refine W.eq (g2 := F0 m 12 ls [.null]) rfl ?_
      refine lv_astoreN (lv' := [(6, .null), (5, .ref b2_), (0, .ref x), (1, .int w), (2, .int w2), (3, .int mo), (4, .int sd)]) hx hb dX8_fewest_12 hl (by decide) rfl (fun ls hl => ?_)
      refine lv_aload hx hb dX8_fewest_14 (lv_at hl 1 rfl) ?_
      refine lv_ifnull hx hb dX8_fewest_16 ?_
      refine lv_aloadN hx hb dX8_fewest_19 (lv_at hl 0 rfl) ?_
      refine lv_ifnullN (tgt := 37) hx hb dX8_fewest_21 (by decide) ?_
      refine lv_iconst (v := -1) hx hb dX8_fewest_37 (by decide) ?_
      exact q_reti (post := fun r L1 f1 => r = (if (¬ w < 0 ∧ ¬ 8 ≤ w) ∧ (¬ w2 < 0 ∧ ¬ 8 ≤ w2) ∧ ¬ mo < 8 ∧ mo ≤ 4096 then 129 else -1) ∧ (∀ b, b ∈ L → b ∈ L1) ∧ (∀ b, b ∈ L → b ∉ Lx → f1 b = f b)) hx hb hr hlk S dX8_fewest_38 (by decide) (by decide) (⟨(if_neg (fun h => hw9 h.2.1)).symm, mono, fun b mb hb => fr b mb (fun h => hb (h ▸ lx_ri)) (fun h => hb (h ▸ lx_ch)) (fun h => hb (h ▸ lx_bo)) (fun h => hb (h ▸ lx_bw))⟩)
  · skip
    rw [if_neg hw2] at exw2
    subst exw2
    refine W.eq (g2 := F0 m 5 ls [.null]) rfl ?_
    refine lv_astoreN (lv' := [(5, .null), (0, .ref x), (1, .int w), (2, .int w2), (3, .int mo), (4, .int sd)]) hx hb dX8_fewest_5 hl (by decide) rfl (fun ls hl => ?_)
    refine lv_aload_n hx hb dX8_fewest_7 rfl (lv_at hl 1 rfl) ?_
    refine lv_iload_n hx hb dX8_fewest_8 rfl (lv_at hl 3 rfl) ?_
    refine q_vq (As := [.int w2]) (rest := []) ⟨hx, hb, hml, hown, hts⟩ (c_X8_worldAt l D g m_x e_x m_wo e_wo) (cwV 1 hts gX8_fewest_X8_worldAt rfl rfl rfl (by decide +kernel) ⟨Nat.le_of_ble_eq_true rfl, Nat.le_of_ble_eq_true rfl⟩) S m_x e_x (T := TX8) (N := 8) rfl rfl hl.1 rfl (Nat.le_of_ble_eq_true rfl) dX8_fewest_9 ⟨Nat.le_of_ble_eq_true rfl, Nat.le_of_ble_eq_true rfl⟩ (fun r6 L4 f5 H locs S w9 => ?_)
    obtain ⟨exw9, eLw9, efw9⟩ := w9
    rw [eLw9, efw9] at S
    by_cases hw9 : ¬ w2 < 0 ∧ ¬ 8 ≤ w2
    · skip
      obtain ⟨j9, hj9, ej9⟩ := pu_of (n := 8) hw9.1 hw9.2 (by decide)
      obtain ⟨b9_, rb9_, vb9_, ew9, m_b9_, e_b9_, m_rb9_, e_rb9_, n_b9__dr, n_b9__ri, n_b9__th⟩ := hW j9 hj9
      rw [if_pos hw9, ej9, nI_clamp (by omega), ew9] at exw9
      subst exw9
      refine W.eq (g2 := F0 m 12 ls [.ref b9_]) rfl ?_
      refine lv_astore (lv' := [(6, .ref b9_), (5, .null), (0, .ref x), (1, .int w), (2, .int w2), (3, .int mo), (4, .int sd)]) hx hb dX8_fewest_12 hl (by decide) rfl (fun ls hl => ?_)
      refine lv_aloadN hx hb dX8_fewest_14 (lv_at hl 1 rfl) ?_
      refine lv_ifnullN (tgt := 37) hx hb dX8_fewest_16 (by decide) ?_
      refine lv_iconst (v := -1) hx hb dX8_fewest_37 (by decide) ?_
      exact q_reti (post := fun r L1 f1 => r = (if (¬ w < 0 ∧ ¬ 8 ≤ w) ∧ (¬ w2 < 0 ∧ ¬ 8 ≤ w2) ∧ ¬ mo < 8 ∧ mo ≤ 4096 then 129 else -1) ∧ (∀ b, b ∈ L → b ∈ L1) ∧ (∀ b, b ∈ L → b ∉ Lx → f1 b = f b)) hx hb hr hlk S dX8_fewest_38 (by decide) (by decide) (⟨(if_neg (fun h => hw2 h.1)).symm, mono, fun b mb hb => fr b mb (fun h => hb (h ▸ lx_ri)) (fun h => hb (h ▸ lx_ch)) (fun h => hb (h ▸ lx_bo)) (fun h => hb (h ▸ lx_bw))⟩)
    · skip
      rw [if_neg hw9] at exw9
      subst exw9
      refine W.eq (g2 := F0 m 12 ls [.null]) rfl ?_
      refine lv_astoreN (lv' := [(6, .null), (5, .null), (0, .ref x), (1, .int w), (2, .int w2), (3, .int mo), (4, .int sd)]) hx hb dX8_fewest_12 hl (by decide) rfl (fun ls hl => ?_)
      refine lv_aloadN hx hb dX8_fewest_14 (lv_at hl 1 rfl) ?_
      refine lv_ifnullN (tgt := 37) hx hb dX8_fewest_16 (by decide) ?_
      refine lv_iconst (v := -1) hx hb dX8_fewest_37 (by decide) ?_
      exact q_reti (post := fun r L1 f1 => r = (if (¬ w < 0 ∧ ¬ 8 ≤ w) ∧ (¬ w2 < 0 ∧ ¬ 8 ≤ w2) ∧ ¬ mo < 8 ∧ mo ≤ 4096 then 129 else -1) ∧ (∀ b, b ∈ L → b ∈ L1) ∧ (∀ b, b ∈ L → b ∉ Lx → f1 b = f b)) hx hb hr hlk S dX8_fewest_38 (by decide) (by decide) (⟨(if_neg (fun h => hw2 h.1)).symm, mono, fun b mb hb => fr b mb (fun h => hb (h ▸ lx_ri)) (fun h => hb (h ▸ lx_ch)) (fun h => hb (h ▸ lx_bo)) (fun h => hb (h ▸ lx_bw))⟩)
