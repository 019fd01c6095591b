set_option maxHeartbeats 4000000 in
set_option maxRecDepth 100000 in
/-- Layers.sizeFor 0 -/
theorem c_X3_sizeFor0 (l : Launch) (D : va_G) (g : Nat → ClassId) {L : List Nat} {f : Nat → va_E}    : cI l yX3_sizeFor wsX3_sizeFor { frames := 0, cells := 0, slots := 0, locals := 0 } D g [.int 0] L f 0 0 (fun x L1 f1 => x = 8 ∧ L1 = L ∧ f1 = f) := by
  refine cI_of (cc := cX3_sizeFor) (maxL := 2) (ret := (some .int)) (by decide) rfl (Nat.le_of_ble_eq_true rfl) ?_
  intro sz p e s m below meth c hx hb hr hml hts hown hlk hnm S ls hl
  have hl : lv_has ls 2 [(0, .int 0)] := hl
  refine lv_bipush (v := 8) hx hb dX3_sizeFor_0 (by decide) ?_
  refine lv_istore_n (lv' := [(1, .int 8), (0, .int 0)]) hx hb dX3_sizeFor_2 rfl hl (by decide) rfl (fun ls hl => ?_)
  refine lv_iload_n hx hb dX3_sizeFor_3 rfl (lv_at hl 0 rfl) ?_
  refine lv_sipush (v := 4096) hx hb dX3_sizeFor_4 (by decide) ?_
  refine lv_icmp_ge (tgt := 25) hx hb dX3_sizeFor_7 (by decide) (fun b7 => absurd b7 (by decide)) (fun b7 => ?_)
  refine lv_iload_n hx hb dX3_sizeFor_10 rfl (lv_at hl 0 rfl) ?_
  refine lv_bipush (v := 8) hx hb dX3_sizeFor_11 (by decide) ?_
  refine lv_iload_n hx hb dX3_sizeFor_13 rfl (lv_at hl 1 rfl) ?_
  refine lv_imul hx hb dX3_sizeFor_14 ?_
  refine lv_topi (fun t_ et_ => ?_)
  obtain rfl : t_ = 0 := et_.trans (by decide)
  refine lv_icmp_ge (tgt := 25) hx hb dX3_sizeFor_15 (by decide) (fun b15 => ?_) (fun b15 => absurd (by decide) b15)
  refine lv_iload_n hx hb dX3_sizeFor_25 rfl (lv_at hl 0 rfl) ?_
  exact q_reti (post := fun x L1 f1 => x = 8 ∧ L1 = L ∧ f1 = f) hx hb hr hlk S dX3_sizeFor_26 (by decide) (by decide) (⟨rfl, rfl, rfl⟩)

set_option maxHeartbeats 4000000 in
set_option maxRecDepth 100000 in
/-- Layers.count -/
theorem c_X3_count (l : Launch) (D : va_G) (g : Nat → ClassId) {L : List Nat} {f : Nat → va_E} {ly ro ca re : Nat}  {cn sd0 : Int32}   (m_ly : ly ∈ L) (e_ly : f ly = .inr (3, [.ref ro, .ref ca, .ref re, .int cn, .int sd0]))  : cI l yX3_count wsX3_count { frames := 0, cells := 0, slots := 0, locals := 0 } D g [.ref ly] L f 0 0 (fun x L1 f1 => x = cn ∧ L1 = L ∧ f1 = f) := by
  refine cI_of (cc := cX3_count) (maxL := 1) (ret := (some .int)) (by decide) rfl (Nat.le_of_ble_eq_true rfl) ?_
  intro sz p e s m below meth c hx hb hr hml hts hown hlk hnm S ls hl
  have hl : lv_has ls 1 [(0, .ref ly)] := hl
  have in_X3 : ∀ w ∈ wsX30, w ∈ wsX3_count := by decide +kernel
  refine lv_aload_n hx hb dX3_count_0 rfl (lv_at hl 0 rfl) ?_
  refine q_get hx hb hts in_X3 hown S m_ly e_ly (C := RX3) (T := TX3) (N := 5) rfl 3 (by decide) rfl (hts (.fieldLink RX3 29 "SieveCabinet$Layers" "count" "I") (by decide +kernel)) dX3_count_1 ?_
  exact q_reti (post := fun x L1 f1 => x = cn ∧ L1 = L ∧ f1 = f) hx hb hr hlk S dX3_count_4 (by decide) (by decide) (⟨rfl, rfl, rfl⟩)

set_option maxHeartbeats 4000000 in
set_option maxRecDepth 100000 in
/-- Layers.addLayer 0 of nothing -/
theorem c_X3_addLayer0 (l : Launch) (D : va_G) (g : Nat → ClassId) {L : List Nat} {f : Nat → va_E} {ly ro ca re r0 rw b0 : Nat} {rf : Nat → Option Nat} {cn sd0 : Int32} {vc : Nat → Int32} {vr : Nat → Int64} {o1 q1 : Nat}  (m_ly : ly ∈ L) (e_ly : f ly = .inr (3, [.ref ro, .ref ca, .ref re, .int cn, .int sd0])) (m_ro : ro ∈ L) (e_ro : f ro = .inl (g 4, 20, .inr (.inr (.inr (.inr rf))))) (m_r0 : r0 ∈ L) (e_r0 : f r0 = .inr (1, [.ref rw, .int ((nI b0))])) (m_rw : rw ∈ L) (e_rw : f rw = .inl (g 1, 64, .inr (.inl vr))) (m_ca : ca ∈ L) (e_ca : f ca = .inl (g 0, 20, .inl vc)) (m_o1 : o1 ∈ L) (e_o1 : f o1 = .inr (0, [.ref q1, .int ((nI 0))])) (hr0 : rf 0 = some r0) : cV l yX3_addLayer wsX3_addLayer { frames := 2, cells := 0, slots := 0, locals := 45 } D g [.ref ly, .int 0, .ref o1] L f 0 0 (fun L1 f1 => L1 = L ∧ (∀ b, b ∈ L → b ≠ ly → b ≠ r0 → b ≠ rw → b ≠ ca → f1 b = f b) ∧ ∃ v1 : Nat → Int64, ∃ v2 : Nat → Int32, f1 ly = .inr (3, [.ref ro, .ref ca, .ref re, .int 1, .int sd0]) ∧ f1 r0 = .inr (1, [.ref rw, .int ((nI 8))]) ∧ f1 rw = .inl (g 1, 64, .inr (.inl v1)) ∧ f1 ca = .inl (g 0, 20, .inl v2)) := by
  refine cV_of (cc := cX3_addLayer) (maxL := 4) (ret := none) (by decide) rfl (Nat.le_of_ble_eq_true rfl) ?_
  intro sz p e s m below meth c hx hb hr hml hts hown hlk hnm S ls hl
  have hl : lv_has ls 4 [(0, .ref ly), (1, .int 0), (2, .ref o1)] := hl
  have in_X3 : ∀ w ∈ wsX30, w ∈ wsX3_addLayer := by decide +kernel
  have fr : ∀ b, b ∈ L → b ≠ ly → b ≠ r0 → b ≠ rw → b ≠ ca → f b = f b := fun _ _ _ _ _ _ => rfl
  have mono : ∀ b, b ∈ L → b ∈ L := fun _ h => h
  refine lv_aload_n hx hb dX3_addLayer_0 rfl (lv_at hl 0 rfl) ?_
  refine q_get hx hb hts in_X3 hown S m_ly e_ly (C := RX3) (T := TX3) (N := 5) rfl 0 (by decide) rfl (hts (.fieldLink RX3 13 "SieveCabinet$Layers" "rows" "[LSieveCabinet$BitRow;") (by decide +kernel)) dX3_addLayer_1 ?_
  refine lv_iload_n hx hb dX3_addLayer_4 rfl (lv_at hl 1 rfl) ?_
  refine q_ald hx hb S m_ro 4 rfl e_ro (pu_in0 (by decide) (by decide)) dX3_addLayer_5 ?_
  rw [show rf (0 : Int32).toNatClampNeg = some r0 from hr0]
  refine W.eq (g2 := F0 m 6 ls [.ref r0]) rfl ?_
  refine lv_aload_n hx hb dX3_addLayer_6 rfl (lv_at hl 2 rfl) ?_
  refine q_vi (As := []) (rest := [.ref r0]) ⟨hx, hb, hml, hown, hts⟩ (c_X0_count l D g m_o1 e_o1) (cwV 0 hts gX3_addLayer_X0_count rfl rfl rfl (by decide +kernel) ⟨Nat.le_of_ble_eq_true rfl, Nat.le_of_ble_eq_true rfl⟩) S m_o1 e_o1 (T := TX0) (N := 2) rfl rfl hl.1 rfl (Nat.le_of_ble_eq_true rfl) dX3_addLayer_7 ⟨Nat.le_of_ble_eq_true rfl, Nat.le_of_ble_eq_true rfl⟩ (fun r3 L1 f2 H locs S w7 => ?_)
  obtain ⟨exw7, eLw7, efw7⟩ := w7
  rw [eLw7, efw7] at S
  subst exw7
  refine lv_topi (fun t_ et_ => ?_)
  obtain rfl : t_ = 0 := et_.trans (by decide)
  refine q_si (As := [.int 0]) (rest := [.ref r0]) ⟨hx, hb, hml, hown, hts⟩ (c_X3_sizeFor0 l D g  ) (va_cwS 1 hts gX3_addLayer_X3_sizeFor rfl rfl rfl (by decide +kernel) ⟨Nat.le_of_ble_eq_true rfl, Nat.le_of_ble_eq_true rfl⟩) S rfl hl.1 rfl (Nat.le_of_ble_eq_true rfl) dX3_addLayer_10 ⟨Nat.le_of_ble_eq_true rfl, Nat.le_of_ble_eq_true rfl⟩ (fun r6 L4 f5 H locs S w10 => ?_)
  obtain ⟨exw10, eLw10, efw10⟩ := w10
  rw [eLw10, efw10] at S
  subst exw10
  refine q_vv (As := [.int 8]) (rest := []) ⟨hx, hb, hml, hown, hts⟩ (c_X1_begin l D g (b1 := 8) m_r0 e_r0 m_rw e_rw (by decide)) (cwV 1 hts gX3_addLayer_X1_begin rfl rfl rfl (by decide +kernel) ⟨Nat.le_of_ble_eq_true rfl, Nat.le_of_ble_eq_true rfl⟩) S m_r0 e_r0 (T := TX1) (N := 2) rfl rfl hl.1 rfl (Nat.le_of_ble_eq_true rfl) dX3_addLayer_13 ⟨Nat.le_of_ble_eq_true rfl, Nat.le_of_ble_eq_true rfl⟩ (fun L7 f8 H locs S w13 => ?_)
  obtain ⟨eLw13, fvw13, v1_13_1, E_r0, E_rw⟩ := w13
  rw [eLw13] at S
  have e_ly : f8 ly = .inr (3, [.ref ro, .ref ca, .ref re, .int cn, .int sd0]) := (fvw13 ly m_ly (ne_sh e_r0 e_ly (by intro h; injection h with h; injection h with h1 h2; first | (cases h1; done) | (cases h2; done) | (injection h2 with h3 h4; cases h4; done))) (ne_sh e_rw e_ly (fun h => by cases h))).trans e_ly
  have e_ro : f8 ro = .inl (g 4, 20, .inr (.inr (.inr (.inr rf)))) := (fvw13 ro m_ro (ne_sh e_r0 e_ro (fun h => by cases h)) (ne_sh e_rw e_ro (by intro h; injection h with h; injection h with h1 h2; first | (cases h1; done) | (cases h2; done) | (injection h2 with h3 h4; cases h4; done)))).trans e_ro
  have e_ca : f8 ca = .inl (g 0, 20, .inl vc) := (fvw13 ca m_ca (ne_sh e_r0 e_ca (fun h => by cases h)) (ne_sh e_rw e_ca (by intro h; injection h with h; injection h with h1 h2; first | (cases h1; done) | (cases h2; done) | (injection h2 with h3 h4; cases h4; done)))).trans e_ca
  have e_o1 : f8 o1 = .inr (0, [.ref q1, .int ((nI 0))]) := (fvw13 o1 m_o1 (ne_sh e_r0 e_o1 (by intro h; injection h with h; injection h with h1 h2; first | (cases h1; done) | (cases h2; done) | (injection h2 with h3 h4; cases h4; done))) (ne_sh e_rw e_o1 (fun h => by cases h))).trans e_o1
  have e_r0 := E_r0
  have e_rw := E_rw
  have fr : ∀ b, b ∈ L → b ≠ ly → b ≠ r0 → b ≠ rw → b ≠ ca → f8 b = f b := fun b mb nb0 nb1 nb2 nb3 => (fvw13 b (mono b mb) nb1 nb2).trans (fr b mb nb0 nb1 nb2 nb3)
  refine lv_iconst (v := 0) hx hb dX3_addLayer_16 (by decide) ?_
  refine lv_istore_n (lv' := [(3, .int 0), (0, .ref ly), (1, .int 0), (2, .ref o1)]) hx hb dX3_addLayer_17 rfl hl (by decide) rfl (fun ls hl => ?_)
  refine lv_iload_n hx hb dX3_addLayer_18 rfl (lv_at hl 0 rfl) ?_
  refine lv_aload_n hx hb dX3_addLayer_19 rfl (lv_at hl 3 rfl) ?_
  refine q_vi (As := []) (rest := [.int 0]) ⟨hx, hb, hml, hown, hts⟩ (c_X0_count l D g m_o1 e_o1) (cwV 0 hts gX3_addLayer_X0_count rfl rfl rfl (by decide +kernel) ⟨Nat.le_of_ble_eq_true rfl, Nat.le_of_ble_eq_true rfl⟩) S m_o1 e_o1 (T := TX0) (N := 2) rfl rfl hl.1 rfl (Nat.le_of_ble_eq_true rfl) dX3_addLayer_20 ⟨Nat.le_of_ble_eq_true rfl, Nat.le_of_ble_eq_true rfl⟩ (fun r12 L10 f11 H locs S w20 => ?_)
  obtain ⟨exw20, eLw20, efw20⟩ := w20
  rw [eLw20, efw20] at S
  subst exw20
  refine lv_topi (fun t_ et_ => ?_)
  obtain rfl : t_ = 0 := et_.trans (by decide)
  refine lv_icmp_ge (tgt := 56) hx hb dX3_addLayer_23 (by decide) (fun b23 => ?_) (fun b23 => absurd (by decide) b23)
  refine lv_aload_n hx hb dX3_addLayer_56 rfl (lv_at hl 1 rfl) ?_
  refine q_get hx hb hts in_X3 hown S m_ly e_ly (C := RX3) (T := TX3) (N := 5) rfl 1 (by decide) rfl (hts (.fieldLink RX3 17 "SieveCabinet$Layers" "came" "[I") (by decide +kernel)) dX3_addLayer_57 ?_
  refine lv_iload_n hx hb dX3_addLayer_60 rfl (lv_at hl 2 rfl) ?_
  refine lv_aload_n hx hb dX3_addLayer_61 rfl (lv_at hl 3 rfl) ?_
  refine q_vi (As := []) (rest := [.int 0, .ref ca]) ⟨hx, hb, hml, hown, hts⟩ (c_X0_count l D g m_o1 e_o1) (cwV 0 hts gX3_addLayer_X0_count rfl rfl rfl (by decide +kernel) ⟨Nat.le_of_ble_eq_true rfl, Nat.le_of_ble_eq_true rfl⟩) S m_o1 e_o1 (T := TX0) (N := 2) rfl rfl hl.1 rfl (Nat.le_of_ble_eq_true rfl) dX3_addLayer_62 ⟨Nat.le_of_ble_eq_true rfl, Nat.le_of_ble_eq_true rfl⟩ (fun r15 L13 f14 H locs S w62 => ?_)
  obtain ⟨exw62, eLw62, efw62⟩ := w62
  rw [eLw62, efw62] at S
  subst exw62
  refine lv_topi (fun t_ et_ => ?_)
  obtain rfl : t_ = 0 := et_.trans (by decide)
  refine q_iast hx hb S m_ca e_ca (pu_in0 (by decide) (by decide)) dX3_addLayer_65 (fun H locs S => ?_)
  obtain ⟨f16, ef16⟩ : ∃ z_, z_ = va_up f8 ca (.inl (g 0, 20, .inl (upd vc (0 : Int32).toNatClampNeg 0))) := ⟨_, rfl⟩
  have S : PS D g (va_A (va_pl L f) sz) s.heap s L f16 H locs := by rw [ef16]; exact S
  have e_ly : f16 ly = .inr (3, [.ref ro, .ref ca, .ref re, .int cn, .int sd0]) := up_ne ef16 (ne_sh e_ca e_ly (fun h => by cases h)) e_ly
  have e_ro : f16 ro = .inl (g 4, 20, .inr (.inr (.inr (.inr rf)))) := up_ne ef16 (ne_sh e_ca e_ro (by intro h; injection h with h; injection h with h1 h2; first | (cases h1; done) | (cases h2; done) | (injection h2 with h3 h4; cases h4; done))) e_ro
  have e_r0 : f16 r0 = .inr (1, [.ref rw, .int ((nI 8))]) := up_ne ef16 (ne_sh e_ca e_r0 (fun h => by cases h)) e_r0
  have e_rw : f16 rw = .inl (g 1, 64, .inr (.inl v1_13_1)) := up_ne ef16 (ne_sh e_ca e_rw (by intro h; injection h with h; injection h with h1 h2; first | (cases h1; done) | (cases h2; done) | (injection h2 with h3 h4; cases h4; done))) e_rw
  have e_o1 : f16 o1 = .inr (0, [.ref q1, .int ((nI 0))]) := up_ne ef16 (ne_sh e_ca e_o1 (fun h => by cases h)) e_o1
  have e_ca : f16 ca = .inl (g 0, 20, .inl (upd vc (0 : Int32).toNatClampNeg 0)) := up_self ef16
  have fr : ∀ b, b ∈ L → b ≠ ly → b ≠ r0 → b ≠ rw → b ≠ ca → f16 b = f b := fun b mb nb0 nb1 nb2 nb3 => (up_ne ef16 nb3 rfl).trans (fr b mb nb0 nb1 nb2 nb3)
  refine lv_aload_n hx hb dX3_addLayer_66 rfl (lv_at hl 1 rfl) ?_
  refine lv_iload_n hx hb dX3_addLayer_67 rfl (lv_at hl 2 rfl) ?_
  refine lv_iconst (v := 1) hx hb dX3_addLayer_68 (by decide) ?_
  refine lv_iadd hx hb dX3_addLayer_69 ?_
  refine lv_topi (fun t_ et_ => ?_)
  obtain rfl : t_ = 1 := et_.trans (by decide)
  refine q_put hx hb hts in_X3 tyX3 tyX3_ok nmX3 hown S m_ly e_ly (C := RX3) (T := TX3) (N := 5) rfl 3 (by decide) (hts (.fieldLink RX3 29 "SieveCabinet$Layers" "count" "I") (by decide +kernel)) rfl rfl rfl (Nat.le_of_ble_eq_true rfl) dX3_addLayer_70 (fun H locs S => ?_)
  obtain ⟨f17, ef17⟩ : ∃ z_, z_ = va_up f16 ly (.inr (3, [.ref ro, .ref ca, .ref re, .int 1, .int sd0])) := ⟨_, rfl⟩
  have S : PS D g (va_A (va_pl L f) sz) s.heap s L f17 H locs := by rw [ef17]; exact S
  have e_ro : f17 ro = .inl (g 4, 20, .inr (.inr (.inr (.inr rf)))) := up_ne ef17 (ne_sh e_ly e_ro (fun h => by cases h)) e_ro
  have e_r0 : f17 r0 = .inr (1, [.ref rw, .int ((nI 8))]) := up_ne ef17 (ne_sh e_ly e_r0 (by intro h; injection h with h; injection h with h1 h2; first | (cases h1; done) | (cases h2; done) | (injection h2 with h3 h4; cases h4; done))) e_r0
  have e_rw : f17 rw = .inl (g 1, 64, .inr (.inl v1_13_1)) := up_ne ef17 (ne_sh e_ly e_rw (fun h => by cases h)) e_rw
  have e_ca : f17 ca = .inl (g 0, 20, .inl (upd vc (0 : Int32).toNatClampNeg 0)) := up_ne ef17 (ne_sh e_ly e_ca (fun h => by cases h)) e_ca
  have e_o1 : f17 o1 = .inr (0, [.ref q1, .int ((nI 0))]) := up_ne ef17 (ne_sh e_ly e_o1 (by intro h; injection h with h; injection h with h1 h2; first | (cases h1; done) | (cases h2; done) | (injection h2 with h3 h4; cases h4; done))) e_o1
  have e_ly : f17 ly = .inr (3, [.ref ro, .ref ca, .ref re, .int 1, .int sd0]) := up_self ef17
  have fr : ∀ b, b ∈ L → b ≠ ly → b ≠ r0 → b ≠ rw → b ≠ ca → f17 b = f b := fun b mb nb0 nb1 nb2 nb3 => (up_ne ef17 nb0 rfl).trans (fr b mb nb0 nb1 nb2 nb3)
  exact q_retv (post := fun L1 f1 => L1 = L ∧ (∀ b, b ∈ L → b ≠ ly → b ≠ r0 → b ≠ rw → b ≠ ca → f1 b = f b) ∧ ∃ v1 : Nat → Int64, ∃ v2 : Nat → Int32, f1 ly = .inr (3, [.ref ro, .ref ca, .ref re, .int 1, .int sd0]) ∧ f1 r0 = .inr (1, [.ref rw, .int ((nI 8))]) ∧ f1 rw = .inl (g 1, 64, .inr (.inl v1)) ∧ f1 ca = .inl (g 0, 20, .inl v2)) hx hb hr hlk S dX3_addLayer_73 (by decide) (by decide) (⟨rfl, fr, _, _, e_ly, e_r0, e_rw, e_ca⟩)

set_option maxHeartbeats 4000000 in
set_option maxRecDepth 100000 in
/-- Layers.sift of nothing -/
theorem c_X3_sift0 (l : Launch) (D : va_G) (g : Nat → ClassId) {L : List Nat} {f : Nat → va_E} {ly : Nat}     {o2 q2 o3 q3 n3 : Nat}  (m_o2 : o2 ∈ L) (e_o2 : f o2 = .inr (0, [.ref q2, .int ((nI 0))])) (m_o3 : o3 ∈ L) (e_o3 : f o3 = .inr (0, [.ref q3, .int ((nI n3))])) (n_o2_o3 : o2 ≠ o3) : cV l yX3_sift wsX3_sift { frames := 1, cells := 0, slots := 0, locals := 20 } D g [.ref ly, .int 0, .ref o2, .ref o3] L f 0 0 (fun L1 f1 => L1 = L ∧ (∀ b, b ∈ L → b ≠ o3 → f1 b = f b) ∧ f1 o3 = .inr (0, [.ref q3, .int 0])) := by
  refine cV_of (cc := cX3_sift) (maxL := 5) (ret := none) (by decide) rfl (Nat.le_of_ble_eq_true rfl) ?_
  intro sz p e s m below meth c hx hb hr hml hts hown hlk hnm S ls hl
  have hl : lv_has ls 5 [(0, .ref ly), (1, .int 0), (2, .ref o2), (3, .ref o3)] := hl
  have fr : ∀ b, b ∈ L → b ≠ o3 → f b = f b := fun _ _ _ => rfl
  have mono : ∀ b, b ∈ L → b ∈ L := fun _ h => h
  refine lv_aload_n hx hb dX3_sift_0 rfl (lv_at hl 3 rfl) ?_
  refine q_vv (As := []) (rest := []) ⟨hx, hb, hml, hown, hts⟩ (c_X0_empty l D g m_o3 e_o3) (cwV 0 hts gX3_sift_X0_empty rfl rfl rfl (by decide +kernel) ⟨Nat.le_of_ble_eq_true rfl, Nat.le_of_ble_eq_true rfl⟩) S m_o3 e_o3 (T := TX0) (N := 2) rfl rfl hl.1 rfl (Nat.le_of_ble_eq_true rfl) dX3_sift_1 ⟨Nat.le_of_ble_eq_true rfl, Nat.le_of_ble_eq_true rfl⟩ (fun L1 f2 H locs S w1 => ?_)
  obtain ⟨eLw1, efw1⟩ := w1
  rw [eLw1, efw1] at S
  obtain ⟨f4, ef4⟩ : ∃ z_, z_ = va_up f o3 (.inr (0, [.ref q3, .int 0])) := ⟨_, rfl⟩
  have S : PS D g (va_A (va_pl L f) sz) s.heap s L f4 H locs := by rw [ef4]; exact S
  have e_o2 : f4 o2 = .inr (0, [.ref q2, .int ((nI 0))]) := up_ne ef4 (n_o2_o3) e_o2
  have e_o3 : f4 o3 = .inr (0, [.ref q3, .int 0]) := up_self ef4
  have fr : ∀ b, b ∈ L → b ≠ o3 → f4 b = f b := fun b mb nb0 => (up_ne ef4 nb0 rfl).trans (fr b mb nb0)
  refine lv_iconst (v := 0) hx hb dX3_sift_4 (by decide) ?_
  refine lv_istore (lv' := [(4, .int 0), (0, .ref ly), (1, .int 0), (2, .ref o2), (3, .ref o3)]) hx hb dX3_sift_5 hl (by decide) rfl (fun ls hl => ?_)
  refine lv_iload hx hb dX3_sift_7 (lv_at hl 0 rfl) ?_
  refine lv_aload_n hx hb dX3_sift_9 rfl (lv_at hl 3 rfl) ?_
  refine q_vi (As := []) (rest := [.int 0]) ⟨hx, hb, hml, hown, hts⟩ (c_X0_count l D g m_o2 e_o2) (cwV 0 hts gX3_sift_X0_count rfl rfl rfl (by decide +kernel) ⟨Nat.le_of_ble_eq_true rfl, Nat.le_of_ble_eq_true rfl⟩) S m_o2 e_o2 (T := TX0) (N := 2) rfl rfl hl.1 rfl (Nat.le_of_ble_eq_true rfl) dX3_sift_10 ⟨Nat.le_of_ble_eq_true rfl, Nat.le_of_ble_eq_true rfl⟩ (fun r7 L5 f6 H locs S w10 => ?_)
  obtain ⟨exw10, eLw10, efw10⟩ := w10
  rw [eLw10, efw10] at S
  subst exw10
  refine lv_topi (fun t_ et_ => ?_)
  obtain rfl : t_ = 0 := et_.trans (by decide)
  refine lv_icmp_ge (tgt := 46) hx hb dX3_sift_13 (by decide) (fun b13 => ?_) (fun b13 => absurd (by decide) b13)
  exact q_retv (post := fun L1 f1 => L1 = L ∧ (∀ b, b ∈ L → b ≠ o3 → f1 b = f b) ∧ f1 o3 = .inr (0, [.ref q3, .int 0])) hx hb hr hlk S dX3_sift_46 (by decide) (by decide) (⟨rfl, fr, e_o3⟩)

set_option maxHeartbeats 4000000 in
set_option maxRecDepth 100000 in
/-- Layers.build of nothing -/
theorem c_X3_build0 (l : Launch) (D : va_G) (g : Nat → ClassId) {L : List Nat} {f : Nat → va_E} {ly ro ca re rer r0 rw b0 n0 : Nat} {rf : Nat → Option Nat} {cn sd0 : Int32} {vc : Nat → Int32} {vr : Nat → Int64} {o1 q1 o2 q2 o3 q3 n3 : Nat} {sd : Int32} (m_ly : ly ∈ L) (e_ly : f ly = .inr (3, [.ref ro, .ref ca, .ref re, .int cn, .int sd0])) (m_ro : ro ∈ L) (e_ro : f ro = .inl (g 4, 20, .inr (.inr (.inr (.inr rf))))) (m_r0 : r0 ∈ L) (e_r0 : f r0 = .inr (1, [.ref rw, .int ((nI b0))])) (m_rw : rw ∈ L) (e_rw : f rw = .inl (g 1, 64, .inr (.inl vr))) (m_ca : ca ∈ L) (e_ca : f ca = .inl (g 0, 20, .inl vc)) (m_re : re ∈ L) (e_re : f re = .inr (0, [.ref rer, .int ((nI n0))])) (m_o1 : o1 ∈ L) (e_o1 : f o1 = .inr (0, [.ref q1, .int ((nI 0))])) (m_o2 : o2 ∈ L) (e_o2 : f o2 = .inr (0, [.ref q2, .int ((nI 0))])) (m_o3 : o3 ∈ L) (e_o3 : f o3 = .inr (0, [.ref q3, .int ((nI n3))])) (hr0 : rf 0 = some r0) (n_o1_re : o1 ≠ re) (n_o2_re : o2 ≠ re) (n_o3_re : o3 ≠ re) (n_o1_o3 : o1 ≠ o3) (n_o2_o3 : o2 ≠ o3) : cV l yX3_build wsX3_build { frames := 3, cells := 0, slots := 0, locals := 68 } D g [.ref ly, .ref o1, .ref o2, .ref o3, .int sd] L f 0 0 (fun L1 f1 => L1 = L ∧ (∀ b, b ∈ L → b ≠ ly → b ≠ r0 → b ≠ rw → b ≠ ca → b ≠ re → b ≠ o3 → f1 b = f b) ∧ ∃ v1 : Nat → Int64, ∃ v2 : Nat → Int32, f1 ly = .inr (3, [.ref ro, .ref ca, .ref re, .int 1, .int sd]) ∧ f1 r0 = .inr (1, [.ref rw, .int ((nI 8))]) ∧ f1 rw = .inl (g 1, 64, .inr (.inl v1)) ∧ f1 ca = .inl (g 0, 20, .inl v2) ∧ f1 re = .inr (0, [.ref rer, .int 0]) ∧ f1 o3 = .inr (0, [.ref q3, .int 0])) := by
  refine cV_of (cc := cX3_build) (maxL := 10) (ret := none) (by decide) rfl (Nat.le_of_ble_eq_true rfl) ?_
  intro sz p e s m below meth c hx hb hr hml hts hown hlk hnm S ls hl
  have hl : lv_has ls 10 [(0, .ref ly), (1, .ref o1), (2, .ref o2), (3, .ref o3), (4, .int sd)] := hl
  have in_X3 : ∀ w ∈ wsX30, w ∈ wsX3_build := by decide +kernel
  have fr : ∀ b, b ∈ L → b ≠ ly → b ≠ r0 → b ≠ rw → b ≠ ca → b ≠ re → b ≠ o3 → f b = f b := fun _ _ _ _ _ _ _ _ => rfl
  have mono : ∀ b, b ∈ L → b ∈ L := fun _ h => h
  refine lv_aload_n hx hb dX3_build_0 rfl (lv_at hl 1 rfl) ?_
  refine lv_astore (lv' := [(5, .ref o1), (0, .ref ly), (1, .ref o1), (2, .ref o2), (3, .ref o3), (4, .int sd)]) hx hb dX3_build_1 hl (by decide) rfl (fun ls hl => ?_)
  refine lv_aload_n hx hb dX3_build_3 rfl (lv_at hl 3 rfl) ?_
  refine lv_astore (lv' := [(6, .ref o2), (5, .ref o1), (0, .ref ly), (1, .ref o1), (2, .ref o2), (3, .ref o3), (4, .int sd)]) hx hb dX3_build_4 hl (by decide) rfl (fun ls hl => ?_)
  refine lv_aload_n hx hb dX3_build_6 rfl (lv_at hl 5 rfl) ?_
  refine lv_astore (lv' := [(7, .ref o3), (6, .ref o2), (5, .ref o1), (0, .ref ly), (1, .ref o1), (2, .ref o2), (3, .ref o3), (4, .int sd)]) hx hb dX3_build_7 hl (by decide) rfl (fun ls hl => ?_)
  refine lv_aload_n hx hb dX3_build_9 rfl (lv_at hl 3 rfl) ?_
  refine lv_iconst (v := 0) hx hb dX3_build_10 (by decide) ?_
  refine q_put hx hb hts in_X3 tyX3 tyX3_ok nmX3 hown S m_ly e_ly (C := RX3) (T := TX3) (N := 5) rfl 3 (by decide) (hts (.fieldLink RX3 29 "SieveCabinet$Layers" "count" "I") (by decide +kernel)) rfl rfl rfl (Nat.le_of_ble_eq_true rfl) dX3_build_11 (fun H locs S => ?_)
  obtain ⟨f1, ef1⟩ : ∃ z_, z_ = va_up f ly (.inr (3, [.ref ro, .ref ca, .ref re, .int 0, .int sd0])) := ⟨_, rfl⟩
  have S : PS D g (va_A (va_pl L f) sz) s.heap s L f1 H locs := by rw [ef1]; exact S
  have e_ro : f1 ro = .inl (g 4, 20, .inr (.inr (.inr (.inr rf)))) := up_ne ef1 (ne_sh e_ly e_ro (fun h => by cases h)) e_ro
  have e_r0 : f1 r0 = .inr (1, [.ref rw, .int ((nI b0))]) := up_ne ef1 (ne_sh e_ly e_r0 (by intro h; injection h with h; injection h with h1 h2; first | (cases h1; done) | (cases h2; done) | (injection h2 with h3 h4; cases h4; done))) e_r0
  have e_rw : f1 rw = .inl (g 1, 64, .inr (.inl vr)) := up_ne ef1 (ne_sh e_ly e_rw (fun h => by cases h)) e_rw
  have e_ca : f1 ca = .inl (g 0, 20, .inl vc) := up_ne ef1 (ne_sh e_ly e_ca (fun h => by cases h)) e_ca
  have e_re : f1 re = .inr (0, [.ref rer, .int ((nI n0))]) := up_ne ef1 (ne_sh e_ly e_re (by intro h; injection h with h; injection h with h1 h2; first | (cases h1; done) | (cases h2; done) | (injection h2 with h3 h4; cases h4; done))) e_re
  have e_o1 : f1 o1 = .inr (0, [.ref q1, .int ((nI 0))]) := up_ne ef1 (ne_sh e_ly e_o1 (by intro h; injection h with h; injection h with h1 h2; first | (cases h1; done) | (cases h2; done) | (injection h2 with h3 h4; cases h4; done))) e_o1
  have e_o2 : f1 o2 = .inr (0, [.ref q2, .int ((nI 0))]) := up_ne ef1 (ne_sh e_ly e_o2 (by intro h; injection h with h; injection h with h1 h2; first | (cases h1; done) | (cases h2; done) | (injection h2 with h3 h4; cases h4; done))) e_o2
  have e_o3 : f1 o3 = .inr (0, [.ref q3, .int ((nI n3))]) := up_ne ef1 (ne_sh e_ly e_o3 (by intro h; injection h with h; injection h with h1 h2; first | (cases h1; done) | (cases h2; done) | (injection h2 with h3 h4; cases h4; done))) e_o3
  have e_ly : f1 ly = .inr (3, [.ref ro, .ref ca, .ref re, .int 0, .int sd0]) := up_self ef1
  have fr : ∀ b, b ∈ L → b ≠ ly → b ≠ r0 → b ≠ rw → b ≠ ca → b ≠ re → b ≠ o3 → f1 b = f b := fun b mb nb0 nb1 nb2 nb3 nb4 nb5 => (up_ne ef1 nb0 rfl).trans (fr b mb nb0 nb1 nb2 nb3 nb4 nb5)
  refine lv_aload_n hx hb dX3_build_14 rfl (lv_at hl 3 rfl) ?_
  refine lv_iload hx hb dX3_build_15 (lv_at hl 7 rfl) ?_
  refine q_put hx hb hts in_X3 tyX3 tyX3_ok nmX3 hown S m_ly e_ly (C := RX3) (T := TX3) (N := 5) rfl 4 (by decide) (hts (.fieldLink RX3 36 "SieveCabinet$Layers" "seed" "I") (by decide +kernel)) rfl rfl rfl (Nat.le_of_ble_eq_true rfl) dX3_build_17 (fun H locs S => ?_)
  obtain ⟨f2, ef2⟩ : ∃ z_, z_ = va_up f1 ly (.inr (3, [.ref ro, .ref ca, .ref re, .int 0, .int sd])) := ⟨_, rfl⟩
  have S : PS D g (va_A (va_pl L f) sz) s.heap s L f2 H locs := by rw [ef2]; exact S
  have e_ro : f2 ro = .inl (g 4, 20, .inr (.inr (.inr (.inr rf)))) := up_ne ef2 (ne_sh e_ly e_ro (fun h => by cases h)) e_ro
  have e_r0 : f2 r0 = .inr (1, [.ref rw, .int ((nI b0))]) := up_ne ef2 (ne_sh e_ly e_r0 (by intro h; injection h with h; injection h with h1 h2; first | (cases h1; done) | (cases h2; done) | (injection h2 with h3 h4; cases h4; done))) e_r0
  have e_rw : f2 rw = .inl (g 1, 64, .inr (.inl vr)) := up_ne ef2 (ne_sh e_ly e_rw (fun h => by cases h)) e_rw
  have e_ca : f2 ca = .inl (g 0, 20, .inl vc) := up_ne ef2 (ne_sh e_ly e_ca (fun h => by cases h)) e_ca
  have e_re : f2 re = .inr (0, [.ref rer, .int ((nI n0))]) := up_ne ef2 (ne_sh e_ly e_re (by intro h; injection h with h; injection h with h1 h2; first | (cases h1; done) | (cases h2; done) | (injection h2 with h3 h4; cases h4; done))) e_re
  have e_o1 : f2 o1 = .inr (0, [.ref q1, .int ((nI 0))]) := up_ne ef2 (ne_sh e_ly e_o1 (by intro h; injection h with h; injection h with h1 h2; first | (cases h1; done) | (cases h2; done) | (injection h2 with h3 h4; cases h4; done))) e_o1
  have e_o2 : f2 o2 = .inr (0, [.ref q2, .int ((nI 0))]) := up_ne ef2 (ne_sh e_ly e_o2 (by intro h; injection h with h; injection h with h1 h2; first | (cases h1; done) | (cases h2; done) | (injection h2 with h3 h4; cases h4; done))) e_o2
  have e_o3 : f2 o3 = .inr (0, [.ref q3, .int ((nI n3))]) := up_ne ef2 (ne_sh e_ly e_o3 (by intro h; injection h with h; injection h with h1 h2; first | (cases h1; done) | (cases h2; done) | (injection h2 with h3 h4; cases h4; done))) e_o3
  have e_ly : f2 ly = .inr (3, [.ref ro, .ref ca, .ref re, .int 0, .int sd]) := up_self ef2
  have fr : ∀ b, b ∈ L → b ≠ ly → b ≠ r0 → b ≠ rw → b ≠ ca → b ≠ re → b ≠ o3 → f2 b = f b := fun b mb nb0 nb1 nb2 nb3 nb4 nb5 => (up_ne ef2 nb0 rfl).trans (fr b mb nb0 nb1 nb2 nb3 nb4 nb5)
  refine lv_aload_n hx hb dX3_build_20 rfl (lv_at hl 3 rfl) ?_
  refine q_get hx hb hts in_X3 hown S m_ly e_ly (C := RX3) (T := TX3) (N := 5) rfl 2 (by decide) rfl (hts (.fieldLink RX3 24 "SieveCabinet$Layers" "rest" "LSieveCabinet$Bag;") (by decide +kernel)) dX3_build_21 ?_
  refine q_vv (As := []) (rest := []) ⟨hx, hb, hml, hown, hts⟩ (c_X0_empty l D g m_re e_re) (cwV 0 hts gX3_build_X0_empty rfl rfl rfl (by decide +kernel) ⟨Nat.le_of_ble_eq_true rfl, Nat.le_of_ble_eq_true rfl⟩) S m_re e_re (T := TX0) (N := 2) rfl rfl hl.1 rfl (Nat.le_of_ble_eq_true rfl) dX3_build_24 ⟨Nat.le_of_ble_eq_true rfl, Nat.le_of_ble_eq_true rfl⟩ (fun L3 f4 H locs S w24 => ?_)
  obtain ⟨eLw24, efw24⟩ := w24
  rw [eLw24, efw24] at S
  obtain ⟨f6, ef6⟩ : ∃ z_, z_ = va_up f2 re (.inr (0, [.ref rer, .int 0])) := ⟨_, rfl⟩
  have S : PS D g (va_A (va_pl L f) sz) s.heap s L f6 H locs := by rw [ef6]; exact S
  have e_ly : f6 ly = .inr (3, [.ref ro, .ref ca, .ref re, .int 0, .int sd]) := up_ne ef6 (ne_sh e_re e_ly (by intro h; injection h with h; injection h with h1 h2; first | (cases h1; done) | (cases h2; done) | (injection h2 with h3 h4; cases h4; done))) e_ly
  have e_ro : f6 ro = .inl (g 4, 20, .inr (.inr (.inr (.inr rf)))) := up_ne ef6 (ne_sh e_re e_ro (fun h => by cases h)) e_ro
  have e_r0 : f6 r0 = .inr (1, [.ref rw, .int ((nI b0))]) := up_ne ef6 (ne_sh e_re e_r0 (by intro h; injection h with h; injection h with h1 h2; first | (cases h1; done) | (cases h2; done) | (injection h2 with h3 h4; cases h4; done))) e_r0
  have e_rw : f6 rw = .inl (g 1, 64, .inr (.inl vr)) := up_ne ef6 (ne_sh e_re e_rw (fun h => by cases h)) e_rw
  have e_ca : f6 ca = .inl (g 0, 20, .inl vc) := up_ne ef6 (ne_sh e_re e_ca (fun h => by cases h)) e_ca
  have e_o1 : f6 o1 = .inr (0, [.ref q1, .int ((nI 0))]) := up_ne ef6 (n_o1_re) e_o1
  have e_o2 : f6 o2 = .inr (0, [.ref q2, .int ((nI 0))]) := up_ne ef6 (n_o2_re) e_o2
  have e_o3 : f6 o3 = .inr (0, [.ref q3, .int ((nI n3))]) := up_ne ef6 (n_o3_re) e_o3
  have e_re : f6 re = .inr (0, [.ref rer, .int 0]) := up_self ef6
  have fr : ∀ b, b ∈ L → b ≠ ly → b ≠ r0 → b ≠ rw → b ≠ ca → b ≠ re → b ≠ o3 → f6 b = f b := fun b mb nb0 nb1 nb2 nb3 nb4 nb5 => (up_ne ef6 nb4 rfl).trans (fr b mb nb0 nb1 nb2 nb3 nb4 nb5)
  refine lv_iconst (v := 0) hx hb dX3_build_27 (by decide) ?_
  refine lv_istore (lv' := [(8, .int 0), (7, .ref o3), (6, .ref o2), (5, .ref o1), (0, .ref ly), (1, .ref o1), (2, .ref o2), (3, .ref o3), (4, .int sd)]) hx hb dX3_build_28 hl (by decide) rfl (fun ls hl => ?_)
  refine lv_iload hx hb dX3_build_30 (lv_at hl 0 rfl) ?_
  refine lv_bipush (v := 20) hx hb dX3_build_32 (by decide) ?_
  refine lv_icmp_ge (tgt := 110) hx hb dX3_build_34 (by decide) (fun b34 => absurd b34 (by decide)) (fun b34 => ?_)
  refine lv_aload_n hx hb dX3_build_37 rfl (lv_at hl 4 rfl) ?_
  refine lv_iload hx hb dX3_build_38 (lv_at hl 0 rfl) ?_
  refine lv_aload hx hb dX3_build_40 (lv_at hl 3 rfl) ?_
  refine q_vv (As := [.int 0, .ref o1]) (rest := []) ⟨hx, hb, hml, hown, hts⟩ (c_X3_addLayer0 l D g  m_ly e_ly m_ro e_ro m_r0 e_r0 m_rw e_rw m_ca e_ca m_o1 e_o1 hr0) (cwV 2 hts gX3_build_X3_addLayer rfl rfl rfl (by decide +kernel) ⟨Nat.le_of_ble_eq_true rfl, Nat.le_of_ble_eq_true rfl⟩) S m_ly e_ly (T := TX3) (N := 5) rfl rfl hl.1 rfl (Nat.le_of_ble_eq_true rfl) dX3_build_42 ⟨Nat.le_of_ble_eq_true rfl, Nat.le_of_ble_eq_true rfl⟩ (fun L7 f8 H locs S w42 => ?_)
  obtain ⟨eLw42, fvw42, v1_42_1, v2_42_1, E_ly, E_r0, E_rw, E_ca⟩ := w42
  rw [eLw42] at S
  have e_ro : f8 ro = .inl (g 4, 20, .inr (.inr (.inr (.inr rf)))) := (fvw42 ro m_ro (ne_sh e_ly e_ro (fun h => by cases h)) (ne_sh e_r0 e_ro (fun h => by cases h)) (ne_sh e_rw e_ro (by intro h; injection h with h; injection h with h1 h2; first | (cases h1; done) | (cases h2; done) | (injection h2 with h3 h4; cases h4; done))) (ne_sh e_ca e_ro (by intro h; injection h with h; injection h with h1 h2; first | (cases h1; done) | (cases h2; done) | (injection h2 with h3 h4; cases h4; done)))).trans e_ro
  have e_re : f8 re = .inr (0, [.ref rer, .int 0]) := (fvw42 re m_re (ne_sh e_ly e_re (by intro h; injection h with h; injection h with h1 h2; first | (cases h1; done) | (cases h2; done) | (injection h2 with h3 h4; cases h4; done))) (ne_sh e_r0 e_re (by intro h; injection h with h; injection h with h1 h2; first | (cases h1; done) | (cases h2; done) | (injection h2 with h3 h4; cases h4; done))) (ne_sh e_rw e_re (fun h => by cases h)) (ne_sh e_ca e_re (fun h => by cases h))).trans e_re
  have e_o1 : f8 o1 = .inr (0, [.ref q1, .int ((nI 0))]) := (fvw42 o1 m_o1 (ne_sh e_ly e_o1 (by intro h; injection h with h; injection h with h1 h2; first | (cases h1; done) | (cases h2; done) | (injection h2 with h3 h4; cases h4; done))) (ne_sh e_r0 e_o1 (by intro h; injection h with h; injection h with h1 h2; first | (cases h1; done) | (cases h2; done) | (injection h2 with h3 h4; cases h4; done))) (ne_sh e_rw e_o1 (fun h => by cases h)) (ne_sh e_ca e_o1 (fun h => by cases h))).trans e_o1
  have e_o2 : f8 o2 = .inr (0, [.ref q2, .int ((nI 0))]) := (fvw42 o2 m_o2 (ne_sh e_ly e_o2 (by intro h; injection h with h; injection h with h1 h2; first | (cases h1; done) | (cases h2; done) | (injection h2 with h3 h4; cases h4; done))) (ne_sh e_r0 e_o2 (by intro h; injection h with h; injection h with h1 h2; first | (cases h1; done) | (cases h2; done) | (injection h2 with h3 h4; cases h4; done))) (ne_sh e_rw e_o2 (fun h => by cases h)) (ne_sh e_ca e_o2 (fun h => by cases h))).trans e_o2
  have e_o3 : f8 o3 = .inr (0, [.ref q3, .int ((nI n3))]) := (fvw42 o3 m_o3 (ne_sh e_ly e_o3 (by intro h; injection h with h; injection h with h1 h2; first | (cases h1; done) | (cases h2; done) | (injection h2 with h3 h4; cases h4; done))) (ne_sh e_r0 e_o3 (by intro h; injection h with h; injection h with h1 h2; first | (cases h1; done) | (cases h2; done) | (injection h2 with h3 h4; cases h4; done))) (ne_sh e_rw e_o3 (fun h => by cases h)) (ne_sh e_ca e_o3 (fun h => by cases h))).trans e_o3
  have e_ly := E_ly
  have e_r0 := E_r0
  have e_rw := E_rw
  have e_ca := E_ca
  have fr : ∀ b, b ∈ L → b ≠ ly → b ≠ r0 → b ≠ rw → b ≠ ca → b ≠ re → b ≠ o3 → f8 b = f b := fun b mb nb0 nb1 nb2 nb3 nb4 nb5 => (fvw42 b (mono b mb) nb0 nb1 nb2 nb3).trans (fr b mb nb0 nb1 nb2 nb3 nb4 nb5)
  refine lv_aload_n hx hb dX3_build_45 rfl (lv_at hl 4 rfl) ?_
  refine lv_iload hx hb dX3_build_46 (lv_at hl 0 rfl) ?_
  refine lv_aload hx hb dX3_build_48 (lv_at hl 2 rfl) ?_
  refine lv_aload hx hb dX3_build_50 (lv_at hl 1 rfl) ?_
  refine q_vv (As := [.int 0, .ref o2, .ref o3]) (rest := []) ⟨hx, hb, hml, hown, hts⟩ (c_X3_sift0 l D g (ly := ly) m_o2 e_o2 m_o3 e_o3 n_o2_o3) (cwV 3 hts gX3_build_X3_sift rfl rfl rfl (by decide +kernel) ⟨Nat.le_of_ble_eq_true rfl, Nat.le_of_ble_eq_true rfl⟩) S m_ly e_ly (T := TX3) (N := 5) rfl rfl hl.1 rfl (Nat.le_of_ble_eq_true rfl) dX3_build_52 ⟨Nat.le_of_ble_eq_true rfl, Nat.le_of_ble_eq_true rfl⟩ (fun L10 f11 H locs S w52 => ?_)
  obtain ⟨eLw52, fvw52, E_o3⟩ := w52
  rw [eLw52] at S
  have e_ly : f11 ly = .inr (3, [.ref ro, .ref ca, .ref re, .int 1, .int sd]) := (fvw52 ly m_ly (ne_sh e_o3 e_ly (by intro h; injection h with h; injection h with h1 h2; first | (cases h1; done) | (cases h2; done) | (injection h2 with h3 h4; cases h4; done)))).trans e_ly
  have e_ro : f11 ro = .inl (g 4, 20, .inr (.inr (.inr (.inr rf)))) := (fvw52 ro m_ro (ne_sh e_o3 e_ro (fun h => by cases h))).trans e_ro
  have e_r0 : f11 r0 = .inr (1, [.ref rw, .int ((nI 8))]) := (fvw52 r0 m_r0 (ne_sh e_o3 e_r0 (by intro h; injection h with h; injection h with h1 h2; first | (cases h1; done) | (cases h2; done) | (injection h2 with h3 h4; cases h4; done)))).trans e_r0
  have e_rw : f11 rw = .inl (g 1, 64, .inr (.inl v1_42_1)) := (fvw52 rw m_rw (ne_sh e_o3 e_rw (fun h => by cases h))).trans e_rw
  have e_ca : f11 ca = .inl (g 0, 20, .inl v2_42_1) := (fvw52 ca m_ca (ne_sh e_o3 e_ca (fun h => by cases h))).trans e_ca
  have e_re : f11 re = .inr (0, [.ref rer, .int 0]) := (fvw52 re m_re (Ne.symm n_o3_re)).trans e_re
  have e_o1 : f11 o1 = .inr (0, [.ref q1, .int ((nI 0))]) := (fvw52 o1 m_o1 (n_o1_o3)).trans e_o1
  have e_o2 : f11 o2 = .inr (0, [.ref q2, .int ((nI 0))]) := (fvw52 o2 m_o2 (n_o2_o3)).trans e_o2
  have e_o3 := E_o3
  have fr : ∀ b, b ∈ L → b ≠ ly → b ≠ r0 → b ≠ rw → b ≠ ca → b ≠ re → b ≠ o3 → f11 b = f b := fun b mb nb0 nb1 nb2 nb3 nb4 nb5 => (fvw52 b (mono b mb) nb5).trans (fr b mb nb0 nb1 nb2 nb3 nb4 nb5)
  refine lv_aload hx hb dX3_build_55 (lv_at hl 1 rfl) ?_
  refine q_vi (As := []) (rest := []) ⟨hx, hb, hml, hown, hts⟩ (c_X0_count l D g m_o3 e_o3) (cwV 0 hts gX3_build_X0_count rfl rfl rfl (by decide +kernel) ⟨Nat.le_of_ble_eq_true rfl, Nat.le_of_ble_eq_true rfl⟩) S m_o3 e_o3 (T := TX0) (N := 2) rfl rfl hl.1 rfl (Nat.le_of_ble_eq_true rfl) dX3_build_57 ⟨Nat.le_of_ble_eq_true rfl, Nat.le_of_ble_eq_true rfl⟩ (fun r15 L13 f14 H locs S w57 => ?_)
  obtain ⟨exw57, eLw57, efw57⟩ := w57
  rw [eLw57, efw57] at S
  subst exw57
  refine lv_if_ne (tgt := 64) hx hb dX3_build_60 (by decide) (fun b60 => absurd b60 (fun h => h rfl)) (fun b60 => ?_)
  exact q_retv (post := fun L1 f1 => L1 = L ∧ (∀ b, b ∈ L → b ≠ ly → b ≠ r0 → b ≠ rw → b ≠ ca → b ≠ re → b ≠ o3 → f1 b = f b) ∧ ∃ v1 : Nat → Int64, ∃ v2 : Nat → Int32, f1 ly = .inr (3, [.ref ro, .ref ca, .ref re, .int 1, .int sd]) ∧ f1 r0 = .inr (1, [.ref rw, .int ((nI 8))]) ∧ f1 rw = .inl (g 1, 64, .inr (.inl v1)) ∧ f1 ca = .inl (g 0, 20, .inl v2) ∧ f1 re = .inr (0, [.ref rer, .int 0]) ∧ f1 o3 = .inr (0, [.ref q3, .int 0])) hx hb hr hlk S dX3_build_63 (by decide) (by decide) (⟨rfl, fr, _, _, e_ly, e_r0, e_rw, e_ca, e_re, e_o3⟩)
