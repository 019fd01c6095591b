set_option maxHeartbeats 4000000 in
set_option maxRecDepth 100000 in
/-- isMakeable -/
theorem c_X8_isMakeable (l : Launch) (D : va_G) (g : Nat → ClassId) {L : List Nat} {f : Nat → va_E} {k z mk : Int32}   : cI l yX8_isMakeable wsX8_isMakeable { frames := 1, cells := 0, slots := 0, locals := 22 } D g [.int k, .int z, .int mk] L f 0 0 (fun x L1 f1 => ((x = 1 ∧ makeP k z mk) ∨ (x = 0 ∧ ¬ makeP k z mk)) ∧ L1 = L ∧ f1 = f) := by
  refine cI_of (cc := cX8_isMakeable) (maxL := 3) (ret := (some .boolean)) (by decide) rfl (Nat.le_of_ble_eq_true rfl) ?_
  intro sz p e s m below meth c hx hb hr hml hts hown hlk hnm S ls hl
  have hl : lv_has ls 3 [(0, .int k), (1, .int z), (2, .int mk)] := hl
  refine lv_iload_n hx hb dX8_isMakeable_0 rfl (lv_at hl 0 rfl) ?_
  refine lv_iconst (v := 2) hx hb dX8_isMakeable_1 (by decide) ?_
  refine lv_icmp_ne (tgt := 14) hx hb dX8_isMakeable_2 (by decide) (fun b2 => ?_) (fun b2 => ?_)
  · skip
    refine lv_iload_n hx hb dX8_isMakeable_14 rfl (lv_at hl 0 rfl) ?_
    refine lv_if_eq (tgt := 25) hx hb dX8_isMakeable_15 (by decide) (fun b15 => ?_) (fun b15 => ?_)
    · skip
      refine lv_iload_n hx hb dX8_isMakeable_25 rfl (lv_at hl 1 rfl) ?_
      refine lv_bipush (v := 8) hx hb dX8_isMakeable_26 (by decide) ?_
      refine lv_sipush (v := 4096) hx hb dX8_isMakeable_28 (by decide) ?_
      refine q_si (As := [.int z, .int 8, .int 4096]) (rest := []) ⟨hx, hb, hml, hown, hts⟩ (c_X8_isPowerOfTwo l D g ) (va_cwS 3 hts gX8_isMakeable_X8_isPowerOfTwo rfl rfl rfl (by decide +kernel) ⟨Nat.le_of_ble_eq_true rfl, Nat.le_of_ble_eq_true rfl⟩) S rfl hl.1 rfl (Nat.le_of_ble_eq_true rfl) dX8_isMakeable_31 ⟨Nat.le_of_ble_eq_true rfl, Nat.le_of_ble_eq_true rfl⟩ (fun r3 L1 f2 H locs S w31 => ?_)
      obtain ⟨exw31, eLw31, efw31⟩ := w31
      rw [eLw31, efw31] at S
      rcases exw31 with ⟨er31, hp31⟩ | ⟨er31, hp31⟩
      · skip
        subst er31
        refine lv_if_eq (tgt := 52) hx hb dX8_isMakeable_34 (by decide) (fun b34 => absurd b34 (by decide)) (fun b34 => ?_)
        refine lv_iload_n hx hb dX8_isMakeable_37 rfl (lv_at hl 2 rfl) ?_
        refine lv_iconst (v := 1) hx hb dX8_isMakeable_38 (by decide) ?_
        refine lv_icmp_lt (tgt := 52) hx hb dX8_isMakeable_39 (by decide) (fun b39 => ?_) (fun b39 => ?_)
        · skip
          refine lv_iconst (v := 0) hx hb dX8_isMakeable_52 (by decide) ?_
          exact q_retz (post := fun x L1 f1 => ((x = 1 ∧ makeP k z mk) ∨ (x = 0 ∧ ¬ makeP k z mk)) ∧ L1 = L ∧ f1 = f) hx hb hr hlk S dX8_isMakeable_53 (by decide) (by decide) (by decide) (⟨Or.inr ⟨rfl, mk_n b2 (Or.inr (Or.inl b39))⟩, rfl, rfl⟩)
        · skip
          refine lv_iload_n hx hb dX8_isMakeable_42 rfl (lv_at hl 2 rfl) ?_
          refine lv_bipush (v := 8) hx hb dX8_isMakeable_43 (by decide) ?_
          refine lv_icmp_gt (tgt := 52) hx hb dX8_isMakeable_45 (by decide) (fun b45 => ?_) (fun b45 => ?_)
          · skip
            refine lv_iconst (v := 0) hx hb dX8_isMakeable_52 (by decide) ?_
            exact q_retz (post := fun x L1 f1 => ((x = 1 ∧ makeP k z mk) ∨ (x = 0 ∧ ¬ makeP k z mk)) ∧ L1 = L ∧ f1 = f) hx hb hr hlk S dX8_isMakeable_53 (by decide) (by decide) (by decide) (⟨Or.inr ⟨rfl, mk_n b2 (Or.inr (Or.inr b45))⟩, rfl, rfl⟩)
          · skip
            refine lv_iconst (v := 1) hx hb dX8_isMakeable_48 (by decide) ?_
            refine lv_goto (tgt := 53) hx hb dX8_isMakeable_49 (by decide) ?_
            exact q_retz (post := fun x L1 f1 => ((x = 1 ∧ makeP k z mk) ∨ (x = 0 ∧ ¬ makeP k z mk)) ∧ L1 = L ∧ f1 = f) hx hb hr hlk S dX8_isMakeable_53 (by decide) (by decide) (by decide) (⟨Or.inl ⟨rfl, Or.inr ⟨Or.inl b15, hp31, b39, b45⟩⟩, rfl, rfl⟩)
      · skip
        subst er31
        refine lv_if_eq (tgt := 52) hx hb dX8_isMakeable_34 (by decide) (fun b34 => ?_) (fun b34 => absurd (rfl) b34)
        refine lv_iconst (v := 0) hx hb dX8_isMakeable_52 (by decide) ?_
        exact q_retz (post := fun x L1 f1 => ((x = 1 ∧ makeP k z mk) ∨ (x = 0 ∧ ¬ makeP k z mk)) ∧ L1 = L ∧ f1 = f) hx hb hr hlk S dX8_isMakeable_53 (by decide) (by decide) (by decide) (⟨Or.inr ⟨rfl, mk_n b2 (Or.inl hp31)⟩, rfl, rfl⟩)
    · skip
      refine lv_iload_n hx hb dX8_isMakeable_18 rfl (lv_at hl 0 rfl) ?_
      refine lv_iconst (v := 1) hx hb dX8_isMakeable_19 (by decide) ?_
      refine lv_icmp_eq (tgt := 25) hx hb dX8_isMakeable_20 (by decide) (fun b20 => ?_) (fun b20 => ?_)
      · skip
        refine lv_iload_n hx hb dX8_isMakeable_25 rfl (lv_at hl 1 rfl) ?_
        refine lv_bipush (v := 8) hx hb dX8_isMakeable_26 (by decide) ?_
        refine lv_sipush (v := 4096) hx hb dX8_isMakeable_28 (by decide) ?_
        refine q_si (As := [.int z, .int 8, .int 4096]) (rest := []) ⟨hx, hb, hml, hown, hts⟩ (c_X8_isPowerOfTwo l D g ) (va_cwS 3 hts gX8_isMakeable_X8_isPowerOfTwo rfl rfl rfl (by decide +kernel) ⟨Nat.le_of_ble_eq_true rfl, Nat.le_of_ble_eq_true rfl⟩) S rfl hl.1 rfl (Nat.le_of_ble_eq_true rfl) dX8_isMakeable_31 ⟨Nat.le_of_ble_eq_true rfl, Nat.le_of_ble_eq_true rfl⟩ (fun r6 L4 f5 H locs S w31 => ?_)
        obtain ⟨exw31, eLw31, efw31⟩ := w31
        rw [eLw31, efw31] at S
        rcases exw31 with ⟨er31, hp31⟩ | ⟨er31, hp31⟩
        · skip
          subst er31
          refine lv_if_eq (tgt := 52) hx hb dX8_isMakeable_34 (by decide) (fun b34 => absurd b34 (by decide)) (fun b34 => ?_)
          refine lv_iload_n hx hb dX8_isMakeable_37 rfl (lv_at hl 2 rfl) ?_
          refine lv_iconst (v := 1) hx hb dX8_isMakeable_38 (by decide) ?_
          refine lv_icmp_lt (tgt := 52) hx hb dX8_isMakeable_39 (by decide) (fun b39 => ?_) (fun b39 => ?_)
          · skip
            refine lv_iconst (v := 0) hx hb dX8_isMakeable_52 (by decide) ?_
            exact q_retz (post := fun x L1 f1 => ((x = 1 ∧ makeP k z mk) ∨ (x = 0 ∧ ¬ makeP k z mk)) ∧ L1 = L ∧ f1 = f) hx hb hr hlk S dX8_isMakeable_53 (by decide) (by decide) (by decide) (⟨Or.inr ⟨rfl, mk_n b2 (Or.inr (Or.inl b39))⟩, rfl, rfl⟩)
          · skip
            refine lv_iload_n hx hb dX8_isMakeable_42 rfl (lv_at hl 2 rfl) ?_
            refine lv_bipush (v := 8) hx hb dX8_isMakeable_43 (by decide) ?_
            refine lv_icmp_gt (tgt := 52) hx hb dX8_isMakeable_45 (by decide) (fun b45 => ?_) (fun b45 => ?_)
            · skip
              refine lv_iconst (v := 0) hx hb dX8_isMakeable_52 (by decide) ?_
              exact q_retz (post := fun x L1 f1 => ((x = 1 ∧ makeP k z mk) ∨ (x = 0 ∧ ¬ makeP k z mk)) ∧ L1 = L ∧ f1 = f) hx hb hr hlk S dX8_isMakeable_53 (by decide) (by decide) (by decide) (⟨Or.inr ⟨rfl, mk_n b2 (Or.inr (Or.inr b45))⟩, rfl, rfl⟩)
            · skip
              refine lv_iconst (v := 1) hx hb dX8_isMakeable_48 (by decide) ?_
              refine lv_goto (tgt := 53) hx hb dX8_isMakeable_49 (by decide) ?_
              exact q_retz (post := fun x L1 f1 => ((x = 1 ∧ makeP k z mk) ∨ (x = 0 ∧ ¬ makeP k z mk)) ∧ L1 = L ∧ f1 = f) hx hb hr hlk S dX8_isMakeable_53 (by decide) (by decide) (by decide) (⟨Or.inl ⟨rfl, Or.inr ⟨Or.inr b20, hp31, b39, b45⟩⟩, rfl, rfl⟩)
        · skip
          subst er31
          refine lv_if_eq (tgt := 52) hx hb dX8_isMakeable_34 (by decide) (fun b34 => ?_) (fun b34 => absurd (rfl) b34)
          refine lv_iconst (v := 0) hx hb dX8_isMakeable_52 (by decide) ?_
          exact q_retz (post := fun x L1 f1 => ((x = 1 ∧ makeP k z mk) ∨ (x = 0 ∧ ¬ makeP k z mk)) ∧ L1 = L ∧ f1 = f) hx hb hr hlk S dX8_isMakeable_53 (by decide) (by decide) (by decide) (⟨Or.inr ⟨rfl, mk_n b2 (Or.inl hp31)⟩, rfl, rfl⟩)
      · skip
        refine lv_iconst (v := 0) hx hb dX8_isMakeable_23 (by decide) ?_
        exact q_retz (post := fun x L1 f1 => ((x = 1 ∧ makeP k z mk) ∨ (x = 0 ∧ ¬ makeP k z mk)) ∧ L1 = L ∧ f1 = f) hx hb hr hlk S dX8_isMakeable_24 (by decide) (by decide) (by decide) (⟨Or.inr ⟨rfl, mk_0 b2 b15 b20⟩, rfl, rfl⟩)
  · skip
    refine lv_iload_n hx hb dX8_isMakeable_5 rfl (lv_at hl 1 rfl) ?_
    refine lv_iconst (v := 1) hx hb dX8_isMakeable_6 (by decide) ?_
    refine lv_sipush (v := 256) hx hb dX8_isMakeable_7 (by decide) ?_
    refine q_si (As := [.int z, .int 1, .int 256]) (rest := []) ⟨hx, hb, hml, hown, hts⟩ (c_X8_isPowerOfTwo l D g ) (va_cwS 3 hts gX8_isMakeable_X8_isPowerOfTwo rfl rfl rfl (by decide +kernel) ⟨Nat.le_of_ble_eq_true rfl, Nat.le_of_ble_eq_true rfl⟩) S rfl hl.1 rfl (Nat.le_of_ble_eq_true rfl) dX8_isMakeable_10 ⟨Nat.le_of_ble_eq_true rfl, Nat.le_of_ble_eq_true rfl⟩ (fun r9 L7 f8 H locs S w10 => ?_)
    obtain ⟨exw10, eLw10, efw10⟩ := w10
    rw [eLw10, efw10] at S
    rcases exw10 with ⟨er10, hp10⟩ | ⟨er10, hp10⟩
    · skip
      subst er10
      exact q_retz (post := fun x L1 f1 => ((x = 1 ∧ makeP k z mk) ∨ (x = 0 ∧ ¬ makeP k z mk)) ∧ L1 = L ∧ f1 = f) hx hb hr hlk S dX8_isMakeable_13 (by decide) (by decide) (by decide) (⟨Or.inl ⟨rfl, Or.inl ⟨b2, hp10⟩⟩, rfl, rfl⟩)
    · skip
      subst er10
      exact q_retz (post := fun x L1 f1 => ((x = 1 ∧ makeP k z mk) ∨ (x = 0 ∧ ¬ makeP k z mk)) ∧ L1 = L ∧ f1 = f) hx hb hr hlk S dX8_isMakeable_13 (by decide) (by decide) (by decide) (⟨Or.inr ⟨rfl, mk_2 b2 hp10⟩, rfl, rfl⟩)

set_option maxHeartbeats 4000000 in
set_option maxRecDepth 100000 in
/-- Sieve.begin -/
theorem c_X6_begin (l : Launch) (D : va_G) (g : Nat → ClassId) {L : List Nat} {f : Nat → va_E} {h ce co cr n0 : Nat} {lay : Value} {kd sz0 mk0 sd0 k0 k1 k2 k3 : Int32} {v : Nat → Int32} (m_h : h ∈ L) (e_h : f h = .inr (4, [.ref ce, .ref co, lay, .int kd, .int sz0, .int mk0, .int sd0])) (m_co : co ∈ L) (e_co : f co = .inr (0, [.ref cr, .int ((nI n0))])) (m_ce : ce ∈ L) (e_ce : f ce = .inl (g 0, 4096, .inl v))  : cV l yX6_begin wsX6_begin { frames := 1, cells := 0, slots := 0, locals := 23 } D g [.ref h, .int k0, .int k1, .int k2, .int k3] L f 0 0 (fun L1 f1 => L1 = L ∧ (∀ b, b ∈ L → b ≠ h → b ≠ co → b ≠ ce → f1 b = f b) ∧ ∃ v1 : Nat → Int32, f1 h = .inr (4, [.ref ce, .ref co, lay, .int k0, .int k1, .int k2, .int k3]) ∧ f1 co = .inr (0, [.ref cr, .int 0]) ∧ f1 ce = .inl (g 0, 4096, .inl v1)) := by
  refine cV_of (cc := cX6_begin) (maxL := 5) (ret := none) (by decide) rfl (Nat.le_of_ble_eq_true rfl) ?_
  intro sz p e s m below meth c hx hb hr hml hts hown hlk hnm S ls hl
  have hl : lv_has ls 5 [(0, .ref h), (1, .int k0), (2, .int k1), (3, .int k2), (4, .int k3)] := hl
  have in_X6 : ∀ w ∈ wsX60, w ∈ wsX6_begin := by decide +kernel
  have fr : ∀ b, b ∈ L → b ≠ h → b ≠ co → b ≠ ce → f b = f b := fun _ _ _ _ _ => rfl
  have mono : ∀ b, b ∈ L → b ∈ L := fun _ h => h
  refine lv_aload_n hx hb dX6_begin_0 rfl (lv_at hl 0 rfl) ?_
  refine lv_iload_n hx hb dX6_begin_1 rfl (lv_at hl 1 rfl) ?_
  refine q_put hx hb hts in_X6 tyX6 tyX6_ok nmX6 hown S m_h e_h (C := RX6) (T := TX6) (N := 7) rfl 3 (by decide) (hts (.fieldLink RX6 22 "SieveCabinet$Sieve" "kind" "I") (by decide +kernel)) rfl rfl rfl (Nat.le_of_ble_eq_true rfl) dX6_begin_2 (fun H locs S => ?_)
  obtain ⟨f1, ef1⟩ : ∃ z_, z_ = va_up f h (.inr (4, [.ref ce, .ref co, lay, .int k0, .int sz0, .int mk0, .int sd0])) := ⟨_, rfl⟩
  have S : PS D g (va_A (va_pl L f) sz) s.heap s L f1 H locs := by rw [ef1]; exact S
  have e_co : f1 co = .inr (0, [.ref cr, .int ((nI n0))]) := up_ne ef1 (ne_sh e_h e_co (by intro h; injection h with h; injection h with h1 h2; first | (cases h1; done) | (cases h2; done) | (injection h2 with h3 h4; cases h4; done))) e_co
  have e_ce : f1 ce = .inl (g 0, 4096, .inl v) := up_ne ef1 (ne_sh e_h e_ce (fun h => by cases h)) e_ce
  have e_h : f1 h = .inr (4, [.ref ce, .ref co, lay, .int k0, .int sz0, .int mk0, .int sd0]) := up_self ef1
  have fr : ∀ b, b ∈ L → b ≠ h → b ≠ co → b ≠ ce → f1 b = f b := fun b mb nb0 nb1 nb2 => (up_ne ef1 nb0 rfl).trans (fr b mb nb0 nb1 nb2)
  refine lv_aload_n hx hb dX6_begin_5 rfl (lv_at hl 0 rfl) ?_
  refine lv_iload_n hx hb dX6_begin_6 rfl (lv_at hl 2 rfl) ?_
  refine q_put hx hb hts in_X6 tyX6 tyX6_ok nmX6 hown S m_h e_h (C := RX6) (T := TX6) (N := 7) rfl 4 (by decide) (hts (.fieldLink RX6 26 "SieveCabinet$Sieve" "size" "I") (by decide +kernel)) rfl rfl rfl (Nat.le_of_ble_eq_true rfl) dX6_begin_7 (fun H locs S => ?_)
  obtain ⟨f2, ef2⟩ : ∃ z_, z_ = va_up f1 h (.inr (4, [.ref ce, .ref co, lay, .int k0, .int k1, .int mk0, .int sd0])) := ⟨_, rfl⟩
  have S : PS D g (va_A (va_pl L f) sz) s.heap s L f2 H locs := by rw [ef2]; exact S
  have e_co : f2 co = .inr (0, [.ref cr, .int ((nI n0))]) := up_ne ef2 (ne_sh e_h e_co (by intro h; injection h with h; injection h with h1 h2; first | (cases h1; done) | (cases h2; done) | (injection h2 with h3 h4; cases h4; done))) e_co
  have e_ce : f2 ce = .inl (g 0, 4096, .inl v) := up_ne ef2 (ne_sh e_h e_ce (fun h => by cases h)) e_ce
  have e_h : f2 h = .inr (4, [.ref ce, .ref co, lay, .int k0, .int k1, .int mk0, .int sd0]) := up_self ef2
  have fr : ∀ b, b ∈ L → b ≠ h → b ≠ co → b ≠ ce → f2 b = f b := fun b mb nb0 nb1 nb2 => (up_ne ef2 nb0 rfl).trans (fr b mb nb0 nb1 nb2)
  refine lv_aload_n hx hb dX6_begin_10 rfl (lv_at hl 0 rfl) ?_
  refine lv_iload_n hx hb dX6_begin_11 rfl (lv_at hl 3 rfl) ?_
  refine q_put hx hb hts in_X6 tyX6 tyX6_ok nmX6 hown S m_h e_h (C := RX6) (T := TX6) (N := 7) rfl 5 (by decide) (hts (.fieldLink RX6 29 "SieveCabinet$Sieve" "marks" "I") (by decide +kernel)) rfl rfl rfl (Nat.le_of_ble_eq_true rfl) dX6_begin_12 (fun H locs S => ?_)
  obtain ⟨f3, ef3⟩ : ∃ z_, z_ = va_up f2 h (.inr (4, [.ref ce, .ref co, lay, .int k0, .int k1, .int k2, .int sd0])) := ⟨_, rfl⟩
  have S : PS D g (va_A (va_pl L f) sz) s.heap s L f3 H locs := by rw [ef3]; exact S
  have e_co : f3 co = .inr (0, [.ref cr, .int ((nI n0))]) := up_ne ef3 (ne_sh e_h e_co (by intro h; injection h with h; injection h with h1 h2; first | (cases h1; done) | (cases h2; done) | (injection h2 with h3 h4; cases h4; done))) e_co
  have e_ce : f3 ce = .inl (g 0, 4096, .inl v) := up_ne ef3 (ne_sh e_h e_ce (fun h => by cases h)) e_ce
  have e_h : f3 h = .inr (4, [.ref ce, .ref co, lay, .int k0, .int k1, .int k2, .int sd0]) := up_self ef3
  have fr : ∀ b, b ∈ L → b ≠ h → b ≠ co → b ≠ ce → f3 b = f b := fun b mb nb0 nb1 nb2 => (up_ne ef3 nb0 rfl).trans (fr b mb nb0 nb1 nb2)
  refine lv_aload_n hx hb dX6_begin_15 rfl (lv_at hl 0 rfl) ?_
  refine lv_iload hx hb dX6_begin_16 (lv_at hl 4 rfl) ?_
  refine q_put hx hb hts in_X6 tyX6 tyX6_ok nmX6 hown S m_h e_h (C := RX6) (T := TX6) (N := 7) rfl 6 (by decide) (hts (.fieldLink RX6 32 "SieveCabinet$Sieve" "seed" "I") (by decide +kernel)) rfl rfl rfl (Nat.le_of_ble_eq_true rfl) dX6_begin_18 (fun H locs S => ?_)
  obtain ⟨f4, ef4⟩ : ∃ z_, z_ = va_up f3 h (.inr (4, [.ref ce, .ref co, lay, .int k0, .int k1, .int k2, .int k3])) := ⟨_, rfl⟩
  have S : PS D g (va_A (va_pl L f) sz) s.heap s L f4 H locs := by rw [ef4]; exact S
  have e_co : f4 co = .inr (0, [.ref cr, .int ((nI n0))]) := up_ne ef4 (ne_sh e_h e_co (by intro h; injection h with h; injection h with h1 h2; first | (cases h1; done) | (cases h2; done) | (injection h2 with h3 h4; cases h4; done))) e_co
  have e_ce : f4 ce = .inl (g 0, 4096, .inl v) := up_ne ef4 (ne_sh e_h e_ce (fun h => by cases h)) e_ce
  have e_h : f4 h = .inr (4, [.ref ce, .ref co, lay, .int k0, .int k1, .int k2, .int k3]) := up_self ef4
  have fr : ∀ b, b ∈ L → b ≠ h → b ≠ co → b ≠ ce → f4 b = f b := fun b mb nb0 nb1 nb2 => (up_ne ef4 nb0 rfl).trans (fr b mb nb0 nb1 nb2)
  refine lv_aload_n hx hb dX6_begin_21 rfl (lv_at hl 0 rfl) ?_
  refine q_get hx hb hts in_X6 hown S m_h e_h (C := RX6) (T := TX6) (N := 7) rfl 1 (by decide) rfl (hts (.fieldLink RX6 18 "SieveCabinet$Sieve" "contents" "LSieveCabinet$Bag;") (by decide +kernel)) dX6_begin_22 ?_
  refine q_vv (As := []) (rest := []) ⟨hx, hb, hml, hown, hts⟩ (c_X0_empty l D g m_co e_co) (cwV 0 hts gX6_begin_X0_empty rfl rfl rfl (by decide +kernel) ⟨Nat.le_of_ble_eq_true rfl, Nat.le_of_ble_eq_true rfl⟩) S m_co e_co (T := TX0) (N := 2) rfl rfl hl.1 rfl (Nat.le_of_ble_eq_true rfl) dX6_begin_25 ⟨Nat.le_of_ble_eq_true rfl, Nat.le_of_ble_eq_true rfl⟩ (fun L5 f6 H locs S w25 => ?_)
  obtain ⟨eLw25, efw25⟩ := w25
  rw [eLw25, efw25] at S
  obtain ⟨f8, ef8⟩ : ∃ z_, z_ = va_up f4 co (.inr (0, [.ref cr, .int 0])) := ⟨_, rfl⟩
  have S : PS D g (va_A (va_pl L f) sz) s.heap s L f8 H locs := by rw [ef8]; exact S
  have e_h : f8 h = .inr (4, [.ref ce, .ref co, lay, .int k0, .int k1, .int k2, .int k3]) := up_ne ef8 (ne_sh e_co e_h (by intro h; injection h with h; injection h with h1 h2; first | (cases h1; done) | (cases h2; done) | (injection h2 with h3 h4; cases h4; done))) e_h
  have e_ce : f8 ce = .inl (g 0, 4096, .inl v) := up_ne ef8 (ne_sh e_co e_ce (fun h => by cases h)) e_ce
  have e_co : f8 co = .inr (0, [.ref cr, .int 0]) := up_self ef8
  have fr : ∀ b, b ∈ L → b ≠ h → b ≠ co → b ≠ ce → f8 b = f b := fun b mb nb0 nb1 nb2 => (up_ne ef8 nb1 rfl).trans (fr b mb nb0 nb1 nb2)
  refine lv_aload_n hx hb dX6_begin_28 rfl (lv_at hl 0 rfl) ?_
  refine q_get hx hb hts in_X6 hown S m_h e_h (C := RX6) (T := TX6) (N := 7) rfl 0 (by decide) rfl (hts (.fieldLink RX6 9 "SieveCabinet$Sieve" "cells" "[I") (by decide +kernel)) dX6_begin_29 ?_
  refine lv_iconst (v := 0) hx hb dX6_begin_32 (by decide) ?_
  refine q_sv (As := [.ref ce, .int 0]) (rest := []) ⟨hx, hb, hml, hown, hts⟩ (c_J7_fill_53178 l D g m_ce e_ce (by decide)) (va_cwS 2 hts gX6_begin_J7_fill_53178 rfl rfl rfl (by decide +kernel) ⟨Nat.le_of_ble_eq_true rfl, Nat.le_of_ble_eq_true rfl⟩) S rfl hl.1 rfl (Nat.le_of_ble_eq_true rfl) dX6_begin_33 ⟨Nat.le_of_ble_eq_true rfl, Nat.le_of_ble_eq_true rfl⟩ (fun L9 f10 H locs S w33 => ?_)
  obtain ⟨eLw33, fz33, efw33⟩ := w33
  rw [eLw33, efw33] at S
  obtain ⟨f12, ef12⟩ : ∃ z_, z_ = va_up f8 ce (.inl (g 0, 4096, .inl fz33)) := ⟨_, rfl⟩
  have S : PS D g (va_A (va_pl L f) sz) s.heap s L f12 H locs := by rw [ef12]; exact S
  have e_h : f12 h = .inr (4, [.ref ce, .ref co, lay, .int k0, .int k1, .int k2, .int k3]) := up_ne ef12 (ne_sh e_ce e_h (fun h => by cases h)) e_h
  have e_co : f12 co = .inr (0, [.ref cr, .int 0]) := up_ne ef12 (ne_sh e_ce e_co (fun h => by cases h)) e_co
  have e_ce : f12 ce = .inl (g 0, 4096, .inl fz33) := up_self ef12
  have fr : ∀ b, b ∈ L → b ≠ h → b ≠ co → b ≠ ce → f12 b = f b := fun b mb nb0 nb1 nb2 => (up_ne ef12 nb2 rfl).trans (fr b mb nb0 nb1 nb2)
  exact q_retv (post := fun L1 f1 => L1 = L ∧ (∀ b, b ∈ L → b ≠ h → b ≠ co → b ≠ ce → f1 b = f b) ∧ ∃ v1 : Nat → Int32, f1 h = .inr (4, [.ref ce, .ref co, lay, .int k0, .int k1, .int k2, .int k3]) ∧ f1 co = .inr (0, [.ref cr, .int 0]) ∧ f1 ce = .inl (g 0, 4096, .inl v1)) hx hb hr hlk S dX6_begin_36 (by decide) (by decide) (⟨rfl, fr, _, e_h, e_co, e_ce⟩)

set_option maxHeartbeats 4000000 in
set_option maxRecDepth 100000 in
/-- BitRow.begin -/
theorem c_X1_begin (l : Launch) (D : va_G) (g : Nat → ClassId) {L : List Nat} {f : Nat → va_E} {h w b0 b1 : Nat} {v : Nat → Int64} (m_h : h ∈ L) (e_h : f h = .inr (1, [.ref w, .int ((nI b0))])) (m_w : w ∈ L) (e_w : f w = .inl (g 1, 64, .inr (.inl v))) (hb1 : b1 ≤ 4096) : cV l yX1_begin wsX1_begin { frames := 1, cells := 0, slots := 0, locals := 24 } D g [.ref h, .int ((nI b1))] L f 0 0 (fun L1 f1 => L1 = L ∧ (∀ b, b ∈ L → b ≠ h → b ≠ w → f1 b = f b) ∧ ∃ v1 : Nat → Int64, f1 h = .inr (1, [.ref w, .int ((nI b1))]) ∧ f1 w = .inl (g 1, 64, .inr (.inl v1))) := by
  refine cV_of (cc := cX1_begin) (maxL := 2) (ret := none) (by decide) rfl (Nat.le_of_ble_eq_true rfl) ?_
  intro sz p e s m below meth c hx hb hr hml hts hown hlk hnm S ls hl
  have hl : lv_has ls 2 [(0, .ref h), (1, .int ((nI b1)))] := hl
  have in_X1 : ∀ w ∈ wsX10, w ∈ wsX1_begin := by decide +kernel
  have fr : ∀ b, b ∈ L → b ≠ h → b ≠ w → f b = f b := fun _ _ _ _ => rfl
  have mono : ∀ b, b ∈ L → b ∈ L := fun _ h => h
  refine lv_aload_n hx hb dX1_begin_0 rfl (lv_at hl 0 rfl) ?_
  refine lv_iconst (v := 0) hx hb dX1_begin_1 (by decide) ?_
  refine lv_iload_n hx hb dX1_begin_2 rfl (lv_at hl 1 rfl) ?_
  refine lv_sipush (v := 4096) hx hb dX1_begin_3 (by decide) ?_
  refine va_mmin (rest := [.int 0, .ref h]) hx hb (by rw [hml]; exact hl.1.symm) hown (hts (.methodLink RX1 15 Lib.Math.min.name) (by decide +kernel)) (hts (.static Lib.Math.min.name) (by decide +kernel)) (hts (.initialized "java/lang/Math") (by decide +kernel)) (hts (.code Lib.Math.min.name Lib.Math.min.code 2 (some .int)) (by decide +kernel)) (Nat.le_of_ble_eq_true rfl) (Nat.le_of_ble_eq_true rfl) (Nat.le_of_ble_eq_true rfl) (Nat.le_of_ble_eq_true rfl) dX1_begin_6 ?_
  refine lv_topi (fun t_ et_ => ?_)
  obtain rfl : t_ = nI b1 := et_.trans (pu_min b1 hb1)
  refine va_mmax (rest := [.ref h]) hx hb (by rw [hml]; exact hl.1.symm) hown (hts (.methodLink RX1 21 Lib.Math.max.name) (by decide +kernel)) (hts (.static Lib.Math.max.name) (by decide +kernel)) (hts (.initialized "java/lang/Math") (by decide +kernel)) (hts (.code Lib.Math.max.name Lib.Math.max.code 2 (some .int)) (by decide +kernel)) (Nat.le_of_ble_eq_true rfl) (Nat.le_of_ble_eq_true rfl) (Nat.le_of_ble_eq_true rfl) (Nat.le_of_ble_eq_true rfl) dX1_begin_9 ?_
  refine lv_topi (fun t_ et_ => ?_)
  obtain rfl : t_ = nI b1 := et_.trans (pu_max b1 (by omega))
  refine q_put hx hb hts in_X1 tyX1 tyX1_ok nmX1 hown S m_h e_h (C := RX1) (T := TX1) (N := 2) rfl 1 (by decide) (hts (.fieldLink RX1 24 "SieveCabinet$BitRow" "size" "I") (by decide +kernel)) rfl rfl rfl (Nat.le_of_ble_eq_true rfl) dX1_begin_12 (fun H locs S => ?_)
  obtain ⟨f1, ef1⟩ : ∃ z_, z_ = va_up f h (.inr (1, [.ref w, .int ((nI b1))])) := ⟨_, rfl⟩
  have S : PS D g (va_A (va_pl L f) sz) s.heap s L f1 H locs := by rw [ef1]; exact S
  have e_w : f1 w = .inl (g 1, 64, .inr (.inl v)) := up_ne ef1 (ne_sh e_h e_w (fun h => by cases h)) e_w
  have e_h : f1 h = .inr (1, [.ref w, .int ((nI b1))]) := up_self ef1
  have fr : ∀ b, b ∈ L → b ≠ h → b ≠ w → f1 b = f b := fun b mb nb0 nb1 => (up_ne ef1 nb0 rfl).trans (fr b mb nb0 nb1)
  refine lv_aload_n hx hb dX1_begin_15 rfl (lv_at hl 0 rfl) ?_
  refine q_get hx hb hts in_X1 hown S m_h e_h (C := RX1) (T := TX1) (N := 2) rfl 0 (by decide) rfl (hts (.fieldLink RX1 9 "SieveCabinet$BitRow" "words" "[J") (by decide +kernel)) dX1_begin_16 ?_
  refine lv_lconst (v := 0) hx hb dX1_begin_19 (by decide) ?_
  refine q_sv (As := [.ref w, .long 0]) (rest := []) ⟨hx, hb, hml, hown, hts⟩ (c_J7_fill_d0a16 l D g m_w e_w (by decide)) (va_cwS 2 hts gX1_begin_J7_fill_d0a16 rfl rfl rfl (by decide +kernel) ⟨Nat.le_of_ble_eq_true rfl, Nat.le_of_ble_eq_true rfl⟩) S rfl hl.1 rfl (Nat.le_of_ble_eq_true rfl) dX1_begin_20 ⟨Nat.le_of_ble_eq_true rfl, Nat.le_of_ble_eq_true rfl⟩ (fun L2 f3 H locs S w20 => ?_)
  obtain ⟨eLw20, fz20, efw20⟩ := w20
  rw [eLw20, efw20] at S
  obtain ⟨f5, ef5⟩ : ∃ z_, z_ = va_up f1 w (.inl (g 1, 64, .inr (.inl fz20))) := ⟨_, rfl⟩
  have S : PS D g (va_A (va_pl L f) sz) s.heap s L f5 H locs := by rw [ef5]; exact S
  have e_h : f5 h = .inr (1, [.ref w, .int ((nI b1))]) := up_ne ef5 (ne_sh e_w e_h (fun h => by cases h)) e_h
  have e_w : f5 w = .inl (g 1, 64, .inr (.inl fz20)) := up_self ef5
  have fr : ∀ b, b ∈ L → b ≠ h → b ≠ w → f5 b = f b := fun b mb nb0 nb1 => (up_ne ef5 nb1 rfl).trans (fr b mb nb0 nb1)
  exact q_retv (post := fun L1 f1 => L1 = L ∧ (∀ b, b ∈ L → b ≠ h → b ≠ w → f1 b = f b) ∧ ∃ v1 : Nat → Int64, f1 h = .inr (1, [.ref w, .int ((nI b1))]) ∧ f1 w = .inl (g 1, 64, .inr (.inl v1))) hx hb hr hlk S dX1_begin_23 (by decide) (by decide) (⟨rfl, fr, _, e_h, e_w⟩)

set_option maxHeartbeats 4000000 in
set_option maxRecDepth 100000 in
/-- BitRow.clear -/
theorem c_X1_clear (l : Launch) (D : va_G) (g : Nat → ClassId) {L : List Nat} {f : Nat → va_E} {h w b0 : Nat} {i : Int32} {v : Nat → Int64} (m_h : h ∈ L) (e_h : f h = .inr (1, [.ref w, .int ((nI b0))])) (m_w : w ∈ L) (e_w : f w = .inl (g 1, 64, .inr (.inl v))) (hb0 : b0 ≤ 4096) : cV l yX1_clear wsX1_clear { frames := 0, cells := 0, slots := 0, locals := 0 } D g [.ref h, .int i] L f 0 0 (fun L1 f1 => L1 = L ∧ (∀ b, b ∈ L → b ≠ w → f1 b = f b) ∧ ∃ v1 : Nat → Int64, f1 w = .inl (g 1, 64, .inr (.inl v1))) := by
  refine cV_of (cc := cX1_clear) (maxL := 2) (ret := none) (by decide) rfl (Nat.le_of_ble_eq_true rfl) ?_
  intro sz p e s m below meth c hx hb hr hml hts hown hlk hnm S ls hl
  have hl : lv_has ls 2 [(0, .ref h), (1, .int i)] := hl
  have in_X1 : ∀ w ∈ wsX10, w ∈ wsX1_clear := by decide +kernel
  have fr : ∀ b, b ∈ L → b ≠ w → f b = f b := fun _ _ _ => rfl
  have mono : ∀ b, b ∈ L → b ∈ L := fun _ h => h
  refine lv_iload_n hx hb dX1_clear_0 rfl (lv_at hl 1 rfl) ?_
  refine lv_if_lt (tgt := 34) hx hb dX1_clear_1 (by decide) (fun b1 => ?_) (fun b1 => ?_)
  · skip
    exact q_retv (post := fun L1 f1 => L1 = L ∧ (∀ b, b ∈ L → b ≠ w → f1 b = f b) ∧ ∃ v1 : Nat → Int64, f1 w = .inl (g 1, 64, .inr (.inl v1))) hx hb hr hlk S dX1_clear_34 (by decide) (by decide) (⟨rfl, fr, _, e_w⟩)
  · skip
    refine lv_iload_n hx hb dX1_clear_4 rfl (lv_at hl 1 rfl) ?_
    refine lv_aload_n hx hb dX1_clear_5 rfl (lv_at hl 0 rfl) ?_
    refine q_get hx hb hts in_X1 hown S m_h e_h (C := RX1) (T := TX1) (N := 2) rfl 1 (by decide) rfl (hts (.fieldLink RX1 24 "SieveCabinet$BitRow" "size" "I") (by decide +kernel)) dX1_clear_6 ?_
    refine lv_icmp_ge (tgt := 34) hx hb dX1_clear_9 (by decide) (fun b9 => ?_) (fun b9 => ?_)
    · skip
      exact q_retv (post := fun L1 f1 => L1 = L ∧ (∀ b, b ∈ L → b ≠ w → f1 b = f b) ∧ ∃ v1 : Nat → Int64, f1 w = .inl (g 1, 64, .inr (.inl v1))) hx hb hr hlk S dX1_clear_34 (by decide) (by decide) (⟨rfl, fr, _, e_w⟩)
    · skip
      refine lv_aload_n hx hb dX1_clear_12 rfl (lv_at hl 0 rfl) ?_
      refine q_get hx hb hts in_X1 hown S m_h e_h (C := RX1) (T := TX1) (N := 2) rfl 0 (by decide) rfl (hts (.fieldLink RX1 9 "SieveCabinet$BitRow" "words" "[J") (by decide +kernel)) dX1_clear_13 ?_
      refine lv_iload_n hx hb dX1_clear_16 rfl (lv_at hl 1 rfl) ?_
      refine lv_bipush (v := 64) hx hb dX1_clear_17 (by decide) ?_
      refine lv_idiv hx hb dX1_clear_19 (by decide) ?_
      refine lv_dup2_11 hx hb dX1_clear_20 rfl rfl ?_
      refine q_lald hx hb S m_w e_w (pu_64 b1 b9 hb0) dX1_clear_21 ?_
      refine lv_lconst (v := 1) hx hb dX1_clear_22 (by decide) ?_
      refine lv_iload_n hx hb dX1_clear_23 rfl (lv_at hl 1 rfl) ?_
      refine lv_bipush (v := 64) hx hb dX1_clear_24 (by decide) ?_
      refine lv_irem hx hb dX1_clear_26 (by decide) ?_
      refine lv_lshl hx hb dX1_clear_27 rfl ?_
      refine lv_ldc2 (v := (-1)) hx hb hown (hts (.constantLong RX1 34 (-1)) (by decide +kernel)) dX1_clear_28 ?_
      refine lv_lxor hx hb dX1_clear_31 ?_
      refine lv_land hx hb dX1_clear_32 ?_
      refine q_last hx hb S m_w e_w (pu_64 b1 b9 hb0) dX1_clear_33 (fun H locs S => ?_)
      obtain ⟨f1, ef1⟩ : ∃ z_, z_ = va_up f w (.inl (g 1, 64, .inr (.inl (vp_updL v ((i / 64) : Int32).toNatClampNeg ((v ((i / 64) : Int32).toNatClampNeg) &&& ((1 <<< ((i - i / 64 * 64).toInt64 &&& 63)) ^^^ (-1))))))) := ⟨_, rfl⟩
      have S : PS D g (va_A (va_pl L f) sz) s.heap s L f1 H locs := by rw [ef1]; exact S
      have e_h : f1 h = .inr (1, [.ref w, .int ((nI b0))]) := up_ne ef1 (ne_sh e_w e_h (fun h => by cases h)) e_h
      have e_w : f1 w = .inl (g 1, 64, .inr (.inl (vp_updL v ((i / 64) : Int32).toNatClampNeg ((v ((i / 64) : Int32).toNatClampNeg) &&& ((1 <<< ((i - i / 64 * 64).toInt64 &&& 63)) ^^^ (-1)))))) := up_self ef1
      have fr : ∀ b, b ∈ L → b ≠ w → f1 b = f b := fun b mb nb0 => (up_ne ef1 nb0 rfl).trans (fr b mb nb0)
      exact q_retv (post := fun L1 f1 => L1 = L ∧ (∀ b, b ∈ L → b ≠ w → f1 b = f b) ∧ ∃ v1 : Nat → Int64, f1 w = .inl (g 1, 64, .inr (.inl v1))) hx hb hr hlk S dX1_clear_34 (by decide) (by decide) (⟨rfl, fr, _, e_w⟩)

set_option maxHeartbeats 4000000 in
set_option maxRecDepth 100000 in
/-- BitRow.set -/
theorem c_X1_set (l : Launch) (D : va_G) (g : Nat → ClassId) {L : List Nat} {f : Nat → va_E} {h w b0 : Nat} {i : Int32} {v : Nat → Int64} (m_h : h ∈ L) (e_h : f h = .inr (1, [.ref w, .int ((nI b0))])) (m_w : w ∈ L) (e_w : f w = .inl (g 1, 64, .inr (.inl v))) (hb0 : b0 ≤ 4096) : cV l yX1_set wsX1_set { frames := 0, cells := 0, slots := 0, locals := 0 } D g [.ref h, .int i] L f 0 0 (fun L1 f1 => L1 = L ∧ (∀ b, b ∈ L → b ≠ w → f1 b = f b) ∧ ∃ v1 : Nat → Int64, f1 w = .inl (g 1, 64, .inr (.inl v1))) := by
  refine cV_of (cc := cX1_set) (maxL := 2) (ret := none) (by decide) rfl (Nat.le_of_ble_eq_true rfl) ?_
  intro sz p e s m below meth c hx hb hr hml hts hown hlk hnm S ls hl
  have hl : lv_has ls 2 [(0, .ref h), (1, .int i)] := hl
  have in_X1 : ∀ w ∈ wsX10, w ∈ wsX1_set := by decide +kernel
  have fr : ∀ b, b ∈ L → b ≠ w → f b = f b := fun _ _ _ => rfl
  have mono : ∀ b, b ∈ L → b ∈ L := fun _ h => h
  refine lv_iload_n hx hb dX1_set_0 rfl (lv_at hl 1 rfl) ?_
  refine lv_if_lt (tgt := 30) hx hb dX1_set_1 (by decide) (fun b1 => ?_) (fun b1 => ?_)
  · skip
    exact q_retv (post := fun L1 f1 => L1 = L ∧ (∀ b, b ∈ L → b ≠ w → f1 b = f b) ∧ ∃ v1 : Nat → Int64, f1 w = .inl (g 1, 64, .inr (.inl v1))) hx hb hr hlk S dX1_set_30 (by decide) (by decide) (⟨rfl, fr, _, e_w⟩)
  · skip
    refine lv_iload_n hx hb dX1_set_4 rfl (lv_at hl 1 rfl) ?_
    refine lv_aload_n hx hb dX1_set_5 rfl (lv_at hl 0 rfl) ?_
    refine q_get hx hb hts in_X1 hown S m_h e_h (C := RX1) (T := TX1) (N := 2) rfl 1 (by decide) rfl (hts (.fieldLink RX1 24 "SieveCabinet$BitRow" "size" "I") (by decide +kernel)) dX1_set_6 ?_
    refine lv_icmp_ge (tgt := 30) hx hb dX1_set_9 (by decide) (fun b9 => ?_) (fun b9 => ?_)
    · skip
      exact q_retv (post := fun L1 f1 => L1 = L ∧ (∀ b, b ∈ L → b ≠ w → f1 b = f b) ∧ ∃ v1 : Nat → Int64, f1 w = .inl (g 1, 64, .inr (.inl v1))) hx hb hr hlk S dX1_set_30 (by decide) (by decide) (⟨rfl, fr, _, e_w⟩)
    · skip
      refine lv_aload_n hx hb dX1_set_12 rfl (lv_at hl 0 rfl) ?_
      refine q_get hx hb hts in_X1 hown S m_h e_h (C := RX1) (T := TX1) (N := 2) rfl 0 (by decide) rfl (hts (.fieldLink RX1 9 "SieveCabinet$BitRow" "words" "[J") (by decide +kernel)) dX1_set_13 ?_
      refine lv_iload_n hx hb dX1_set_16 rfl (lv_at hl 1 rfl) ?_
      refine lv_bipush (v := 64) hx hb dX1_set_17 (by decide) ?_
      refine lv_idiv hx hb dX1_set_19 (by decide) ?_
      refine lv_dup2_11 hx hb dX1_set_20 rfl rfl ?_
      refine q_lald hx hb S m_w e_w (pu_64 b1 b9 hb0) dX1_set_21 ?_
      refine lv_lconst (v := 1) hx hb dX1_set_22 (by decide) ?_
      refine lv_iload_n hx hb dX1_set_23 rfl (lv_at hl 1 rfl) ?_
      refine lv_bipush (v := 64) hx hb dX1_set_24 (by decide) ?_
      refine lv_irem hx hb dX1_set_26 (by decide) ?_
      refine lv_lshl hx hb dX1_set_27 rfl ?_
      refine lv_lor hx hb dX1_set_28 ?_
      refine q_last hx hb S m_w e_w (pu_64 b1 b9 hb0) dX1_set_29 (fun H locs S => ?_)
      obtain ⟨f1, ef1⟩ : ∃ z_, z_ = va_up f w (.inl (g 1, 64, .inr (.inl (vp_updL v ((i / 64) : Int32).toNatClampNeg ((v ((i / 64) : Int32).toNatClampNeg) ||| (1 <<< ((i - i / 64 * 64).toInt64 &&& 63))))))) := ⟨_, rfl⟩
      have S : PS D g (va_A (va_pl L f) sz) s.heap s L f1 H locs := by rw [ef1]; exact S
      have e_h : f1 h = .inr (1, [.ref w, .int ((nI b0))]) := up_ne ef1 (ne_sh e_w e_h (fun h => by cases h)) e_h
      have e_w : f1 w = .inl (g 1, 64, .inr (.inl (vp_updL v ((i / 64) : Int32).toNatClampNeg ((v ((i / 64) : Int32).toNatClampNeg) ||| (1 <<< ((i - i / 64 * 64).toInt64 &&& 63)))))) := up_self ef1
      have fr : ∀ b, b ∈ L → b ≠ w → f1 b = f b := fun b mb nb0 => (up_ne ef1 nb0 rfl).trans (fr b mb nb0)
      exact q_retv (post := fun L1 f1 => L1 = L ∧ (∀ b, b ∈ L → b ≠ w → f1 b = f b) ∧ ∃ v1 : Nat → Int64, f1 w = .inl (g 1, 64, .inr (.inl v1))) hx hb hr hlk S dX1_set_30 (by decide) (by decide) (⟨rfl, fr, _, e_w⟩)
