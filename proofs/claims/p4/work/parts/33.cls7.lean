set_option maxHeartbeats 4000000 in
set_option maxRecDepth 100000 in
/-- span on a new one -/
theorem c_X8_span0 (l : Launch) (D : va_G) (g : Nat → ClassId) {L : List Nat} {f : Nat → va_E} {x wo Sl dr ri th so ch : Nat} {wf : Nat → Option Nat} {Lx : List Nat} {j n drr wb wrb : Nat} {vd vb : Nat → Int64} {fst : Int64} {step : Int32} (m_x : x ∈ L) (e_x : f x = .inr (6, [.ref wo, .ref Sl, .ref dr, .ref ri, .ref th, .ref so, .ref ch, .int 0])) (m_wo : wo ∈ L) (e_wo : f wo = .inl (g 3, 8, .inr (.inr (.inr (.inr wf))))) (m_dr : dr ∈ L) (e_dr : f dr = .inr (0, [.ref drr, .int ((nI 0))])) (m_drr : drr ∈ L) (e_drr : f drr = .inl (g 1, 1000, .inr (.inl vd))) (m_wb : wb ∈ L) (e_wb : f wb = .inr (0, [.ref wrb, .int ((nI 0))])) (m_wrb : wrb ∈ L) (e_wrb : f wrb = .inl (g 1, 1000, .inr (.inl vb))) (hj : j < 8) (hwf : wf j = some wb) (n_b_dr : wb ≠ dr) (n_rb_drr : wrb ≠ drr) (hn1 : 1 ≤ n) (hn2 : n ≤ 1000) (lx_dr : dr ∈ Lx) (lx_drr : drr ∈ Lx) (lx_wb : wb ∈ Lx) (lx_wrb : wrb ∈ Lx) : cI l yX8_span wsX8_span { frames := 2, cells := 0, slots := 0, locals := 48 } D g [.ref x, .int ((nI j)), .long fst, .int step, .int ((nI n))] L f 0 0 (fun r L1 f1 => r = nI (mr step n) ∧ (∀ b, b ∈ L → b ∈ L1) ∧ (∀ b, b ∈ L → b ∉ Lx → f1 b = f b)) := by
  refine cI_of (cc := cX8_span) (maxL := 10) (ret := (some .int)) (by decide) rfl (Nat.le_of_ble_eq_true rfl) ?_
  intro sz p e s m below meth c hx hb hr hml hts hown hlk hnm S ls hl
  have hl : lv_has ls 10 [(0, .ref x), (1, .int ((nI j))), (2, .long fst), (4, .int step), (5, .int ((nI n)))] := hl
  have in_X8 : ∀ w ∈ wsX80, w ∈ wsX8_span := by decide +kernel
  have fr : ∀ b, b ∈ L → b ≠ dr → b ≠ drr → b ≠ wb → b ≠ wrb → f b = f b := fun _ _ _ _ _ _ => rfl
  have mono : ∀ b, b ∈ L → b ∈ L := fun _ h => h
  refine lv_aload_n hx hb dX8_span_0 rfl (lv_at hl 0 rfl) ?_
  refine lv_iload_n hx hb dX8_span_1 rfl (lv_at hl 1 rfl) ?_
  refine q_vq (As := [.int ((nI j))]) (rest := []) ⟨hx, hb, hml, hown, hts⟩ (c_X8_worldAt l D g m_x e_x m_wo e_wo) (cwV 1 hts gX8_span_X8_worldAt rfl rfl rfl (by decide +kernel) ⟨Nat.le_of_ble_eq_true rfl, Nat.le_of_ble_eq_true rfl⟩) S m_x e_x (T := TX8) (N := 8) rfl rfl hl.1 rfl (Nat.le_of_ble_eq_true rfl) dX8_span_2 ⟨Nat.le_of_ble_eq_true rfl, Nat.le_of_ble_eq_true rfl⟩ (fun r3 L1 f2 H locs S w2 => ?_)
  obtain ⟨exw2, eLw2, efw2⟩ := w2
  rw [eLw2, efw2] at S
  rw [if_pos ⟨nI_pos (by omega), nI_ge (b := 8) hj (by decide)⟩, nI_clamp (by omega), hwf] at exw2
  subst exw2
  refine W.eq (g2 := F0 m 5 ls [.ref wb]) rfl ?_
  refine lv_astore (lv' := [(6, .ref wb), (0, .ref x), (1, .int ((nI j))), (2, .long fst), (4, .int step), (5, .int ((nI n)))]) hx hb dX8_span_5 hl (by decide) rfl (fun ls hl => ?_)
  refine lv_aload hx hb dX8_span_7 (lv_at hl 0 rfl) ?_
  refine lv_ifnull hx hb dX8_span_9 ?_
  refine lv_iload hx hb dX8_span_12 (lv_at hl 5 rfl) ?_
  refine lv_iconst (v := 1) hx hb dX8_span_14 (by decide) ?_
  refine lv_icmp_lt (tgt := 26) hx hb dX8_span_15 (by decide) (fun b15 => absurd b15 (fun h => absurd ((nI_ltI (b := 1) (by omega) (by decide)).mp h) (by omega))) (fun b15 => ?_)
  refine lv_iload hx hb dX8_span_18 (lv_at hl 5 rfl) ?_
  refine lv_sipush (v := 1000) hx hb dX8_span_20 (by decide) ?_
  refine lv_icmp_le (tgt := 28) hx hb dX8_span_23 (by decide) (fun b23 => ?_) (fun b23 => absurd (nI_le (b := 1000) hn2 (by decide)) b23)
  refine lv_aload_n hx hb dX8_span_28 rfl (lv_at hl 1 rfl) ?_
  refine q_get hx hb hts in_X8 hown S m_x e_x (C := RX8) (T := TX8) (N := 8) rfl 2 (by decide) rfl (hts (.fieldLink RX8 22 "SieveCabinet" "draft" "LSieveCabinet$Bag;") (by decide +kernel)) dX8_span_29 ?_
  refine lv_aload hx hb dX8_span_32 (lv_at hl 0 rfl) ?_
  refine q_vv (As := [.ref wb]) (rest := []) ⟨hx, hb, hml, hown, hts⟩ (c_X0_copyFrom l D g m_dr e_dr m_drr e_drr m_wb e_wb m_wrb e_wrb (by first | omega | decide) n_b_dr n_rb_drr) (cwV 1 hts gX8_span_X0_copyFrom rfl rfl rfl (by decide +kernel) ⟨Nat.le_of_ble_eq_true rfl, Nat.le_of_ble_eq_true rfl⟩) S m_dr e_dr (T := TX0) (N := 2) rfl rfl hl.1 rfl (Nat.le_of_ble_eq_true rfl) dX8_span_34 ⟨Nat.le_of_ble_eq_true rfl, Nat.le_of_ble_eq_true rfl⟩ (fun L4 f5 H locs S w34 => ?_)
  obtain ⟨eLw34, efw34⟩ := w34
  rw [eLw34, efw34] at S
  obtain ⟨f7, ef7⟩ : ∃ z_, z_ = va_up f drr (.inl (g 1, 1000, .inr (.inl (va_cpy vb vd 0 0 0)))) := ⟨_, rfl⟩
  have e_x : f7 x = .inr (6, [.ref wo, .ref Sl, .ref dr, .ref ri, .ref th, .ref so, .ref ch, .int 0]) := up_ne ef7 (ne_sh e_drr e_x (fun h => by cases h)) e_x
  have e_wo : f7 wo = .inl (g 3, 8, .inr (.inr (.inr (.inr wf)))) := up_ne ef7 (ne_sh e_drr e_wo (by intro h; injection h with h; injection h with h1 h2; first | (cases h1; done) | (cases h2; done) | (injection h2 with h3 h4; cases h4; done))) e_wo
  have e_dr : f7 dr = .inr (0, [.ref drr, .int ((nI 0))]) := up_ne ef7 (ne_sh e_drr e_dr (fun h => by cases h)) e_dr
  have e_wb : f7 wb = .inr (0, [.ref wrb, .int ((nI 0))]) := up_ne ef7 (ne_sh e_drr e_wb (fun h => by cases h)) e_wb
  have e_wrb : f7 wrb = .inl (g 1, 1000, .inr (.inl vb)) := up_ne ef7 n_rb_drr e_wrb
  have e_drr : f7 drr = .inl (g 1, 1000, .inr (.inl (va_cpy vb vd 0 0 0))) := up_self ef7
  have fr : ∀ b, b ∈ L → b ≠ dr → b ≠ drr → b ≠ wb → b ≠ wrb → f7 b = f b := fun b mb nb0 nb1 nb2 nb3 => (up_ne ef7 nb1 rfl).trans (fr b mb nb0 nb1 nb2 nb3)
  obtain ⟨f8, ef8⟩ : ∃ z_, z_ = va_up f7 dr (.inr (0, [.ref drr, .int ((nI 0))])) := ⟨_, rfl⟩
  have S : PS D g (va_A (va_pl L f) sz) s.heap s L f8 H locs := by rw [ef8, ef7]; exact S
  have e_x : f8 x = .inr (6, [.ref wo, .ref Sl, .ref dr, .ref ri, .ref th, .ref so, .ref ch, .int 0]) := up_ne ef8 (ne_sh e_dr e_x (by intro h; injection h with h; injection h with h1 h2; first | (cases h1; done) | (cases h2; done) | (injection h2 with h3 h4; cases h4; done))) e_x
  have e_wo : f8 wo = .inl (g 3, 8, .inr (.inr (.inr (.inr wf)))) := up_ne ef8 (ne_sh e_dr e_wo (fun h => by cases h)) e_wo
  have e_drr : f8 drr = .inl (g 1, 1000, .inr (.inl (va_cpy vb vd 0 0 0))) := up_ne ef8 (ne_sh e_dr e_drr (fun h => by cases h)) e_drr
  have e_wb : f8 wb = .inr (0, [.ref wrb, .int ((nI 0))]) := up_ne ef8 n_b_dr e_wb
  have e_wrb : f8 wrb = .inl (g 1, 1000, .inr (.inl vb)) := up_ne ef8 (ne_sh e_dr e_wrb (fun h => by cases h)) e_wrb
  have e_dr : f8 dr = .inr (0, [.ref drr, .int ((nI 0))]) := up_self ef8
  have fr : ∀ b, b ∈ L → b ≠ dr → b ≠ drr → b ≠ wb → b ≠ wrb → f8 b = f b := fun b mb nb0 nb1 nb2 nb3 => (up_ne ef8 nb0 rfl).trans (fr b mb nb0 nb1 nb2 nb3)
  refine lv_iconst (v := 0) hx hb dX8_span_37 (by decide) ?_
  refine lv_istore (lv' := [(7, .int 0), (6, .ref wb), (0, .ref x), (1, .int ((nI j))), (2, .long fst), (4, .int step), (5, .int ((nI n)))]) hx hb dX8_span_38 hl (by decide) rfl (fun ls hl => ?_)
  obtain ⟨i, ei⟩ : ∃ z_ : Nat, z_ = 0 := ⟨_, rfl⟩
  obtain ⟨cN, ecN⟩ : ∃ z_ : Nat, z_ = 0 := ⟨_, rfl⟩
  obtain ⟨k_drr, ek_drr⟩ : ∃ z_ : Nat → Int64, z_ = (va_cpy vb vd 0 0 0) := ⟨_, rfl⟩
  obtain ⟨fl, efl⟩ : ∃ z_, z_ = f8 := ⟨_, rfl⟩
  have e_x : fl x = .inr (6, [.ref wo, .ref Sl, .ref dr, .ref ri, .ref th, .ref so, .ref ch, .int 0]) := by rw [efl]; exact e_x
  have e_wo : fl wo = .inl (g 3, 8, .inr (.inr (.inr (.inr wf)))) := by rw [efl]; exact e_wo
  have e_dr : fl dr = .inr (0, [.ref drr, .int ((nI cN))]) := by rw [efl, ecN]; exact e_dr
  have e_drr : fl drr = .inl (g 1, 1000, .inr (.inl k_drr)) := by rw [efl, ek_drr]; exact e_drr
  have e_wb : fl wb = .inr (0, [.ref wrb, .int ((nI 0))]) := by rw [efl]; exact e_wb
  have e_wrb : fl wrb = .inl (g 1, 1000, .inr (.inl vb)) := by rw [efl]; exact e_wrb
  have fr : ∀ b, b ∈ L → b ≠ dr → b ≠ drr → b ≠ wb → b ≠ wrb → fl b = f b := by rw [efl]; exact fr
  have S_0 : PS D g (va_A (va_pl L f) sz) s.heap s L fl H locs := by rw [efl]; exact S
  refine W_any (X := fun H locs => PS D g (va_A (va_pl L f) sz) s.heap s L fl H locs) S_0 (fun H locs S => ?_)
  refine W_ls (lv := [(7, .int ((nI i))), (0, .ref x), (1, .int ((nI j))), (2, .long fst), (4, .int step), (5, .int ((nI n))), (6, .ref wb)]) (by have q := lv_sub hl [0, 2, 3, 4, 5, 6, 1] rfl; rw [ei]; exact q) (fun ls hl => ?_)
  have hin : i ≤ n := by omega
  have hcN : cN = mr step i := by rw [ecN, ei]; exact (Nat.le_zero.mp (mr_le step 0)).symm
  have hu : ∀ a, a < cN → ∃ b9, b9 < i ∧ k_drr a = tk fst step b9 := by intro a ha; omega
  obtain ⟨d, hd⟩ : ∃ z_ : Nat, n - i < z_ := ⟨n - i + 1, by omega⟩
  clear ei ecN ek_drr efl S_0
  induction d generalizing i cN k_drr fl H locs ls with
  | zero => exact absurd hd (by omega)
  | succ d ih =>
    refine lv_iload hx hb dX8_span_40 (lv_at hl 0 rfl) ?_
    refine lv_iload hx hb dX8_span_42 (lv_at hl 5 rfl) ?_
    refine lv_icmp_ge (tgt := 91) hx hb dX8_span_44 (by decide) (fun b44 => ?_) (fun b44 => ?_)
    · skip
      have hiN : i = n := by have := (nI_leI (by omega) (by omega)).mp b44; omega
      have hcle := mr_le step i
      refine lv_aload hx hb dX8_span_91 (lv_at hl 6 rfl) ?_
      refine lv_aload_n hx hb dX8_span_93 rfl (lv_at hl 1 rfl) ?_
      refine q_get hx hb hts in_X8 hown S m_x e_x (C := RX8) (T := TX8) (N := 8) rfl 2 (by decide) rfl (hts (.fieldLink RX8 22 "SieveCabinet" "draft" "LSieveCabinet$Bag;") (by decide +kernel)) dX8_span_94 ?_
      refine q_vv (As := [.ref dr]) (rest := []) ⟨hx, hb, hml, hown, hts⟩ (c_X0_copyFrom l D g m_wb e_wb m_wrb e_wrb m_dr e_dr m_drr e_drr (by first | omega | decide) (Ne.symm n_b_dr) (Ne.symm n_rb_drr)) (cwV 1 hts gX8_span_X0_copyFrom rfl rfl rfl (by decide +kernel) ⟨Nat.le_of_ble_eq_true rfl, Nat.le_of_ble_eq_true rfl⟩) S m_wb e_wb (T := TX0) (N := 2) rfl rfl hl.1 rfl (Nat.le_of_ble_eq_true rfl) dX8_span_97 ⟨Nat.le_of_ble_eq_true rfl, Nat.le_of_ble_eq_true rfl⟩ (fun L9 f10 H locs S w97 => ?_)
      obtain ⟨eLw97, efw97⟩ := w97
      rw [eLw97, efw97] at S
      obtain ⟨f12, ef12⟩ : ∃ z_, z_ = va_up fl wrb (.inl (g 1, 1000, .inr (.inl (va_cpy k_drr vb 0 0 cN)))) := ⟨_, rfl⟩
      have e_x : f12 x = .inr (6, [.ref wo, .ref Sl, .ref dr, .ref ri, .ref th, .ref so, .ref ch, .int 0]) := up_ne ef12 (ne_sh e_wrb e_x (fun h => by cases h)) e_x
      have e_wo : f12 wo = .inl (g 3, 8, .inr (.inr (.inr (.inr wf)))) := up_ne ef12 (ne_sh e_wrb e_wo (by intro h; injection h with h; injection h with h1 h2; first | (cases h1; done) | (cases h2; done) | (injection h2 with h3 h4; cases h4; done))) e_wo
      have e_dr : f12 dr = .inr (0, [.ref drr, .int ((nI cN))]) := up_ne ef12 (ne_sh e_wrb e_dr (fun h => by cases h)) e_dr
      have e_drr : f12 drr = .inl (g 1, 1000, .inr (.inl k_drr)) := up_ne ef12 (Ne.symm n_rb_drr) e_drr
      have e_wb : f12 wb = .inr (0, [.ref wrb, .int ((nI 0))]) := up_ne ef12 (ne_sh e_wrb e_wb (fun h => by cases h)) e_wb
      have e_wrb : f12 wrb = .inl (g 1, 1000, .inr (.inl (va_cpy k_drr vb 0 0 cN))) := up_self ef12
      have fr : ∀ b, b ∈ L → b ≠ dr → b ≠ drr → b ≠ wb → b ≠ wrb → f12 b = f b := fun b mb nb0 nb1 nb2 nb3 => (up_ne ef12 nb3 rfl).trans (fr b mb nb0 nb1 nb2 nb3)
      obtain ⟨f13, ef13⟩ : ∃ z_, z_ = va_up f12 wb (.inr (0, [.ref wrb, .int ((nI cN))])) := ⟨_, rfl⟩
      have S : PS D g (va_A (va_pl L f) sz) s.heap s L f13 H locs := by rw [ef13, ef12]; exact S
      have e_x : f13 x = .inr (6, [.ref wo, .ref Sl, .ref dr, .ref ri, .ref th, .ref so, .ref ch, .int 0]) := up_ne ef13 (ne_sh e_wb e_x (by intro h; injection h with h; injection h with h1 h2; first | (cases h1; done) | (cases h2; done) | (injection h2 with h3 h4; cases h4; done))) e_x
      have e_wo : f13 wo = .inl (g 3, 8, .inr (.inr (.inr (.inr wf)))) := up_ne ef13 (ne_sh e_wb e_wo (fun h => by cases h)) e_wo
      have e_dr : f13 dr = .inr (0, [.ref drr, .int ((nI cN))]) := up_ne ef13 (Ne.symm n_b_dr) e_dr
      have e_drr : f13 drr = .inl (g 1, 1000, .inr (.inl k_drr)) := up_ne ef13 (ne_sh e_wb e_drr (fun h => by cases h)) e_drr
      have e_wrb : f13 wrb = .inl (g 1, 1000, .inr (.inl (va_cpy k_drr vb 0 0 cN))) := up_ne ef13 (ne_sh e_wb e_wrb (fun h => by cases h)) e_wrb
      have e_wb : f13 wb = .inr (0, [.ref wrb, .int ((nI cN))]) := up_self ef13
      have fr : ∀ b, b ∈ L → b ≠ dr → b ≠ drr → b ≠ wb → b ≠ wrb → f13 b = f b := fun b mb nb0 nb1 nb2 nb3 => (up_ne ef13 nb2 rfl).trans (fr b mb nb0 nb1 nb2 nb3)
      refine lv_aload hx hb dX8_span_100 (lv_at hl 6 rfl) ?_
      refine q_vi (As := []) (rest := []) ⟨hx, hb, hml, hown, hts⟩ (c_X0_count l D g m_wb e_wb) (cwV 0 hts gX8_span_X0_count rfl rfl rfl (by decide +kernel) ⟨Nat.le_of_ble_eq_true rfl, Nat.le_of_ble_eq_true rfl⟩) S m_wb e_wb (T := TX0) (N := 2) rfl rfl hl.1 rfl (Nat.le_of_ble_eq_true rfl) dX8_span_102 ⟨Nat.le_of_ble_eq_true rfl, Nat.le_of_ble_eq_true rfl⟩ (fun r16 L14 f15 H locs S w102 => ?_)
      obtain ⟨exw102, eLw102, efw102⟩ := w102
      rw [eLw102, efw102] at S
      subst exw102
      exact q_reti (post := fun r L1 f1 => r = nI (mr step n) ∧ (∀ b, b ∈ L → b ∈ L1) ∧ (∀ b, b ∈ L → b ∉ Lx → f1 b = f b)) hx hb hr hlk S dX8_span_105 (by decide) (by decide) (⟨by rw [hcN, hiN], mono, fun b mb hb => fr b mb (fun h => hb (h ▸ lx_dr)) (fun h => hb (h ▸ lx_drr)) (fun h => hb (h ▸ lx_wb)) (fun h => hb (h ▸ lx_wrb))⟩)
    · skip
      have hlt : i < n := Nat.lt_of_not_le (fun h => b44 (nI_le h (by omega)))
      refine lv_lload_n hx hb dX8_span_47 rfl (lv_at hl 3 rfl) ?_
      refine lv_iload hx hb dX8_span_48 (lv_at hl 0 rfl) ?_
      refine lv_i2l hx hb dX8_span_50 rfl ?_
      refine lv_iload hx hb dX8_span_51 (lv_at hl 4 rfl) ?_
      refine lv_i2l hx hb dX8_span_53 rfl ?_
      refine lv_lmul hx hb dX8_span_54 ?_
      refine lv_ladd hx hb dX8_span_55 ?_
      refine lv_topl (fun tt ett => ?_)
      refine lv_lstore (lv' := [(8, .long tt), (7, .int ((nI i))), (0, .ref x), (1, .int ((nI j))), (2, .long fst), (4, .int step), (5, .int ((nI n))), (6, .ref wb)]) hx hb dX8_span_56 hl (by decide) rfl (fun ls hl => ?_)
      refine lv_aload_n hx hb dX8_span_58 rfl (lv_at hl 2 rfl) ?_
      refine q_get hx hb hts in_X8 hown S m_x e_x (C := RX8) (T := TX8) (N := 8) rfl 2 (by decide) rfl (hts (.fieldLink RX8 22 "SieveCabinet" "draft" "LSieveCabinet$Bag;") (by decide +kernel)) dX8_span_59 ?_
      refine lv_lload hx hb dX8_span_62 (lv_at hl 0 rfl) ?_
      refine q_vi (As := [.long tt]) (rest := []) ⟨hx, hb, hml, hown, hts⟩ (c_X0_has l D g m_dr e_dr m_drr e_drr (by have := mr_le step i; omega)) (cwV 1 hts gX8_span_X0_has rfl rfl rfl (by decide +kernel) ⟨Nat.le_of_ble_eq_true rfl, Nat.le_of_ble_eq_true rfl⟩) S m_dr e_dr (T := TX0) (N := 2) rfl rfl hl.1 rfl (Nat.le_of_ble_eq_true rfl) dX8_span_64 ⟨Nat.le_of_ble_eq_true rfl, Nat.le_of_ble_eq_true rfl⟩ (fun r19 L17 f18 H locs S w64 => ?_)
      obtain ⟨exw64, eLw64, efw64⟩ := w64
      rw [eLw64, efw64] at S
      by_cases hh : cb k_drr cN tt < cN ∧ k_drr (cb k_drr cN tt) = tt
      · skip
        rw [if_pos hh] at exw64
        subst exw64
        refine lv_if_ne (tgt := 85) hx hb dX8_span_67 (by decide) (fun b67 => ?_) (fun b67 => absurd b67 (by decide))
        have hst : mr step (i + 1) = mr step i := by obtain ⟨b9, hb9, hv⟩ := hu _ hh.1; exact (if hs : step = 0 then mr_k hs (by intro h0; rw [h0] at hb9; omega) else absurd (tk_inj hs (by omega) (by omega) ((hv.symm.trans hh.2).trans ett)) (by omega))
        obtain ⟨i1, ei1⟩ : ∃ y : Int32, y = (nI i) + (1) := ⟨_, rfl⟩
        refine lv_iinc (v := i1) (lv' := [(7, .int i1), (8, .long tt), (0, .ref x), (1, .int ((nI j))), (2, .long fst), (4, .int step), (5, .int ((nI n))), (6, .ref wb)]) hx hb dX8_span_85 hl (k := 1) rfl (by rw [ei1]; rfl) (by decide) rfl (fun ls hl => ?_)
        refine lv_goto (tgt := 40) hx hb dX8_span_88 (by decide) ?_
        exact ih (i := (i + 1)) (cN := cN) (k_drr := k_drr) (fl := fl) (e_x := e_x) (e_wo := e_wo) (e_dr := e_dr) (e_drr := e_drr) (e_wb := e_wb) (e_wrb := e_wrb) (fr := fr) (H := _) (locs := _) (S := S) (ls := ls) (hd := by have hlt : i < n := Nat.lt_of_not_le (fun h => b44 (nI_le h (by omega))); omega) (hin := by omega) (hcN := by rw [hst]; exact hcN) (hu := by intro a ha; obtain ⟨b9, hb9, hv⟩ := hu a ha; exact ⟨b9, by omega, hv⟩) (hl := by have q := lv_sub hl [0, 2, 3, 4, 5, 6, 7] rfl; rw [ei1, nI_1] at q; exact q)
      · skip
        rw [if_neg hh] at exw64
        subst exw64
        refine lv_if_ne (tgt := 85) hx hb dX8_span_67 (by decide) (fun b67 => absurd b67 (fun h => h rfl)) (fun b67 => ?_)
        refine lv_aload_n hx hb dX8_span_70 rfl (lv_at hl 2 rfl) ?_
        refine q_get hx hb hts in_X8 hown S m_x e_x (C := RX8) (T := TX8) (N := 8) rfl 2 (by decide) rfl (hts (.fieldLink RX8 22 "SieveCabinet" "draft" "LSieveCabinet$Bag;") (by decide +kernel)) dX8_span_71 ?_
        refine lv_lload hx hb dX8_span_74 (lv_at hl 0 rfl) ?_
        refine q_vi (As := [.long tt]) (rest := []) ⟨hx, hb, hml, hown, hts⟩ (c_X0_insert l D g m_dr e_dr m_drr e_drr (by have := mr_le step i; omega)) (cwV 1 hts gX8_span_X0_insert rfl rfl rfl (by decide +kernel) ⟨Nat.le_of_ble_eq_true rfl, Nat.le_of_ble_eq_true rfl⟩) S m_dr e_dr (T := TX0) (N := 2) rfl rfl hl.1 rfl (Nat.le_of_ble_eq_true rfl) dX8_span_76 ⟨Nat.le_of_ble_eq_true rfl, Nat.le_of_ble_eq_true rfl⟩ (fun r22 L20 f21 H locs S w76 => ?_)
        obtain ⟨exw76, eLw76, efw76⟩ := w76
        rw [eLw76, efw76] at S
        subst exw76
        obtain ⟨f23, ef23⟩ : ∃ z_, z_ = va_up fl drr (.inl (g 1, 1000, .inr (.inl (insR k_drr cN tt)))) := ⟨_, rfl⟩
        have e_x : f23 x = .inr (6, [.ref wo, .ref Sl, .ref dr, .ref ri, .ref th, .ref so, .ref ch, .int 0]) := up_ne ef23 (ne_sh e_drr e_x (fun h => by cases h)) e_x
        have e_wo : f23 wo = .inl (g 3, 8, .inr (.inr (.inr (.inr wf)))) := up_ne ef23 (ne_sh e_drr e_wo (by intro h; injection h with h; injection h with h1 h2; first | (cases h1; done) | (cases h2; done) | (injection h2 with h3 h4; cases h4; done))) e_wo
        have e_dr : f23 dr = .inr (0, [.ref drr, .int ((nI cN))]) := up_ne ef23 (ne_sh e_drr e_dr (fun h => by cases h)) e_dr
        have e_wb : f23 wb = .inr (0, [.ref wrb, .int ((nI 0))]) := up_ne ef23 (ne_sh e_drr e_wb (fun h => by cases h)) e_wb
        have e_wrb : f23 wrb = .inl (g 1, 1000, .inr (.inl vb)) := up_ne ef23 n_rb_drr e_wrb
        have e_drr : f23 drr = .inl (g 1, 1000, .inr (.inl (insR k_drr cN tt))) := up_self ef23
        have fr : ∀ b, b ∈ L → b ≠ dr → b ≠ drr → b ≠ wb → b ≠ wrb → f23 b = f b := fun b mb nb0 nb1 nb2 nb3 => (up_ne ef23 nb1 rfl).trans (fr b mb nb0 nb1 nb2 nb3)
        obtain ⟨f24, ef24⟩ : ∃ z_, z_ = va_up f23 dr (.inr (0, [.ref drr, .int ((nI (cN + 1)))])) := ⟨_, rfl⟩
        have S : PS D g (va_A (va_pl L f) sz) s.heap s L f24 H locs := by rw [ef24, ef23]; exact S
        have e_x : f24 x = .inr (6, [.ref wo, .ref Sl, .ref dr, .ref ri, .ref th, .ref so, .ref ch, .int 0]) := up_ne ef24 (ne_sh e_dr e_x (by intro h; injection h with h; injection h with h1 h2; first | (cases h1; done) | (cases h2; done) | (injection h2 with h3 h4; cases h4; done))) e_x
        have e_wo : f24 wo = .inl (g 3, 8, .inr (.inr (.inr (.inr wf)))) := up_ne ef24 (ne_sh e_dr e_wo (fun h => by cases h)) e_wo
        have e_drr : f24 drr = .inl (g 1, 1000, .inr (.inl (insR k_drr cN tt))) := up_ne ef24 (ne_sh e_dr e_drr (fun h => by cases h)) e_drr
        have e_wb : f24 wb = .inr (0, [.ref wrb, .int ((nI 0))]) := up_ne ef24 n_b_dr e_wb
        have e_wrb : f24 wrb = .inl (g 1, 1000, .inr (.inl vb)) := up_ne ef24 (ne_sh e_dr e_wrb (fun h => by cases h)) e_wrb
        have e_dr : f24 dr = .inr (0, [.ref drr, .int ((nI (cN + 1)))]) := up_self ef24
        have fr : ∀ b, b ∈ L → b ≠ dr → b ≠ drr → b ≠ wb → b ≠ wrb → f24 b = f b := fun b mb nb0 nb1 nb2 nb3 => (up_ne ef24 nb0 rfl).trans (fr b mb nb0 nb1 nb2 nb3)
        refine lv_if_ne (tgt := 85) hx hb dX8_span_79 (by decide) (fun b79 => ?_) (fun b79 => absurd b79 (by decide))
        have hst : mr step (i + 1) = mr step i + 1 := (if hs : step = 0 then mr_0 (Classical.byContradiction (fun h0 => by have h1 : cN = 1 := (by rw [hcN]; simp only [mr, if_pos hs]; omega); obtain ⟨b9, hb9, hv⟩ := hu 0 (by omega); have h2 := hv.trans ((tk_0 hs b9 i).trans ett.symm); exact hh (by rw [h1, cb_1 h2]; exact ⟨by decide, h2⟩))) else mr_s hs)
        obtain ⟨i1, ei1⟩ : ∃ y : Int32, y = (nI i) + (1) := ⟨_, rfl⟩
        refine lv_iinc (v := i1) (lv' := [(7, .int i1), (8, .long tt), (0, .ref x), (1, .int ((nI j))), (2, .long fst), (4, .int step), (5, .int ((nI n))), (6, .ref wb)]) hx hb dX8_span_85 hl (k := 1) rfl (by rw [ei1]; rfl) (by decide) rfl (fun ls hl => ?_)
        refine lv_goto (tgt := 40) hx hb dX8_span_88 (by decide) ?_
        exact ih (i := (i + 1)) (cN := (cN + 1)) (k_drr := (insR k_drr cN tt)) (fl := f24) (e_x := e_x) (e_wo := e_wo) (e_dr := e_dr) (e_drr := e_drr) (e_wb := e_wb) (e_wrb := e_wrb) (fr := fr) (H := _) (locs := _) (S := S) (ls := ls) (hd := by have hlt : i < n := Nat.lt_of_not_le (fun h => b44 (nI_le h (by omega))); omega) (hin := by omega) (hcN := by rw [hst, hcN]) (hu := by intro a ha; exact (insR_mem (n := cN) (by omega)).elim (fun h => ⟨i, by omega, h.trans ett⟩) (fun ⟨a8, ha8, hv8⟩ => by obtain ⟨b9, hb9, hv⟩ := hu a8 ha8; exact ⟨b9, by omega, hv8.trans hv⟩)) (hl := by have q := lv_sub hl [0, 2, 3, 4, 5, 6, 7] rfl; rw [ei1, nI_1] at q; exact q)

set_option maxHeartbeats 4000000 in
set_option maxRecDepth 100000 in
/-- span, refused -/
theorem c_X8_spanBad (l : Launch) (D : va_G) (g : Nat → ClassId) {L : List Nat} {f : Nat → va_E} {x wo Sl dr ri th so ch : Nat} {wf : Nat → Option Nat} {w n step : Int32} {fst : Int64} (m_x : x ∈ L) (e_x : f x = .inr (6, [.ref wo, .ref Sl, .ref dr, .ref ri, .ref th, .ref so, .ref ch, .int 0])) (m_wo : wo ∈ L) (e_wo : f wo = .inl (g 3, 8, .inr (.inr (.inr (.inr wf))))) (hW : ∀ j, j < 8 → ∃ b rb : Nat, ∃ vb : Nat → Int64, wf j = some b ∧ b ∈ L ∧ f b = .inr (0, [.ref rb, .int (nI 0)]) ∧ rb ∈ L ∧ f rb = .inl (g 1, 1000, .inr (.inl vb)) ∧ b ≠ dr ∧ b ≠ ri ∧ b ≠ th) (hbad : ¬ ((¬ w < 0 ∧ ¬ 8 ≤ w) ∧ ¬ n < 1 ∧ n ≤ 1000)) : cI l yX8_span wsX8_span { frames := 1, cells := 0, slots := 0, locals := 21 } D g [.ref x, .int w, .long fst, .int step, .int n] L f 0 0 (fun r L1 f1 => r = -1 ∧ L1 = L ∧ f1 = f) := by
  refine cI_of (cc := cX8_span) (maxL := 10) (ret := (some .int)) (by decide) rfl (Nat.le_of_ble_eq_true rfl) ?_
  intro sz p e s m below meth c hx hb hr hml hts hown hlk hnm S ls hl
  have hl : lv_has ls 10 [(0, .ref x), (1, .int w), (2, .long fst), (4, .int step), (5, .int n)] := hl
  refine lv_aload_n hx hb dX8_span_0 rfl (lv_at hl 0 rfl) ?_
  refine lv_iload_n hx hb dX8_span_1 rfl (lv_at hl 1 rfl) ?_
  refine q_vq (As := [.int w]) (rest := []) ⟨hx, hb, hml, hown, hts⟩ (c_X8_worldAt l D g m_x e_x m_wo e_wo) (cwV 1 hts gX8_span_X8_worldAt rfl rfl rfl (by decide +kernel) ⟨Nat.le_of_ble_eq_true rfl, Nat.le_of_ble_eq_true rfl⟩) S m_x e_x (T := TX8) (N := 8) rfl rfl hl.1 rfl (Nat.le_of_ble_eq_true rfl) dX8_span_2 ⟨Nat.le_of_ble_eq_true rfl, Nat.le_of_ble_eq_true rfl⟩ (fun r3 L1 f2 H locs S w2 => ?_)
  obtain ⟨exw2, eLw2, efw2⟩ := w2
  rw [eLw2, efw2] at S
  by_cases hw2 : ¬ w < 0 ∧ ¬ 8 ≤ w
  · skip
    obtain ⟨j2, hj2, ej2⟩ := pu_of (n := 8) hw2.1 hw2.2 (by decide)
    obtain ⟨b2_, rb2_, vb2_, ew2, m_b2_, e_b2_, m_rb2_, e_rb2_, n_b2__dr, n_b2__ri, n_b2__th⟩ := hW j2 hj2
    rw [if_pos hw2, ej2, nI_clamp (by omega), ew2] at exw2
    subst exw2
    refine W.eq (g2 := F0 m 5 ls [.ref b2_]) rfl ?_
    refine lv_astore (lv' := [(6, .ref b2_), (0, .ref x), (1, .int w), (2, .long fst), (4, .int step), (5, .int n)]) hx hb dX8_span_5 hl (by decide) rfl (fun ls hl => ?_)
    refine lv_aload hx hb dX8_span_7 (lv_at hl 0 rfl) ?_
    refine lv_ifnull hx hb dX8_span_9 ?_
    refine lv_iload hx hb dX8_span_12 (lv_at hl 5 rfl) ?_
    refine lv_iconst (v := 1) hx hb dX8_span_14 (by decide) ?_
    refine lv_icmp_lt (tgt := 26) hx hb dX8_span_15 (by decide) (fun b15 => ?_) (fun b15 => ?_)
    · skip
      refine lv_iconst (v := -1) hx hb dX8_span_26 (by decide) ?_
      exact q_reti (post := fun r L1 f1 => r = -1 ∧ L1 = L ∧ f1 = f) hx hb hr hlk S dX8_span_27 (by decide) (by decide) (⟨rfl, rfl, rfl⟩)
    · skip
      refine lv_iload hx hb dX8_span_18 (lv_at hl 5 rfl) ?_
      refine lv_sipush (v := 1000) hx hb dX8_span_20 (by decide) ?_
      refine lv_icmp_le (tgt := 28) hx hb dX8_span_23 (by decide) (fun b23 => ?_) (fun b23 => ?_)
      · skip
        exact absurd ⟨hw2, b15, b23⟩ hbad
      · skip
        refine lv_iconst (v := -1) hx hb dX8_span_26 (by decide) ?_
        exact q_reti (post := fun r L1 f1 => r = -1 ∧ L1 = L ∧ f1 = f) hx hb hr hlk S dX8_span_27 (by decide) (by decide) (⟨rfl, rfl, rfl⟩)
  · skip
    rw [if_neg hw2] at exw2
    subst exw2
    refine W.eq (g2 := F0 m 5 ls [.null]) rfl ?_
    refine lv_astoreN (lv' := [(6, .null), (0, .ref x), (1, .int w), (2, .long fst), (4, .int step), (5, .int n)]) hx hb dX8_span_5 hl (by decide) rfl (fun ls hl => ?_)
    refine lv_aloadN hx hb dX8_span_7 (lv_at hl 0 rfl) ?_
    refine lv_ifnullN (tgt := 26) hx hb dX8_span_9 (by decide) ?_
    refine lv_iconst (v := -1) hx hb dX8_span_26 (by decide) ?_
    exact q_reti (post := fun r L1 f1 => r = -1 ∧ L1 = L ∧ f1 = f) hx hb hr hlk S dX8_span_27 (by decide) (by decide) (⟨rfl, rfl, rfl⟩)

set_option maxHeartbeats 4000000 in
set_option maxRecDepth 100000 in
/-- reference: span, refused -/
theorem c_X9_spanBad (l : Launch) (D : va_G) (g : Nat → ClassId) {L : List Nat} {f : Nat → va_E} {y y0 y1 y2 y3 y4 y5 y6 y7 y8 y9 y10 y11 y12 y13 y15 y16 y17 y18 y19 y20 y21 y22 : Nat}   {w n step : Int32} {fst : Int64} (m_y : y ∈ L) (e_y : f y = .inr (7, [.ref y0, .ref y1, .ref y2, .ref y3, .ref y4, .ref y5, .ref y6, .ref y7, .ref y8, .ref y9, .ref y10, .ref y11, .ref y12, .ref y13, .int 0, .ref y15, .ref y16, .ref y17, .ref y18, .ref y19, .ref y20, .ref y21, .ref y22])) (hbad : ¬ ((¬ w < 0 ∧ ¬ 8 ≤ w) ∧ ¬ n < 1 ∧ n ≤ 1000)) : cI l yX9_span wsX9_span { frames := 1, cells := 0, slots := 0, locals := 20 } D g [.ref y, .int w, .long fst, .int step, .int n] L f 0 0 (fun r _ _ => r = -1) := by
  refine cI_of (cc := cX9_span) (maxL := 10) (ret := (some .int)) (by decide) rfl (Nat.le_of_ble_eq_true rfl) ?_
  intro sz p e s m below meth c hx hb hr hml hts hown hlk hnm S ls hl
  have hl : lv_has ls 10 [(0, .ref y), (1, .int w), (2, .long fst), (4, .int step), (5, .int n)] := hl
  refine lv_iload_n hx hb dX9_span_0 rfl (lv_at hl 1 rfl) ?_
  refine q_si (As := [.int w]) (rest := []) ⟨hx, hb, hml, hown, hts⟩ (c_X9_isWorld l D g (w := w)) (va_cwS 1 hts gX9_span_X9_isWorld rfl rfl rfl (by decide +kernel) ⟨Nat.le_of_ble_eq_true rfl, Nat.le_of_ble_eq_true rfl⟩) S rfl hl.1 rfl (Nat.le_of_ble_eq_true rfl) dX9_span_1 ⟨Nat.le_of_ble_eq_true rfl, Nat.le_of_ble_eq_true rfl⟩ (fun r3 L1 f2 H locs S w1 => ?_)
  obtain ⟨exw1, eLw1, efw1⟩ := w1
  rw [eLw1, efw1] at S
  by_cases hw1 : ¬ w < 0 ∧ ¬ 8 ≤ w
  · skip
    rw [if_pos hw1] at exw1
    subst exw1
    obtain ⟨j1, hj1, ej1⟩ := pu_of (n := 8) hw1.1 hw1.2 (by decide)
    refine lv_if_eq (tgt := 21) hx hb dX9_span_4 (by decide) (fun b4 => absurd b4 (by decide)) (fun b4 => ?_)
    refine lv_iload hx hb dX9_span_7 (lv_at hl 4 rfl) ?_
    refine lv_iconst (v := 1) hx hb dX9_span_9 (by decide) ?_
    refine lv_icmp_lt (tgt := 21) hx hb dX9_span_10 (by decide) (fun b10 => ?_) (fun b10 => ?_)
    · skip
      refine lv_iconst (v := -1) hx hb dX9_span_21 (by decide) ?_
      exact q_reti (post := fun r _ _ => r = -1) hx hb hr hlk S dX9_span_22 (by decide) (by decide) (rfl)
    · skip
      refine lv_iload hx hb dX9_span_13 (lv_at hl 4 rfl) ?_
      refine lv_sipush (v := 1000) hx hb dX9_span_15 (by decide) ?_
      refine lv_icmp_le (tgt := 23) hx hb dX9_span_18 (by decide) (fun b18 => ?_) (fun b18 => ?_)
      · skip
        exact absurd ⟨hw1, b10, b18⟩ hbad
      · skip
        refine lv_iconst (v := -1) hx hb dX9_span_21 (by decide) ?_
        exact q_reti (post := fun r _ _ => r = -1) hx hb hr hlk S dX9_span_22 (by decide) (by decide) (rfl)
  · skip
    rw [if_neg hw1] at exw1
    subst exw1
    refine lv_if_eq (tgt := 21) hx hb dX9_span_4 (by decide) (fun b4 => ?_) (fun b4 => absurd (rfl) b4)
    refine lv_iconst (v := -1) hx hb dX9_span_21 (by decide) ?_
    exact q_reti (post := fun r _ _ => r = -1) hx hb hr hlk S dX9_span_22 (by decide) (by decide) (rfl)
