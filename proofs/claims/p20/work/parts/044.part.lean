def mX8_putAllG_L37 (wn : Int32) (wv : Nat → Int64) (kd : Int32) (sz : Int32) (mk : Int32) (sd : Int32) : Nat → Int32 → (Nat → Int32) → Int32 → (Nat → Int64) → Option ((Int32 × (Nat → Int32) × Int32 × (Nat → Int64)) ⊕ (Int32 × (Nat → Int32) × Int32 × (Nat → Int64)))
  | 0, _, _, _, _ => none
  | fu + 1, x5_37, cce_37, cco_1_37, ccr_37 => (mX0_count wn).bind fun z41 => if z41 ≤ x5_37 then (some (.inr (x5_37, cce_37, cco_1_37, ccr_37))) else ((mX0_at wn wv x5_37).bind fun z52 => (mX6_enter kd sz mk sd cce_37 cco_1_37 ccr_37 z52).bind fun z55 => if 0 ≤ z55.1 then (mX8_putAllG_L37 wn wv kd sz mk sd fu (x5_37 + 1) z55.2.1 z55.2.2.1 z55.2.2.2) else (some (.inl (x5_37, z55.2.1, z55.2.2.1, z55.2.2.2))))
def mX8_putAllG (wn : Int32) (wv : Nat → Int64) (kd : Int32) (sz : Int32) (mk : Int32) (sd : Int32) (kc : Nat → Int32) (n : Int32) (v : Nat → Int64) : Option (Int32 × (Nat → Int32) × Int32 × (Nat → Int64)) := (mX6_isOpen kd).bind fun z25 => if z25 = 0 then (some ((-2 : Int32), kc, n, v)) else ((mX8_putAllG_L37 wn wv kd sz mk sd FU (0 : Int32) kc n v).bind fun o37 => Sum.elim (fun r_ => some r_) (fun s37 => (mX0_count wn).bind fun z72 => some (z72, s37.2.1, s37.2.2.1, s37.2.2.2)) o37)
set_option maxHeartbeats 4000000 in
set_option maxRecDepth 100000 in
theorem k_X8_putAllG (l : Launch) (D : va_G) (g : Nat → ClassId) {L : List Nat} {f : Nat → va_E} {Sl ce ch co cr dr h ri so th wb wo wr xb : Nat} {md : Int32} {wf : Nat → Option Nat} {sf : Nat → Option Nat} {sq : Int32} {wi : Int32} {wn : Int32} {wv : Nat → Int64} {jw : Nat} {lay : Value} {kd : Int32} {sz : Int32} {mk : Int32} {sd : Int32} {kc : Nat → Int32} {n : Int32} {v : Nat → Int64} {js : Nat} {ρ : Nat → Nat × Nat} {z : Int32 × (Nat → Int32) × Int32 × (Nat → Int64)} (m_xb : xb ∈ L) (e_xb : f xb = .inr (6, [.ref wo, .ref Sl, .ref dr, .ref ri, .ref th, .ref so, .ref ch, .int md])) (m_wo : wo ∈ L) (e_wo : f wo = .inl (g 3, 8, .inr (.inr (.inr (.inr wf))))) (m_Sl : Sl ∈ L) (e_Sl : f Sl = .inl (g 5, 30, .inr (.inr (.inr (.inr sf))))) (m_wb : wb ∈ L) (e_wb : f wb = .inr (0, [.ref wr, .int wn])) (m_wr : wr ∈ L) (e_wr : f wr = .inl (g 1, 1000, .inr (.inl wv))) (m_h : h ∈ L) (e_h : f h = .inr (4, [.ref ce, .ref co, lay, .int kd, .int sz, .int mk, .int sd])) (m_ce : ce ∈ L) (e_ce : f ce = .inl (g 0, 4096, .inl kc)) (m_co : co ∈ L) (e_co : f co = .inr (0, [.ref cr, .int n])) (m_cr : cr ∈ L) (e_cr : f cr = .inl (g 1, 1000, .inr (.inl v)))  (r_wb : ρ wb = (1 + 2 * jw, 0)) (r_wr : ρ wr = (1 + 2 * jw, 0)) (r_co : ρ co = (2 + 2 * js, 0)) (r_cr : ρ cr = (2 + 2 * js, 0)) (hw8 : mX8_worldAt wf wi = some (some wb)) (hs2 : mX8_sieveAt md sf sq = some (some h)) (hM : mX8_putAllG wn wv kd sz mk sd kc n v = some z) : cI l yX8_putAll wsX8_putAll { frames := 6, cells := 0, slots := 0, locals := 145 } D g [.ref xb, .int sq, .int wi] L f 0 0 (fun x L1 f1 => x = z.1 ∧ L1 = L ∧ (∀ b, b ∈ L → b ≠ ce → b ≠ co → b ≠ cr → f1 b = f b) ∧ f1 ce = .inl (g 0, 4096, .inl z.2.1) ∧ f1 co = .inr (0, [.ref cr, .int z.2.2.1]) ∧ f1 cr = .inl (g 1, 1000, .inr (.inl z.2.2.2))) := by
  refine cI_of (cc := cX8_putAll) (maxL := 6) (ret := (some .int)) (by decide) rfl (Nat.le_of_ble_eq_true rfl) ?_
  intro szz p e s m below meth c hx hb hr hml hts hown hlk hnm S ls hl
  have hl : lv_has ls 6 [(0, .ref xb), (1, .int sq), (2, .int wi)] := hl
  have n_xb_ce : xb ≠ ce := ne_ir e_ce e_xb
  have n_xb_co : xb ≠ co := ne_rr e_co e_xb (by decide)
  have n_xb_cr : xb ≠ cr := ne_ir e_cr e_xb
  have n_wo_ce : wo ≠ ce := ne_len e_ce e_wo (by decide)
  have n_wo_co : wo ≠ co := ne_ri e_co e_wo
  have n_wo_cr : wo ≠ cr := ne_len e_cr e_wo (by decide)
  have n_Sl_ce : Sl ≠ ce := ne_len e_ce e_Sl (by decide)
  have n_Sl_co : Sl ≠ co := ne_ri e_co e_Sl
  have n_Sl_cr : Sl ≠ cr := ne_len e_cr e_Sl (by decide)
  have n_wb_ce : wb ≠ ce := ne_ir e_ce e_wb
  have n_wb_co : wb ≠ co := role_ne r_co r_wb nr_ws
  have n_wb_cr : wb ≠ cr := ne_ir e_cr e_wb
  have n_wr_ce : wr ≠ ce := ne_len e_ce e_wr (by decide)
  have n_wr_co : wr ≠ co := ne_ri e_co e_wr
  have n_wr_cr : wr ≠ cr := role_ne r_cr r_wr nr_ws
  have n_h_ce : h ≠ ce := ne_ir e_ce e_h
  have n_h_co : h ≠ co := ne_rr e_co e_h (by decide)
  have n_h_cr : h ≠ cr := ne_ir e_cr e_h
  have fr : ∀ b, b ∈ L → b ≠ ce → b ≠ co → b ≠ cr → f b = f b := fun _ _ _ _ _ => rfl
  unfold mX8_putAllG at hM
  refine W_gen (fun QQ hQQ => ?_)
  refine lv_aload_n hx hb dX8_putAll_0 rfl (lv_at hl 0 rfl) ?_
  refine lv_iload_n hx hb dX8_putAll_1 rfl (lv_at hl 1 rfl) ?_
  refine q_vq (As := [.int sq]) (rest := []) ⟨hx, hb, hml, hown, hts⟩ (k_X8_sieveAt l D g m_xb e_xb m_Sl e_Sl hs2) (cwV 1 hts gX8_putAll_X8_sieveAt rfl rfl rfl (by decide +kernel) ⟨Nat.le_of_ble_eq_true rfl, Nat.le_of_ble_eq_true rfl⟩) S m_xb e_xb (T := TX8) (N := 8) rfl rfl hl.1 rfl (Nat.le_of_ble_eq_true rfl) dX8_putAll_2 ⟨Nat.le_of_ble_eq_true rfl, Nat.le_of_ble_eq_true rfl⟩ (fun r3 L1 f2 H locs S w2 => ?_)
  obtain ⟨ex, eL, ef⟩ := w2
  rw [eL, ef] at S
  replace ex := ex.symm
  subst ex
  refine W.eq (g2 := F0 m 5 ls [.ref h]) rfl ?_
  refine lv_astore_n (lv' := [(3, .ref h), (0, .ref xb), (1, .int sq), (2, .int wi)]) hx hb dX8_putAll_5 rfl hl (by decide) rfl (fun ls hl => ?_)
  refine lv_aload_n hx hb dX8_putAll_6 rfl (lv_at hl 1 rfl) ?_
  refine lv_iload_n hx hb dX8_putAll_7 rfl (lv_at hl 3 rfl) ?_
  refine q_vq (As := [.int wi]) (rest := []) ⟨hx, hb, hml, hown, hts⟩ (k_X8_worldAt l D g m_xb e_xb m_wo e_wo hw8) (cwV 1 hts gX8_putAll_X8_worldAt rfl rfl rfl (by decide +kernel) ⟨Nat.le_of_ble_eq_true rfl, Nat.le_of_ble_eq_true rfl⟩) S m_xb e_xb (T := TX8) (N := 8) rfl rfl hl.1 rfl (Nat.le_of_ble_eq_true rfl) dX8_putAll_8 ⟨Nat.le_of_ble_eq_true rfl, Nat.le_of_ble_eq_true rfl⟩ (fun r6 L4 f5 H locs S w8 => ?_)
  obtain ⟨ex, eL, ef⟩ := w8
  rw [eL, ef] at S
  replace ex := ex.symm
  subst ex
  refine W.eq (g2 := F0 m 11 ls [.ref wb]) rfl ?_
  refine lv_astore (lv' := [(4, .ref wb), (3, .ref h), (0, .ref xb), (1, .int sq), (2, .int wi)]) hx hb dX8_putAll_11 hl (by decide) rfl (fun ls hl => ?_)
  refine lv_aload_n hx hb dX8_putAll_13 rfl (lv_at hl 1 rfl) ?_
  refine lv_ifnull hx hb dX8_putAll_14 ?_
  refine lv_aload hx hb dX8_putAll_17 (lv_at hl 0 rfl) ?_
  refine lv_ifnonnull (tgt := 24) hx hb dX8_putAll_19 (by decide) ?_
  refine lv_aload_n hx hb dX8_putAll_24 rfl (lv_at hl 1 rfl) ?_
  obtain ⟨z25, hz25, hM⟩ := bind_some hM
  refine q_vi (As := []) (rest := []) ⟨hx, hb, hml, hown, hts⟩ (k_X6_isOpen l D g m_h e_h hz25) (cwV 0 hts gX8_putAll_X6_isOpen rfl rfl rfl (by decide +kernel) ⟨Nat.le_of_ble_eq_true rfl, Nat.le_of_ble_eq_true rfl⟩) S m_h e_h (T := TX6) (N := 7) rfl rfl hl.1 rfl (Nat.le_of_ble_eq_true rfl) dX8_putAll_25 ⟨Nat.le_of_ble_eq_true rfl, Nat.le_of_ble_eq_true rfl⟩ (fun r9 L7 f8 H locs S w25 => ?_)
  obtain ⟨ex25, eL, ef⟩ := w25
  rw [eL, ef] at S
  replace ex25 := ex25.symm
  subst ex25
  refine lv_if_ne (tgt := 34) hx hb dX8_putAll_28 (by decide) (fun b28 => ?_) (fun b28 => ?_)
  · have hM := itF b28 hM
    refine lv_iconst (v := (0 : Int32)) hx hb dX8_putAll_34 (by decide) ?_
    refine lv_istore (lv' := [(5, .int (0 : Int32)), (4, .ref wb), (3, .ref h), (0, .ref xb), (1, .int sq), (2, .int wi)]) hx hb dX8_putAll_35 hl (by decide) rfl (fun ls hl => ?_)
    obtain ⟨o37, ho37, hM⟩ := bind_some hM
    have EX37 : ∀ (s37 : Int32 × (Nat → Int32) × Int32 × (Nat → Int64)), o37 = .inr s37 → ∀ (fl37 : Nat → va_E) (H : Heap) (locs : List Loc) (ls : Array Slot), PS D g (va_A (va_pl L f) szz) s.heap s L fl37 H locs → fl37 xb = .inr (6, [.ref wo, .ref Sl, .ref dr, .ref ri, .ref th, .ref so, .ref ch, .int md]) → fl37 wo = .inl (g 3, 8, .inr (.inr (.inr (.inr wf)))) → fl37 Sl = .inl (g 5, 30, .inr (.inr (.inr (.inr sf)))) → fl37 wb = .inr (0, [.ref wr, .int wn]) → fl37 wr = .inl (g 1, 1000, .inr (.inl wv)) → fl37 h = .inr (4, [.ref ce, .ref co, lay, .int kd, .int sz, .int mk, .int sd]) → fl37 ce = .inl (g 0, 4096, .inl s37.2.1) → fl37 co = .inr (0, [.ref cr, .int s37.2.2.1]) → fl37 cr = .inl (g 1, 1000, .inr (.inl s37.2.2.2)) → (∀ b, b ∈ L → b ≠ ce → b ≠ co → b ≠ cr → fl37 b = f b) → lv_has ls 6 [(4, .ref wb)] → W p l e { frames := 6, cells := 0, slots := 0, locals := 145 } s m [.ref xb, .int sq, .int wi].toArray below meth c H locs 0 0 QQ (F0 m 70 ls []) := by
      intro s37 eo37
      rw [eo37] at hM
      simp only [Sum.elim_inr] at hM
      intro fl37 H locs ls S e_xb e_wo e_Sl e_wb e_wr e_h e_ce e_co e_cr fr hl
      refine lv_aload hx hb dX8_putAll_70 (lv_at hl 0 rfl) ?_
      obtain ⟨z72, hz72, hM⟩ := bind_some hM
      refine q_vi (As := []) (rest := []) ⟨hx, hb, hml, hown, hts⟩ (k_X0_count l D g m_wb e_wb hz72) (cwV 0 hts gX8_putAll_X0_count rfl rfl rfl (by decide +kernel) ⟨Nat.le_of_ble_eq_true rfl, Nat.le_of_ble_eq_true rfl⟩) S m_wb e_wb (T := TX0) (N := 2) rfl rfl hl.1 rfl (Nat.le_of_ble_eq_true rfl) dX8_putAll_72 ⟨Nat.le_of_ble_eq_true rfl, Nat.le_of_ble_eq_true rfl⟩ (fun r12 L10 f11 H locs S w72 => ?_)
      obtain ⟨ex72, eL, ef⟩ := w72
      rw [eL, ef] at S
      replace ex72 := ex72.symm
      subst ex72
      subst hQQ
      exact q_reti (post := fun x L1 f1 => x = z.1 ∧ L1 = L ∧ (∀ b, b ∈ L → b ≠ ce → b ≠ co → b ≠ cr → f1 b = f b) ∧ f1 ce = .inl (g 0, 4096, .inl z.2.1) ∧ f1 co = .inr (0, [.ref cr, .int z.2.2.1]) ∧ f1 cr = .inl (g 1, 1000, .inr (.inl z.2.2.2))) hx hb hr hlk S dX8_putAll_75 (by decide) (by decide) (by have hz := Option.some.inj hM; subst hz; exact ⟨rfl, rfl, fr, e_ce, e_co, e_cr⟩)
    have LP37 : ∀ (fu : Nat) (x5_37 : Int32) (cce_37 : Nat → Int32) (cco_1_37 : Int32) (ccr_37 : Nat → Int64) (fl37 : Nat → va_E) (H : Heap) (locs : List Loc) (ls : Array Slot), (mX8_putAllG_L37 wn wv kd sz mk sd) fu x5_37 cce_37 cco_1_37 ccr_37 = some o37 → PS D g (va_A (va_pl L f) szz) s.heap s L fl37 H locs → fl37 xb = .inr (6, [.ref wo, .ref Sl, .ref dr, .ref ri, .ref th, .ref so, .ref ch, .int md]) → fl37 wo = .inl (g 3, 8, .inr (.inr (.inr (.inr wf)))) → fl37 Sl = .inl (g 5, 30, .inr (.inr (.inr (.inr sf)))) → fl37 wb = .inr (0, [.ref wr, .int wn]) → fl37 wr = .inl (g 1, 1000, .inr (.inl wv)) → fl37 h = .inr (4, [.ref ce, .ref co, lay, .int kd, .int sz, .int mk, .int sd]) → fl37 ce = .inl (g 0, 4096, .inl cce_37) → fl37 co = .inr (0, [.ref cr, .int cco_1_37]) → fl37 cr = .inl (g 1, 1000, .inr (.inl ccr_37)) → (∀ b, b ∈ L → b ≠ ce → b ≠ co → b ≠ cr → fl37 b = f b) → lv_has ls 6 [(5, .int x5_37), (4, .ref wb), (3, .ref h)] → W p l e { frames := 6, cells := 0, slots := 0, locals := 145 } s m [.ref xb, .int sq, .int wi].toArray below meth c H locs 0 0 QQ (F0 m 37 ls []) := by
      intro fu
      induction fu with
      | zero => intro x5_37 cce_37 cco_1_37 ccr_37 fl37 H locs ls ho37 S e_xb e_wo e_Sl e_wb e_wr e_h e_ce e_co e_cr fr hl; exact no_some ho37
      | succ fu ih37 =>
        intro x5_37 cce_37 cco_1_37 ccr_37 fl37 H locs ls ho37 S e_xb e_wo e_Sl e_wb e_wr e_h e_ce e_co e_cr fr hl
        rw [mX8_putAllG_L37] at ho37
        refine lv_iload hx hb dX8_putAll_37 (lv_at hl 0 rfl) ?_
        refine lv_aload hx hb dX8_putAll_39 (lv_at hl 1 rfl) ?_
        obtain ⟨z41, hz41, ho37⟩ := bind_some ho37
        refine q_vi (As := []) (rest := [.int x5_37]) ⟨hx, hb, hml, hown, hts⟩ (k_X0_count l D g m_wb e_wb hz41) (cwV 0 hts gX8_putAll_X0_count rfl rfl rfl (by decide +kernel) ⟨Nat.le_of_ble_eq_true rfl, Nat.le_of_ble_eq_true rfl⟩) S m_wb e_wb (T := TX0) (N := 2) rfl rfl hl.1 rfl (Nat.le_of_ble_eq_true rfl) dX8_putAll_41 ⟨Nat.le_of_ble_eq_true rfl, Nat.le_of_ble_eq_true rfl⟩ (fun r15 L13 f14 H locs S w41 => ?_)
        obtain ⟨ex41, eL, ef⟩ := w41
        rw [eL, ef] at S
        replace ex41 := ex41.symm
        subst ex41
        refine lv_icmp_ge (tgt := 70) hx hb dX8_putAll_44 (by decide) (fun b44 => ?_) (fun b44 => ?_)
        · have ho37 := itT b44 ho37
          obtain rfl := Option.some.inj ho37
          exact EX37 _ rfl fl37 _ _ _ S e_xb e_wo e_Sl e_wb e_wr e_h e_ce e_co e_cr fr (lv_sub hl [1] rfl)
        · have ho37 := itF b44 ho37
          refine lv_aload_n hx hb dX8_putAll_47 rfl (lv_at hl 2 rfl) ?_
          refine lv_aload hx hb dX8_putAll_48 (lv_at hl 1 rfl) ?_
          refine lv_iload hx hb dX8_putAll_50 (lv_at hl 0 rfl) ?_
          obtain ⟨z52, hz52, ho37⟩ := bind_some ho37
          refine q_vl (As := [.int x5_37]) (rest := [.ref h]) ⟨hx, hb, hml, hown, hts⟩ (k_X0_at l D g m_wb e_wb m_wr e_wr hz52) (cwV 1 hts gX8_putAll_X0_at rfl rfl rfl (by decide +kernel) ⟨Nat.le_of_ble_eq_true rfl, Nat.le_of_ble_eq_true rfl⟩) S m_wb e_wb (T := TX0) (N := 2) rfl rfl hl.1 rfl (Nat.le_of_ble_eq_true rfl) dX8_putAll_52 ⟨Nat.le_of_ble_eq_true rfl, Nat.le_of_ble_eq_true rfl⟩ (fun r18 L16 f17 H locs S w52 => ?_)
          obtain ⟨ex52, eL, ef⟩ := w52
          rw [eL, ef] at S
          replace ex52 := ex52.symm
          subst ex52
          obtain ⟨z55, hz55, ho37⟩ := bind_some ho37
          refine q_vi (As := [.long z52]) (rest := []) ⟨hx, hb, hml, hown, hts⟩ (k_X6_enter l D g m_h e_h m_ce e_ce m_co e_co m_cr e_cr hz55) (cwV 1 hts gX8_putAll_X6_enter rfl rfl rfl (by decide +kernel) ⟨Nat.le_of_ble_eq_true rfl, Nat.le_of_ble_eq_true rfl⟩) S m_h e_h (T := TX6) (N := 7) rfl rfl hl.1 rfl (Nat.le_of_ble_eq_true rfl) dX8_putAll_55 ⟨Nat.le_of_ble_eq_true rfl, Nat.le_of_ble_eq_true rfl⟩ (fun r21 L19 f20 H locs S w55 => ?_)
          obtain ⟨ex55, eL, fv55, E_ce, E_co, E_cr⟩ := w55
          rw [eL] at S
          have fr : ∀ b, b ∈ L → b ≠ ce → b ≠ co → b ≠ cr → f20 b = f b := fun b mb nb0 nb1 nb2 => (fv55 b mb nb0 nb1 nb2).trans (fr b mb nb0 nb1 nb2)
          have e_ce : f20 ce = .inl (g 0, 4096, .inl z55.2.1) := E_ce
          have e_co : f20 co = .inr (0, [.ref cr, .int z55.2.2.1]) := E_co
          have e_cr : f20 cr = .inl (g 1, 1000, .inr (.inl z55.2.2.2)) := E_cr
          replace ex55 := ex55.symm
          subst ex55
          refine lv_if_ge (tgt := 64) hx hb dX8_putAll_58 (by decide) (fun b58 => ?_) (fun b58 => ?_)
          · have ho37 := itT b58 ho37
            refine lv_iinc (v := (x5_37 + 1)) (lv' := [(5, .int (x5_37 + 1)), (4, .ref wb), (3, .ref h)]) hx hb dX8_putAll_64 hl (k := 0) rfl rfl (by decide) rfl (fun ls hl => ?_)
            refine lv_goto (tgt := 37) hx hb dX8_putAll_67 (by decide) ?_
            have e_xb := ((fv55 xb m_xb n_xb_ce n_xb_co n_xb_cr).trans e_xb)
            have e_wo := ((fv55 wo m_wo n_wo_ce n_wo_co n_wo_cr).trans e_wo)
            have e_Sl := ((fv55 Sl m_Sl n_Sl_ce n_Sl_co n_Sl_cr).trans e_Sl)
            have e_wb := ((fv55 wb m_wb n_wb_ce n_wb_co n_wb_cr).trans e_wb)
            have e_wr := ((fv55 wr m_wr n_wr_ce n_wr_co n_wr_cr).trans e_wr)
            have e_h := ((fv55 h m_h n_h_ce n_h_co n_h_cr).trans e_h)
            exact ih37 (x5_37 + 1) z55.2.1 z55.2.2.1 z55.2.2.2 f20 _ _ _ ho37 S e_xb e_wo e_Sl e_wb e_wr e_h e_ce e_co e_cr fr (lv_sub hl [0, 1, 2] rfl)
          · have ho37 := itF b58 ho37
            refine lv_iload hx hb dX8_putAll_61 (lv_at hl 0 rfl) ?_
            obtain rfl := Option.some.inj ho37
            simp only [Sum.elim_inl] at hM
            subst hQQ
            exact q_reti (post := fun x L1 f1 => x = z.1 ∧ L1 = L ∧ (∀ b, b ∈ L → b ≠ ce → b ≠ co → b ≠ cr → f1 b = f b) ∧ f1 ce = .inl (g 0, 4096, .inl z.2.1) ∧ f1 co = .inr (0, [.ref cr, .int z.2.2.1]) ∧ f1 cr = .inl (g 1, 1000, .inr (.inl z.2.2.2))) hx hb hr hlk S dX8_putAll_63 (by decide) (by decide) (by have hz := Option.some.inj hM; subst hz; exact ⟨rfl, rfl, fr, e_ce, e_co, e_cr⟩)
    exact LP37 FU (0 : Int32) kc n v f _ _ _ ho37 S e_xb e_wo e_Sl e_wb e_wr e_h e_ce e_co e_cr fr (lv_sub hl [0, 1, 2] rfl)
  · have hM := itT b28 hM
    refine lv_bipush (v := (-2 : Int32)) hx hb dX8_putAll_31 (by decide) ?_
    subst hQQ
    exact q_reti (post := fun x L1 f1 => x = z.1 ∧ L1 = L ∧ (∀ b, b ∈ L → b ≠ ce → b ≠ co → b ≠ cr → f1 b = f b) ∧ f1 ce = .inl (g 0, 4096, .inl z.2.1) ∧ f1 co = .inr (0, [.ref cr, .int z.2.2.1]) ∧ f1 cr = .inl (g 1, 1000, .inr (.inl z.2.2.2))) hx hb hr hlk S dX8_putAll_33 (by decide) (by decide) (by have hz := Option.some.inj hM; subst hz; exact ⟨rfl, rfl, fr, e_ce, e_co, e_cr⟩)

def mX8_putAllSN  : Option (Int32) := some (-1 : Int32)
set_option maxHeartbeats 4000000 in
set_option maxRecDepth 100000 in
theorem k_X8_putAllSN (l : Launch) (D : va_G) (g : Nat → ClassId) {L : List Nat} {f : Nat → va_E} {Sl ch dr h ri so th wo xb : Nat} {md : Int32} {wf : Nat → Option Nat} {sf : Nat → Option Nat} {sq : Int32} {wi : Int32} {z : Int32} (m_xb : xb ∈ L) (e_xb : f xb = .inr (6, [.ref wo, .ref Sl, .ref dr, .ref ri, .ref th, .ref so, .ref ch, .int md])) (m_wo : wo ∈ L) (e_wo : f wo = .inl (g 3, 8, .inr (.inr (.inr (.inr wf))))) (m_Sl : Sl ∈ L) (e_Sl : f Sl = .inl (g 5, 30, .inr (.inr (.inr (.inr sf)))))   (hw8 : mX8_worldAt wf wi = some none) (hs2 : mX8_sieveAt md sf sq = some (some h)) (hM : mX8_putAllSN = some z) : cI l yX8_putAll wsX8_putAll { frames := 1, cells := 0, slots := 0, locals := 21 } D g [.ref xb, .int sq, .int wi] L f 0 0 (fun x L1 f1 => x = z ∧ L1 = L ∧ f1 = f) := by
  refine cI_of (cc := cX8_putAll) (maxL := 6) (ret := (some .int)) (by decide) rfl (Nat.le_of_ble_eq_true rfl) ?_
  intro szz p e s m below meth c hx hb hr hml hts hown hlk hnm S ls hl
  have hl : lv_has ls 6 [(0, .ref xb), (1, .int sq), (2, .int wi)] := hl
  unfold mX8_putAllSN at hM
  refine W_gen (fun QQ hQQ => ?_)
  refine lv_aload_n hx hb dX8_putAll_0 rfl (lv_at hl 0 rfl) ?_
  refine lv_iload_n hx hb dX8_putAll_1 rfl (lv_at hl 1 rfl) ?_
  refine q_vq (As := [.int sq]) (rest := []) ⟨hx, hb, hml, hown, hts⟩ (k_X8_sieveAt l D g m_xb e_xb m_Sl e_Sl hs2) (cwV 1 hts gX8_putAll_X8_sieveAt rfl rfl rfl (by decide +kernel) ⟨Nat.le_of_ble_eq_true rfl, Nat.le_of_ble_eq_true rfl⟩) S m_xb e_xb (T := TX8) (N := 8) rfl rfl hl.1 rfl (Nat.le_of_ble_eq_true rfl) dX8_putAll_2 ⟨Nat.le_of_ble_eq_true rfl, Nat.le_of_ble_eq_true rfl⟩ (fun r3 L1 f2 H locs S w2 => ?_)
  obtain ⟨ex, eL, ef⟩ := w2
  rw [eL, ef] at S
  replace ex := ex.symm
  subst ex
  refine W.eq (g2 := F0 m 5 ls [.ref h]) rfl ?_
  refine lv_astore_n (lv' := [(3, .ref h), (0, .ref xb), (1, .int sq), (2, .int wi)]) hx hb dX8_putAll_5 rfl hl (by decide) rfl (fun ls hl => ?_)
  refine lv_aload_n hx hb dX8_putAll_6 rfl (lv_at hl 1 rfl) ?_
  refine lv_iload_n hx hb dX8_putAll_7 rfl (lv_at hl 3 rfl) ?_
  refine q_vq (As := [.int wi]) (rest := []) ⟨hx, hb, hml, hown, hts⟩ (k_X8_worldAt l D g m_xb e_xb m_wo e_wo hw8) (cwV 1 hts gX8_putAll_X8_worldAt rfl rfl rfl (by decide +kernel) ⟨Nat.le_of_ble_eq_true rfl, Nat.le_of_ble_eq_true rfl⟩) S m_xb e_xb (T := TX8) (N := 8) rfl rfl hl.1 rfl (Nat.le_of_ble_eq_true rfl) dX8_putAll_8 ⟨Nat.le_of_ble_eq_true rfl, Nat.le_of_ble_eq_true rfl⟩ (fun r6 L4 f5 H locs S w8 => ?_)
  obtain ⟨ex, eL, ef⟩ := w8
  rw [eL, ef] at S
  replace ex := ex.symm
  subst ex
  refine W.eq (g2 := F0 m 11 ls [.null]) rfl ?_
  refine lv_astoreN (lv' := [(4, .null), (3, .ref h), (0, .ref xb), (1, .int sq), (2, .int wi)]) hx hb dX8_putAll_11 hl (by decide) rfl (fun ls hl => ?_)
  refine lv_aload_n hx hb dX8_putAll_13 rfl (lv_at hl 1 rfl) ?_
  refine lv_ifnull hx hb dX8_putAll_14 ?_
  refine lv_aloadN hx hb dX8_putAll_17 (lv_at hl 0 rfl) ?_
  refine lv_ifnonnullN hx hb dX8_putAll_19 ?_
  refine lv_iconst (v := (-1 : Int32)) hx hb dX8_putAll_22 (by decide) ?_
  subst hQQ
  exact q_reti (post := fun x L1 f1 => x = z ∧ L1 = L ∧ f1 = f) hx hb hr hlk S dX8_putAll_23 (by decide) (by decide) (by have hz := Option.some.inj hM; subst hz; exact ⟨rfl, rfl, rfl⟩)

def mX8_putAllNW  : Option (Int32) := some (-1 : Int32)
set_option maxHeartbeats 4000000 in
set_option maxRecDepth 100000 in
theorem k_X8_putAllNW (l : Launch) (D : va_G) (g : Nat → ClassId) {L : List Nat} {f : Nat → va_E} {Sl ch dr ri so th wb wo xb : Nat} {md : Int32} {wf : Nat → Option Nat} {sf : Nat → Option Nat} {sq : Int32} {wi : Int32} {z : Int32} (m_xb : xb ∈ L) (e_xb : f xb = .inr (6, [.ref wo, .ref Sl, .ref dr, .ref ri, .ref th, .ref so, .ref ch, .int md])) (m_wo : wo ∈ L) (e_wo : f wo = .inl (g 3, 8, .inr (.inr (.inr (.inr wf))))) (m_Sl : Sl ∈ L) (e_Sl : f Sl = .inl (g 5, 30, .inr (.inr (.inr (.inr sf)))))   (hw8 : mX8_worldAt wf wi = some (some wb)) (hs2 : mX8_sieveAt md sf sq = some none) (hM : mX8_putAllNW = some z) : cI l yX8_putAll wsX8_putAll { frames := 1, cells := 0, slots := 0, locals := 21 } D g [.ref xb, .int sq, .int wi] L f 0 0 (fun x L1 f1 => x = z ∧ L1 = L ∧ f1 = f) := by
  refine cI_of (cc := cX8_putAll) (maxL := 6) (ret := (some .int)) (by decide) rfl (Nat.le_of_ble_eq_true rfl) ?_
  intro szz p e s m below meth c hx hb hr hml hts hown hlk hnm S ls hl
  have hl : lv_has ls 6 [(0, .ref xb), (1, .int sq), (2, .int wi)] := hl
  unfold mX8_putAllNW at hM
  refine W_gen (fun QQ hQQ => ?_)
  refine lv_aload_n hx hb dX8_putAll_0 rfl (lv_at hl 0 rfl) ?_
  refine lv_iload_n hx hb dX8_putAll_1 rfl (lv_at hl 1 rfl) ?_
  refine q_vq (As := [.int sq]) (rest := []) ⟨hx, hb, hml, hown, hts⟩ (k_X8_sieveAt l D g m_xb e_xb m_Sl e_Sl hs2) (cwV 1 hts gX8_putAll_X8_sieveAt rfl rfl rfl (by decide +kernel) ⟨Nat.le_of_ble_eq_true rfl, Nat.le_of_ble_eq_true rfl⟩) S m_xb e_xb (T := TX8) (N := 8) rfl rfl hl.1 rfl (Nat.le_of_ble_eq_true rfl) dX8_putAll_2 ⟨Nat.le_of_ble_eq_true rfl, Nat.le_of_ble_eq_true rfl⟩ (fun r3 L1 f2 H locs S w2 => ?_)
  obtain ⟨ex, eL, ef⟩ := w2
  rw [eL, ef] at S
  replace ex := ex.symm
  subst ex
  refine W.eq (g2 := F0 m 5 ls [.null]) rfl ?_
  refine lv_astore_nN (lv' := [(3, .null), (0, .ref xb), (1, .int sq), (2, .int wi)]) hx hb dX8_putAll_5 rfl hl (by decide) rfl (fun ls hl => ?_)
  refine lv_aload_n hx hb dX8_putAll_6 rfl (lv_at hl 1 rfl) ?_
  refine lv_iload_n hx hb dX8_putAll_7 rfl (lv_at hl 3 rfl) ?_
  refine q_vq (As := [.int wi]) (rest := []) ⟨hx, hb, hml, hown, hts⟩ (k_X8_worldAt l D g m_xb e_xb m_wo e_wo hw8) (cwV 1 hts gX8_putAll_X8_worldAt rfl rfl rfl (by decide +kernel) ⟨Nat.le_of_ble_eq_true rfl, Nat.le_of_ble_eq_true rfl⟩) S m_xb e_xb (T := TX8) (N := 8) rfl rfl hl.1 rfl (Nat.le_of_ble_eq_true rfl) dX8_putAll_8 ⟨Nat.le_of_ble_eq_true rfl, Nat.le_of_ble_eq_true rfl⟩ (fun r6 L4 f5 H locs S w8 => ?_)
  obtain ⟨ex, eL, ef⟩ := w8
  rw [eL, ef] at S
  replace ex := ex.symm
  subst ex
  refine W.eq (g2 := F0 m 11 ls [.ref wb]) rfl ?_
  refine lv_astore (lv' := [(4, .ref wb), (3, .null), (0, .ref xb), (1, .int sq), (2, .int wi)]) hx hb dX8_putAll_11 hl (by decide) rfl (fun ls hl => ?_)
  refine lv_aload_nN hx hb dX8_putAll_13 rfl (lv_at hl 1 rfl) ?_
  refine lv_ifnullN (tgt := 22) hx hb dX8_putAll_14 (by decide) ?_
  refine lv_iconst (v := (-1 : Int32)) hx hb dX8_putAll_22 (by decide) ?_
  subst hQQ
  exact q_reti (post := fun x L1 f1 => x = z ∧ L1 = L ∧ f1 = f) hx hb hr hlk S dX8_putAll_23 (by decide) (by decide) (by have hz := Option.some.inj hM; subst hz; exact ⟨rfl, rfl, rfl⟩)

def mX8_putAllNN  : Option (Int32) := some (-1 : Int32)
set_option maxHeartbeats 4000000 in
set_option maxRecDepth 100000 in
theorem k_X8_putAllNN (l : Launch) (D : va_G) (g : Nat → ClassId) {L : List Nat} {f : Nat → va_E} {Sl ch dr ri so th wo xb : Nat} {md : Int32} {wf : Nat → Option Nat} {sf : Nat → Option Nat} {sq : Int32} {wi : Int32} {z : Int32} (m_xb : xb ∈ L) (e_xb : f xb = .inr (6, [.ref wo, .ref Sl, .ref dr, .ref ri, .ref th, .ref so, .ref ch, .int md])) (m_wo : wo ∈ L) (e_wo : f wo = .inl (g 3, 8, .inr (.inr (.inr (.inr wf))))) (m_Sl : Sl ∈ L) (e_Sl : f Sl = .inl (g 5, 30, .inr (.inr (.inr (.inr sf)))))   (hw8 : mX8_worldAt wf wi = some none) (hs2 : mX8_sieveAt md sf sq = some none) (hM : mX8_putAllNN = some z) : cI l yX8_putAll wsX8_putAll { frames := 1, cells := 0, slots := 0, locals := 21 } D g [.ref xb, .int sq, .int wi] L f 0 0 (fun x L1 f1 => x = z ∧ L1 = L ∧ f1 = f) := by
  refine cI_of (cc := cX8_putAll) (maxL := 6) (ret := (some .int)) (by decide) rfl (Nat.le_of_ble_eq_true rfl) ?_
  intro szz p e s m below meth c hx hb hr hml hts hown hlk hnm S ls hl
  have hl : lv_has ls 6 [(0, .ref xb), (1, .int sq), (2, .int wi)] := hl
  unfold mX8_putAllNN at hM
  refine W_gen (fun QQ hQQ => ?_)
  refine lv_aload_n hx hb dX8_putAll_0 rfl (lv_at hl 0 rfl) ?_
  refine lv_iload_n hx hb dX8_putAll_1 rfl (lv_at hl 1 rfl) ?_
  refine q_vq (As := [.int sq]) (rest := []) ⟨hx, hb, hml, hown, hts⟩ (k_X8_sieveAt l D g m_xb e_xb m_Sl e_Sl hs2) (cwV 1 hts gX8_putAll_X8_sieveAt rfl rfl rfl (by decide +kernel) ⟨Nat.le_of_ble_eq_true rfl, Nat.le_of_ble_eq_true rfl⟩) S m_xb e_xb (T := TX8) (N := 8) rfl rfl hl.1 rfl (Nat.le_of_ble_eq_true rfl) dX8_putAll_2 ⟨Nat.le_of_ble_eq_true rfl, Nat.le_of_ble_eq_true rfl⟩ (fun r3 L1 f2 H locs S w2 => ?_)
  obtain ⟨ex, eL, ef⟩ := w2
  rw [eL, ef] at S
  replace ex := ex.symm
  subst ex
  refine W.eq (g2 := F0 m 5 ls [.null]) rfl ?_
  refine lv_astore_nN (lv' := [(3, .null), (0, .ref xb), (1, .int sq), (2, .int wi)]) hx hb dX8_putAll_5 rfl hl (by decide) rfl (fun ls hl => ?_)
  refine lv_aload_n hx hb dX8_putAll_6 rfl (lv_at hl 1 rfl) ?_
  refine lv_iload_n hx hb dX8_putAll_7 rfl (lv_at hl 3 rfl) ?_
  refine q_vq (As := [.int wi]) (rest := []) ⟨hx, hb, hml, hown, hts⟩ (k_X8_worldAt l D g m_xb e_xb m_wo e_wo hw8) (cwV 1 hts gX8_putAll_X8_worldAt rfl rfl rfl (by decide +kernel) ⟨Nat.le_of_ble_eq_true rfl, Nat.le_of_ble_eq_true rfl⟩) S m_xb e_xb (T := TX8) (N := 8) rfl rfl hl.1 rfl (Nat.le_of_ble_eq_true rfl) dX8_putAll_8 ⟨Nat.le_of_ble_eq_true rfl, Nat.le_of_ble_eq_true rfl⟩ (fun r6 L4 f5 H locs S w8 => ?_)
  obtain ⟨ex, eL, ef⟩ := w8
  rw [eL, ef] at S
  replace ex := ex.symm
  subst ex
  refine W.eq (g2 := F0 m 11 ls [.null]) rfl ?_
  refine lv_astoreN (lv' := [(4, .null), (3, .null), (0, .ref xb), (1, .int sq), (2, .int wi)]) hx hb dX8_putAll_11 hl (by decide) rfl (fun ls hl => ?_)
  refine lv_aload_nN hx hb dX8_putAll_13 rfl (lv_at hl 1 rfl) ?_
  refine lv_ifnullN (tgt := 22) hx hb dX8_putAll_14 (by decide) ?_
  refine lv_iconst (v := (-1 : Int32)) hx hb dX8_putAll_22 (by decide) ?_
  subst hQQ
  exact q_reti (post := fun x L1 f1 => x = z ∧ L1 = L ∧ f1 = f) hx hb hr hlk S dX8_putAll_23 (by decide) (by decide) (by have hz := Option.some.inj hM; subst hz; exact ⟨rfl, rfl, rfl⟩)

def mX8_falsesG_L30 (wn : Int32) (wv : Nat → Int64) (kd : Int32) (sz : Int32) (mk : Int32) (sd : Int32) (kc : Nat → Int32) (n : Int32) (v : Nat → Int64) : Nat → Int32 → Int32 → Option (Int32 × Int32)
  | 0, _, _ => none
  | fu + 1, x6_30, x5_30 => (mX0_count wn).bind fun z34 => if z34 ≤ x6_30 then (some (x6_30, x5_30)) else ((mX0_at wn wv x6_30).bind fun z45 => (mX6_passesFalselyG kd sz mk sd kc n v z45).bind fun z48 => if z48 = 0 then (mX8_falsesG_L30 wn wv kd sz mk sd kc n v fu (x6_30 + 1) x5_30) else (mX8_falsesG_L30 wn wv kd sz mk sd kc n v fu (x6_30 + 1) (x5_30 + 1)))
def mX8_falsesG (wn : Int32) (wv : Nat → Int64) (kd : Int32) (sz : Int32) (mk : Int32) (sd : Int32) (kc : Nat → Int32) (n : Int32) (v : Nat → Int64) : Option (Int32) := (mX8_falsesG_L30 wn wv kd sz mk sd kc n v FU (0 : Int32) (0 : Int32)).bind fun o30 => some o30.2
set_option maxHeartbeats 4000000 in
set_option maxRecDepth 100000 in
theorem k_X8_falsesG (l : Launch) (D : va_G) (g : Nat → ClassId) {L : List Nat} {f : Nat → va_E} {Sl ce ch co cr dr h ri so th wb wo wr xb : Nat} {md : Int32} {wf : Nat → Option Nat} {sf : Nat → Option Nat} {sq : Int32} {wi : Int32} {wn : Int32} {wv : Nat → Int64} {lay : Value} {kd : Int32} {sz : Int32} {mk : Int32} {sd : Int32} {kc : Nat → Int32} {n : Int32} {v : Nat → Int64} {z : Int32} (m_xb : xb ∈ L) (e_xb : f xb = .inr (6, [.ref wo, .ref Sl, .ref dr, .ref ri, .ref th, .ref so, .ref ch, .int md])) (m_wo : wo ∈ L) (e_wo : f wo = .inl (g 3, 8, .inr (.inr (.inr (.inr wf))))) (m_Sl : Sl ∈ L) (e_Sl : f Sl = .inl (g 5, 30, .inr (.inr (.inr (.inr sf))))) (m_wb : wb ∈ L) (e_wb : f wb = .inr (0, [.ref wr, .int wn])) (m_wr : wr ∈ L) (e_wr : f wr = .inl (g 1, 1000, .inr (.inl wv))) (m_h : h ∈ L) (e_h : f h = .inr (4, [.ref ce, .ref co, lay, .int kd, .int sz, .int mk, .int sd])) (m_ce : ce ∈ L) (e_ce : f ce = .inl (g 0, 4096, .inl kc)) (m_co : co ∈ L) (e_co : f co = .inr (0, [.ref cr, .int n])) (m_cr : cr ∈ L) (e_cr : f cr = .inl (g 1, 1000, .inr (.inl v)))   (hw8 : mX8_worldAt wf wi = some (some wb)) (hs2 : mX8_sieveAt md sf sq = some (some h)) (hM : mX8_falsesG wn wv kd sz mk sd kc n v = some z) : cI l yX8_falses wsX8_falses { frames := 6, cells := 0, slots := 0, locals := 137 } D g [.ref xb, .int sq, .int wi] L f 0 0 (fun x L1 f1 => x = z ∧ L1 = L ∧ f1 = f) := by
  refine cI_of (cc := cX8_falses) (maxL := 7) (ret := (some .int)) (by decide) rfl (Nat.le_of_ble_eq_true rfl) ?_
  intro szz p e s m below meth c hx hb hr hml hts hown hlk hnm S ls hl
  have hl : lv_has ls 7 [(0, .ref xb), (1, .int sq), (2, .int wi)] := hl
  unfold mX8_falsesG at hM
  refine W_gen (fun QQ hQQ => ?_)
  refine lv_aload_n hx hb dX8_falses_0 rfl (lv_at hl 0 rfl) ?_
  refine lv_iload_n hx hb dX8_falses_1 rfl (lv_at hl 1 rfl) ?_
  refine q_vq (As := [.int sq]) (rest := []) ⟨hx, hb, hml, hown, hts⟩ (k_X8_sieveAt l D g m_xb e_xb m_Sl e_Sl hs2) (cwV 1 hts gX8_falses_X8_sieveAt rfl rfl rfl (by decide +kernel) ⟨Nat.le_of_ble_eq_true rfl, Nat.le_of_ble_eq_true rfl⟩) S m_xb e_xb (T := TX8) (N := 8) rfl rfl hl.1 rfl (Nat.le_of_ble_eq_true rfl) dX8_falses_2 ⟨Nat.le_of_ble_eq_true rfl, Nat.le_of_ble_eq_true rfl⟩ (fun r3 L1 f2 H locs S w2 => ?_)
  obtain ⟨ex, eL, ef⟩ := w2
  rw [eL, ef] at S
  replace ex := ex.symm
  subst ex
  refine W.eq (g2 := F0 m 5 ls [.ref h]) rfl ?_
  refine lv_astore_n (lv' := [(3, .ref h), (0, .ref xb), (1, .int sq), (2, .int wi)]) hx hb dX8_falses_5 rfl hl (by decide) rfl (fun ls hl => ?_)
  refine lv_aload_n hx hb dX8_falses_6 rfl (lv_at hl 1 rfl) ?_
  refine lv_iload_n hx hb dX8_falses_7 rfl (lv_at hl 3 rfl) ?_
  refine q_vq (As := [.int wi]) (rest := []) ⟨hx, hb, hml, hown, hts⟩ (k_X8_worldAt l D g m_xb e_xb m_wo e_wo hw8) (cwV 1 hts gX8_falses_X8_worldAt rfl rfl rfl (by decide +kernel) ⟨Nat.le_of_ble_eq_true rfl, Nat.le_of_ble_eq_true rfl⟩) S m_xb e_xb (T := TX8) (N := 8) rfl rfl hl.1 rfl (Nat.le_of_ble_eq_true rfl) dX8_falses_8 ⟨Nat.le_of_ble_eq_true rfl, Nat.le_of_ble_eq_true rfl⟩ (fun r6 L4 f5 H locs S w8 => ?_)
  obtain ⟨ex, eL, ef⟩ := w8
  rw [eL, ef] at S
  replace ex := ex.symm
  subst ex
  refine W.eq (g2 := F0 m 11 ls [.ref wb]) rfl ?_
  refine lv_astore (lv' := [(4, .ref wb), (3, .ref h), (0, .ref xb), (1, .int sq), (2, .int wi)]) hx hb dX8_falses_11 hl (by decide) rfl (fun ls hl => ?_)
  refine lv_aload_n hx hb dX8_falses_13 rfl (lv_at hl 1 rfl) ?_
  refine lv_ifnull hx hb dX8_falses_14 ?_
  refine lv_aload hx hb dX8_falses_17 (lv_at hl 0 rfl) ?_
  refine lv_ifnonnull (tgt := 24) hx hb dX8_falses_19 (by decide) ?_
  refine lv_iconst (v := (0 : Int32)) hx hb dX8_falses_24 (by decide) ?_
  refine lv_istore (lv' := [(5, .int (0 : Int32)), (4, .ref wb), (3, .ref h), (0, .ref xb), (1, .int sq), (2, .int wi)]) hx hb dX8_falses_25 hl (by decide) rfl (fun ls hl => ?_)
  refine lv_iconst (v := (0 : Int32)) hx hb dX8_falses_27 (by decide) ?_
  refine lv_istore (lv' := [(6, .int (0 : Int32)), (5, .int (0 : Int32)), (4, .ref wb), (3, .ref h), (0, .ref xb), (1, .int sq), (2, .int wi)]) hx hb dX8_falses_28 hl (by decide) rfl (fun ls hl => ?_)
  obtain ⟨o30, ho30, hM⟩ := bind_some hM
  have EX30 : ∀ (H : Heap) (locs : List Loc) (ls : Array Slot), PS D g (va_A (va_pl L f) szz) s.heap s L f H locs → lv_has ls 7 [(5, .int o30.2)] → W p l e { frames := 6, cells := 0, slots := 0, locals := 137 } s m [.ref xb, .int sq, .int wi].toArray below meth c H locs 0 0 QQ (F0 m 63 ls []) := by
    intro H locs ls S hl
    refine lv_iload hx hb dX8_falses_63 (lv_at hl 0 rfl) ?_
    subst hQQ
    exact q_reti (post := fun x L1 f1 => x = z ∧ L1 = L ∧ f1 = f) hx hb hr hlk S dX8_falses_65 (by decide) (by decide) (by have hz := Option.some.inj hM; subst hz; exact ⟨rfl, rfl, rfl⟩)
  have LP30 : ∀ (fu : Nat) (x6_30 : Int32) (x5_30 : Int32) (H : Heap) (locs : List Loc) (ls : Array Slot), (mX8_falsesG_L30 wn wv kd sz mk sd kc n v) fu x6_30 x5_30 = some o30 → PS D g (va_A (va_pl L f) szz) s.heap s L f H locs → lv_has ls 7 [(6, .int x6_30), (5, .int x5_30), (4, .ref wb), (3, .ref h)] → W p l e { frames := 6, cells := 0, slots := 0, locals := 137 } s m [.ref xb, .int sq, .int wi].toArray below meth c H locs 0 0 QQ (F0 m 30 ls []) := by
    intro fu
    induction fu with
    | zero => intro x6_30 x5_30 H locs ls ho30 S hl; exact no_some ho30
    | succ fu ih30 =>
      intro x6_30 x5_30 H locs ls ho30 S hl
      rw [mX8_falsesG_L30] at ho30
      refine lv_iload hx hb dX8_falses_30 (lv_at hl 0 rfl) ?_
      refine lv_aload hx hb dX8_falses_32 (lv_at hl 2 rfl) ?_
      obtain ⟨z34, hz34, ho30⟩ := bind_some ho30
      refine q_vi (As := []) (rest := [.int x6_30]) ⟨hx, hb, hml, hown, hts⟩ (k_X0_count l D g m_wb e_wb hz34) (cwV 0 hts gX8_falses_X0_count rfl rfl rfl (by decide +kernel) ⟨Nat.le_of_ble_eq_true rfl, Nat.le_of_ble_eq_true rfl⟩) S m_wb e_wb (T := TX0) (N := 2) rfl rfl hl.1 rfl (Nat.le_of_ble_eq_true rfl) dX8_falses_34 ⟨Nat.le_of_ble_eq_true rfl, Nat.le_of_ble_eq_true rfl⟩ (fun r9 L7 f8 H locs S w34 => ?_)
      obtain ⟨ex34, eL, ef⟩ := w34
      rw [eL, ef] at S
      replace ex34 := ex34.symm
      subst ex34
      refine lv_icmp_ge (tgt := 63) hx hb dX8_falses_37 (by decide) (fun b37 => ?_) (fun b37 => ?_)
      · have ho30 := itT b37 ho30
        obtain rfl := Option.some.inj ho30
        exact EX30 _ _ _ S (lv_sub hl [1] rfl)
      · have ho30 := itF b37 ho30
        refine lv_aload_n hx hb dX8_falses_40 rfl (lv_at hl 3 rfl) ?_
        refine lv_aload hx hb dX8_falses_41 (lv_at hl 2 rfl) ?_
        refine lv_iload hx hb dX8_falses_43 (lv_at hl 0 rfl) ?_
        obtain ⟨z45, hz45, ho30⟩ := bind_some ho30
        refine q_vl (As := [.int x6_30]) (rest := [.ref h]) ⟨hx, hb, hml, hown, hts⟩ (k_X0_at l D g m_wb e_wb m_wr e_wr hz45) (cwV 1 hts gX8_falses_X0_at rfl rfl rfl (by decide +kernel) ⟨Nat.le_of_ble_eq_true rfl, Nat.le_of_ble_eq_true rfl⟩) S m_wb e_wb (T := TX0) (N := 2) rfl rfl hl.1 rfl (Nat.le_of_ble_eq_true rfl) dX8_falses_45 ⟨Nat.le_of_ble_eq_true rfl, Nat.le_of_ble_eq_true rfl⟩ (fun r12 L10 f11 H locs S w45 => ?_)
        obtain ⟨ex45, eL, ef⟩ := w45
        rw [eL, ef] at S
        replace ex45 := ex45.symm
        subst ex45
        obtain ⟨z48, hz48, ho30⟩ := bind_some ho30
        refine q_vi (As := [.long z45]) (rest := []) ⟨hx, hb, hml, hown, hts⟩ (k_X6_passesFalselyG l D g m_h e_h m_ce e_ce m_co e_co m_cr e_cr hz48) (cwV 1 hts gX8_falses_X6_passesFalsely rfl rfl rfl (by decide +kernel) ⟨Nat.le_of_ble_eq_true rfl, Nat.le_of_ble_eq_true rfl⟩) S m_h e_h (T := TX6) (N := 7) rfl rfl hl.1 rfl (Nat.le_of_ble_eq_true rfl) dX8_falses_48 ⟨Nat.le_of_ble_eq_true rfl, Nat.le_of_ble_eq_true rfl⟩ (fun r15 L13 f14 H locs S w48 => ?_)
        obtain ⟨ex48, eL, ef⟩ := w48
        rw [eL, ef] at S
        replace ex48 := ex48.symm
        subst ex48
        refine lv_if_eq (tgt := 57) hx hb dX8_falses_51 (by decide) (fun b51 => ?_) (fun b51 => ?_)
        · have ho30 := itT b51 ho30
          refine lv_iinc (v := (x6_30 + 1)) (lv' := [(6, .int (x6_30 + 1)), (5, .int x5_30), (4, .ref wb), (3, .ref h)]) hx hb dX8_falses_57 hl (k := 0) rfl rfl (by decide) rfl (fun ls hl => ?_)
          refine lv_goto (tgt := 30) hx hb dX8_falses_60 (by decide) ?_
          exact ih30 (x6_30 + 1) x5_30 _ _ _ ho30 S (lv_sub hl [0, 1, 2, 3] rfl)
        · have ho30 := itF b51 ho30
          refine lv_iinc (v := (x5_30 + 1)) (lv' := [(5, .int (x5_30 + 1)), (6, .int x6_30), (4, .ref wb), (3, .ref h)]) hx hb dX8_falses_54 hl (k := 1) rfl rfl (by decide) rfl (fun ls hl => ?_)
          refine lv_iinc (v := (x6_30 + 1)) (lv' := [(6, .int (x6_30 + 1)), (5, .int (x5_30 + 1)), (4, .ref wb), (3, .ref h)]) hx hb dX8_falses_57 hl (k := 1) rfl rfl (by decide) rfl (fun ls hl => ?_)
          refine lv_goto (tgt := 30) hx hb dX8_falses_60 (by decide) ?_
          exact ih30 (x6_30 + 1) (x5_30 + 1) _ _ _ ho30 S (lv_sub hl [0, 1, 2, 3] rfl)
  exact LP30 FU (0 : Int32) (0 : Int32) _ _ _ ho30 S (lv_sub hl [0, 1, 2, 3] rfl)

def mX8_falsesL_L30 (wn : Int32) (wv : Nat → Int64) (kd : Int32) (sz : Int32) (mk : Int32) (sd : Int32) (kc : Nat → Int32) (n : Int32) (v : Nat → Int64) (lc : Int32) (lsd : Int32) (rn : Int32) (rv : Nat → Int64) (lz : Nat → Int32) (ld : Nat → Nat → Int64) : Nat → Int32 → Int32 → Option (Int32 × Int32)
  | 0, _, _ => none
  | fu + 1, x6_30, x5_30 => (mX0_count wn).bind fun z34 => if z34 ≤ x6_30 then (some (x6_30, x5_30)) else ((mX0_at wn wv x6_30).bind fun z45 => (mX6_passesFalselyL kd sz mk sd kc n v lc lsd rn rv lz ld z45).bind fun z48 => if z48 = 0 then (mX8_falsesL_L30 wn wv kd sz mk sd kc n v lc lsd rn rv lz ld fu (x6_30 + 1) x5_30) else (mX8_falsesL_L30 wn wv kd sz mk sd kc n v lc lsd rn rv lz ld fu (x6_30 + 1) (x5_30 + 1)))
def mX8_falsesL (wn : Int32) (wv : Nat → Int64) (kd : Int32) (sz : Int32) (mk : Int32) (sd : Int32) (kc : Nat → Int32) (n : Int32) (v : Nat → Int64) (lc : Int32) (lsd : Int32) (rn : Int32) (rv : Nat → Int64) (lz : Nat → Int32) (ld : Nat → Nat → Int64) : Option (Int32) := (mX8_falsesL_L30 wn wv kd sz mk sd kc n v lc lsd rn rv lz ld FU (0 : Int32) (0 : Int32)).bind fun o30 => some o30.2
set_option maxHeartbeats 4000000 in
set_option maxRecDepth 100000 in
theorem k_X8_falsesL (l : Launch) (D : va_G) (g : Nat → ClassId) {L : List Nat} {f : Nat → va_E} {lb lw : Nat → Nat} {Sl ca ce ch co cr dr h la re ri ro rr so th wb wo wr xb : Nat} {md : Int32} {wf : Nat → Option Nat} {sf : Nat → Option Nat} {sq : Int32} {wi : Int32} {wn : Int32} {wv : Nat → Int64} {kd : Int32} {sz : Int32} {mk : Int32} {sd : Int32} {kc : Nat → Int32} {n : Int32} {v : Nat → Int64} {lc : Int32} {lsd : Int32} {rf : Nat → Option Nat} {rn : Int32} {rv : Nat → Int64} {lz : Nat → Int32} {ld : Nat → Nat → Int64} {z : Int32} (m_xb : xb ∈ L) (e_xb : f xb = .inr (6, [.ref wo, .ref Sl, .ref dr, .ref ri, .ref th, .ref so, .ref ch, .int md])) (m_wo : wo ∈ L) (e_wo : f wo = .inl (g 3, 8, .inr (.inr (.inr (.inr wf))))) (m_Sl : Sl ∈ L) (e_Sl : f Sl = .inl (g 5, 30, .inr (.inr (.inr (.inr sf))))) (m_wb : wb ∈ L) (e_wb : f wb = .inr (0, [.ref wr, .int wn])) (m_wr : wr ∈ L) (e_wr : f wr = .inl (g 1, 1000, .inr (.inl wv))) (m_h : h ∈ L) (e_h : f h = .inr (4, [.ref ce, .ref co, .ref la, .int kd, .int sz, .int mk, .int sd])) (m_ce : ce ∈ L) (e_ce : f ce = .inl (g 0, 4096, .inl kc)) (m_co : co ∈ L) (e_co : f co = .inr (0, [.ref cr, .int n])) (m_cr : cr ∈ L) (e_cr : f cr = .inl (g 1, 1000, .inr (.inl v))) (m_la : la ∈ L) (e_la : f la = .inr (3, [.ref ro, .ref ca, .ref re, .int lc, .int lsd])) (m_ro : ro ∈ L) (e_ro : f ro = .inl (g 4, 20, .inr (.inr (.inr (.inr rf))))) (m_re : re ∈ L) (e_re : f re = .inr (0, [.ref rr, .int rn])) (m_rr : rr ∈ L) (e_rr : f rr = .inl (g 1, 1000, .inr (.inl rv))) (e_fam : LF g L f rf lb lw lz ld)   (hw8 : mX8_worldAt wf wi = some (some wb)) (hs2 : mX8_sieveAt md sf sq = some (some h)) (hM : mX8_falsesL wn wv kd sz mk sd kc n v lc lsd rn rv lz ld = some z) : cI l yX8_falses wsX8_falses { frames := 6, cells := 0, slots := 0, locals := 143 } D g [.ref xb, .int sq, .int wi] L f 0 0 (fun x L1 f1 => x = z ∧ L1 = L ∧ f1 = f) := by
  refine cI_of (cc := cX8_falses) (maxL := 7) (ret := (some .int)) (by decide) rfl (Nat.le_of_ble_eq_true rfl) ?_
  intro szz p e s m below meth c hx hb hr hml hts hown hlk hnm S ls hl
  have hl : lv_has ls 7 [(0, .ref xb), (1, .int sq), (2, .int wi)] := hl
  unfold mX8_falsesL at hM
  refine W_gen (fun QQ hQQ => ?_)
  refine lv_aload_n hx hb dX8_falses_0 rfl (lv_at hl 0 rfl) ?_
  refine lv_iload_n hx hb dX8_falses_1 rfl (lv_at hl 1 rfl) ?_
  refine q_vq (As := [.int sq]) (rest := []) ⟨hx, hb, hml, hown, hts⟩ (k_X8_sieveAt l D g m_xb e_xb m_Sl e_Sl hs2) (cwV 1 hts gX8_falses_X8_sieveAt rfl rfl rfl (by decide +kernel) ⟨Nat.le_of_ble_eq_true rfl, Nat.le_of_ble_eq_true rfl⟩) S m_xb e_xb (T := TX8) (N := 8) rfl rfl hl.1 rfl (Nat.le_of_ble_eq_true rfl) dX8_falses_2 ⟨Nat.le_of_ble_eq_true rfl, Nat.le_of_ble_eq_true rfl⟩ (fun r3 L1 f2 H locs S w2 => ?_)
  obtain ⟨ex, eL, ef⟩ := w2
  rw [eL, ef] at S
  replace ex := ex.symm
  subst ex
  refine W.eq (g2 := F0 m 5 ls [.ref h]) rfl ?_
  refine lv_astore_n (lv' := [(3, .ref h), (0, .ref xb), (1, .int sq), (2, .int wi)]) hx hb dX8_falses_5 rfl hl (by decide) rfl (fun ls hl => ?_)
  refine lv_aload_n hx hb dX8_falses_6 rfl (lv_at hl 1 rfl) ?_
  refine lv_iload_n hx hb dX8_falses_7 rfl (lv_at hl 3 rfl) ?_
  refine q_vq (As := [.int wi]) (rest := []) ⟨hx, hb, hml, hown, hts⟩ (k_X8_worldAt l D g m_xb e_xb m_wo e_wo hw8) (cwV 1 hts gX8_falses_X8_worldAt rfl rfl rfl (by decide +kernel) ⟨Nat.le_of_ble_eq_true rfl, Nat.le_of_ble_eq_true rfl⟩) S m_xb e_xb (T := TX8) (N := 8) rfl rfl hl.1 rfl (Nat.le_of_ble_eq_true rfl) dX8_falses_8 ⟨Nat.le_of_ble_eq_true rfl, Nat.le_of_ble_eq_true rfl⟩ (fun r6 L4 f5 H locs S w8 => ?_)
  obtain ⟨ex, eL, ef⟩ := w8
  rw [eL, ef] at S
  replace ex := ex.symm
  subst ex
  refine W.eq (g2 := F0 m 11 ls [.ref wb]) rfl ?_
  refine lv_astore (lv' := [(4, .ref wb), (3, .ref h), (0, .ref xb), (1, .int sq), (2, .int wi)]) hx hb dX8_falses_11 hl (by decide) rfl (fun ls hl => ?_)
  refine lv_aload_n hx hb dX8_falses_13 rfl (lv_at hl 1 rfl) ?_
  refine lv_ifnull hx hb dX8_falses_14 ?_
  refine lv_aload hx hb dX8_falses_17 (lv_at hl 0 rfl) ?_
  refine lv_ifnonnull (tgt := 24) hx hb dX8_falses_19 (by decide) ?_
  refine lv_iconst (v := (0 : Int32)) hx hb dX8_falses_24 (by decide) ?_
  refine lv_istore (lv' := [(5, .int (0 : Int32)), (4, .ref wb), (3, .ref h), (0, .ref xb), (1, .int sq), (2, .int wi)]) hx hb dX8_falses_25 hl (by decide) rfl (fun ls hl => ?_)
  refine lv_iconst (v := (0 : Int32)) hx hb dX8_falses_27 (by decide) ?_
  refine lv_istore (lv' := [(6, .int (0 : Int32)), (5, .int (0 : Int32)), (4, .ref wb), (3, .ref h), (0, .ref xb), (1, .int sq), (2, .int wi)]) hx hb dX8_falses_28 hl (by decide) rfl (fun ls hl => ?_)
  obtain ⟨o30, ho30, hM⟩ := bind_some hM
  have EX30 : ∀ (H : Heap) (locs : List Loc) (ls : Array Slot), PS D g (va_A (va_pl L f) szz) s.heap s L f H locs → lv_has ls 7 [(5, .int o30.2)] → W p l e { frames := 6, cells := 0, slots := 0, locals := 143 } s m [.ref xb, .int sq, .int wi].toArray below meth c H locs 0 0 QQ (F0 m 63 ls []) := by
    intro H locs ls S hl
    refine lv_iload hx hb dX8_falses_63 (lv_at hl 0 rfl) ?_
    subst hQQ
    exact q_reti (post := fun x L1 f1 => x = z ∧ L1 = L ∧ f1 = f) hx hb hr hlk S dX8_falses_65 (by decide) (by decide) (by have hz := Option.some.inj hM; subst hz; exact ⟨rfl, rfl, rfl⟩)
  have LP30 : ∀ (fu : Nat) (x6_30 : Int32) (x5_30 : Int32) (H : Heap) (locs : List Loc) (ls : Array Slot), (mX8_falsesL_L30 wn wv kd sz mk sd kc n v lc lsd rn rv lz ld) fu x6_30 x5_30 = some o30 → PS D g (va_A (va_pl L f) szz) s.heap s L f H locs → lv_has ls 7 [(6, .int x6_30), (5, .int x5_30), (4, .ref wb), (3, .ref h)] → W p l e { frames := 6, cells := 0, slots := 0, locals := 143 } s m [.ref xb, .int sq, .int wi].toArray below meth c H locs 0 0 QQ (F0 m 30 ls []) := by
    intro fu
    induction fu with
    | zero => intro x6_30 x5_30 H locs ls ho30 S hl; exact no_some ho30
    | succ fu ih30 =>
      intro x6_30 x5_30 H locs ls ho30 S hl
      rw [mX8_falsesL_L30] at ho30
      refine lv_iload hx hb dX8_falses_30 (lv_at hl 0 rfl) ?_
      refine lv_aload hx hb dX8_falses_32 (lv_at hl 2 rfl) ?_
      obtain ⟨z34, hz34, ho30⟩ := bind_some ho30
      refine q_vi (As := []) (rest := [.int x6_30]) ⟨hx, hb, hml, hown, hts⟩ (k_X0_count l D g m_wb e_wb hz34) (cwV 0 hts gX8_falses_X0_count rfl rfl rfl (by decide +kernel) ⟨Nat.le_of_ble_eq_true rfl, Nat.le_of_ble_eq_true rfl⟩) S m_wb e_wb (T := TX0) (N := 2) rfl rfl hl.1 rfl (Nat.le_of_ble_eq_true rfl) dX8_falses_34 ⟨Nat.le_of_ble_eq_true rfl, Nat.le_of_ble_eq_true rfl⟩ (fun r9 L7 f8 H locs S w34 => ?_)
      obtain ⟨ex34, eL, ef⟩ := w34
      rw [eL, ef] at S
      replace ex34 := ex34.symm
      subst ex34
      refine lv_icmp_ge (tgt := 63) hx hb dX8_falses_37 (by decide) (fun b37 => ?_) (fun b37 => ?_)
      · have ho30 := itT b37 ho30
        obtain rfl := Option.some.inj ho30
        exact EX30 _ _ _ S (lv_sub hl [1] rfl)
      · have ho30 := itF b37 ho30
        refine lv_aload_n hx hb dX8_falses_40 rfl (lv_at hl 3 rfl) ?_
        refine lv_aload hx hb dX8_falses_41 (lv_at hl 2 rfl) ?_
        refine lv_iload hx hb dX8_falses_43 (lv_at hl 0 rfl) ?_
        obtain ⟨z45, hz45, ho30⟩ := bind_some ho30
        refine q_vl (As := [.int x6_30]) (rest := [.ref h]) ⟨hx, hb, hml, hown, hts⟩ (k_X0_at l D g m_wb e_wb m_wr e_wr hz45) (cwV 1 hts gX8_falses_X0_at rfl rfl rfl (by decide +kernel) ⟨Nat.le_of_ble_eq_true rfl, Nat.le_of_ble_eq_true rfl⟩) S m_wb e_wb (T := TX0) (N := 2) rfl rfl hl.1 rfl (Nat.le_of_ble_eq_true rfl) dX8_falses_45 ⟨Nat.le_of_ble_eq_true rfl, Nat.le_of_ble_eq_true rfl⟩ (fun r12 L10 f11 H locs S w45 => ?_)
        obtain ⟨ex45, eL, ef⟩ := w45
        rw [eL, ef] at S
        replace ex45 := ex45.symm
        subst ex45
        obtain ⟨z48, hz48, ho30⟩ := bind_some ho30
        refine q_vi (As := [.long z45]) (rest := []) ⟨hx, hb, hml, hown, hts⟩ (k_X6_passesFalselyL l D g m_h e_h m_ce e_ce m_co e_co m_cr e_cr m_la e_la m_ro e_ro m_re e_re m_rr e_rr e_fam hz48) (cwV 1 hts gX8_falses_X6_passesFalsely rfl rfl rfl (by decide +kernel) ⟨Nat.le_of_ble_eq_true rfl, Nat.le_of_ble_eq_true rfl⟩) S m_h e_h (T := TX6) (N := 7) rfl rfl hl.1 rfl (Nat.le_of_ble_eq_true rfl) dX8_falses_48 ⟨Nat.le_of_ble_eq_true rfl, Nat.le_of_ble_eq_true rfl⟩ (fun r15 L13 f14 H locs S w48 => ?_)
        obtain ⟨ex48, eL, ef⟩ := w48
        rw [eL, ef] at S
        replace ex48 := ex48.symm
        subst ex48
        refine lv_if_eq (tgt := 57) hx hb dX8_falses_51 (by decide) (fun b51 => ?_) (fun b51 => ?_)
        · have ho30 := itT b51 ho30
          refine lv_iinc (v := (x6_30 + 1)) (lv' := [(6, .int (x6_30 + 1)), (5, .int x5_30), (4, .ref wb), (3, .ref h)]) hx hb dX8_falses_57 hl (k := 0) rfl rfl (by decide) rfl (fun ls hl => ?_)
          refine lv_goto (tgt := 30) hx hb dX8_falses_60 (by decide) ?_
          exact ih30 (x6_30 + 1) x5_30 _ _ _ ho30 S (lv_sub hl [0, 1, 2, 3] rfl)
        · have ho30 := itF b51 ho30
          refine lv_iinc (v := (x5_30 + 1)) (lv' := [(5, .int (x5_30 + 1)), (6, .int x6_30), (4, .ref wb), (3, .ref h)]) hx hb dX8_falses_54 hl (k := 1) rfl rfl (by decide) rfl (fun ls hl => ?_)
          refine lv_iinc (v := (x6_30 + 1)) (lv' := [(6, .int (x6_30 + 1)), (5, .int (x5_30 + 1)), (4, .ref wb), (3, .ref h)]) hx hb dX8_falses_57 hl (k := 1) rfl rfl (by decide) rfl (fun ls hl => ?_)
          refine lv_goto (tgt := 30) hx hb dX8_falses_60 (by decide) ?_
          exact ih30 (x6_30 + 1) (x5_30 + 1) _ _ _ ho30 S (lv_sub hl [0, 1, 2, 3] rfl)
  exact LP30 FU (0 : Int32) (0 : Int32) _ _ _ ho30 S (lv_sub hl [0, 1, 2, 3] rfl)

def mX8_falsesSN  : Option (Int32) := some (-1 : Int32)
set_option maxHeartbeats 4000000 in
set_option maxRecDepth 100000 in
theorem k_X8_falsesSN (l : Launch) (D : va_G) (g : Nat → ClassId) {L : List Nat} {f : Nat → va_E} {Sl ch dr h ri so th wo xb : Nat} {md : Int32} {wf : Nat → Option Nat} {sf : Nat → Option Nat} {sq : Int32} {wi : Int32} {z : Int32} (m_xb : xb ∈ L) (e_xb : f xb = .inr (6, [.ref wo, .ref Sl, .ref dr, .ref ri, .ref th, .ref so, .ref ch, .int md])) (m_wo : wo ∈ L) (e_wo : f wo = .inl (g 3, 8, .inr (.inr (.inr (.inr wf))))) (m_Sl : Sl ∈ L) (e_Sl : f Sl = .inl (g 5, 30, .inr (.inr (.inr (.inr sf)))))   (hw8 : mX8_worldAt wf wi = some none) (hs2 : mX8_sieveAt md sf sq = some (some h)) (hM : mX8_falsesSN = some z) : cI l yX8_falses wsX8_falses { frames := 1, cells := 0, slots := 0, locals := 21 } D g [.ref xb, .int sq, .int wi] L f 0 0 (fun x L1 f1 => x = z ∧ L1 = L ∧ f1 = f) := by
  refine cI_of (cc := cX8_falses) (maxL := 7) (ret := (some .int)) (by decide) rfl (Nat.le_of_ble_eq_true rfl) ?_
  intro szz p e s m below meth c hx hb hr hml hts hown hlk hnm S ls hl
  have hl : lv_has ls 7 [(0, .ref xb), (1, .int sq), (2, .int wi)] := hl
  unfold mX8_falsesSN at hM
  refine W_gen (fun QQ hQQ => ?_)
  refine lv_aload_n hx hb dX8_falses_0 rfl (lv_at hl 0 rfl) ?_
  refine lv_iload_n hx hb dX8_falses_1 rfl (lv_at hl 1 rfl) ?_
  refine q_vq (As := [.int sq]) (rest := []) ⟨hx, hb, hml, hown, hts⟩ (k_X8_sieveAt l D g m_xb e_xb m_Sl e_Sl hs2) (cwV 1 hts gX8_falses_X8_sieveAt rfl rfl rfl (by decide +kernel) ⟨Nat.le_of_ble_eq_true rfl, Nat.le_of_ble_eq_true rfl⟩) S m_xb e_xb (T := TX8) (N := 8) rfl rfl hl.1 rfl (Nat.le_of_ble_eq_true rfl) dX8_falses_2 ⟨Nat.le_of_ble_eq_true rfl, Nat.le_of_ble_eq_true rfl⟩ (fun r3 L1 f2 H locs S w2 => ?_)
  obtain ⟨ex, eL, ef⟩ := w2
  rw [eL, ef] at S
  replace ex := ex.symm
  subst ex
  refine W.eq (g2 := F0 m 5 ls [.ref h]) rfl ?_
  refine lv_astore_n (lv' := [(3, .ref h), (0, .ref xb), (1, .int sq), (2, .int wi)]) hx hb dX8_falses_5 rfl hl (by decide) rfl (fun ls hl => ?_)
  refine lv_aload_n hx hb dX8_falses_6 rfl (lv_at hl 1 rfl) ?_
  refine lv_iload_n hx hb dX8_falses_7 rfl (lv_at hl 3 rfl) ?_
  refine q_vq (As := [.int wi]) (rest := []) ⟨hx, hb, hml, hown, hts⟩ (k_X8_worldAt l D g m_xb e_xb m_wo e_wo hw8) (cwV 1 hts gX8_falses_X8_worldAt rfl rfl rfl (by decide +kernel) ⟨Nat.le_of_ble_eq_true rfl, Nat.le_of_ble_eq_true rfl⟩) S m_xb e_xb (T := TX8) (N := 8) rfl rfl hl.1 rfl (Nat.le_of_ble_eq_true rfl) dX8_falses_8 ⟨Nat.le_of_ble_eq_true rfl, Nat.le_of_ble_eq_true rfl⟩ (fun r6 L4 f5 H locs S w8 => ?_)
  obtain ⟨ex, eL, ef⟩ := w8
  rw [eL, ef] at S
  replace ex := ex.symm
  subst ex
  refine W.eq (g2 := F0 m 11 ls [.null]) rfl ?_
  refine lv_astoreN (lv' := [(4, .null), (3, .ref h), (0, .ref xb), (1, .int sq), (2, .int wi)]) hx hb dX8_falses_11 hl (by decide) rfl (fun ls hl => ?_)
  refine lv_aload_n hx hb dX8_falses_13 rfl (lv_at hl 1 rfl) ?_
  refine lv_ifnull hx hb dX8_falses_14 ?_
  refine lv_aloadN hx hb dX8_falses_17 (lv_at hl 0 rfl) ?_
  refine lv_ifnonnullN hx hb dX8_falses_19 ?_
  refine lv_iconst (v := (-1 : Int32)) hx hb dX8_falses_22 (by decide) ?_
  subst hQQ
  exact q_reti (post := fun x L1 f1 => x = z ∧ L1 = L ∧ f1 = f) hx hb hr hlk S dX8_falses_23 (by decide) (by decide) (by have hz := Option.some.inj hM; subst hz; exact ⟨rfl, rfl, rfl⟩)

def mX8_falsesNW  : Option (Int32) := some (-1 : Int32)
set_option maxHeartbeats 4000000 in
set_option maxRecDepth 100000 in
theorem k_X8_falsesNW (l : Launch) (D : va_G) (g : Nat → ClassId) {L : List Nat} {f : Nat → va_E} {Sl ch dr ri so th wb wo xb : Nat} {md : Int32} {wf : Nat → Option Nat} {sf : Nat → Option Nat} {sq : Int32} {wi : Int32} {z : Int32} (m_xb : xb ∈ L) (e_xb : f xb = .inr (6, [.ref wo, .ref Sl, .ref dr, .ref ri, .ref th, .ref so, .ref ch, .int md])) (m_wo : wo ∈ L) (e_wo : f wo = .inl (g 3, 8, .inr (.inr (.inr (.inr wf))))) (m_Sl : Sl ∈ L) (e_Sl : f Sl = .inl (g 5, 30, .inr (.inr (.inr (.inr sf)))))   (hw8 : mX8_worldAt wf wi = some (some wb)) (hs2 : mX8_sieveAt md sf sq = some none) (hM : mX8_falsesNW = some z) : cI l yX8_falses wsX8_falses { frames := 1, cells := 0, slots := 0, locals := 21 } D g [.ref xb, .int sq, .int wi] L f 0 0 (fun x L1 f1 => x = z ∧ L1 = L ∧ f1 = f) := by
  refine cI_of (cc := cX8_falses) (maxL := 7) (ret := (some .int)) (by decide) rfl (Nat.le_of_ble_eq_true rfl) ?_
  intro szz p e s m below meth c hx hb hr hml hts hown hlk hnm S ls hl
  have hl : lv_has ls 7 [(0, .ref xb), (1, .int sq), (2, .int wi)] := hl
  unfold mX8_falsesNW at hM
  refine W_gen (fun QQ hQQ => ?_)
  refine lv_aload_n hx hb dX8_falses_0 rfl (lv_at hl 0 rfl) ?_
  refine lv_iload_n hx hb dX8_falses_1 rfl (lv_at hl 1 rfl) ?_
  refine q_vq (As := [.int sq]) (rest := []) ⟨hx, hb, hml, hown, hts⟩ (k_X8_sieveAt l D g m_xb e_xb m_Sl e_Sl hs2) (cwV 1 hts gX8_falses_X8_sieveAt rfl rfl rfl (by decide +kernel) ⟨Nat.le_of_ble_eq_true rfl, Nat.le_of_ble_eq_true rfl⟩) S m_xb e_xb (T := TX8) (N := 8) rfl rfl hl.1 rfl (Nat.le_of_ble_eq_true rfl) dX8_falses_2 ⟨Nat.le_of_ble_eq_true rfl, Nat.le_of_ble_eq_true rfl⟩ (fun r3 L1 f2 H locs S w2 => ?_)
  obtain ⟨ex, eL, ef⟩ := w2
  rw [eL, ef] at S
  replace ex := ex.symm
  subst ex
  refine W.eq (g2 := F0 m 5 ls [.null]) rfl ?_
  refine lv_astore_nN (lv' := [(3, .null), (0, .ref xb), (1, .int sq), (2, .int wi)]) hx hb dX8_falses_5 rfl hl (by decide) rfl (fun ls hl => ?_)
  refine lv_aload_n hx hb dX8_falses_6 rfl (lv_at hl 1 rfl) ?_
  refine lv_iload_n hx hb dX8_falses_7 rfl (lv_at hl 3 rfl) ?_
  refine q_vq (As := [.int wi]) (rest := []) ⟨hx, hb, hml, hown, hts⟩ (k_X8_worldAt l D g m_xb e_xb m_wo e_wo hw8) (cwV 1 hts gX8_falses_X8_worldAt rfl rfl rfl (by decide +kernel) ⟨Nat.le_of_ble_eq_true rfl, Nat.le_of_ble_eq_true rfl⟩) S m_xb e_xb (T := TX8) (N := 8) rfl rfl hl.1 rfl (Nat.le_of_ble_eq_true rfl) dX8_falses_8 ⟨Nat.le_of_ble_eq_true rfl, Nat.le_of_ble_eq_true rfl⟩ (fun r6 L4 f5 H locs S w8 => ?_)
  obtain ⟨ex, eL, ef⟩ := w8
  rw [eL, ef] at S
  replace ex := ex.symm
  subst ex
  refine W.eq (g2 := F0 m 11 ls [.ref wb]) rfl ?_
  refine lv_astore (lv' := [(4, .ref wb), (3, .null), (0, .ref xb), (1, .int sq), (2, .int wi)]) hx hb dX8_falses_11 hl (by decide) rfl (fun ls hl => ?_)
  refine lv_aload_nN hx hb dX8_falses_13 rfl (lv_at hl 1 rfl) ?_
  refine lv_ifnullN (tgt := 22) hx hb dX8_falses_14 (by decide) ?_
  refine lv_iconst (v := (-1 : Int32)) hx hb dX8_falses_22 (by decide) ?_
  subst hQQ
  exact q_reti (post := fun x L1 f1 => x = z ∧ L1 = L ∧ f1 = f) hx hb hr hlk S dX8_falses_23 (by decide) (by decide) (by have hz := Option.some.inj hM; subst hz; exact ⟨rfl, rfl, rfl⟩)

def mX8_falsesNN  : Option (Int32) := some (-1 : Int32)
set_option maxHeartbeats 4000000 in
set_option maxRecDepth 100000 in
theorem k_X8_falsesNN (l : Launch) (D : va_G) (g : Nat → ClassId) {L : List Nat} {f : Nat → va_E} {Sl ch dr ri so th wo xb : Nat} {md : Int32} {wf : Nat → Option Nat} {sf : Nat → Option Nat} {sq : Int32} {wi : Int32} {z : Int32} (m_xb : xb ∈ L) (e_xb : f xb = .inr (6, [.ref wo, .ref Sl, .ref dr, .ref ri, .ref th, .ref so, .ref ch, .int md])) (m_wo : wo ∈ L) (e_wo : f wo = .inl (g 3, 8, .inr (.inr (.inr (.inr wf))))) (m_Sl : Sl ∈ L) (e_Sl : f Sl = .inl (g 5, 30, .inr (.inr (.inr (.inr sf)))))   (hw8 : mX8_worldAt wf wi = some none) (hs2 : mX8_sieveAt md sf sq = some none) (hM : mX8_falsesNN = some z) : cI l yX8_falses wsX8_falses { frames := 1, cells := 0, slots := 0, locals := 21 } D g [.ref xb, .int sq, .int wi] L f 0 0 (fun x L1 f1 => x = z ∧ L1 = L ∧ f1 = f) := by
  refine cI_of (cc := cX8_falses) (maxL := 7) (ret := (some .int)) (by decide) rfl (Nat.le_of_ble_eq_true rfl) ?_
  intro szz p e s m below meth c hx hb hr hml hts hown hlk hnm S ls hl
  have hl : lv_has ls 7 [(0, .ref xb), (1, .int sq), (2, .int wi)] := hl
  unfold mX8_falsesNN at hM
  refine W_gen (fun QQ hQQ => ?_)
  refine lv_aload_n hx hb dX8_falses_0 rfl (lv_at hl 0 rfl) ?_
  refine lv_iload_n hx hb dX8_falses_1 rfl (lv_at hl 1 rfl) ?_
  refine q_vq (As := [.int sq]) (rest := []) ⟨hx, hb, hml, hown, hts⟩ (k_X8_sieveAt l D g m_xb e_xb m_Sl e_Sl hs2) (cwV 1 hts gX8_falses_X8_sieveAt rfl rfl rfl (by decide +kernel) ⟨Nat.le_of_ble_eq_true rfl, Nat.le_of_ble_eq_true rfl⟩) S m_xb e_xb (T := TX8) (N := 8) rfl rfl hl.1 rfl (Nat.le_of_ble_eq_true rfl) dX8_falses_2 ⟨Nat.le_of_ble_eq_true rfl, Nat.le_of_ble_eq_true rfl⟩ (fun r3 L1 f2 H locs S w2 => ?_)
  obtain ⟨ex, eL, ef⟩ := w2
  rw [eL, ef] at S
  replace ex := ex.symm
  subst ex
  refine W.eq (g2 := F0 m 5 ls [.null]) rfl ?_
  refine lv_astore_nN (lv' := [(3, .null), (0, .ref xb), (1, .int sq), (2, .int wi)]) hx hb dX8_falses_5 rfl hl (by decide) rfl (fun ls hl => ?_)
  refine lv_aload_n hx hb dX8_falses_6 rfl (lv_at hl 1 rfl) ?_
  refine lv_iload_n hx hb dX8_falses_7 rfl (lv_at hl 3 rfl) ?_
  refine q_vq (As := [.int wi]) (rest := []) ⟨hx, hb, hml, hown, hts⟩ (k_X8_worldAt l D g m_xb e_xb m_wo e_wo hw8) (cwV 1 hts gX8_falses_X8_worldAt rfl rfl rfl (by decide +kernel) ⟨Nat.le_of_ble_eq_true rfl, Nat.le_of_ble_eq_true rfl⟩) S m_xb e_xb (T := TX8) (N := 8) rfl rfl hl.1 rfl (Nat.le_of_ble_eq_true rfl) dX8_falses_8 ⟨Nat.le_of_ble_eq_true rfl, Nat.le_of_ble_eq_true rfl⟩ (fun r6 L4 f5 H locs S w8 => ?_)
  obtain ⟨ex, eL, ef⟩ := w8
  rw [eL, ef] at S
  replace ex := ex.symm
  subst ex
  refine W.eq (g2 := F0 m 11 ls [.null]) rfl ?_
  refine lv_astoreN (lv' := [(4, .null), (3, .null), (0, .ref xb), (1, .int sq), (2, .int wi)]) hx hb dX8_falses_11 hl (by decide) rfl (fun ls hl => ?_)
  refine lv_aload_nN hx hb dX8_falses_13 rfl (lv_at hl 1 rfl) ?_
  refine lv_ifnullN (tgt := 22) hx hb dX8_falses_14 (by decide) ?_
  refine lv_iconst (v := (-1 : Int32)) hx hb dX8_falses_22 (by decide) ?_
  subst hQQ
  exact q_reti (post := fun x L1 f1 => x = z ∧ L1 = L ∧ f1 = f) hx hb hr hlk S dX8_falses_23 (by decide) (by decide) (by have hz := Option.some.inj hM; subst hz; exact ⟨rfl, rfl, rfl⟩)

def mX8_falseOneG_L36 (wn : Int32) (wv : Nat → Int64) (kd : Int32) (sz : Int32) (mk : Int32) (sd : Int32) (kc : Nat → Int32) (n : Int32) (v : Nat → Int64) : Nat → Int32 → Int32 → Option ((Int64) ⊕ (Int32 × Int32))
  | 0, _, _ => none
  | fu + 1, x7_36, x6_36 => (mX0_count wn).bind fun z40 => if z40 ≤ x7_36 then (some (.inr (x7_36, x6_36))) else ((mX0_at wn wv x7_36).bind fun z52 => (mX6_passesFalselyG kd sz mk sd kc n v z52).bind fun z55 => if z55 = 0 then (mX8_falseOneG_L36 wn wv kd sz mk sd kc n v fu (x7_36 + 1) x6_36) else (if x6_36 = 0 then ((mX0_at wn wv x7_36).bind fun z70 => some (.inl z70)) else (mX8_falseOneG_L36 wn wv kd sz mk sd kc n v fu (x7_36 + 1) (x6_36 + (-1)))))
def mX8_falseOneG (i : Int32) (wn : Int32) (wv : Nat → Int64) (kd : Int32) (sz : Int32) (mk : Int32) (sd : Int32) (kc : Nat → Int32) (n : Int32) (v : Nat → Int64) : Option (Int64) := if 0 ≤ i then ((mX8_falseOneG_L36 wn wv kd sz mk sd kc n v FU (0 : Int32) i).bind fun o36 => Sum.elim (fun r_ => some r_) (fun s36 => some (0 : Int64)) o36) else (some (0 : Int64))
set_option maxHeartbeats 4000000 in
set_option maxRecDepth 100000 in
theorem k_X8_falseOneG (l : Launch) (D : va_G) (g : Nat → ClassId) {L : List Nat} {f : Nat → va_E} {Sl ce ch co cr dr h ri so th wb wo wr xb : Nat} {md : Int32} {wf : Nat → Option Nat} {sf : Nat → Option Nat} {sq : Int32} {wi : Int32} {i : Int32} {wn : Int32} {wv : Nat → Int64} {lay : Value} {kd : Int32} {sz : Int32} {mk : Int32} {sd : Int32} {kc : Nat → Int32} {n : Int32} {v : Nat → Int64} {z : Int64} (m_xb : xb ∈ L) (e_xb : f xb = .inr (6, [.ref wo, .ref Sl, .ref dr, .ref ri, .ref th, .ref so, .ref ch, .int md])) (m_wo : wo ∈ L) (e_wo : f wo = .inl (g 3, 8, .inr (.inr (.inr (.inr wf))))) (m_Sl : Sl ∈ L) (e_Sl : f Sl = .inl (g 5, 30, .inr (.inr (.inr (.inr sf))))) (m_wb : wb ∈ L) (e_wb : f wb = .inr (0, [.ref wr, .int wn])) (m_wr : wr ∈ L) (e_wr : f wr = .inl (g 1, 1000, .inr (.inl wv))) (m_h : h ∈ L) (e_h : f h = .inr (4, [.ref ce, .ref co, lay, .int kd, .int sz, .int mk, .int sd])) (m_ce : ce ∈ L) (e_ce : f ce = .inl (g 0, 4096, .inl kc)) (m_co : co ∈ L) (e_co : f co = .inr (0, [.ref cr, .int n])) (m_cr : cr ∈ L) (e_cr : f cr = .inl (g 1, 1000, .inr (.inl v)))   (hw9 : mX8_worldAt wf wi = some (some wb)) (hs2 : mX8_sieveAt md sf sq = some (some h)) (hM : mX8_falseOneG i wn wv kd sz mk sd kc n v = some z) : cL l yX8_falseOne wsX8_falseOne { frames := 6, cells := 0, slots := 0, locals := 137 } D g [.ref xb, .int sq, .int wi, .int i] L f 0 0 (fun x L1 f1 => x = z ∧ L1 = L ∧ f1 = f) := by
  refine cL_of (cc := cX8_falseOne) (maxL := 8) (ret := (some .long)) (by decide) rfl (Nat.le_of_ble_eq_true rfl) ?_
  intro szz p e s m below meth c hx hb hr hml hts hown hlk hnm S ls hl
  have hl : lv_has ls 8 [(0, .ref xb), (1, .int sq), (2, .int wi), (3, .int i)] := hl
  unfold mX8_falseOneG at hM
  refine W_gen (fun QQ hQQ => ?_)
  refine lv_aload_n hx hb dX8_falseOne_0 rfl (lv_at hl 0 rfl) ?_
  refine lv_iload_n hx hb dX8_falseOne_1 rfl (lv_at hl 1 rfl) ?_
  refine q_vq (As := [.int sq]) (rest := []) ⟨hx, hb, hml, hown, hts⟩ (k_X8_sieveAt l D g m_xb e_xb m_Sl e_Sl hs2) (cwV 1 hts gX8_falseOne_X8_sieveAt rfl rfl rfl (by decide +kernel) ⟨Nat.le_of_ble_eq_true rfl, Nat.le_of_ble_eq_true rfl⟩) S m_xb e_xb (T := TX8) (N := 8) rfl rfl hl.1 rfl (Nat.le_of_ble_eq_true rfl) dX8_falseOne_2 ⟨Nat.le_of_ble_eq_true rfl, Nat.le_of_ble_eq_true rfl⟩ (fun r3 L1 f2 H locs S w2 => ?_)
  obtain ⟨ex, eL, ef⟩ := w2
  rw [eL, ef] at S
  replace ex := ex.symm
  subst ex
  refine W.eq (g2 := F0 m 5 ls [.ref h]) rfl ?_
  refine lv_astore (lv' := [(4, .ref h), (0, .ref xb), (1, .int sq), (2, .int wi), (3, .int i)]) hx hb dX8_falseOne_5 hl (by decide) rfl (fun ls hl => ?_)
  refine lv_aload_n hx hb dX8_falseOne_7 rfl (lv_at hl 1 rfl) ?_
  refine lv_iload_n hx hb dX8_falseOne_8 rfl (lv_at hl 3 rfl) ?_
  refine q_vq (As := [.int wi]) (rest := []) ⟨hx, hb, hml, hown, hts⟩ (k_X8_worldAt l D g m_xb e_xb m_wo e_wo hw9) (cwV 1 hts gX8_falseOne_X8_worldAt rfl rfl rfl (by decide +kernel) ⟨Nat.le_of_ble_eq_true rfl, Nat.le_of_ble_eq_true rfl⟩) S m_xb e_xb (T := TX8) (N := 8) rfl rfl hl.1 rfl (Nat.le_of_ble_eq_true rfl) dX8_falseOne_9 ⟨Nat.le_of_ble_eq_true rfl, Nat.le_of_ble_eq_true rfl⟩ (fun r6 L4 f5 H locs S w9 => ?_)
  obtain ⟨ex, eL, ef⟩ := w9
  rw [eL, ef] at S
  replace ex := ex.symm
  subst ex
  refine W.eq (g2 := F0 m 12 ls [.ref wb]) rfl ?_
  refine lv_astore (lv' := [(5, .ref wb), (4, .ref h), (0, .ref xb), (1, .int sq), (2, .int wi), (3, .int i)]) hx hb dX8_falseOne_12 hl (by decide) rfl (fun ls hl => ?_)
  refine lv_aload hx hb dX8_falseOne_14 (lv_at hl 1 rfl) ?_
  refine lv_ifnull hx hb dX8_falseOne_16 ?_
  refine lv_aload hx hb dX8_falseOne_19 (lv_at hl 0 rfl) ?_
  refine lv_ifnull hx hb dX8_falseOne_21 ?_
  refine lv_iload_n hx hb dX8_falseOne_24 rfl (lv_at hl 5 rfl) ?_
  refine lv_if_ge (tgt := 30) hx hb dX8_falseOne_25 (by decide) (fun b25 => ?_) (fun b25 => ?_)
  · have hM := itT b25 hM
    refine lv_iload_n hx hb dX8_falseOne_30 rfl (lv_at hl 5 rfl) ?_
    refine lv_istore (lv' := [(6, .int i), (5, .ref wb), (4, .ref h), (0, .ref xb), (1, .int sq), (2, .int wi), (3, .int i)]) hx hb dX8_falseOne_31 hl (by decide) rfl (fun ls hl => ?_)
    refine lv_iconst (v := (0 : Int32)) hx hb dX8_falseOne_33 (by decide) ?_
    refine lv_istore (lv' := [(7, .int (0 : Int32)), (6, .int i), (5, .ref wb), (4, .ref h), (0, .ref xb), (1, .int sq), (2, .int wi), (3, .int i)]) hx hb dX8_falseOne_34 hl (by decide) rfl (fun ls hl => ?_)
    obtain ⟨o36, ho36, hM⟩ := bind_some hM
    have EX36 : ∀ (s36 : Int32 × Int32), o36 = .inr s36 → ∀ (H : Heap) (locs : List Loc) (ls : Array Slot), PS D g (va_A (va_pl L f) szz) s.heap s L f H locs → lv_has ls 8 [] → W p l e { frames := 6, cells := 0, slots := 0, locals := 137 } s m [.ref xb, .int sq, .int wi, .int i].toArray below meth c H locs 0 0 QQ (F0 m 83 ls []) := by
      intro s36 eo36
      rw [eo36] at hM
      simp only [Sum.elim_inr] at hM
      intro H locs ls S hl
      refine lv_lconst (v := (0 : Int64)) hx hb dX8_falseOne_83 (by decide) ?_
      subst hQQ
      exact q_retl (post := fun x L1 f1 => x = z ∧ L1 = L ∧ f1 = f) hx hb hr hlk S dX8_falseOne_84 (by decide) (by decide) (by have hz := Option.some.inj hM; subst hz; exact ⟨rfl, rfl, rfl⟩)
    have LP36 : ∀ (fu : Nat) (x7_36 : Int32) (x6_36 : Int32) (H : Heap) (locs : List Loc) (ls : Array Slot), (mX8_falseOneG_L36 wn wv kd sz mk sd kc n v) fu x7_36 x6_36 = some o36 → PS D g (va_A (va_pl L f) szz) s.heap s L f H locs → lv_has ls 8 [(7, .int x7_36), (6, .int x6_36), (5, .ref wb), (4, .ref h)] → W p l e { frames := 6, cells := 0, slots := 0, locals := 137 } s m [.ref xb, .int sq, .int wi, .int i].toArray below meth c H locs 0 0 QQ (F0 m 36 ls []) := by
      intro fu
      induction fu with
      | zero => intro x7_36 x6_36 H locs ls ho36 S hl; exact no_some ho36
      | succ fu ih36 =>
        intro x7_36 x6_36 H locs ls ho36 S hl
        rw [mX8_falseOneG_L36] at ho36
        refine lv_iload hx hb dX8_falseOne_36 (lv_at hl 0 rfl) ?_
        refine lv_aload hx hb dX8_falseOne_38 (lv_at hl 2 rfl) ?_
        obtain ⟨z40, hz40, ho36⟩ := bind_some ho36
        refine q_vi (As := []) (rest := [.int x7_36]) ⟨hx, hb, hml, hown, hts⟩ (k_X0_count l D g m_wb e_wb hz40) (cwV 0 hts gX8_falseOne_X0_count rfl rfl rfl (by decide +kernel) ⟨Nat.le_of_ble_eq_true rfl, Nat.le_of_ble_eq_true rfl⟩) S m_wb e_wb (T := TX0) (N := 2) rfl rfl hl.1 rfl (Nat.le_of_ble_eq_true rfl) dX8_falseOne_40 ⟨Nat.le_of_ble_eq_true rfl, Nat.le_of_ble_eq_true rfl⟩ (fun r9 L7 f8 H locs S w40 => ?_)
        obtain ⟨ex40, eL, ef⟩ := w40
        rw [eL, ef] at S
        replace ex40 := ex40.symm
        subst ex40
        refine lv_icmp_ge (tgt := 83) hx hb dX8_falseOne_43 (by decide) (fun b43 => ?_) (fun b43 => ?_)
        · have ho36 := itT b43 ho36
          obtain rfl := Option.some.inj ho36
          exact EX36 _ rfl _ _ _ S (lv_sub hl [] rfl)
        · have ho36 := itF b43 ho36
          refine lv_aload hx hb dX8_falseOne_46 (lv_at hl 3 rfl) ?_
          refine lv_aload hx hb dX8_falseOne_48 (lv_at hl 2 rfl) ?_
          refine lv_iload hx hb dX8_falseOne_50 (lv_at hl 0 rfl) ?_
          obtain ⟨z52, hz52, ho36⟩ := bind_some ho36
          refine q_vl (As := [.int x7_36]) (rest := [.ref h]) ⟨hx, hb, hml, hown, hts⟩ (k_X0_at l D g m_wb e_wb m_wr e_wr hz52) (cwV 1 hts gX8_falseOne_X0_at rfl rfl rfl (by decide +kernel) ⟨Nat.le_of_ble_eq_true rfl, Nat.le_of_ble_eq_true rfl⟩) S m_wb e_wb (T := TX0) (N := 2) rfl rfl hl.1 rfl (Nat.le_of_ble_eq_true rfl) dX8_falseOne_52 ⟨Nat.le_of_ble_eq_true rfl, Nat.le_of_ble_eq_true rfl⟩ (fun r12 L10 f11 H locs S w52 => ?_)
          obtain ⟨ex52, eL, ef⟩ := w52
          rw [eL, ef] at S
          replace ex52 := ex52.symm
          subst ex52
          obtain ⟨z55, hz55, ho36⟩ := bind_some ho36
          refine q_vi (As := [.long z52]) (rest := []) ⟨hx, hb, hml, hown, hts⟩ (k_X6_passesFalselyG l D g m_h e_h m_ce e_ce m_co e_co m_cr e_cr hz55) (cwV 1 hts gX8_falseOne_X6_passesFalsely rfl rfl rfl (by decide +kernel) ⟨Nat.le_of_ble_eq_true rfl, Nat.le_of_ble_eq_true rfl⟩) S m_h e_h (T := TX6) (N := 7) rfl rfl hl.1 rfl (Nat.le_of_ble_eq_true rfl) dX8_falseOne_55 ⟨Nat.le_of_ble_eq_true rfl, Nat.le_of_ble_eq_true rfl⟩ (fun r15 L13 f14 H locs S w55 => ?_)
          obtain ⟨ex55, eL, ef⟩ := w55
          rw [eL, ef] at S
          replace ex55 := ex55.symm
          subst ex55
          refine lv_if_eq (tgt := 77) hx hb dX8_falseOne_58 (by decide) (fun b58 => ?_) (fun b58 => ?_)
          · have ho36 := itT b58 ho36
            refine lv_iinc (v := (x7_36 + 1)) (lv' := [(7, .int (x7_36 + 1)), (6, .int x6_36), (5, .ref wb), (4, .ref h)]) hx hb dX8_falseOne_77 hl (k := 0) rfl rfl (by decide) rfl (fun ls hl => ?_)
            refine lv_goto (tgt := 36) hx hb dX8_falseOne_80 (by decide) ?_
            exact ih36 (x7_36 + 1) x6_36 _ _ _ ho36 S (lv_sub hl [0, 1, 2, 3] rfl)
          · have ho36 := itF b58 ho36
            refine lv_iload hx hb dX8_falseOne_61 (lv_at hl 1 rfl) ?_
            refine lv_if_ne (tgt := 74) hx hb dX8_falseOne_63 (by decide) (fun b63 => ?_) (fun b63 => ?_)
            · have ho36 := itF b63 ho36
              refine lv_iinc (v := (x6_36 + (-1))) (lv' := [(6, .int (x6_36 + (-1))), (7, .int x7_36), (5, .ref wb), (4, .ref h)]) hx hb dX8_falseOne_74 hl (k := 1) rfl rfl (by decide) rfl (fun ls hl => ?_)
              refine lv_iinc (v := (x7_36 + 1)) (lv' := [(7, .int (x7_36 + 1)), (6, .int (x6_36 + (-1))), (5, .ref wb), (4, .ref h)]) hx hb dX8_falseOne_77 hl (k := 1) rfl rfl (by decide) rfl (fun ls hl => ?_)
              refine lv_goto (tgt := 36) hx hb dX8_falseOne_80 (by decide) ?_
              exact ih36 (x7_36 + 1) (x6_36 + (-1)) _ _ _ ho36 S (lv_sub hl [0, 1, 2, 3] rfl)
            · have ho36 := itT b63 ho36
              refine lv_aload hx hb dX8_falseOne_66 (lv_at hl 2 rfl) ?_
              refine lv_iload hx hb dX8_falseOne_68 (lv_at hl 0 rfl) ?_
              obtain ⟨z70, hz70, ho36⟩ := bind_some ho36
              refine q_vl (As := [.int x7_36]) (rest := []) ⟨hx, hb, hml, hown, hts⟩ (k_X0_at l D g m_wb e_wb m_wr e_wr hz70) (cwV 1 hts gX8_falseOne_X0_at rfl rfl rfl (by decide +kernel) ⟨Nat.le_of_ble_eq_true rfl, Nat.le_of_ble_eq_true rfl⟩) S m_wb e_wb (T := TX0) (N := 2) rfl rfl hl.1 rfl (Nat.le_of_ble_eq_true rfl) dX8_falseOne_70 ⟨Nat.le_of_ble_eq_true rfl, Nat.le_of_ble_eq_true rfl⟩ (fun r18 L16 f17 H locs S w70 => ?_)
              obtain ⟨ex70, eL, ef⟩ := w70
              rw [eL, ef] at S
              replace ex70 := ex70.symm
              subst ex70
              obtain rfl := Option.some.inj ho36
              simp only [Sum.elim_inl] at hM
              subst hQQ
              exact q_retl (post := fun x L1 f1 => x = z ∧ L1 = L ∧ f1 = f) hx hb hr hlk S dX8_falseOne_73 (by decide) (by decide) (by have hz := Option.some.inj hM; subst hz; exact ⟨rfl, rfl, rfl⟩)
    exact LP36 FU (0 : Int32) i _ _ _ ho36 S (lv_sub hl [0, 1, 2, 3] rfl)
  · have hM := itF b25 hM
    refine lv_lconst (v := (0 : Int64)) hx hb dX8_falseOne_28 (by decide) ?_
    subst hQQ
    exact q_retl (post := fun x L1 f1 => x = z ∧ L1 = L ∧ f1 = f) hx hb hr hlk S dX8_falseOne_29 (by decide) (by decide) (by have hz := Option.some.inj hM; subst hz; exact ⟨rfl, rfl, rfl⟩)

def mX8_falseOneL_L36 (wn : Int32) (wv : Nat → Int64) (kd : Int32) (sz : Int32) (mk : Int32) (sd : Int32) (kc : Nat → Int32) (n : Int32) (v : Nat → Int64) (lc : Int32) (lsd : Int32) (rn : Int32) (rv : Nat → Int64) (lz : Nat → Int32) (ld : Nat → Nat → Int64) : Nat → Int32 → Int32 → Option ((Int64) ⊕ (Int32 × Int32))
  | 0, _, _ => none
  | fu + 1, x7_36, x6_36 => (mX0_count wn).bind fun z40 => if z40 ≤ x7_36 then (some (.inr (x7_36, x6_36))) else ((mX0_at wn wv x7_36).bind fun z52 => (mX6_passesFalselyL kd sz mk sd kc n v lc lsd rn rv lz ld z52).bind fun z55 => if z55 = 0 then (mX8_falseOneL_L36 wn wv kd sz mk sd kc n v lc lsd rn rv lz ld fu (x7_36 + 1) x6_36) else (if x6_36 = 0 then ((mX0_at wn wv x7_36).bind fun z70 => some (.inl z70)) else (mX8_falseOneL_L36 wn wv kd sz mk sd kc n v lc lsd rn rv lz ld fu (x7_36 + 1) (x6_36 + (-1)))))
def mX8_falseOneL (i : Int32) (wn : Int32) (wv : Nat → Int64) (kd : Int32) (sz : Int32) (mk : Int32) (sd : Int32) (kc : Nat → Int32) (n : Int32) (v : Nat → Int64) (lc : Int32) (lsd : Int32) (rn : Int32) (rv : Nat → Int64) (lz : Nat → Int32) (ld : Nat → Nat → Int64) : Option (Int64) := if 0 ≤ i then ((mX8_falseOneL_L36 wn wv kd sz mk sd kc n v lc lsd rn rv lz ld FU (0 : Int32) i).bind fun o36 => Sum.elim (fun r_ => some r_) (fun s36 => some (0 : Int64)) o36) else (some (0 : Int64))
set_option maxHeartbeats 4000000 in
set_option maxRecDepth 100000 in
theorem k_X8_falseOneL (l : Launch) (D : va_G) (g : Nat → ClassId) {L : List Nat} {f : Nat → va_E} {lb lw : Nat → Nat} {Sl ca ce ch co cr dr h la re ri ro rr so th wb wo wr xb : Nat} {md : Int32} {wf : Nat → Option Nat} {sf : Nat → Option Nat} {sq : Int32} {wi : Int32} {i : Int32} {wn : Int32} {wv : Nat → Int64} {kd : Int32} {sz : Int32} {mk : Int32} {sd : Int32} {kc : Nat → Int32} {n : Int32} {v : Nat → Int64} {lc : Int32} {lsd : Int32} {rf : Nat → Option Nat} {rn : Int32} {rv : Nat → Int64} {lz : Nat → Int32} {ld : Nat → Nat → Int64} {z : Int64} (m_xb : xb ∈ L) (e_xb : f xb = .inr (6, [.ref wo, .ref Sl, .ref dr, .ref ri, .ref th, .ref so, .ref ch, .int md])) (m_wo : wo ∈ L) (e_wo : f wo = .inl (g 3, 8, .inr (.inr (.inr (.inr wf))))) (m_Sl : Sl ∈ L) (e_Sl : f Sl = .inl (g 5, 30, .inr (.inr (.inr (.inr sf))))) (m_wb : wb ∈ L) (e_wb : f wb = .inr (0, [.ref wr, .int wn])) (m_wr : wr ∈ L) (e_wr : f wr = .inl (g 1, 1000, .inr (.inl wv))) (m_h : h ∈ L) (e_h : f h = .inr (4, [.ref ce, .ref co, .ref la, .int kd, .int sz, .int mk, .int sd])) (m_ce : ce ∈ L) (e_ce : f ce = .inl (g 0, 4096, .inl kc)) (m_co : co ∈ L) (e_co : f co = .inr (0, [.ref cr, .int n])) (m_cr : cr ∈ L) (e_cr : f cr = .inl (g 1, 1000, .inr (.inl v))) (m_la : la ∈ L) (e_la : f la = .inr (3, [.ref ro, .ref ca, .ref re, .int lc, .int lsd])) (m_ro : ro ∈ L) (e_ro : f ro = .inl (g 4, 20, .inr (.inr (.inr (.inr rf))))) (m_re : re ∈ L) (e_re : f re = .inr (0, [.ref rr, .int rn])) (m_rr : rr ∈ L) (e_rr : f rr = .inl (g 1, 1000, .inr (.inl rv))) (e_fam : LF g L f rf lb lw lz ld)   (hw9 : mX8_worldAt wf wi = some (some wb)) (hs2 : mX8_sieveAt md sf sq = some (some h)) (hM : mX8_falseOneL i wn wv kd sz mk sd kc n v lc lsd rn rv lz ld = some z) : cL l yX8_falseOne wsX8_falseOne { frames := 6, cells := 0, slots := 0, locals := 143 } D g [.ref xb, .int sq, .int wi, .int i] L f 0 0 (fun x L1 f1 => x = z ∧ L1 = L ∧ f1 = f) := by
  refine cL_of (cc := cX8_falseOne) (maxL := 8) (ret := (some .long)) (by decide) rfl (Nat.le_of_ble_eq_true rfl) ?_
  intro szz p e s m below meth c hx hb hr hml hts hown hlk hnm S ls hl
  have hl : lv_has ls 8 [(0, .ref xb), (1, .int sq), (2, .int wi), (3, .int i)] := hl
  unfold mX8_falseOneL at hM
  refine W_gen (fun QQ hQQ => ?_)
  refine lv_aload_n hx hb dX8_falseOne_0 rfl (lv_at hl 0 rfl) ?_
  refine lv_iload_n hx hb dX8_falseOne_1 rfl (lv_at hl 1 rfl) ?_
  refine q_vq (As := [.int sq]) (rest := []) ⟨hx, hb, hml, hown, hts⟩ (k_X8_sieveAt l D g m_xb e_xb m_Sl e_Sl hs2) (cwV 1 hts gX8_falseOne_X8_sieveAt rfl rfl rfl (by decide +kernel) ⟨Nat.le_of_ble_eq_true rfl, Nat.le_of_ble_eq_true rfl⟩) S m_xb e_xb (T := TX8) (N := 8) rfl rfl hl.1 rfl (Nat.le_of_ble_eq_true rfl) dX8_falseOne_2 ⟨Nat.le_of_ble_eq_true rfl, Nat.le_of_ble_eq_true rfl⟩ (fun r3 L1 f2 H locs S w2 => ?_)
  obtain ⟨ex, eL, ef⟩ := w2
  rw [eL, ef] at S
  replace ex := ex.symm
  subst ex
  refine W.eq (g2 := F0 m 5 ls [.ref h]) rfl ?_
  refine lv_astore (lv' := [(4, .ref h), (0, .ref xb), (1, .int sq), (2, .int wi), (3, .int i)]) hx hb dX8_falseOne_5 hl (by decide) rfl (fun ls hl => ?_)
  refine lv_aload_n hx hb dX8_falseOne_7 rfl (lv_at hl 1 rfl) ?_
  refine lv_iload_n hx hb dX8_falseOne_8 rfl (lv_at hl 3 rfl) ?_
  refine q_vq (As := [.int wi]) (rest := []) ⟨hx, hb, hml, hown, hts⟩ (k_X8_worldAt l D g m_xb e_xb m_wo e_wo hw9) (cwV 1 hts gX8_falseOne_X8_worldAt rfl rfl rfl (by decide +kernel) ⟨Nat.le_of_ble_eq_true rfl, Nat.le_of_ble_eq_true rfl⟩) S m_xb e_xb (T := TX8) (N := 8) rfl rfl hl.1 rfl (Nat.le_of_ble_eq_true rfl) dX8_falseOne_9 ⟨Nat.le_of_ble_eq_true rfl, Nat.le_of_ble_eq_true rfl⟩ (fun r6 L4 f5 H locs S w9 => ?_)
  obtain ⟨ex, eL, ef⟩ := w9
  rw [eL, ef] at S
  replace ex := ex.symm
  subst ex
  refine W.eq (g2 := F0 m 12 ls [.ref wb]) rfl ?_
  refine lv_astore (lv' := [(5, .ref wb), (4, .ref h), (0, .ref xb), (1, .int sq), (2, .int wi), (3, .int i)]) hx hb dX8_falseOne_12 hl (by decide) rfl (fun ls hl => ?_)
  refine lv_aload hx hb dX8_falseOne_14 (lv_at hl 1 rfl) ?_
  refine lv_ifnull hx hb dX8_falseOne_16 ?_
  refine lv_aload hx hb dX8_falseOne_19 (lv_at hl 0 rfl) ?_
  refine lv_ifnull hx hb dX8_falseOne_21 ?_
  refine lv_iload_n hx hb dX8_falseOne_24 rfl (lv_at hl 5 rfl) ?_
  refine lv_if_ge (tgt := 30) hx hb dX8_falseOne_25 (by decide) (fun b25 => ?_) (fun b25 => ?_)
  · have hM := itT b25 hM
    refine lv_iload_n hx hb dX8_falseOne_30 rfl (lv_at hl 5 rfl) ?_
    refine lv_istore (lv' := [(6, .int i), (5, .ref wb), (4, .ref h), (0, .ref xb), (1, .int sq), (2, .int wi), (3, .int i)]) hx hb dX8_falseOne_31 hl (by decide) rfl (fun ls hl => ?_)
    refine lv_iconst (v := (0 : Int32)) hx hb dX8_falseOne_33 (by decide) ?_
    refine lv_istore (lv' := [(7, .int (0 : Int32)), (6, .int i), (5, .ref wb), (4, .ref h), (0, .ref xb), (1, .int sq), (2, .int wi), (3, .int i)]) hx hb dX8_falseOne_34 hl (by decide) rfl (fun ls hl => ?_)
    obtain ⟨o36, ho36, hM⟩ := bind_some hM
    have EX36 : ∀ (s36 : Int32 × Int32), o36 = .inr s36 → ∀ (H : Heap) (locs : List Loc) (ls : Array Slot), PS D g (va_A (va_pl L f) szz) s.heap s L f H locs → lv_has ls 8 [] → W p l e { frames := 6, cells := 0, slots := 0, locals := 143 } s m [.ref xb, .int sq, .int wi, .int i].toArray below meth c H locs 0 0 QQ (F0 m 83 ls []) := by
      intro s36 eo36
      rw [eo36] at hM
      simp only [Sum.elim_inr] at hM
      intro H locs ls S hl
      refine lv_lconst (v := (0 : Int64)) hx hb dX8_falseOne_83 (by decide) ?_
      subst hQQ
      exact q_retl (post := fun x L1 f1 => x = z ∧ L1 = L ∧ f1 = f) hx hb hr hlk S dX8_falseOne_84 (by decide) (by decide) (by have hz := Option.some.inj hM; subst hz; exact ⟨rfl, rfl, rfl⟩)
    have LP36 : ∀ (fu : Nat) (x7_36 : Int32) (x6_36 : Int32) (H : Heap) (locs : List Loc) (ls : Array Slot), (mX8_falseOneL_L36 wn wv kd sz mk sd kc n v lc lsd rn rv lz ld) fu x7_36 x6_36 = some o36 → PS D g (va_A (va_pl L f) szz) s.heap s L f H locs → lv_has ls 8 [(7, .int x7_36), (6, .int x6_36), (5, .ref wb), (4, .ref h)] → W p l e { frames := 6, cells := 0, slots := 0, locals := 143 } s m [.ref xb, .int sq, .int wi, .int i].toArray below meth c H locs 0 0 QQ (F0 m 36 ls []) := by
      intro fu
      induction fu with
      | zero => intro x7_36 x6_36 H locs ls ho36 S hl; exact no_some ho36
      | succ fu ih36 =>
        intro x7_36 x6_36 H locs ls ho36 S hl
        rw [mX8_falseOneL_L36] at ho36
        refine lv_iload hx hb dX8_falseOne_36 (lv_at hl 0 rfl) ?_
        refine lv_aload hx hb dX8_falseOne_38 (lv_at hl 2 rfl) ?_
        obtain ⟨z40, hz40, ho36⟩ := bind_some ho36
        refine q_vi (As := []) (rest := [.int x7_36]) ⟨hx, hb, hml, hown, hts⟩ (k_X0_count l D g m_wb e_wb hz40) (cwV 0 hts gX8_falseOne_X0_count rfl rfl rfl (by decide +kernel) ⟨Nat.le_of_ble_eq_true rfl, Nat.le_of_ble_eq_true rfl⟩) S m_wb e_wb (T := TX0) (N := 2) rfl rfl hl.1 rfl (Nat.le_of_ble_eq_true rfl) dX8_falseOne_40 ⟨Nat.le_of_ble_eq_true rfl, Nat.le_of_ble_eq_true rfl⟩ (fun r9 L7 f8 H locs S w40 => ?_)
        obtain ⟨ex40, eL, ef⟩ := w40
        rw [eL, ef] at S
        replace ex40 := ex40.symm
        subst ex40
        refine lv_icmp_ge (tgt := 83) hx hb dX8_falseOne_43 (by decide) (fun b43 => ?_) (fun b43 => ?_)
        · have ho36 := itT b43 ho36
          obtain rfl := Option.some.inj ho36
          exact EX36 _ rfl _ _ _ S (lv_sub hl [] rfl)
        · have ho36 := itF b43 ho36
          refine lv_aload hx hb dX8_falseOne_46 (lv_at hl 3 rfl) ?_
          refine lv_aload hx hb dX8_falseOne_48 (lv_at hl 2 rfl) ?_
          refine lv_iload hx hb dX8_falseOne_50 (lv_at hl 0 rfl) ?_
          obtain ⟨z52, hz52, ho36⟩ := bind_some ho36
          refine q_vl (As := [.int x7_36]) (rest := [.ref h]) ⟨hx, hb, hml, hown, hts⟩ (k_X0_at l D g m_wb e_wb m_wr e_wr hz52) (cwV 1 hts gX8_falseOne_X0_at rfl rfl rfl (by decide +kernel) ⟨Nat.le_of_ble_eq_true rfl, Nat.le_of_ble_eq_true rfl⟩) S m_wb e_wb (T := TX0) (N := 2) rfl rfl hl.1 rfl (Nat.le_of_ble_eq_true rfl) dX8_falseOne_52 ⟨Nat.le_of_ble_eq_true rfl, Nat.le_of_ble_eq_true rfl⟩ (fun r12 L10 f11 H locs S w52 => ?_)
          obtain ⟨ex52, eL, ef⟩ := w52
          rw [eL, ef] at S
          replace ex52 := ex52.symm
          subst ex52
          obtain ⟨z55, hz55, ho36⟩ := bind_some ho36
          refine q_vi (As := [.long z52]) (rest := []) ⟨hx, hb, hml, hown, hts⟩ (k_X6_passesFalselyL l D g m_h e_h m_ce e_ce m_co e_co m_cr e_cr m_la e_la m_ro e_ro m_re e_re m_rr e_rr e_fam hz55) (cwV 1 hts gX8_falseOne_X6_passesFalsely rfl rfl rfl (by decide +kernel) ⟨Nat.le_of_ble_eq_true rfl, Nat.le_of_ble_eq_true rfl⟩) S m_h e_h (T := TX6) (N := 7) rfl rfl hl.1 rfl (Nat.le_of_ble_eq_true rfl) dX8_falseOne_55 ⟨Nat.le_of_ble_eq_true rfl, Nat.le_of_ble_eq_true rfl⟩ (fun r15 L13 f14 H locs S w55 => ?_)
          obtain ⟨ex55, eL, ef⟩ := w55
          rw [eL, ef] at S
          replace ex55 := ex55.symm
          subst ex55
          refine lv_if_eq (tgt := 77) hx hb dX8_falseOne_58 (by decide) (fun b58 => ?_) (fun b58 => ?_)
          · have ho36 := itT b58 ho36
            refine lv_iinc (v := (x7_36 + 1)) (lv' := [(7, .int (x7_36 + 1)), (6, .int x6_36), (5, .ref wb), (4, .ref h)]) hx hb dX8_falseOne_77 hl (k := 0) rfl rfl (by decide) rfl (fun ls hl => ?_)
            refine lv_goto (tgt := 36) hx hb dX8_falseOne_80 (by decide) ?_
            exact ih36 (x7_36 + 1) x6_36 _ _ _ ho36 S (lv_sub hl [0, 1, 2, 3] rfl)
          · have ho36 := itF b58 ho36
            refine lv_iload hx hb dX8_falseOne_61 (lv_at hl 1 rfl) ?_
            refine lv_if_ne (tgt := 74) hx hb dX8_falseOne_63 (by decide) (fun b63 => ?_) (fun b63 => ?_)
            · have ho36 := itF b63 ho36
              refine lv_iinc (v := (x6_36 + (-1))) (lv' := [(6, .int (x6_36 + (-1))), (7, .int x7_36), (5, .ref wb), (4, .ref h)]) hx hb dX8_falseOne_74 hl (k := 1) rfl rfl (by decide) rfl (fun ls hl => ?_)
              refine lv_iinc (v := (x7_36 + 1)) (lv' := [(7, .int (x7_36 + 1)), (6, .int (x6_36 + (-1))), (5, .ref wb), (4, .ref h)]) hx hb dX8_falseOne_77 hl (k := 1) rfl rfl (by decide) rfl (fun ls hl => ?_)
              refine lv_goto (tgt := 36) hx hb dX8_falseOne_80 (by decide) ?_
              exact ih36 (x7_36 + 1) (x6_36 + (-1)) _ _ _ ho36 S (lv_sub hl [0, 1, 2, 3] rfl)
            · have ho36 := itT b63 ho36
              refine lv_aload hx hb dX8_falseOne_66 (lv_at hl 2 rfl) ?_
              refine lv_iload hx hb dX8_falseOne_68 (lv_at hl 0 rfl) ?_
              obtain ⟨z70, hz70, ho36⟩ := bind_some ho36
              refine q_vl (As := [.int x7_36]) (rest := []) ⟨hx, hb, hml, hown, hts⟩ (k_X0_at l D g m_wb e_wb m_wr e_wr hz70) (cwV 1 hts gX8_falseOne_X0_at rfl rfl rfl (by decide +kernel) ⟨Nat.le_of_ble_eq_true rfl, Nat.le_of_ble_eq_true rfl⟩) S m_wb e_wb (T := TX0) (N := 2) rfl rfl hl.1 rfl (Nat.le_of_ble_eq_true rfl) dX8_falseOne_70 ⟨Nat.le_of_ble_eq_true rfl, Nat.le_of_ble_eq_true rfl⟩ (fun r18 L16 f17 H locs S w70 => ?_)
              obtain ⟨ex70, eL, ef⟩ := w70
              rw [eL, ef] at S
              replace ex70 := ex70.symm
              subst ex70
              obtain rfl := Option.some.inj ho36
              simp only [Sum.elim_inl] at hM
              subst hQQ
              exact q_retl (post := fun x L1 f1 => x = z ∧ L1 = L ∧ f1 = f) hx hb hr hlk S dX8_falseOne_73 (by decide) (by decide) (by have hz := Option.some.inj hM; subst hz; exact ⟨rfl, rfl, rfl⟩)
    exact LP36 FU (0 : Int32) i _ _ _ ho36 S (lv_sub hl [0, 1, 2, 3] rfl)
  · have hM := itF b25 hM
    refine lv_lconst (v := (0 : Int64)) hx hb dX8_falseOne_28 (by decide) ?_
    subst hQQ
    exact q_retl (post := fun x L1 f1 => x = z ∧ L1 = L ∧ f1 = f) hx hb hr hlk S dX8_falseOne_29 (by decide) (by decide) (by have hz := Option.some.inj hM; subst hz; exact ⟨rfl, rfl, rfl⟩)

def mX8_falseOneSN  : Option (Int64) := some (0 : Int64)
set_option maxHeartbeats 4000000 in
set_option maxRecDepth 100000 in
theorem k_X8_falseOneSN (l : Launch) (D : va_G) (g : Nat → ClassId) {L : List Nat} {f : Nat → va_E} {Sl ch dr h ri so th wo xb : Nat} {md : Int32} {wf : Nat → Option Nat} {sf : Nat → Option Nat} {sq : Int32} {wi : Int32} {i : Int32} {z : Int64} (m_xb : xb ∈ L) (e_xb : f xb = .inr (6, [.ref wo, .ref Sl, .ref dr, .ref ri, .ref th, .ref so, .ref ch, .int md])) (m_wo : wo ∈ L) (e_wo : f wo = .inl (g 3, 8, .inr (.inr (.inr (.inr wf))))) (m_Sl : Sl ∈ L) (e_Sl : f Sl = .inl (g 5, 30, .inr (.inr (.inr (.inr sf)))))   (hw9 : mX8_worldAt wf wi = some none) (hs2 : mX8_sieveAt md sf sq = some (some h)) (hM : mX8_falseOneSN = some z) : cL l yX8_falseOne wsX8_falseOne { frames := 1, cells := 0, slots := 0, locals := 21 } D g [.ref xb, .int sq, .int wi, .int i] L f 0 0 (fun x L1 f1 => x = z ∧ L1 = L ∧ f1 = f) := by
  refine cL_of (cc := cX8_falseOne) (maxL := 8) (ret := (some .long)) (by decide) rfl (Nat.le_of_ble_eq_true rfl) ?_
  intro szz p e s m below meth c hx hb hr hml hts hown hlk hnm S ls hl
  have hl : lv_has ls 8 [(0, .ref xb), (1, .int sq), (2, .int wi), (3, .int i)] := hl
  unfold mX8_falseOneSN at hM
  refine W_gen (fun QQ hQQ => ?_)
  refine lv_aload_n hx hb dX8_falseOne_0 rfl (lv_at hl 0 rfl) ?_
  refine lv_iload_n hx hb dX8_falseOne_1 rfl (lv_at hl 1 rfl) ?_
  refine q_vq (As := [.int sq]) (rest := []) ⟨hx, hb, hml, hown, hts⟩ (k_X8_sieveAt l D g m_xb e_xb m_Sl e_Sl hs2) (cwV 1 hts gX8_falseOne_X8_sieveAt rfl rfl rfl (by decide +kernel) ⟨Nat.le_of_ble_eq_true rfl, Nat.le_of_ble_eq_true rfl⟩) S m_xb e_xb (T := TX8) (N := 8) rfl rfl hl.1 rfl (Nat.le_of_ble_eq_true rfl) dX8_falseOne_2 ⟨Nat.le_of_ble_eq_true rfl, Nat.le_of_ble_eq_true rfl⟩ (fun r3 L1 f2 H locs S w2 => ?_)
  obtain ⟨ex, eL, ef⟩ := w2
  rw [eL, ef] at S
  replace ex := ex.symm
  subst ex
  refine W.eq (g2 := F0 m 5 ls [.ref h]) rfl ?_
  refine lv_astore (lv' := [(4, .ref h), (0, .ref xb), (1, .int sq), (2, .int wi), (3, .int i)]) hx hb dX8_falseOne_5 hl (by decide) rfl (fun ls hl => ?_)
  refine lv_aload_n hx hb dX8_falseOne_7 rfl (lv_at hl 1 rfl) ?_
  refine lv_iload_n hx hb dX8_falseOne_8 rfl (lv_at hl 3 rfl) ?_
  refine q_vq (As := [.int wi]) (rest := []) ⟨hx, hb, hml, hown, hts⟩ (k_X8_worldAt l D g m_xb e_xb m_wo e_wo hw9) (cwV 1 hts gX8_falseOne_X8_worldAt rfl rfl rfl (by decide +kernel) ⟨Nat.le_of_ble_eq_true rfl, Nat.le_of_ble_eq_true rfl⟩) S m_xb e_xb (T := TX8) (N := 8) rfl rfl hl.1 rfl (Nat.le_of_ble_eq_true rfl) dX8_falseOne_9 ⟨Nat.le_of_ble_eq_true rfl, Nat.le_of_ble_eq_true rfl⟩ (fun r6 L4 f5 H locs S w9 => ?_)
  obtain ⟨ex, eL, ef⟩ := w9
  rw [eL, ef] at S
  replace ex := ex.symm
  subst ex
  refine W.eq (g2 := F0 m 12 ls [.null]) rfl ?_
  refine lv_astoreN (lv' := [(5, .null), (4, .ref h), (0, .ref xb), (1, .int sq), (2, .int wi), (3, .int i)]) hx hb dX8_falseOne_12 hl (by decide) rfl (fun ls hl => ?_)
  refine lv_aload hx hb dX8_falseOne_14 (lv_at hl 1 rfl) ?_
  refine lv_ifnull hx hb dX8_falseOne_16 ?_
  refine lv_aloadN hx hb dX8_falseOne_19 (lv_at hl 0 rfl) ?_
  refine lv_ifnullN (tgt := 28) hx hb dX8_falseOne_21 (by decide) ?_
  refine lv_lconst (v := (0 : Int64)) hx hb dX8_falseOne_28 (by decide) ?_
  subst hQQ
  exact q_retl (post := fun x L1 f1 => x = z ∧ L1 = L ∧ f1 = f) hx hb hr hlk S dX8_falseOne_29 (by decide) (by decide) (by have hz := Option.some.inj hM; subst hz; exact ⟨rfl, rfl, rfl⟩)

def mX8_falseOneNW  : Option (Int64) := some (0 : Int64)
set_option maxHeartbeats 4000000 in
set_option maxRecDepth 100000 in
theorem k_X8_falseOneNW (l : Launch) (D : va_G) (g : Nat → ClassId) {L : List Nat} {f : Nat → va_E} {Sl ch dr ri so th wb wo xb : Nat} {md : Int32} {wf : Nat → Option Nat} {sf : Nat → Option Nat} {sq : Int32} {wi : Int32} {i : Int32} {z : Int64} (m_xb : xb ∈ L) (e_xb : f xb = .inr (6, [.ref wo, .ref Sl, .ref dr, .ref ri, .ref th, .ref so, .ref ch, .int md])) (m_wo : wo ∈ L) (e_wo : f wo = .inl (g 3, 8, .inr (.inr (.inr (.inr wf))))) (m_Sl : Sl ∈ L) (e_Sl : f Sl = .inl (g 5, 30, .inr (.inr (.inr (.inr sf)))))   (hw9 : mX8_worldAt wf wi = some (some wb)) (hs2 : mX8_sieveAt md sf sq = some none) (hM : mX8_falseOneNW = some z) : cL l yX8_falseOne wsX8_falseOne { frames := 1, cells := 0, slots := 0, locals := 21 } D g [.ref xb, .int sq, .int wi, .int i] L f 0 0 (fun x L1 f1 => x = z ∧ L1 = L ∧ f1 = f) := by
  refine cL_of (cc := cX8_falseOne) (maxL := 8) (ret := (some .long)) (by decide) rfl (Nat.le_of_ble_eq_true rfl) ?_
  intro szz p e s m below meth c hx hb hr hml hts hown hlk hnm S ls hl
  have hl : lv_has ls 8 [(0, .ref xb), (1, .int sq), (2, .int wi), (3, .int i)] := hl
  unfold mX8_falseOneNW at hM
  refine W_gen (fun QQ hQQ => ?_)
  refine lv_aload_n hx hb dX8_falseOne_0 rfl (lv_at hl 0 rfl) ?_
  refine lv_iload_n hx hb dX8_falseOne_1 rfl (lv_at hl 1 rfl) ?_
  refine q_vq (As := [.int sq]) (rest := []) ⟨hx, hb, hml, hown, hts⟩ (k_X8_sieveAt l D g m_xb e_xb m_Sl e_Sl hs2) (cwV 1 hts gX8_falseOne_X8_sieveAt rfl rfl rfl (by decide +kernel) ⟨Nat.le_of_ble_eq_true rfl, Nat.le_of_ble_eq_true rfl⟩) S m_xb e_xb (T := TX8) (N := 8) rfl rfl hl.1 rfl (Nat.le_of_ble_eq_true rfl) dX8_falseOne_2 ⟨Nat.le_of_ble_eq_true rfl, Nat.le_of_ble_eq_true rfl⟩ (fun r3 L1 f2 H locs S w2 => ?_)
  obtain ⟨ex, eL, ef⟩ := w2
  rw [eL, ef] at S
  replace ex := ex.symm
  subst ex
  refine W.eq (g2 := F0 m 5 ls [.null]) rfl ?_
  refine lv_astoreN (lv' := [(4, .null), (0, .ref xb), (1, .int sq), (2, .int wi), (3, .int i)]) hx hb dX8_falseOne_5 hl (by decide) rfl (fun ls hl => ?_)
  refine lv_aload_n hx hb dX8_falseOne_7 rfl (lv_at hl 1 rfl) ?_
  refine lv_iload_n hx hb dX8_falseOne_8 rfl (lv_at hl 3 rfl) ?_
  refine q_vq (As := [.int wi]) (rest := []) ⟨hx, hb, hml, hown, hts⟩ (k_X8_worldAt l D g m_xb e_xb m_wo e_wo hw9) (cwV 1 hts gX8_falseOne_X8_worldAt rfl rfl rfl (by decide +kernel) ⟨Nat.le_of_ble_eq_true rfl, Nat.le_of_ble_eq_true rfl⟩) S m_xb e_xb (T := TX8) (N := 8) rfl rfl hl.1 rfl (Nat.le_of_ble_eq_true rfl) dX8_falseOne_9 ⟨Nat.le_of_ble_eq_true rfl, Nat.le_of_ble_eq_true rfl⟩ (fun r6 L4 f5 H locs S w9 => ?_)
  obtain ⟨ex, eL, ef⟩ := w9
  rw [eL, ef] at S
  replace ex := ex.symm
  subst ex
  refine W.eq (g2 := F0 m 12 ls [.ref wb]) rfl ?_
  refine lv_astore (lv' := [(5, .ref wb), (4, .null), (0, .ref xb), (1, .int sq), (2, .int wi), (3, .int i)]) hx hb dX8_falseOne_12 hl (by decide) rfl (fun ls hl => ?_)
  refine lv_aloadN hx hb dX8_falseOne_14 (lv_at hl 1 rfl) ?_
  refine lv_ifnullN (tgt := 28) hx hb dX8_falseOne_16 (by decide) ?_
  refine lv_lconst (v := (0 : Int64)) hx hb dX8_falseOne_28 (by decide) ?_
  subst hQQ
  exact q_retl (post := fun x L1 f1 => x = z ∧ L1 = L ∧ f1 = f) hx hb hr hlk S dX8_falseOne_29 (by decide) (by decide) (by have hz := Option.some.inj hM; subst hz; exact ⟨rfl, rfl, rfl⟩)

def mX8_falseOneNN  : Option (Int64) := some (0 : Int64)
set_option maxHeartbeats 4000000 in
set_option maxRecDepth 100000 in
theorem k_X8_falseOneNN (l : Launch) (D : va_G) (g : Nat → ClassId) {L : List Nat} {f : Nat → va_E} {Sl ch dr ri so th wo xb : Nat} {md : Int32} {wf : Nat → Option Nat} {sf : Nat → Option Nat} {sq : Int32} {wi : Int32} {i : Int32} {z : Int64} (m_xb : xb ∈ L) (e_xb : f xb = .inr (6, [.ref wo, .ref Sl, .ref dr, .ref ri, .ref th, .ref so, .ref ch, .int md])) (m_wo : wo ∈ L) (e_wo : f wo = .inl (g 3, 8, .inr (.inr (.inr (.inr wf))))) (m_Sl : Sl ∈ L) (e_Sl : f Sl = .inl (g 5, 30, .inr (.inr (.inr (.inr sf)))))   (hw9 : mX8_worldAt wf wi = some none) (hs2 : mX8_sieveAt md sf sq = some none) (hM : mX8_falseOneNN = some z) : cL l yX8_falseOne wsX8_falseOne { frames := 1, cells := 0, slots := 0, locals := 21 } D g [.ref xb, .int sq, .int wi, .int i] L f 0 0 (fun x L1 f1 => x = z ∧ L1 = L ∧ f1 = f) := by
  refine cL_of (cc := cX8_falseOne) (maxL := 8) (ret := (some .long)) (by decide) rfl (Nat.le_of_ble_eq_true rfl) ?_
  intro szz p e s m below meth c hx hb hr hml hts hown hlk hnm S ls hl
  have hl : lv_has ls 8 [(0, .ref xb), (1, .int sq), (2, .int wi), (3, .int i)] := hl
  unfold mX8_falseOneNN at hM
  refine W_gen (fun QQ hQQ => ?_)
  refine lv_aload_n hx hb dX8_falseOne_0 rfl (lv_at hl 0 rfl) ?_
  refine lv_iload_n hx hb dX8_falseOne_1 rfl (lv_at hl 1 rfl) ?_
  refine q_vq (As := [.int sq]) (rest := []) ⟨hx, hb, hml, hown, hts⟩ (k_X8_sieveAt l D g m_xb e_xb m_Sl e_Sl hs2) (cwV 1 hts gX8_falseOne_X8_sieveAt rfl rfl rfl (by decide +kernel) ⟨Nat.le_of_ble_eq_true rfl, Nat.le_of_ble_eq_true rfl⟩) S m_xb e_xb (T := TX8) (N := 8) rfl rfl hl.1 rfl (Nat.le_of_ble_eq_true rfl) dX8_falseOne_2 ⟨Nat.le_of_ble_eq_true rfl, Nat.le_of_ble_eq_true rfl⟩ (fun r3 L1 f2 H locs S w2 => ?_)
  obtain ⟨ex, eL, ef⟩ := w2
  rw [eL, ef] at S
  replace ex := ex.symm
  subst ex
  refine W.eq (g2 := F0 m 5 ls [.null]) rfl ?_
  refine lv_astoreN (lv' := [(4, .null), (0, .ref xb), (1, .int sq), (2, .int wi), (3, .int i)]) hx hb dX8_falseOne_5 hl (by decide) rfl (fun ls hl => ?_)
  refine lv_aload_n hx hb dX8_falseOne_7 rfl (lv_at hl 1 rfl) ?_
  refine lv_iload_n hx hb dX8_falseOne_8 rfl (lv_at hl 3 rfl) ?_
  refine q_vq (As := [.int wi]) (rest := []) ⟨hx, hb, hml, hown, hts⟩ (k_X8_worldAt l D g m_xb e_xb m_wo e_wo hw9) (cwV 1 hts gX8_falseOne_X8_worldAt rfl rfl rfl (by decide +kernel) ⟨Nat.le_of_ble_eq_true rfl, Nat.le_of_ble_eq_true rfl⟩) S m_xb e_xb (T := TX8) (N := 8) rfl rfl hl.1 rfl (Nat.le_of_ble_eq_true rfl) dX8_falseOne_9 ⟨Nat.le_of_ble_eq_true rfl, Nat.le_of_ble_eq_true rfl⟩ (fun r6 L4 f5 H locs S w9 => ?_)
  obtain ⟨ex, eL, ef⟩ := w9
  rw [eL, ef] at S
  replace ex := ex.symm
  subst ex
  refine W.eq (g2 := F0 m 12 ls [.null]) rfl ?_
  refine lv_astoreN (lv' := [(5, .null), (4, .null), (0, .ref xb), (1, .int sq), (2, .int wi), (3, .int i)]) hx hb dX8_falseOne_12 hl (by decide) rfl (fun ls hl => ?_)
  refine lv_aloadN hx hb dX8_falseOne_14 (lv_at hl 1 rfl) ?_
  refine lv_ifnullN (tgt := 28) hx hb dX8_falseOne_16 (by decide) ?_
  refine lv_lconst (v := (0 : Int64)) hx hb dX8_falseOne_28 (by decide) ?_
  subst hQQ
  exact q_retl (post := fun x L1 f1 => x = z ∧ L1 = L ∧ f1 = f) hx hb hr hlk S dX8_falseOne_29 (by decide) (by decide) (by have hz := Option.some.inj hM; subst hz; exact ⟨rfl, rfl, rfl⟩)

def mX8_fewest (mo : Int32) (sd_ : Int32) (wn : Int32) (wv : Nat → Int64) (un : Int32) (uv : Nat → Int64) (rin : Int32) (riv : Nat → Int64) (ic : Int32) (rc : Int32) (vim : Nat → Int64) (vrm : Nat → Int64) (z0 : Int32) (vbw : Nat → Int64) : Option (Int32 × Int32 × (Nat → Int64) × Int32 × Int32 × (Nat → Int64) × (Nat → Int64) × Int32 × (Nat → Int64)) := if mo < (8 : Int32) then (some ((-1 : Int32), rin, riv, ic, rc, vim, vrm, z0, vbw)) else (if mo ≤ (4096 : Int32) then ((mX0_becomeWithout riv un uv wn wv).bind fun z47 => (mX2_begin vim vrm wn wv z47.1 z47.2 sd_).bind fun z62 => (mX2_choose z62.1 z62.2.1 z62.2.2.1 z62.2.2.2 z0 vbw mo).bind fun z70 => some (z70.1, z47.1, z47.2, z62.1, z62.2.1, z62.2.2.1, z62.2.2.2, z70.2.1, z70.2.2)) else (some ((-1 : Int32), rin, riv, ic, rc, vim, vrm, z0, vbw)))
set_option maxHeartbeats 4000000 in
set_option maxRecDepth 100000 in
theorem k_X8_fewest (l : Launch) (D : va_G) (g : Nat → ClassId) {L : List Nat} {f : Nat → va_E} {Sl bo bw ch dr im ri rir rm so th ub ur wb wo wr xb : Nat} {md : Int32} {wf : Nat → Option Nat} {wi : Int32} {wa : Int32} {mo : Int32} {sd_ : Int32} {wn : Int32} {wv : Nat → Int64} {jw : Nat} {un : Int32} {uv : Nat → Int64} {ju : Nat} {rin : Int32} {riv : Nat → Int64} {ic : Int32} {rc : Int32} {vim : Nat → Int64} {vrm : Nat → Int64} {z0 : Int32} {vbw : Nat → Int64} {ρ : Nat → Nat × Nat} {z : Int32 × Int32 × (Nat → Int64) × Int32 × Int32 × (Nat → Int64) × (Nat → Int64) × Int32 × (Nat → Int64)} (m_xb : xb ∈ L) (e_xb : f xb = .inr (6, [.ref wo, .ref Sl, .ref dr, .ref ri, .ref th, .ref so, .ref ch, .int md])) (m_wo : wo ∈ L) (e_wo : f wo = .inl (g 3, 8, .inr (.inr (.inr (.inr wf))))) (m_wb : wb ∈ L) (e_wb : f wb = .inr (0, [.ref wr, .int wn])) (m_wr : wr ∈ L) (e_wr : f wr = .inl (g 1, 1000, .inr (.inl wv))) (m_ub : ub ∈ L) (e_ub : f ub = .inr (0, [.ref ur, .int un])) (m_ur : ur ∈ L) (e_ur : f ur = .inl (g 1, 1000, .inr (.inl uv))) (m_ri : ri ∈ L) (e_ri : f ri = .inr (0, [.ref rir, .int rin])) (m_rir : rir ∈ L) (e_rir : f rir = .inl (g 1, 1000, .inr (.inl riv))) (m_ch : ch ∈ L) (e_ch : f ch = .inr (2, [.ref im, .ref rm, .ref bo, .int ic, .int rc])) (m_im : im ∈ L) (e_im : f im = .inl (g 1, 1000, .inr (.inl vim))) (m_rm : rm ∈ L) (e_rm : f rm = .inl (g 1, 1000, .inr (.inl vrm))) (m_bo : bo ∈ L) (e_bo : f bo = .inr (1, [.ref bw, .int z0])) (m_bw : bw ∈ L) (e_bw : f bw = .inl (g 1, 64, .inr (.inl vbw)))  (r_ri : ρ ri = (0, 5)) (r_rir : ρ rir = (0, 6)) (r_im : ρ im = (0, 19)) (r_rm : ρ rm = (0, 20)) (r_wb : ρ wb = (1 + 2 * jw, 0)) (r_wr : ρ wr = (1 + 2 * jw, 0)) (r_ub : ρ ub = (1 + 2 * ju, 0)) (r_ur : ρ ur = (1 + 2 * ju, 0)) (hw2 : mX8_worldAt wf wi = some (some wb)) (hw9 : mX8_worldAt wf wa = some (some ub)) (hM : mX8_fewest mo sd_ wn wv un uv rin riv ic rc vim vrm z0 vbw = some z) : cI l yX8_fewest wsX8_fewest { frames := 4, cells := 0, slots := 0, locals := 101 } D g [.ref xb, .int wi, .int wa, .int mo, .int sd_] L f 0 0 (fun x L1 f1 => x = z.1 ∧ L1 = L ∧ (∀ b, b ∈ L → b ≠ ri → b ≠ rir → b ≠ ch → b ≠ im → b ≠ rm → b ≠ bo → b ≠ bw → f1 b = f b) ∧ f1 ri = .inr (0, [.ref rir, .int z.2.1]) ∧ f1 rir = .inl (g 1, 1000, .inr (.inl z.2.2.1)) ∧ f1 ch = .inr (2, [.ref im, .ref rm, .ref bo, .int z.2.2.2.1, .int z.2.2.2.2.1]) ∧ f1 im = .inl (g 1, 1000, .inr (.inl z.2.2.2.2.2.1)) ∧ f1 rm = .inl (g 1, 1000, .inr (.inl z.2.2.2.2.2.2.1)) ∧ f1 bo = .inr (1, [.ref bw, .int z.2.2.2.2.2.2.2.1]) ∧ f1 bw = .inl (g 1, 64, .inr (.inl z.2.2.2.2.2.2.2.2))) := by
  refine cI_of (cc := cX8_fewest) (maxL := 7) (ret := (some .int)) (by decide) rfl (Nat.le_of_ble_eq_true rfl) ?_
  intro szz p e s m below meth c hx hb hr hml hts hown hlk hnm S ls hl
  have hl : lv_has ls 7 [(0, .ref xb), (1, .int wi), (2, .int wa), (3, .int mo), (4, .int sd_)] := hl
  have in_X8 : ∀ w ∈ wsX80, w ∈ wsX8_fewest := by decide +kernel
  have n_ub_ri : ub ≠ ri := role_ne r_ri r_ub nr_w0
  have n_wb_ri : wb ≠ ri := role_ne r_ri r_wb nr_w0
  have n_ur_rir : ur ≠ rir := role_ne r_rir r_ur nr_w0
  have n_wr_rir : wr ≠ rir := role_ne r_rir r_wr nr_w0
  have n_xb_ri : xb ≠ ri := ne_rr e_ri e_xb (by decide)
  have n_xb_rir : xb ≠ rir := ne_ir e_rir e_xb
  have n_ch_ri : ch ≠ ri := ne_rr e_ri e_ch (by decide)
  have n_ch_rir : ch ≠ rir := ne_ir e_rir e_ch
  have n_im_ri : im ≠ ri := ne_ri e_ri e_im
  have n_im_rir : im ≠ rir := role_ne r_rir r_im (by decide)
  have n_rm_ri : rm ≠ ri := ne_ri e_ri e_rm
  have n_rm_rir : rm ≠ rir := role_ne r_rir r_rm (by decide)
  have n_bo_ri : bo ≠ ri := ne_rr e_ri e_bo (by decide)
  have n_bo_rir : bo ≠ rir := ne_ir e_rir e_bo
  have n_bw_ri : bw ≠ ri := ne_ri e_ri e_bw
  have n_bw_rir : bw ≠ rir := ne_len e_rir e_bw (by decide)
  have n_wb_rir : wb ≠ rir := ne_ir e_rir e_wb
  have n_wr_ri : wr ≠ ri := ne_ri e_ri e_wr
  have n_im_rm : im ≠ rm := role_ne r_rm r_im (by decide)
  have n_wr_rm : wr ≠ rm := role_ne r_rm r_wr nr_w0
  have n_rir_rm : rir ≠ rm := role_ne r_rm r_rir (by decide)
  have n_wr_im : wr ≠ im := role_ne r_im r_wr nr_w0
  have n_rir_im : rir ≠ im := role_ne r_im r_rir (by decide)
  have n_xb_ch : xb ≠ ch := ne_rr e_ch e_xb (by decide)
  have n_xb_im : xb ≠ im := ne_ir e_im e_xb
  have n_xb_rm : xb ≠ rm := ne_ir e_rm e_xb
  have n_bo_ch : bo ≠ ch := ne_rr e_ch e_bo (by decide)
  have n_bo_im : bo ≠ im := ne_ir e_im e_bo
  have n_bo_rm : bo ≠ rm := ne_ir e_rm e_bo
  have n_bw_ch : bw ≠ ch := ne_ri e_ch e_bw
  have n_bw_im : bw ≠ im := ne_len e_im e_bw (by decide)
  have n_bw_rm : bw ≠ rm := ne_len e_rm e_bw (by decide)
  have n_ri_ch : ri ≠ ch := ne_rr e_ch e_ri (by decide)
  have n_ri_im : ri ≠ im := ne_ir e_im e_ri
  have n_ri_rm : ri ≠ rm := ne_ir e_rm e_ri
  have n_ri_bo : ri ≠ bo := ne_rr e_bo e_ri (by decide)
  have n_ri_bw : ri ≠ bw := ne_ir e_bw e_ri
  have n_rir_ch : rir ≠ ch := ne_ri e_ch e_rir
  have n_rir_bo : rir ≠ bo := ne_ri e_bo e_rir
  have n_rir_bw : rir ≠ bw := ne_len e_bw e_rir (by decide)
  have n_ch_bo : ch ≠ bo := ne_rr e_bo e_ch (by decide)
  have n_ch_bw : ch ≠ bw := ne_ir e_bw e_ch
  have n_im_bo : im ≠ bo := ne_ri e_bo e_im
  have n_im_bw : im ≠ bw := ne_len e_bw e_im (by decide)
  have n_rm_bo : rm ≠ bo := ne_ri e_bo e_rm
  have n_rm_bw : rm ≠ bw := ne_len e_bw e_rm (by decide)
  have fr : ∀ b, b ∈ L → b ≠ ri → b ≠ rir → b ≠ ch → b ≠ im → b ≠ rm → b ≠ bo → b ≠ bw → f b = f b := fun _ _ _ _ _ _ _ _ _ => rfl
  unfold mX8_fewest at hM
  refine W_gen (fun QQ hQQ => ?_)
  refine lv_aload_n hx hb dX8_fewest_0 rfl (lv_at hl 0 rfl) ?_
  refine lv_iload_n hx hb dX8_fewest_1 rfl (lv_at hl 1 rfl) ?_
  refine q_vq (As := [.int wi]) (rest := []) ⟨hx, hb, hml, hown, hts⟩ (k_X8_worldAt l D g m_xb e_xb m_wo e_wo hw2) (cwV 1 hts gX8_fewest_X8_worldAt rfl rfl rfl (by decide +kernel) ⟨Nat.le_of_ble_eq_true rfl, Nat.le_of_ble_eq_true rfl⟩) S m_xb e_xb (T := TX8) (N := 8) rfl rfl hl.1 rfl (Nat.le_of_ble_eq_true rfl) dX8_fewest_2 ⟨Nat.le_of_ble_eq_true rfl, Nat.le_of_ble_eq_true rfl⟩ (fun r3 L1 f2 H locs S w2 => ?_)
  obtain ⟨ex, eL, ef⟩ := w2
  rw [eL, ef] at S
  replace ex := ex.symm
  subst ex
  refine W.eq (g2 := F0 m 5 ls [.ref wb]) rfl ?_
  refine lv_astore (lv' := [(5, .ref wb), (0, .ref xb), (1, .int wi), (2, .int wa), (3, .int mo), (4, .int sd_)]) hx hb dX8_fewest_5 hl (by decide) rfl (fun ls hl => ?_)
  refine lv_aload_n hx hb dX8_fewest_7 rfl (lv_at hl 1 rfl) ?_
  refine lv_iload_n hx hb dX8_fewest_8 rfl (lv_at hl 3 rfl) ?_
  refine q_vq (As := [.int wa]) (rest := []) ⟨hx, hb, hml, hown, hts⟩ (k_X8_worldAt l D g m_xb e_xb m_wo e_wo hw9) (cwV 1 hts gX8_fewest_X8_worldAt rfl rfl rfl (by decide +kernel) ⟨Nat.le_of_ble_eq_true rfl, Nat.le_of_ble_eq_true rfl⟩) S m_xb e_xb (T := TX8) (N := 8) rfl rfl hl.1 rfl (Nat.le_of_ble_eq_true rfl) dX8_fewest_9 ⟨Nat.le_of_ble_eq_true rfl, Nat.le_of_ble_eq_true rfl⟩ (fun r6 L4 f5 H locs S w9 => ?_)
  obtain ⟨ex, eL, ef⟩ := w9
  rw [eL, ef] at S
  replace ex := ex.symm
  subst ex
  refine W.eq (g2 := F0 m 12 ls [.ref ub]) rfl ?_
  refine lv_astore (lv' := [(6, .ref ub), (5, .ref wb), (0, .ref xb), (1, .int wi), (2, .int wa), (3, .int mo), (4, .int sd_)]) hx hb dX8_fewest_12 hl (by decide) rfl (fun ls hl => ?_)
  refine lv_aload hx hb dX8_fewest_14 (lv_at hl 1 rfl) ?_
  refine lv_ifnull hx hb dX8_fewest_16 ?_
  refine lv_aload hx hb dX8_fewest_19 (lv_at hl 0 rfl) ?_
  refine lv_ifnull hx hb dX8_fewest_21 ?_
  refine lv_iload_n hx hb dX8_fewest_24 rfl (lv_at hl 5 rfl) ?_
  refine lv_bipush (v := (8 : Int32)) hx hb dX8_fewest_25 (by decide) ?_
  refine lv_icmp_lt (tgt := 37) hx hb dX8_fewest_27 (by decide) (fun b27 => ?_) (fun b27 => ?_)
  · have hM := itT b27 hM
    refine lv_iconst (v := (-1 : Int32)) hx hb dX8_fewest_37 (by decide) ?_
    subst hQQ
    exact q_reti (post := fun x L1 f1 => x = z.1 ∧ L1 = L ∧ (∀ b, b ∈ L → b ≠ ri → b ≠ rir → b ≠ ch → b ≠ im → b ≠ rm → b ≠ bo → b ≠ bw → f1 b = f b) ∧ f1 ri = .inr (0, [.ref rir, .int z.2.1]) ∧ f1 rir = .inl (g 1, 1000, .inr (.inl z.2.2.1)) ∧ f1 ch = .inr (2, [.ref im, .ref rm, .ref bo, .int z.2.2.2.1, .int z.2.2.2.2.1]) ∧ f1 im = .inl (g 1, 1000, .inr (.inl z.2.2.2.2.2.1)) ∧ f1 rm = .inl (g 1, 1000, .inr (.inl z.2.2.2.2.2.2.1)) ∧ f1 bo = .inr (1, [.ref bw, .int z.2.2.2.2.2.2.2.1]) ∧ f1 bw = .inl (g 1, 64, .inr (.inl z.2.2.2.2.2.2.2.2))) hx hb hr hlk S dX8_fewest_38 (by decide) (by decide) (by have hz := Option.some.inj hM; subst hz; exact ⟨rfl, rfl, fr, e_ri, e_rir, e_ch, e_im, e_rm, e_bo, e_bw⟩)
  · have hM := itF b27 hM
    refine lv_iload_n hx hb dX8_fewest_30 rfl (lv_at hl 5 rfl) ?_
    refine lv_sipush (v := (4096 : Int32)) hx hb dX8_fewest_31 (by decide) ?_
    refine lv_icmp_le (tgt := 39) hx hb dX8_fewest_34 (by decide) (fun b34 => ?_) (fun b34 => ?_)
    · have hM := itT b34 hM
      refine lv_aload_n hx hb dX8_fewest_39 rfl (lv_at hl 2 rfl) ?_
      refine q_get hx hb hts in_X8 hown S m_xb e_xb (C := RX8) (T := TX8) (N := 8) rfl 3 (by decide) rfl (hts (.fieldLink RX8 26 "SieveCabinet" "rivals" "LSieveCabinet$Bag;") (by decide +kernel)) dX8_fewest_40 ?_
      refine lv_aload hx hb dX8_fewest_43 (lv_at hl 0 rfl) ?_
      refine lv_aload hx hb dX8_fewest_45 (lv_at hl 1 rfl) ?_
      obtain ⟨z47, hz47, hM⟩ := bind_some hM
      refine q_vv (As := [.ref ub, .ref wb]) (rest := []) ⟨hx, hb, hml, hown, hts⟩ (k_X0_becomeWithout l D g m_ri e_ri m_rir e_rir m_ub e_ub m_ur e_ur m_wb e_wb m_wr e_wr n_ub_ri n_wb_ri n_ur_rir n_wr_rir hz47) (cwV 2 hts gX8_fewest_X0_becomeWithout rfl rfl rfl (by decide +kernel) ⟨Nat.le_of_ble_eq_true rfl, Nat.le_of_ble_eq_true rfl⟩) S m_ri e_ri (T := TX0) (N := 2) rfl rfl hl.1 rfl (Nat.le_of_ble_eq_true rfl) dX8_fewest_47 ⟨Nat.le_of_ble_eq_true rfl, Nat.le_of_ble_eq_true rfl⟩ (fun L7 f8 H locs S w47 => ?_)
      obtain ⟨eL, fv47, E_ri, E_rir⟩ := w47
      rw [eL] at S
      have fr : ∀ b, b ∈ L → b ≠ ri → b ≠ rir → b ≠ ch → b ≠ im → b ≠ rm → b ≠ bo → b ≠ bw → f8 b = f b := fun b mb nb0 nb1 nb2 nb3 nb4 nb5 nb6 => (fv47 b mb nb0 nb1).trans (fr b mb nb0 nb1 nb2 nb3 nb4 nb5 nb6)
      have e_ri : f8 ri = .inr (0, [.ref rir, .int z47.1]) := E_ri
      have e_rir : f8 rir = .inl (g 1, 1000, .inr (.inl z47.2)) := E_rir
      refine lv_aload_n hx hb dX8_fewest_50 rfl (lv_at hl 2 rfl) ?_
      have e_xb := ((fv47 xb m_xb n_xb_ri n_xb_rir).trans e_xb)
      refine q_get hx hb hts in_X8 hown S m_xb e_xb (C := RX8) (T := TX8) (N := 8) rfl 6 (by decide) rfl (hts (.fieldLink RX8 42 "SieveCabinet" "chooser" "LSieveCabinet$Chooser;") (by decide +kernel)) dX8_fewest_51 ?_
      refine lv_aload hx hb dX8_fewest_54 (lv_at hl 1 rfl) ?_
      refine lv_aload_n hx hb dX8_fewest_56 rfl (lv_at hl 2 rfl) ?_
      refine q_get hx hb hts in_X8 hown S m_xb e_xb (C := RX8) (T := TX8) (N := 8) rfl 3 (by decide) rfl (hts (.fieldLink RX8 26 "SieveCabinet" "rivals" "LSieveCabinet$Bag;") (by decide +kernel)) dX8_fewest_57 ?_
      refine lv_iload hx hb dX8_fewest_60 (lv_at hl 6 rfl) ?_
      obtain ⟨z62, hz62, hM⟩ := bind_some hM
      have e_ch := ((fv47 ch m_ch n_ch_ri n_ch_rir).trans e_ch)
      have e_im := ((fv47 im m_im n_im_ri n_im_rir).trans e_im)
      have e_rm := ((fv47 rm m_rm n_rm_ri n_rm_rir).trans e_rm)
      have e_bo := ((fv47 bo m_bo n_bo_ri n_bo_rir).trans e_bo)
      have e_bw := ((fv47 bw m_bw n_bw_ri n_bw_rir).trans e_bw)
      have e_wb := ((fv47 wb m_wb n_wb_ri n_wb_rir).trans e_wb)
      have e_wr := ((fv47 wr m_wr n_wr_ri n_wr_rir).trans e_wr)
      refine q_vv (As := [.ref wb, .ref ri, .int sd_]) (rest := []) ⟨hx, hb, hml, hown, hts⟩ (k_X2_begin l D g m_ch e_ch m_im e_im m_rm e_rm m_bo e_bo m_bw e_bw m_wb e_wb m_wr e_wr m_ri e_ri m_rir e_rir n_im_rm n_wr_rm n_rir_rm n_wr_im n_rir_im hz62) (cwV 3 hts gX8_fewest_X2_begin rfl rfl rfl (by decide +kernel) ⟨Nat.le_of_ble_eq_true rfl, Nat.le_of_ble_eq_true rfl⟩) S m_ch e_ch (T := TX2) (N := 5) rfl rfl hl.1 rfl (Nat.le_of_ble_eq_true rfl) dX8_fewest_62 ⟨Nat.le_of_ble_eq_true rfl, Nat.le_of_ble_eq_true rfl⟩ (fun L10 f11 H locs S w62 => ?_)
      obtain ⟨eL, fv62, E_ch, E_im, E_rm⟩ := w62
      rw [eL] at S
      have fr : ∀ b, b ∈ L → b ≠ ri → b ≠ rir → b ≠ ch → b ≠ im → b ≠ rm → b ≠ bo → b ≠ bw → f11 b = f b := fun b mb nb0 nb1 nb2 nb3 nb4 nb5 nb6 => (fv62 b mb nb2 nb3 nb4).trans (fr b mb nb0 nb1 nb2 nb3 nb4 nb5 nb6)
      have e_ch : f11 ch = .inr (2, [.ref im, .ref rm, .ref bo, .int z62.1, .int z62.2.1]) := E_ch
      have e_im : f11 im = .inl (g 1, 1000, .inr (.inl z62.2.2.1)) := E_im
      have e_rm : f11 rm = .inl (g 1, 1000, .inr (.inl z62.2.2.2)) := E_rm
      refine lv_aload_n hx hb dX8_fewest_65 rfl (lv_at hl 2 rfl) ?_
      have e_xb := ((fv62 xb m_xb n_xb_ch n_xb_im n_xb_rm).trans e_xb)
      refine q_get hx hb hts in_X8 hown S m_xb e_xb (C := RX8) (T := TX8) (N := 8) rfl 6 (by decide) rfl (hts (.fieldLink RX8 42 "SieveCabinet" "chooser" "LSieveCabinet$Chooser;") (by decide +kernel)) dX8_fewest_66 ?_
      refine lv_iload_n hx hb dX8_fewest_69 rfl (lv_at hl 5 rfl) ?_
      obtain ⟨z70, hz70, hM⟩ := bind_some hM
      have e_bo := ((fv62 bo m_bo n_bo_ch n_bo_im n_bo_rm).trans e_bo)
      have e_bw := ((fv62 bw m_bw n_bw_ch n_bw_im n_bw_rm).trans e_bw)
      refine q_vi (As := [.int mo]) (rest := []) ⟨hx, hb, hml, hown, hts⟩ (k_X2_choose l D g m_ch e_ch m_im e_im m_rm e_rm m_bo e_bo m_bw e_bw hz70) (cwV 1 hts gX8_fewest_X2_choose rfl rfl rfl (by decide +kernel) ⟨Nat.le_of_ble_eq_true rfl, Nat.le_of_ble_eq_true rfl⟩) S m_ch e_ch (T := TX2) (N := 5) rfl rfl hl.1 rfl (Nat.le_of_ble_eq_true rfl) dX8_fewest_70 ⟨Nat.le_of_ble_eq_true rfl, Nat.le_of_ble_eq_true rfl⟩ (fun r15 L13 f14 H locs S w70 => ?_)
      obtain ⟨ex70, eL, fv70, E_bo, E_bw⟩ := w70
      rw [eL] at S
      have fr : ∀ b, b ∈ L → b ≠ ri → b ≠ rir → b ≠ ch → b ≠ im → b ≠ rm → b ≠ bo → b ≠ bw → f14 b = f b := fun b mb nb0 nb1 nb2 nb3 nb4 nb5 nb6 => (fv70 b mb nb5 nb6).trans (fr b mb nb0 nb1 nb2 nb3 nb4 nb5 nb6)
      have e_bo : f14 bo = .inr (1, [.ref bw, .int z70.2.1]) := E_bo
      have e_bw : f14 bw = .inl (g 1, 64, .inr (.inl z70.2.2)) := E_bw
      replace ex70 := ex70.symm
      subst ex70
      have e_ri := ((fv70 ri m_ri n_ri_bo n_ri_bw).trans ((fv62 ri m_ri n_ri_ch n_ri_im n_ri_rm).trans e_ri))
      have e_rir := ((fv70 rir m_rir n_rir_bo n_rir_bw).trans ((fv62 rir m_rir n_rir_ch n_rir_im n_rir_rm).trans e_rir))
      have e_ch := ((fv70 ch m_ch n_ch_bo n_ch_bw).trans e_ch)
      have e_im := ((fv70 im m_im n_im_bo n_im_bw).trans e_im)
      have e_rm := ((fv70 rm m_rm n_rm_bo n_rm_bw).trans e_rm)
      subst hQQ
      exact q_reti (post := fun x L1 f1 => x = z.1 ∧ L1 = L ∧ (∀ b, b ∈ L → b ≠ ri → b ≠ rir → b ≠ ch → b ≠ im → b ≠ rm → b ≠ bo → b ≠ bw → f1 b = f b) ∧ f1 ri = .inr (0, [.ref rir, .int z.2.1]) ∧ f1 rir = .inl (g 1, 1000, .inr (.inl z.2.2.1)) ∧ f1 ch = .inr (2, [.ref im, .ref rm, .ref bo, .int z.2.2.2.1, .int z.2.2.2.2.1]) ∧ f1 im = .inl (g 1, 1000, .inr (.inl z.2.2.2.2.2.1)) ∧ f1 rm = .inl (g 1, 1000, .inr (.inl z.2.2.2.2.2.2.1)) ∧ f1 bo = .inr (1, [.ref bw, .int z.2.2.2.2.2.2.2.1]) ∧ f1 bw = .inl (g 1, 64, .inr (.inl z.2.2.2.2.2.2.2.2))) hx hb hr hlk S dX8_fewest_73 (by decide) (by decide) (by have hz := Option.some.inj hM; subst hz; exact ⟨rfl, rfl, fr, e_ri, e_rir, e_ch, e_im, e_rm, e_bo, e_bw⟩)
    · have hM := itF b34 hM
      refine lv_iconst (v := (-1 : Int32)) hx hb dX8_fewest_37 (by decide) ?_
      subst hQQ
      exact q_reti (post := fun x L1 f1 => x = z.1 ∧ L1 = L ∧ (∀ b, b ∈ L → b ≠ ri → b ≠ rir → b ≠ ch → b ≠ im → b ≠ rm → b ≠ bo → b ≠ bw → f1 b = f b) ∧ f1 ri = .inr (0, [.ref rir, .int z.2.1]) ∧ f1 rir = .inl (g 1, 1000, .inr (.inl z.2.2.1)) ∧ f1 ch = .inr (2, [.ref im, .ref rm, .ref bo, .int z.2.2.2.1, .int z.2.2.2.2.1]) ∧ f1 im = .inl (g 1, 1000, .inr (.inl z.2.2.2.2.2.1)) ∧ f1 rm = .inl (g 1, 1000, .inr (.inl z.2.2.2.2.2.2.1)) ∧ f1 bo = .inr (1, [.ref bw, .int z.2.2.2.2.2.2.2.1]) ∧ f1 bw = .inl (g 1, 64, .inr (.inl z.2.2.2.2.2.2.2.2))) hx hb hr hlk S dX8_fewest_38 (by decide) (by decide) (by have hz := Option.some.inj hM; subst hz; exact ⟨rfl, rfl, fr, e_ri, e_rir, e_ch, e_im, e_rm, e_bo, e_bw⟩)

def mX8_fewestWN  : Option (Int32) := some (-1 : Int32)
set_option maxHeartbeats 4000000 in
set_option maxRecDepth 100000 in
theorem k_X8_fewestWN (l : Launch) (D : va_G) (g : Nat → ClassId) {L : List Nat} {f : Nat → va_E} {Sl ch dr ri so th wb wo xb : Nat} {md : Int32} {wf : Nat → Option Nat} {wi : Int32} {wa : Int32} {mo : Int32} {sd_ : Int32} {z : Int32} (m_xb : xb ∈ L) (e_xb : f xb = .inr (6, [.ref wo, .ref Sl, .ref dr, .ref ri, .ref th, .ref so, .ref ch, .int md])) (m_wo : wo ∈ L) (e_wo : f wo = .inl (g 3, 8, .inr (.inr (.inr (.inr wf)))))   (hw2 : mX8_worldAt wf wi = some (some wb)) (hw9 : mX8_worldAt wf wa = some none) (hM : mX8_fewestWN = some z) : cI l yX8_fewest wsX8_fewest { frames := 1, cells := 0, slots := 0, locals := 21 } D g [.ref xb, .int wi, .int wa, .int mo, .int sd_] L f 0 0 (fun x L1 f1 => x = z ∧ L1 = L ∧ f1 = f) := by
  refine cI_of (cc := cX8_fewest) (maxL := 7) (ret := (some .int)) (by decide) rfl (Nat.le_of_ble_eq_true rfl) ?_
  intro szz p e s m below meth c hx hb hr hml hts hown hlk hnm S ls hl
  have hl : lv_has ls 7 [(0, .ref xb), (1, .int wi), (2, .int wa), (3, .int mo), (4, .int sd_)] := hl
  unfold mX8_fewestWN at hM
  refine W_gen (fun QQ hQQ => ?_)
  refine lv_aload_n hx hb dX8_fewest_0 rfl (lv_at hl 0 rfl) ?_
  refine lv_iload_n hx hb dX8_fewest_1 rfl (lv_at hl 1 rfl) ?_
  refine q_vq (As := [.int wi]) (rest := []) ⟨hx, hb, hml, hown, hts⟩ (k_X8_worldAt l D g m_xb e_xb m_wo e_wo hw2) (cwV 1 hts gX8_fewest_X8_worldAt rfl rfl rfl (by decide +kernel) ⟨Nat.le_of_ble_eq_true rfl, Nat.le_of_ble_eq_true rfl⟩) S m_xb e_xb (T := TX8) (N := 8) rfl rfl hl.1 rfl (Nat.le_of_ble_eq_true rfl) dX8_fewest_2 ⟨Nat.le_of_ble_eq_true rfl, Nat.le_of_ble_eq_true rfl⟩ (fun r3 L1 f2 H locs S w2 => ?_)
  obtain ⟨ex, eL, ef⟩ := w2
  rw [eL, ef] at S
  replace ex := ex.symm
  subst ex
  refine W.eq (g2 := F0 m 5 ls [.ref wb]) rfl ?_
  refine lv_astore (lv' := [(5, .ref wb), (0, .ref xb), (1, .int wi), (2, .int wa), (3, .int mo), (4, .int sd_)]) hx hb dX8_fewest_5 hl (by decide) rfl (fun ls hl => ?_)
  refine lv_aload_n hx hb dX8_fewest_7 rfl (lv_at hl 1 rfl) ?_
  refine lv_iload_n hx hb dX8_fewest_8 rfl (lv_at hl 3 rfl) ?_
  refine q_vq (As := [.int wa]) (rest := []) ⟨hx, hb, hml, hown, hts⟩ (k_X8_worldAt l D g m_xb e_xb m_wo e_wo hw9) (cwV 1 hts gX8_fewest_X8_worldAt rfl rfl rfl (by decide +kernel) ⟨Nat.le_of_ble_eq_true rfl, Nat.le_of_ble_eq_true rfl⟩) S m_xb e_xb (T := TX8) (N := 8) rfl rfl hl.1 rfl (Nat.le_of_ble_eq_true rfl) dX8_fewest_9 ⟨Nat.le_of_ble_eq_true rfl, Nat.le_of_ble_eq_true rfl⟩ (fun r6 L4 f5 H locs S w9 => ?_)
  obtain ⟨ex, eL, ef⟩ := w9
  rw [eL, ef] at S
  replace ex := ex.symm
  subst ex
  refine W.eq (g2 := F0 m 12 ls [.null]) rfl ?_
  refine lv_astoreN (lv' := [(6, .null), (5, .ref wb), (0, .ref xb), (1, .int wi), (2, .int wa), (3, .int mo), (4, .int sd_)]) hx hb dX8_fewest_12 hl (by decide) rfl (fun ls hl => ?_)
  refine lv_aload hx hb dX8_fewest_14 (lv_at hl 1 rfl) ?_
  refine lv_ifnull hx hb dX8_fewest_16 ?_
  refine lv_aloadN hx hb dX8_fewest_19 (lv_at hl 0 rfl) ?_
  refine lv_ifnullN (tgt := 37) hx hb dX8_fewest_21 (by decide) ?_
  refine lv_iconst (v := (-1 : Int32)) hx hb dX8_fewest_37 (by decide) ?_
  subst hQQ
  exact q_reti (post := fun x L1 f1 => x = z ∧ L1 = L ∧ f1 = f) hx hb hr hlk S dX8_fewest_38 (by decide) (by decide) (by have hz := Option.some.inj hM; subst hz; exact ⟨rfl, rfl, rfl⟩)

def mX8_fewestNW  : Option (Int32) := some (-1 : Int32)
set_option maxHeartbeats 4000000 in
set_option maxRecDepth 100000 in
theorem k_X8_fewestNW (l : Launch) (D : va_G) (g : Nat → ClassId) {L : List Nat} {f : Nat → va_E} {Sl ch dr ri so th ub wo xb : Nat} {md : Int32} {wf : Nat → Option Nat} {wi : Int32} {wa : Int32} {mo : Int32} {sd_ : Int32} {z : Int32} (m_xb : xb ∈ L) (e_xb : f xb = .inr (6, [.ref wo, .ref Sl, .ref dr, .ref ri, .ref th, .ref so, .ref ch, .int md])) (m_wo : wo ∈ L) (e_wo : f wo = .inl (g 3, 8, .inr (.inr (.inr (.inr wf)))))   (hw2 : mX8_worldAt wf wi = some none) (hw9 : mX8_worldAt wf wa = some (some ub)) (hM : mX8_fewestNW = some z) : cI l yX8_fewest wsX8_fewest { frames := 1, cells := 0, slots := 0, locals := 21 } D g [.ref xb, .int wi, .int wa, .int mo, .int sd_] L f 0 0 (fun x L1 f1 => x = z ∧ L1 = L ∧ f1 = f) := by
  refine cI_of (cc := cX8_fewest) (maxL := 7) (ret := (some .int)) (by decide) rfl (Nat.le_of_ble_eq_true rfl) ?_
  intro szz p e s m below meth c hx hb hr hml hts hown hlk hnm S ls hl
  have hl : lv_has ls 7 [(0, .ref xb), (1, .int wi), (2, .int wa), (3, .int mo), (4, .int sd_)] := hl
  unfold mX8_fewestNW at hM
  refine W_gen (fun QQ hQQ => ?_)
  refine lv_aload_n hx hb dX8_fewest_0 rfl (lv_at hl 0 rfl) ?_
  refine lv_iload_n hx hb dX8_fewest_1 rfl (lv_at hl 1 rfl) ?_
  refine q_vq (As := [.int wi]) (rest := []) ⟨hx, hb, hml, hown, hts⟩ (k_X8_worldAt l D g m_xb e_xb m_wo e_wo hw2) (cwV 1 hts gX8_fewest_X8_worldAt rfl rfl rfl (by decide +kernel) ⟨Nat.le_of_ble_eq_true rfl, Nat.le_of_ble_eq_true rfl⟩) S m_xb e_xb (T := TX8) (N := 8) rfl rfl hl.1 rfl (Nat.le_of_ble_eq_true rfl) dX8_fewest_2 ⟨Nat.le_of_ble_eq_true rfl, Nat.le_of_ble_eq_true rfl⟩ (fun r3 L1 f2 H locs S w2 => ?_)
  obtain ⟨ex, eL, ef⟩ := w2
  rw [eL, ef] at S
  replace ex := ex.symm
  subst ex
  refine W.eq (g2 := F0 m 5 ls [.null]) rfl ?_
  refine lv_astoreN (lv' := [(5, .null), (0, .ref xb), (1, .int wi), (2, .int wa), (3, .int mo), (4, .int sd_)]) hx hb dX8_fewest_5 hl (by decide) rfl (fun ls hl => ?_)
  refine lv_aload_n hx hb dX8_fewest_7 rfl (lv_at hl 1 rfl) ?_
  refine lv_iload_n hx hb dX8_fewest_8 rfl (lv_at hl 3 rfl) ?_
  refine q_vq (As := [.int wa]) (rest := []) ⟨hx, hb, hml, hown, hts⟩ (k_X8_worldAt l D g m_xb e_xb m_wo e_wo hw9) (cwV 1 hts gX8_fewest_X8_worldAt rfl rfl rfl (by decide +kernel) ⟨Nat.le_of_ble_eq_true rfl, Nat.le_of_ble_eq_true rfl⟩) S m_xb e_xb (T := TX8) (N := 8) rfl rfl hl.1 rfl (Nat.le_of_ble_eq_true rfl) dX8_fewest_9 ⟨Nat.le_of_ble_eq_true rfl, Nat.le_of_ble_eq_true rfl⟩ (fun r6 L4 f5 H locs S w9 => ?_)
  obtain ⟨ex, eL, ef⟩ := w9
  rw [eL, ef] at S
  replace ex := ex.symm
  subst ex
  refine W.eq (g2 := F0 m 12 ls [.ref ub]) rfl ?_
  refine lv_astore (lv' := [(6, .ref ub), (5, .null), (0, .ref xb), (1, .int wi), (2, .int wa), (3, .int mo), (4, .int sd_)]) hx hb dX8_fewest_12 hl (by decide) rfl (fun ls hl => ?_)
  refine lv_aloadN hx hb dX8_fewest_14 (lv_at hl 1 rfl) ?_
  refine lv_ifnullN (tgt := 37) hx hb dX8_fewest_16 (by decide) ?_
  refine lv_iconst (v := (-1 : Int32)) hx hb dX8_fewest_37 (by decide) ?_
  subst hQQ
  exact q_reti (post := fun x L1 f1 => x = z ∧ L1 = L ∧ f1 = f) hx hb hr hlk S dX8_fewest_38 (by decide) (by decide) (by have hz := Option.some.inj hM; subst hz; exact ⟨rfl, rfl, rfl⟩)

def mX8_fewestNN  : Option (Int32) := some (-1 : Int32)
set_option maxHeartbeats 4000000 in
set_option maxRecDepth 100000 in
theorem k_X8_fewestNN (l : Launch) (D : va_G) (g : Nat → ClassId) {L : List Nat} {f : Nat → va_E} {Sl ch dr ri so th wo xb : Nat} {md : Int32} {wf : Nat → Option Nat} {wi : Int32} {wa : Int32} {mo : Int32} {sd_ : Int32} {z : Int32} (m_xb : xb ∈ L) (e_xb : f xb = .inr (6, [.ref wo, .ref Sl, .ref dr, .ref ri, .ref th, .ref so, .ref ch, .int md])) (m_wo : wo ∈ L) (e_wo : f wo = .inl (g 3, 8, .inr (.inr (.inr (.inr wf)))))   (hw2 : mX8_worldAt wf wi = some none) (hw9 : mX8_worldAt wf wa = some none) (hM : mX8_fewestNN = some z) : cI l yX8_fewest wsX8_fewest { frames := 1, cells := 0, slots := 0, locals := 21 } D g [.ref xb, .int wi, .int wa, .int mo, .int sd_] L f 0 0 (fun x L1 f1 => x = z ∧ L1 = L ∧ f1 = f) := by
  refine cI_of (cc := cX8_fewest) (maxL := 7) (ret := (some .int)) (by decide) rfl (Nat.le_of_ble_eq_true rfl) ?_
  intro szz p e s m below meth c hx hb hr hml hts hown hlk hnm S ls hl
  have hl : lv_has ls 7 [(0, .ref xb), (1, .int wi), (2, .int wa), (3, .int mo), (4, .int sd_)] := hl
  unfold mX8_fewestNN at hM
  refine W_gen (fun QQ hQQ => ?_)
  refine lv_aload_n hx hb dX8_fewest_0 rfl (lv_at hl 0 rfl) ?_
  refine lv_iload_n hx hb dX8_fewest_1 rfl (lv_at hl 1 rfl) ?_
  refine q_vq (As := [.int wi]) (rest := []) ⟨hx, hb, hml, hown, hts⟩ (k_X8_worldAt l D g m_xb e_xb m_wo e_wo hw2) (cwV 1 hts gX8_fewest_X8_worldAt rfl rfl rfl (by decide +kernel) ⟨Nat.le_of_ble_eq_true rfl, Nat.le_of_ble_eq_true rfl⟩) S m_xb e_xb (T := TX8) (N := 8) rfl rfl hl.1 rfl (Nat.le_of_ble_eq_true rfl) dX8_fewest_2 ⟨Nat.le_of_ble_eq_true rfl, Nat.le_of_ble_eq_true rfl⟩ (fun r3 L1 f2 H locs S w2 => ?_)
  obtain ⟨ex, eL, ef⟩ := w2
  rw [eL, ef] at S
  replace ex := ex.symm
  subst ex
  refine W.eq (g2 := F0 m 5 ls [.null]) rfl ?_
  refine lv_astoreN (lv' := [(5, .null), (0, .ref xb), (1, .int wi), (2, .int wa), (3, .int mo), (4, .int sd_)]) hx hb dX8_fewest_5 hl (by decide) rfl (fun ls hl => ?_)
  refine lv_aload_n hx hb dX8_fewest_7 rfl (lv_at hl 1 rfl) ?_
  refine lv_iload_n hx hb dX8_fewest_8 rfl (lv_at hl 3 rfl) ?_
  refine q_vq (As := [.int wa]) (rest := []) ⟨hx, hb, hml, hown, hts⟩ (k_X8_worldAt l D g m_xb e_xb m_wo e_wo hw9) (cwV 1 hts gX8_fewest_X8_worldAt rfl rfl rfl (by decide +kernel) ⟨Nat.le_of_ble_eq_true rfl, Nat.le_of_ble_eq_true rfl⟩) S m_xb e_xb (T := TX8) (N := 8) rfl rfl hl.1 rfl (Nat.le_of_ble_eq_true rfl) dX8_fewest_9 ⟨Nat.le_of_ble_eq_true rfl, Nat.le_of_ble_eq_true rfl⟩ (fun r6 L4 f5 H locs S w9 => ?_)
  obtain ⟨ex, eL, ef⟩ := w9
  rw [eL, ef] at S
  replace ex := ex.symm
  subst ex
  refine W.eq (g2 := F0 m 12 ls [.null]) rfl ?_
  refine lv_astoreN (lv' := [(6, .null), (5, .null), (0, .ref xb), (1, .int wi), (2, .int wa), (3, .int mo), (4, .int sd_)]) hx hb dX8_fewest_12 hl (by decide) rfl (fun ls hl => ?_)
  refine lv_aloadN hx hb dX8_fewest_14 (lv_at hl 1 rfl) ?_
  refine lv_ifnullN (tgt := 37) hx hb dX8_fewest_16 (by decide) ?_
  refine lv_iconst (v := (-1 : Int32)) hx hb dX8_fewest_37 (by decide) ?_
  subst hQQ
  exact q_reti (post := fun x L1 f1 => x = z ∧ L1 = L ∧ f1 = f) hx hb hr hlk S dX8_fewest_38 (by decide) (by decide) (by have hz := Option.some.inj hM; subst hz; exact ⟨rfl, rfl, rfl⟩)
