def mX2_setMark_L2 (ic : Int32) (vim : Nat → Int64) (z0 : Int32) (j : Int32) (w : Int32) : Nat → Int32 → (Nat → Int64) → Option (Int32 × (Nat → Int64))
  | 0, _, _ => none
  | fu + 1, x3_2, cbw_2 => if ic ≤ x3_2 then (some (x3_2, cbw_2)) else (if ix x3_2 1000 = true then ((mX4_markPlace (vim (Int32.toNatClampNeg x3_2)) j w).bind fun z22 => (mX1_set z0 cbw_2 z22).bind fun z25 => mX2_setMark_L2 ic vim z0 j w fu (x3_2 + 1) z25) else none)
def mX2_setMark (ic : Int32) (vim : Nat → Int64) (z0 : Int32) (vbw : Nat → Int64) (j : Int32) (w : Int32) : Option ((Nat → Int64)) := (mX2_setMark_L2 ic vim z0 j w FU (0 : Int32) vbw).bind fun o2 => some o2.2
set_option maxRecDepth 20000 in
theorem gu_wsX2_setMark_2 : ∀ w ∈ wsX20, w ∈ wsX2_setMark := fun _ h => List.mem_cons_of_mem _ (List.mem_append_left _ (List.mem_append_right _ h))
set_option maxHeartbeats 4000000 in
set_option maxRecDepth 100000 in
theorem k_X2_setMark (l : Launch) (D : va_G) (g : Nat → ClassId) {L : List Nat} {f : Nat → va_E} {bo bw ch im rm : Nat} {ic : Int32} {rc : Int32} {vim : Nat → Int64} {vrm : Nat → Int64} {z0 : Int32} {vbw : Nat → Int64} {j : Int32} {w : Int32} {z : (Nat → Int64)} (m_ch : ch ∈ L) (e_ch : f ch = .inr (2, [.ref im, .ref rm, .ref bo, .int ic, .int rc])) (m_im : im ∈ L) (e_im : f im = .inl (g 1, 1000, .inr (.inl vim))) (m_rm : rm ∈ L) (e_rm : f rm = .inl (g 1, 1000, .inr (.inl vrm))) (m_bo : bo ∈ L) (e_bo : f bo = .inr (1, [.ref bw, .int z0])) (m_bw : bw ∈ L) (e_bw : f bw = .inl (g 1, 64, .inr (.inl vbw)))    (hM : mX2_setMark ic vim z0 vbw j w = some z) : cV l yX2_setMark wsX2_setMark { frames := 1, cells := 0, slots := 0, locals := 27 } D g [.ref ch, .int j, .int w] L f 0 0 (fun L1 f1 => L1 = L ∧ (∀ b, b ∈ L → b ≠ bw → f1 b = f b) ∧ f1 bw = .inl (g 1, 64, .inr (.inl z))) := by
  refine cV_of (cc := cX2_setMark) (maxL := 4) (ret := none) (by decide) rfl (Nat.le_of_ble_eq_true rfl) ?_
  intro szz p e s m below meth c hx hb hr hml hts hown hlk hnm S ls hl
  have hl : lv_has ls 4 [(0, .ref ch), (1, .int j), (2, .int w)] := hl
  have in_X2 : ∀ w ∈ wsX20, w ∈ wsX2_setMark := gu_wsX2_setMark_2
  have n_ch_bw : ch ≠ bw := ne_ir e_bw e_ch
  have n_im_bw : im ≠ bw := ne_len e_bw e_im (by decide)
  have n_rm_bw : rm ≠ bw := ne_len e_bw e_rm (by decide)
  have n_bo_bw : bo ≠ bw := ne_ir e_bw e_bo
  have fr : ∀ b, b ∈ L → b ≠ bw → f b = f b := fun _ _ _ => rfl
  unfold mX2_setMark at hM
  refine W_gen (fun QQ hQQ => ?_)
  refine lv_iconst (v := (0 : Int32)) hx hb dX2_setMark_0 (by decide) ?_
  refine lv_istore_n (lv' := [(3, .int (0 : Int32)), (0, .ref ch), (1, .int j), (2, .int w)]) hx hb dX2_setMark_1 rfl hl (by decide) rfl (fun ls hl => ?_)
  obtain ⟨o2, ho2, hM⟩ := bind_some hM
  have EX2 : ∀ (fl2 : Nat → va_E) (H : Heap) (locs : List Loc) (ls : Array Slot), PS D g (va_A (va_pl L f) szz) s.heap s L fl2 H locs → fl2 ch = .inr (2, [.ref im, .ref rm, .ref bo, .int ic, .int rc]) → fl2 im = .inl (g 1, 1000, .inr (.inl vim)) → fl2 rm = .inl (g 1, 1000, .inr (.inl vrm)) → fl2 bo = .inr (1, [.ref bw, .int z0]) → fl2 bw = .inl (g 1, 64, .inr (.inl o2.2)) → (∀ b, b ∈ L → b ≠ bw → fl2 b = f b) → lv_has ls 4 [] → W p l e { frames := 1, cells := 0, slots := 0, locals := 27 } s m [.ref ch, .int j, .int w].toArray below meth c H locs 0 0 QQ (F0 m 34 ls []) := by
    intro fl2 H locs ls S e_ch e_im e_rm e_bo e_bw fr hl
    subst hQQ
    exact q_retv (post := fun L1 f1 => L1 = L ∧ (∀ b, b ∈ L → b ≠ bw → f1 b = f b) ∧ f1 bw = .inl (g 1, 64, .inr (.inl z))) hx hb hr hlk S dX2_setMark_34 (by decide) (by decide) (by have hz := Option.some.inj hM; subst hz; exact ⟨rfl, fr, e_bw⟩)
  have LP2 : ∀ (fu : Nat) (x3_2 : Int32) (cbw_2 : Nat → Int64) (fl2 : Nat → va_E) (H : Heap) (locs : List Loc) (ls : Array Slot), (mX2_setMark_L2 ic vim z0 j w) fu x3_2 cbw_2 = some o2 → PS D g (va_A (va_pl L f) szz) s.heap s L fl2 H locs → fl2 ch = .inr (2, [.ref im, .ref rm, .ref bo, .int ic, .int rc]) → fl2 im = .inl (g 1, 1000, .inr (.inl vim)) → fl2 rm = .inl (g 1, 1000, .inr (.inl vrm)) → fl2 bo = .inr (1, [.ref bw, .int z0]) → fl2 bw = .inl (g 1, 64, .inr (.inl cbw_2)) → (∀ b, b ∈ L → b ≠ bw → fl2 b = f b) → lv_has ls 4 [(3, .int x3_2), (0, .ref ch), (1, .int j), (2, .int w)] → W p l e { frames := 1, cells := 0, slots := 0, locals := 27 } s m [.ref ch, .int j, .int w].toArray below meth c H locs 0 0 QQ (F0 m 2 ls []) := by
    intro fu
    induction fu with
    | zero => intro x3_2 cbw_2 fl2 H locs ls ho2 S e_ch e_im e_rm e_bo e_bw fr hl; exact no_some ho2
    | succ fu ih2 =>
      intro x3_2 cbw_2 fl2 H locs ls ho2 S e_ch e_im e_rm e_bo e_bw fr hl
      rw [mX2_setMark_L2] at ho2
      refine lv_iload_n hx hb dX2_setMark_2 rfl (lv_at hl 0 rfl) ?_
      refine lv_aload_n hx hb dX2_setMark_3 rfl (lv_at hl 1 rfl) ?_
      refine q_get hx hb hts in_X2 hown S m_ch e_ch (C := RX2) (T := TX2) (N := 5) rfl 3 (by decide) rfl (hts (.fieldLink RX2 31 "SieveCabinet$Chooser" "inCount" "I") (gu_wsX2_setMark_1 _ gm_0)) dX2_setMark_4 ?_
      refine lv_icmp_ge (tgt := 34) hx hb dX2_setMark_7 (by decide) (fun b7 => ?_) (fun b7 => ?_)
      · have ho2 := itT b7 ho2
        obtain rfl := Option.some.inj ho2
        exact EX2 fl2 _ _ _ S e_ch e_im e_rm e_bo e_bw fr (lv_sub hl [] rfl)
      · have ho2 := itF b7 ho2
        refine lv_aload_n hx hb dX2_setMark_10 rfl (lv_at hl 1 rfl) ?_
        refine q_get hx hb hts in_X2 hown S m_ch e_ch (C := RX2) (T := TX2) (N := 5) rfl 2 (by decide) rfl (hts (.fieldLink RX2 21 "SieveCabinet$Chooser" "bits" "LSieveCabinet$BitRow;") (gu_wsX2_setMark_1 _ gm_1)) dX2_setMark_11 ?_
        refine lv_aload_n hx hb dX2_setMark_14 rfl (lv_at hl 1 rfl) ?_
        refine q_get hx hb hts in_X2 hown S m_ch e_ch (C := RX2) (T := TX2) (N := 5) rfl 0 (by decide) rfl (hts (.fieldLink RX2 9 "SieveCabinet$Chooser" "inMixes" "[J") (gu_wsX2_setMark_1 _ gm_2)) dX2_setMark_15 ?_
        refine lv_iload_n hx hb dX2_setMark_18 rfl (lv_at hl 0 rfl) ?_
        obtain ⟨hi19, ho2⟩ := ckx ho2
        refine q_lald hx hb S m_im e_im hi19 dX2_setMark_19 ?_
        refine lv_iload_n hx hb dX2_setMark_20 rfl (lv_at hl 2 rfl) ?_
        refine lv_iload_n hx hb dX2_setMark_21 rfl (lv_at hl 3 rfl) ?_
        obtain ⟨z22, hz22, ho2⟩ := bind_some ho2
        refine q_si (As := [.long (vim (Int32.toNatClampNeg x3_2)), .int j, .int w]) (rest := [.ref bo]) ⟨hx, hb, hml, hown, hts⟩ (k_X4_markPlace l D g hz22) (va_cwS 3 hts gX2_setMark_X4_markPlace rfl rfl rfl (by decide +kernel) ⟨Nat.le_of_ble_eq_true rfl, Nat.le_of_ble_eq_true rfl⟩) S rfl hl.1 rfl (Nat.le_of_ble_eq_true rfl) dX2_setMark_22 ⟨Nat.le_of_ble_eq_true rfl, Nat.le_of_ble_eq_true rfl⟩ (fun r3 L1 f2 H locs S w22 => ?_)
        obtain ⟨ex22, eL, ef⟩ := w22
        rw [eL, ef] at S
        replace ex22 := ex22.symm
        subst ex22
        obtain ⟨z25, hz25, ho2⟩ := bind_some ho2
        refine q_vv (As := [.int z22]) (rest := []) ⟨hx, hb, hml, hown, hts⟩ (k_X1_set l D g m_bo e_bo m_bw e_bw hz25) (cwV 1 hts gX2_setMark_X1_set rfl rfl rfl (by decide +kernel) ⟨Nat.le_of_ble_eq_true rfl, Nat.le_of_ble_eq_true rfl⟩) S m_bo e_bo (T := TX1) (N := 2) rfl rfl hl.1 rfl (Nat.le_of_ble_eq_true rfl) dX2_setMark_25 ⟨Nat.le_of_ble_eq_true rfl, Nat.le_of_ble_eq_true rfl⟩ (fun L4 f5 H locs S w25 => ?_)
        obtain ⟨eL, fv25, E_bw⟩ := w25
        rw [eL] at S
        have fr : ∀ b, b ∈ L → b ≠ bw → f5 b = f b := fun b mb nb0 => (fv25 b mb nb0).trans (fr b mb nb0)
        have e_bw : f5 bw = .inl (g 1, 64, .inr (.inl z25)) := E_bw
        refine lv_iinc (v := (x3_2 + 1)) (lv' := [(3, .int (x3_2 + 1)), (0, .ref ch), (1, .int j), (2, .int w)]) hx hb dX2_setMark_28 hl (k := 0) rfl rfl (by decide) rfl (fun ls hl => ?_)
        refine lv_goto (tgt := 2) hx hb dX2_setMark_31 (by decide) ?_
        have e_ch := ((fv25 ch m_ch n_ch_bw).trans e_ch)
        have e_im := ((fv25 im m_im n_im_bw).trans e_im)
        have e_rm := ((fv25 rm m_rm n_rm_bw).trans e_rm)
        have e_bo := ((fv25 bo m_bo n_bo_bw).trans e_bo)
        exact ih2 (x3_2 + 1) z25 f5 _ _ _ ho2 S e_ch e_im e_rm e_bo e_bw fr (lv_sub hl [0, 1, 2, 3] rfl)
  exact LP2 FU (0 : Int32) vbw f _ _ _ ho2 S e_ch e_im e_rm e_bo e_bw fr (lv_sub hl [0, 1, 2, 3] rfl)

def mX2_countFalses_L5 (rc : Int32) (vrm : Nat → Int64) (z0 : Int32) (vbw : Nat → Int64) (mk : Int32) (li : Int32) : Nat → Int32 → Int32 → Option (Int32 × Int32)
  | 0, _, _ => none
  | fu + 1, x4_5, x3_5 => if rc ≤ x4_5 then (some (x4_5, x3_5)) else (if li ≤ x3_5 then (some (x4_5, x3_5)) else (if ix x4_5 1000 = true then ((mX1_hasMarks z0 vbw (vrm (Int32.toNatClampNeg x4_5)) mk).bind fun z31 => if z31 = 0 then (mX2_countFalses_L5 rc vrm z0 vbw mk li fu (x4_5 + 1) x3_5) else (mX2_countFalses_L5 rc vrm z0 vbw mk li fu (x4_5 + 1) (x3_5 + 1))) else none))
def mX2_countFalses (rc : Int32) (vrm : Nat → Int64) (z0 : Int32) (vbw : Nat → Int64) (mk : Int32) (li : Int32) : Option (Int32) := (mX2_countFalses_L5 rc vrm z0 vbw mk li FU (0 : Int32) (0 : Int32)).bind fun o5 => some o5.2
set_option maxRecDepth 20000 in
theorem gu_wsX2_countFalses_2 : ∀ w ∈ wsX20, w ∈ wsX2_countFalses := fun _ h => List.mem_cons_of_mem _ (List.mem_append_left _ (List.mem_append_right _ h))
set_option maxHeartbeats 4000000 in
set_option maxRecDepth 100000 in
theorem k_X2_countFalses (l : Launch) (D : va_G) (g : Nat → ClassId) {L : List Nat} {f : Nat → va_E} {bo bw ch im rm : Nat} {ic : Int32} {rc : Int32} {vrm : Nat → Int64} {z0 : Int32} {vbw : Nat → Int64} {mk : Int32} {li : Int32} {z : Int32} (m_ch : ch ∈ L) (e_ch : f ch = .inr (2, [.ref im, .ref rm, .ref bo, .int ic, .int rc])) (m_rm : rm ∈ L) (e_rm : f rm = .inl (g 1, 1000, .inr (.inl vrm))) (m_bo : bo ∈ L) (e_bo : f bo = .inr (1, [.ref bw, .int z0])) (m_bw : bw ∈ L) (e_bw : f bw = .inl (g 1, 64, .inr (.inl vbw)))    (hM : mX2_countFalses rc vrm z0 vbw mk li = some z) : cI l yX2_countFalses wsX2_countFalses { frames := 2, cells := 0, slots := 0, locals := 51 } D g [.ref ch, .int mk, .int li] L f 0 0 (fun x L1 f1 => x = z ∧ L1 = L ∧ f1 = f) := by
  refine cI_of (cc := cX2_countFalses) (maxL := 5) (ret := (some .int)) (by decide) rfl (Nat.le_of_ble_eq_true rfl) ?_
  intro szz p e s m below meth c hx hb hr hml hts hown hlk hnm S ls hl
  have hl : lv_has ls 5 [(0, .ref ch), (1, .int mk), (2, .int li)] := hl
  have in_X2 : ∀ w ∈ wsX20, w ∈ wsX2_countFalses := gu_wsX2_countFalses_2
  unfold mX2_countFalses at hM
  refine W_gen (fun QQ hQQ => ?_)
  refine lv_iconst (v := (0 : Int32)) hx hb dX2_countFalses_0 (by decide) ?_
  refine lv_istore_n (lv' := [(3, .int (0 : Int32)), (0, .ref ch), (1, .int mk), (2, .int li)]) hx hb dX2_countFalses_1 rfl hl (by decide) rfl (fun ls hl => ?_)
  refine lv_iconst (v := (0 : Int32)) hx hb dX2_countFalses_2 (by decide) ?_
  refine lv_istore (lv' := [(4, .int (0 : Int32)), (3, .int (0 : Int32)), (0, .ref ch), (1, .int mk), (2, .int li)]) hx hb dX2_countFalses_3 hl (by decide) rfl (fun ls hl => ?_)
  obtain ⟨o5, ho5, hM⟩ := bind_some hM
  have EX5 : ∀ (H : Heap) (locs : List Loc) (ls : Array Slot), PS D g (va_A (va_pl L f) szz) s.heap s L f H locs → lv_has ls 5 [(3, .int o5.2)] → W p l e { frames := 2, cells := 0, slots := 0, locals := 51 } s m [.ref ch, .int mk, .int li].toArray below meth c H locs 0 0 QQ (F0 m 46 ls []) := by
    intro H locs ls S hl
    refine lv_iload_n hx hb dX2_countFalses_46 rfl (lv_at hl 0 rfl) ?_
    subst hQQ
    exact q_reti (post := fun x L1 f1 => x = z ∧ L1 = L ∧ f1 = f) hx hb hr hlk S dX2_countFalses_47 (by decide) (by decide) (by have hz := Option.some.inj hM; subst hz; exact ⟨rfl, rfl, rfl⟩)
  have LP5 : ∀ (fu : Nat) (x4_5 : Int32) (x3_5 : Int32) (H : Heap) (locs : List Loc) (ls : Array Slot), (mX2_countFalses_L5 rc vrm z0 vbw mk li) fu x4_5 x3_5 = some o5 → PS D g (va_A (va_pl L f) szz) s.heap s L f H locs → lv_has ls 5 [(4, .int x4_5), (3, .int x3_5), (0, .ref ch), (1, .int mk), (2, .int li)] → W p l e { frames := 2, cells := 0, slots := 0, locals := 51 } s m [.ref ch, .int mk, .int li].toArray below meth c H locs 0 0 QQ (F0 m 5 ls []) := by
    intro fu
    induction fu with
    | zero => intro x4_5 x3_5 H locs ls ho5 S hl; exact no_some ho5
    | succ fu ih5 =>
      intro x4_5 x3_5 H locs ls ho5 S hl
      rw [mX2_countFalses_L5] at ho5
      refine lv_iload hx hb dX2_countFalses_5 (lv_at hl 0 rfl) ?_
      refine lv_aload_n hx hb dX2_countFalses_7 rfl (lv_at hl 2 rfl) ?_
      refine q_get hx hb hts in_X2 hown S m_ch e_ch (C := RX2) (T := TX2) (N := 5) rfl 4 (by decide) rfl (hts (.fieldLink RX2 45 "SieveCabinet$Chooser" "rivalCount" "I") (gu_wsX2_countFalses_1 _ gm_0)) dX2_countFalses_8 ?_
      refine lv_icmp_ge (tgt := 46) hx hb dX2_countFalses_11 (by decide) (fun b11 => ?_) (fun b11 => ?_)
      · have ho5 := itT b11 ho5
        obtain rfl := Option.some.inj ho5
        exact EX5 _ _ _ S (lv_sub hl [1] rfl)
      · have ho5 := itF b11 ho5
        refine lv_iload_n hx hb dX2_countFalses_14 rfl (lv_at hl 1 rfl) ?_
        refine lv_iload_n hx hb dX2_countFalses_15 rfl (lv_at hl 4 rfl) ?_
        refine lv_icmp_ge (tgt := 46) hx hb dX2_countFalses_16 (by decide) (fun b16 => ?_) (fun b16 => ?_)
        · have ho5 := itT b16 ho5
          obtain rfl := Option.some.inj ho5
          exact EX5 _ _ _ S (lv_sub hl [1] rfl)
        · have ho5 := itF b16 ho5
          refine lv_aload_n hx hb dX2_countFalses_19 rfl (lv_at hl 2 rfl) ?_
          refine q_get hx hb hts in_X2 hown S m_ch e_ch (C := RX2) (T := TX2) (N := 5) rfl 2 (by decide) rfl (hts (.fieldLink RX2 21 "SieveCabinet$Chooser" "bits" "LSieveCabinet$BitRow;") (gu_wsX2_countFalses_1 _ gm_1)) dX2_countFalses_20 ?_
          refine lv_aload_n hx hb dX2_countFalses_23 rfl (lv_at hl 2 rfl) ?_
          refine q_get hx hb hts in_X2 hown S m_ch e_ch (C := RX2) (T := TX2) (N := 5) rfl 1 (by decide) rfl (hts (.fieldLink RX2 15 "SieveCabinet$Chooser" "rivalMixes" "[J") (gu_wsX2_countFalses_1 _ gm_2)) dX2_countFalses_24 ?_
          refine lv_iload hx hb dX2_countFalses_27 (lv_at hl 0 rfl) ?_
          obtain ⟨hi29, ho5⟩ := ckx ho5
          refine q_lald hx hb S m_rm e_rm hi29 dX2_countFalses_29 ?_
          refine lv_iload_n hx hb dX2_countFalses_30 rfl (lv_at hl 3 rfl) ?_
          obtain ⟨z31, hz31, ho5⟩ := bind_some ho5
          refine q_vi (As := [.long (vrm (Int32.toNatClampNeg x4_5)), .int mk]) (rest := []) ⟨hx, hb, hml, hown, hts⟩ (k_X1_hasMarks l D g m_bo e_bo m_bw e_bw hz31) (cwV 2 hts gX2_countFalses_X1_hasMarks rfl rfl rfl (by decide +kernel) ⟨Nat.le_of_ble_eq_true rfl, Nat.le_of_ble_eq_true rfl⟩) S m_bo e_bo (T := TX1) (N := 2) rfl rfl hl.1 rfl (Nat.le_of_ble_eq_true rfl) dX2_countFalses_31 ⟨Nat.le_of_ble_eq_true rfl, Nat.le_of_ble_eq_true rfl⟩ (fun r3 L1 f2 H locs S w31 => ?_)
          obtain ⟨ex31, eL, ef⟩ := w31
          rw [eL, ef] at S
          replace ex31 := ex31.symm
          subst ex31
          refine lv_if_eq (tgt := 40) hx hb dX2_countFalses_34 (by decide) (fun b34 => ?_) (fun b34 => ?_)
          · have ho5 := itT b34 ho5
            refine lv_iinc (v := (x4_5 + 1)) (lv' := [(4, .int (x4_5 + 1)), (3, .int x3_5), (0, .ref ch), (1, .int mk), (2, .int li)]) hx hb dX2_countFalses_40 hl (k := 0) rfl rfl (by decide) rfl (fun ls hl => ?_)
            refine lv_goto (tgt := 5) hx hb dX2_countFalses_43 (by decide) ?_
            exact ih5 (x4_5 + 1) x3_5 _ _ _ ho5 S (lv_sub hl [0, 1, 2, 3, 4] rfl)
          · have ho5 := itF b34 ho5
            refine lv_iinc (v := (x3_5 + 1)) (lv' := [(3, .int (x3_5 + 1)), (4, .int x4_5), (0, .ref ch), (1, .int mk), (2, .int li)]) hx hb dX2_countFalses_37 hl (k := 1) rfl rfl (by decide) rfl (fun ls hl => ?_)
            refine lv_iinc (v := (x4_5 + 1)) (lv' := [(4, .int (x4_5 + 1)), (3, .int (x3_5 + 1)), (0, .ref ch), (1, .int mk), (2, .int li)]) hx hb dX2_countFalses_40 hl (k := 1) rfl rfl (by decide) rfl (fun ls hl => ?_)
            refine lv_goto (tgt := 5) hx hb dX2_countFalses_43 (by decide) ?_
            exact ih5 (x4_5 + 1) (x3_5 + 1) _ _ _ ho5 S (lv_sub hl [0, 1, 2, 3, 4] rfl)
  exact LP5 FU (0 : Int32) (0 : Int32) _ _ _ ho5 S (lv_sub hl [0, 1, 2, 3, 4] rfl)

def mX2_choose_L36 (ic : Int32) (rc : Int32) (vim : Nat → Int64) (vrm : Nat → Int64) (z30 : Int32 × (Nat → Int64)) (x4_10 : Int32) : Nat → Int32 → Int32 → Int32 → (Nat → Int64) → Option ((Int32 × Int32 × (Nat → Int64)) ⊕ (Int32 × Int32 × Int32 × (Nat → Int64)))
  | 0, _, _, _, _ => none
  | fu + 1, x5_36, x3_36, x2_36, cbw_36 => if (8 : Int32) < x5_36 then (some (.inr (x5_36, x3_36, x2_36, cbw_36))) else ((mX2_setMark ic vim z30.1 cbw_36 (x5_36 - (1 : Int32)) x4_10).bind fun z50 => (mX2_countFalses rc vrm z30.1 z50 x5_36 x2_36).bind fun z57 => if x2_36 ≤ z57 then (if z57 = 0 then (some (.inl (x3_36, z30.1, z50))) else (mX2_choose_L36 ic rc vim vrm z30 x4_10 fu (x5_36 + 1) x3_36 x2_36 z50)) else (if z57 = 0 then (some (.inl ((((16 : Int32) * x4_10) + x5_36), z30.1, z50))) else (mX2_choose_L36 ic rc vim vrm z30 x4_10 fu (x5_36 + 1) (((16 : Int32) * x4_10) + x5_36) z57 z50)))
def mX2_choose_L10 (ic : Int32) (rc : Int32) (vim : Nat → Int64) (vrm : Nat → Int64) (mo : Int32) : Nat → Int32 → Int32 → Int32 → Int32 → (Nat → Int64) → Option ((Int32 × Int32 × (Nat → Int64)) ⊕ (Int32 × Int32 × Int32 × Int32 × (Nat → Int64)))
  | 0, _, _, _, _, _ => none
  | fu + 1, x4_10, x3_10, x2_10, cbo_1_10, cbw_10 => if mo < x4_10 then (some (.inr (x4_10, x3_10, x2_10, cbo_1_10, cbw_10))) else (if (4096 : Int32) < x4_10 then (some (.inr (x4_10, x3_10, x2_10, cbo_1_10, cbw_10))) else ((mX1_begin cbw_10 x4_10).bind fun z30 => (mX2_choose_L36 ic rc vim vrm z30 x4_10 FU (1 : Int32) x3_10 x2_10 z30.2).bind fun o36 => Sum.elim (fun r_ => some (.inl r_)) (fun s36 => mX2_choose_L10 ic rc vim vrm mo fu (x4_10 * (2 : Int32)) s36.2.1 s36.2.2.1 z30.1 s36.2.2.2) o36))
def mX2_choose (ic : Int32) (rc : Int32) (vim : Nat → Int64) (vrm : Nat → Int64) (z0 : Int32) (vbw : Nat → Int64) (mo : Int32) : Option (Int32 × Int32 × (Nat → Int64)) := (mX2_choose_L10 ic rc vim vrm mo FU (8 : Int32) (0 : Int32) (1001 : Int32) z0 vbw).bind fun o10 => Sum.elim (fun r_ => some r_) (fun s10 => some (s10.2.1, s10.2.2.2.1, s10.2.2.2.2)) o10
set_option maxHeartbeats 4000000 in
set_option maxRecDepth 100000 in
theorem k_X2_choose (l : Launch) (D : va_G) (g : Nat → ClassId) {L : List Nat} {f : Nat → va_E} {bo bw ch im rm : Nat} {ic : Int32} {rc : Int32} {vim : Nat → Int64} {vrm : Nat → Int64} {z0 : Int32} {vbw : Nat → Int64} {mo : Int32} {z : Int32 × Int32 × (Nat → Int64)} (m_ch : ch ∈ L) (e_ch : f ch = .inr (2, [.ref im, .ref rm, .ref bo, .int ic, .int rc])) (m_im : im ∈ L) (e_im : f im = .inl (g 1, 1000, .inr (.inl vim))) (m_rm : rm ∈ L) (e_rm : f rm = .inl (g 1, 1000, .inr (.inl vrm))) (m_bo : bo ∈ L) (e_bo : f bo = .inr (1, [.ref bw, .int z0])) (m_bw : bw ∈ L) (e_bw : f bw = .inl (g 1, 64, .inr (.inl vbw)))    (hM : mX2_choose ic rc vim vrm z0 vbw mo = some z) : cI l yX2_choose wsX2_choose { frames := 3, cells := 0, slots := 0, locals := 75 } D g [.ref ch, .int mo] L f 0 0 (fun x L1 f1 => x = z.1 ∧ L1 = L ∧ (∀ b, b ∈ L → b ≠ bo → b ≠ bw → f1 b = f b) ∧ f1 bo = .inr (1, [.ref bw, .int z.2.1]) ∧ f1 bw = .inl (g 1, 64, .inr (.inl z.2.2))) := by
  refine cI_of (cc := cX2_choose) (maxL := 7) (ret := (some .int)) (by decide) rfl (Nat.le_of_ble_eq_true rfl) ?_
  intro szz p e s m below meth c hx hb hr hml hts hown hlk hnm S ls hl
  have hl : lv_has ls 7 [(0, .ref ch), (1, .int mo)] := hl
  have in_X2 : ∀ w ∈ wsX20, w ∈ wsX2_choose := gu_wsX2_choose_4
  have n_ch_bo : ch ≠ bo := ne_rr e_bo e_ch (by decide)
  have n_ch_bw : ch ≠ bw := ne_ir e_bw e_ch
  have n_im_bo : im ≠ bo := ne_ri e_bo e_im
  have n_im_bw : im ≠ bw := ne_len e_bw e_im (by decide)
  have n_rm_bo : rm ≠ bo := ne_ri e_bo e_rm
  have n_rm_bw : rm ≠ bw := ne_len e_bw e_rm (by decide)
  have n_bo_bw : bo ≠ bw := ne_ir e_bw e_bo
  have fr : ∀ b, b ∈ L → b ≠ bo → b ≠ bw → f b = f b := fun _ _ _ _ => rfl
  unfold mX2_choose at hM
  refine W_gen (fun QQ hQQ => ?_)
  refine lv_sipush (v := (1001 : Int32)) hx hb dX2_choose_0 (by decide) ?_
  refine lv_istore_n (lv' := [(2, .int (1001 : Int32)), (0, .ref ch), (1, .int mo)]) hx hb dX2_choose_3 rfl hl (by decide) rfl (fun ls hl => ?_)
  refine lv_iconst (v := (0 : Int32)) hx hb dX2_choose_4 (by decide) ?_
  refine lv_istore_n (lv' := [(3, .int (0 : Int32)), (2, .int (1001 : Int32)), (0, .ref ch), (1, .int mo)]) hx hb dX2_choose_5 rfl hl (by decide) rfl (fun ls hl => ?_)
  refine lv_bipush (v := (8 : Int32)) hx hb dX2_choose_6 (by decide) ?_
  refine lv_istore (lv' := [(4, .int (8 : Int32)), (3, .int (0 : Int32)), (2, .int (1001 : Int32)), (0, .ref ch), (1, .int mo)]) hx hb dX2_choose_8 hl (by decide) rfl (fun ls hl => ?_)
  obtain ⟨o10, ho10, hM⟩ := bind_some hM
  have EX10 : ∀ (s10 : Int32 × Int32 × Int32 × Int32 × (Nat → Int64)), o10 = .inr s10 → ∀ (fl10 : Nat → va_E) (H : Heap) (locs : List Loc) (ls : Array Slot), PS D g (va_A (va_pl L f) szz) s.heap s L fl10 H locs → fl10 ch = .inr (2, [.ref im, .ref rm, .ref bo, .int ic, .int rc]) → fl10 im = .inl (g 1, 1000, .inr (.inl vim)) → fl10 rm = .inl (g 1, 1000, .inr (.inl vrm)) → fl10 bo = .inr (1, [.ref bw, .int s10.2.2.2.1]) → fl10 bw = .inl (g 1, 64, .inr (.inl s10.2.2.2.2)) → (∀ b, b ∈ L → b ≠ bo → b ≠ bw → fl10 b = f b) → lv_has ls 7 [(3, .int s10.2.1)] → W p l e { frames := 3, cells := 0, slots := 0, locals := 75 } s m [.ref ch, .int mo].toArray below meth c H locs 0 0 QQ (F0 m 102 ls []) := by
    intro s10 eo10
    rw [eo10] at hM
    simp only [Sum.elim_inr] at hM
    intro fl10 H locs ls S e_ch e_im e_rm e_bo e_bw fr hl
    refine lv_iload_n hx hb dX2_choose_102 rfl (lv_at hl 0 rfl) ?_
    subst hQQ
    exact q_reti (post := fun x L1 f1 => x = z.1 ∧ L1 = L ∧ (∀ b, b ∈ L → b ≠ bo → b ≠ bw → f1 b = f b) ∧ f1 bo = .inr (1, [.ref bw, .int z.2.1]) ∧ f1 bw = .inl (g 1, 64, .inr (.inl z.2.2))) hx hb hr hlk S dX2_choose_103 (by decide) (by decide) (by have hz := Option.some.inj hM; subst hz; exact ⟨rfl, rfl, fr, e_bo, e_bw⟩)
  have LP10 : ∀ (fu : Nat) (x4_10 : Int32) (x3_10 : Int32) (x2_10 : Int32) (cbo_1_10 : Int32) (cbw_10 : Nat → Int64) (fl10 : Nat → va_E) (H : Heap) (locs : List Loc) (ls : Array Slot), (mX2_choose_L10 ic rc vim vrm mo) fu x4_10 x3_10 x2_10 cbo_1_10 cbw_10 = some o10 → PS D g (va_A (va_pl L f) szz) s.heap s L fl10 H locs → fl10 ch = .inr (2, [.ref im, .ref rm, .ref bo, .int ic, .int rc]) → fl10 im = .inl (g 1, 1000, .inr (.inl vim)) → fl10 rm = .inl (g 1, 1000, .inr (.inl vrm)) → fl10 bo = .inr (1, [.ref bw, .int cbo_1_10]) → fl10 bw = .inl (g 1, 64, .inr (.inl cbw_10)) → (∀ b, b ∈ L → b ≠ bo → b ≠ bw → fl10 b = f b) → lv_has ls 7 [(4, .int x4_10), (3, .int x3_10), (2, .int x2_10), (0, .ref ch), (1, .int mo)] → W p l e { frames := 3, cells := 0, slots := 0, locals := 75 } s m [.ref ch, .int mo].toArray below meth c H locs 0 0 QQ (F0 m 10 ls []) := by
    intro fu
    induction fu with
    | zero => intro x4_10 x3_10 x2_10 cbo_1_10 cbw_10 fl10 H locs ls ho10 S e_ch e_im e_rm e_bo e_bw fr hl; exact no_some ho10
    | succ fu ih10 =>
      intro x4_10 x3_10 x2_10 cbo_1_10 cbw_10 fl10 H locs ls ho10 S e_ch e_im e_rm e_bo e_bw fr hl
      rw [mX2_choose_L10] at ho10
      refine lv_iload hx hb dX2_choose_10 (lv_at hl 0 rfl) ?_
      refine lv_iload_n hx hb dX2_choose_12 rfl (lv_at hl 4 rfl) ?_
      refine lv_icmp_gt (tgt := 102) hx hb dX2_choose_13 (by decide) (fun b13 => ?_) (fun b13 => ?_)
      · have ho10 := itT b13 ho10
        obtain rfl := Option.some.inj ho10
        exact EX10 _ rfl fl10 _ _ _ S e_ch e_im e_rm e_bo e_bw fr (lv_sub hl [1] rfl)
      · have ho10 := itF b13 ho10
        refine lv_iload hx hb dX2_choose_16 (lv_at hl 0 rfl) ?_
        refine lv_sipush (v := (4096 : Int32)) hx hb dX2_choose_18 (by decide) ?_
        refine lv_icmp_gt (tgt := 102) hx hb dX2_choose_21 (by decide) (fun b21 => ?_) (fun b21 => ?_)
        · have ho10 := itT b21 ho10
          obtain rfl := Option.some.inj ho10
          exact EX10 _ rfl fl10 _ _ _ S e_ch e_im e_rm e_bo e_bw fr (lv_sub hl [1] rfl)
        · have ho10 := itF b21 ho10
          refine lv_aload_n hx hb dX2_choose_24 rfl (lv_at hl 3 rfl) ?_
          refine q_get hx hb hts in_X2 hown S m_ch e_ch (C := RX2) (T := TX2) (N := 5) rfl 2 (by decide) rfl (hts (.fieldLink RX2 21 "SieveCabinet$Chooser" "bits" "LSieveCabinet$BitRow;") (gu_wsX2_choose_1 _ gm_0)) dX2_choose_25 ?_
          refine lv_iload hx hb dX2_choose_28 (lv_at hl 0 rfl) ?_
          obtain ⟨z30, hz30, ho10⟩ := bind_some ho10
          refine q_vv (As := [.int x4_10]) (rest := []) ⟨hx, hb, hml, hown, hts⟩ (k_X1_begin l D g m_bo e_bo m_bw e_bw hz30) (cwV 1 hts gX2_choose_X1_begin rfl rfl rfl (by decide +kernel) ⟨Nat.le_of_ble_eq_true rfl, Nat.le_of_ble_eq_true rfl⟩) S m_bo e_bo (T := TX1) (N := 2) rfl rfl hl.1 rfl (Nat.le_of_ble_eq_true rfl) dX2_choose_30 ⟨Nat.le_of_ble_eq_true rfl, Nat.le_of_ble_eq_true rfl⟩ (fun L1 f2 H locs S w30 => ?_)
          obtain ⟨eL, fv30, E_bo, E_bw⟩ := w30
          rw [eL] at S
          have fr : ∀ b, b ∈ L → b ≠ bo → b ≠ bw → f2 b = f b := fun b mb nb0 nb1 => (fv30 b mb nb0 nb1).trans (fr b mb nb0 nb1)
          have e_bo : f2 bo = .inr (1, [.ref bw, .int z30.1]) := E_bo
          have e_bw : f2 bw = .inl (g 1, 64, .inr (.inl z30.2)) := E_bw
          refine lv_iconst (v := (1 : Int32)) hx hb dX2_choose_33 (by decide) ?_
          refine lv_istore (lv' := [(5, .int (1 : Int32)), (4, .int x4_10), (3, .int x3_10), (2, .int x2_10), (0, .ref ch), (1, .int mo)]) hx hb dX2_choose_34 hl (by decide) rfl (fun ls hl => ?_)
          have e_ch := ((fv30 ch m_ch n_ch_bo n_ch_bw).trans e_ch)
          have e_im := ((fv30 im m_im n_im_bo n_im_bw).trans e_im)
          have e_rm := ((fv30 rm m_rm n_rm_bo n_rm_bw).trans e_rm)
          obtain ⟨o36, ho36, ho10⟩ := bind_some ho10
          have EX36 : ∀ (s36 : Int32 × Int32 × Int32 × (Nat → Int64)), o36 = .inr s36 → ∀ (fl36 : Nat → va_E) (H : Heap) (locs : List Loc) (ls : Array Slot), PS D g (va_A (va_pl L f) szz) s.heap s L fl36 H locs → fl36 ch = .inr (2, [.ref im, .ref rm, .ref bo, .int ic, .int rc]) → fl36 im = .inl (g 1, 1000, .inr (.inl vim)) → fl36 rm = .inl (g 1, 1000, .inr (.inl vrm)) → fl36 bo = .inr (1, [.ref bw, .int z30.1]) → fl36 bw = .inl (g 1, 64, .inr (.inl s36.2.2.2)) → (∀ b, b ∈ L → b ≠ bo → b ≠ bw → fl36 b = f b) → lv_has ls 7 [(4, .int x4_10), (3, .int s36.2.1), (2, .int s36.2.2.1), (0, .ref ch), (1, .int mo)] → W p l e { frames := 3, cells := 0, slots := 0, locals := 75 } s m [.ref ch, .int mo].toArray below meth c H locs 0 0 QQ (F0 m 93 ls []) := by
            intro s36 eo36
            rw [eo36] at ho10
            simp only [Sum.elim_inr] at ho10
            intro fl36 H locs ls S e_ch e_im e_rm e_bo e_bw fr hl
            refine lv_iload hx hb dX2_choose_93 (lv_at hl 0 rfl) ?_
            refine lv_iconst (v := (2 : Int32)) hx hb dX2_choose_95 (by decide) ?_
            refine lv_imul hx hb dX2_choose_96 ?_
            refine lv_istore (lv' := [(4, .int (x4_10 * (2 : Int32))), (3, .int s36.2.1), (2, .int s36.2.2.1), (0, .ref ch), (1, .int mo)]) hx hb dX2_choose_97 hl (by decide) rfl (fun ls hl => ?_)
            refine lv_goto (tgt := 10) hx hb dX2_choose_99 (by decide) ?_
            exact ih10 (x4_10 * (2 : Int32)) s36.2.1 s36.2.2.1 z30.1 s36.2.2.2 fl36 _ _ _ ho10 S e_ch e_im e_rm e_bo e_bw fr (lv_sub hl [0, 1, 2, 3, 4] rfl)
          have LP36 : ∀ (fu : Nat) (x5_36 : Int32) (x3_36 : Int32) (x2_36 : Int32) (cbw_36 : Nat → Int64) (fl36 : Nat → va_E) (H : Heap) (locs : List Loc) (ls : Array Slot), (mX2_choose_L36 ic rc vim vrm z30 x4_10) fu x5_36 x3_36 x2_36 cbw_36 = some o36 → PS D g (va_A (va_pl L f) szz) s.heap s L fl36 H locs → fl36 ch = .inr (2, [.ref im, .ref rm, .ref bo, .int ic, .int rc]) → fl36 im = .inl (g 1, 1000, .inr (.inl vim)) → fl36 rm = .inl (g 1, 1000, .inr (.inl vrm)) → fl36 bo = .inr (1, [.ref bw, .int z30.1]) → fl36 bw = .inl (g 1, 64, .inr (.inl cbw_36)) → (∀ b, b ∈ L → b ≠ bo → b ≠ bw → fl36 b = f b) → lv_has ls 7 [(5, .int x5_36), (4, .int x4_10), (3, .int x3_36), (2, .int x2_36), (0, .ref ch), (1, .int mo)] → W p l e { frames := 3, cells := 0, slots := 0, locals := 75 } s m [.ref ch, .int mo].toArray below meth c H locs 0 0 QQ (F0 m 36 ls []) := by
            intro fu
            induction fu with
            | zero => intro x5_36 x3_36 x2_36 cbw_36 fl36 H locs ls ho36 S e_ch e_im e_rm e_bo e_bw fr hl; exact no_some ho36
            | succ fu ih36 =>
              intro x5_36 x3_36 x2_36 cbw_36 fl36 H locs ls ho36 S e_ch e_im e_rm e_bo e_bw fr hl
              rw [mX2_choose_L36] at ho36
              refine lv_iload hx hb dX2_choose_36 (lv_at hl 0 rfl) ?_
              refine lv_bipush (v := (8 : Int32)) hx hb dX2_choose_38 (by decide) ?_
              refine lv_icmp_gt (tgt := 93) hx hb dX2_choose_40 (by decide) (fun b40 => ?_) (fun b40 => ?_)
              · have ho36 := itT b40 ho36
                obtain rfl := Option.some.inj ho36
                exact EX36 _ rfl fl36 _ _ _ S e_ch e_im e_rm e_bo e_bw fr (lv_sub hl [1, 2, 3, 4, 5] rfl)
              · have ho36 := itF b40 ho36
                refine lv_aload_n hx hb dX2_choose_43 rfl (lv_at hl 4 rfl) ?_
                refine lv_iload hx hb dX2_choose_44 (lv_at hl 0 rfl) ?_
                refine lv_iconst (v := (1 : Int32)) hx hb dX2_choose_46 (by decide) ?_
                refine lv_isub hx hb dX2_choose_47 ?_
                refine lv_iload hx hb dX2_choose_48 (lv_at hl 1 rfl) ?_
                obtain ⟨z50, hz50, ho36⟩ := bind_some ho36
                refine q_vv (As := [.int (x5_36 - (1 : Int32)), .int x4_10]) (rest := []) ⟨hx, hb, hml, hown, hts⟩ (k_X2_setMark l D g m_ch e_ch m_im e_im m_rm e_rm m_bo e_bo m_bw e_bw hz50) (cwV 2 hts gX2_choose_X2_setMark rfl rfl rfl (by decide +kernel) ⟨Nat.le_of_ble_eq_true rfl, Nat.le_of_ble_eq_true rfl⟩) S m_ch e_ch (T := TX2) (N := 5) rfl rfl hl.1 rfl (Nat.le_of_ble_eq_true rfl) dX2_choose_50 ⟨Nat.le_of_ble_eq_true rfl, Nat.le_of_ble_eq_true rfl⟩ (fun L4 f5 H locs S w50 => ?_)
                obtain ⟨eL, fv50, E_bw⟩ := w50
                rw [eL] at S
                have fr : ∀ b, b ∈ L → b ≠ bo → b ≠ bw → f5 b = f b := fun b mb nb0 nb1 => (fv50 b mb nb1).trans (fr b mb nb0 nb1)
                have e_bw : f5 bw = .inl (g 1, 64, .inr (.inl z50)) := E_bw
                refine lv_aload_n hx hb dX2_choose_53 rfl (lv_at hl 4 rfl) ?_
                refine lv_iload hx hb dX2_choose_54 (lv_at hl 0 rfl) ?_
                refine lv_iload_n hx hb dX2_choose_56 rfl (lv_at hl 3 rfl) ?_
                obtain ⟨z57, hz57, ho36⟩ := bind_some ho36
                have e_ch := ((fv50 ch m_ch n_ch_bw).trans e_ch)
                have e_rm := ((fv50 rm m_rm n_rm_bw).trans e_rm)
                have e_bo := ((fv50 bo m_bo n_bo_bw).trans e_bo)
                refine q_vi (As := [.int x5_36, .int x2_36]) (rest := []) ⟨hx, hb, hml, hown, hts⟩ (k_X2_countFalses l D g m_ch e_ch m_rm e_rm m_bo e_bo m_bw e_bw hz57) (cwV 2 hts gX2_choose_X2_countFalses rfl rfl rfl (by decide +kernel) ⟨Nat.le_of_ble_eq_true rfl, Nat.le_of_ble_eq_true rfl⟩) S m_ch e_ch (T := TX2) (N := 5) rfl rfl hl.1 rfl (Nat.le_of_ble_eq_true rfl) dX2_choose_57 ⟨Nat.le_of_ble_eq_true rfl, Nat.le_of_ble_eq_true rfl⟩ (fun r9 L7 f8 H locs S w57 => ?_)
                obtain ⟨ex57, eL, ef⟩ := w57
                rw [eL, ef] at S
                replace ex57 := ex57.symm
                subst ex57
                refine lv_istore (lv' := [(6, .int z57), (5, .int x5_36), (4, .int x4_10), (3, .int x3_36), (2, .int x2_36), (0, .ref ch), (1, .int mo)]) hx hb dX2_choose_60 hl (by decide) rfl (fun ls hl => ?_)
                refine lv_iload hx hb dX2_choose_62 (lv_at hl 0 rfl) ?_
                refine lv_iload_n hx hb dX2_choose_64 rfl (lv_at hl 4 rfl) ?_
                refine lv_icmp_ge (tgt := 80) hx hb dX2_choose_65 (by decide) (fun b65 => ?_) (fun b65 => ?_)
                · have ho36 := itT b65 ho36
                  refine lv_iload hx hb dX2_choose_80 (lv_at hl 0 rfl) ?_
                  refine lv_if_ne (tgt := 87) hx hb dX2_choose_82 (by decide) (fun b82 => ?_) (fun b82 => ?_)
                  · have ho36 := itF b82 ho36
                    refine lv_iinc (v := (x5_36 + 1)) (lv' := [(5, .int (x5_36 + 1)), (6, .int z57), (4, .int x4_10), (3, .int x3_36), (2, .int x2_36), (0, .ref ch), (1, .int mo)]) hx hb dX2_choose_87 hl (k := 1) rfl rfl (by decide) rfl (fun ls hl => ?_)
                    refine lv_goto (tgt := 36) hx hb dX2_choose_90 (by decide) ?_
                    have e_im := ((fv50 im m_im n_im_bw).trans e_im)
                    exact ih36 (x5_36 + 1) x3_36 x2_36 z50 f5 _ _ _ ho36 S e_ch e_im e_rm e_bo e_bw fr (lv_sub hl [0, 2, 3, 4, 5, 6] rfl)
                  · have ho36 := itT b82 ho36
                    refine lv_iload_n hx hb dX2_choose_85 rfl (lv_at hl 3 rfl) ?_
                    obtain rfl := Option.some.inj ho36
                    simp only [Sum.elim_inl] at ho10
                    obtain rfl := Option.some.inj ho10
                    simp only [Sum.elim_inl] at hM
                    subst hQQ
                    exact q_reti (post := fun x L1 f1 => x = z.1 ∧ L1 = L ∧ (∀ b, b ∈ L → b ≠ bo → b ≠ bw → f1 b = f b) ∧ f1 bo = .inr (1, [.ref bw, .int z.2.1]) ∧ f1 bw = .inl (g 1, 64, .inr (.inl z.2.2))) hx hb hr hlk S dX2_choose_86 (by decide) (by decide) (by have hz := Option.some.inj hM; subst hz; exact ⟨rfl, rfl, fr, e_bo, e_bw⟩)
                · have ho36 := itF b65 ho36
                  refine lv_iload hx hb dX2_choose_68 (lv_at hl 0 rfl) ?_
                  refine lv_istore_n (lv' := [(2, .int z57), (6, .int z57), (5, .int x5_36), (4, .int x4_10), (3, .int x3_36), (0, .ref ch), (1, .int mo)]) hx hb dX2_choose_70 rfl hl (by decide) rfl (fun ls hl => ?_)
                  refine lv_bipush (v := (16 : Int32)) hx hb dX2_choose_71 (by decide) ?_
                  refine lv_iload hx hb dX2_choose_73 (lv_at hl 3 rfl) ?_
                  refine lv_imul hx hb dX2_choose_75 ?_
                  refine lv_iload hx hb dX2_choose_76 (lv_at hl 2 rfl) ?_
                  refine lv_iadd hx hb dX2_choose_78 ?_
                  refine lv_istore_n (lv' := [(3, .int (((16 : Int32) * x4_10) + x5_36)), (2, .int z57), (6, .int z57), (5, .int x5_36), (4, .int x4_10), (0, .ref ch), (1, .int mo)]) hx hb dX2_choose_79 rfl hl (by decide) rfl (fun ls hl => ?_)
                  refine lv_iload hx hb dX2_choose_80 (lv_at hl 2 rfl) ?_
                  refine lv_if_ne (tgt := 87) hx hb dX2_choose_82 (by decide) (fun b82 => ?_) (fun b82 => ?_)
                  · have ho36 := itF b82 ho36
                    refine lv_iinc (v := (x5_36 + 1)) (lv' := [(5, .int (x5_36 + 1)), (3, .int (((16 : Int32) * x4_10) + x5_36)), (2, .int z57), (6, .int z57), (4, .int x4_10), (0, .ref ch), (1, .int mo)]) hx hb dX2_choose_87 hl (k := 3) rfl rfl (by decide) rfl (fun ls hl => ?_)
                    refine lv_goto (tgt := 36) hx hb dX2_choose_90 (by decide) ?_
                    have e_im := ((fv50 im m_im n_im_bw).trans e_im)
                    exact ih36 (x5_36 + 1) (((16 : Int32) * x4_10) + x5_36) z57 z50 f5 _ _ _ ho36 S e_ch e_im e_rm e_bo e_bw fr (lv_sub hl [0, 4, 1, 2, 5, 6] rfl)
                  · have ho36 := itT b82 ho36
                    refine lv_iload_n hx hb dX2_choose_85 rfl (lv_at hl 0 rfl) ?_
                    obtain rfl := Option.some.inj ho36
                    simp only [Sum.elim_inl] at ho10
                    obtain rfl := Option.some.inj ho10
                    simp only [Sum.elim_inl] at hM
                    subst hQQ
                    exact q_reti (post := fun x L1 f1 => x = z.1 ∧ L1 = L ∧ (∀ b, b ∈ L → b ≠ bo → b ≠ bw → f1 b = f b) ∧ f1 bo = .inr (1, [.ref bw, .int z.2.1]) ∧ f1 bw = .inl (g 1, 64, .inr (.inl z.2.2))) hx hb hr hlk S dX2_choose_86 (by decide) (by decide) (by have hz := Option.some.inj hM; subst hz; exact ⟨rfl, rfl, fr, e_bo, e_bw⟩)
          exact LP36 FU (1 : Int32) x3_10 x2_10 z30.2 f2 _ _ _ ho36 S e_ch e_im e_rm e_bo e_bw fr (lv_sub hl [0, 1, 2, 3, 4, 5] rfl)
  exact LP10 FU (8 : Int32) (0 : Int32) (1001 : Int32) z0 vbw f _ _ _ ho10 S e_ch e_im e_rm e_bo e_bw fr (lv_sub hl [0, 1, 2, 3, 4] rfl)

def mX2_begin_L54 (no2 : Int32) (vo2 : Nat → Int64) (sd : Int32) (z45 : Int32) : Nat → Int32 → (Nat → Int64) → Option (Int32 × (Nat → Int64))
  | 0, _, _ => none
  | fu + 1, x4_54, crm_54 => if z45 ≤ x4_54 then (some (x4_54, crm_54)) else ((mX0_at no2 vo2 x4_54).bind fun z72 => (mX4_of z72 sd).bind fun z76 => if ix x4_54 1000 = true then (mX2_begin_L54 no2 vo2 sd z45 fu (x4_54 + 1) (vp_updL crm_54 (Int32.toNatClampNeg x4_54) z76)) else none)
def mX2_begin_L11 (no : Int32) (vo : Nat → Int64) (sd : Int32) (z2 : Int32) : Nat → Int32 → (Nat → Int64) → Option (Int32 × (Nat → Int64))
  | 0, _, _ => none
  | fu + 1, x4_11, cim_11 => if z2 ≤ x4_11 then (some (x4_11, cim_11)) else ((mX0_at no vo x4_11).bind fun z29 => (mX4_of z29 sd).bind fun z33 => if ix x4_11 1000 = true then (mX2_begin_L11 no vo sd z2 fu (x4_11 + 1) (vp_updL cim_11 (Int32.toNatClampNeg x4_11) z33)) else none)
def mX2_begin (vim : Nat → Int64) (vrm : Nat → Int64) (no : Int32) (vo : Nat → Int64) (no2 : Int32) (vo2 : Nat → Int64) (sd : Int32) : Option (Int32 × Int32 × (Nat → Int64) × (Nat → Int64)) := (mX0_count no).bind fun z2 => (mX2_begin_L11 no vo sd z2 FU (0 : Int32) vim).bind fun o11 => (mX0_count no2).bind fun z45 => (mX2_begin_L54 no2 vo2 sd z45 FU (0 : Int32) vrm).bind fun o54 => some (z2, z45, o11.2, o54.2)
set_option maxRecDepth 20000 in
theorem gu_wsX2_begin_2 : ∀ w ∈ wsX20, w ∈ wsX2_begin := fun _ h => List.mem_cons_of_mem _ (List.mem_append_left _ (List.mem_append_right _ h))
set_option maxHeartbeats 4000000 in
set_option maxRecDepth 100000 in
theorem k_X2_begin (l : Launch) (D : va_G) (g : Nat → ClassId) {L : List Nat} {f : Nat → va_E} {bo bw ch im o o2 rm ro ro2 : Nat} {ic : Int32} {rc : Int32} {vim : Nat → Int64} {vrm : Nat → Int64} {z0 : Int32} {vbw : Nat → Int64} {no : Int32} {vo : Nat → Int64} {no2 : Int32} {vo2 : Nat → Int64} {sd : Int32} {z : Int32 × Int32 × (Nat → Int64) × (Nat → Int64)} (m_ch : ch ∈ L) (e_ch : f ch = .inr (2, [.ref im, .ref rm, .ref bo, .int ic, .int rc])) (m_im : im ∈ L) (e_im : f im = .inl (g 1, 1000, .inr (.inl vim))) (m_rm : rm ∈ L) (e_rm : f rm = .inl (g 1, 1000, .inr (.inl vrm))) (m_bo : bo ∈ L) (e_bo : f bo = .inr (1, [.ref bw, .int z0])) (m_bw : bw ∈ L) (e_bw : f bw = .inl (g 1, 64, .inr (.inl vbw))) (m_o : o ∈ L) (e_o : f o = .inr (0, [.ref ro, .int no])) (m_ro : ro ∈ L) (e_ro : f ro = .inl (g 1, 1000, .inr (.inl vo))) (m_o2 : o2 ∈ L) (e_o2 : f o2 = .inr (0, [.ref ro2, .int no2])) (m_ro2 : ro2 ∈ L) (e_ro2 : f ro2 = .inl (g 1, 1000, .inr (.inl vo2))) (n_im_rm : im ≠ rm) (n_ro_rm : ro ≠ rm) (n_ro2_rm : ro2 ≠ rm) (n_ro_im : ro ≠ im) (n_ro2_im : ro2 ≠ im)   (hM : mX2_begin vim vrm no vo no2 vo2 sd = some z) : cV l yX2_begin wsX2_begin { frames := 1, cells := 0, slots := 0, locals := 24 } D g [.ref ch, .ref o, .ref o2, .int sd] L f 0 0 (fun L1 f1 => L1 = L ∧ (∀ b, b ∈ L → b ≠ ch → b ≠ im → b ≠ rm → f1 b = f b) ∧ f1 ch = .inr (2, [.ref im, .ref rm, .ref bo, .int z.1, .int z.2.1]) ∧ f1 im = .inl (g 1, 1000, .inr (.inl z.2.2.1)) ∧ f1 rm = .inl (g 1, 1000, .inr (.inl z.2.2.2))) := by
  refine cV_of (cc := cX2_begin) (maxL := 5) (ret := none) (by decide) rfl (Nat.le_of_ble_eq_true rfl) ?_
  intro szz p e s m below meth c hx hb hr hml hts hown hlk hnm S ls hl
  have hl : lv_has ls 5 [(0, .ref ch), (1, .ref o), (2, .ref o2), (3, .int sd)] := hl
  have in_X2 : ∀ w ∈ wsX20, w ∈ wsX2_begin := gu_wsX2_begin_2
  have n_im_ch : im ≠ ch := ne_ri e_ch e_im
  have n_rm_ch : rm ≠ ch := ne_ri e_ch e_rm
  have n_bo_ch : bo ≠ ch := ne_rr e_ch e_bo (by decide)
  have n_bw_ch : bw ≠ ch := ne_ri e_ch e_bw
  have n_o_ch : o ≠ ch := ne_rr e_ch e_o (by decide)
  have n_ro_ch : ro ≠ ch := ne_ri e_ch e_ro
  have n_o2_ch : o2 ≠ ch := ne_rr e_ch e_o2 (by decide)
  have n_ro2_ch : ro2 ≠ ch := ne_ri e_ch e_ro2
  have n_ch_rm : ch ≠ rm := ne_ir e_rm e_ch
  have n_bo_rm : bo ≠ rm := ne_ir e_rm e_bo
  have n_bw_rm : bw ≠ rm := ne_len e_rm e_bw (by decide)
  have n_o_rm : o ≠ rm := ne_ir e_rm e_o
  have n_o2_rm : o2 ≠ rm := ne_ir e_rm e_o2
  have n_ch_im : ch ≠ im := ne_ir e_im e_ch
  have n_rm_im := Ne.symm n_im_rm
  have n_bo_im : bo ≠ im := ne_ir e_im e_bo
  have n_bw_im : bw ≠ im := ne_len e_im e_bw (by decide)
  have n_o_im : o ≠ im := ne_ir e_im e_o
  have n_o2_im : o2 ≠ im := ne_ir e_im e_o2
  have fr : ∀ b, b ∈ L → b ≠ ch → b ≠ im → b ≠ rm → f b = f b := fun _ _ _ _ _ => rfl
  unfold mX2_begin at hM
  refine W_gen (fun QQ hQQ => ?_)
  refine lv_aload_n hx hb dX2_begin_0 rfl (lv_at hl 0 rfl) ?_
  refine lv_aload_n hx hb dX2_begin_1 rfl (lv_at hl 1 rfl) ?_
  obtain ⟨z2, hz2, hM⟩ := bind_some hM
  refine q_vi (As := []) (rest := [.ref ch]) ⟨hx, hb, hml, hown, hts⟩ (k_X0_count l D g m_o e_o hz2) (cwV 0 hts gX2_begin_X0_count rfl rfl rfl (by decide +kernel) ⟨Nat.le_of_ble_eq_true rfl, Nat.le_of_ble_eq_true rfl⟩) S m_o e_o (T := TX0) (N := 2) rfl rfl hl.1 rfl (Nat.le_of_ble_eq_true rfl) dX2_begin_2 ⟨Nat.le_of_ble_eq_true rfl, Nat.le_of_ble_eq_true rfl⟩ (fun r3 L1 f2 H locs S w2 => ?_)
  obtain ⟨ex2, eL, ef⟩ := w2
  rw [eL, ef] at S
  replace ex2 := ex2.symm
  subst ex2
  refine k_put hx hb hts in_X2 tyX2 tyX2_ok nmX2 hown S m_ch e_ch (C := RX2) (T := TX2) (N := 5) rfl 3 (by decide) (hts (.fieldLink RX2 31 "SieveCabinet$Chooser" "inCount" "I") (gu_wsX2_begin_1 _ gm_0)) rfl rfl rfl (Nat.le_of_ble_eq_true rfl) dX2_begin_5 (fun f4 ef4 H locs S => ?_)
  have e_ch : f4 ch = .inr (2, [.ref im, .ref rm, .ref bo, .int z2, .int rc]) := up_self ef4
  have fr : ∀ b, b ∈ L → b ≠ ch → b ≠ im → b ≠ rm → f4 b = f b := fun b mb nb0 nb1 nb2 => (up_ne ef4 nb0 rfl).trans (fr b mb nb0 nb1 nb2)
  refine lv_iconst (v := (0 : Int32)) hx hb dX2_begin_8 (by decide) ?_
  refine lv_istore (lv' := [(4, .int (0 : Int32)), (0, .ref ch), (1, .ref o), (2, .ref o2), (3, .int sd)]) hx hb dX2_begin_9 hl (by decide) rfl (fun ls hl => ?_)
  have e_im := (up_ne ef4 n_im_ch e_im)
  have e_rm := (up_ne ef4 n_rm_ch e_rm)
  have e_bo := (up_ne ef4 n_bo_ch e_bo)
  have e_bw := (up_ne ef4 n_bw_ch e_bw)
  have e_o := (up_ne ef4 n_o_ch e_o)
  have e_ro := (up_ne ef4 n_ro_ch e_ro)
  have e_o2 := (up_ne ef4 n_o2_ch e_o2)
  have e_ro2 := (up_ne ef4 n_ro2_ch e_ro2)
  obtain ⟨o11, ho11, hM⟩ := bind_some hM
  have EX11 : ∀ (fl11 : Nat → va_E) (H : Heap) (locs : List Loc) (ls : Array Slot), PS D g (va_A (va_pl L f) szz) s.heap s L fl11 H locs → fl11 ch = .inr (2, [.ref im, .ref rm, .ref bo, .int z2, .int rc]) → fl11 im = .inl (g 1, 1000, .inr (.inl o11.2)) → fl11 rm = .inl (g 1, 1000, .inr (.inl vrm)) → fl11 bo = .inr (1, [.ref bw, .int z0]) → fl11 bw = .inl (g 1, 64, .inr (.inl vbw)) → fl11 o = .inr (0, [.ref ro, .int no]) → fl11 ro = .inl (g 1, 1000, .inr (.inl vo)) → fl11 o2 = .inr (0, [.ref ro2, .int no2]) → fl11 ro2 = .inl (g 1, 1000, .inr (.inl vo2)) → (∀ b, b ∈ L → b ≠ ch → b ≠ im → b ≠ rm → fl11 b = f b) → lv_has ls 5 [(0, .ref ch), (2, .ref o2), (3, .int sd)] → W p l e { frames := 1, cells := 0, slots := 0, locals := 24 } s m [.ref ch, .ref o, .ref o2, .int sd].toArray below meth c H locs 0 0 QQ (F0 m 43 ls []) := by
    intro fl11 H locs ls S e_ch e_im e_rm e_bo e_bw e_o e_ro e_o2 e_ro2 fr hl
    refine lv_aload_n hx hb dX2_begin_43 rfl (lv_at hl 0 rfl) ?_
    refine lv_aload_n hx hb dX2_begin_44 rfl (lv_at hl 1 rfl) ?_
    obtain ⟨z45, hz45, hM⟩ := bind_some hM
    refine q_vi (As := []) (rest := [.ref ch]) ⟨hx, hb, hml, hown, hts⟩ (k_X0_count l D g m_o2 e_o2 hz45) (cwV 0 hts gX2_begin_X0_count rfl rfl rfl (by decide +kernel) ⟨Nat.le_of_ble_eq_true rfl, Nat.le_of_ble_eq_true rfl⟩) S m_o2 e_o2 (T := TX0) (N := 2) rfl rfl hl.1 rfl (Nat.le_of_ble_eq_true rfl) dX2_begin_45 ⟨Nat.le_of_ble_eq_true rfl, Nat.le_of_ble_eq_true rfl⟩ (fun r7 L5 f6 H locs S w45 => ?_)
    obtain ⟨ex45, eL, ef⟩ := w45
    rw [eL, ef] at S
    replace ex45 := ex45.symm
    subst ex45
    refine k_put hx hb hts in_X2 tyX2 tyX2_ok nmX2 hown S m_ch e_ch (C := RX2) (T := TX2) (N := 5) rfl 4 (by decide) (hts (.fieldLink RX2 45 "SieveCabinet$Chooser" "rivalCount" "I") (gu_wsX2_begin_1 _ gm_2)) rfl rfl rfl (Nat.le_of_ble_eq_true rfl) dX2_begin_48 (fun f8 ef8 H locs S => ?_)
    have e_ch : f8 ch = .inr (2, [.ref im, .ref rm, .ref bo, .int z2, .int z45]) := up_self ef8
    have fr : ∀ b, b ∈ L → b ≠ ch → b ≠ im → b ≠ rm → f8 b = f b := fun b mb nb0 nb1 nb2 => (up_ne ef8 nb0 rfl).trans (fr b mb nb0 nb1 nb2)
    refine lv_iconst (v := (0 : Int32)) hx hb dX2_begin_51 (by decide) ?_
    refine lv_istore (lv' := [(4, .int (0 : Int32)), (0, .ref ch), (2, .ref o2), (3, .int sd)]) hx hb dX2_begin_52 hl (by decide) rfl (fun ls hl => ?_)
    have e_im := (up_ne ef8 n_im_ch e_im)
    have e_rm := (up_ne ef8 n_rm_ch e_rm)
    have e_bo := (up_ne ef8 n_bo_ch e_bo)
    have e_bw := (up_ne ef8 n_bw_ch e_bw)
    have e_o := (up_ne ef8 n_o_ch e_o)
    have e_ro := (up_ne ef8 n_ro_ch e_ro)
    have e_o2 := (up_ne ef8 n_o2_ch e_o2)
    have e_ro2 := (up_ne ef8 n_ro2_ch e_ro2)
    obtain ⟨o54, ho54, hM⟩ := bind_some hM
    have EX54 : ∀ (fl54 : Nat → va_E) (H : Heap) (locs : List Loc) (ls : Array Slot), PS D g (va_A (va_pl L f) szz) s.heap s L fl54 H locs → fl54 ch = .inr (2, [.ref im, .ref rm, .ref bo, .int z2, .int z45]) → fl54 im = .inl (g 1, 1000, .inr (.inl o11.2)) → fl54 rm = .inl (g 1, 1000, .inr (.inl o54.2)) → fl54 bo = .inr (1, [.ref bw, .int z0]) → fl54 bw = .inl (g 1, 64, .inr (.inl vbw)) → fl54 o = .inr (0, [.ref ro, .int no]) → fl54 ro = .inl (g 1, 1000, .inr (.inl vo)) → fl54 o2 = .inr (0, [.ref ro2, .int no2]) → fl54 ro2 = .inl (g 1, 1000, .inr (.inl vo2)) → (∀ b, b ∈ L → b ≠ ch → b ≠ im → b ≠ rm → fl54 b = f b) → lv_has ls 5 [] → W p l e { frames := 1, cells := 0, slots := 0, locals := 24 } s m [.ref ch, .ref o, .ref o2, .int sd].toArray below meth c H locs 0 0 QQ (F0 m 86 ls []) := by
      intro fl54 H locs ls S e_ch e_im e_rm e_bo e_bw e_o e_ro e_o2 e_ro2 fr hl
      subst hQQ
      exact q_retv (post := fun L1 f1 => L1 = L ∧ (∀ b, b ∈ L → b ≠ ch → b ≠ im → b ≠ rm → f1 b = f b) ∧ f1 ch = .inr (2, [.ref im, .ref rm, .ref bo, .int z.1, .int z.2.1]) ∧ f1 im = .inl (g 1, 1000, .inr (.inl z.2.2.1)) ∧ f1 rm = .inl (g 1, 1000, .inr (.inl z.2.2.2))) hx hb hr hlk S dX2_begin_86 (by decide) (by decide) (by have hz := Option.some.inj hM; subst hz; exact ⟨rfl, fr, e_ch, e_im, e_rm⟩)
    have LP54 : ∀ (fu : Nat) (x4_54 : Int32) (crm_54 : Nat → Int64) (fl54 : Nat → va_E) (H : Heap) (locs : List Loc) (ls : Array Slot), (mX2_begin_L54 no2 vo2 sd z45) fu x4_54 crm_54 = some o54 → PS D g (va_A (va_pl L f) szz) s.heap s L fl54 H locs → fl54 ch = .inr (2, [.ref im, .ref rm, .ref bo, .int z2, .int z45]) → fl54 im = .inl (g 1, 1000, .inr (.inl o11.2)) → fl54 rm = .inl (g 1, 1000, .inr (.inl crm_54)) → fl54 bo = .inr (1, [.ref bw, .int z0]) → fl54 bw = .inl (g 1, 64, .inr (.inl vbw)) → fl54 o = .inr (0, [.ref ro, .int no]) → fl54 ro = .inl (g 1, 1000, .inr (.inl vo)) → fl54 o2 = .inr (0, [.ref ro2, .int no2]) → fl54 ro2 = .inl (g 1, 1000, .inr (.inl vo2)) → (∀ b, b ∈ L → b ≠ ch → b ≠ im → b ≠ rm → fl54 b = f b) → lv_has ls 5 [(4, .int x4_54), (0, .ref ch), (2, .ref o2), (3, .int sd)] → W p l e { frames := 1, cells := 0, slots := 0, locals := 24 } s m [.ref ch, .ref o, .ref o2, .int sd].toArray below meth c H locs 0 0 QQ (F0 m 54 ls []) := by
      intro fu
      induction fu with
      | zero => intro x4_54 crm_54 fl54 H locs ls ho54 S e_ch e_im e_rm e_bo e_bw e_o e_ro e_o2 e_ro2 fr hl; exact no_some ho54
      | succ fu ih54 =>
        intro x4_54 crm_54 fl54 H locs ls ho54 S e_ch e_im e_rm e_bo e_bw e_o e_ro e_o2 e_ro2 fr hl
        rw [mX2_begin_L54] at ho54
        refine lv_iload hx hb dX2_begin_54 (lv_at hl 0 rfl) ?_
        refine lv_aload_n hx hb dX2_begin_56 rfl (lv_at hl 1 rfl) ?_
        refine q_get hx hb hts in_X2 hown S m_ch e_ch (C := RX2) (T := TX2) (N := 5) rfl 4 (by decide) rfl (hts (.fieldLink RX2 45 "SieveCabinet$Chooser" "rivalCount" "I") (gu_wsX2_begin_1 _ gm_2)) dX2_begin_57 ?_
        refine lv_icmp_ge (tgt := 86) hx hb dX2_begin_60 (by decide) (fun b60 => ?_) (fun b60 => ?_)
        · have ho54 := itT b60 ho54
          obtain rfl := Option.some.inj ho54
          exact EX54 fl54 _ _ _ S e_ch e_im e_rm e_bo e_bw e_o e_ro e_o2 e_ro2 fr (lv_sub hl [] rfl)
        · have ho54 := itF b60 ho54
          refine lv_aload_n hx hb dX2_begin_63 rfl (lv_at hl 1 rfl) ?_
          refine q_get hx hb hts in_X2 hown S m_ch e_ch (C := RX2) (T := TX2) (N := 5) rfl 1 (by decide) rfl (hts (.fieldLink RX2 15 "SieveCabinet$Chooser" "rivalMixes" "[J") (gu_wsX2_begin_1 _ gm_3)) dX2_begin_64 ?_
          refine lv_iload hx hb dX2_begin_67 (lv_at hl 0 rfl) ?_
          refine lv_aload_n hx hb dX2_begin_69 rfl (lv_at hl 2 rfl) ?_
          refine lv_iload hx hb dX2_begin_70 (lv_at hl 0 rfl) ?_
          obtain ⟨z72, hz72, ho54⟩ := bind_some ho54
          refine q_vl (As := [.int x4_54]) (rest := [.int x4_54, .ref rm]) ⟨hx, hb, hml, hown, hts⟩ (k_X0_at l D g m_o2 e_o2 m_ro2 e_ro2 hz72) (cwV 1 hts gX2_begin_X0_at rfl rfl rfl (by decide +kernel) ⟨Nat.le_of_ble_eq_true rfl, Nat.le_of_ble_eq_true rfl⟩) S m_o2 e_o2 (T := TX0) (N := 2) rfl rfl hl.1 rfl (Nat.le_of_ble_eq_true rfl) dX2_begin_72 ⟨Nat.le_of_ble_eq_true rfl, Nat.le_of_ble_eq_true rfl⟩ (fun r11 L9 f10 H locs S w72 => ?_)
          obtain ⟨ex72, eL, ef⟩ := w72
          rw [eL, ef] at S
          replace ex72 := ex72.symm
          subst ex72
          refine lv_iload_n hx hb dX2_begin_75 rfl (lv_at hl 3 rfl) ?_
          obtain ⟨z76, hz76, ho54⟩ := bind_some ho54
          refine q_sl (As := [.long z72, .int sd]) (rest := [.int x4_54, .ref rm]) ⟨hx, hb, hml, hown, hts⟩ (k_X4_of l D g hz76) (va_cwS 2 hts gX2_begin_X4_of rfl rfl rfl (by decide +kernel) ⟨Nat.le_of_ble_eq_true rfl, Nat.le_of_ble_eq_true rfl⟩) S rfl hl.1 rfl (Nat.le_of_ble_eq_true rfl) dX2_begin_76 ⟨Nat.le_of_ble_eq_true rfl, Nat.le_of_ble_eq_true rfl⟩ (fun r14 L12 f13 H locs S w76 => ?_)
          obtain ⟨ex76, eL, ef⟩ := w76
          rw [eL, ef] at S
          replace ex76 := ex76.symm
          subst ex76
          obtain ⟨hi79, ho54⟩ := ckx ho54
          refine k_last hx hb S m_rm e_rm hi79 dX2_begin_79 (fun f15 ef15 H locs S => ?_)
          have e_rm := up_self ef15
          have fr : ∀ b, b ∈ L → b ≠ ch → b ≠ im → b ≠ rm → f15 b = f b := fun b mb nb0 nb1 nb2 => (up_ne ef15 nb2 rfl).trans (fr b mb nb0 nb1 nb2)
          refine lv_iinc (v := (x4_54 + 1)) (lv' := [(4, .int (x4_54 + 1)), (0, .ref ch), (2, .ref o2), (3, .int sd)]) hx hb dX2_begin_80 hl (k := 0) rfl rfl (by decide) rfl (fun ls hl => ?_)
          refine lv_goto (tgt := 54) hx hb dX2_begin_83 (by decide) ?_
          have e_ch := (up_ne ef15 n_ch_rm e_ch)
          have e_im := (up_ne ef15 n_im_rm e_im)
          have e_bo := (up_ne ef15 n_bo_rm e_bo)
          have e_bw := (up_ne ef15 n_bw_rm e_bw)
          have e_o := (up_ne ef15 n_o_rm e_o)
          have e_ro := (up_ne ef15 n_ro_rm e_ro)
          have e_o2 := (up_ne ef15 n_o2_rm e_o2)
          have e_ro2 := (up_ne ef15 n_ro2_rm e_ro2)
          exact ih54 (x4_54 + 1) (vp_updL crm_54 (Int32.toNatClampNeg x4_54) z76) f15 _ _ _ ho54 S e_ch e_im e_rm e_bo e_bw e_o e_ro e_o2 e_ro2 fr (lv_sub hl [0, 1, 2, 3] rfl)
    exact LP54 FU (0 : Int32) vrm f8 _ _ _ ho54 S e_ch e_im e_rm e_bo e_bw e_o e_ro e_o2 e_ro2 fr (lv_sub hl [0, 1, 2, 3] rfl)
  have LP11 : ∀ (fu : Nat) (x4_11 : Int32) (cim_11 : Nat → Int64) (fl11 : Nat → va_E) (H : Heap) (locs : List Loc) (ls : Array Slot), (mX2_begin_L11 no vo sd z2) fu x4_11 cim_11 = some o11 → PS D g (va_A (va_pl L f) szz) s.heap s L fl11 H locs → fl11 ch = .inr (2, [.ref im, .ref rm, .ref bo, .int z2, .int rc]) → fl11 im = .inl (g 1, 1000, .inr (.inl cim_11)) → fl11 rm = .inl (g 1, 1000, .inr (.inl vrm)) → fl11 bo = .inr (1, [.ref bw, .int z0]) → fl11 bw = .inl (g 1, 64, .inr (.inl vbw)) → fl11 o = .inr (0, [.ref ro, .int no]) → fl11 ro = .inl (g 1, 1000, .inr (.inl vo)) → fl11 o2 = .inr (0, [.ref ro2, .int no2]) → fl11 ro2 = .inl (g 1, 1000, .inr (.inl vo2)) → (∀ b, b ∈ L → b ≠ ch → b ≠ im → b ≠ rm → fl11 b = f b) → lv_has ls 5 [(4, .int x4_11), (0, .ref ch), (1, .ref o), (2, .ref o2), (3, .int sd)] → W p l e { frames := 1, cells := 0, slots := 0, locals := 24 } s m [.ref ch, .ref o, .ref o2, .int sd].toArray below meth c H locs 0 0 QQ (F0 m 11 ls []) := by
    intro fu
    induction fu with
    | zero => intro x4_11 cim_11 fl11 H locs ls ho11 S e_ch e_im e_rm e_bo e_bw e_o e_ro e_o2 e_ro2 fr hl; exact no_some ho11
    | succ fu ih11 =>
      intro x4_11 cim_11 fl11 H locs ls ho11 S e_ch e_im e_rm e_bo e_bw e_o e_ro e_o2 e_ro2 fr hl
      rw [mX2_begin_L11] at ho11
      refine lv_iload hx hb dX2_begin_11 (lv_at hl 0 rfl) ?_
      refine lv_aload_n hx hb dX2_begin_13 rfl (lv_at hl 1 rfl) ?_
      refine q_get hx hb hts in_X2 hown S m_ch e_ch (C := RX2) (T := TX2) (N := 5) rfl 3 (by decide) rfl (hts (.fieldLink RX2 31 "SieveCabinet$Chooser" "inCount" "I") (gu_wsX2_begin_1 _ gm_0)) dX2_begin_14 ?_
      refine lv_icmp_ge (tgt := 43) hx hb dX2_begin_17 (by decide) (fun b17 => ?_) (fun b17 => ?_)
      · have ho11 := itT b17 ho11
        obtain rfl := Option.some.inj ho11
        exact EX11 fl11 _ _ _ S e_ch e_im e_rm e_bo e_bw e_o e_ro e_o2 e_ro2 fr (lv_sub hl [1, 3, 4] rfl)
      · have ho11 := itF b17 ho11
        refine lv_aload_n hx hb dX2_begin_20 rfl (lv_at hl 1 rfl) ?_
        refine q_get hx hb hts in_X2 hown S m_ch e_ch (C := RX2) (T := TX2) (N := 5) rfl 0 (by decide) rfl (hts (.fieldLink RX2 9 "SieveCabinet$Chooser" "inMixes" "[J") (gu_wsX2_begin_1 _ gm_1)) dX2_begin_21 ?_
        refine lv_iload hx hb dX2_begin_24 (lv_at hl 0 rfl) ?_
        refine lv_aload_n hx hb dX2_begin_26 rfl (lv_at hl 2 rfl) ?_
        refine lv_iload hx hb dX2_begin_27 (lv_at hl 0 rfl) ?_
        obtain ⟨z29, hz29, ho11⟩ := bind_some ho11
        refine q_vl (As := [.int x4_11]) (rest := [.int x4_11, .ref im]) ⟨hx, hb, hml, hown, hts⟩ (k_X0_at l D g m_o e_o m_ro e_ro hz29) (cwV 1 hts gX2_begin_X0_at rfl rfl rfl (by decide +kernel) ⟨Nat.le_of_ble_eq_true rfl, Nat.le_of_ble_eq_true rfl⟩) S m_o e_o (T := TX0) (N := 2) rfl rfl hl.1 rfl (Nat.le_of_ble_eq_true rfl) dX2_begin_29 ⟨Nat.le_of_ble_eq_true rfl, Nat.le_of_ble_eq_true rfl⟩ (fun r18 L16 f17 H locs S w29 => ?_)
        obtain ⟨ex29, eL, ef⟩ := w29
        rw [eL, ef] at S
        replace ex29 := ex29.symm
        subst ex29
        refine lv_iload_n hx hb dX2_begin_32 rfl (lv_at hl 4 rfl) ?_
        obtain ⟨z33, hz33, ho11⟩ := bind_some ho11
        refine q_sl (As := [.long z29, .int sd]) (rest := [.int x4_11, .ref im]) ⟨hx, hb, hml, hown, hts⟩ (k_X4_of l D g hz33) (va_cwS 2 hts gX2_begin_X4_of rfl rfl rfl (by decide +kernel) ⟨Nat.le_of_ble_eq_true rfl, Nat.le_of_ble_eq_true rfl⟩) S rfl hl.1 rfl (Nat.le_of_ble_eq_true rfl) dX2_begin_33 ⟨Nat.le_of_ble_eq_true rfl, Nat.le_of_ble_eq_true rfl⟩ (fun r21 L19 f20 H locs S w33 => ?_)
        obtain ⟨ex33, eL, ef⟩ := w33
        rw [eL, ef] at S
        replace ex33 := ex33.symm
        subst ex33
        obtain ⟨hi36, ho11⟩ := ckx ho11
        refine k_last hx hb S m_im e_im hi36 dX2_begin_36 (fun f22 ef22 H locs S => ?_)
        have e_im := up_self ef22
        have fr : ∀ b, b ∈ L → b ≠ ch → b ≠ im → b ≠ rm → f22 b = f b := fun b mb nb0 nb1 nb2 => (up_ne ef22 nb1 rfl).trans (fr b mb nb0 nb1 nb2)
        refine lv_iinc (v := (x4_11 + 1)) (lv' := [(4, .int (x4_11 + 1)), (0, .ref ch), (1, .ref o), (2, .ref o2), (3, .int sd)]) hx hb dX2_begin_37 hl (k := 0) rfl rfl (by decide) rfl (fun ls hl => ?_)
        refine lv_goto (tgt := 11) hx hb dX2_begin_40 (by decide) ?_
        have e_ch := (up_ne ef22 n_ch_im e_ch)
        have e_rm := (up_ne ef22 n_rm_im e_rm)
        have e_bo := (up_ne ef22 n_bo_im e_bo)
        have e_bw := (up_ne ef22 n_bw_im e_bw)
        have e_o := (up_ne ef22 n_o_im e_o)
        have e_ro := (up_ne ef22 n_ro_im e_ro)
        have e_o2 := (up_ne ef22 n_o2_im e_o2)
        have e_ro2 := (up_ne ef22 n_ro2_im e_ro2)
        exact ih11 (x4_11 + 1) (vp_updL cim_11 (Int32.toNatClampNeg x4_11) z33) f22 _ _ _ ho11 S e_ch e_im e_rm e_bo e_bw e_o e_ro e_o2 e_ro2 fr (lv_sub hl [0, 1, 2, 3, 4] rfl)
  exact LP11 FU (0 : Int32) vim f4 _ _ _ ho11 S e_ch e_im e_rm e_bo e_bw e_o e_ro e_o2 e_ro2 fr (lv_sub hl [0, 1, 2, 3, 4] rfl)
