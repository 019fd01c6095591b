def mX7_places (th3 : Int32) : Option (Int32) := some ((3 : Int32) * th3)
set_option maxRecDepth 20000 in
theorem gu_wsX7_places_2 : ∀ w ∈ wsX70, w ∈ wsX7_places := fun _ h => List.mem_cons_of_mem _ (List.mem_append_right _ h)
set_option maxRecDepth 20000 in
theorem gu_wsX7_places_1 : ∀ w ∈ ([Cond.fieldLink RX7 37 "SieveCabinet$Solver" "third" "I"] : List Cond), w ∈ wsX7_places := fun _ h => List.mem_cons_of_mem _ (List.mem_append_left _ h)
set_option maxHeartbeats 4000000 in
set_option maxRecDepth 100000 in
theorem k_X7_places (l : Launch) (D : va_G) (g : Nat → ClassId) {L : List Nat} {f : Nat → va_E} {bl lf pa si so ta tp tt : Nat} {cn : Int32} {th3 : Int32} {z : Int32} (m_so : so ∈ L) (e_so : f so = .inr (5, [.ref pa, .ref ta, .ref lf, .ref bl, .ref si, .ref tt, .ref tp, .int cn, .int th3]))    (hM : mX7_places th3 = some z) : cI l yX7_places wsX7_places { frames := 0, cells := 0, slots := 0, locals := 0 } D g [.ref so] L f 0 0 (fun x L1 f1 => x = z ∧ L1 = L ∧ f1 = f) := by
  refine cI_of (cc := cX7_places) (maxL := 1) (ret := (some .int)) (by decide) rfl (Nat.le_of_ble_eq_true rfl) ?_
  intro szz p e s m below meth c hx hb hr hml hts hown hlk hnm S ls hl
  have hl : lv_has ls 1 [(0, .ref so)] := hl
  have in_X7 : ∀ w ∈ wsX70, w ∈ wsX7_places := gu_wsX7_places_2
  unfold mX7_places at hM
  refine W_gen (fun QQ hQQ => ?_)
  refine lv_iconst (v := (3 : Int32)) hx hb dX7_places_0 (by decide) ?_
  refine lv_aload_n hx hb dX7_places_1 rfl (lv_at hl 0 rfl) ?_
  refine q_get hx hb hts in_X7 hown S m_so e_so (C := RX7) (T := TX7) (N := 9) rfl 8 (by decide) rfl (hts (.fieldLink RX7 37 "SieveCabinet$Solver" "third" "I") (gu_wsX7_places_1 _ gm_0)) dX7_places_2 ?_
  refine lv_imul hx hb dX7_places_5 ?_
  subst hQQ
  exact q_reti (post := fun x L1 f1 => x = z ∧ L1 = L ∧ f1 = f) hx hb hr hlk S dX7_places_6 (by decide) (by decide) (by have hz := Option.some.inj hM; subst hz; exact ⟨rfl, rfl, rfl⟩)

def mX7_noteIfSingle (vlf : Nat → Int32) (z0 : Int32) (vsw : Nat → Int64) (pl : Int32) : Option ((Nat → Int64)) := if ix pl 3774 = true then (if (vlf (Int32.toNatClampNeg pl)) = (1 : Int32) then ((mX1_set z0 vsw pl).bind fun z15 => some z15) else ((mX1_clear z0 vsw pl).bind fun z26 => some z26)) else none
set_option maxRecDepth 20000 in
theorem gu_wsX7_noteIfSingle_2 : ∀ w ∈ wsX70, w ∈ wsX7_noteIfSingle := fun _ h => List.mem_cons_of_mem _ (List.mem_append_left _ (List.mem_append_right _ h))
set_option maxHeartbeats 4000000 in
set_option maxRecDepth 100000 in
theorem k_X7_noteIfSingle (l : Launch) (D : va_G) (g : Nat → ClassId) {L : List Nat} {f : Nat → va_E} {bl lf pa si so sw ta tp tt : Nat} {cn : Int32} {th3 : Int32} {vlf : Nat → Int32} {z0 : Int32} {vsw : Nat → Int64} {pl : Int32} {z : (Nat → Int64)} (m_so : so ∈ L) (e_so : f so = .inr (5, [.ref pa, .ref ta, .ref lf, .ref bl, .ref si, .ref tt, .ref tp, .int cn, .int th3])) (m_lf : lf ∈ L) (e_lf : f lf = .inl (g 0, 3774, .inl vlf)) (m_si : si ∈ L) (e_si : f si = .inr (1, [.ref sw, .int z0])) (m_sw : sw ∈ L) (e_sw : f sw = .inl (g 1, 64, .inr (.inl vsw)))    (hM : mX7_noteIfSingle vlf z0 vsw pl = some z) : cV l yX7_noteIfSingle wsX7_noteIfSingle { frames := 1, cells := 0, slots := 0, locals := 21 } D g [.ref so, .int pl] L f 0 0 (fun L1 f1 => L1 = L ∧ (∀ b, b ∈ L → b ≠ sw → f1 b = f b) ∧ f1 sw = .inl (g 1, 64, .inr (.inl z))) := by
  refine cV_of (cc := cX7_noteIfSingle) (maxL := 2) (ret := none) (by decide) rfl (Nat.le_of_ble_eq_true rfl) ?_
  intro szz p e s m below meth c hx hb hr hml hts hown hlk hnm S ls hl
  have hl : lv_has ls 2 [(0, .ref so), (1, .int pl)] := hl
  have in_X7 : ∀ w ∈ wsX70, w ∈ wsX7_noteIfSingle := gu_wsX7_noteIfSingle_2
  have fr : ∀ b, b ∈ L → b ≠ sw → f b = f b := fun _ _ _ => rfl
  unfold mX7_noteIfSingle at hM
  refine W_gen (fun QQ hQQ => ?_)
  refine lv_aload_n hx hb dX7_noteIfSingle_0 rfl (lv_at hl 0 rfl) ?_
  refine q_get hx hb hts in_X7 hown S m_so e_so (C := RX7) (T := TX7) (N := 9) rfl 2 (by decide) rfl (hts (.fieldLink RX7 18 "SieveCabinet$Solver" "left" "[I") (gu_wsX7_noteIfSingle_1 _ gm_0)) dX7_noteIfSingle_1 ?_
  refine lv_iload_n hx hb dX7_noteIfSingle_4 rfl (lv_at hl 1 rfl) ?_
  obtain ⟨hi5, hM⟩ := ckx hM
  refine q_iald hx hb S m_lf e_lf hi5 dX7_noteIfSingle_5 ?_
  refine lv_iconst (v := (1 : Int32)) hx hb dX7_noteIfSingle_6 (by decide) ?_
  refine lv_icmp_ne (tgt := 21) hx hb dX7_noteIfSingle_7 (by decide) (fun b7 => ?_) (fun b7 => ?_)
  · have hM := itF b7 hM
    refine lv_aload_n hx hb dX7_noteIfSingle_21 rfl (lv_at hl 0 rfl) ?_
    refine q_get hx hb hts in_X7 hown S m_so e_so (C := RX7) (T := TX7) (N := 9) rfl 4 (by decide) rfl (hts (.fieldLink RX7 27 "SieveCabinet$Solver" "singles" "LSieveCabinet$BitRow;") (gu_wsX7_noteIfSingle_1 _ gm_1)) dX7_noteIfSingle_22 ?_
    refine lv_iload_n hx hb dX7_noteIfSingle_25 rfl (lv_at hl 1 rfl) ?_
    obtain ⟨z26, hz26, hM⟩ := bind_some hM
    refine q_vv (As := [.int pl]) (rest := []) ⟨hx, hb, hml, hown, hts⟩ (k_X1_clear l D g m_si e_si m_sw e_sw hz26) (cwV 1 hts gX7_noteIfSingle_X1_clear rfl rfl rfl (by decide +kernel) ⟨Nat.le_of_ble_eq_true rfl, Nat.le_of_ble_eq_true rfl⟩) S m_si e_si (T := TX1) (N := 2) rfl rfl hl.1 rfl (Nat.le_of_ble_eq_true rfl) dX7_noteIfSingle_26 ⟨Nat.le_of_ble_eq_true rfl, Nat.le_of_ble_eq_true rfl⟩ (fun L1 f2 H locs S w26 => ?_)
    obtain ⟨eL, fv26, E_sw⟩ := w26
    rw [eL] at S
    have fr : ∀ b, b ∈ L → b ≠ sw → f2 b = f b := fun b mb nb0 => (fv26 b mb nb0).trans (fr b mb nb0)
    have e_sw : f2 sw = .inl (g 1, 64, .inr (.inl z26)) := E_sw
    subst hQQ
    exact q_retv (post := fun L1 f1 => L1 = L ∧ (∀ b, b ∈ L → b ≠ sw → f1 b = f b) ∧ f1 sw = .inl (g 1, 64, .inr (.inl z))) hx hb hr hlk S dX7_noteIfSingle_29 (by decide) (by decide) (by have hz := Option.some.inj hM; subst hz; exact ⟨rfl, fr, e_sw⟩)
  · have hM := itT b7 hM
    refine lv_aload_n hx hb dX7_noteIfSingle_10 rfl (lv_at hl 0 rfl) ?_
    refine q_get hx hb hts in_X7 hown S m_so e_so (C := RX7) (T := TX7) (N := 9) rfl 4 (by decide) rfl (hts (.fieldLink RX7 27 "SieveCabinet$Solver" "singles" "LSieveCabinet$BitRow;") (gu_wsX7_noteIfSingle_1 _ gm_1)) dX7_noteIfSingle_11 ?_
    refine lv_iload_n hx hb dX7_noteIfSingle_14 rfl (lv_at hl 1 rfl) ?_
    obtain ⟨z15, hz15, hM⟩ := bind_some hM
    refine q_vv (As := [.int pl]) (rest := []) ⟨hx, hb, hml, hown, hts⟩ (k_X1_set l D g m_si e_si m_sw e_sw hz15) (cwV 1 hts gX7_noteIfSingle_X1_set rfl rfl rfl (by decide +kernel) ⟨Nat.le_of_ble_eq_true rfl, Nat.le_of_ble_eq_true rfl⟩) S m_si e_si (T := TX1) (N := 2) rfl rfl hl.1 rfl (Nat.le_of_ble_eq_true rfl) dX7_noteIfSingle_15 ⟨Nat.le_of_ble_eq_true rfl, Nat.le_of_ble_eq_true rfl⟩ (fun L4 f5 H locs S w15 => ?_)
    obtain ⟨eL, fv15, E_sw⟩ := w15
    rw [eL] at S
    have fr : ∀ b, b ∈ L → b ≠ sw → f5 b = f b := fun b mb nb0 => (fv15 b mb nb0).trans (fr b mb nb0)
    have e_sw : f5 sw = .inl (g 1, 64, .inr (.inl z15)) := E_sw
    refine lv_goto (tgt := 29) hx hb dX7_noteIfSingle_18 (by decide) ?_
    subst hQQ
    exact q_retv (post := fun L1 f1 => L1 = L ∧ (∀ b, b ∈ L → b ≠ sw → f1 b = f b) ∧ f1 sw = .inl (g 1, 64, .inr (.inl z))) hx hb hr hlk S dX7_noteIfSingle_29 (by decide) (by decide) (by have hz := Option.some.inj hM; subst hz; exact ⟨rfl, fr, e_sw⟩)

def mX7_takeOff_L2 (vpa : Nat → Int32) (z0 : Int32) (tg : Int32) : Nat → Int32 → (Nat → Int32) → (Nat → Int32) → (Nat → Int64) → Option (Int32 × (Nat → Int32) × (Nat → Int32) × (Nat → Int64))
  | 0, _, _, _, _ => none
  | fu + 1, x2_2, clf_2, cbl_2, csw_2 => if (3 : Int32) ≤ x2_2 then (some (x2_2, clf_2, cbl_2, csw_2)) else (if ix (((3 : Int32) * tg) + x2_2) 3000 = true then (lt_ (vpa (Int32.toNatClampNeg (((3 : Int32) * tg) + x2_2))) fun y17 => if ix y17 3774 = true then (if ix y17 3774 = true then (if ix y17 3774 = true then (if ix y17 3774 = true then ((mX7_noteIfSingle (upd clf_2 (Int32.toNatClampNeg y17) ((clf_2 (Int32.toNatClampNeg y17)) - (1 : Int32))) z0 csw_2 y17).bind fun z40 => mX7_takeOff_L2 vpa z0 tg fu (x2_2 + 1) (upd clf_2 (Int32.toNatClampNeg y17) ((clf_2 (Int32.toNatClampNeg y17)) - (1 : Int32))) (upd cbl_2 (Int32.toNatClampNeg y17) ((cbl_2 (Int32.toNatClampNeg y17)) ^^^ tg)) z40) else none) else none) else none) else none) else none)
def mX7_takeOff (vpa : Nat → Int32) (vlf : Nat → Int32) (vbl : Nat → Int32) (z0 : Int32) (vsw : Nat → Int64) (tg : Int32) : Option ((Nat → Int32) × (Nat → Int32) × (Nat → Int64)) := (mX7_takeOff_L2 vpa z0 tg FU (0 : Int32) vlf vbl vsw).bind fun o2 => some (o2.2.1, o2.2.2.1, o2.2.2.2)
set_option maxHeartbeats 4000000 in
set_option maxRecDepth 100000 in
theorem k_X7_takeOff (l : Launch) (D : va_G) (g : Nat → ClassId) {L : List Nat} {f : Nat → va_E} {bl lf pa si so sw ta tp tt : Nat} {cn : Int32} {th3 : Int32} {vpa : Nat → Int32} {vta : Nat → Int32} {vlf : Nat → Int32} {vbl : Nat → Int32} {z0 : Int32} {vsw : Nat → Int64} {vtt : Nat → Int32} {vtp : Nat → Int32} {tg : Int32} {z : (Nat → Int32) × (Nat → Int32) × (Nat → Int64)} (m_so : so ∈ L) (e_so : f so = .inr (5, [.ref pa, .ref ta, .ref lf, .ref bl, .ref si, .ref tt, .ref tp, .int cn, .int th3])) (m_pa : pa ∈ L) (e_pa : f pa = .inl (g 0, 3000, .inl vpa)) (m_ta : ta ∈ L) (e_ta : f ta = .inl (g 0, 1000, .inl vta)) (m_lf : lf ∈ L) (e_lf : f lf = .inl (g 0, 3774, .inl vlf)) (m_bl : bl ∈ L) (e_bl : f bl = .inl (g 0, 3774, .inl vbl)) (m_si : si ∈ L) (e_si : f si = .inr (1, [.ref sw, .int z0])) (m_sw : sw ∈ L) (e_sw : f sw = .inl (g 1, 64, .inr (.inl vsw))) (m_tt : tt ∈ L) (e_tt : f tt = .inl (g 0, 1000, .inl vtt)) (m_tp : tp ∈ L) (e_tp : f tp = .inl (g 0, 1000, .inl vtp)) (n_bl_lf : bl ≠ lf)   (hM : mX7_takeOff vpa vlf vbl z0 vsw tg = some z) : cV l yX7_takeOff wsX7_takeOff { frames := 2, cells := 0, slots := 0, locals := 42 } D g [.ref so, .int tg] L f 0 0 (fun L1 f1 => L1 = L ∧ (∀ b, b ∈ L → b ≠ lf → b ≠ bl → b ≠ sw → f1 b = f b) ∧ f1 lf = .inl (g 0, 3774, .inl z.1) ∧ f1 bl = .inl (g 0, 3774, .inl z.2.1) ∧ f1 sw = .inl (g 1, 64, .inr (.inl z.2.2))) := by
  refine cV_of (cc := cX7_takeOff) (maxL := 4) (ret := none) (by decide) rfl (Nat.le_of_ble_eq_true rfl) ?_
  intro szz p e s m below meth c hx hb hr hml hts hown hlk hnm S ls hl
  have hl : lv_has ls 4 [(0, .ref so), (1, .int tg)] := hl
  have in_X7 : ∀ w ∈ wsX70, w ∈ wsX7_takeOff := gu_wsX7_takeOff_2
  have n_so_lf : so ≠ lf := ne_ir e_lf e_so
  have n_so_bl : so ≠ bl := ne_ir e_bl e_so
  have n_lf_bl := Ne.symm n_bl_lf
  have n_si_lf : si ≠ lf := ne_ir e_lf e_si
  have n_si_bl : si ≠ bl := ne_ir e_bl e_si
  have n_sw_lf : sw ≠ lf := ne_len e_lf e_sw (by decide)
  have n_sw_bl : sw ≠ bl := ne_len e_bl e_sw (by decide)
  have n_so_sw : so ≠ sw := ne_ir e_sw e_so
  have n_pa_lf : pa ≠ lf := ne_len e_lf e_pa (by decide)
  have n_pa_bl : pa ≠ bl := ne_len e_bl e_pa (by decide)
  have n_pa_sw : pa ≠ sw := ne_len e_sw e_pa (by decide)
  have n_ta_lf : ta ≠ lf := ne_len e_lf e_ta (by decide)
  have n_ta_bl : ta ≠ bl := ne_len e_bl e_ta (by decide)
  have n_ta_sw : ta ≠ sw := ne_len e_sw e_ta (by decide)
  have n_lf_sw : lf ≠ sw := ne_len e_sw e_lf (by decide)
  have n_bl_sw : bl ≠ sw := ne_len e_sw e_bl (by decide)
  have n_si_sw : si ≠ sw := ne_ir e_sw e_si
  have n_tt_lf : tt ≠ lf := ne_len e_lf e_tt (by decide)
  have n_tt_bl : tt ≠ bl := ne_len e_bl e_tt (by decide)
  have n_tt_sw : tt ≠ sw := ne_len e_sw e_tt (by decide)
  have n_tp_lf : tp ≠ lf := ne_len e_lf e_tp (by decide)
  have n_tp_bl : tp ≠ bl := ne_len e_bl e_tp (by decide)
  have n_tp_sw : tp ≠ sw := ne_len e_sw e_tp (by decide)
  have fr : ∀ b, b ∈ L → b ≠ lf → b ≠ bl → b ≠ sw → f b = f b := fun _ _ _ _ _ => rfl
  unfold mX7_takeOff at hM
  refine W_gen (fun QQ hQQ => ?_)
  refine lv_iconst (v := (0 : Int32)) hx hb dX7_takeOff_0 (by decide) ?_
  refine lv_istore_n (lv' := [(2, .int (0 : Int32)), (0, .ref so), (1, .int tg)]) hx hb dX7_takeOff_1 rfl hl (by decide) rfl (fun ls hl => ?_)
  obtain ⟨o2, ho2, hM⟩ := bind_some hM
  have EX2 : ∀ (fl2 : Nat → va_E) (H : Heap) (locs : List Loc) (ls : Array Slot), PS D g (va_A (va_pl L f) szz) s.heap s L fl2 H locs → fl2 so = .inr (5, [.ref pa, .ref ta, .ref lf, .ref bl, .ref si, .ref tt, .ref tp, .int cn, .int th3]) → fl2 pa = .inl (g 0, 3000, .inl vpa) → fl2 ta = .inl (g 0, 1000, .inl vta) → fl2 lf = .inl (g 0, 3774, .inl o2.2.1) → fl2 bl = .inl (g 0, 3774, .inl o2.2.2.1) → fl2 si = .inr (1, [.ref sw, .int z0]) → fl2 sw = .inl (g 1, 64, .inr (.inl o2.2.2.2)) → fl2 tt = .inl (g 0, 1000, .inl vtt) → fl2 tp = .inl (g 0, 1000, .inl vtp) → (∀ b, b ∈ L → b ≠ lf → b ≠ bl → b ≠ sw → fl2 b = f b) → lv_has ls 4 [] → W p l e { frames := 2, cells := 0, slots := 0, locals := 42 } s m [.ref so, .int tg].toArray below meth c H locs 0 0 QQ (F0 m 49 ls []) := by
    intro fl2 H locs ls S e_so e_pa e_ta e_lf e_bl e_si e_sw e_tt e_tp fr hl
    subst hQQ
    exact q_retv (post := fun L1 f1 => L1 = L ∧ (∀ b, b ∈ L → b ≠ lf → b ≠ bl → b ≠ sw → f1 b = f b) ∧ f1 lf = .inl (g 0, 3774, .inl z.1) ∧ f1 bl = .inl (g 0, 3774, .inl z.2.1) ∧ f1 sw = .inl (g 1, 64, .inr (.inl z.2.2))) hx hb hr hlk S dX7_takeOff_49 (by decide) (by decide) (by have hz := Option.some.inj hM; subst hz; exact ⟨rfl, fr, e_lf, e_bl, e_sw⟩)
  have LP2 : ∀ (fu : Nat) (x2_2 : Int32) (clf_2 : Nat → Int32) (cbl_2 : Nat → Int32) (csw_2 : Nat → Int64) (fl2 : Nat → va_E) (H : Heap) (locs : List Loc) (ls : Array Slot), (mX7_takeOff_L2 vpa z0 tg) fu x2_2 clf_2 cbl_2 csw_2 = some o2 → PS D g (va_A (va_pl L f) szz) s.heap s L fl2 H locs → fl2 so = .inr (5, [.ref pa, .ref ta, .ref lf, .ref bl, .ref si, .ref tt, .ref tp, .int cn, .int th3]) → fl2 pa = .inl (g 0, 3000, .inl vpa) → fl2 ta = .inl (g 0, 1000, .inl vta) → fl2 lf = .inl (g 0, 3774, .inl clf_2) → fl2 bl = .inl (g 0, 3774, .inl cbl_2) → fl2 si = .inr (1, [.ref sw, .int z0]) → fl2 sw = .inl (g 1, 64, .inr (.inl csw_2)) → fl2 tt = .inl (g 0, 1000, .inl vtt) → fl2 tp = .inl (g 0, 1000, .inl vtp) → (∀ b, b ∈ L → b ≠ lf → b ≠ bl → b ≠ sw → fl2 b = f b) → lv_has ls 4 [(2, .int x2_2), (0, .ref so), (1, .int tg)] → W p l e { frames := 2, cells := 0, slots := 0, locals := 42 } s m [.ref so, .int tg].toArray below meth c H locs 0 0 QQ (F0 m 2 ls []) := by
    intro fu
    induction fu with
    | zero => intro x2_2 clf_2 cbl_2 csw_2 fl2 H locs ls ho2 S e_so e_pa e_ta e_lf e_bl e_si e_sw e_tt e_tp fr hl; exact no_some ho2
    | succ fu ih2 =>
      intro x2_2 clf_2 cbl_2 csw_2 fl2 H locs ls ho2 S e_so e_pa e_ta e_lf e_bl e_si e_sw e_tt e_tp fr hl
      rw [mX7_takeOff_L2] at ho2
      refine lv_iload_n hx hb dX7_takeOff_2 rfl (lv_at hl 0 rfl) ?_
      refine lv_iconst (v := (3 : Int32)) hx hb dX7_takeOff_3 (by decide) ?_
      refine lv_icmp_ge (tgt := 49) hx hb dX7_takeOff_4 (by decide) (fun b4 => ?_) (fun b4 => ?_)
      · have ho2 := itT b4 ho2
        obtain rfl := Option.some.inj ho2
        exact EX2 fl2 _ _ _ S e_so e_pa e_ta e_lf e_bl e_si e_sw e_tt e_tp fr (lv_sub hl [] rfl)
      · have ho2 := itF b4 ho2
        refine lv_aload_n hx hb dX7_takeOff_7 rfl (lv_at hl 1 rfl) ?_
        refine q_get hx hb hts in_X7 hown S m_so e_so (C := RX7) (T := TX7) (N := 9) rfl 0 (by decide) rfl (hts (.fieldLink RX7 9 "SieveCabinet$Solver" "placeOf" "[I") (gu_wsX7_takeOff_1 _ gm_0)) dX7_takeOff_8 ?_
        refine lv_iconst (v := (3 : Int32)) hx hb dX7_takeOff_11 (by decide) ?_
        refine lv_iload_n hx hb dX7_takeOff_12 rfl (lv_at hl 2 rfl) ?_
        refine lv_imul hx hb dX7_takeOff_13 ?_
        refine lv_iload_n hx hb dX7_takeOff_14 rfl (lv_at hl 0 rfl) ?_
        refine lv_iadd hx hb dX7_takeOff_15 ?_
        obtain ⟨hi16, ho2⟩ := ckx ho2
        refine q_iald hx hb S m_pa e_pa hi16 dX7_takeOff_16 ?_
        refine lv_topi (fun y17 ey17 => ?_)
        have ho2 := lt_some ho2 ey17
        refine lv_istore_n (lv' := [(3, .int y17), (2, .int x2_2), (0, .ref so), (1, .int tg)]) hx hb dX7_takeOff_17 rfl hl (by decide) rfl (fun ls hl => ?_)
        refine lv_aload_n hx hb dX7_takeOff_18 rfl (lv_at hl 2 rfl) ?_
        refine q_get hx hb hts in_X7 hown S m_so e_so (C := RX7) (T := TX7) (N := 9) rfl 2 (by decide) rfl (hts (.fieldLink RX7 18 "SieveCabinet$Solver" "left" "[I") (gu_wsX7_takeOff_1 _ gm_1)) dX7_takeOff_19 ?_
        refine lv_iload_n hx hb dX7_takeOff_22 rfl (lv_at hl 0 rfl) ?_
        refine lv_dup2_11 hx hb dX7_takeOff_23 rfl rfl ?_
        obtain ⟨hi24, ho2⟩ := ckx ho2
        refine q_iald hx hb S m_lf e_lf hi24 dX7_takeOff_24 ?_
        refine lv_iconst (v := (1 : Int32)) hx hb dX7_takeOff_25 (by decide) ?_
        refine lv_isub hx hb dX7_takeOff_26 ?_
        obtain ⟨hi27, ho2⟩ := ckx ho2
        refine k_iast hx hb S m_lf e_lf hi27 dX7_takeOff_27 (fun f1 ef1 H locs S => ?_)
        have e_lf := up_self ef1
        have fr : ∀ b, b ∈ L → b ≠ lf → b ≠ bl → b ≠ sw → f1 b = f b := fun b mb nb0 nb1 nb2 => (up_ne ef1 nb0 rfl).trans (fr b mb nb0 nb1 nb2)
        refine lv_aload_n hx hb dX7_takeOff_28 rfl (lv_at hl 2 rfl) ?_
        have e_so := (up_ne ef1 n_so_lf e_so)
        refine q_get hx hb hts in_X7 hown S m_so e_so (C := RX7) (T := TX7) (N := 9) rfl 3 (by decide) rfl (hts (.fieldLink RX7 21 "SieveCabinet$Solver" "blend" "[I") (gu_wsX7_takeOff_1 _ gm_2)) dX7_takeOff_29 ?_
        refine lv_iload_n hx hb dX7_takeOff_32 rfl (lv_at hl 0 rfl) ?_
        refine lv_dup2_11 hx hb dX7_takeOff_33 rfl rfl ?_
        obtain ⟨hi34, ho2⟩ := ckx ho2
        have e_bl := (up_ne ef1 n_bl_lf e_bl)
        refine q_iald hx hb S m_bl e_bl hi34 dX7_takeOff_34 ?_
        refine lv_iload_n hx hb dX7_takeOff_35 rfl (lv_at hl 3 rfl) ?_
        refine lv_ixor hx hb dX7_takeOff_36 ?_
        obtain ⟨hi37, ho2⟩ := ckx ho2
        refine k_iast hx hb S m_bl e_bl hi37 dX7_takeOff_37 (fun f2 ef2 H locs S => ?_)
        have e_bl := up_self ef2
        have fr : ∀ b, b ∈ L → b ≠ lf → b ≠ bl → b ≠ sw → f2 b = f b := fun b mb nb0 nb1 nb2 => (up_ne ef2 nb1 rfl).trans (fr b mb nb0 nb1 nb2)
        refine lv_aload_n hx hb dX7_takeOff_38 rfl (lv_at hl 2 rfl) ?_
        refine lv_iload_n hx hb dX7_takeOff_39 rfl (lv_at hl 0 rfl) ?_
        obtain ⟨z40, hz40, ho2⟩ := bind_some ho2
        have e_so := (up_ne ef2 n_so_bl e_so)
        have e_lf := (up_ne ef2 n_lf_bl e_lf)
        have e_si := (up_ne ef2 n_si_bl (up_ne ef1 n_si_lf e_si))
        have e_sw := (up_ne ef2 n_sw_bl (up_ne ef1 n_sw_lf e_sw))
        refine q_vv (As := [.int y17]) (rest := []) ⟨hx, hb, hml, hown, hts⟩ (k_X7_noteIfSingle l D g m_so e_so m_lf e_lf m_si e_si m_sw e_sw hz40) (cwV 1 hts gX7_takeOff_X7_noteIfSingle rfl rfl rfl (by decide +kernel) ⟨Nat.le_of_ble_eq_true rfl, Nat.le_of_ble_eq_true rfl⟩) S m_so e_so (T := TX7) (N := 9) rfl rfl hl.1 rfl (Nat.le_of_ble_eq_true rfl) dX7_takeOff_40 ⟨Nat.le_of_ble_eq_true rfl, Nat.le_of_ble_eq_true rfl⟩ (fun L3 f4 H locs S w40 => ?_)
        obtain ⟨eL, fv40, E_sw⟩ := w40
        rw [eL] at S
        have fr : ∀ b, b ∈ L → b ≠ lf → b ≠ bl → b ≠ sw → f4 b = f b := fun b mb nb0 nb1 nb2 => (fv40 b mb nb2).trans (fr b mb nb0 nb1 nb2)
        have e_sw : f4 sw = .inl (g 1, 64, .inr (.inl z40)) := E_sw
        refine lv_iinc (v := (x2_2 + 1)) (lv' := [(2, .int (x2_2 + 1)), (3, .int y17), (0, .ref so), (1, .int tg)]) hx hb dX7_takeOff_43 hl (k := 1) rfl rfl (by decide) rfl (fun ls hl => ?_)
        refine lv_goto (tgt := 2) hx hb dX7_takeOff_46 (by decide) ?_
        have e_so := ((fv40 so m_so n_so_sw).trans e_so)
        have e_pa := ((fv40 pa m_pa n_pa_sw).trans (up_ne ef2 n_pa_bl (up_ne ef1 n_pa_lf e_pa)))
        have e_ta := ((fv40 ta m_ta n_ta_sw).trans (up_ne ef2 n_ta_bl (up_ne ef1 n_ta_lf e_ta)))
        have e_lf := ((fv40 lf m_lf n_lf_sw).trans e_lf)
        have e_bl := ((fv40 bl m_bl n_bl_sw).trans e_bl)
        have e_si := ((fv40 si m_si n_si_sw).trans e_si)
        have e_tt := ((fv40 tt m_tt n_tt_sw).trans (up_ne ef2 n_tt_bl (up_ne ef1 n_tt_lf e_tt)))
        have e_tp := ((fv40 tp m_tp n_tp_sw).trans (up_ne ef2 n_tp_bl (up_ne ef1 n_tp_lf e_tp)))
        exact ih2 (x2_2 + 1) (upd clf_2 (Int32.toNatClampNeg y17) ((clf_2 (Int32.toNatClampNeg y17)) - (1 : Int32))) (upd cbl_2 (Int32.toNatClampNeg y17) ((cbl_2 (Int32.toNatClampNeg y17)) ^^^ tg)) z40 f4 _ _ _ ho2 S e_so e_pa e_ta e_lf e_bl e_si e_sw e_tt e_tp fr (lv_sub hl [0, 2, 3] rfl)
  exact LP2 FU (0 : Int32) vlf vbl vsw f _ _ _ ho2 S e_so e_pa e_ta e_lf e_bl e_si e_sw e_tt e_tp fr (lv_sub hl [0, 1, 2] rfl)

def mX7_takeAllOff_L2 (cn : Int32) (vpa : Nat → Int32) (z0 : Int32) : Nat → Int32 → (Nat → Int32) → (Nat → Int32) → (Nat → Int64) → (Nat → Int32) → (Nat → Int32) → Option ((Int32 × (Nat → Int32) × (Nat → Int32) × (Nat → Int64) × (Nat → Int32) × (Nat → Int32)) ⊕ (Int32 × (Nat → Int32) × (Nat → Int32) × (Nat → Int64) × (Nat → Int32) × (Nat → Int32)))
  | 0, _, _, _, _, _, _ => none
  | fu + 1, x1_2, clf_2, cbl_2, csw_2, ctt_2, ctp_2 => if cn ≤ x1_2 then (some (.inr (x1_2, clf_2, cbl_2, csw_2, ctt_2, ctp_2))) else ((mX1_least csw_2).bind fun z14 => if 0 ≤ z14 then (if ix z14 3774 = true then (if ix x1_2 1000 = true then (if ix x1_2 1000 = true then (if ix z14 3774 = true then ((mX7_takeOff vpa clf_2 cbl_2 z0 csw_2 (cbl_2 (Int32.toNatClampNeg z14))).bind fun z50 => mX7_takeAllOff_L2 cn vpa z0 fu (x1_2 + 1) z50.1 z50.2.1 z50.2.2 (upd ctt_2 (Int32.toNatClampNeg x1_2) (cbl_2 (Int32.toNatClampNeg z14))) (upd ctp_2 (Int32.toNatClampNeg x1_2) z14)) else none) else none) else none) else none) else (some (.inl ((0 : Int32), clf_2, cbl_2, csw_2, ctt_2, ctp_2))))
def mX7_takeAllOff (cn : Int32) (vpa : Nat → Int32) (vlf : Nat → Int32) (vbl : Nat → Int32) (z0 : Int32) (vsw : Nat → Int64) (vtt : Nat → Int32) (vtp : Nat → Int32) : Option (Int32 × (Nat → Int32) × (Nat → Int32) × (Nat → Int64) × (Nat → Int32) × (Nat → Int32)) := (mX7_takeAllOff_L2 cn vpa z0 FU (0 : Int32) vlf vbl vsw vtt vtp).bind fun o2 => Sum.elim (fun r_ => some r_) (fun s2 => some ((1 : Int32), s2.2.1, s2.2.2.1, s2.2.2.2.1, s2.2.2.2.2.1, s2.2.2.2.2.2)) o2
set_option maxHeartbeats 4000000 in
set_option maxRecDepth 100000 in
theorem k_X7_takeAllOff (l : Launch) (D : va_G) (g : Nat → ClassId) {L : List Nat} {f : Nat → va_E} {bl lf pa si so sw ta tp tt : Nat} {cn : Int32} {th3 : Int32} {vpa : Nat → Int32} {vta : Nat → Int32} {vlf : Nat → Int32} {vbl : Nat → Int32} {z0 : Int32} {vsw : Nat → Int64} {vtt : Nat → Int32} {vtp : Nat → Int32} {z : Int32 × (Nat → Int32) × (Nat → Int32) × (Nat → Int64) × (Nat → Int32) × (Nat → Int32)} (m_so : so ∈ L) (e_so : f so = .inr (5, [.ref pa, .ref ta, .ref lf, .ref bl, .ref si, .ref tt, .ref tp, .int cn, .int th3])) (m_pa : pa ∈ L) (e_pa : f pa = .inl (g 0, 3000, .inl vpa)) (m_ta : ta ∈ L) (e_ta : f ta = .inl (g 0, 1000, .inl vta)) (m_lf : lf ∈ L) (e_lf : f lf = .inl (g 0, 3774, .inl vlf)) (m_bl : bl ∈ L) (e_bl : f bl = .inl (g 0, 3774, .inl vbl)) (m_si : si ∈ L) (e_si : f si = .inr (1, [.ref sw, .int z0])) (m_sw : sw ∈ L) (e_sw : f sw = .inl (g 1, 64, .inr (.inl vsw))) (m_tt : tt ∈ L) (e_tt : f tt = .inl (g 0, 1000, .inl vtt)) (m_tp : tp ∈ L) (e_tp : f tp = .inl (g 0, 1000, .inl vtp)) (n_tp_tt : tp ≠ tt) (n_ta_tt : ta ≠ tt) (n_ta_tp : ta ≠ tp) (n_bl_lf : bl ≠ lf)   (hM : mX7_takeAllOff cn vpa vlf vbl z0 vsw vtt vtp = some z) : cI l yX7_takeAllOff wsX7_takeAllOff { frames := 3, cells := 0, slots := 0, locals := 65 } D g [.ref so] L f 0 0 (fun x L1 f1 => x = z.1 ∧ L1 = L ∧ (∀ b, b ∈ L → b ≠ lf → b ≠ bl → b ≠ sw → b ≠ tt → b ≠ tp → f1 b = f b) ∧ f1 lf = .inl (g 0, 3774, .inl z.2.1) ∧ f1 bl = .inl (g 0, 3774, .inl z.2.2.1) ∧ f1 sw = .inl (g 1, 64, .inr (.inl z.2.2.2.1)) ∧ f1 tt = .inl (g 0, 1000, .inl z.2.2.2.2.1) ∧ f1 tp = .inl (g 0, 1000, .inl z.2.2.2.2.2)) := by
  refine cI_of (cc := cX7_takeAllOff) (maxL := 3) (ret := (some .boolean)) (by decide) rfl (Nat.le_of_ble_eq_true rfl) ?_
  intro szz p e s m below meth c hx hb hr hml hts hown hlk hnm S ls hl
  have hl : lv_has ls 3 [(0, .ref so)] := hl
  have in_X7 : ∀ w ∈ wsX70, w ∈ wsX7_takeAllOff := gu_wsX7_takeAllOff_3
  have n_so_tt : so ≠ tt := ne_ir e_tt e_so
  have n_so_tp : so ≠ tp := ne_ir e_tp e_so
  have n_bl_tt : bl ≠ tt := ne_len e_tt e_bl (by decide)
  have n_bl_tp : bl ≠ tp := ne_len e_tp e_bl (by decide)
  have n_pa_tt : pa ≠ tt := ne_len e_tt e_pa (by decide)
  have n_pa_tp : pa ≠ tp := ne_len e_tp e_pa (by decide)
  have n_lf_tt : lf ≠ tt := ne_len e_tt e_lf (by decide)
  have n_lf_tp : lf ≠ tp := ne_len e_tp e_lf (by decide)
  have n_si_tt : si ≠ tt := ne_ir e_tt e_si
  have n_si_tp : si ≠ tp := ne_ir e_tp e_si
  have n_sw_tt : sw ≠ tt := ne_len e_tt e_sw (by decide)
  have n_sw_tp : sw ≠ tp := ne_len e_tp e_sw (by decide)
  have n_tt_tp := Ne.symm n_tp_tt
  have n_so_lf : so ≠ lf := ne_ir e_lf e_so
  have n_so_bl : so ≠ bl := ne_ir e_bl e_so
  have n_so_sw : so ≠ sw := ne_ir e_sw e_so
  have n_pa_lf : pa ≠ lf := ne_len e_lf e_pa (by decide)
  have n_pa_bl : pa ≠ bl := ne_len e_bl e_pa (by decide)
  have n_pa_sw : pa ≠ sw := ne_len e_sw e_pa (by decide)
  have n_ta_lf : ta ≠ lf := ne_len e_lf e_ta (by decide)
  have n_ta_bl : ta ≠ bl := ne_len e_bl e_ta (by decide)
  have n_ta_sw : ta ≠ sw := ne_len e_sw e_ta (by decide)
  have n_si_lf : si ≠ lf := ne_ir e_lf e_si
  have n_si_bl : si ≠ bl := ne_ir e_bl e_si
  have n_si_sw : si ≠ sw := ne_ir e_sw e_si
  have n_tt_lf : tt ≠ lf := ne_len e_lf e_tt (by decide)
  have n_tt_bl : tt ≠ bl := ne_len e_bl e_tt (by decide)
  have n_tt_sw : tt ≠ sw := ne_len e_sw e_tt (by decide)
  have n_tp_lf : tp ≠ lf := ne_len e_lf e_tp (by decide)
  have n_tp_bl : tp ≠ bl := ne_len e_bl e_tp (by decide)
  have n_tp_sw : tp ≠ sw := ne_len e_sw e_tp (by decide)
  have fr : ∀ b, b ∈ L → b ≠ lf → b ≠ bl → b ≠ sw → b ≠ tt → b ≠ tp → f b = f b := fun _ _ _ _ _ _ _ => rfl
  unfold mX7_takeAllOff at hM
  refine W_gen (fun QQ hQQ => ?_)
  refine lv_iconst (v := (0 : Int32)) hx hb dX7_takeAllOff_0 (by decide) ?_
  refine lv_istore_n (lv' := [(1, .int (0 : Int32)), (0, .ref so)]) hx hb dX7_takeAllOff_1 rfl hl (by decide) rfl (fun ls hl => ?_)
  obtain ⟨o2, ho2, hM⟩ := bind_some hM
  have EX2 : ∀ (s2 : Int32 × (Nat → Int32) × (Nat → Int32) × (Nat → Int64) × (Nat → Int32) × (Nat → Int32)), o2 = .inr s2 → ∀ (fl2 : Nat → va_E) (H : Heap) (locs : List Loc) (ls : Array Slot), PS D g (va_A (va_pl L f) szz) s.heap s L fl2 H locs → fl2 so = .inr (5, [.ref pa, .ref ta, .ref lf, .ref bl, .ref si, .ref tt, .ref tp, .int cn, .int th3]) → fl2 pa = .inl (g 0, 3000, .inl vpa) → fl2 ta = .inl (g 0, 1000, .inl vta) → fl2 lf = .inl (g 0, 3774, .inl s2.2.1) → fl2 bl = .inl (g 0, 3774, .inl s2.2.2.1) → fl2 si = .inr (1, [.ref sw, .int z0]) → fl2 sw = .inl (g 1, 64, .inr (.inl s2.2.2.2.1)) → fl2 tt = .inl (g 0, 1000, .inl s2.2.2.2.2.1) → fl2 tp = .inl (g 0, 1000, .inl s2.2.2.2.2.2) → (∀ b, b ∈ L → b ≠ lf → b ≠ bl → b ≠ sw → b ≠ tt → b ≠ tp → fl2 b = f b) → lv_has ls 3 [] → W p l e { frames := 3, cells := 0, slots := 0, locals := 65 } s m [.ref so].toArray below meth c H locs 0 0 QQ (F0 m 59 ls []) := by
    intro s2 eo2
    rw [eo2] at hM
    simp only [Sum.elim_inr] at hM
    intro fl2 H locs ls S e_so e_pa e_ta e_lf e_bl e_si e_sw e_tt e_tp fr hl
    refine lv_iconst (v := (1 : Int32)) hx hb dX7_takeAllOff_59 (by decide) ?_
    subst hQQ
    exact q_retz (post := fun x L1 f1 => x = z.1 ∧ L1 = L ∧ (∀ b, b ∈ L → b ≠ lf → b ≠ bl → b ≠ sw → b ≠ tt → b ≠ tp → f1 b = f b) ∧ f1 lf = .inl (g 0, 3774, .inl z.2.1) ∧ f1 bl = .inl (g 0, 3774, .inl z.2.2.1) ∧ f1 sw = .inl (g 1, 64, .inr (.inl z.2.2.2.1)) ∧ f1 tt = .inl (g 0, 1000, .inl z.2.2.2.2.1) ∧ f1 tp = .inl (g 0, 1000, .inl z.2.2.2.2.2)) hx hb hr hlk S dX7_takeAllOff_60 (by decide) (by decide) (by decide) (by have hz := Option.some.inj hM; subst hz; exact ⟨rfl, rfl, fr, e_lf, e_bl, e_sw, e_tt, e_tp⟩)
  have LP2 : ∀ (fu : Nat) (x1_2 : Int32) (clf_2 : Nat → Int32) (cbl_2 : Nat → Int32) (csw_2 : Nat → Int64) (ctt_2 : Nat → Int32) (ctp_2 : Nat → Int32) (fl2 : Nat → va_E) (H : Heap) (locs : List Loc) (ls : Array Slot), (mX7_takeAllOff_L2 cn vpa z0) fu x1_2 clf_2 cbl_2 csw_2 ctt_2 ctp_2 = some o2 → PS D g (va_A (va_pl L f) szz) s.heap s L fl2 H locs → fl2 so = .inr (5, [.ref pa, .ref ta, .ref lf, .ref bl, .ref si, .ref tt, .ref tp, .int cn, .int th3]) → fl2 pa = .inl (g 0, 3000, .inl vpa) → fl2 ta = .inl (g 0, 1000, .inl vta) → fl2 lf = .inl (g 0, 3774, .inl clf_2) → fl2 bl = .inl (g 0, 3774, .inl cbl_2) → fl2 si = .inr (1, [.ref sw, .int z0]) → fl2 sw = .inl (g 1, 64, .inr (.inl csw_2)) → fl2 tt = .inl (g 0, 1000, .inl ctt_2) → fl2 tp = .inl (g 0, 1000, .inl ctp_2) → (∀ b, b ∈ L → b ≠ lf → b ≠ bl → b ≠ sw → b ≠ tt → b ≠ tp → fl2 b = f b) → lv_has ls 3 [(1, .int x1_2), (0, .ref so)] → W p l e { frames := 3, cells := 0, slots := 0, locals := 65 } s m [.ref so].toArray below meth c H locs 0 0 QQ (F0 m 2 ls []) := by
    intro fu
    induction fu with
    | zero => intro x1_2 clf_2 cbl_2 csw_2 ctt_2 ctp_2 fl2 H locs ls ho2 S e_so e_pa e_ta e_lf e_bl e_si e_sw e_tt e_tp fr hl; exact no_some ho2
    | succ fu ih2 =>
      intro x1_2 clf_2 cbl_2 csw_2 ctt_2 ctp_2 fl2 H locs ls ho2 S e_so e_pa e_ta e_lf e_bl e_si e_sw e_tt e_tp fr hl
      rw [mX7_takeAllOff_L2] at ho2
      refine lv_iload_n hx hb dX7_takeAllOff_2 rfl (lv_at hl 0 rfl) ?_
      refine lv_aload_n hx hb dX7_takeAllOff_3 rfl (lv_at hl 1 rfl) ?_
      refine q_get hx hb hts in_X7 hown S m_so e_so (C := RX7) (T := TX7) (N := 9) rfl 7 (by decide) rfl (hts (.fieldLink RX7 47 "SieveCabinet$Solver" "count" "I") (gu_wsX7_takeAllOff_1 _ gm_0)) dX7_takeAllOff_4 ?_
      refine lv_icmp_ge (tgt := 59) hx hb dX7_takeAllOff_7 (by decide) (fun b7 => ?_) (fun b7 => ?_)
      · have ho2 := itT b7 ho2
        obtain rfl := Option.some.inj ho2
        exact EX2 _ rfl fl2 _ _ _ S e_so e_pa e_ta e_lf e_bl e_si e_sw e_tt e_tp fr (lv_sub hl [] rfl)
      · have ho2 := itF b7 ho2
        refine lv_aload_n hx hb dX7_takeAllOff_10 rfl (lv_at hl 1 rfl) ?_
        refine q_get hx hb hts in_X7 hown S m_so e_so (C := RX7) (T := TX7) (N := 9) rfl 4 (by decide) rfl (hts (.fieldLink RX7 27 "SieveCabinet$Solver" "singles" "LSieveCabinet$BitRow;") (gu_wsX7_takeAllOff_1 _ gm_1)) dX7_takeAllOff_11 ?_
        obtain ⟨z14, hz14, ho2⟩ := bind_some ho2
        refine q_vi (As := []) (rest := []) ⟨hx, hb, hml, hown, hts⟩ (k_X1_least l D g m_si e_si m_sw e_sw hz14) (cwV 0 hts gX7_takeAllOff_X1_least rfl rfl rfl (by decide +kernel) ⟨Nat.le_of_ble_eq_true rfl, Nat.le_of_ble_eq_true rfl⟩) S m_si e_si (T := TX1) (N := 2) rfl rfl hl.1 rfl (Nat.le_of_ble_eq_true rfl) dX7_takeAllOff_14 ⟨Nat.le_of_ble_eq_true rfl, Nat.le_of_ble_eq_true rfl⟩ (fun r3 L1 f2 H locs S w14 => ?_)
        obtain ⟨ex14, eL, ef⟩ := w14
        rw [eL, ef] at S
        replace ex14 := ex14.symm
        subst ex14
        refine lv_istore_n (lv' := [(2, .int z14), (1, .int x1_2), (0, .ref so)]) hx hb dX7_takeAllOff_17 rfl hl (by decide) rfl (fun ls hl => ?_)
        refine lv_iload_n hx hb dX7_takeAllOff_18 rfl (lv_at hl 0 rfl) ?_
        refine lv_if_ge (tgt := 24) hx hb dX7_takeAllOff_19 (by decide) (fun b19 => ?_) (fun b19 => ?_)
        · have ho2 := itT b19 ho2
          refine lv_aload_n hx hb dX7_takeAllOff_24 rfl (lv_at hl 2 rfl) ?_
          refine q_get hx hb hts in_X7 hown S m_so e_so (C := RX7) (T := TX7) (N := 9) rfl 5 (by decide) rfl (hts (.fieldLink RX7 31 "SieveCabinet$Solver" "takenThing" "[I") (gu_wsX7_takeAllOff_1 _ gm_2)) dX7_takeAllOff_25 ?_
          refine lv_iload_n hx hb dX7_takeAllOff_28 rfl (lv_at hl 1 rfl) ?_
          refine lv_aload_n hx hb dX7_takeAllOff_29 rfl (lv_at hl 2 rfl) ?_
          refine q_get hx hb hts in_X7 hown S m_so e_so (C := RX7) (T := TX7) (N := 9) rfl 3 (by decide) rfl (hts (.fieldLink RX7 21 "SieveCabinet$Solver" "blend" "[I") (gu_wsX7_takeAllOff_1 _ gm_3)) dX7_takeAllOff_30 ?_
          refine lv_iload_n hx hb dX7_takeAllOff_33 rfl (lv_at hl 0 rfl) ?_
          obtain ⟨hi34, ho2⟩ := ckx ho2
          refine q_iald hx hb S m_bl e_bl hi34 dX7_takeAllOff_34 ?_
          obtain ⟨hi35, ho2⟩ := ckx ho2
          refine k_iast hx hb S m_tt e_tt hi35 dX7_takeAllOff_35 (fun f4 ef4 H locs S => ?_)
          have e_tt := up_self ef4
          have fr : ∀ b, b ∈ L → b ≠ lf → b ≠ bl → b ≠ sw → b ≠ tt → b ≠ tp → f4 b = f b := fun b mb nb0 nb1 nb2 nb3 nb4 => (up_ne ef4 nb3 rfl).trans (fr b mb nb0 nb1 nb2 nb3 nb4)
          refine lv_aload_n hx hb dX7_takeAllOff_36 rfl (lv_at hl 2 rfl) ?_
          have e_so := (up_ne ef4 n_so_tt e_so)
          refine q_get hx hb hts in_X7 hown S m_so e_so (C := RX7) (T := TX7) (N := 9) rfl 6 (by decide) rfl (hts (.fieldLink RX7 34 "SieveCabinet$Solver" "takenPlace" "[I") (gu_wsX7_takeAllOff_1 _ gm_4)) dX7_takeAllOff_37 ?_
          refine lv_iload_n hx hb dX7_takeAllOff_40 rfl (lv_at hl 1 rfl) ?_
          refine lv_iload_n hx hb dX7_takeAllOff_41 rfl (lv_at hl 0 rfl) ?_
          obtain ⟨hi42, ho2⟩ := ckx ho2
          have e_tp := (up_ne ef4 n_tp_tt e_tp)
          refine k_iast hx hb S m_tp e_tp hi42 dX7_takeAllOff_42 (fun f5 ef5 H locs S => ?_)
          have e_tp := up_self ef5
          have fr : ∀ b, b ∈ L → b ≠ lf → b ≠ bl → b ≠ sw → b ≠ tt → b ≠ tp → f5 b = f b := fun b mb nb0 nb1 nb2 nb3 nb4 => (up_ne ef5 nb4 rfl).trans (fr b mb nb0 nb1 nb2 nb3 nb4)
          refine lv_aload_n hx hb dX7_takeAllOff_43 rfl (lv_at hl 2 rfl) ?_
          refine lv_aload_n hx hb dX7_takeAllOff_44 rfl (lv_at hl 2 rfl) ?_
          have e_so := (up_ne ef5 n_so_tp e_so)
          refine q_get hx hb hts in_X7 hown S m_so e_so (C := RX7) (T := TX7) (N := 9) rfl 3 (by decide) rfl (hts (.fieldLink RX7 21 "SieveCabinet$Solver" "blend" "[I") (gu_wsX7_takeAllOff_1 _ gm_3)) dX7_takeAllOff_45 ?_
          refine lv_iload_n hx hb dX7_takeAllOff_48 rfl (lv_at hl 0 rfl) ?_
          obtain ⟨hi49, ho2⟩ := ckx ho2
          have e_bl := (up_ne ef5 n_bl_tp (up_ne ef4 n_bl_tt e_bl))
          refine q_iald hx hb S m_bl e_bl hi49 dX7_takeAllOff_49 ?_
          obtain ⟨z50, hz50, ho2⟩ := bind_some ho2
          have e_pa := (up_ne ef5 n_pa_tp (up_ne ef4 n_pa_tt e_pa))
          have e_ta := (up_ne ef5 n_ta_tp (up_ne ef4 n_ta_tt e_ta))
          have e_lf := (up_ne ef5 n_lf_tp (up_ne ef4 n_lf_tt e_lf))
          have e_si := (up_ne ef5 n_si_tp (up_ne ef4 n_si_tt e_si))
          have e_sw := (up_ne ef5 n_sw_tp (up_ne ef4 n_sw_tt e_sw))
          have e_tt := (up_ne ef5 n_tt_tp e_tt)
          refine q_vv (As := [.int (cbl_2 (Int32.toNatClampNeg z14))]) (rest := []) ⟨hx, hb, hml, hown, hts⟩ (k_X7_takeOff l D g m_so e_so m_pa e_pa m_ta e_ta m_lf e_lf m_bl e_bl m_si e_si m_sw e_sw m_tt e_tt m_tp e_tp n_bl_lf hz50) (cwV 1 hts gX7_takeAllOff_X7_takeOff rfl rfl rfl (by decide +kernel) ⟨Nat.le_of_ble_eq_true rfl, Nat.le_of_ble_eq_true rfl⟩) S m_so e_so (T := TX7) (N := 9) rfl rfl hl.1 rfl (Nat.le_of_ble_eq_true rfl) dX7_takeAllOff_50 ⟨Nat.le_of_ble_eq_true rfl, Nat.le_of_ble_eq_true rfl⟩ (fun L6 f7 H locs S w50 => ?_)
          obtain ⟨eL, fv50, E_lf, E_bl, E_sw⟩ := w50
          rw [eL] at S
          have fr : ∀ b, b ∈ L → b ≠ lf → b ≠ bl → b ≠ sw → b ≠ tt → b ≠ tp → f7 b = f b := fun b mb nb0 nb1 nb2 nb3 nb4 => (fv50 b mb nb0 nb1 nb2).trans (fr b mb nb0 nb1 nb2 nb3 nb4)
          have e_lf : f7 lf = .inl (g 0, 3774, .inl z50.1) := E_lf
          have e_bl : f7 bl = .inl (g 0, 3774, .inl z50.2.1) := E_bl
          have e_sw : f7 sw = .inl (g 1, 64, .inr (.inl z50.2.2)) := E_sw
          refine lv_iinc (v := (x1_2 + 1)) (lv' := [(1, .int (x1_2 + 1)), (2, .int z14), (0, .ref so)]) hx hb dX7_takeAllOff_53 hl (k := 1) rfl rfl (by decide) rfl (fun ls hl => ?_)
          refine lv_goto (tgt := 2) hx hb dX7_takeAllOff_56 (by decide) ?_
          have e_so := ((fv50 so m_so n_so_lf n_so_bl n_so_sw).trans e_so)
          have e_pa := ((fv50 pa m_pa n_pa_lf n_pa_bl n_pa_sw).trans e_pa)
          have e_ta := ((fv50 ta m_ta n_ta_lf n_ta_bl n_ta_sw).trans e_ta)
          have e_si := ((fv50 si m_si n_si_lf n_si_bl n_si_sw).trans e_si)
          have e_tt := ((fv50 tt m_tt n_tt_lf n_tt_bl n_tt_sw).trans e_tt)
          have e_tp := ((fv50 tp m_tp n_tp_lf n_tp_bl n_tp_sw).trans e_tp)
          exact ih2 (x1_2 + 1) z50.1 z50.2.1 z50.2.2 (upd ctt_2 (Int32.toNatClampNeg x1_2) (cbl_2 (Int32.toNatClampNeg z14))) (upd ctp_2 (Int32.toNatClampNeg x1_2) z14) f7 _ _ _ ho2 S e_so e_pa e_ta e_lf e_bl e_si e_sw e_tt e_tp fr (lv_sub hl [0, 2] rfl)
        · have ho2 := itF b19 ho2
          refine lv_iconst (v := (0 : Int32)) hx hb dX7_takeAllOff_22 (by decide) ?_
          obtain rfl := Option.some.inj ho2
          simp only [Sum.elim_inl] at hM
          subst hQQ
          exact q_retz (post := fun x L1 f1 => x = z.1 ∧ L1 = L ∧ (∀ b, b ∈ L → b ≠ lf → b ≠ bl → b ≠ sw → b ≠ tt → b ≠ tp → f1 b = f b) ∧ f1 lf = .inl (g 0, 3774, .inl z.2.1) ∧ f1 bl = .inl (g 0, 3774, .inl z.2.2.1) ∧ f1 sw = .inl (g 1, 64, .inr (.inl z.2.2.2.1)) ∧ f1 tt = .inl (g 0, 1000, .inl z.2.2.2.2.1) ∧ f1 tp = .inl (g 0, 1000, .inl z.2.2.2.2.2)) hx hb hr hlk S dX7_takeAllOff_23 (by decide) (by decide) (by decide) (by have hz := Option.some.inj hM; subst hz; exact ⟨rfl, rfl, fr, e_lf, e_bl, e_sw, e_tt, e_tp⟩)
  exact LP2 FU (0 : Int32) vlf vbl vsw vtt vtp f _ _ _ ho2 S e_so e_pa e_ta e_lf e_bl e_si e_sw e_tt e_tp fr (lv_sub hl [0, 1] rfl)

def mX7_spread_L130 (th3 : Int32) (o18 : Int32 × (Nat → Int32) × (Nat → Int32) × (Nat → Int32) × (Nat → Int32)) (z125 : Int32 × (Nat → Int64)) : Nat → Int32 → (Nat → Int64) → Option (Int32 × (Nat → Int64))
  | 0, _, _ => none
  | fu + 1, x3_130, csw_130 => (mX7_places th3).bind fun z132 => if z132 ≤ x3_130 then (some (x3_130, csw_130)) else ((mX7_noteIfSingle o18.2.2.2.1 z125.1 csw_130 x3_130).bind fun z140 => mX7_spread_L130 th3 o18 z125 fu (x3_130 + 1) z140)
def mX7_spread_L51 (th3 : Int32) (z32 : Int64) (x3_18 : Int32) : Nat → Int32 → (Nat → Int32) → (Nat → Int32) → (Nat → Int32) → Option (Int32 × (Nat → Int32) × (Nat → Int32) × (Nat → Int32))
  | 0, _, _, _, _ => none
  | fu + 1, x6_51, cpa_51, clf_51, cbl_51 => if (3 : Int32) ≤ x6_51 then (some (x6_51, cpa_51, clf_51, cbl_51)) else ((mX4_solvedPlace z32 x6_51 th3).bind fun z65 => if ix (((3 : Int32) * x3_18) + x6_51) 3000 = true then (if ix z65 3774 = true then (if ix z65 3774 = true then (if ix z65 3774 = true then (if ix z65 3774 = true then (mX7_spread_L51 th3 z32 x3_18 fu (x6_51 + 1) (upd cpa_51 (Int32.toNatClampNeg (((3 : Int32) * x3_18) + x6_51)) z65) (upd clf_51 (Int32.toNatClampNeg z65) ((clf_51 (Int32.toNatClampNeg z65)) + (1 : Int32))) (upd cbl_51 (Int32.toNatClampNeg z65) ((cbl_51 (Int32.toNatClampNeg z65)) ^^^ x3_18))) else none) else none) else none) else none) else none)
def mX7_spread_L18 (cn : Int32) (th3 : Int32) (no : Int32) (vo : Nat → Int64) (sd : Int32) : Nat → Int32 → (Nat → Int32) → (Nat → Int32) → (Nat → Int32) → (Nat → Int32) → Option (Int32 × (Nat → Int32) × (Nat → Int32) × (Nat → Int32) × (Nat → Int32))
  | 0, _, _, _, _, _ => none
  | fu + 1, x3_18, cpa_18, cta_18, clf_18, cbl_18 => if cn ≤ x3_18 then (some (x3_18, cpa_18, cta_18, clf_18, cbl_18)) else ((mX0_at no vo x3_18).bind fun z28 => (mX4_of z28 sd).bind fun z32 => (mX4_solvedTag z32).bind fun z44 => if ix x3_18 1000 = true then ((mX7_spread_L51 th3 z32 x3_18 FU (0 : Int32) cpa_18 clf_18 cbl_18).bind fun o51 => mX7_spread_L18 cn th3 no vo sd fu (x3_18 + 1) o51.2.1 (upd cta_18 (Int32.toNatClampNeg x3_18) z44) o51.2.2.1 o51.2.2.2) else none)
def mX7_spread (cn : Int32) (th3 : Int32) (vpa : Nat → Int32) (vta : Nat → Int32) (vlf : Nat → Int32) (vbl : Nat → Int32) (vsw : Nat → Int64) (no : Int32) (vo : Nat → Int64) (sd : Int32) : Option ((Nat → Int32) × (Nat → Int32) × (Nat → Int32) × (Nat → Int32) × Int32 × (Nat → Int64)) := (mJ7_fill_53178 3774 vlf (0 : Int32)).bind fun z5 => (mJ7_fill_53178 3774 vbl (0 : Int32)).bind fun z13 => (mX7_spread_L18 cn th3 no vo sd FU (0 : Int32) vpa vta z5 z13).bind fun o18 => (mX7_places th3).bind fun z122 => (mX1_begin vsw z122).bind fun z125 => (mX7_spread_L130 th3 o18 z125 FU (0 : Int32) z125.2).bind fun o130 => some (o18.2.1, o18.2.2.1, o18.2.2.2.1, o18.2.2.2.2, z125.1, o130.2)
set_option maxHeartbeats 4000000 in
set_option maxRecDepth 100000 in
theorem k_X7_spread (l : Launch) (D : va_G) (g : Nat → ClassId) {L : List Nat} {f : Nat → va_E} {bl lf o pa ro si so sw ta tp tt : Nat} {cn : Int32} {th3 : Int32} {vpa : Nat → Int32} {vta : Nat → Int32} {vlf : Nat → Int32} {vbl : Nat → Int32} {z0 : Int32} {vsw : Nat → Int64} {vtt : Nat → Int32} {vtp : Nat → Int32} {no : Int32} {vo : Nat → Int64} {sd : Int32} {z : (Nat → Int32) × (Nat → Int32) × (Nat → Int32) × (Nat → Int32) × Int32 × (Nat → Int64)} (m_so : so ∈ L) (e_so : f so = .inr (5, [.ref pa, .ref ta, .ref lf, .ref bl, .ref si, .ref tt, .ref tp, .int cn, .int th3])) (m_pa : pa ∈ L) (e_pa : f pa = .inl (g 0, 3000, .inl vpa)) (m_ta : ta ∈ L) (e_ta : f ta = .inl (g 0, 1000, .inl vta)) (m_lf : lf ∈ L) (e_lf : f lf = .inl (g 0, 3774, .inl vlf)) (m_bl : bl ∈ L) (e_bl : f bl = .inl (g 0, 3774, .inl vbl)) (m_si : si ∈ L) (e_si : f si = .inr (1, [.ref sw, .int z0])) (m_sw : sw ∈ L) (e_sw : f sw = .inl (g 1, 64, .inr (.inl vsw))) (m_tt : tt ∈ L) (e_tt : f tt = .inl (g 0, 1000, .inl vtt)) (m_tp : tp ∈ L) (e_tp : f tp = .inl (g 0, 1000, .inl vtp)) (m_o : o ∈ L) (e_o : f o = .inr (0, [.ref ro, .int no])) (m_ro : ro ∈ L) (e_ro : f ro = .inl (g 1, 1000, .inr (.inl vo))) (n_bl_lf : bl ≠ lf) (n_tt_ta : tt ≠ ta) (n_tp_ta : tp ≠ ta)   (hM : mX7_spread cn th3 vpa vta vlf vbl vsw no vo sd = some z) : cV l yX7_spread wsX7_spread { frames := 2, cells := 0, slots := 0, locals := 45 } D g [.ref so, .ref o, .int sd] L f 0 0 (fun L1 f1 => L1 = L ∧ (∀ b, b ∈ L → b ≠ pa → b ≠ ta → b ≠ lf → b ≠ bl → b ≠ si → b ≠ sw → f1 b = f b) ∧ f1 pa = .inl (g 0, 3000, .inl z.1) ∧ f1 ta = .inl (g 0, 1000, .inl z.2.1) ∧ f1 lf = .inl (g 0, 3774, .inl z.2.2.1) ∧ f1 bl = .inl (g 0, 3774, .inl z.2.2.2.1) ∧ f1 si = .inr (1, [.ref sw, .int z.2.2.2.2.1]) ∧ f1 sw = .inl (g 1, 64, .inr (.inl z.2.2.2.2.2))) := by
  refine cV_of (cc := cX7_spread) (maxL := 8) (ret := none) (by decide) rfl (Nat.le_of_ble_eq_true rfl) ?_
  intro szz p e s m below meth c hx hb hr hml hts hown hlk hnm S ls hl
  have hl : lv_has ls 8 [(0, .ref so), (1, .ref o), (2, .int sd)] := hl
  have in_X7 : ∀ w ∈ wsX70, w ∈ wsX7_spread := gu_wsX7_spread_4
  have n_so_lf : so ≠ lf := ne_ir e_lf e_so
  have n_so_pa : so ≠ pa := ne_ir e_pa e_so
  have n_lf_pa : lf ≠ pa := ne_len e_pa e_lf (by decide)
  have n_bl_pa : bl ≠ pa := ne_len e_pa e_bl (by decide)
  have n_so_ta : so ≠ ta := ne_ir e_ta e_so
  have n_pa_ta : pa ≠ ta := ne_len e_ta e_pa (by decide)
  have n_lf_ta : lf ≠ ta := ne_len e_ta e_lf (by decide)
  have n_bl_ta : bl ≠ ta := ne_len e_ta e_bl (by decide)
  have n_si_ta : si ≠ ta := ne_ir e_ta e_si
  have n_sw_ta : sw ≠ ta := ne_len e_ta e_sw (by decide)
  have n_o_ta : o ≠ ta := ne_ir e_ta e_o
  have n_ro_ta : ro ≠ ta := ne_01 e_ta e_ro
  have n_so_bl : so ≠ bl := ne_ir e_bl e_so
  have n_pa_lf : pa ≠ lf := ne_len e_lf e_pa (by decide)
  have n_pa_bl : pa ≠ bl := ne_len e_bl e_pa (by decide)
  have n_ta_pa : ta ≠ pa := ne_len e_pa e_ta (by decide)
  have n_ta_lf : ta ≠ lf := ne_len e_lf e_ta (by decide)
  have n_ta_bl : ta ≠ bl := ne_len e_bl e_ta (by decide)
  have n_lf_bl := Ne.symm n_bl_lf
  have n_si_pa : si ≠ pa := ne_ir e_pa e_si
  have n_si_lf : si ≠ lf := ne_ir e_lf e_si
  have n_si_bl : si ≠ bl := ne_ir e_bl e_si
  have n_sw_pa : sw ≠ pa := ne_len e_pa e_sw (by decide)
  have n_sw_lf : sw ≠ lf := ne_len e_lf e_sw (by decide)
  have n_sw_bl : sw ≠ bl := ne_len e_bl e_sw (by decide)
  have n_tt_pa : tt ≠ pa := ne_len e_pa e_tt (by decide)
  have n_tt_lf : tt ≠ lf := ne_len e_lf e_tt (by decide)
  have n_tt_bl : tt ≠ bl := ne_len e_bl e_tt (by decide)
  have n_tp_pa : tp ≠ pa := ne_len e_pa e_tp (by decide)
  have n_tp_lf : tp ≠ lf := ne_len e_lf e_tp (by decide)
  have n_tp_bl : tp ≠ bl := ne_len e_bl e_tp (by decide)
  have n_o_pa : o ≠ pa := ne_ir e_pa e_o
  have n_o_lf : o ≠ lf := ne_ir e_lf e_o
  have n_o_bl : o ≠ bl := ne_ir e_bl e_o
  have n_ro_pa : ro ≠ pa := ne_len e_pa e_ro (by decide)
  have n_ro_lf : ro ≠ lf := ne_len e_lf e_ro (by decide)
  have n_ro_bl : ro ≠ bl := ne_len e_bl e_ro (by decide)
  have n_so_si : so ≠ si := ne_rr e_si e_so (by decide)
  have n_so_sw : so ≠ sw := ne_ir e_sw e_so
  have n_pa_si : pa ≠ si := ne_ri e_si e_pa
  have n_pa_sw : pa ≠ sw := ne_len e_sw e_pa (by decide)
  have n_ta_si : ta ≠ si := ne_ri e_si e_ta
  have n_ta_sw : ta ≠ sw := ne_len e_sw e_ta (by decide)
  have n_lf_si : lf ≠ si := ne_ri e_si e_lf
  have n_lf_sw : lf ≠ sw := ne_len e_sw e_lf (by decide)
  have n_bl_si : bl ≠ si := ne_ri e_si e_bl
  have n_bl_sw : bl ≠ sw := ne_len e_sw e_bl (by decide)
  have n_tt_si : tt ≠ si := ne_ri e_si e_tt
  have n_tt_sw : tt ≠ sw := ne_len e_sw e_tt (by decide)
  have n_tp_si : tp ≠ si := ne_ri e_si e_tp
  have n_tp_sw : tp ≠ sw := ne_len e_sw e_tp (by decide)
  have n_o_si : o ≠ si := ne_rr e_si e_o (by decide)
  have n_o_sw : o ≠ sw := ne_ir e_sw e_o
  have n_ro_si : ro ≠ si := ne_ri e_si e_ro
  have n_ro_sw : ro ≠ sw := ne_len e_sw e_ro (by decide)
  have n_si_sw : si ≠ sw := ne_ir e_sw e_si
  have fr : ∀ b, b ∈ L → b ≠ pa → b ≠ ta → b ≠ lf → b ≠ bl → b ≠ si → b ≠ sw → f b = f b := fun _ _ _ _ _ _ _ _ => rfl
  unfold mX7_spread at hM
  refine W_gen (fun QQ hQQ => ?_)
  refine lv_aload_n hx hb dX7_spread_0 rfl (lv_at hl 0 rfl) ?_
  refine q_get hx hb hts in_X7 hown S m_so e_so (C := RX7) (T := TX7) (N := 9) rfl 2 (by decide) rfl (hts (.fieldLink RX7 18 "SieveCabinet$Solver" "left" "[I") (gu_wsX7_spread_1 _ gm_0)) dX7_spread_1 ?_
  refine lv_iconst (v := (0 : Int32)) hx hb dX7_spread_4 (by decide) ?_
  obtain ⟨z5, hz5, hM⟩ := bind_some hM
  refine q_sv (As := [.ref lf, .int (0 : Int32)]) (rest := []) ⟨hx, hb, hml, hown, hts⟩ (k_J7_fill_53178 l D g m_lf e_lf hz5) (va_cwS 2 hts gX7_spread_J7_fill_53178 rfl rfl rfl (by decide +kernel) ⟨Nat.le_of_ble_eq_true rfl, Nat.le_of_ble_eq_true rfl⟩) S rfl hl.1 rfl (Nat.le_of_ble_eq_true rfl) dX7_spread_5 ⟨Nat.le_of_ble_eq_true rfl, Nat.le_of_ble_eq_true rfl⟩ (fun L1 f2 H locs S w5 => ?_)
  obtain ⟨eL, fv5, E_lf⟩ := w5
  rw [eL] at S
  have fr : ∀ b, b ∈ L → b ≠ pa → b ≠ ta → b ≠ lf → b ≠ bl → b ≠ si → b ≠ sw → f2 b = f b := fun b mb nb0 nb1 nb2 nb3 nb4 nb5 => (fv5 b mb nb2).trans (fr b mb nb0 nb1 nb2 nb3 nb4 nb5)
  have e_lf : f2 lf = .inl (g 0, 3774, .inl z5) := E_lf
  refine lv_aload_n hx hb dX7_spread_8 rfl (lv_at hl 0 rfl) ?_
  have e_so := ((fv5 so m_so n_so_lf).trans e_so)
  refine q_get hx hb hts in_X7 hown S m_so e_so (C := RX7) (T := TX7) (N := 9) rfl 3 (by decide) rfl (hts (.fieldLink RX7 21 "SieveCabinet$Solver" "blend" "[I") (gu_wsX7_spread_1 _ gm_1)) dX7_spread_9 ?_
  refine lv_iconst (v := (0 : Int32)) hx hb dX7_spread_12 (by decide) ?_
  obtain ⟨z13, hz13, hM⟩ := bind_some hM
  have e_bl := ((fv5 bl m_bl n_bl_lf).trans e_bl)
  refine q_sv (As := [.ref bl, .int (0 : Int32)]) (rest := []) ⟨hx, hb, hml, hown, hts⟩ (k_J7_fill_53178 l D g m_bl e_bl hz13) (va_cwS 2 hts gX7_spread_J7_fill_53178 rfl rfl rfl (by decide +kernel) ⟨Nat.le_of_ble_eq_true rfl, Nat.le_of_ble_eq_true rfl⟩) S rfl hl.1 rfl (Nat.le_of_ble_eq_true rfl) dX7_spread_13 ⟨Nat.le_of_ble_eq_true rfl, Nat.le_of_ble_eq_true rfl⟩ (fun L4 f5 H locs S w13 => ?_)
  obtain ⟨eL, fv13, E_bl⟩ := w13
  rw [eL] at S
  have fr : ∀ b, b ∈ L → b ≠ pa → b ≠ ta → b ≠ lf → b ≠ bl → b ≠ si → b ≠ sw → f5 b = f b := fun b mb nb0 nb1 nb2 nb3 nb4 nb5 => (fv13 b mb nb3).trans (fr b mb nb0 nb1 nb2 nb3 nb4 nb5)
  have e_bl : f5 bl = .inl (g 0, 3774, .inl z13) := E_bl
  refine lv_iconst (v := (0 : Int32)) hx hb dX7_spread_16 (by decide) ?_
  refine lv_istore_n (lv' := [(3, .int (0 : Int32)), (0, .ref so), (1, .ref o), (2, .int sd)]) hx hb dX7_spread_17 rfl hl (by decide) rfl (fun ls hl => ?_)
  have e_so := ((fv13 so m_so n_so_bl).trans e_so)
  have e_pa := ((fv13 pa m_pa n_pa_bl).trans ((fv5 pa m_pa n_pa_lf).trans e_pa))
  have e_ta := ((fv13 ta m_ta n_ta_bl).trans ((fv5 ta m_ta n_ta_lf).trans e_ta))
  have e_lf := ((fv13 lf m_lf n_lf_bl).trans e_lf)
  have e_si := ((fv13 si m_si n_si_bl).trans ((fv5 si m_si n_si_lf).trans e_si))
  have e_sw := ((fv13 sw m_sw n_sw_bl).trans ((fv5 sw m_sw n_sw_lf).trans e_sw))
  have e_tt := ((fv13 tt m_tt n_tt_bl).trans ((fv5 tt m_tt n_tt_lf).trans e_tt))
  have e_tp := ((fv13 tp m_tp n_tp_bl).trans ((fv5 tp m_tp n_tp_lf).trans e_tp))
  have e_o := ((fv13 o m_o n_o_bl).trans ((fv5 o m_o n_o_lf).trans e_o))
  have e_ro := ((fv13 ro m_ro n_ro_bl).trans ((fv5 ro m_ro n_ro_lf).trans e_ro))
  obtain ⟨o18, ho18, hM⟩ := bind_some hM
  have EX18 : ∀ (fl18 : Nat → va_E) (H : Heap) (locs : List Loc) (ls : Array Slot), PS D g (va_A (va_pl L f) szz) s.heap s L fl18 H locs → fl18 so = .inr (5, [.ref pa, .ref ta, .ref lf, .ref bl, .ref si, .ref tt, .ref tp, .int cn, .int th3]) → fl18 pa = .inl (g 0, 3000, .inl o18.2.1) → fl18 ta = .inl (g 0, 1000, .inl o18.2.2.1) → fl18 lf = .inl (g 0, 3774, .inl o18.2.2.2.1) → fl18 bl = .inl (g 0, 3774, .inl o18.2.2.2.2) → fl18 si = .inr (1, [.ref sw, .int z0]) → fl18 sw = .inl (g 1, 64, .inr (.inl vsw)) → fl18 tt = .inl (g 0, 1000, .inl vtt) → fl18 tp = .inl (g 0, 1000, .inl vtp) → fl18 o = .inr (0, [.ref ro, .int no]) → fl18 ro = .inl (g 1, 1000, .inr (.inl vo)) → (∀ b, b ∈ L → b ≠ pa → b ≠ ta → b ≠ lf → b ≠ bl → b ≠ si → b ≠ sw → fl18 b = f b) → lv_has ls 8 [(0, .ref so)] → W p l e { frames := 2, cells := 0, slots := 0, locals := 45 } s m [.ref so, .ref o, .int sd].toArray below meth c H locs 0 0 QQ (F0 m 117 ls []) := by
    intro fl18 H locs ls S e_so e_pa e_ta e_lf e_bl e_si e_sw e_tt e_tp e_o e_ro fr hl
    refine lv_aload_n hx hb dX7_spread_117 rfl (lv_at hl 0 rfl) ?_
    refine q_get hx hb hts in_X7 hown S m_so e_so (C := RX7) (T := TX7) (N := 9) rfl 4 (by decide) rfl (hts (.fieldLink RX7 27 "SieveCabinet$Solver" "singles" "LSieveCabinet$BitRow;") (gu_wsX7_spread_1 _ gm_6)) dX7_spread_118 ?_
    refine lv_aload_n hx hb dX7_spread_121 rfl (lv_at hl 0 rfl) ?_
    obtain ⟨z122, hz122, hM⟩ := bind_some hM
    refine q_vi (As := []) (rest := [.ref si]) ⟨hx, hb, hml, hown, hts⟩ (k_X7_places l D g m_so e_so hz122) (cwV 0 hts gX7_spread_X7_places rfl rfl rfl (by decide +kernel) ⟨Nat.le_of_ble_eq_true rfl, Nat.le_of_ble_eq_true rfl⟩) S m_so e_so (T := TX7) (N := 9) rfl rfl hl.1 rfl (Nat.le_of_ble_eq_true rfl) dX7_spread_122 ⟨Nat.le_of_ble_eq_true rfl, Nat.le_of_ble_eq_true rfl⟩ (fun r9 L7 f8 H locs S w122 => ?_)
    obtain ⟨ex122, eL, ef⟩ := w122
    rw [eL, ef] at S
    replace ex122 := ex122.symm
    subst ex122
    obtain ⟨z125, hz125, hM⟩ := bind_some hM
    refine q_vv (As := [.int z122]) (rest := []) ⟨hx, hb, hml, hown, hts⟩ (k_X1_begin l D g m_si e_si m_sw e_sw hz125) (cwV 1 hts gX7_spread_X1_begin rfl rfl rfl (by decide +kernel) ⟨Nat.le_of_ble_eq_true rfl, Nat.le_of_ble_eq_true rfl⟩) S m_si e_si (T := TX1) (N := 2) rfl rfl hl.1 rfl (Nat.le_of_ble_eq_true rfl) dX7_spread_125 ⟨Nat.le_of_ble_eq_true rfl, Nat.le_of_ble_eq_true rfl⟩ (fun L10 f11 H locs S w125 => ?_)
    obtain ⟨eL, fv125, E_si, E_sw⟩ := w125
    rw [eL] at S
    have fr : ∀ b, b ∈ L → b ≠ pa → b ≠ ta → b ≠ lf → b ≠ bl → b ≠ si → b ≠ sw → f11 b = f b := fun b mb nb0 nb1 nb2 nb3 nb4 nb5 => (fv125 b mb nb4 nb5).trans (fr b mb nb0 nb1 nb2 nb3 nb4 nb5)
    have e_si : f11 si = .inr (1, [.ref sw, .int z125.1]) := E_si
    have e_sw : f11 sw = .inl (g 1, 64, .inr (.inl z125.2)) := E_sw
    refine lv_iconst (v := (0 : Int32)) hx hb dX7_spread_128 (by decide) ?_
    refine lv_istore_n (lv' := [(3, .int (0 : Int32)), (0, .ref so)]) hx hb dX7_spread_129 rfl hl (by decide) rfl (fun ls hl => ?_)
    have e_so := ((fv125 so m_so n_so_si n_so_sw).trans e_so)
    have e_pa := ((fv125 pa m_pa n_pa_si n_pa_sw).trans e_pa)
    have e_ta := ((fv125 ta m_ta n_ta_si n_ta_sw).trans e_ta)
    have e_lf := ((fv125 lf m_lf n_lf_si n_lf_sw).trans e_lf)
    have e_bl := ((fv125 bl m_bl n_bl_si n_bl_sw).trans e_bl)
    have e_tt := ((fv125 tt m_tt n_tt_si n_tt_sw).trans e_tt)
    have e_tp := ((fv125 tp m_tp n_tp_si n_tp_sw).trans e_tp)
    have e_o := ((fv125 o m_o n_o_si n_o_sw).trans e_o)
    have e_ro := ((fv125 ro m_ro n_ro_si n_ro_sw).trans e_ro)
    obtain ⟨o130, ho130, hM⟩ := bind_some hM
    have EX130 : ∀ (fl130 : Nat → va_E) (H : Heap) (locs : List Loc) (ls : Array Slot), PS D g (va_A (va_pl L f) szz) s.heap s L fl130 H locs → fl130 so = .inr (5, [.ref pa, .ref ta, .ref lf, .ref bl, .ref si, .ref tt, .ref tp, .int cn, .int th3]) → fl130 pa = .inl (g 0, 3000, .inl o18.2.1) → fl130 ta = .inl (g 0, 1000, .inl o18.2.2.1) → fl130 lf = .inl (g 0, 3774, .inl o18.2.2.2.1) → fl130 bl = .inl (g 0, 3774, .inl o18.2.2.2.2) → fl130 si = .inr (1, [.ref sw, .int z125.1]) → fl130 sw = .inl (g 1, 64, .inr (.inl o130.2)) → fl130 tt = .inl (g 0, 1000, .inl vtt) → fl130 tp = .inl (g 0, 1000, .inl vtp) → fl130 o = .inr (0, [.ref ro, .int no]) → fl130 ro = .inl (g 1, 1000, .inr (.inl vo)) → (∀ b, b ∈ L → b ≠ pa → b ≠ ta → b ≠ lf → b ≠ bl → b ≠ si → b ≠ sw → fl130 b = f b) → lv_has ls 8 [] → W p l e { frames := 2, cells := 0, slots := 0, locals := 45 } s m [.ref so, .ref o, .int sd].toArray below meth c H locs 0 0 QQ (F0 m 149 ls []) := by
      intro fl130 H locs ls S e_so e_pa e_ta e_lf e_bl e_si e_sw e_tt e_tp e_o e_ro fr hl
      subst hQQ
      exact q_retv (post := fun L1 f1 => L1 = L ∧ (∀ b, b ∈ L → b ≠ pa → b ≠ ta → b ≠ lf → b ≠ bl → b ≠ si → b ≠ sw → f1 b = f b) ∧ f1 pa = .inl (g 0, 3000, .inl z.1) ∧ f1 ta = .inl (g 0, 1000, .inl z.2.1) ∧ f1 lf = .inl (g 0, 3774, .inl z.2.2.1) ∧ f1 bl = .inl (g 0, 3774, .inl z.2.2.2.1) ∧ f1 si = .inr (1, [.ref sw, .int z.2.2.2.2.1]) ∧ f1 sw = .inl (g 1, 64, .inr (.inl z.2.2.2.2.2))) hx hb hr hlk S dX7_spread_149 (by decide) (by decide) (by have hz := Option.some.inj hM; subst hz; exact ⟨rfl, fr, e_pa, e_ta, e_lf, e_bl, e_si, e_sw⟩)
    have LP130 : ∀ (fu : Nat) (x3_130 : Int32) (csw_130 : Nat → Int64) (fl130 : Nat → va_E) (H : Heap) (locs : List Loc) (ls : Array Slot), (mX7_spread_L130 th3 o18 z125) fu x3_130 csw_130 = some o130 → PS D g (va_A (va_pl L f) szz) s.heap s L fl130 H locs → fl130 so = .inr (5, [.ref pa, .ref ta, .ref lf, .ref bl, .ref si, .ref tt, .ref tp, .int cn, .int th3]) → fl130 pa = .inl (g 0, 3000, .inl o18.2.1) → fl130 ta = .inl (g 0, 1000, .inl o18.2.2.1) → fl130 lf = .inl (g 0, 3774, .inl o18.2.2.2.1) → fl130 bl = .inl (g 0, 3774, .inl o18.2.2.2.2) → fl130 si = .inr (1, [.ref sw, .int z125.1]) → fl130 sw = .inl (g 1, 64, .inr (.inl csw_130)) → fl130 tt = .inl (g 0, 1000, .inl vtt) → fl130 tp = .inl (g 0, 1000, .inl vtp) → fl130 o = .inr (0, [.ref ro, .int no]) → fl130 ro = .inl (g 1, 1000, .inr (.inl vo)) → (∀ b, b ∈ L → b ≠ pa → b ≠ ta → b ≠ lf → b ≠ bl → b ≠ si → b ≠ sw → fl130 b = f b) → lv_has ls 8 [(3, .int x3_130), (0, .ref so)] → W p l e { frames := 2, cells := 0, slots := 0, locals := 45 } s m [.ref so, .ref o, .int sd].toArray below meth c H locs 0 0 QQ (F0 m 130 ls []) := by
      intro fu
      induction fu with
      | zero => intro x3_130 csw_130 fl130 H locs ls ho130 S e_so e_pa e_ta e_lf e_bl e_si e_sw e_tt e_tp e_o e_ro fr hl; exact no_some ho130
      | succ fu ih130 =>
        intro x3_130 csw_130 fl130 H locs ls ho130 S e_so e_pa e_ta e_lf e_bl e_si e_sw e_tt e_tp e_o e_ro fr hl
        rw [mX7_spread_L130] at ho130
        refine lv_iload_n hx hb dX7_spread_130 rfl (lv_at hl 0 rfl) ?_
        refine lv_aload_n hx hb dX7_spread_131 rfl (lv_at hl 1 rfl) ?_
        obtain ⟨z132, hz132, ho130⟩ := bind_some ho130
        refine q_vi (As := []) (rest := [.int x3_130]) ⟨hx, hb, hml, hown, hts⟩ (k_X7_places l D g m_so e_so hz132) (cwV 0 hts gX7_spread_X7_places rfl rfl rfl (by decide +kernel) ⟨Nat.le_of_ble_eq_true rfl, Nat.le_of_ble_eq_true rfl⟩) S m_so e_so (T := TX7) (N := 9) rfl rfl hl.1 rfl (Nat.le_of_ble_eq_true rfl) dX7_spread_132 ⟨Nat.le_of_ble_eq_true rfl, Nat.le_of_ble_eq_true rfl⟩ (fun r15 L13 f14 H locs S w132 => ?_)
        obtain ⟨ex132, eL, ef⟩ := w132
        rw [eL, ef] at S
        replace ex132 := ex132.symm
        subst ex132
        refine lv_icmp_ge (tgt := 149) hx hb dX7_spread_135 (by decide) (fun b135 => ?_) (fun b135 => ?_)
        · have ho130 := itT b135 ho130
          obtain rfl := Option.some.inj ho130
          exact EX130 fl130 _ _ _ S e_so e_pa e_ta e_lf e_bl e_si e_sw e_tt e_tp e_o e_ro fr (lv_sub hl [] rfl)
        · have ho130 := itF b135 ho130
          refine lv_aload_n hx hb dX7_spread_138 rfl (lv_at hl 1 rfl) ?_
          refine lv_iload_n hx hb dX7_spread_139 rfl (lv_at hl 0 rfl) ?_
          obtain ⟨z140, hz140, ho130⟩ := bind_some ho130
          refine q_vv (As := [.int x3_130]) (rest := []) ⟨hx, hb, hml, hown, hts⟩ (k_X7_noteIfSingle l D g m_so e_so m_lf e_lf m_si e_si m_sw e_sw hz140) (cwV 1 hts gX7_spread_X7_noteIfSingle rfl rfl rfl (by decide +kernel) ⟨Nat.le_of_ble_eq_true rfl, Nat.le_of_ble_eq_true rfl⟩) S m_so e_so (T := TX7) (N := 9) rfl rfl hl.1 rfl (Nat.le_of_ble_eq_true rfl) dX7_spread_140 ⟨Nat.le_of_ble_eq_true rfl, Nat.le_of_ble_eq_true rfl⟩ (fun L16 f17 H locs S w140 => ?_)
          obtain ⟨eL, fv140, E_sw⟩ := w140
          rw [eL] at S
          have fr : ∀ b, b ∈ L → b ≠ pa → b ≠ ta → b ≠ lf → b ≠ bl → b ≠ si → b ≠ sw → f17 b = f b := fun b mb nb0 nb1 nb2 nb3 nb4 nb5 => (fv140 b mb nb5).trans (fr b mb nb0 nb1 nb2 nb3 nb4 nb5)
          have e_sw : f17 sw = .inl (g 1, 64, .inr (.inl z140)) := E_sw
          refine lv_iinc (v := (x3_130 + 1)) (lv' := [(3, .int (x3_130 + 1)), (0, .ref so)]) hx hb dX7_spread_143 hl (k := 0) rfl rfl (by decide) rfl (fun ls hl => ?_)
          refine lv_goto (tgt := 130) hx hb dX7_spread_146 (by decide) ?_
          have e_so := ((fv140 so m_so n_so_sw).trans e_so)
          have e_pa := ((fv140 pa m_pa n_pa_sw).trans e_pa)
          have e_ta := ((fv140 ta m_ta n_ta_sw).trans e_ta)
          have e_lf := ((fv140 lf m_lf n_lf_sw).trans e_lf)
          have e_bl := ((fv140 bl m_bl n_bl_sw).trans e_bl)
          have e_si := ((fv140 si m_si n_si_sw).trans e_si)
          have e_tt := ((fv140 tt m_tt n_tt_sw).trans e_tt)
          have e_tp := ((fv140 tp m_tp n_tp_sw).trans e_tp)
          have e_o := ((fv140 o m_o n_o_sw).trans e_o)
          have e_ro := ((fv140 ro m_ro n_ro_sw).trans e_ro)
          exact ih130 (x3_130 + 1) z140 f17 _ _ _ ho130 S e_so e_pa e_ta e_lf e_bl e_si e_sw e_tt e_tp e_o e_ro fr (lv_sub hl [0, 1] rfl)
    exact LP130 FU (0 : Int32) z125.2 f11 _ _ _ ho130 S e_so e_pa e_ta e_lf e_bl e_si e_sw e_tt e_tp e_o e_ro fr (lv_sub hl [0, 1] rfl)
  have LP18 : ∀ (fu : Nat) (x3_18 : Int32) (cpa_18 : Nat → Int32) (cta_18 : Nat → Int32) (clf_18 : Nat → Int32) (cbl_18 : Nat → Int32) (fl18 : Nat → va_E) (H : Heap) (locs : List Loc) (ls : Array Slot), (mX7_spread_L18 cn th3 no vo sd) fu x3_18 cpa_18 cta_18 clf_18 cbl_18 = some o18 → PS D g (va_A (va_pl L f) szz) s.heap s L fl18 H locs → fl18 so = .inr (5, [.ref pa, .ref ta, .ref lf, .ref bl, .ref si, .ref tt, .ref tp, .int cn, .int th3]) → fl18 pa = .inl (g 0, 3000, .inl cpa_18) → fl18 ta = .inl (g 0, 1000, .inl cta_18) → fl18 lf = .inl (g 0, 3774, .inl clf_18) → fl18 bl = .inl (g 0, 3774, .inl cbl_18) → fl18 si = .inr (1, [.ref sw, .int z0]) → fl18 sw = .inl (g 1, 64, .inr (.inl vsw)) → fl18 tt = .inl (g 0, 1000, .inl vtt) → fl18 tp = .inl (g 0, 1000, .inl vtp) → fl18 o = .inr (0, [.ref ro, .int no]) → fl18 ro = .inl (g 1, 1000, .inr (.inl vo)) → (∀ b, b ∈ L → b ≠ pa → b ≠ ta → b ≠ lf → b ≠ bl → b ≠ si → b ≠ sw → fl18 b = f b) → lv_has ls 8 [(3, .int x3_18), (0, .ref so), (1, .ref o), (2, .int sd)] → W p l e { frames := 2, cells := 0, slots := 0, locals := 45 } s m [.ref so, .ref o, .int sd].toArray below meth c H locs 0 0 QQ (F0 m 18 ls []) := by
    intro fu
    induction fu with
    | zero => intro x3_18 cpa_18 cta_18 clf_18 cbl_18 fl18 H locs ls ho18 S e_so e_pa e_ta e_lf e_bl e_si e_sw e_tt e_tp e_o e_ro fr hl; exact no_some ho18
    | succ fu ih18 =>
      intro x3_18 cpa_18 cta_18 clf_18 cbl_18 fl18 H locs ls ho18 S e_so e_pa e_ta e_lf e_bl e_si e_sw e_tt e_tp e_o e_ro fr hl
      rw [mX7_spread_L18] at ho18
      refine lv_iload_n hx hb dX7_spread_18 rfl (lv_at hl 0 rfl) ?_
      refine lv_aload_n hx hb dX7_spread_19 rfl (lv_at hl 1 rfl) ?_
      refine q_get hx hb hts in_X7 hown S m_so e_so (C := RX7) (T := TX7) (N := 9) rfl 7 (by decide) rfl (hts (.fieldLink RX7 47 "SieveCabinet$Solver" "count" "I") (gu_wsX7_spread_1 _ gm_2)) dX7_spread_20 ?_
      refine lv_icmp_ge (tgt := 117) hx hb dX7_spread_23 (by decide) (fun b23 => ?_) (fun b23 => ?_)
      · have ho18 := itT b23 ho18
        obtain rfl := Option.some.inj ho18
        exact EX18 fl18 _ _ _ S e_so e_pa e_ta e_lf e_bl e_si e_sw e_tt e_tp e_o e_ro fr (lv_sub hl [1] rfl)
      · have ho18 := itF b23 ho18
        refine lv_aload_n hx hb dX7_spread_26 rfl (lv_at hl 2 rfl) ?_
        refine lv_iload_n hx hb dX7_spread_27 rfl (lv_at hl 0 rfl) ?_
        obtain ⟨z28, hz28, ho18⟩ := bind_some ho18
        refine q_vl (As := [.int x3_18]) (rest := []) ⟨hx, hb, hml, hown, hts⟩ (k_X0_at l D g m_o e_o m_ro e_ro hz28) (cwV 1 hts gX7_spread_X0_at rfl rfl rfl (by decide +kernel) ⟨Nat.le_of_ble_eq_true rfl, Nat.le_of_ble_eq_true rfl⟩) S m_o e_o (T := TX0) (N := 2) rfl rfl hl.1 rfl (Nat.le_of_ble_eq_true rfl) dX7_spread_28 ⟨Nat.le_of_ble_eq_true rfl, Nat.le_of_ble_eq_true rfl⟩ (fun r21 L19 f20 H locs S w28 => ?_)
        obtain ⟨ex28, eL, ef⟩ := w28
        rw [eL, ef] at S
        replace ex28 := ex28.symm
        subst ex28
        refine lv_iload_n hx hb dX7_spread_31 rfl (lv_at hl 3 rfl) ?_
        obtain ⟨z32, hz32, ho18⟩ := bind_some ho18
        refine q_sl (As := [.long z28, .int sd]) (rest := []) ⟨hx, hb, hml, hown, hts⟩ (k_X4_of l D g hz32) (va_cwS 2 hts gX7_spread_X4_of rfl rfl rfl (by decide +kernel) ⟨Nat.le_of_ble_eq_true rfl, Nat.le_of_ble_eq_true rfl⟩) S rfl hl.1 rfl (Nat.le_of_ble_eq_true rfl) dX7_spread_32 ⟨Nat.le_of_ble_eq_true rfl, Nat.le_of_ble_eq_true rfl⟩ (fun r24 L22 f23 H locs S w32 => ?_)
        obtain ⟨ex32, eL, ef⟩ := w32
        rw [eL, ef] at S
        replace ex32 := ex32.symm
        subst ex32
        refine lv_lstore (lv' := [(4, .long z32), (3, .int x3_18), (0, .ref so), (1, .ref o), (2, .int sd)]) hx hb dX7_spread_35 hl (by decide) rfl (fun ls hl => ?_)
        refine lv_aload_n hx hb dX7_spread_37 rfl (lv_at hl 2 rfl) ?_
        refine q_get hx hb hts in_X7 hown S m_so e_so (C := RX7) (T := TX7) (N := 9) rfl 1 (by decide) rfl (hts (.fieldLink RX7 15 "SieveCabinet$Solver" "tagOf" "[I") (gu_wsX7_spread_1 _ gm_3)) dX7_spread_38 ?_
        refine lv_iload_n hx hb dX7_spread_41 rfl (lv_at hl 1 rfl) ?_
        refine lv_lload hx hb dX7_spread_42 (lv_at hl 0 rfl) ?_
        obtain ⟨z44, hz44, ho18⟩ := bind_some ho18
        refine q_si (As := [.long z32]) (rest := [.int x3_18, .ref ta]) ⟨hx, hb, hml, hown, hts⟩ (k_X4_solvedTag l D g hz44) (va_cwS 1 hts gX7_spread_X4_solvedTag rfl rfl rfl (by decide +kernel) ⟨Nat.le_of_ble_eq_true rfl, Nat.le_of_ble_eq_true rfl⟩) S rfl hl.1 rfl (Nat.le_of_ble_eq_true rfl) dX7_spread_44 ⟨Nat.le_of_ble_eq_true rfl, Nat.le_of_ble_eq_true rfl⟩ (fun r27 L25 f26 H locs S w44 => ?_)
        obtain ⟨ex44, eL, ef⟩ := w44
        rw [eL, ef] at S
        replace ex44 := ex44.symm
        subst ex44
        obtain ⟨hi47, ho18⟩ := ckx ho18
        refine k_iast hx hb S m_ta e_ta hi47 dX7_spread_47 (fun f28 ef28 H locs S => ?_)
        have e_ta := up_self ef28
        have fr : ∀ b, b ∈ L → b ≠ pa → b ≠ ta → b ≠ lf → b ≠ bl → b ≠ si → b ≠ sw → f28 b = f b := fun b mb nb0 nb1 nb2 nb3 nb4 nb5 => (up_ne ef28 nb1 rfl).trans (fr b mb nb0 nb1 nb2 nb3 nb4 nb5)
        refine lv_iconst (v := (0 : Int32)) hx hb dX7_spread_48 (by decide) ?_
        refine lv_istore (lv' := [(6, .int (0 : Int32)), (4, .long z32), (3, .int x3_18), (0, .ref so), (1, .ref o), (2, .int sd)]) hx hb dX7_spread_49 hl (by decide) rfl (fun ls hl => ?_)
        have e_so := (up_ne ef28 n_so_ta e_so)
        have e_pa := (up_ne ef28 n_pa_ta e_pa)
        have e_lf := (up_ne ef28 n_lf_ta e_lf)
        have e_bl := (up_ne ef28 n_bl_ta e_bl)
        have e_si := (up_ne ef28 n_si_ta e_si)
        have e_sw := (up_ne ef28 n_sw_ta e_sw)
        have e_tt := (up_ne ef28 n_tt_ta e_tt)
        have e_tp := (up_ne ef28 n_tp_ta e_tp)
        have e_o := (up_ne ef28 n_o_ta e_o)
        have e_ro := (up_ne ef28 n_ro_ta e_ro)
        obtain ⟨o51, ho51, ho18⟩ := bind_some ho18
        have EX51 : ∀ (fl51 : Nat → va_E) (H : Heap) (locs : List Loc) (ls : Array Slot), PS D g (va_A (va_pl L f) szz) s.heap s L fl51 H locs → fl51 so = .inr (5, [.ref pa, .ref ta, .ref lf, .ref bl, .ref si, .ref tt, .ref tp, .int cn, .int th3]) → fl51 pa = .inl (g 0, 3000, .inl o51.2.1) → fl51 ta = .inl (g 0, 1000, .inl (upd cta_18 (Int32.toNatClampNeg x3_18) z44)) → fl51 lf = .inl (g 0, 3774, .inl o51.2.2.1) → fl51 bl = .inl (g 0, 3774, .inl o51.2.2.2) → fl51 si = .inr (1, [.ref sw, .int z0]) → fl51 sw = .inl (g 1, 64, .inr (.inl vsw)) → fl51 tt = .inl (g 0, 1000, .inl vtt) → fl51 tp = .inl (g 0, 1000, .inl vtp) → fl51 o = .inr (0, [.ref ro, .int no]) → fl51 ro = .inl (g 1, 1000, .inr (.inl vo)) → (∀ b, b ∈ L → b ≠ pa → b ≠ ta → b ≠ lf → b ≠ bl → b ≠ si → b ≠ sw → fl51 b = f b) → lv_has ls 8 [(3, .int x3_18), (0, .ref so), (1, .ref o), (2, .int sd)] → W p l e { frames := 2, cells := 0, slots := 0, locals := 45 } s m [.ref so, .ref o, .int sd].toArray below meth c H locs 0 0 QQ (F0 m 111 ls []) := by
          intro fl51 H locs ls S e_so e_pa e_ta e_lf e_bl e_si e_sw e_tt e_tp e_o e_ro fr hl
          refine lv_iinc (v := (x3_18 + 1)) (lv' := [(3, .int (x3_18 + 1)), (0, .ref so), (1, .ref o), (2, .int sd)]) hx hb dX7_spread_111 hl (k := 0) rfl rfl (by decide) rfl (fun ls hl => ?_)
          refine lv_goto (tgt := 18) hx hb dX7_spread_114 (by decide) ?_
          exact ih18 (x3_18 + 1) o51.2.1 (upd cta_18 (Int32.toNatClampNeg x3_18) z44) o51.2.2.1 o51.2.2.2 fl51 _ _ _ ho18 S e_so e_pa e_ta e_lf e_bl e_si e_sw e_tt e_tp e_o e_ro fr (lv_sub hl [0, 1, 2, 3] rfl)
        have LP51 : ∀ (fu : Nat) (x6_51 : Int32) (cpa_51 : Nat → Int32) (clf_51 : Nat → Int32) (cbl_51 : Nat → Int32) (fl51 : Nat → va_E) (H : Heap) (locs : List Loc) (ls : Array Slot), (mX7_spread_L51 th3 z32 x3_18) fu x6_51 cpa_51 clf_51 cbl_51 = some o51 → PS D g (va_A (va_pl L f) szz) s.heap s L fl51 H locs → fl51 so = .inr (5, [.ref pa, .ref ta, .ref lf, .ref bl, .ref si, .ref tt, .ref tp, .int cn, .int th3]) → fl51 pa = .inl (g 0, 3000, .inl cpa_51) → fl51 ta = .inl (g 0, 1000, .inl (upd cta_18 (Int32.toNatClampNeg x3_18) z44)) → fl51 lf = .inl (g 0, 3774, .inl clf_51) → fl51 bl = .inl (g 0, 3774, .inl cbl_51) → fl51 si = .inr (1, [.ref sw, .int z0]) → fl51 sw = .inl (g 1, 64, .inr (.inl vsw)) → fl51 tt = .inl (g 0, 1000, .inl vtt) → fl51 tp = .inl (g 0, 1000, .inl vtp) → fl51 o = .inr (0, [.ref ro, .int no]) → fl51 ro = .inl (g 1, 1000, .inr (.inl vo)) → (∀ b, b ∈ L → b ≠ pa → b ≠ ta → b ≠ lf → b ≠ bl → b ≠ si → b ≠ sw → fl51 b = f b) → lv_has ls 8 [(6, .int x6_51), (4, .long z32), (3, .int x3_18), (0, .ref so), (1, .ref o), (2, .int sd)] → W p l e { frames := 2, cells := 0, slots := 0, locals := 45 } s m [.ref so, .ref o, .int sd].toArray below meth c H locs 0 0 QQ (F0 m 51 ls []) := by
          intro fu
          induction fu with
          | zero => intro x6_51 cpa_51 clf_51 cbl_51 fl51 H locs ls ho51 S e_so e_pa e_ta e_lf e_bl e_si e_sw e_tt e_tp e_o e_ro fr hl; exact no_some ho51
          | succ fu ih51 =>
            intro x6_51 cpa_51 clf_51 cbl_51 fl51 H locs ls ho51 S e_so e_pa e_ta e_lf e_bl e_si e_sw e_tt e_tp e_o e_ro fr hl
            rw [mX7_spread_L51] at ho51
            refine lv_iload hx hb dX7_spread_51 (lv_at hl 0 rfl) ?_
            refine lv_iconst (v := (3 : Int32)) hx hb dX7_spread_53 (by decide) ?_
            refine lv_icmp_ge (tgt := 111) hx hb dX7_spread_54 (by decide) (fun b54 => ?_) (fun b54 => ?_)
            · have ho51 := itT b54 ho51
              obtain rfl := Option.some.inj ho51
              exact EX51 fl51 _ _ _ S e_so e_pa e_ta e_lf e_bl e_si e_sw e_tt e_tp e_o e_ro fr (lv_sub hl [2, 3, 4, 5] rfl)
            · have ho51 := itF b54 ho51
              refine lv_lload hx hb dX7_spread_57 (lv_at hl 1 rfl) ?_
              refine lv_iload hx hb dX7_spread_59 (lv_at hl 0 rfl) ?_
              refine lv_aload_n hx hb dX7_spread_61 rfl (lv_at hl 3 rfl) ?_
              refine q_get hx hb hts in_X7 hown S m_so e_so (C := RX7) (T := TX7) (N := 9) rfl 8 (by decide) rfl (hts (.fieldLink RX7 37 "SieveCabinet$Solver" "third" "I") (gu_wsX7_spread_1 _ gm_4)) dX7_spread_62 ?_
              obtain ⟨z65, hz65, ho51⟩ := bind_some ho51
              refine q_si (As := [.long z32, .int x6_51, .int th3]) (rest := []) ⟨hx, hb, hml, hown, hts⟩ (k_X4_solvedPlace l D g hz65) (va_cwS 3 hts gX7_spread_X4_solvedPlace rfl rfl rfl (by decide +kernel) ⟨Nat.le_of_ble_eq_true rfl, Nat.le_of_ble_eq_true rfl⟩) S rfl hl.1 rfl (Nat.le_of_ble_eq_true rfl) dX7_spread_65 ⟨Nat.le_of_ble_eq_true rfl, Nat.le_of_ble_eq_true rfl⟩ (fun r31 L29 f30 H locs S w65 => ?_)
              obtain ⟨ex65, eL, ef⟩ := w65
              rw [eL, ef] at S
              replace ex65 := ex65.symm
              subst ex65
              refine lv_istore (lv' := [(7, .int z65), (6, .int x6_51), (4, .long z32), (3, .int x3_18), (0, .ref so), (1, .ref o), (2, .int sd)]) hx hb dX7_spread_68 hl (by decide) rfl (fun ls hl => ?_)
              refine lv_aload_n hx hb dX7_spread_70 rfl (lv_at hl 4 rfl) ?_
              refine q_get hx hb hts in_X7 hown S m_so e_so (C := RX7) (T := TX7) (N := 9) rfl 0 (by decide) rfl (hts (.fieldLink RX7 9 "SieveCabinet$Solver" "placeOf" "[I") (gu_wsX7_spread_1 _ gm_5)) dX7_spread_71 ?_
              refine lv_iconst (v := (3 : Int32)) hx hb dX7_spread_74 (by decide) ?_
              refine lv_iload_n hx hb dX7_spread_75 rfl (lv_at hl 3 rfl) ?_
              refine lv_imul hx hb dX7_spread_76 ?_
              refine lv_iload hx hb dX7_spread_77 (lv_at hl 1 rfl) ?_
              refine lv_iadd hx hb dX7_spread_79 ?_
              refine lv_iload hx hb dX7_spread_80 (lv_at hl 0 rfl) ?_
              obtain ⟨hi82, ho51⟩ := ckx ho51
              refine k_iast hx hb S m_pa e_pa hi82 dX7_spread_82 (fun f32 ef32 H locs S => ?_)
              have e_pa := up_self ef32
              have fr : ∀ b, b ∈ L → b ≠ pa → b ≠ ta → b ≠ lf → b ≠ bl → b ≠ si → b ≠ sw → f32 b = f b := fun b mb nb0 nb1 nb2 nb3 nb4 nb5 => (up_ne ef32 nb0 rfl).trans (fr b mb nb0 nb1 nb2 nb3 nb4 nb5)
              refine lv_aload_n hx hb dX7_spread_83 rfl (lv_at hl 4 rfl) ?_
              have e_so := (up_ne ef32 n_so_pa e_so)
              refine q_get hx hb hts in_X7 hown S m_so e_so (C := RX7) (T := TX7) (N := 9) rfl 2 (by decide) rfl (hts (.fieldLink RX7 18 "SieveCabinet$Solver" "left" "[I") (gu_wsX7_spread_1 _ gm_0)) dX7_spread_84 ?_
              refine lv_iload hx hb dX7_spread_87 (lv_at hl 0 rfl) ?_
              refine lv_dup2_11 hx hb dX7_spread_89 rfl rfl ?_
              obtain ⟨hi90, ho51⟩ := ckx ho51
              have e_lf := (up_ne ef32 n_lf_pa e_lf)
              refine q_iald hx hb S m_lf e_lf hi90 dX7_spread_90 ?_
              refine lv_iconst (v := (1 : Int32)) hx hb dX7_spread_91 (by decide) ?_
              refine lv_iadd hx hb dX7_spread_92 ?_
              obtain ⟨hi93, ho51⟩ := ckx ho51
              refine k_iast hx hb S m_lf e_lf hi93 dX7_spread_93 (fun f33 ef33 H locs S => ?_)
              have e_lf := up_self ef33
              have fr : ∀ b, b ∈ L → b ≠ pa → b ≠ ta → b ≠ lf → b ≠ bl → b ≠ si → b ≠ sw → f33 b = f b := fun b mb nb0 nb1 nb2 nb3 nb4 nb5 => (up_ne ef33 nb2 rfl).trans (fr b mb nb0 nb1 nb2 nb3 nb4 nb5)
              refine lv_aload_n hx hb dX7_spread_94 rfl (lv_at hl 4 rfl) ?_
              have e_so := (up_ne ef33 n_so_lf e_so)
              refine q_get hx hb hts in_X7 hown S m_so e_so (C := RX7) (T := TX7) (N := 9) rfl 3 (by decide) rfl (hts (.fieldLink RX7 21 "SieveCabinet$Solver" "blend" "[I") (gu_wsX7_spread_1 _ gm_1)) dX7_spread_95 ?_
              refine lv_iload hx hb dX7_spread_98 (lv_at hl 0 rfl) ?_
              refine lv_dup2_11 hx hb dX7_spread_100 rfl rfl ?_
              obtain ⟨hi101, ho51⟩ := ckx ho51
              have e_bl := (up_ne ef33 n_bl_lf (up_ne ef32 n_bl_pa e_bl))
              refine q_iald hx hb S m_bl e_bl hi101 dX7_spread_101 ?_
              refine lv_iload_n hx hb dX7_spread_102 rfl (lv_at hl 3 rfl) ?_
              refine lv_ixor hx hb dX7_spread_103 ?_
              obtain ⟨hi104, ho51⟩ := ckx ho51
              refine k_iast hx hb S m_bl e_bl hi104 dX7_spread_104 (fun f34 ef34 H locs S => ?_)
              have e_bl := up_self ef34
              have fr : ∀ b, b ∈ L → b ≠ pa → b ≠ ta → b ≠ lf → b ≠ bl → b ≠ si → b ≠ sw → f34 b = f b := fun b mb nb0 nb1 nb2 nb3 nb4 nb5 => (up_ne ef34 nb3 rfl).trans (fr b mb nb0 nb1 nb2 nb3 nb4 nb5)
              refine lv_iinc (v := (x6_51 + 1)) (lv' := [(6, .int (x6_51 + 1)), (7, .int z65), (4, .long z32), (3, .int x3_18), (0, .ref so), (1, .ref o), (2, .int sd)]) hx hb dX7_spread_105 hl (k := 1) rfl rfl (by decide) rfl (fun ls hl => ?_)
              refine lv_goto (tgt := 51) hx hb dX7_spread_108 (by decide) ?_
              have e_so := (up_ne ef34 n_so_bl e_so)
              have e_pa := (up_ne ef34 n_pa_bl (up_ne ef33 n_pa_lf e_pa))
              have e_ta := (up_ne ef34 n_ta_bl (up_ne ef33 n_ta_lf (up_ne ef32 n_ta_pa e_ta)))
              have e_lf := (up_ne ef34 n_lf_bl e_lf)
              have e_si := (up_ne ef34 n_si_bl (up_ne ef33 n_si_lf (up_ne ef32 n_si_pa e_si)))
              have e_sw := (up_ne ef34 n_sw_bl (up_ne ef33 n_sw_lf (up_ne ef32 n_sw_pa e_sw)))
              have e_tt := (up_ne ef34 n_tt_bl (up_ne ef33 n_tt_lf (up_ne ef32 n_tt_pa e_tt)))
              have e_tp := (up_ne ef34 n_tp_bl (up_ne ef33 n_tp_lf (up_ne ef32 n_tp_pa e_tp)))
              have e_o := (up_ne ef34 n_o_bl (up_ne ef33 n_o_lf (up_ne ef32 n_o_pa e_o)))
              have e_ro := (up_ne ef34 n_ro_bl (up_ne ef33 n_ro_lf (up_ne ef32 n_ro_pa e_ro)))
              exact ih51 (x6_51 + 1) (upd cpa_51 (Int32.toNatClampNeg (((3 : Int32) * x3_18) + x6_51)) z65) (upd clf_51 (Int32.toNatClampNeg z65) ((clf_51 (Int32.toNatClampNeg z65)) + (1 : Int32))) (upd cbl_51 (Int32.toNatClampNeg z65) ((cbl_51 (Int32.toNatClampNeg z65)) ^^^ x3_18)) f34 _ _ _ ho51 S e_so e_pa e_ta e_lf e_bl e_si e_sw e_tt e_tp e_o e_ro fr (lv_sub hl [0, 2, 3, 4, 5, 6] rfl)
        exact LP51 FU (0 : Int32) cpa_18 clf_18 cbl_18 f28 _ _ _ ho51 S e_so e_pa e_ta e_lf e_bl e_si e_sw e_tt e_tp e_o e_ro fr (lv_sub hl [0, 1, 2, 3, 4, 5] rfl)
  exact LP18 FU (0 : Int32) vpa vta z5 z13 f5 _ _ _ ho18 S e_so e_pa e_ta e_lf e_bl e_si e_sw e_tt e_tp e_o e_ro fr (lv_sub hl [0, 1, 2, 3] rfl)

def mX7_triesUntilSolved_L28 (no : Int32) (vo : Nat → Int64) (sd : Int32) (z2 : Int32) : Nat → Int32 → (Nat → Int32) → (Nat → Int32) → (Nat → Int32) → (Nat → Int32) → Int32 → (Nat → Int64) → (Nat → Int32) → (Nat → Int32) → Option ((Int32 × Int32 × Int32 × (Nat → Int32) × (Nat → Int32) × (Nat → Int32) × (Nat → Int32) × Int32 × (Nat → Int64) × (Nat → Int32) × (Nat → Int32)) ⊕ (Int32 × (Nat → Int32) × (Nat → Int32) × (Nat → Int32) × (Nat → Int32) × Int32 × (Nat → Int64) × (Nat → Int32) × (Nat → Int32)))
  | 0, _, _, _, _, _, _, _, _, _ => none
  | fu + 1, x3_28, cpa_28, cta_28, clf_28, cbl_28, csi_1_28, csw_28, ctt_28, ctp_28 => if (50 : Int32) ≤ x3_28 then (some (.inr (x3_28, cpa_28, cta_28, clf_28, cbl_28, csi_1_28, csw_28, ctt_28, ctp_28))) else ((mX7_spread z2 ((z2 + (z2 / (4 : Int32))) + (8 : Int32)) cpa_28 cta_28 clf_28 cbl_28 csw_28 no vo (sd + x3_28)).bind fun z39 => (mX7_takeAllOff z2 z39.1 z39.2.2.1 z39.2.2.2.1 z39.2.2.2.2.1 z39.2.2.2.2.2 ctt_28 ctp_28).bind fun z43 => if z43.1 = 0 then (mX7_triesUntilSolved_L28 no vo sd z2 fu (x3_28 + 1) z39.1 z39.2.1 z43.2.1 z43.2.2.1 z39.2.2.2.2.1 z43.2.2.2.1 z43.2.2.2.2.1 z43.2.2.2.2.2) else (some (.inl (x3_28, z2, ((z2 + (z2 / (4 : Int32))) + (8 : Int32)), z39.1, z39.2.1, z43.2.1, z43.2.2.1, z39.2.2.2.2.1, z43.2.2.2.1, z43.2.2.2.2.1, z43.2.2.2.2.2))))
def mX7_triesUntilSolved (vpa : Nat → Int32) (vta : Nat → Int32) (vlf : Nat → Int32) (vbl : Nat → Int32) (z0 : Int32) (vsw : Nat → Int64) (vtt : Nat → Int32) (vtp : Nat → Int32) (no : Int32) (vo : Nat → Int64) (sd : Int32) : Option (Int32 × Int32 × Int32 × (Nat → Int32) × (Nat → Int32) × (Nat → Int32) × (Nat → Int32) × Int32 × (Nat → Int64) × (Nat → Int32) × (Nat → Int32)) := (mX0_count no).bind fun z2 => (mX7_triesUntilSolved_L28 no vo sd z2 FU (0 : Int32) vpa vta vlf vbl z0 vsw vtt vtp).bind fun o28 => Sum.elim (fun r_ => some r_) (fun s28 => some ((-1 : Int32), z2, ((z2 + (z2 / (4 : Int32))) + (8 : Int32)), s28.2.1, s28.2.2.1, s28.2.2.2.1, s28.2.2.2.2.1, s28.2.2.2.2.2.1, s28.2.2.2.2.2.2.1, s28.2.2.2.2.2.2.2.1, s28.2.2.2.2.2.2.2.2)) o28
set_option maxHeartbeats 4000000 in
set_option maxRecDepth 100000 in
theorem k_X7_triesUntilSolved (l : Launch) (D : va_G) (g : Nat → ClassId) {L : List Nat} {f : Nat → va_E} {bl lf o pa ro si so sw ta tp tt : Nat} {cn : Int32} {th3 : Int32} {vpa : Nat → Int32} {vta : Nat → Int32} {vlf : Nat → Int32} {vbl : Nat → Int32} {z0 : Int32} {vsw : Nat → Int64} {vtt : Nat → Int32} {vtp : Nat → Int32} {no : Int32} {vo : Nat → Int64} {sd : Int32} {z : Int32 × Int32 × Int32 × (Nat → Int32) × (Nat → Int32) × (Nat → Int32) × (Nat → Int32) × Int32 × (Nat → Int64) × (Nat → Int32) × (Nat → Int32)} (m_so : so ∈ L) (e_so : f so = .inr (5, [.ref pa, .ref ta, .ref lf, .ref bl, .ref si, .ref tt, .ref tp, .int cn, .int th3])) (m_pa : pa ∈ L) (e_pa : f pa = .inl (g 0, 3000, .inl vpa)) (m_ta : ta ∈ L) (e_ta : f ta = .inl (g 0, 1000, .inl vta)) (m_lf : lf ∈ L) (e_lf : f lf = .inl (g 0, 3774, .inl vlf)) (m_bl : bl ∈ L) (e_bl : f bl = .inl (g 0, 3774, .inl vbl)) (m_si : si ∈ L) (e_si : f si = .inr (1, [.ref sw, .int z0])) (m_sw : sw ∈ L) (e_sw : f sw = .inl (g 1, 64, .inr (.inl vsw))) (m_tt : tt ∈ L) (e_tt : f tt = .inl (g 0, 1000, .inl vtt)) (m_tp : tp ∈ L) (e_tp : f tp = .inl (g 0, 1000, .inl vtp)) (m_o : o ∈ L) (e_o : f o = .inr (0, [.ref ro, .int no])) (m_ro : ro ∈ L) (e_ro : f ro = .inl (g 1, 1000, .inr (.inl vo))) (n_bl_lf : bl ≠ lf) (n_tt_ta : tt ≠ ta) (n_tp_ta : tp ≠ ta) (n_tp_tt : tp ≠ tt)   (hM : mX7_triesUntilSolved vpa vta vlf vbl z0 vsw vtt vtp no vo sd = some z) : cI l yX7_triesUntilSolved wsX7_triesUntilSolved { frames := 4, cells := 0, slots := 0, locals := 87 } D g [.ref so, .ref o, .int sd] L f 0 0 (fun x L1 f1 => x = z.1 ∧ L1 = L ∧ (∀ b, b ∈ L → b ≠ so → b ≠ pa → b ≠ ta → b ≠ lf → b ≠ bl → b ≠ si → b ≠ sw → b ≠ tt → b ≠ tp → f1 b = f b) ∧ f1 so = .inr (5, [.ref pa, .ref ta, .ref lf, .ref bl, .ref si, .ref tt, .ref tp, .int z.2.1, .int z.2.2.1]) ∧ f1 pa = .inl (g 0, 3000, .inl z.2.2.2.1) ∧ f1 ta = .inl (g 0, 1000, .inl z.2.2.2.2.1) ∧ f1 lf = .inl (g 0, 3774, .inl z.2.2.2.2.2.1) ∧ f1 bl = .inl (g 0, 3774, .inl z.2.2.2.2.2.2.1) ∧ f1 si = .inr (1, [.ref sw, .int z.2.2.2.2.2.2.2.1]) ∧ f1 sw = .inl (g 1, 64, .inr (.inl z.2.2.2.2.2.2.2.2.1)) ∧ f1 tt = .inl (g 0, 1000, .inl z.2.2.2.2.2.2.2.2.2.1) ∧ f1 tp = .inl (g 0, 1000, .inl z.2.2.2.2.2.2.2.2.2.2)) := by
  refine cI_of (cc := cX7_triesUntilSolved) (maxL := 4) (ret := (some .int)) (by decide) rfl (Nat.le_of_ble_eq_true rfl) ?_
  intro szz p e s m below meth c hx hb hr hml hts hown hlk hnm S ls hl
  have hl : lv_has ls 4 [(0, .ref so), (1, .ref o), (2, .int sd)] := hl
  have in_X7 : ∀ w ∈ wsX70, w ∈ wsX7_triesUntilSolved := gu_wsX7_triesUntilSolved_6
  have n_so_pa : so ≠ pa := ne_ir e_pa e_so
  have n_so_ta : so ≠ ta := ne_ir e_ta e_so
  have n_so_lf : so ≠ lf := ne_ir e_lf e_so
  have n_so_bl : so ≠ bl := ne_ir e_bl e_so
  have n_so_si : so ≠ si := ne_rr e_si e_so (by decide)
  have n_so_sw : so ≠ sw := ne_ir e_sw e_so
  have n_tt_pa : tt ≠ pa := ne_len e_pa e_tt (by decide)
  have n_tt_lf : tt ≠ lf := ne_len e_lf e_tt (by decide)
  have n_tt_bl : tt ≠ bl := ne_len e_bl e_tt (by decide)
  have n_tt_si : tt ≠ si := ne_ri e_si e_tt
  have n_tt_sw : tt ≠ sw := ne_len e_sw e_tt (by decide)
  have n_tp_pa : tp ≠ pa := ne_len e_pa e_tp (by decide)
  have n_tp_lf : tp ≠ lf := ne_len e_lf e_tp (by decide)
  have n_tp_bl : tp ≠ bl := ne_len e_bl e_tp (by decide)
  have n_tp_si : tp ≠ si := ne_ri e_si e_tp
  have n_tp_sw : tp ≠ sw := ne_len e_sw e_tp (by decide)
  have n_ta_tt := Ne.symm n_tt_ta
  have n_ta_tp := Ne.symm n_tp_ta
  have n_so_tt : so ≠ tt := ne_ir e_tt e_so
  have n_so_tp : so ≠ tp := ne_ir e_tp e_so
  have n_pa_lf : pa ≠ lf := ne_len e_lf e_pa (by decide)
  have n_pa_bl : pa ≠ bl := ne_len e_bl e_pa (by decide)
  have n_pa_sw : pa ≠ sw := ne_len e_sw e_pa (by decide)
  have n_pa_tt : pa ≠ tt := ne_len e_tt e_pa (by decide)
  have n_pa_tp : pa ≠ tp := ne_len e_tp e_pa (by decide)
  have n_ta_lf : ta ≠ lf := ne_len e_lf e_ta (by decide)
  have n_ta_bl : ta ≠ bl := ne_len e_bl e_ta (by decide)
  have n_ta_sw : ta ≠ sw := ne_len e_sw e_ta (by decide)
  have n_si_lf : si ≠ lf := ne_ir e_lf e_si
  have n_si_bl : si ≠ bl := ne_ir e_bl e_si
  have n_si_sw : si ≠ sw := ne_ir e_sw e_si
  have n_si_tt : si ≠ tt := ne_ir e_tt e_si
  have n_si_tp : si ≠ tp := ne_ir e_tp e_si
  have n_pa_so : pa ≠ so := ne_ri e_so e_pa
  have n_ta_so : ta ≠ so := ne_ri e_so e_ta
  have n_lf_so : lf ≠ so := ne_ri e_so e_lf
  have n_bl_so : bl ≠ so := ne_ri e_so e_bl
  have n_si_so : si ≠ so := ne_rr e_so e_si (by decide)
  have n_sw_so : sw ≠ so := ne_ri e_so e_sw
  have n_tt_so : tt ≠ so := ne_ri e_so e_tt
  have n_tp_so : tp ≠ so := ne_ri e_so e_tp
  have n_o_so : o ≠ so := ne_rr e_so e_o (by decide)
  have n_ro_so : ro ≠ so := ne_ri e_so e_ro
  have n_o_pa : o ≠ pa := ne_ir e_pa e_o
  have n_o_ta : o ≠ ta := ne_ir e_ta e_o
  have n_o_lf : o ≠ lf := ne_ir e_lf e_o
  have n_o_bl : o ≠ bl := ne_ir e_bl e_o
  have n_o_si : o ≠ si := ne_rr e_si e_o (by decide)
  have n_o_sw : o ≠ sw := ne_ir e_sw e_o
  have n_o_tt : o ≠ tt := ne_ir e_tt e_o
  have n_o_tp : o ≠ tp := ne_ir e_tp e_o
  have n_ro_pa : ro ≠ pa := ne_len e_pa e_ro (by decide)
  have n_ro_ta : ro ≠ ta := ne_01 e_ta e_ro
  have n_ro_lf : ro ≠ lf := ne_len e_lf e_ro (by decide)
  have n_ro_bl : ro ≠ bl := ne_len e_bl e_ro (by decide)
  have n_ro_si : ro ≠ si := ne_ri e_si e_ro
  have n_ro_sw : ro ≠ sw := ne_len e_sw e_ro (by decide)
  have n_ro_tt : ro ≠ tt := ne_01 e_tt e_ro
  have n_ro_tp : ro ≠ tp := ne_01 e_tp e_ro
  have fr : ∀ b, b ∈ L → b ≠ so → b ≠ pa → b ≠ ta → b ≠ lf → b ≠ bl → b ≠ si → b ≠ sw → b ≠ tt → b ≠ tp → f b = f b := fun _ _ _ _ _ _ _ _ _ _ _ => rfl
  unfold mX7_triesUntilSolved at hM
  refine W_gen (fun QQ hQQ => ?_)
  refine lv_aload_n hx hb dX7_triesUntilSolved_0 rfl (lv_at hl 0 rfl) ?_
  refine lv_aload_n hx hb dX7_triesUntilSolved_1 rfl (lv_at hl 1 rfl) ?_
  obtain ⟨z2, hz2, hM⟩ := bind_some hM
  refine q_vi (As := []) (rest := [.ref so]) ⟨hx, hb, hml, hown, hts⟩ (k_X0_count l D g m_o e_o hz2) (cwV 0 hts gX7_triesUntilSolved_X0_count rfl rfl rfl (by decide +kernel) ⟨Nat.le_of_ble_eq_true rfl, Nat.le_of_ble_eq_true rfl⟩) S m_o e_o (T := TX0) (N := 2) rfl rfl hl.1 rfl (Nat.le_of_ble_eq_true rfl) dX7_triesUntilSolved_2 ⟨Nat.le_of_ble_eq_true rfl, Nat.le_of_ble_eq_true rfl⟩ (fun r3 L1 f2 H locs S w2 => ?_)
  obtain ⟨ex2, eL, ef⟩ := w2
  rw [eL, ef] at S
  replace ex2 := ex2.symm
  subst ex2
  refine k_put hx hb hts in_X7 tyX7 tyX7_ok nmX7 hown S m_so e_so (C := RX7) (T := TX7) (N := 9) rfl 7 (by decide) (hts (.fieldLink RX7 47 "SieveCabinet$Solver" "count" "I") (gu_wsX7_triesUntilSolved_1 _ gm_0)) rfl rfl rfl (Nat.le_of_ble_eq_true rfl) dX7_triesUntilSolved_5 (fun f4 ef4 H locs S => ?_)
  have e_so : f4 so = .inr (5, [.ref pa, .ref ta, .ref lf, .ref bl, .ref si, .ref tt, .ref tp, .int z2, .int th3]) := up_self ef4
  have fr : ∀ b, b ∈ L → b ≠ so → b ≠ pa → b ≠ ta → b ≠ lf → b ≠ bl → b ≠ si → b ≠ sw → b ≠ tt → b ≠ tp → f4 b = f b := fun b mb nb0 nb1 nb2 nb3 nb4 nb5 nb6 nb7 nb8 => (up_ne ef4 nb0 rfl).trans (fr b mb nb0 nb1 nb2 nb3 nb4 nb5 nb6 nb7 nb8)
  refine lv_aload_n hx hb dX7_triesUntilSolved_8 rfl (lv_at hl 0 rfl) ?_
  refine lv_aload_n hx hb dX7_triesUntilSolved_9 rfl (lv_at hl 0 rfl) ?_
  refine q_get hx hb hts in_X7 hown S m_so e_so (C := RX7) (T := TX7) (N := 9) rfl 7 (by decide) rfl (hts (.fieldLink RX7 47 "SieveCabinet$Solver" "count" "I") (gu_wsX7_triesUntilSolved_1 _ gm_0)) dX7_triesUntilSolved_10 ?_
  refine lv_aload_n hx hb dX7_triesUntilSolved_13 rfl (lv_at hl 0 rfl) ?_
  refine q_get hx hb hts in_X7 hown S m_so e_so (C := RX7) (T := TX7) (N := 9) rfl 7 (by decide) rfl (hts (.fieldLink RX7 47 "SieveCabinet$Solver" "count" "I") (gu_wsX7_triesUntilSolved_1 _ gm_0)) dX7_triesUntilSolved_14 ?_
  refine lv_iconst (v := (4 : Int32)) hx hb dX7_triesUntilSolved_17 (by decide) ?_
  refine lv_idiv hx hb dX7_triesUntilSolved_18 (by decide) ?_
  refine lv_iadd hx hb dX7_triesUntilSolved_19 ?_
  refine lv_bipush (v := (8 : Int32)) hx hb dX7_triesUntilSolved_20 (by decide) ?_
  refine lv_iadd hx hb dX7_triesUntilSolved_22 ?_
  refine k_put hx hb hts in_X7 tyX7 tyX7_ok nmX7 hown S m_so e_so (C := RX7) (T := TX7) (N := 9) rfl 8 (by decide) (hts (.fieldLink RX7 37 "SieveCabinet$Solver" "third" "I") (gu_wsX7_triesUntilSolved_1 _ gm_1)) rfl rfl rfl (Nat.le_of_ble_eq_true rfl) dX7_triesUntilSolved_23 (fun f5 ef5 H locs S => ?_)
  have e_so : f5 so = .inr (5, [.ref pa, .ref ta, .ref lf, .ref bl, .ref si, .ref tt, .ref tp, .int z2, .int ((z2 + (z2 / (4 : Int32))) + (8 : Int32))]) := up_self ef5
  have fr : ∀ b, b ∈ L → b ≠ so → b ≠ pa → b ≠ ta → b ≠ lf → b ≠ bl → b ≠ si → b ≠ sw → b ≠ tt → b ≠ tp → f5 b = f b := fun b mb nb0 nb1 nb2 nb3 nb4 nb5 nb6 nb7 nb8 => (up_ne ef5 nb0 rfl).trans (fr b mb nb0 nb1 nb2 nb3 nb4 nb5 nb6 nb7 nb8)
  refine lv_iconst (v := (0 : Int32)) hx hb dX7_triesUntilSolved_26 (by decide) ?_
  refine lv_istore_n (lv' := [(3, .int (0 : Int32)), (0, .ref so), (1, .ref o), (2, .int sd)]) hx hb dX7_triesUntilSolved_27 rfl hl (by decide) rfl (fun ls hl => ?_)
  have e_pa := (up_ne ef5 n_pa_so (up_ne ef4 n_pa_so e_pa))
  have e_ta := (up_ne ef5 n_ta_so (up_ne ef4 n_ta_so e_ta))
  have e_lf := (up_ne ef5 n_lf_so (up_ne ef4 n_lf_so e_lf))
  have e_bl := (up_ne ef5 n_bl_so (up_ne ef4 n_bl_so e_bl))
  have e_si := (up_ne ef5 n_si_so (up_ne ef4 n_si_so e_si))
  have e_sw := (up_ne ef5 n_sw_so (up_ne ef4 n_sw_so e_sw))
  have e_tt := (up_ne ef5 n_tt_so (up_ne ef4 n_tt_so e_tt))
  have e_tp := (up_ne ef5 n_tp_so (up_ne ef4 n_tp_so e_tp))
  have e_o := (up_ne ef5 n_o_so (up_ne ef4 n_o_so e_o))
  have e_ro := (up_ne ef5 n_ro_so (up_ne ef4 n_ro_so e_ro))
  obtain ⟨o28, ho28, hM⟩ := bind_some hM
  have EX28 : ∀ (s28 : Int32 × (Nat → Int32) × (Nat → Int32) × (Nat → Int32) × (Nat → Int32) × Int32 × (Nat → Int64) × (Nat → Int32) × (Nat → Int32)), o28 = .inr s28 → ∀ (fl28 : Nat → va_E) (H : Heap) (locs : List Loc) (ls : Array Slot), PS D g (va_A (va_pl L f) szz) s.heap s L fl28 H locs → fl28 so = .inr (5, [.ref pa, .ref ta, .ref lf, .ref bl, .ref si, .ref tt, .ref tp, .int z2, .int ((z2 + (z2 / (4 : Int32))) + (8 : Int32))]) → fl28 pa = .inl (g 0, 3000, .inl s28.2.1) → fl28 ta = .inl (g 0, 1000, .inl s28.2.2.1) → fl28 lf = .inl (g 0, 3774, .inl s28.2.2.2.1) → fl28 bl = .inl (g 0, 3774, .inl s28.2.2.2.2.1) → fl28 si = .inr (1, [.ref sw, .int s28.2.2.2.2.2.1]) → fl28 sw = .inl (g 1, 64, .inr (.inl s28.2.2.2.2.2.2.1)) → fl28 tt = .inl (g 0, 1000, .inl s28.2.2.2.2.2.2.2.1) → fl28 tp = .inl (g 0, 1000, .inl s28.2.2.2.2.2.2.2.2) → fl28 o = .inr (0, [.ref ro, .int no]) → fl28 ro = .inl (g 1, 1000, .inr (.inl vo)) → (∀ b, b ∈ L → b ≠ so → b ≠ pa → b ≠ ta → b ≠ lf → b ≠ bl → b ≠ si → b ≠ sw → b ≠ tt → b ≠ tp → fl28 b = f b) → lv_has ls 4 [] → W p l e { frames := 4, cells := 0, slots := 0, locals := 87 } s m [.ref so, .ref o, .int sd].toArray below meth c H locs 0 0 QQ (F0 m 57 ls []) := by
    intro s28 eo28
    rw [eo28] at hM
    simp only [Sum.elim_inr] at hM
    intro fl28 H locs ls S e_so e_pa e_ta e_lf e_bl e_si e_sw e_tt e_tp e_o e_ro fr hl
    refine lv_iconst (v := (-1 : Int32)) hx hb dX7_triesUntilSolved_57 (by decide) ?_
    subst hQQ
    exact q_reti (post := fun x L1 f1 => x = z.1 ∧ L1 = L ∧ (∀ b, b ∈ L → b ≠ so → b ≠ pa → b ≠ ta → b ≠ lf → b ≠ bl → b ≠ si → b ≠ sw → b ≠ tt → b ≠ tp → f1 b = f b) ∧ f1 so = .inr (5, [.ref pa, .ref ta, .ref lf, .ref bl, .ref si, .ref tt, .ref tp, .int z.2.1, .int z.2.2.1]) ∧ f1 pa = .inl (g 0, 3000, .inl z.2.2.2.1) ∧ f1 ta = .inl (g 0, 1000, .inl z.2.2.2.2.1) ∧ f1 lf = .inl (g 0, 3774, .inl z.2.2.2.2.2.1) ∧ f1 bl = .inl (g 0, 3774, .inl z.2.2.2.2.2.2.1) ∧ f1 si = .inr (1, [.ref sw, .int z.2.2.2.2.2.2.2.1]) ∧ f1 sw = .inl (g 1, 64, .inr (.inl z.2.2.2.2.2.2.2.2.1)) ∧ f1 tt = .inl (g 0, 1000, .inl z.2.2.2.2.2.2.2.2.2.1) ∧ f1 tp = .inl (g 0, 1000, .inl z.2.2.2.2.2.2.2.2.2.2)) hx hb hr hlk S dX7_triesUntilSolved_58 (by decide) (by decide) (by have hz := Option.some.inj hM; subst hz; exact ⟨rfl, rfl, fr, e_so, e_pa, e_ta, e_lf, e_bl, e_si, e_sw, e_tt, e_tp⟩)
  have LP28 : ∀ (fu : Nat) (x3_28 : Int32) (cpa_28 : Nat → Int32) (cta_28 : Nat → Int32) (clf_28 : Nat → Int32) (cbl_28 : Nat → Int32) (csi_1_28 : Int32) (csw_28 : Nat → Int64) (ctt_28 : Nat → Int32) (ctp_28 : Nat → Int32) (fl28 : Nat → va_E) (H : Heap) (locs : List Loc) (ls : Array Slot), (mX7_triesUntilSolved_L28 no vo sd z2) fu x3_28 cpa_28 cta_28 clf_28 cbl_28 csi_1_28 csw_28 ctt_28 ctp_28 = some o28 → PS D g (va_A (va_pl L f) szz) s.heap s L fl28 H locs → fl28 so = .inr (5, [.ref pa, .ref ta, .ref lf, .ref bl, .ref si, .ref tt, .ref tp, .int z2, .int ((z2 + (z2 / (4 : Int32))) + (8 : Int32))]) → fl28 pa = .inl (g 0, 3000, .inl cpa_28) → fl28 ta = .inl (g 0, 1000, .inl cta_28) → fl28 lf = .inl (g 0, 3774, .inl clf_28) → fl28 bl = .inl (g 0, 3774, .inl cbl_28) → fl28 si = .inr (1, [.ref sw, .int csi_1_28]) → fl28 sw = .inl (g 1, 64, .inr (.inl csw_28)) → fl28 tt = .inl (g 0, 1000, .inl ctt_28) → fl28 tp = .inl (g 0, 1000, .inl ctp_28) → fl28 o = .inr (0, [.ref ro, .int no]) → fl28 ro = .inl (g 1, 1000, .inr (.inl vo)) → (∀ b, b ∈ L → b ≠ so → b ≠ pa → b ≠ ta → b ≠ lf → b ≠ bl → b ≠ si → b ≠ sw → b ≠ tt → b ≠ tp → fl28 b = f b) → lv_has ls 4 [(3, .int x3_28), (0, .ref so), (1, .ref o), (2, .int sd)] → W p l e { frames := 4, cells := 0, slots := 0, locals := 87 } s m [.ref so, .ref o, .int sd].toArray below meth c H locs 0 0 QQ (F0 m 28 ls []) := by
    intro fu
    induction fu with
    | zero => intro x3_28 cpa_28 cta_28 clf_28 cbl_28 csi_1_28 csw_28 ctt_28 ctp_28 fl28 H locs ls ho28 S e_so e_pa e_ta e_lf e_bl e_si e_sw e_tt e_tp e_o e_ro fr hl; exact no_some ho28
    | succ fu ih28 =>
      intro x3_28 cpa_28 cta_28 clf_28 cbl_28 csi_1_28 csw_28 ctt_28 ctp_28 fl28 H locs ls ho28 S e_so e_pa e_ta e_lf e_bl e_si e_sw e_tt e_tp e_o e_ro fr hl
      rw [mX7_triesUntilSolved_L28] at ho28
      refine lv_iload_n hx hb dX7_triesUntilSolved_28 rfl (lv_at hl 0 rfl) ?_
      refine lv_bipush (v := (50 : Int32)) hx hb dX7_triesUntilSolved_29 (by decide) ?_
      refine lv_icmp_ge (tgt := 57) hx hb dX7_triesUntilSolved_31 (by decide) (fun b31 => ?_) (fun b31 => ?_)
      · have ho28 := itT b31 ho28
        obtain rfl := Option.some.inj ho28
        exact EX28 _ rfl fl28 _ _ _ S e_so e_pa e_ta e_lf e_bl e_si e_sw e_tt e_tp e_o e_ro fr (lv_sub hl [] rfl)
      · have ho28 := itF b31 ho28
        refine lv_aload_n hx hb dX7_triesUntilSolved_34 rfl (lv_at hl 1 rfl) ?_
        refine lv_aload_n hx hb dX7_triesUntilSolved_35 rfl (lv_at hl 2 rfl) ?_
        refine lv_iload_n hx hb dX7_triesUntilSolved_36 rfl (lv_at hl 3 rfl) ?_
        refine lv_iload_n hx hb dX7_triesUntilSolved_37 rfl (lv_at hl 0 rfl) ?_
        refine lv_iadd hx hb dX7_triesUntilSolved_38 ?_
        obtain ⟨z39, hz39, ho28⟩ := bind_some ho28
        refine q_vv (As := [.ref o, .int (sd + x3_28)]) (rest := []) ⟨hx, hb, hml, hown, hts⟩ (k_X7_spread l D g m_so e_so m_pa e_pa m_ta e_ta m_lf e_lf m_bl e_bl m_si e_si m_sw e_sw m_tt e_tt m_tp e_tp m_o e_o m_ro e_ro n_bl_lf n_tt_ta n_tp_ta hz39) (cwV 2 hts gX7_triesUntilSolved_X7_spread rfl rfl rfl (by decide +kernel) ⟨Nat.le_of_ble_eq_true rfl, Nat.le_of_ble_eq_true rfl⟩) S m_so e_so (T := TX7) (N := 9) rfl rfl hl.1 rfl (Nat.le_of_ble_eq_true rfl) dX7_triesUntilSolved_39 ⟨Nat.le_of_ble_eq_true rfl, Nat.le_of_ble_eq_true rfl⟩ (fun L6 f7 H locs S w39 => ?_)
        obtain ⟨eL, fv39, E_pa, E_ta, E_lf, E_bl, E_si, E_sw⟩ := w39
        rw [eL] at S
        have fr : ∀ b, b ∈ L → b ≠ so → b ≠ pa → b ≠ ta → b ≠ lf → b ≠ bl → b ≠ si → b ≠ sw → b ≠ tt → b ≠ tp → f7 b = f b := fun b mb nb0 nb1 nb2 nb3 nb4 nb5 nb6 nb7 nb8 => (fv39 b mb nb1 nb2 nb3 nb4 nb5 nb6).trans (fr b mb nb0 nb1 nb2 nb3 nb4 nb5 nb6 nb7 nb8)
        have e_pa : f7 pa = .inl (g 0, 3000, .inl z39.1) := E_pa
        have e_ta : f7 ta = .inl (g 0, 1000, .inl z39.2.1) := E_ta
        have e_lf : f7 lf = .inl (g 0, 3774, .inl z39.2.2.1) := E_lf
        have e_bl : f7 bl = .inl (g 0, 3774, .inl z39.2.2.2.1) := E_bl
        have e_si : f7 si = .inr (1, [.ref sw, .int z39.2.2.2.2.1]) := E_si
        have e_sw : f7 sw = .inl (g 1, 64, .inr (.inl z39.2.2.2.2.2)) := E_sw
        refine lv_aload_n hx hb dX7_triesUntilSolved_42 rfl (lv_at hl 1 rfl) ?_
        obtain ⟨z43, hz43, ho28⟩ := bind_some ho28
        have e_so := ((fv39 so m_so n_so_pa n_so_ta n_so_lf n_so_bl n_so_si n_so_sw).trans e_so)
        have e_tt := ((fv39 tt m_tt n_tt_pa n_tt_ta n_tt_lf n_tt_bl n_tt_si n_tt_sw).trans e_tt)
        have e_tp := ((fv39 tp m_tp n_tp_pa n_tp_ta n_tp_lf n_tp_bl n_tp_si n_tp_sw).trans e_tp)
        refine q_vi (As := []) (rest := []) ⟨hx, hb, hml, hown, hts⟩ (k_X7_takeAllOff l D g m_so e_so m_pa e_pa m_ta e_ta m_lf e_lf m_bl e_bl m_si e_si m_sw e_sw m_tt e_tt m_tp e_tp n_tp_tt n_ta_tt n_ta_tp n_bl_lf hz43) (cwV 0 hts gX7_triesUntilSolved_X7_takeAllOff rfl rfl rfl (by decide +kernel) ⟨Nat.le_of_ble_eq_true rfl, Nat.le_of_ble_eq_true rfl⟩) S m_so e_so (T := TX7) (N := 9) rfl rfl hl.1 rfl (Nat.le_of_ble_eq_true rfl) dX7_triesUntilSolved_43 ⟨Nat.le_of_ble_eq_true rfl, Nat.le_of_ble_eq_true rfl⟩ (fun r11 L9 f10 H locs S w43 => ?_)
        obtain ⟨ex43, eL, fv43, E_lf, E_bl, E_sw, E_tt, E_tp⟩ := w43
        rw [eL] at S
        have fr : ∀ b, b ∈ L → b ≠ so → b ≠ pa → b ≠ ta → b ≠ lf → b ≠ bl → b ≠ si → b ≠ sw → b ≠ tt → b ≠ tp → f10 b = f b := fun b mb nb0 nb1 nb2 nb3 nb4 nb5 nb6 nb7 nb8 => (fv43 b mb nb3 nb4 nb6 nb7 nb8).trans (fr b mb nb0 nb1 nb2 nb3 nb4 nb5 nb6 nb7 nb8)
        have e_lf : f10 lf = .inl (g 0, 3774, .inl z43.2.1) := E_lf
        have e_bl : f10 bl = .inl (g 0, 3774, .inl z43.2.2.1) := E_bl
        have e_sw : f10 sw = .inl (g 1, 64, .inr (.inl z43.2.2.2.1)) := E_sw
        have e_tt : f10 tt = .inl (g 0, 1000, .inl z43.2.2.2.2.1) := E_tt
        have e_tp : f10 tp = .inl (g 0, 1000, .inl z43.2.2.2.2.2) := E_tp
        replace ex43 := ex43.symm
        subst ex43
        refine lv_if_eq (tgt := 51) hx hb dX7_triesUntilSolved_46 (by decide) (fun b46 => ?_) (fun b46 => ?_)
        · have ho28 := itT b46 ho28
          refine lv_iinc (v := (x3_28 + 1)) (lv' := [(3, .int (x3_28 + 1)), (0, .ref so), (1, .ref o), (2, .int sd)]) hx hb dX7_triesUntilSolved_51 hl (k := 0) rfl rfl (by decide) rfl (fun ls hl => ?_)
          refine lv_goto (tgt := 28) hx hb dX7_triesUntilSolved_54 (by decide) ?_
          have e_so := ((fv43 so m_so n_so_lf n_so_bl n_so_sw n_so_tt n_so_tp).trans e_so)
          have e_pa := ((fv43 pa m_pa n_pa_lf n_pa_bl n_pa_sw n_pa_tt n_pa_tp).trans e_pa)
          have e_ta := ((fv43 ta m_ta n_ta_lf n_ta_bl n_ta_sw n_ta_tt n_ta_tp).trans e_ta)
          have e_si := ((fv43 si m_si n_si_lf n_si_bl n_si_sw n_si_tt n_si_tp).trans e_si)
          have e_o := ((fv43 o m_o n_o_lf n_o_bl n_o_sw n_o_tt n_o_tp).trans ((fv39 o m_o n_o_pa n_o_ta n_o_lf n_o_bl n_o_si n_o_sw).trans e_o))
          have e_ro := ((fv43 ro m_ro n_ro_lf n_ro_bl n_ro_sw n_ro_tt n_ro_tp).trans ((fv39 ro m_ro n_ro_pa n_ro_ta n_ro_lf n_ro_bl n_ro_si n_ro_sw).trans e_ro))
          exact ih28 (x3_28 + 1) z39.1 z39.2.1 z43.2.1 z43.2.2.1 z39.2.2.2.2.1 z43.2.2.2.1 z43.2.2.2.2.1 z43.2.2.2.2.2 f10 _ _ _ ho28 S e_so e_pa e_ta e_lf e_bl e_si e_sw e_tt e_tp e_o e_ro fr (lv_sub hl [0, 1, 2, 3] rfl)
        · have ho28 := itF b46 ho28
          refine lv_iload_n hx hb dX7_triesUntilSolved_49 rfl (lv_at hl 0 rfl) ?_
          have e_so := ((fv43 so m_so n_so_lf n_so_bl n_so_sw n_so_tt n_so_tp).trans e_so)
          have e_pa := ((fv43 pa m_pa n_pa_lf n_pa_bl n_pa_sw n_pa_tt n_pa_tp).trans e_pa)
          have e_ta := ((fv43 ta m_ta n_ta_lf n_ta_bl n_ta_sw n_ta_tt n_ta_tp).trans e_ta)
          have e_si := ((fv43 si m_si n_si_lf n_si_bl n_si_sw n_si_tt n_si_tp).trans e_si)
          obtain rfl := Option.some.inj ho28
          simp only [Sum.elim_inl] at hM
          subst hQQ
          exact q_reti (post := fun x L1 f1 => x = z.1 ∧ L1 = L ∧ (∀ b, b ∈ L → b ≠ so → b ≠ pa → b ≠ ta → b ≠ lf → b ≠ bl → b ≠ si → b ≠ sw → b ≠ tt → b ≠ tp → f1 b = f b) ∧ f1 so = .inr (5, [.ref pa, .ref ta, .ref lf, .ref bl, .ref si, .ref tt, .ref tp, .int z.2.1, .int z.2.2.1]) ∧ f1 pa = .inl (g 0, 3000, .inl z.2.2.2.1) ∧ f1 ta = .inl (g 0, 1000, .inl z.2.2.2.2.1) ∧ f1 lf = .inl (g 0, 3774, .inl z.2.2.2.2.2.1) ∧ f1 bl = .inl (g 0, 3774, .inl z.2.2.2.2.2.2.1) ∧ f1 si = .inr (1, [.ref sw, .int z.2.2.2.2.2.2.2.1]) ∧ f1 sw = .inl (g 1, 64, .inr (.inl z.2.2.2.2.2.2.2.2.1)) ∧ f1 tt = .inl (g 0, 1000, .inl z.2.2.2.2.2.2.2.2.2.1) ∧ f1 tp = .inl (g 0, 1000, .inl z.2.2.2.2.2.2.2.2.2.2)) hx hb hr hlk S dX7_triesUntilSolved_50 (by decide) (by decide) (by have hz := Option.some.inj hM; subst hz; exact ⟨rfl, rfl, fr, e_so, e_pa, e_ta, e_lf, e_bl, e_si, e_sw, e_tt, e_tp⟩)
  exact LP28 FU (0 : Int32) vpa vta vlf vbl z0 vsw vtt vtp f5 _ _ _ ho28 S e_so e_pa e_ta e_lf e_bl e_si e_sw e_tt e_tp e_o e_ro fr (lv_sub hl [0, 1, 2, 3] rfl)

def mX7_fill_L29 (vpa : Nat → Int32) (vtt : Nat → Int32) (vtp : Nat → Int32) (x2_7 : Int32) (cce_7 : Nat → Int32) : Nat → Int32 → Int32 → Option (Int32 × Int32)
  | 0, _, _ => none
  | fu + 1, x5_29, x4_29 => if (3 : Int32) ≤ x5_29 then (some (x5_29, x4_29)) else (if ix (((3 : Int32) * (vtt (Int32.toNatClampNeg x2_7))) + x5_29) 3000 = true then (lt_ (vpa (Int32.toNatClampNeg (((3 : Int32) * (vtt (Int32.toNatClampNeg x2_7))) + x5_29))) fun y46 => if ix x2_7 1000 = true then (if y46 = (vtp (Int32.toNatClampNeg x2_7)) then (mX7_fill_L29 vpa vtt vtp x2_7 cce_7 fu (x5_29 + 1) (x4_29 ^^^ (0 : Int32))) else ((mX6_cellAt cce_7 y46).bind fun z68 => mX7_fill_L29 vpa vtt vtp x2_7 cce_7 fu (x5_29 + 1) (x4_29 ^^^ z68))) else none) else none)
def mX7_fill_L7 (vpa : Nat → Int32) (vta : Nat → Int32) (vtt : Nat → Int32) (vtp : Nat → Int32) : Nat → Int32 → (Nat → Int32) → Option (Int32 × (Nat → Int32))
  | 0, _, _ => none
  | fu + 1, x2_7, cce_7 => if x2_7 < 0 then (some (x2_7, cce_7)) else (if ix x2_7 1000 = true then (if ix (vtt (Int32.toNatClampNeg x2_7)) 1000 = true then (lt_ (vta (Int32.toNatClampNeg (vtt (Int32.toNatClampNeg x2_7)))) fun y24 => (mX7_fill_L29 vpa vtt vtp x2_7 cce_7 FU (0 : Int32) y24).bind fun o29 => if ix x2_7 1000 = true then ((mX6_setCell cce_7 (vtp (Int32.toNatClampNeg x2_7)) o29.2).bind fun z89 => mX7_fill_L7 vpa vta vtt vtp fu (x2_7 + (-1)) z89) else none) else none) else none)
def mX7_fill (cn : Int32) (vpa : Nat → Int32) (vta : Nat → Int32) (vtt : Nat → Int32) (vtp : Nat → Int32) (kc : Nat → Int32) : Option ((Nat → Int32)) := (mX7_fill_L7 vpa vta vtt vtp FU (cn - (1 : Int32)) kc).bind fun o7 => some o7.2
set_option maxRecDepth 20000 in
theorem gu_wsX7_fill_2 : ∀ w ∈ wsX70, w ∈ wsX7_fill := fun _ h => List.mem_cons_of_mem _ (List.mem_append_left _ (List.mem_append_right _ h))
set_option maxHeartbeats 4000000 in
set_option maxRecDepth 100000 in
theorem k_X7_fill (l : Launch) (D : va_G) (g : Nat → ClassId) {L : List Nat} {f : Nat → va_E} {bl ce co cr h lf pa si so sw ta tp tt : Nat} {cn : Int32} {th3 : Int32} {vpa : Nat → Int32} {vta : Nat → Int32} {vlf : Nat → Int32} {vbl : Nat → Int32} {z0 : Int32} {vsw : Nat → Int64} {vtt : Nat → Int32} {vtp : Nat → Int32} {lay : Value} {kd : Int32} {sz : Int32} {mk : Int32} {sd : Int32} {kc : Nat → Int32} {n : Int32} {v : Nat → Int64} {z : (Nat → Int32)} (m_so : so ∈ L) (e_so : f so = .inr (5, [.ref pa, .ref ta, .ref lf, .ref bl, .ref si, .ref tt, .ref tp, .int cn, .int th3])) (m_pa : pa ∈ L) (e_pa : f pa = .inl (g 0, 3000, .inl vpa)) (m_ta : ta ∈ L) (e_ta : f ta = .inl (g 0, 1000, .inl vta)) (m_lf : lf ∈ L) (e_lf : f lf = .inl (g 0, 3774, .inl vlf)) (m_bl : bl ∈ L) (e_bl : f bl = .inl (g 0, 3774, .inl vbl)) (m_si : si ∈ L) (e_si : f si = .inr (1, [.ref sw, .int z0])) (m_sw : sw ∈ L) (e_sw : f sw = .inl (g 1, 64, .inr (.inl vsw))) (m_tt : tt ∈ L) (e_tt : f tt = .inl (g 0, 1000, .inl vtt)) (m_tp : tp ∈ L) (e_tp : f tp = .inl (g 0, 1000, .inl vtp)) (m_h : h ∈ L) (e_h : f h = .inr (4, [.ref ce, .ref co, lay, .int kd, .int sz, .int mk, .int sd])) (m_ce : ce ∈ L) (e_ce : f ce = .inl (g 0, 4096, .inl kc)) (m_co : co ∈ L) (e_co : f co = .inr (0, [.ref cr, .int n])) (m_cr : cr ∈ L) (e_cr : f cr = .inl (g 1, 1000, .inr (.inl v)))    (hM : mX7_fill cn vpa vta vtt vtp kc = some z) : cV l yX7_fill wsX7_fill { frames := 1, cells := 0, slots := 0, locals := 22 } D g [.ref so, .ref h] L f 0 0 (fun L1 f1 => L1 = L ∧ (∀ b, b ∈ L → b ≠ ce → f1 b = f b) ∧ f1 ce = .inl (g 0, 4096, .inl z)) := by
  refine cV_of (cc := cX7_fill) (maxL := 7) (ret := none) (by decide) rfl (Nat.le_of_ble_eq_true rfl) ?_
  intro szz p e s m below meth c hx hb hr hml hts hown hlk hnm S ls hl
  have hl : lv_has ls 7 [(0, .ref so), (1, .ref h)] := hl
  have in_X7 : ∀ w ∈ wsX70, w ∈ wsX7_fill := gu_wsX7_fill_2
  have n_so_ce : so ≠ ce := ne_ir e_ce e_so
  have n_pa_ce : pa ≠ ce := ne_len e_ce e_pa (by decide)
  have n_ta_ce : ta ≠ ce := ne_len e_ce e_ta (by decide)
  have n_lf_ce : lf ≠ ce := ne_len e_ce e_lf (by decide)
  have n_bl_ce : bl ≠ ce := ne_len e_ce e_bl (by decide)
  have n_si_ce : si ≠ ce := ne_ir e_ce e_si
  have n_sw_ce : sw ≠ ce := ne_len e_ce e_sw (by decide)
  have n_tt_ce : tt ≠ ce := ne_len e_ce e_tt (by decide)
  have n_tp_ce : tp ≠ ce := ne_len e_ce e_tp (by decide)
  have n_h_ce : h ≠ ce := ne_ir e_ce e_h
  have n_co_ce : co ≠ ce := ne_ir e_ce e_co
  have n_cr_ce : cr ≠ ce := ne_len e_ce e_cr (by decide)
  have fr : ∀ b, b ∈ L → b ≠ ce → f b = f b := fun _ _ _ => rfl
  unfold mX7_fill at hM
  refine W_gen (fun QQ hQQ => ?_)
  refine lv_aload_n hx hb dX7_fill_0 rfl (lv_at hl 0 rfl) ?_
  refine q_get hx hb hts in_X7 hown S m_so e_so (C := RX7) (T := TX7) (N := 9) rfl 7 (by decide) rfl (hts (.fieldLink RX7 47 "SieveCabinet$Solver" "count" "I") (gu_wsX7_fill_1 _ gm_0)) dX7_fill_1 ?_
  refine lv_iconst (v := (1 : Int32)) hx hb dX7_fill_4 (by decide) ?_
  refine lv_isub hx hb dX7_fill_5 ?_
  refine lv_istore_n (lv' := [(2, .int (cn - (1 : Int32))), (0, .ref so), (1, .ref h)]) hx hb dX7_fill_6 rfl hl (by decide) rfl (fun ls hl => ?_)
  obtain ⟨o7, ho7, hM⟩ := bind_some hM
  have EX7 : ∀ (fl7 : Nat → va_E) (H : Heap) (locs : List Loc) (ls : Array Slot), PS D g (va_A (va_pl L f) szz) s.heap s L fl7 H locs → fl7 so = .inr (5, [.ref pa, .ref ta, .ref lf, .ref bl, .ref si, .ref tt, .ref tp, .int cn, .int th3]) → fl7 pa = .inl (g 0, 3000, .inl vpa) → fl7 ta = .inl (g 0, 1000, .inl vta) → fl7 lf = .inl (g 0, 3774, .inl vlf) → fl7 bl = .inl (g 0, 3774, .inl vbl) → fl7 si = .inr (1, [.ref sw, .int z0]) → fl7 sw = .inl (g 1, 64, .inr (.inl vsw)) → fl7 tt = .inl (g 0, 1000, .inl vtt) → fl7 tp = .inl (g 0, 1000, .inl vtp) → fl7 h = .inr (4, [.ref ce, .ref co, lay, .int kd, .int sz, .int mk, .int sd]) → fl7 ce = .inl (g 0, 4096, .inl o7.2) → fl7 co = .inr (0, [.ref cr, .int n]) → fl7 cr = .inl (g 1, 1000, .inr (.inl v)) → (∀ b, b ∈ L → b ≠ ce → fl7 b = f b) → lv_has ls 7 [] → W p l e { frames := 1, cells := 0, slots := 0, locals := 22 } s m [.ref so, .ref h].toArray below meth c H locs 0 0 QQ (F0 m 98 ls []) := by
    intro fl7 H locs ls S e_so e_pa e_ta e_lf e_bl e_si e_sw e_tt e_tp e_h e_ce e_co e_cr fr hl
    subst hQQ
    exact q_retv (post := fun L1 f1 => L1 = L ∧ (∀ b, b ∈ L → b ≠ ce → f1 b = f b) ∧ f1 ce = .inl (g 0, 4096, .inl z)) hx hb hr hlk S dX7_fill_98 (by decide) (by decide) (by have hz := Option.some.inj hM; subst hz; exact ⟨rfl, fr, e_ce⟩)
  have LP7 : ∀ (fu : Nat) (x2_7 : Int32) (cce_7 : Nat → Int32) (fl7 : Nat → va_E) (H : Heap) (locs : List Loc) (ls : Array Slot), (mX7_fill_L7 vpa vta vtt vtp) fu x2_7 cce_7 = some o7 → PS D g (va_A (va_pl L f) szz) s.heap s L fl7 H locs → fl7 so = .inr (5, [.ref pa, .ref ta, .ref lf, .ref bl, .ref si, .ref tt, .ref tp, .int cn, .int th3]) → fl7 pa = .inl (g 0, 3000, .inl vpa) → fl7 ta = .inl (g 0, 1000, .inl vta) → fl7 lf = .inl (g 0, 3774, .inl vlf) → fl7 bl = .inl (g 0, 3774, .inl vbl) → fl7 si = .inr (1, [.ref sw, .int z0]) → fl7 sw = .inl (g 1, 64, .inr (.inl vsw)) → fl7 tt = .inl (g 0, 1000, .inl vtt) → fl7 tp = .inl (g 0, 1000, .inl vtp) → fl7 h = .inr (4, [.ref ce, .ref co, lay, .int kd, .int sz, .int mk, .int sd]) → fl7 ce = .inl (g 0, 4096, .inl cce_7) → fl7 co = .inr (0, [.ref cr, .int n]) → fl7 cr = .inl (g 1, 1000, .inr (.inl v)) → (∀ b, b ∈ L → b ≠ ce → fl7 b = f b) → lv_has ls 7 [(2, .int x2_7), (0, .ref so), (1, .ref h)] → W p l e { frames := 1, cells := 0, slots := 0, locals := 22 } s m [.ref so, .ref h].toArray below meth c H locs 0 0 QQ (F0 m 7 ls []) := by
    intro fu
    induction fu with
    | zero => intro x2_7 cce_7 fl7 H locs ls ho7 S e_so e_pa e_ta e_lf e_bl e_si e_sw e_tt e_tp e_h e_ce e_co e_cr fr hl; exact no_some ho7
    | succ fu ih7 =>
      intro x2_7 cce_7 fl7 H locs ls ho7 S e_so e_pa e_ta e_lf e_bl e_si e_sw e_tt e_tp e_h e_ce e_co e_cr fr hl
      rw [mX7_fill_L7] at ho7
      refine lv_iload_n hx hb dX7_fill_7 rfl (lv_at hl 0 rfl) ?_
      refine lv_if_lt (tgt := 98) hx hb dX7_fill_8 (by decide) (fun b8 => ?_) (fun b8 => ?_)
      · have ho7 := itT b8 ho7
        obtain rfl := Option.some.inj ho7
        exact EX7 fl7 _ _ _ S e_so e_pa e_ta e_lf e_bl e_si e_sw e_tt e_tp e_h e_ce e_co e_cr fr (lv_sub hl [] rfl)
      · have ho7 := itF b8 ho7
        refine lv_aload_n hx hb dX7_fill_11 rfl (lv_at hl 1 rfl) ?_
        refine q_get hx hb hts in_X7 hown S m_so e_so (C := RX7) (T := TX7) (N := 9) rfl 5 (by decide) rfl (hts (.fieldLink RX7 31 "SieveCabinet$Solver" "takenThing" "[I") (gu_wsX7_fill_1 _ gm_1)) dX7_fill_12 ?_
        refine lv_iload_n hx hb dX7_fill_15 rfl (lv_at hl 0 rfl) ?_
        obtain ⟨hi16, ho7⟩ := ckx ho7
        refine q_iald hx hb S m_tt e_tt hi16 dX7_fill_16 ?_
        refine lv_istore_n (lv' := [(3, .int (vtt (Int32.toNatClampNeg x2_7))), (2, .int x2_7), (0, .ref so), (1, .ref h)]) hx hb dX7_fill_17 rfl hl (by decide) rfl (fun ls hl => ?_)
        refine lv_aload_n hx hb dX7_fill_18 rfl (lv_at hl 2 rfl) ?_
        refine q_get hx hb hts in_X7 hown S m_so e_so (C := RX7) (T := TX7) (N := 9) rfl 1 (by decide) rfl (hts (.fieldLink RX7 15 "SieveCabinet$Solver" "tagOf" "[I") (gu_wsX7_fill_1 _ gm_2)) dX7_fill_19 ?_
        refine lv_iload_n hx hb dX7_fill_22 rfl (lv_at hl 0 rfl) ?_
        obtain ⟨hi23, ho7⟩ := ckx ho7
        refine q_iald hx hb S m_ta e_ta hi23 dX7_fill_23 ?_
        refine lv_topi (fun y24 ey24 => ?_)
        have ho7 := lt_some ho7 ey24
        refine lv_istore (lv' := [(4, .int y24), (3, .int (vtt (Int32.toNatClampNeg x2_7))), (2, .int x2_7), (0, .ref so), (1, .ref h)]) hx hb dX7_fill_24 hl (by decide) rfl (fun ls hl => ?_)
        refine lv_iconst (v := (0 : Int32)) hx hb dX7_fill_26 (by decide) ?_
        refine lv_istore (lv' := [(5, .int (0 : Int32)), (4, .int y24), (3, .int (vtt (Int32.toNatClampNeg x2_7))), (2, .int x2_7), (0, .ref so), (1, .ref h)]) hx hb dX7_fill_27 hl (by decide) rfl (fun ls hl => ?_)
        obtain ⟨o29, ho29, ho7⟩ := bind_some ho7
        have EX29 : ∀ (H : Heap) (locs : List Loc) (ls : Array Slot), PS D g (va_A (va_pl L f) szz) s.heap s L fl7 H locs → lv_has ls 7 [(4, .int o29.2), (2, .int x2_7), (0, .ref so), (1, .ref h)] → W p l e { frames := 1, cells := 0, slots := 0, locals := 22 } s m [.ref so, .ref h].toArray below meth c H locs 0 0 QQ (F0 m 80 ls []) := by
          intro H locs ls S hl
          refine lv_aload_n hx hb dX7_fill_80 rfl (lv_at hl 3 rfl) ?_
          refine lv_aload_n hx hb dX7_fill_81 rfl (lv_at hl 2 rfl) ?_
          refine q_get hx hb hts in_X7 hown S m_so e_so (C := RX7) (T := TX7) (N := 9) rfl 6 (by decide) rfl (hts (.fieldLink RX7 34 "SieveCabinet$Solver" "takenPlace" "[I") (gu_wsX7_fill_1 _ gm_4)) dX7_fill_82 ?_
          refine lv_iload_n hx hb dX7_fill_85 rfl (lv_at hl 1 rfl) ?_
          obtain ⟨hi86, ho7⟩ := ckx ho7
          refine q_iald hx hb S m_tp e_tp hi86 dX7_fill_86 ?_
          refine lv_iload hx hb dX7_fill_87 (lv_at hl 0 rfl) ?_
          obtain ⟨z89, hz89, ho7⟩ := bind_some ho7
          refine q_vv (As := [.int (vtp (Int32.toNatClampNeg x2_7)), .int o29.2]) (rest := []) ⟨hx, hb, hml, hown, hts⟩ (k_X6_setCell l D g m_h e_h m_ce e_ce hz89) (cwV 2 hts gX7_fill_X6_setCell rfl rfl rfl (by decide +kernel) ⟨Nat.le_of_ble_eq_true rfl, Nat.le_of_ble_eq_true rfl⟩) S m_h e_h (T := TX6) (N := 7) rfl rfl hl.1 rfl (Nat.le_of_ble_eq_true rfl) dX7_fill_89 ⟨Nat.le_of_ble_eq_true rfl, Nat.le_of_ble_eq_true rfl⟩ (fun L1 f2 H locs S w89 => ?_)
          obtain ⟨eL, fv89, E_ce⟩ := w89
          rw [eL] at S
          have fr : ∀ b, b ∈ L → b ≠ ce → f2 b = f b := fun b mb nb0 => (fv89 b mb nb0).trans (fr b mb nb0)
          have e_ce : f2 ce = .inl (g 0, 4096, .inl z89) := E_ce
          refine lv_iinc (v := (x2_7 + (-1))) (lv' := [(2, .int (x2_7 + (-1))), (4, .int o29.2), (0, .ref so), (1, .ref h)]) hx hb dX7_fill_92 hl (k := 1) rfl rfl (by decide) rfl (fun ls hl => ?_)
          refine lv_goto (tgt := 7) hx hb dX7_fill_95 (by decide) ?_
          have e_so := ((fv89 so m_so n_so_ce).trans e_so)
          have e_pa := ((fv89 pa m_pa n_pa_ce).trans e_pa)
          have e_ta := ((fv89 ta m_ta n_ta_ce).trans e_ta)
          have e_lf := ((fv89 lf m_lf n_lf_ce).trans e_lf)
          have e_bl := ((fv89 bl m_bl n_bl_ce).trans e_bl)
          have e_si := ((fv89 si m_si n_si_ce).trans e_si)
          have e_sw := ((fv89 sw m_sw n_sw_ce).trans e_sw)
          have e_tt := ((fv89 tt m_tt n_tt_ce).trans e_tt)
          have e_tp := ((fv89 tp m_tp n_tp_ce).trans e_tp)
          have e_h := ((fv89 h m_h n_h_ce).trans e_h)
          have e_co := ((fv89 co m_co n_co_ce).trans e_co)
          have e_cr := ((fv89 cr m_cr n_cr_ce).trans e_cr)
          exact ih7 (x2_7 + (-1)) z89 f2 _ _ _ ho7 S e_so e_pa e_ta e_lf e_bl e_si e_sw e_tt e_tp e_h e_ce e_co e_cr fr (lv_sub hl [0, 2, 3] rfl)
        have LP29 : ∀ (fu : Nat) (x5_29 : Int32) (x4_29 : Int32) (H : Heap) (locs : List Loc) (ls : Array Slot), (mX7_fill_L29 vpa vtt vtp x2_7 cce_7) fu x5_29 x4_29 = some o29 → PS D g (va_A (va_pl L f) szz) s.heap s L fl7 H locs → lv_has ls 7 [(5, .int x5_29), (4, .int x4_29), (3, .int (vtt (Int32.toNatClampNeg x2_7))), (2, .int x2_7), (0, .ref so), (1, .ref h)] → W p l e { frames := 1, cells := 0, slots := 0, locals := 22 } s m [.ref so, .ref h].toArray below meth c H locs 0 0 QQ (F0 m 29 ls []) := by
          intro fu
          induction fu with
          | zero => intro x5_29 x4_29 H locs ls ho29 S hl; exact no_some ho29
          | succ fu ih29 =>
            intro x5_29 x4_29 H locs ls ho29 S hl
            rw [mX7_fill_L29] at ho29
            refine lv_iload hx hb dX7_fill_29 (lv_at hl 0 rfl) ?_
            refine lv_iconst (v := (3 : Int32)) hx hb dX7_fill_31 (by decide) ?_
            refine lv_icmp_ge (tgt := 80) hx hb dX7_fill_32 (by decide) (fun b32 => ?_) (fun b32 => ?_)
            · have ho29 := itT b32 ho29
              obtain rfl := Option.some.inj ho29
              exact EX29 _ _ _ S (lv_sub hl [1, 3, 4, 5] rfl)
            · have ho29 := itF b32 ho29
              refine lv_aload_n hx hb dX7_fill_35 rfl (lv_at hl 4 rfl) ?_
              refine q_get hx hb hts in_X7 hown S m_so e_so (C := RX7) (T := TX7) (N := 9) rfl 0 (by decide) rfl (hts (.fieldLink RX7 9 "SieveCabinet$Solver" "placeOf" "[I") (gu_wsX7_fill_1 _ gm_3)) dX7_fill_36 ?_
              refine lv_iconst (v := (3 : Int32)) hx hb dX7_fill_39 (by decide) ?_
              refine lv_iload_n hx hb dX7_fill_40 rfl (lv_at hl 2 rfl) ?_
              refine lv_imul hx hb dX7_fill_41 ?_
              refine lv_iload hx hb dX7_fill_42 (lv_at hl 0 rfl) ?_
              refine lv_iadd hx hb dX7_fill_44 ?_
              obtain ⟨hi45, ho29⟩ := ckx ho29
              refine q_iald hx hb S m_pa e_pa hi45 dX7_fill_45 ?_
              refine lv_topi (fun y46 ey46 => ?_)
              have ho29 := lt_some ho29 ey46
              refine lv_istore (lv' := [(6, .int y46), (5, .int x5_29), (4, .int x4_29), (3, .int (vtt (Int32.toNatClampNeg x2_7))), (2, .int x2_7), (0, .ref so), (1, .ref h)]) hx hb dX7_fill_46 hl (by decide) rfl (fun ls hl => ?_)
              refine lv_iload hx hb dX7_fill_48 (lv_at hl 2 rfl) ?_
              refine lv_iload hx hb dX7_fill_50 (lv_at hl 0 rfl) ?_
              refine lv_aload_n hx hb dX7_fill_52 rfl (lv_at hl 5 rfl) ?_
              refine q_get hx hb hts in_X7 hown S m_so e_so (C := RX7) (T := TX7) (N := 9) rfl 6 (by decide) rfl (hts (.fieldLink RX7 34 "SieveCabinet$Solver" "takenPlace" "[I") (gu_wsX7_fill_1 _ gm_4)) dX7_fill_53 ?_
              refine lv_iload_n hx hb dX7_fill_56 rfl (lv_at hl 4 rfl) ?_
              obtain ⟨hi57, ho29⟩ := ckx ho29
              refine q_iald hx hb S m_tp e_tp hi57 dX7_fill_57 ?_
              refine lv_icmp_ne (tgt := 65) hx hb dX7_fill_58 (by decide) (fun b58 => ?_) (fun b58 => ?_)
              · have ho29 := itF b58 ho29
                refine lv_aload_n hx hb dX7_fill_65 rfl (lv_at hl 6 rfl) ?_
                refine lv_iload hx hb dX7_fill_66 (lv_at hl 0 rfl) ?_
                obtain ⟨z68, hz68, ho29⟩ := bind_some ho29
                refine q_vi (As := [.int y46]) (rest := [.int x4_29]) ⟨hx, hb, hml, hown, hts⟩ (k_X6_cellAt l D g m_h e_h m_ce e_ce hz68) (cwV 1 hts gX7_fill_X6_cellAt rfl rfl rfl (by decide +kernel) ⟨Nat.le_of_ble_eq_true rfl, Nat.le_of_ble_eq_true rfl⟩) S m_h e_h (T := TX6) (N := 7) rfl rfl hl.1 rfl (Nat.le_of_ble_eq_true rfl) dX7_fill_68 ⟨Nat.le_of_ble_eq_true rfl, Nat.le_of_ble_eq_true rfl⟩ (fun r6 L4 f5 H locs S w68 => ?_)
                obtain ⟨ex68, eL, ef⟩ := w68
                rw [eL, ef] at S
                replace ex68 := ex68.symm
                subst ex68
                refine lv_ixor hx hb dX7_fill_71 ?_
                refine lv_istore (lv' := [(4, .int (x4_29 ^^^ z68)), (6, .int y46), (5, .int x5_29), (3, .int (vtt (Int32.toNatClampNeg x2_7))), (2, .int x2_7), (0, .ref so), (1, .ref h)]) hx hb dX7_fill_72 hl (by decide) rfl (fun ls hl => ?_)
                refine lv_iinc (v := (x5_29 + 1)) (lv' := [(5, .int (x5_29 + 1)), (4, .int (x4_29 ^^^ z68)), (6, .int y46), (3, .int (vtt (Int32.toNatClampNeg x2_7))), (2, .int x2_7), (0, .ref so), (1, .ref h)]) hx hb dX7_fill_74 hl (k := 2) rfl rfl (by decide) rfl (fun ls hl => ?_)
                refine lv_goto (tgt := 29) hx hb dX7_fill_77 (by decide) ?_
                exact ih29 (x5_29 + 1) (x4_29 ^^^ z68) _ _ _ ho29 S (lv_sub hl [0, 1, 3, 4, 5, 6] rfl)
              · have ho29 := itT b58 ho29
                refine lv_iconst (v := (0 : Int32)) hx hb dX7_fill_61 (by decide) ?_
                refine lv_goto (tgt := 71) hx hb dX7_fill_62 (by decide) ?_
                refine lv_ixor hx hb dX7_fill_71 ?_
                refine lv_istore (lv' := [(4, .int (x4_29 ^^^ (0 : Int32))), (6, .int y46), (5, .int x5_29), (3, .int (vtt (Int32.toNatClampNeg x2_7))), (2, .int x2_7), (0, .ref so), (1, .ref h)]) hx hb dX7_fill_72 hl (by decide) rfl (fun ls hl => ?_)
                refine lv_iinc (v := (x5_29 + 1)) (lv' := [(5, .int (x5_29 + 1)), (4, .int (x4_29 ^^^ (0 : Int32))), (6, .int y46), (3, .int (vtt (Int32.toNatClampNeg x2_7))), (2, .int x2_7), (0, .ref so), (1, .ref h)]) hx hb dX7_fill_74 hl (k := 2) rfl rfl (by decide) rfl (fun ls hl => ?_)
                refine lv_goto (tgt := 29) hx hb dX7_fill_77 (by decide) ?_
                exact ih29 (x5_29 + 1) (x4_29 ^^^ (0 : Int32)) _ _ _ ho29 S (lv_sub hl [0, 1, 3, 4, 5, 6] rfl)
        exact LP29 FU (0 : Int32) y24 _ _ _ ho29 S (lv_sub hl [0, 1, 2, 3, 4, 5] rfl)
  exact LP7 FU (cn - (1 : Int32)) kc f _ _ _ ho7 S e_so e_pa e_ta e_lf e_bl e_si e_sw e_tt e_tp e_h e_ce e_co e_cr fr (lv_sub hl [0, 1, 2] rfl)
