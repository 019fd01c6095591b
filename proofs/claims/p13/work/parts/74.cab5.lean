def mX8_solveR (sd_ : Int32) (wn : Int32) (wv : Nat → Int64) (vpa : Nat → Int32) (vta : Nat → Int32) (vlf : Nat → Int32) (vbl : Nat → Int32) (z0 : Int32) (vsw : Nat → Int64) (vtt : Nat → Int32) (vtp : Nat → Int32) : Option (Int32 × Int32 × Int32 × (Nat → Int32) × (Nat → Int32) × (Nat → Int32) × (Nat → Int32) × Int32 × (Nat → Int64) × (Nat → Int32) × (Nat → Int32)) := (mX7_triesUntilSolved vpa vta vlf vbl z0 vsw vtt vtp wn wv sd_).bind fun z18 => if 0 ≤ z18.1 then none else (some ((-3 : Int32), z18.2.1, z18.2.2.1, z18.2.2.2.1, z18.2.2.2.2.1, z18.2.2.2.2.2.1, z18.2.2.2.2.2.2.1, z18.2.2.2.2.2.2.2.1, z18.2.2.2.2.2.2.2.2.1, z18.2.2.2.2.2.2.2.2.2.1, z18.2.2.2.2.2.2.2.2.2.2))
set_option maxHeartbeats 4000000 in
set_option maxRecDepth 100000 in
theorem k_X8_solveR (l : Launch) (D : va_G) (g : Nat → ClassId) {L : List Nat} {f : Nat → va_E} {Sl bl ch dr lf pa ri si so sw ta th tp tt wb wo wr xb : Nat} {md : Int32} {wf : Nat → Option Nat} {wi : Int32} {sd_ : Int32} {wn : Int32} {wv : Nat → Int64} {cn : Int32} {th3 : Int32} {vpa : Nat → Int32} {vta : Nat → Int32} {vlf : Nat → Int32} {vbl : Nat → Int32} {z0 : Int32} {vsw : Nat → Int64} {vtt : Nat → Int32} {vtp : Nat → Int32} {ρ : Nat → Nat × Nat} {z : Int32 × Int32 × Int32 × (Nat → Int32) × (Nat → Int32) × (Nat → Int32) × (Nat → Int32) × Int32 × (Nat → Int64) × (Nat → Int32) × (Nat → Int32)} (m_xb : xb ∈ L) (e_xb : f xb = .inr (6, [.ref wo, .ref Sl, .ref dr, .ref ri, .ref th, .ref so, .ref ch, .int md])) (m_wo : wo ∈ L) (e_wo : f wo = .inl (g 3, 8, .inr (.inr (.inr (.inr wf))))) (m_wb : wb ∈ L) (e_wb : f wb = .inr (0, [.ref wr, .int wn])) (m_wr : wr ∈ L) (e_wr : f wr = .inl (g 1, 1000, .inr (.inl wv))) (m_so : so ∈ L) (e_so : f so = .inr (5, [.ref pa, .ref ta, .ref lf, .ref bl, .ref si, .ref tt, .ref tp, .int cn, .int th3])) (m_pa : pa ∈ L) (e_pa : f pa = .inl (g 0, 3000, .inl vpa)) (m_ta : ta ∈ L) (e_ta : f ta = .inl (g 0, 1000, .inl vta)) (m_lf : lf ∈ L) (e_lf : f lf = .inl (g 0, 3774, .inl vlf)) (m_bl : bl ∈ L) (e_bl : f bl = .inl (g 0, 3774, .inl vbl)) (m_si : si ∈ L) (e_si : f si = .inr (1, [.ref sw, .int z0])) (m_sw : sw ∈ L) (e_sw : f sw = .inl (g 1, 64, .inr (.inl vsw))) (m_tt : tt ∈ L) (e_tt : f tt = .inl (g 0, 1000, .inl vtt)) (m_tp : tp ∈ L) (e_tp : f tp = .inl (g 0, 1000, .inl vtp))  (r_ta : ρ ta = (0, 11)) (r_lf : ρ lf = (0, 12)) (r_bl : ρ bl = (0, 13)) (r_tt : ρ tt = (0, 16)) (r_tp : ρ tp = (0, 17)) (hw2 : mX8_worldAt wf wi = some (some wb)) (hM : mX8_solveR sd_ wn wv vpa vta vlf vbl z0 vsw vtt vtp = some z) : cI l yX8_solve wsX8_solve { frames := 5, cells := 0, slots := 0, locals := 110 } D g [.ref xb, .int wi, .int sd_] L f 0 0 (fun x L1 f1 => x = z.1 ∧ L1 = L ∧ (∀ b, b ∈ L → b ≠ so → b ≠ pa → b ≠ ta → b ≠ lf → b ≠ bl → b ≠ si → b ≠ sw → b ≠ tt → b ≠ tp → f1 b = f b) ∧ f1 so = .inr (5, [.ref pa, .ref ta, .ref lf, .ref bl, .ref si, .ref tt, .ref tp, .int z.2.1, .int z.2.2.1]) ∧ f1 pa = .inl (g 0, 3000, .inl z.2.2.2.1) ∧ f1 ta = .inl (g 0, 1000, .inl z.2.2.2.2.1) ∧ f1 lf = .inl (g 0, 3774, .inl z.2.2.2.2.2.1) ∧ f1 bl = .inl (g 0, 3774, .inl z.2.2.2.2.2.2.1) ∧ f1 si = .inr (1, [.ref sw, .int z.2.2.2.2.2.2.2.1]) ∧ f1 sw = .inl (g 1, 64, .inr (.inl z.2.2.2.2.2.2.2.2.1)) ∧ f1 tt = .inl (g 0, 1000, .inl z.2.2.2.2.2.2.2.2.2.1) ∧ f1 tp = .inl (g 0, 1000, .inl z.2.2.2.2.2.2.2.2.2.2)) := by
  refine cI_of (cc := cX8_solve) (maxL := 6) (ret := (some .int)) (by decide) rfl (Nat.le_of_ble_eq_true rfl) ?_
  intro szz p e s m below meth c hx hb hr hml hts hown hlk hnm S ls hl
  have hl : lv_has ls 6 [(0, .ref xb), (1, .int wi), (2, .int sd_)] := hl
  have in_X8 : ∀ w ∈ wsX80, w ∈ wsX8_solve := gu_wsX8_solve_9
  have n_bl_lf : bl ≠ lf := role_ne r_lf r_bl (by decide)
  have n_tt_ta : tt ≠ ta := role_ne r_ta r_tt (by decide)
  have n_tp_ta : tp ≠ ta := role_ne r_ta r_tp (by decide)
  have n_tp_tt : tp ≠ tt := role_ne r_tt r_tp (by decide)
  have fr : ∀ b, b ∈ L → b ≠ so → b ≠ pa → b ≠ ta → b ≠ lf → b ≠ bl → b ≠ si → b ≠ sw → b ≠ tt → b ≠ tp → f b = f b := fun _ _ _ _ _ _ _ _ _ _ _ => rfl
  unfold mX8_solveR at hM
  refine W_gen (fun QQ hQQ => ?_)
  refine lv_aload_n hx hb dX8_solve_0 rfl (lv_at hl 0 rfl) ?_
  refine lv_iload_n hx hb dX8_solve_1 rfl (lv_at hl 1 rfl) ?_
  refine q_vq (As := [.int wi]) (rest := []) ⟨hx, hb, hml, hown, hts⟩ (k_X8_worldAt l D g m_xb e_xb m_wo e_wo hw2) (cwV 1 hts gX8_solve_X8_worldAt rfl rfl rfl (by decide +kernel) ⟨Nat.le_of_ble_eq_true rfl, Nat.le_of_ble_eq_true rfl⟩) S m_xb e_xb (T := TX8) (N := 8) rfl rfl hl.1 rfl (Nat.le_of_ble_eq_true rfl) dX8_solve_2 ⟨Nat.le_of_ble_eq_true rfl, Nat.le_of_ble_eq_true rfl⟩ (fun r3 L1 f2 H locs S w2 => ?_)
  obtain ⟨ex, eL, ef⟩ := w2
  rw [eL, ef] at S
  replace ex := ex.symm
  subst ex
  refine W.eq (g2 := F0 m 5 ls [.ref wb]) rfl ?_
  refine lv_astore_n (lv' := [(3, .ref wb), (0, .ref xb), (1, .int wi), (2, .int sd_)]) hx hb dX8_solve_5 rfl hl (by decide) rfl (fun ls hl => ?_)
  refine lv_aload_n hx hb dX8_solve_6 rfl (lv_at hl 0 rfl) ?_
  refine lv_ifnonnull (tgt := 12) hx hb dX8_solve_7 (by decide) ?_
  refine lv_aload_n hx hb dX8_solve_12 rfl (lv_at hl 1 rfl) ?_
  refine q_get hx hb hts in_X8 hown S m_xb e_xb (C := RX8) (T := TX8) (N := 8) rfl 5 (by decide) rfl (hts (.fieldLink RX8 35 "SieveCabinet" "solver" "LSieveCabinet$Solver;") (gu_wsX8_solve_1 _ gm_0)) dX8_solve_13 ?_
  refine lv_aload_n hx hb dX8_solve_16 rfl (lv_at hl 0 rfl) ?_
  refine lv_iload_n hx hb dX8_solve_17 rfl (lv_at hl 3 rfl) ?_
  obtain ⟨z18, hz18, hM⟩ := bind_some hM
  refine q_vi (As := [.ref wb, .int sd_]) (rest := []) ⟨hx, hb, hml, hown, hts⟩ (k_X7_triesUntilSolved l D g m_so e_so m_pa e_pa m_ta e_ta m_lf e_lf m_bl e_bl m_si e_si m_sw e_sw m_tt e_tt m_tp e_tp m_wb e_wb m_wr e_wr n_bl_lf n_tt_ta n_tp_ta n_tp_tt hz18) (cwV 2 hts gX8_solve_X7_triesUntilSolved rfl rfl rfl (by decide +kernel) ⟨Nat.le_of_ble_eq_true rfl, Nat.le_of_ble_eq_true rfl⟩) S m_so e_so (T := TX7) (N := 9) rfl rfl hl.1 rfl (Nat.le_of_ble_eq_true rfl) dX8_solve_18 ⟨Nat.le_of_ble_eq_true rfl, Nat.le_of_ble_eq_true rfl⟩ (fun r6 L4 f5 H locs S w18 => ?_)
  obtain ⟨ex18, eL, fv18, E_so, E_pa, E_ta, E_lf, E_bl, E_si, E_sw, E_tt, E_tp⟩ := w18
  rw [eL] at S
  have fr : ∀ b, b ∈ L → b ≠ so → b ≠ pa → b ≠ ta → b ≠ lf → b ≠ bl → b ≠ si → b ≠ sw → b ≠ tt → b ≠ tp → f5 b = f b := fun b mb nb0 nb1 nb2 nb3 nb4 nb5 nb6 nb7 nb8 => (fv18 b mb nb0 nb1 nb2 nb3 nb4 nb5 nb6 nb7 nb8).trans (fr b mb nb0 nb1 nb2 nb3 nb4 nb5 nb6 nb7 nb8)
  have e_so : f5 so = .inr (5, [.ref pa, .ref ta, .ref lf, .ref bl, .ref si, .ref tt, .ref tp, .int z18.2.1, .int z18.2.2.1]) := E_so
  have e_pa : f5 pa = .inl (g 0, 3000, .inl z18.2.2.2.1) := E_pa
  have e_ta : f5 ta = .inl (g 0, 1000, .inl z18.2.2.2.2.1) := E_ta
  have e_lf : f5 lf = .inl (g 0, 3774, .inl z18.2.2.2.2.2.1) := E_lf
  have e_bl : f5 bl = .inl (g 0, 3774, .inl z18.2.2.2.2.2.2.1) := E_bl
  have e_si : f5 si = .inr (1, [.ref sw, .int z18.2.2.2.2.2.2.2.1]) := E_si
  have e_sw : f5 sw = .inl (g 1, 64, .inr (.inl z18.2.2.2.2.2.2.2.2.1)) := E_sw
  have e_tt : f5 tt = .inl (g 0, 1000, .inl z18.2.2.2.2.2.2.2.2.2.1) := E_tt
  have e_tp : f5 tp = .inl (g 0, 1000, .inl z18.2.2.2.2.2.2.2.2.2.2) := E_tp
  replace ex18 := ex18.symm
  subst ex18
  refine lv_istore (lv' := [(4, .int z18.1), (3, .ref wb), (0, .ref xb), (1, .int wi), (2, .int sd_)]) hx hb dX8_solve_21 hl (by decide) rfl (fun ls hl => ?_)
  refine lv_iload hx hb dX8_solve_23 (lv_at hl 0 rfl) ?_
  refine lv_if_ge (tgt := 31) hx hb dX8_solve_25 (by decide) (fun b25 => ?_) (fun b25 => ?_)
  · have hM := itT b25 hM
    refine lv_aload_n hx hb dX8_solve_31 rfl (lv_at hl 2 rfl) ?_
    exact no_some hM
  · have hM := itF b25 hM
    refine lv_bipush (v := (-3 : Int32)) hx hb dX8_solve_28 (by decide) ?_
    subst hQQ
    exact q_reti (post := fun x L1 f1 => x = z.1 ∧ L1 = L ∧ (∀ b, b ∈ L → b ≠ so → b ≠ pa → b ≠ ta → b ≠ lf → b ≠ bl → b ≠ si → b ≠ sw → b ≠ tt → b ≠ tp → f1 b = f b) ∧ f1 so = .inr (5, [.ref pa, .ref ta, .ref lf, .ref bl, .ref si, .ref tt, .ref tp, .int z.2.1, .int z.2.2.1]) ∧ f1 pa = .inl (g 0, 3000, .inl z.2.2.2.1) ∧ f1 ta = .inl (g 0, 1000, .inl z.2.2.2.2.1) ∧ f1 lf = .inl (g 0, 3774, .inl z.2.2.2.2.2.1) ∧ f1 bl = .inl (g 0, 3774, .inl z.2.2.2.2.2.2.1) ∧ f1 si = .inr (1, [.ref sw, .int z.2.2.2.2.2.2.2.1]) ∧ f1 sw = .inl (g 1, 64, .inr (.inl z.2.2.2.2.2.2.2.2.1)) ∧ f1 tt = .inl (g 0, 1000, .inl z.2.2.2.2.2.2.2.2.2.1) ∧ f1 tp = .inl (g 0, 1000, .inl z.2.2.2.2.2.2.2.2.2.2)) hx hb hr hlk S dX8_solve_30 (by decide) (by decide) (by have hz := Option.some.inj hM; subst hz; exact ⟨rfl, rfl, fr, e_so, e_pa, e_ta, e_lf, e_bl, e_si, e_sw, e_tt, e_tp⟩)

def mX8_solveX (md : Int32) (sd_ : Int32) (wn : Int32) (wv : Nat → Int64) (vpa : Nat → Int32) (vta : Nat → Int32) (vlf : Nat → Int32) (vbl : Nat → Int32) (z0 : Int32) (vsw : Nat → Int64) (vtt : Nat → Int32) (vtp : Nat → Int32) : Option (Int32 × Int32 × Int32 × (Nat → Int32) × (Nat → Int32) × (Nat → Int32) × (Nat → Int32) × Int32 × (Nat → Int64) × (Nat → Int32) × (Nat → Int32)) := (mX7_triesUntilSolved vpa vta vlf vbl z0 vsw vtt vtp wn wv sd_).bind fun z18 => if 0 ≤ z18.1 then ((mX8_nextSlotN md).bind fun z32 => some ((-4 : Int32), z18.2.1, z18.2.2.1, z18.2.2.2.1, z18.2.2.2.2.1, z18.2.2.2.2.2.1, z18.2.2.2.2.2.2.1, z18.2.2.2.2.2.2.2.1, z18.2.2.2.2.2.2.2.2.1, z18.2.2.2.2.2.2.2.2.2.1, z18.2.2.2.2.2.2.2.2.2.2)) else (some ((-3 : Int32), z18.2.1, z18.2.2.1, z18.2.2.2.1, z18.2.2.2.2.1, z18.2.2.2.2.2.1, z18.2.2.2.2.2.2.1, z18.2.2.2.2.2.2.2.1, z18.2.2.2.2.2.2.2.2.1, z18.2.2.2.2.2.2.2.2.2.1, z18.2.2.2.2.2.2.2.2.2.2))
set_option maxHeartbeats 4000000 in
set_option maxRecDepth 100000 in
theorem k_X8_solveX (l : Launch) (D : va_G) (g : Nat → ClassId) {L : List Nat} {f : Nat → va_E} {Sl bl ch dr lf pa ri si so sw ta th tp tt wb wo wr xb : Nat} {md : Int32} {wf : Nat → Option Nat} {sf : Nat → Option Nat} {wi : Int32} {sd_ : Int32} {wn : Int32} {wv : Nat → Int64} {cn : Int32} {th3 : Int32} {vpa : Nat → Int32} {vta : Nat → Int32} {vlf : Nat → Int32} {vbl : Nat → Int32} {z0 : Int32} {vsw : Nat → Int64} {vtt : Nat → Int32} {vtp : Nat → Int32} {ρ : Nat → Nat × Nat} {z : Int32 × Int32 × Int32 × (Nat → Int32) × (Nat → Int32) × (Nat → Int32) × (Nat → Int32) × Int32 × (Nat → Int64) × (Nat → Int32) × (Nat → Int32)} (m_xb : xb ∈ L) (e_xb : f xb = .inr (6, [.ref wo, .ref Sl, .ref dr, .ref ri, .ref th, .ref so, .ref ch, .int md])) (m_wo : wo ∈ L) (e_wo : f wo = .inl (g 3, 8, .inr (.inr (.inr (.inr wf))))) (m_wb : wb ∈ L) (e_wb : f wb = .inr (0, [.ref wr, .int wn])) (m_wr : wr ∈ L) (e_wr : f wr = .inl (g 1, 1000, .inr (.inl wv))) (m_Sl : Sl ∈ L) (e_Sl : f Sl = .inl (g 5, 30, .inr (.inr (.inr (.inr sf))))) (m_so : so ∈ L) (e_so : f so = .inr (5, [.ref pa, .ref ta, .ref lf, .ref bl, .ref si, .ref tt, .ref tp, .int cn, .int th3])) (m_pa : pa ∈ L) (e_pa : f pa = .inl (g 0, 3000, .inl vpa)) (m_ta : ta ∈ L) (e_ta : f ta = .inl (g 0, 1000, .inl vta)) (m_lf : lf ∈ L) (e_lf : f lf = .inl (g 0, 3774, .inl vlf)) (m_bl : bl ∈ L) (e_bl : f bl = .inl (g 0, 3774, .inl vbl)) (m_si : si ∈ L) (e_si : f si = .inr (1, [.ref sw, .int z0])) (m_sw : sw ∈ L) (e_sw : f sw = .inl (g 1, 64, .inr (.inl vsw))) (m_tt : tt ∈ L) (e_tt : f tt = .inl (g 0, 1000, .inl vtt)) (m_tp : tp ∈ L) (e_tp : f tp = .inl (g 0, 1000, .inl vtp))  (r_ta : ρ ta = (0, 11)) (r_lf : ρ lf = (0, 12)) (r_bl : ρ bl = (0, 13)) (r_tt : ρ tt = (0, 16)) (r_tp : ρ tp = (0, 17)) (hw2 : mX8_worldAt wf wi = some (some wb)) (hM : mX8_solveX md sd_ wn wv vpa vta vlf vbl z0 vsw vtt vtp = some z) : cI l yX8_solve wsX8_solve { frames := 5, cells := 0, slots := 0, locals := 110 } D g [.ref xb, .int wi, .int sd_] L f 0 0 (fun x L1 f1 => x = z.1 ∧ L1 = L ∧ (∀ b, b ∈ L → b ≠ so → b ≠ pa → b ≠ ta → b ≠ lf → b ≠ bl → b ≠ si → b ≠ sw → b ≠ tt → b ≠ tp → f1 b = f b) ∧ f1 so = .inr (5, [.ref pa, .ref ta, .ref lf, .ref bl, .ref si, .ref tt, .ref tp, .int z.2.1, .int z.2.2.1]) ∧ f1 pa = .inl (g 0, 3000, .inl z.2.2.2.1) ∧ f1 ta = .inl (g 0, 1000, .inl z.2.2.2.2.1) ∧ f1 lf = .inl (g 0, 3774, .inl z.2.2.2.2.2.1) ∧ f1 bl = .inl (g 0, 3774, .inl z.2.2.2.2.2.2.1) ∧ f1 si = .inr (1, [.ref sw, .int z.2.2.2.2.2.2.2.1]) ∧ f1 sw = .inl (g 1, 64, .inr (.inl z.2.2.2.2.2.2.2.2.1)) ∧ f1 tt = .inl (g 0, 1000, .inl z.2.2.2.2.2.2.2.2.2.1) ∧ f1 tp = .inl (g 0, 1000, .inl z.2.2.2.2.2.2.2.2.2.2)) := by
  refine cI_of (cc := cX8_solve) (maxL := 6) (ret := (some .int)) (by decide) rfl (Nat.le_of_ble_eq_true rfl) ?_
  intro szz p e s m below meth c hx hb hr hml hts hown hlk hnm S ls hl
  have hl : lv_has ls 6 [(0, .ref xb), (1, .int wi), (2, .int sd_)] := hl
  have in_X8 : ∀ w ∈ wsX80, w ∈ wsX8_solve := gu_wsX8_solve_9
  have n_bl_lf : bl ≠ lf := role_ne r_lf r_bl (by decide)
  have n_tt_ta : tt ≠ ta := role_ne r_ta r_tt (by decide)
  have n_tp_ta : tp ≠ ta := role_ne r_ta r_tp (by decide)
  have n_tp_tt : tp ≠ tt := role_ne r_tt r_tp (by decide)
  have n_xb_so : xb ≠ so := ne_rr e_so e_xb (by decide)
  have n_xb_pa : xb ≠ pa := ne_ir e_pa e_xb
  have n_xb_ta : xb ≠ ta := ne_ir e_ta e_xb
  have n_xb_lf : xb ≠ lf := ne_ir e_lf e_xb
  have n_xb_bl : xb ≠ bl := ne_ir e_bl e_xb
  have n_xb_si : xb ≠ si := ne_rr e_si e_xb (by decide)
  have n_xb_sw : xb ≠ sw := ne_ir e_sw e_xb
  have n_xb_tt : xb ≠ tt := ne_ir e_tt e_xb
  have n_xb_tp : xb ≠ tp := ne_ir e_tp e_xb
  have n_Sl_so : Sl ≠ so := ne_ri e_so e_Sl
  have n_Sl_pa : Sl ≠ pa := ne_len e_pa e_Sl (by decide)
  have n_Sl_ta : Sl ≠ ta := ne_len e_ta e_Sl (by decide)
  have n_Sl_lf : Sl ≠ lf := ne_len e_lf e_Sl (by decide)
  have n_Sl_bl : Sl ≠ bl := ne_len e_bl e_Sl (by decide)
  have n_Sl_si : Sl ≠ si := ne_ri e_si e_Sl
  have n_Sl_sw : Sl ≠ sw := ne_len e_sw e_Sl (by decide)
  have n_Sl_tt : Sl ≠ tt := ne_len e_tt e_Sl (by decide)
  have n_Sl_tp : Sl ≠ tp := ne_len e_tp e_Sl (by decide)
  have fr : ∀ b, b ∈ L → b ≠ so → b ≠ pa → b ≠ ta → b ≠ lf → b ≠ bl → b ≠ si → b ≠ sw → b ≠ tt → b ≠ tp → f b = f b := fun _ _ _ _ _ _ _ _ _ _ _ => rfl
  unfold mX8_solveX at hM
  refine W_gen (fun QQ hQQ => ?_)
  refine lv_aload_n hx hb dX8_solve_0 rfl (lv_at hl 0 rfl) ?_
  refine lv_iload_n hx hb dX8_solve_1 rfl (lv_at hl 1 rfl) ?_
  refine q_vq (As := [.int wi]) (rest := []) ⟨hx, hb, hml, hown, hts⟩ (k_X8_worldAt l D g m_xb e_xb m_wo e_wo hw2) (cwV 1 hts gX8_solve_X8_worldAt rfl rfl rfl (by decide +kernel) ⟨Nat.le_of_ble_eq_true rfl, Nat.le_of_ble_eq_true rfl⟩) S m_xb e_xb (T := TX8) (N := 8) rfl rfl hl.1 rfl (Nat.le_of_ble_eq_true rfl) dX8_solve_2 ⟨Nat.le_of_ble_eq_true rfl, Nat.le_of_ble_eq_true rfl⟩ (fun r3 L1 f2 H locs S w2 => ?_)
  obtain ⟨ex, eL, ef⟩ := w2
  rw [eL, ef] at S
  replace ex := ex.symm
  subst ex
  refine W.eq (g2 := F0 m 5 ls [.ref wb]) rfl ?_
  refine lv_astore_n (lv' := [(3, .ref wb), (0, .ref xb), (1, .int wi), (2, .int sd_)]) hx hb dX8_solve_5 rfl hl (by decide) rfl (fun ls hl => ?_)
  refine lv_aload_n hx hb dX8_solve_6 rfl (lv_at hl 0 rfl) ?_
  refine lv_ifnonnull (tgt := 12) hx hb dX8_solve_7 (by decide) ?_
  refine lv_aload_n hx hb dX8_solve_12 rfl (lv_at hl 1 rfl) ?_
  refine q_get hx hb hts in_X8 hown S m_xb e_xb (C := RX8) (T := TX8) (N := 8) rfl 5 (by decide) rfl (hts (.fieldLink RX8 35 "SieveCabinet" "solver" "LSieveCabinet$Solver;") (gu_wsX8_solve_1 _ gm_0)) dX8_solve_13 ?_
  refine lv_aload_n hx hb dX8_solve_16 rfl (lv_at hl 0 rfl) ?_
  refine lv_iload_n hx hb dX8_solve_17 rfl (lv_at hl 3 rfl) ?_
  obtain ⟨z18, hz18, hM⟩ := bind_some hM
  refine q_vi (As := [.ref wb, .int sd_]) (rest := []) ⟨hx, hb, hml, hown, hts⟩ (k_X7_triesUntilSolved l D g m_so e_so m_pa e_pa m_ta e_ta m_lf e_lf m_bl e_bl m_si e_si m_sw e_sw m_tt e_tt m_tp e_tp m_wb e_wb m_wr e_wr n_bl_lf n_tt_ta n_tp_ta n_tp_tt hz18) (cwV 2 hts gX8_solve_X7_triesUntilSolved rfl rfl rfl (by decide +kernel) ⟨Nat.le_of_ble_eq_true rfl, Nat.le_of_ble_eq_true rfl⟩) S m_so e_so (T := TX7) (N := 9) rfl rfl hl.1 rfl (Nat.le_of_ble_eq_true rfl) dX8_solve_18 ⟨Nat.le_of_ble_eq_true rfl, Nat.le_of_ble_eq_true rfl⟩ (fun r6 L4 f5 H locs S w18 => ?_)
  obtain ⟨ex18, eL, fv18, E_so, E_pa, E_ta, E_lf, E_bl, E_si, E_sw, E_tt, E_tp⟩ := w18
  rw [eL] at S
  have fr : ∀ b, b ∈ L → b ≠ so → b ≠ pa → b ≠ ta → b ≠ lf → b ≠ bl → b ≠ si → b ≠ sw → b ≠ tt → b ≠ tp → f5 b = f b := fun b mb nb0 nb1 nb2 nb3 nb4 nb5 nb6 nb7 nb8 => (fv18 b mb nb0 nb1 nb2 nb3 nb4 nb5 nb6 nb7 nb8).trans (fr b mb nb0 nb1 nb2 nb3 nb4 nb5 nb6 nb7 nb8)
  have e_so : f5 so = .inr (5, [.ref pa, .ref ta, .ref lf, .ref bl, .ref si, .ref tt, .ref tp, .int z18.2.1, .int z18.2.2.1]) := E_so
  have e_pa : f5 pa = .inl (g 0, 3000, .inl z18.2.2.2.1) := E_pa
  have e_ta : f5 ta = .inl (g 0, 1000, .inl z18.2.2.2.2.1) := E_ta
  have e_lf : f5 lf = .inl (g 0, 3774, .inl z18.2.2.2.2.2.1) := E_lf
  have e_bl : f5 bl = .inl (g 0, 3774, .inl z18.2.2.2.2.2.2.1) := E_bl
  have e_si : f5 si = .inr (1, [.ref sw, .int z18.2.2.2.2.2.2.2.1]) := E_si
  have e_sw : f5 sw = .inl (g 1, 64, .inr (.inl z18.2.2.2.2.2.2.2.2.1)) := E_sw
  have e_tt : f5 tt = .inl (g 0, 1000, .inl z18.2.2.2.2.2.2.2.2.2.1) := E_tt
  have e_tp : f5 tp = .inl (g 0, 1000, .inl z18.2.2.2.2.2.2.2.2.2.2) := E_tp
  replace ex18 := ex18.symm
  subst ex18
  refine lv_istore (lv' := [(4, .int z18.1), (3, .ref wb), (0, .ref xb), (1, .int wi), (2, .int sd_)]) hx hb dX8_solve_21 hl (by decide) rfl (fun ls hl => ?_)
  refine lv_iload hx hb dX8_solve_23 (lv_at hl 0 rfl) ?_
  refine lv_if_ge (tgt := 31) hx hb dX8_solve_25 (by decide) (fun b25 => ?_) (fun b25 => ?_)
  · have hM := itT b25 hM
    refine lv_aload_n hx hb dX8_solve_31 rfl (lv_at hl 2 rfl) ?_
    obtain ⟨z32, hz32, hM⟩ := bind_some hM
    have e_xb := ((fv18 xb m_xb n_xb_so n_xb_pa n_xb_ta n_xb_lf n_xb_bl n_xb_si n_xb_sw n_xb_tt n_xb_tp).trans e_xb)
    have e_Sl := ((fv18 Sl m_Sl n_Sl_so n_Sl_pa n_Sl_ta n_Sl_lf n_Sl_bl n_Sl_si n_Sl_sw n_Sl_tt n_Sl_tp).trans e_Sl)
    refine q_vq (As := []) (rest := []) ⟨hx, hb, hml, hown, hts⟩ (k_X8_nextSlotN l D g m_xb e_xb m_Sl e_Sl hz32) (cwV 0 hts gX8_solve_X8_nextSlot rfl rfl rfl (by decide +kernel) ⟨Nat.le_of_ble_eq_true rfl, Nat.le_of_ble_eq_true rfl⟩) S m_xb e_xb (T := TX8) (N := 8) rfl rfl hl.1 rfl (Nat.le_of_ble_eq_true rfl) dX8_solve_32 ⟨Nat.le_of_ble_eq_true rfl, Nat.le_of_ble_eq_true rfl⟩ (fun r9 L7 f8 H locs S w32 => ?_)
    obtain ⟨ex32, eL, ef⟩ := w32
    rw [eL, ef] at S
    replace ex32 := ex32.symm
    subst ex32
    refine W.eq (g2 := F0 m 35 ls [.null]) rfl ?_
    refine lv_astoreN (lv' := [(5, .null), (4, .int z18.1), (3, .ref wb), (0, .ref xb), (1, .int wi), (2, .int sd_)]) hx hb dX8_solve_35 hl (by decide) rfl (fun ls hl => ?_)
    refine lv_aloadN hx hb dX8_solve_37 (lv_at hl 0 rfl) ?_
    refine lv_ifnonnullN hx hb dX8_solve_39 ?_
    refine lv_bipush (v := (-4 : Int32)) hx hb dX8_solve_42 (by decide) ?_
    subst hQQ
    exact q_reti (post := fun x L1 f1 => x = z.1 ∧ L1 = L ∧ (∀ b, b ∈ L → b ≠ so → b ≠ pa → b ≠ ta → b ≠ lf → b ≠ bl → b ≠ si → b ≠ sw → b ≠ tt → b ≠ tp → f1 b = f b) ∧ f1 so = .inr (5, [.ref pa, .ref ta, .ref lf, .ref bl, .ref si, .ref tt, .ref tp, .int z.2.1, .int z.2.2.1]) ∧ f1 pa = .inl (g 0, 3000, .inl z.2.2.2.1) ∧ f1 ta = .inl (g 0, 1000, .inl z.2.2.2.2.1) ∧ f1 lf = .inl (g 0, 3774, .inl z.2.2.2.2.2.1) ∧ f1 bl = .inl (g 0, 3774, .inl z.2.2.2.2.2.2.1) ∧ f1 si = .inr (1, [.ref sw, .int z.2.2.2.2.2.2.2.1]) ∧ f1 sw = .inl (g 1, 64, .inr (.inl z.2.2.2.2.2.2.2.2.1)) ∧ f1 tt = .inl (g 0, 1000, .inl z.2.2.2.2.2.2.2.2.2.1) ∧ f1 tp = .inl (g 0, 1000, .inl z.2.2.2.2.2.2.2.2.2.2)) hx hb hr hlk S dX8_solve_44 (by decide) (by decide) (by have hz := Option.some.inj hM; subst hz; exact ⟨rfl, rfl, fr, e_so, e_pa, e_ta, e_lf, e_bl, e_si, e_sw, e_tt, e_tp⟩)
  · have hM := itF b25 hM
    refine lv_bipush (v := (-3 : Int32)) hx hb dX8_solve_28 (by decide) ?_
    subst hQQ
    exact q_reti (post := fun x L1 f1 => x = z.1 ∧ L1 = L ∧ (∀ b, b ∈ L → b ≠ so → b ≠ pa → b ≠ ta → b ≠ lf → b ≠ bl → b ≠ si → b ≠ sw → b ≠ tt → b ≠ tp → f1 b = f b) ∧ f1 so = .inr (5, [.ref pa, .ref ta, .ref lf, .ref bl, .ref si, .ref tt, .ref tp, .int z.2.1, .int z.2.2.1]) ∧ f1 pa = .inl (g 0, 3000, .inl z.2.2.2.1) ∧ f1 ta = .inl (g 0, 1000, .inl z.2.2.2.2.1) ∧ f1 lf = .inl (g 0, 3774, .inl z.2.2.2.2.2.1) ∧ f1 bl = .inl (g 0, 3774, .inl z.2.2.2.2.2.2.1) ∧ f1 si = .inr (1, [.ref sw, .int z.2.2.2.2.2.2.2.1]) ∧ f1 sw = .inl (g 1, 64, .inr (.inl z.2.2.2.2.2.2.2.2.1)) ∧ f1 tt = .inl (g 0, 1000, .inl z.2.2.2.2.2.2.2.2.2.1) ∧ f1 tp = .inl (g 0, 1000, .inl z.2.2.2.2.2.2.2.2.2.2)) hx hb hr hlk S dX8_solve_30 (by decide) (by decide) (by have hz := Option.some.inj hM; subst hz; exact ⟨rfl, rfl, fr, e_so, e_pa, e_ta, e_lf, e_bl, e_si, e_sw, e_tt, e_tp⟩)

def mX8_solveE (md : Int32) (sd_ : Int32) (wn : Int32) (wv : Nat → Int64) (vpa : Nat → Int32) (vta : Nat → Int32) (vlf : Nat → Int32) (vbl : Nat → Int32) (z0 : Int32) (vsw : Nat → Int64) (vtt : Nat → Int32) (vtp : Nat → Int32) (kd : Int32) (sz : Int32) (mk : Int32) (sd : Int32) (kc : Nat → Int32) (n : Int32) (v : Nat → Int64) : Option (Int32 × Int32 × Int32 × Int32 × (Nat → Int32) × (Nat → Int32) × (Nat → Int32) × (Nat → Int32) × Int32 × (Nat → Int64) × (Nat → Int32) × (Nat → Int32) × Int32 × Int32 × Int32 × Int32 × (Nat → Int32) × Int32 × (Nat → Int64)) := (mX7_triesUntilSolved vpa vta vlf vbl z0 vsw vtt vtp wn wv sd_).bind fun z18 => if 0 ≤ z18.1 then ((mX8_nextSlotE md).bind fun z32 => (mX7_places z18.2.2.1).bind fun z52 => (mX6_begin kc (3 : Int32) z52 (0 : Int32) (sd_ + z18.1)).bind fun z60 => (mX0_copyFrom v wn wv).bind fun z69 => (mX7_fill z18.2.1 z18.2.2.2.1 z18.2.2.2.2.1 z18.2.2.2.2.2.2.2.2.2.1 z18.2.2.2.2.2.2.2.2.2.2 z60.2.2.2.2.1).bind fun z78 => some (md, (md + (1 : Int32)), z18.2.1, z18.2.2.1, z18.2.2.2.1, z18.2.2.2.2.1, z18.2.2.2.2.2.1, z18.2.2.2.2.2.2.1, z18.2.2.2.2.2.2.2.1, z18.2.2.2.2.2.2.2.2.1, z18.2.2.2.2.2.2.2.2.2.1, z18.2.2.2.2.2.2.2.2.2.2, z60.1, z60.2.1, z60.2.2.1, z60.2.2.2.1, z78, z69.1, z69.2)) else (some ((-3 : Int32), md, z18.2.1, z18.2.2.1, z18.2.2.2.1, z18.2.2.2.2.1, z18.2.2.2.2.2.1, z18.2.2.2.2.2.2.1, z18.2.2.2.2.2.2.2.1, z18.2.2.2.2.2.2.2.2.1, z18.2.2.2.2.2.2.2.2.2.1, z18.2.2.2.2.2.2.2.2.2.2, kd, sz, mk, sd, kc, n, v))
set_option maxHeartbeats 4000000 in
set_option maxRecDepth 100000 in
theorem k_X8_solveE (l : Launch) (D : va_G) (g : Nat → ClassId) {L : List Nat} {f : Nat → va_E} {Sl bl ce ch co cr dr h lf pa ri si so sw ta th tp tt wb wo wr xb : Nat} {md : Int32} {wf : Nat → Option Nat} {sf : Nat → Option Nat} {wi : Int32} {sd_ : Int32} {wn : Int32} {wv : Nat → Int64} {jw : Nat} {cn : Int32} {th3 : Int32} {vpa : Nat → Int32} {vta : Nat → Int32} {vlf : Nat → Int32} {vbl : Nat → Int32} {z0 : Int32} {vsw : Nat → Int64} {vtt : Nat → Int32} {vtp : Nat → Int32} {lay : Value} {kd : Int32} {sz : Int32} {mk : Int32} {sd : Int32} {kc : Nat → Int32} {n : Int32} {v : Nat → Int64} {jm : Nat} {ρ : Nat → Nat × Nat} {z : Int32 × Int32 × Int32 × Int32 × (Nat → Int32) × (Nat → Int32) × (Nat → Int32) × (Nat → Int32) × Int32 × (Nat → Int64) × (Nat → Int32) × (Nat → Int32) × Int32 × Int32 × Int32 × Int32 × (Nat → Int32) × Int32 × (Nat → Int64)} (m_xb : xb ∈ L) (e_xb : f xb = .inr (6, [.ref wo, .ref Sl, .ref dr, .ref ri, .ref th, .ref so, .ref ch, .int md])) (m_wo : wo ∈ L) (e_wo : f wo = .inl (g 3, 8, .inr (.inr (.inr (.inr wf))))) (m_wb : wb ∈ L) (e_wb : f wb = .inr (0, [.ref wr, .int wn])) (m_wr : wr ∈ L) (e_wr : f wr = .inl (g 1, 1000, .inr (.inl wv))) (m_Sl : Sl ∈ L) (e_Sl : f Sl = .inl (g 5, 30, .inr (.inr (.inr (.inr sf))))) (m_so : so ∈ L) (e_so : f so = .inr (5, [.ref pa, .ref ta, .ref lf, .ref bl, .ref si, .ref tt, .ref tp, .int cn, .int th3])) (m_pa : pa ∈ L) (e_pa : f pa = .inl (g 0, 3000, .inl vpa)) (m_ta : ta ∈ L) (e_ta : f ta = .inl (g 0, 1000, .inl vta)) (m_lf : lf ∈ L) (e_lf : f lf = .inl (g 0, 3774, .inl vlf)) (m_bl : bl ∈ L) (e_bl : f bl = .inl (g 0, 3774, .inl vbl)) (m_si : si ∈ L) (e_si : f si = .inr (1, [.ref sw, .int z0])) (m_sw : sw ∈ L) (e_sw : f sw = .inl (g 1, 64, .inr (.inl vsw))) (m_tt : tt ∈ L) (e_tt : f tt = .inl (g 0, 1000, .inl vtt)) (m_tp : tp ∈ L) (e_tp : f tp = .inl (g 0, 1000, .inl vtp)) (m_h : h ∈ L) (e_h : f h = .inr (4, [.ref ce, .ref co, lay, .int kd, .int sz, .int mk, .int sd])) (m_ce : ce ∈ L) (e_ce : f ce = .inl (g 0, 4096, .inl kc)) (m_co : co ∈ L) (e_co : f co = .inr (0, [.ref cr, .int n])) (m_cr : cr ∈ L) (e_cr : f cr = .inl (g 1, 1000, .inr (.inl v)))  (r_ta : ρ ta = (0, 11)) (r_lf : ρ lf = (0, 12)) (r_bl : ρ bl = (0, 13)) (r_tt : ρ tt = (0, 16)) (r_tp : ρ tp = (0, 17)) (r_wb : ρ wb = (1 + 2 * jw, 0)) (r_co : ρ co = (2 + 2 * jm, 0)) (hF_h : sf (Int32.toNatClampNeg md) = some h) (hw2 : mX8_worldAt wf wi = some (some wb)) (hM : mX8_solveE md sd_ wn wv vpa vta vlf vbl z0 vsw vtt vtp kd sz mk sd kc n v = some z) : cI l yX8_solve wsX8_solve { frames := 5, cells := 0, slots := 0, locals := 110 } D g [.ref xb, .int wi, .int sd_] L f 0 0 (fun x L1 f1 => x = z.1 ∧ L1 = L ∧ (∀ b, b ∈ L → b ≠ xb → b ≠ so → b ≠ pa → b ≠ ta → b ≠ lf → b ≠ bl → b ≠ si → b ≠ sw → b ≠ tt → b ≠ tp → b ≠ h → b ≠ ce → b ≠ co → b ≠ cr → f1 b = f b) ∧ f1 xb = .inr (6, [.ref wo, .ref Sl, .ref dr, .ref ri, .ref th, .ref so, .ref ch, .int z.2.1]) ∧ f1 so = .inr (5, [.ref pa, .ref ta, .ref lf, .ref bl, .ref si, .ref tt, .ref tp, .int z.2.2.1, .int z.2.2.2.1]) ∧ f1 pa = .inl (g 0, 3000, .inl z.2.2.2.2.1) ∧ f1 ta = .inl (g 0, 1000, .inl z.2.2.2.2.2.1) ∧ f1 lf = .inl (g 0, 3774, .inl z.2.2.2.2.2.2.1) ∧ f1 bl = .inl (g 0, 3774, .inl z.2.2.2.2.2.2.2.1) ∧ f1 si = .inr (1, [.ref sw, .int z.2.2.2.2.2.2.2.2.1]) ∧ f1 sw = .inl (g 1, 64, .inr (.inl z.2.2.2.2.2.2.2.2.2.1)) ∧ f1 tt = .inl (g 0, 1000, .inl z.2.2.2.2.2.2.2.2.2.2.1) ∧ f1 tp = .inl (g 0, 1000, .inl z.2.2.2.2.2.2.2.2.2.2.2.1) ∧ f1 h = .inr (4, [.ref ce, .ref co, lay, .int z.2.2.2.2.2.2.2.2.2.2.2.2.1, .int z.2.2.2.2.2.2.2.2.2.2.2.2.2.1, .int z.2.2.2.2.2.2.2.2.2.2.2.2.2.2.1, .int z.2.2.2.2.2.2.2.2.2.2.2.2.2.2.2.1]) ∧ f1 ce = .inl (g 0, 4096, .inl z.2.2.2.2.2.2.2.2.2.2.2.2.2.2.2.2.1) ∧ f1 co = .inr (0, [.ref cr, .int z.2.2.2.2.2.2.2.2.2.2.2.2.2.2.2.2.2.1]) ∧ f1 cr = .inl (g 1, 1000, .inr (.inl z.2.2.2.2.2.2.2.2.2.2.2.2.2.2.2.2.2.2))) := by
  refine cI_of (cc := cX8_solve) (maxL := 6) (ret := (some .int)) (by decide) rfl (Nat.le_of_ble_eq_true rfl) ?_
  intro szz p e s m below meth c hx hb hr hml hts hown hlk hnm S ls hl
  have hl : lv_has ls 6 [(0, .ref xb), (1, .int wi), (2, .int sd_)] := hl
  have in_X6 : ∀ w ∈ wsX60, w ∈ wsX8_solve := gu_wsX8_solve_10
  have in_X8 : ∀ w ∈ wsX80, w ∈ wsX8_solve := gu_wsX8_solve_9
  have n_bl_lf : bl ≠ lf := role_ne r_lf r_bl (by decide)
  have n_tt_ta : tt ≠ ta := role_ne r_ta r_tt (by decide)
  have n_tp_ta : tp ≠ ta := role_ne r_ta r_tp (by decide)
  have n_tp_tt : tp ≠ tt := role_ne r_tt r_tp (by decide)
  have n_xb_so : xb ≠ so := ne_rr e_so e_xb (by decide)
  have n_xb_pa : xb ≠ pa := ne_ir e_pa e_xb
  have n_xb_ta : xb ≠ ta := ne_ir e_ta e_xb
  have n_xb_lf : xb ≠ lf := ne_ir e_lf e_xb
  have n_xb_bl : xb ≠ bl := ne_ir e_bl e_xb
  have n_xb_si : xb ≠ si := ne_rr e_si e_xb (by decide)
  have n_xb_sw : xb ≠ sw := ne_ir e_sw e_xb
  have n_xb_tt : xb ≠ tt := ne_ir e_tt e_xb
  have n_xb_tp : xb ≠ tp := ne_ir e_tp e_xb
  have n_Sl_so : Sl ≠ so := ne_ri e_so e_Sl
  have n_Sl_pa : Sl ≠ pa := ne_len e_pa e_Sl (by decide)
  have n_Sl_ta : Sl ≠ ta := ne_len e_ta e_Sl (by decide)
  have n_Sl_lf : Sl ≠ lf := ne_len e_lf e_Sl (by decide)
  have n_Sl_bl : Sl ≠ bl := ne_len e_bl e_Sl (by decide)
  have n_Sl_si : Sl ≠ si := ne_ri e_si e_Sl
  have n_Sl_sw : Sl ≠ sw := ne_len e_sw e_Sl (by decide)
  have n_Sl_tt : Sl ≠ tt := ne_len e_tt e_Sl (by decide)
  have n_Sl_tp : Sl ≠ tp := ne_len e_tp e_Sl (by decide)
  have n_h_so : h ≠ so := ne_rr e_so e_h (by decide)
  have n_h_pa : h ≠ pa := ne_ir e_pa e_h
  have n_h_ta : h ≠ ta := ne_ir e_ta e_h
  have n_h_lf : h ≠ lf := ne_ir e_lf e_h
  have n_h_bl : h ≠ bl := ne_ir e_bl e_h
  have n_h_si : h ≠ si := ne_rr e_si e_h (by decide)
  have n_h_sw : h ≠ sw := ne_ir e_sw e_h
  have n_h_tt : h ≠ tt := ne_ir e_tt e_h
  have n_h_tp : h ≠ tp := ne_ir e_tp e_h
  have n_ce_so : ce ≠ so := ne_ri e_so e_ce
  have n_ce_pa : ce ≠ pa := ne_len e_pa e_ce (by decide)
  have n_ce_ta : ce ≠ ta := ne_len e_ta e_ce (by decide)
  have n_ce_lf : ce ≠ lf := ne_len e_lf e_ce (by decide)
  have n_ce_bl : ce ≠ bl := ne_len e_bl e_ce (by decide)
  have n_ce_si : ce ≠ si := ne_ri e_si e_ce
  have n_ce_sw : ce ≠ sw := ne_len e_sw e_ce (by decide)
  have n_ce_tt : ce ≠ tt := ne_len e_tt e_ce (by decide)
  have n_ce_tp : ce ≠ tp := ne_len e_tp e_ce (by decide)
  have n_co_so : co ≠ so := ne_rr e_so e_co (by decide)
  have n_co_pa : co ≠ pa := ne_ir e_pa e_co
  have n_co_ta : co ≠ ta := ne_ir e_ta e_co
  have n_co_lf : co ≠ lf := ne_ir e_lf e_co
  have n_co_bl : co ≠ bl := ne_ir e_bl e_co
  have n_co_si : co ≠ si := ne_rr e_si e_co (by decide)
  have n_co_sw : co ≠ sw := ne_ir e_sw e_co
  have n_co_tt : co ≠ tt := ne_ir e_tt e_co
  have n_co_tp : co ≠ tp := ne_ir e_tp e_co
  have n_cr_so : cr ≠ so := ne_ri e_so e_cr
  have n_cr_pa : cr ≠ pa := ne_len e_pa e_cr (by decide)
  have n_cr_ta : cr ≠ ta := ne_01 e_ta e_cr
  have n_cr_lf : cr ≠ lf := ne_len e_lf e_cr (by decide)
  have n_cr_bl : cr ≠ bl := ne_len e_bl e_cr (by decide)
  have n_cr_si : cr ≠ si := ne_ri e_si e_cr
  have n_cr_sw : cr ≠ sw := ne_len e_sw e_cr (by decide)
  have n_cr_tt : cr ≠ tt := ne_01 e_tt e_cr
  have n_cr_tp : cr ≠ tp := ne_01 e_tp e_cr
  have n_cr_h : cr ≠ h := ne_ri e_h e_cr
  have n_cr_ce : cr ≠ ce := ne_len e_ce e_cr (by decide)
  have n_cr_co : cr ≠ co := ne_ri e_co e_cr
  have n_wb_so : wb ≠ so := ne_rr e_so e_wb (by decide)
  have n_wb_pa : wb ≠ pa := ne_ir e_pa e_wb
  have n_wb_ta : wb ≠ ta := ne_ir e_ta e_wb
  have n_wb_lf : wb ≠ lf := ne_ir e_lf e_wb
  have n_wb_bl : wb ≠ bl := ne_ir e_bl e_wb
  have n_wb_si : wb ≠ si := ne_rr e_si e_wb (by decide)
  have n_wb_sw : wb ≠ sw := ne_ir e_sw e_wb
  have n_wb_tt : wb ≠ tt := ne_ir e_tt e_wb
  have n_wb_tp : wb ≠ tp := ne_ir e_tp e_wb
  have n_wb_h : wb ≠ h := ne_rr e_h e_wb (by decide)
  have n_wb_ce : wb ≠ ce := ne_ir e_ce e_wb
  have n_wb_co : wb ≠ co := role_ne r_co r_wb nr_ws
  have n_wr_so : wr ≠ so := ne_ri e_so e_wr
  have n_wr_pa : wr ≠ pa := ne_len e_pa e_wr (by decide)
  have n_wr_ta : wr ≠ ta := ne_01 e_ta e_wr
  have n_wr_lf : wr ≠ lf := ne_len e_lf e_wr (by decide)
  have n_wr_bl : wr ≠ bl := ne_len e_bl e_wr (by decide)
  have n_wr_si : wr ≠ si := ne_ri e_si e_wr
  have n_wr_sw : wr ≠ sw := ne_len e_sw e_wr (by decide)
  have n_wr_tt : wr ≠ tt := ne_01 e_tt e_wr
  have n_wr_tp : wr ≠ tp := ne_01 e_tp e_wr
  have n_wr_h : wr ≠ h := ne_ri e_h e_wr
  have n_wr_ce : wr ≠ ce := ne_len e_ce e_wr (by decide)
  have n_wr_co : wr ≠ co := ne_ri e_co e_wr
  have n_xb_h : xb ≠ h := ne_rr e_h e_xb (by decide)
  have n_xb_ce : xb ≠ ce := ne_ir e_ce e_xb
  have n_xb_co : xb ≠ co := ne_rr e_co e_xb (by decide)
  have n_xb_cr : xb ≠ cr := ne_ir e_cr e_xb
  have n_so_h : so ≠ h := ne_rr e_h e_so (by decide)
  have n_so_ce : so ≠ ce := ne_ir e_ce e_so
  have n_so_co : so ≠ co := ne_rr e_co e_so (by decide)
  have n_so_cr : so ≠ cr := ne_ir e_cr e_so
  have n_pa_h : pa ≠ h := ne_ri e_h e_pa
  have n_pa_ce : pa ≠ ce := ne_len e_ce e_pa (by decide)
  have n_pa_co : pa ≠ co := ne_ri e_co e_pa
  have n_pa_cr : pa ≠ cr := ne_len e_cr e_pa (by decide)
  have n_ta_h : ta ≠ h := ne_ri e_h e_ta
  have n_ta_ce : ta ≠ ce := ne_len e_ce e_ta (by decide)
  have n_ta_co : ta ≠ co := ne_ri e_co e_ta
  have n_ta_cr : ta ≠ cr := ne_10 e_cr e_ta
  have n_lf_h : lf ≠ h := ne_ri e_h e_lf
  have n_lf_ce : lf ≠ ce := ne_len e_ce e_lf (by decide)
  have n_lf_co : lf ≠ co := ne_ri e_co e_lf
  have n_lf_cr : lf ≠ cr := ne_len e_cr e_lf (by decide)
  have n_bl_h : bl ≠ h := ne_ri e_h e_bl
  have n_bl_ce : bl ≠ ce := ne_len e_ce e_bl (by decide)
  have n_bl_co : bl ≠ co := ne_ri e_co e_bl
  have n_bl_cr : bl ≠ cr := ne_len e_cr e_bl (by decide)
  have n_si_h : si ≠ h := ne_rr e_h e_si (by decide)
  have n_si_ce : si ≠ ce := ne_ir e_ce e_si
  have n_si_co : si ≠ co := ne_rr e_co e_si (by decide)
  have n_si_cr : si ≠ cr := ne_ir e_cr e_si
  have n_sw_h : sw ≠ h := ne_ri e_h e_sw
  have n_sw_ce : sw ≠ ce := ne_len e_ce e_sw (by decide)
  have n_sw_co : sw ≠ co := ne_ri e_co e_sw
  have n_sw_cr : sw ≠ cr := ne_len e_cr e_sw (by decide)
  have n_tt_h : tt ≠ h := ne_ri e_h e_tt
  have n_tt_ce : tt ≠ ce := ne_len e_ce e_tt (by decide)
  have n_tt_co : tt ≠ co := ne_ri e_co e_tt
  have n_tt_cr : tt ≠ cr := ne_10 e_cr e_tt
  have n_tp_h : tp ≠ h := ne_ri e_h e_tp
  have n_tp_ce : tp ≠ ce := ne_len e_ce e_tp (by decide)
  have n_tp_co : tp ≠ co := ne_ri e_co e_tp
  have n_tp_cr : tp ≠ cr := ne_10 e_cr e_tp
  have n_h_co : h ≠ co := ne_rr e_co e_h (by decide)
  have n_h_cr : h ≠ cr := ne_ir e_cr e_h
  have n_ce_co : ce ≠ co := ne_ri e_co e_ce
  have n_ce_cr : ce ≠ cr := ne_len e_cr e_ce (by decide)
  have n_so_xb : so ≠ xb := ne_rr e_xb e_so (by decide)
  have n_pa_xb : pa ≠ xb := ne_ri e_xb e_pa
  have n_ta_xb : ta ≠ xb := ne_ri e_xb e_ta
  have n_lf_xb : lf ≠ xb := ne_ri e_xb e_lf
  have n_bl_xb : bl ≠ xb := ne_ri e_xb e_bl
  have n_si_xb : si ≠ xb := ne_rr e_xb e_si (by decide)
  have n_sw_xb : sw ≠ xb := ne_ri e_xb e_sw
  have n_tt_xb : tt ≠ xb := ne_ri e_xb e_tt
  have n_tp_xb : tp ≠ xb := ne_ri e_xb e_tp
  have n_h_ce : h ≠ ce := ne_ir e_ce e_h
  have n_h_xb : h ≠ xb := ne_rr e_xb e_h (by decide)
  have n_ce_xb : ce ≠ xb := ne_ri e_xb e_ce
  have n_co_ce : co ≠ ce := ne_ir e_ce e_co
  have n_co_xb : co ≠ xb := ne_rr e_xb e_co (by decide)
  have n_cr_xb : cr ≠ xb := ne_ri e_xb e_cr
  have fr : ∀ b, b ∈ L → b ≠ xb → b ≠ so → b ≠ pa → b ≠ ta → b ≠ lf → b ≠ bl → b ≠ si → b ≠ sw → b ≠ tt → b ≠ tp → b ≠ h → b ≠ ce → b ≠ co → b ≠ cr → f b = f b := fun _ _ _ _ _ _ _ _ _ _ _ _ _ _ _ _ => rfl
  unfold mX8_solveE at hM
  refine W_gen (fun QQ hQQ => ?_)
  refine lv_aload_n hx hb dX8_solve_0 rfl (lv_at hl 0 rfl) ?_
  refine lv_iload_n hx hb dX8_solve_1 rfl (lv_at hl 1 rfl) ?_
  refine q_vq (As := [.int wi]) (rest := []) ⟨hx, hb, hml, hown, hts⟩ (k_X8_worldAt l D g m_xb e_xb m_wo e_wo hw2) (cwV 1 hts gX8_solve_X8_worldAt rfl rfl rfl (by decide +kernel) ⟨Nat.le_of_ble_eq_true rfl, Nat.le_of_ble_eq_true rfl⟩) S m_xb e_xb (T := TX8) (N := 8) rfl rfl hl.1 rfl (Nat.le_of_ble_eq_true rfl) dX8_solve_2 ⟨Nat.le_of_ble_eq_true rfl, Nat.le_of_ble_eq_true rfl⟩ (fun r3 L1 f2 H locs S w2 => ?_)
  obtain ⟨ex, eL, ef⟩ := w2
  rw [eL, ef] at S
  replace ex := ex.symm
  subst ex
  refine W.eq (g2 := F0 m 5 ls [.ref wb]) rfl ?_
  refine lv_astore_n (lv' := [(3, .ref wb), (0, .ref xb), (1, .int wi), (2, .int sd_)]) hx hb dX8_solve_5 rfl hl (by decide) rfl (fun ls hl => ?_)
  refine lv_aload_n hx hb dX8_solve_6 rfl (lv_at hl 0 rfl) ?_
  refine lv_ifnonnull (tgt := 12) hx hb dX8_solve_7 (by decide) ?_
  refine lv_aload_n hx hb dX8_solve_12 rfl (lv_at hl 1 rfl) ?_
  refine q_get hx hb hts in_X8 hown S m_xb e_xb (C := RX8) (T := TX8) (N := 8) rfl 5 (by decide) rfl (hts (.fieldLink RX8 35 "SieveCabinet" "solver" "LSieveCabinet$Solver;") (gu_wsX8_solve_1 _ gm_0)) dX8_solve_13 ?_
  refine lv_aload_n hx hb dX8_solve_16 rfl (lv_at hl 0 rfl) ?_
  refine lv_iload_n hx hb dX8_solve_17 rfl (lv_at hl 3 rfl) ?_
  obtain ⟨z18, hz18, hM⟩ := bind_some hM
  refine q_vi (As := [.ref wb, .int sd_]) (rest := []) ⟨hx, hb, hml, hown, hts⟩ (k_X7_triesUntilSolved l D g m_so e_so m_pa e_pa m_ta e_ta m_lf e_lf m_bl e_bl m_si e_si m_sw e_sw m_tt e_tt m_tp e_tp m_wb e_wb m_wr e_wr n_bl_lf n_tt_ta n_tp_ta n_tp_tt hz18) (cwV 2 hts gX8_solve_X7_triesUntilSolved rfl rfl rfl (by decide +kernel) ⟨Nat.le_of_ble_eq_true rfl, Nat.le_of_ble_eq_true rfl⟩) S m_so e_so (T := TX7) (N := 9) rfl rfl hl.1 rfl (Nat.le_of_ble_eq_true rfl) dX8_solve_18 ⟨Nat.le_of_ble_eq_true rfl, Nat.le_of_ble_eq_true rfl⟩ (fun r6 L4 f5 H locs S w18 => ?_)
  obtain ⟨ex18, eL, fv18, E_so, E_pa, E_ta, E_lf, E_bl, E_si, E_sw, E_tt, E_tp⟩ := w18
  rw [eL] at S
  have fr : ∀ b, b ∈ L → b ≠ xb → b ≠ so → b ≠ pa → b ≠ ta → b ≠ lf → b ≠ bl → b ≠ si → b ≠ sw → b ≠ tt → b ≠ tp → b ≠ h → b ≠ ce → b ≠ co → b ≠ cr → f5 b = f b := fun b mb nb0 nb1 nb2 nb3 nb4 nb5 nb6 nb7 nb8 nb9 nb10 nb11 nb12 nb13 => (fv18 b mb nb1 nb2 nb3 nb4 nb5 nb6 nb7 nb8 nb9).trans (fr b mb nb0 nb1 nb2 nb3 nb4 nb5 nb6 nb7 nb8 nb9 nb10 nb11 nb12 nb13)
  have e_so : f5 so = .inr (5, [.ref pa, .ref ta, .ref lf, .ref bl, .ref si, .ref tt, .ref tp, .int z18.2.1, .int z18.2.2.1]) := E_so
  have e_pa : f5 pa = .inl (g 0, 3000, .inl z18.2.2.2.1) := E_pa
  have e_ta : f5 ta = .inl (g 0, 1000, .inl z18.2.2.2.2.1) := E_ta
  have e_lf : f5 lf = .inl (g 0, 3774, .inl z18.2.2.2.2.2.1) := E_lf
  have e_bl : f5 bl = .inl (g 0, 3774, .inl z18.2.2.2.2.2.2.1) := E_bl
  have e_si : f5 si = .inr (1, [.ref sw, .int z18.2.2.2.2.2.2.2.1]) := E_si
  have e_sw : f5 sw = .inl (g 1, 64, .inr (.inl z18.2.2.2.2.2.2.2.2.1)) := E_sw
  have e_tt : f5 tt = .inl (g 0, 1000, .inl z18.2.2.2.2.2.2.2.2.2.1) := E_tt
  have e_tp : f5 tp = .inl (g 0, 1000, .inl z18.2.2.2.2.2.2.2.2.2.2) := E_tp
  replace ex18 := ex18.symm
  subst ex18
  refine lv_istore (lv' := [(4, .int z18.1), (3, .ref wb), (0, .ref xb), (1, .int wi), (2, .int sd_)]) hx hb dX8_solve_21 hl (by decide) rfl (fun ls hl => ?_)
  refine lv_iload hx hb dX8_solve_23 (lv_at hl 0 rfl) ?_
  refine lv_if_ge (tgt := 31) hx hb dX8_solve_25 (by decide) (fun b25 => ?_) (fun b25 => ?_)
  · have hM := itT b25 hM
    refine lv_aload_n hx hb dX8_solve_31 rfl (lv_at hl 2 rfl) ?_
    obtain ⟨z32, hz32, hM⟩ := bind_some hM
    have e_xb := ((fv18 xb m_xb n_xb_so n_xb_pa n_xb_ta n_xb_lf n_xb_bl n_xb_si n_xb_sw n_xb_tt n_xb_tp).trans e_xb)
    have e_Sl := ((fv18 Sl m_Sl n_Sl_so n_Sl_pa n_Sl_ta n_Sl_lf n_Sl_bl n_Sl_si n_Sl_sw n_Sl_tt n_Sl_tp).trans e_Sl)
    refine q_vq (As := []) (rest := []) ⟨hx, hb, hml, hown, hts⟩ (k_X8_nextSlotE l D g m_xb e_xb m_Sl e_Sl hF_h hz32) (cwV 0 hts gX8_solve_X8_nextSlot rfl rfl rfl (by decide +kernel) ⟨Nat.le_of_ble_eq_true rfl, Nat.le_of_ble_eq_true rfl⟩) S m_xb e_xb (T := TX8) (N := 8) rfl rfl hl.1 rfl (Nat.le_of_ble_eq_true rfl) dX8_solve_32 ⟨Nat.le_of_ble_eq_true rfl, Nat.le_of_ble_eq_true rfl⟩ (fun r9 L7 f8 H locs S w32 => ?_)
    obtain ⟨ex32, eL, ef⟩ := w32
    rw [eL, ef] at S
    replace ex32 := ex32.symm
    subst ex32
    refine W.eq (g2 := F0 m 35 ls [.ref h]) rfl ?_
    refine lv_astore (lv' := [(5, .ref h), (4, .int z18.1), (3, .ref wb), (0, .ref xb), (1, .int wi), (2, .int sd_)]) hx hb dX8_solve_35 hl (by decide) rfl (fun ls hl => ?_)
    refine lv_aload hx hb dX8_solve_37 (lv_at hl 0 rfl) ?_
    refine lv_ifnonnull (tgt := 45) hx hb dX8_solve_39 (by decide) ?_
    refine lv_aload hx hb dX8_solve_45 (lv_at hl 0 rfl) ?_
    refine lv_iconst (v := (3 : Int32)) hx hb dX8_solve_47 (by decide) ?_
    refine lv_aload_n hx hb dX8_solve_48 rfl (lv_at hl 3 rfl) ?_
    refine q_get hx hb hts in_X8 hown S m_xb e_xb (C := RX8) (T := TX8) (N := 8) rfl 5 (by decide) rfl (hts (.fieldLink RX8 35 "SieveCabinet" "solver" "LSieveCabinet$Solver;") (gu_wsX8_solve_1 _ gm_0)) dX8_solve_49 ?_
    obtain ⟨z52, hz52, hM⟩ := bind_some hM
    refine q_vi (As := []) (rest := [.int (3 : Int32), .ref h]) ⟨hx, hb, hml, hown, hts⟩ (k_X7_places l D g m_so e_so hz52) (cwV 0 hts gX8_solve_X7_places rfl rfl rfl (by decide +kernel) ⟨Nat.le_of_ble_eq_true rfl, Nat.le_of_ble_eq_true rfl⟩) S m_so e_so (T := TX7) (N := 9) rfl rfl hl.1 rfl (Nat.le_of_ble_eq_true rfl) dX8_solve_52 ⟨Nat.le_of_ble_eq_true rfl, Nat.le_of_ble_eq_true rfl⟩ (fun r12 L10 f11 H locs S w52 => ?_)
    obtain ⟨ex52, eL, ef⟩ := w52
    rw [eL, ef] at S
    replace ex52 := ex52.symm
    subst ex52
    refine lv_iconst (v := (0 : Int32)) hx hb dX8_solve_55 (by decide) ?_
    refine lv_iload_n hx hb dX8_solve_56 rfl (lv_at hl 5 rfl) ?_
    refine lv_iload hx hb dX8_solve_57 (lv_at hl 1 rfl) ?_
    refine lv_iadd hx hb dX8_solve_59 ?_
    obtain ⟨z60, hz60, hM⟩ := bind_some hM
    have e_h := ((fv18 h m_h n_h_so n_h_pa n_h_ta n_h_lf n_h_bl n_h_si n_h_sw n_h_tt n_h_tp).trans e_h)
    have e_ce := ((fv18 ce m_ce n_ce_so n_ce_pa n_ce_ta n_ce_lf n_ce_bl n_ce_si n_ce_sw n_ce_tt n_ce_tp).trans e_ce)
    have e_co := ((fv18 co m_co n_co_so n_co_pa n_co_ta n_co_lf n_co_bl n_co_si n_co_sw n_co_tt n_co_tp).trans e_co)
    refine q_vv (As := [.int (3 : Int32), .int z52, .int (0 : Int32), .int (sd_ + z18.1)]) (rest := []) ⟨hx, hb, hml, hown, hts⟩ (k_X6_begin l D g m_h e_h m_ce e_ce m_co e_co hz60) (cwV 4 hts gX8_solve_X6_begin rfl rfl rfl (by decide +kernel) ⟨Nat.le_of_ble_eq_true rfl, Nat.le_of_ble_eq_true rfl⟩) S m_h e_h (T := TX6) (N := 7) rfl rfl hl.1 rfl (Nat.le_of_ble_eq_true rfl) dX8_solve_60 ⟨Nat.le_of_ble_eq_true rfl, Nat.le_of_ble_eq_true rfl⟩ (fun L13 f14 H locs S w60 => ?_)
    obtain ⟨eL, fv60, E_h, E_ce, E_co⟩ := w60
    rw [eL] at S
    have fr : ∀ b, b ∈ L → b ≠ xb → b ≠ so → b ≠ pa → b ≠ ta → b ≠ lf → b ≠ bl → b ≠ si → b ≠ sw → b ≠ tt → b ≠ tp → b ≠ h → b ≠ ce → b ≠ co → b ≠ cr → f14 b = f b := fun b mb nb0 nb1 nb2 nb3 nb4 nb5 nb6 nb7 nb8 nb9 nb10 nb11 nb12 nb13 => (fv60 b mb nb10 nb11 nb12).trans (fr b mb nb0 nb1 nb2 nb3 nb4 nb5 nb6 nb7 nb8 nb9 nb10 nb11 nb12 nb13)
    have e_h : f14 h = .inr (4, [.ref ce, .ref co, lay, .int z60.1, .int z60.2.1, .int z60.2.2.1, .int z60.2.2.2.1]) := E_h
    have e_ce : f14 ce = .inl (g 0, 4096, .inl z60.2.2.2.2.1) := E_ce
    have e_co : f14 co = .inr (0, [.ref cr, .int z60.2.2.2.2.2]) := E_co
    refine lv_aload hx hb dX8_solve_63 (lv_at hl 0 rfl) ?_
    refine q_getN hx hb hts in_X6 hown S m_h e_h (C := RX6) (T := TX6) (N := 7) rfl 1 (by decide) rfl (by decide) dX8_solve_65 ?_
    refine lv_aload_n hx hb dX8_solve_68 rfl (lv_at hl 2 rfl) ?_
    obtain ⟨z69, hz69, hM⟩ := bind_some hM
    have e_cr := ((fv60 cr m_cr n_cr_h n_cr_ce n_cr_co).trans ((fv18 cr m_cr n_cr_so n_cr_pa n_cr_ta n_cr_lf n_cr_bl n_cr_si n_cr_sw n_cr_tt n_cr_tp).trans e_cr))
    have e_wb := ((fv60 wb m_wb n_wb_h n_wb_ce n_wb_co).trans ((fv18 wb m_wb n_wb_so n_wb_pa n_wb_ta n_wb_lf n_wb_bl n_wb_si n_wb_sw n_wb_tt n_wb_tp).trans e_wb))
    have e_wr := ((fv60 wr m_wr n_wr_h n_wr_ce n_wr_co).trans ((fv18 wr m_wr n_wr_so n_wr_pa n_wr_ta n_wr_lf n_wr_bl n_wr_si n_wr_sw n_wr_tt n_wr_tp).trans e_wr))
    refine q_vv (As := [.ref wb]) (rest := []) ⟨hx, hb, hml, hown, hts⟩ (k_X0_copyFrom l D g m_co e_co m_cr e_cr m_wb e_wb m_wr e_wr hz69) (cwV 1 hts gX8_solve_X0_copyFrom rfl rfl rfl (by decide +kernel) ⟨Nat.le_of_ble_eq_true rfl, Nat.le_of_ble_eq_true rfl⟩) S m_co e_co (T := TX0) (N := 2) rfl rfl hl.1 rfl (Nat.le_of_ble_eq_true rfl) dX8_solve_69 ⟨Nat.le_of_ble_eq_true rfl, Nat.le_of_ble_eq_true rfl⟩ (fun L16 f17 H locs S w69 => ?_)
    obtain ⟨eL, fv69, E_co, E_cr⟩ := w69
    rw [eL] at S
    have fr : ∀ b, b ∈ L → b ≠ xb → b ≠ so → b ≠ pa → b ≠ ta → b ≠ lf → b ≠ bl → b ≠ si → b ≠ sw → b ≠ tt → b ≠ tp → b ≠ h → b ≠ ce → b ≠ co → b ≠ cr → f17 b = f b := fun b mb nb0 nb1 nb2 nb3 nb4 nb5 nb6 nb7 nb8 nb9 nb10 nb11 nb12 nb13 => (fv69 b mb nb12 nb13).trans (fr b mb nb0 nb1 nb2 nb3 nb4 nb5 nb6 nb7 nb8 nb9 nb10 nb11 nb12 nb13)
    have e_co : f17 co = .inr (0, [.ref cr, .int z69.1]) := E_co
    have e_cr : f17 cr = .inl (g 1, 1000, .inr (.inl z69.2)) := E_cr
    refine lv_aload_n hx hb dX8_solve_72 rfl (lv_at hl 3 rfl) ?_
    have e_xb := ((fv69 xb m_xb n_xb_co n_xb_cr).trans ((fv60 xb m_xb n_xb_h n_xb_ce n_xb_co).trans e_xb))
    refine q_get hx hb hts in_X8 hown S m_xb e_xb (C := RX8) (T := TX8) (N := 8) rfl 5 (by decide) rfl (hts (.fieldLink RX8 35 "SieveCabinet" "solver" "LSieveCabinet$Solver;") (gu_wsX8_solve_1 _ gm_0)) dX8_solve_73 ?_
    refine lv_aload hx hb dX8_solve_76 (lv_at hl 0 rfl) ?_
    obtain ⟨z78, hz78, hM⟩ := bind_some hM
    have e_so := ((fv69 so m_so n_so_co n_so_cr).trans ((fv60 so m_so n_so_h n_so_ce n_so_co).trans e_so))
    have e_pa := ((fv69 pa m_pa n_pa_co n_pa_cr).trans ((fv60 pa m_pa n_pa_h n_pa_ce n_pa_co).trans e_pa))
    have e_ta := ((fv69 ta m_ta n_ta_co n_ta_cr).trans ((fv60 ta m_ta n_ta_h n_ta_ce n_ta_co).trans e_ta))
    have e_lf := ((fv69 lf m_lf n_lf_co n_lf_cr).trans ((fv60 lf m_lf n_lf_h n_lf_ce n_lf_co).trans e_lf))
    have e_bl := ((fv69 bl m_bl n_bl_co n_bl_cr).trans ((fv60 bl m_bl n_bl_h n_bl_ce n_bl_co).trans e_bl))
    have e_si := ((fv69 si m_si n_si_co n_si_cr).trans ((fv60 si m_si n_si_h n_si_ce n_si_co).trans e_si))
    have e_sw := ((fv69 sw m_sw n_sw_co n_sw_cr).trans ((fv60 sw m_sw n_sw_h n_sw_ce n_sw_co).trans e_sw))
    have e_tt := ((fv69 tt m_tt n_tt_co n_tt_cr).trans ((fv60 tt m_tt n_tt_h n_tt_ce n_tt_co).trans e_tt))
    have e_tp := ((fv69 tp m_tp n_tp_co n_tp_cr).trans ((fv60 tp m_tp n_tp_h n_tp_ce n_tp_co).trans e_tp))
    have e_h := ((fv69 h m_h n_h_co n_h_cr).trans e_h)
    have e_ce := ((fv69 ce m_ce n_ce_co n_ce_cr).trans e_ce)
    refine q_vv (As := [.ref h]) (rest := []) ⟨hx, hb, hml, hown, hts⟩ (k_X7_fill l D g m_so e_so m_pa e_pa m_ta e_ta m_lf e_lf m_bl e_bl m_si e_si m_sw e_sw m_tt e_tt m_tp e_tp m_h e_h m_ce e_ce m_co e_co m_cr e_cr hz78) (cwV 1 hts gX8_solve_X7_fill rfl rfl rfl (by decide +kernel) ⟨Nat.le_of_ble_eq_true rfl, Nat.le_of_ble_eq_true rfl⟩) S m_so e_so (T := TX7) (N := 9) rfl rfl hl.1 rfl (Nat.le_of_ble_eq_true rfl) dX8_solve_78 ⟨Nat.le_of_ble_eq_true rfl, Nat.le_of_ble_eq_true rfl⟩ (fun L19 f20 H locs S w78 => ?_)
    obtain ⟨eL, fv78, E_ce⟩ := w78
    rw [eL] at S
    have fr : ∀ b, b ∈ L → b ≠ xb → b ≠ so → b ≠ pa → b ≠ ta → b ≠ lf → b ≠ bl → b ≠ si → b ≠ sw → b ≠ tt → b ≠ tp → b ≠ h → b ≠ ce → b ≠ co → b ≠ cr → f20 b = f b := fun b mb nb0 nb1 nb2 nb3 nb4 nb5 nb6 nb7 nb8 nb9 nb10 nb11 nb12 nb13 => (fv78 b mb nb11).trans (fr b mb nb0 nb1 nb2 nb3 nb4 nb5 nb6 nb7 nb8 nb9 nb10 nb11 nb12 nb13)
    have e_ce : f20 ce = .inl (g 0, 4096, .inl z78) := E_ce
    refine lv_aload_n hx hb dX8_solve_81 rfl (lv_at hl 3 rfl) ?_
    refine lv_dup hx hb dX8_solve_82 rfl ?_
    have e_xb := ((fv78 xb m_xb n_xb_ce).trans e_xb)
    refine q_get hx hb hts in_X8 hown S m_xb e_xb (C := RX8) (T := TX8) (N := 8) rfl 7 (by decide) rfl (hts (.fieldLink RX8 84 "SieveCabinet" "made" "I") (gu_wsX8_solve_1 _ gm_1)) dX8_solve_83 ?_
    refine lv_dup_x1 hx hb dX8_solve_86 rfl rfl ?_
    refine lv_iconst (v := (1 : Int32)) hx hb dX8_solve_87 (by decide) ?_
    refine lv_iadd hx hb dX8_solve_88 ?_
    refine k_put hx hb hts in_X8 tyX8 tyX8_ok nmX8 hown S m_xb e_xb (C := RX8) (T := TX8) (N := 8) rfl 7 (by decide) (hts (.fieldLink RX8 84 "SieveCabinet" "made" "I") (gu_wsX8_solve_1 _ gm_1)) rfl rfl rfl (Nat.le_of_ble_eq_true rfl) dX8_solve_89 (fun f22 ef22 H locs S => ?_)
    have e_xb : f22 xb = .inr (6, [.ref wo, .ref Sl, .ref dr, .ref ri, .ref th, .ref so, .ref ch, .int (md + (1 : Int32))]) := up_self ef22
    have fr : ∀ b, b ∈ L → b ≠ xb → b ≠ so → b ≠ pa → b ≠ ta → b ≠ lf → b ≠ bl → b ≠ si → b ≠ sw → b ≠ tt → b ≠ tp → b ≠ h → b ≠ ce → b ≠ co → b ≠ cr → f22 b = f b := fun b mb nb0 nb1 nb2 nb3 nb4 nb5 nb6 nb7 nb8 nb9 nb10 nb11 nb12 nb13 => (up_ne ef22 nb0 rfl).trans (fr b mb nb0 nb1 nb2 nb3 nb4 nb5 nb6 nb7 nb8 nb9 nb10 nb11 nb12 nb13)
    have e_so := (up_ne ef22 n_so_xb ((fv78 so m_so n_so_ce).trans e_so))
    have e_pa := (up_ne ef22 n_pa_xb ((fv78 pa m_pa n_pa_ce).trans e_pa))
    have e_ta := (up_ne ef22 n_ta_xb ((fv78 ta m_ta n_ta_ce).trans e_ta))
    have e_lf := (up_ne ef22 n_lf_xb ((fv78 lf m_lf n_lf_ce).trans e_lf))
    have e_bl := (up_ne ef22 n_bl_xb ((fv78 bl m_bl n_bl_ce).trans e_bl))
    have e_si := (up_ne ef22 n_si_xb ((fv78 si m_si n_si_ce).trans e_si))
    have e_sw := (up_ne ef22 n_sw_xb ((fv78 sw m_sw n_sw_ce).trans e_sw))
    have e_tt := (up_ne ef22 n_tt_xb ((fv78 tt m_tt n_tt_ce).trans e_tt))
    have e_tp := (up_ne ef22 n_tp_xb ((fv78 tp m_tp n_tp_ce).trans e_tp))
    have e_h := (up_ne ef22 n_h_xb ((fv78 h m_h n_h_ce).trans e_h))
    have e_ce := (up_ne ef22 n_ce_xb e_ce)
    have e_co := (up_ne ef22 n_co_xb ((fv78 co m_co n_co_ce).trans e_co))
    have e_cr := (up_ne ef22 n_cr_xb ((fv78 cr m_cr n_cr_ce).trans e_cr))
    subst hQQ
    exact q_reti (post := fun x L1 f1 => x = z.1 ∧ L1 = L ∧ (∀ b, b ∈ L → b ≠ xb → b ≠ so → b ≠ pa → b ≠ ta → b ≠ lf → b ≠ bl → b ≠ si → b ≠ sw → b ≠ tt → b ≠ tp → b ≠ h → b ≠ ce → b ≠ co → b ≠ cr → f1 b = f b) ∧ f1 xb = .inr (6, [.ref wo, .ref Sl, .ref dr, .ref ri, .ref th, .ref so, .ref ch, .int z.2.1]) ∧ f1 so = .inr (5, [.ref pa, .ref ta, .ref lf, .ref bl, .ref si, .ref tt, .ref tp, .int z.2.2.1, .int z.2.2.2.1]) ∧ f1 pa = .inl (g 0, 3000, .inl z.2.2.2.2.1) ∧ f1 ta = .inl (g 0, 1000, .inl z.2.2.2.2.2.1) ∧ f1 lf = .inl (g 0, 3774, .inl z.2.2.2.2.2.2.1) ∧ f1 bl = .inl (g 0, 3774, .inl z.2.2.2.2.2.2.2.1) ∧ f1 si = .inr (1, [.ref sw, .int z.2.2.2.2.2.2.2.2.1]) ∧ f1 sw = .inl (g 1, 64, .inr (.inl z.2.2.2.2.2.2.2.2.2.1)) ∧ f1 tt = .inl (g 0, 1000, .inl z.2.2.2.2.2.2.2.2.2.2.1) ∧ f1 tp = .inl (g 0, 1000, .inl z.2.2.2.2.2.2.2.2.2.2.2.1) ∧ f1 h = .inr (4, [.ref ce, .ref co, lay, .int z.2.2.2.2.2.2.2.2.2.2.2.2.1, .int z.2.2.2.2.2.2.2.2.2.2.2.2.2.1, .int z.2.2.2.2.2.2.2.2.2.2.2.2.2.2.1, .int z.2.2.2.2.2.2.2.2.2.2.2.2.2.2.2.1]) ∧ f1 ce = .inl (g 0, 4096, .inl z.2.2.2.2.2.2.2.2.2.2.2.2.2.2.2.2.1) ∧ f1 co = .inr (0, [.ref cr, .int z.2.2.2.2.2.2.2.2.2.2.2.2.2.2.2.2.2.1]) ∧ f1 cr = .inl (g 1, 1000, .inr (.inl z.2.2.2.2.2.2.2.2.2.2.2.2.2.2.2.2.2.2))) hx hb hr hlk S dX8_solve_92 (by decide) (by decide) (by have hz := Option.some.inj hM; subst hz; exact ⟨rfl, rfl, fr, e_xb, e_so, e_pa, e_ta, e_lf, e_bl, e_si, e_sw, e_tt, e_tp, e_h, e_ce, e_co, e_cr⟩)
  · have hM := itF b25 hM
    refine lv_bipush (v := (-3 : Int32)) hx hb dX8_solve_28 (by decide) ?_
    have e_xb := ((fv18 xb m_xb n_xb_so n_xb_pa n_xb_ta n_xb_lf n_xb_bl n_xb_si n_xb_sw n_xb_tt n_xb_tp).trans e_xb)
    have e_h := ((fv18 h m_h n_h_so n_h_pa n_h_ta n_h_lf n_h_bl n_h_si n_h_sw n_h_tt n_h_tp).trans e_h)
    have e_ce := ((fv18 ce m_ce n_ce_so n_ce_pa n_ce_ta n_ce_lf n_ce_bl n_ce_si n_ce_sw n_ce_tt n_ce_tp).trans e_ce)
    have e_co := ((fv18 co m_co n_co_so n_co_pa n_co_ta n_co_lf n_co_bl n_co_si n_co_sw n_co_tt n_co_tp).trans e_co)
    have e_cr := ((fv18 cr m_cr n_cr_so n_cr_pa n_cr_ta n_cr_lf n_cr_bl n_cr_si n_cr_sw n_cr_tt n_cr_tp).trans e_cr)
    subst hQQ
    exact q_reti (post := fun x L1 f1 => x = z.1 ∧ L1 = L ∧ (∀ b, b ∈ L → b ≠ xb → b ≠ so → b ≠ pa → b ≠ ta → b ≠ lf → b ≠ bl → b ≠ si → b ≠ sw → b ≠ tt → b ≠ tp → b ≠ h → b ≠ ce → b ≠ co → b ≠ cr → f1 b = f b) ∧ f1 xb = .inr (6, [.ref wo, .ref Sl, .ref dr, .ref ri, .ref th, .ref so, .ref ch, .int z.2.1]) ∧ f1 so = .inr (5, [.ref pa, .ref ta, .ref lf, .ref bl, .ref si, .ref tt, .ref tp, .int z.2.2.1, .int z.2.2.2.1]) ∧ f1 pa = .inl (g 0, 3000, .inl z.2.2.2.2.1) ∧ f1 ta = .inl (g 0, 1000, .inl z.2.2.2.2.2.1) ∧ f1 lf = .inl (g 0, 3774, .inl z.2.2.2.2.2.2.1) ∧ f1 bl = .inl (g 0, 3774, .inl z.2.2.2.2.2.2.2.1) ∧ f1 si = .inr (1, [.ref sw, .int z.2.2.2.2.2.2.2.2.1]) ∧ f1 sw = .inl (g 1, 64, .inr (.inl z.2.2.2.2.2.2.2.2.2.1)) ∧ f1 tt = .inl (g 0, 1000, .inl z.2.2.2.2.2.2.2.2.2.2.1) ∧ f1 tp = .inl (g 0, 1000, .inl z.2.2.2.2.2.2.2.2.2.2.2.1) ∧ f1 h = .inr (4, [.ref ce, .ref co, lay, .int z.2.2.2.2.2.2.2.2.2.2.2.2.1, .int z.2.2.2.2.2.2.2.2.2.2.2.2.2.1, .int z.2.2.2.2.2.2.2.2.2.2.2.2.2.2.1, .int z.2.2.2.2.2.2.2.2.2.2.2.2.2.2.2.1]) ∧ f1 ce = .inl (g 0, 4096, .inl z.2.2.2.2.2.2.2.2.2.2.2.2.2.2.2.2.1) ∧ f1 co = .inr (0, [.ref cr, .int z.2.2.2.2.2.2.2.2.2.2.2.2.2.2.2.2.2.1]) ∧ f1 cr = .inl (g 1, 1000, .inr (.inl z.2.2.2.2.2.2.2.2.2.2.2.2.2.2.2.2.2.2))) hx hb hr hlk S dX8_solve_30 (by decide) (by decide) (by have hz := Option.some.inj hM; subst hz; exact ⟨rfl, rfl, fr, e_xb, e_so, e_pa, e_ta, e_lf, e_bl, e_si, e_sw, e_tt, e_tp, e_h, e_ce, e_co, e_cr⟩)

def mX8_solveF (md : Int32) (sd_ : Int32) (wn : Int32) (wv : Nat → Int64) (vpa : Nat → Int32) (vta : Nat → Int32) (vlf : Nat → Int32) (vbl : Nat → Int32) (z0 : Int32) (vsw : Nat → Int64) (vtt : Nat → Int32) (vtp : Nat → Int32) : Option (Int32 × Int32 × Int32 × Int32 × (Nat → Int32) × (Nat → Int32) × (Nat → Int32) × (Nat → Int32) × Int32 × (Nat → Int64) × (Nat → Int32) × (Nat → Int32) × Int32 × Int32 × Int32 × Int32 × (Nat → Int32) × Int32 × (Nat → Int64)) := (mX7_triesUntilSolved vpa vta vlf vbl z0 vsw vtt vtp wn wv sd_).bind fun z18 => if 0 ≤ z18.1 then ((mX8_nextSlotF md).bind fun z32 => (mX7_places z18.2.2.1).bind fun z52 => (mX6_begin z32.2.2.2.2.1 (3 : Int32) z52 (0 : Int32) (sd_ + z18.1)).bind fun z60 => (mX0_copyFrom z32.2.2.2.2.2.2 wn wv).bind fun z69 => (mX7_fill z18.2.1 z18.2.2.2.1 z18.2.2.2.2.1 z18.2.2.2.2.2.2.2.2.2.1 z18.2.2.2.2.2.2.2.2.2.2 z60.2.2.2.2.1).bind fun z78 => some (md, (md + (1 : Int32)), z18.2.1, z18.2.2.1, z18.2.2.2.1, z18.2.2.2.2.1, z18.2.2.2.2.2.1, z18.2.2.2.2.2.2.1, z18.2.2.2.2.2.2.2.1, z18.2.2.2.2.2.2.2.2.1, z18.2.2.2.2.2.2.2.2.2.1, z18.2.2.2.2.2.2.2.2.2.2, z60.1, z60.2.1, z60.2.2.1, z60.2.2.2.1, z78, z69.1, z69.2)) else none
set_option maxHeartbeats 4000000 in
set_option maxRecDepth 100000 in
theorem k_X8_solveF (l : Launch) (D : va_G) (g : Nat → ClassId) {L : List Nat} {f : Nat → va_E} {Sl bl ch dr lf pa ri si so sw ta th tp tt wb wo wr xb : Nat} {md : Int32} {wf : Nat → Option Nat} {sf : Nat → Option Nat} {wi : Int32} {sd_ : Int32} {wn : Int32} {wv : Nat → Int64} {cn : Int32} {th3 : Int32} {vpa : Nat → Int32} {vta : Nat → Int32} {vlf : Nat → Int32} {vbl : Nat → Int32} {z0 : Int32} {vsw : Nat → Int64} {vtt : Nat → Int32} {vtp : Nat → Int32} {ρ : Nat → Nat × Nat} {z : Int32 × Int32 × Int32 × Int32 × (Nat → Int32) × (Nat → Int32) × (Nat → Int32) × (Nat → Int32) × Int32 × (Nat → Int64) × (Nat → Int32) × (Nat → Int32) × Int32 × Int32 × Int32 × Int32 × (Nat → Int32) × Int32 × (Nat → Int64)} (m_xb : xb ∈ L) (e_xb : f xb = .inr (6, [.ref wo, .ref Sl, .ref dr, .ref ri, .ref th, .ref so, .ref ch, .int md])) (m_wo : wo ∈ L) (e_wo : f wo = .inl (g 3, 8, .inr (.inr (.inr (.inr wf))))) (m_wb : wb ∈ L) (e_wb : f wb = .inr (0, [.ref wr, .int wn])) (m_wr : wr ∈ L) (e_wr : f wr = .inl (g 1, 1000, .inr (.inl wv))) (m_Sl : Sl ∈ L) (e_Sl : f Sl = .inl (g 5, 30, .inr (.inr (.inr (.inr sf))))) (m_so : so ∈ L) (e_so : f so = .inr (5, [.ref pa, .ref ta, .ref lf, .ref bl, .ref si, .ref tt, .ref tp, .int cn, .int th3])) (m_pa : pa ∈ L) (e_pa : f pa = .inl (g 0, 3000, .inl vpa)) (m_ta : ta ∈ L) (e_ta : f ta = .inl (g 0, 1000, .inl vta)) (m_lf : lf ∈ L) (e_lf : f lf = .inl (g 0, 3774, .inl vlf)) (m_bl : bl ∈ L) (e_bl : f bl = .inl (g 0, 3774, .inl vbl)) (m_si : si ∈ L) (e_si : f si = .inr (1, [.ref sw, .int z0])) (m_sw : sw ∈ L) (e_sw : f sw = .inl (g 1, 64, .inr (.inl vsw))) (m_tt : tt ∈ L) (e_tt : f tt = .inl (g 0, 1000, .inl vtt)) (m_tp : tp ∈ L) (e_tp : f tp = .inl (g 0, 1000, .inl vtp))  (r_ta : ρ ta = (0, 11)) (r_lf : ρ lf = (0, 12)) (r_bl : ρ bl = (0, 13)) (r_tt : ρ tt = (0, 16)) (r_tp : ρ tp = (0, 17)) (hF0 : sf (Int32.toNatClampNeg md) = none) (hw2 : mX8_worldAt wf wi = some (some wb)) (hM : mX8_solveF md sd_ wn wv vpa vta vlf vbl z0 vsw vtt vtp = some z) : cI l yX8_solve wsX8_solve { frames := 5, cells := 4, slots := 5105, locals := 110 } D g [.ref xb, .int wi, .int sd_] L f 4 5105 (fun x L1 f1 => ∃ q38 : Nat, ∃ ce : Nat, ∃ co : Nat, ∃ cr : Nat, x = z.1 ∧ (∀ b, b ∈ L → b ∈ L1) ∧ (∀ b, b ∈ L → b ≠ xb → b ≠ Sl → b ≠ so → b ≠ pa → b ≠ ta → b ≠ lf → b ≠ bl → b ≠ si → b ≠ sw → b ≠ tt → b ≠ tp → f1 b = f b) ∧ f1 xb = .inr (6, [.ref wo, .ref Sl, .ref dr, .ref ri, .ref th, .ref so, .ref ch, .int z.2.1]) ∧ f1 Sl = .inl (g 5, 30, .inr (.inr (.inr (.inr (va_up sf (Int32.toNatClampNeg md) (some q38)))))) ∧ f1 so = .inr (5, [.ref pa, .ref ta, .ref lf, .ref bl, .ref si, .ref tt, .ref tp, .int z.2.2.1, .int z.2.2.2.1]) ∧ f1 pa = .inl (g 0, 3000, .inl z.2.2.2.2.1) ∧ f1 ta = .inl (g 0, 1000, .inl z.2.2.2.2.2.1) ∧ f1 lf = .inl (g 0, 3774, .inl z.2.2.2.2.2.2.1) ∧ f1 bl = .inl (g 0, 3774, .inl z.2.2.2.2.2.2.2.1) ∧ f1 si = .inr (1, [.ref sw, .int z.2.2.2.2.2.2.2.2.1]) ∧ f1 sw = .inl (g 1, 64, .inr (.inl z.2.2.2.2.2.2.2.2.2.1)) ∧ f1 tt = .inl (g 0, 1000, .inl z.2.2.2.2.2.2.2.2.2.2.1) ∧ f1 tp = .inl (g 0, 1000, .inl z.2.2.2.2.2.2.2.2.2.2.2.1) ∧ (q38 ∉ L ∧ q38 ∈ L1 ∧ f1 q38 = .inr (4, [.ref ce, .ref co, .null, .int z.2.2.2.2.2.2.2.2.2.2.2.2.1, .int z.2.2.2.2.2.2.2.2.2.2.2.2.2.1, .int z.2.2.2.2.2.2.2.2.2.2.2.2.2.2.1, .int z.2.2.2.2.2.2.2.2.2.2.2.2.2.2.2.1])) ∧ (ce ∉ L ∧ ce ∈ L1 ∧ f1 ce = .inl (g 0, 4096, .inl z.2.2.2.2.2.2.2.2.2.2.2.2.2.2.2.2.1)) ∧ (co ∉ L ∧ co ∈ L1 ∧ f1 co = .inr (0, [.ref cr, .int z.2.2.2.2.2.2.2.2.2.2.2.2.2.2.2.2.2.1])) ∧ (cr ∉ L ∧ cr ∈ L1 ∧ f1 cr = .inl (g 1, 1000, .inr (.inl z.2.2.2.2.2.2.2.2.2.2.2.2.2.2.2.2.2.2)))) := by
  refine cI_of (cc := cX8_solve) (maxL := 6) (ret := (some .int)) (by decide) rfl (Nat.le_of_ble_eq_true rfl) ?_
  intro szz p e s m below meth c hx hb hr hml hts hown hlk hnm S ls hl
  have hl : lv_has ls 6 [(0, .ref xb), (1, .int wi), (2, .int sd_)] := hl
  have in_X6 : ∀ w ∈ wsX60, w ∈ wsX8_solve := gu_wsX8_solve_10
  have in_X8 : ∀ w ∈ wsX80, w ∈ wsX8_solve := gu_wsX8_solve_9
  have n_bl_lf : bl ≠ lf := role_ne r_lf r_bl (by decide)
  have n_tt_ta : tt ≠ ta := role_ne r_ta r_tt (by decide)
  have n_tp_ta : tp ≠ ta := role_ne r_ta r_tp (by decide)
  have n_tp_tt : tp ≠ tt := role_ne r_tt r_tp (by decide)
  have n_xb_so : xb ≠ so := ne_rr e_so e_xb (by decide)
  have n_xb_pa : xb ≠ pa := ne_ir e_pa e_xb
  have n_xb_ta : xb ≠ ta := ne_ir e_ta e_xb
  have n_xb_lf : xb ≠ lf := ne_ir e_lf e_xb
  have n_xb_bl : xb ≠ bl := ne_ir e_bl e_xb
  have n_xb_si : xb ≠ si := ne_rr e_si e_xb (by decide)
  have n_xb_sw : xb ≠ sw := ne_ir e_sw e_xb
  have n_xb_tt : xb ≠ tt := ne_ir e_tt e_xb
  have n_xb_tp : xb ≠ tp := ne_ir e_tp e_xb
  have n_Sl_so : Sl ≠ so := ne_ri e_so e_Sl
  have n_Sl_pa : Sl ≠ pa := ne_len e_pa e_Sl (by decide)
  have n_Sl_ta : Sl ≠ ta := ne_len e_ta e_Sl (by decide)
  have n_Sl_lf : Sl ≠ lf := ne_len e_lf e_Sl (by decide)
  have n_Sl_bl : Sl ≠ bl := ne_len e_bl e_Sl (by decide)
  have n_Sl_si : Sl ≠ si := ne_ri e_si e_Sl
  have n_Sl_sw : Sl ≠ sw := ne_len e_sw e_Sl (by decide)
  have n_Sl_tt : Sl ≠ tt := ne_len e_tt e_Sl (by decide)
  have n_Sl_tp : Sl ≠ tp := ne_len e_tp e_Sl (by decide)
  have n_xb_Sl : xb ≠ Sl := ne_ir e_Sl e_xb
  have n_wo_so : wo ≠ so := ne_ri e_so e_wo
  have n_wo_pa : wo ≠ pa := ne_len e_pa e_wo (by decide)
  have n_wo_ta : wo ≠ ta := ne_len e_ta e_wo (by decide)
  have n_wo_lf : wo ≠ lf := ne_len e_lf e_wo (by decide)
  have n_wo_bl : wo ≠ bl := ne_len e_bl e_wo (by decide)
  have n_wo_si : wo ≠ si := ne_ri e_si e_wo
  have n_wo_sw : wo ≠ sw := ne_len e_sw e_wo (by decide)
  have n_wo_tt : wo ≠ tt := ne_len e_tt e_wo (by decide)
  have n_wo_tp : wo ≠ tp := ne_len e_tp e_wo (by decide)
  have n_wo_Sl : wo ≠ Sl := ne_len e_Sl e_wo (by decide)
  have n_wb_so : wb ≠ so := ne_rr e_so e_wb (by decide)
  have n_wb_pa : wb ≠ pa := ne_ir e_pa e_wb
  have n_wb_ta : wb ≠ ta := ne_ir e_ta e_wb
  have n_wb_lf : wb ≠ lf := ne_ir e_lf e_wb
  have n_wb_bl : wb ≠ bl := ne_ir e_bl e_wb
  have n_wb_si : wb ≠ si := ne_rr e_si e_wb (by decide)
  have n_wb_sw : wb ≠ sw := ne_ir e_sw e_wb
  have n_wb_tt : wb ≠ tt := ne_ir e_tt e_wb
  have n_wb_tp : wb ≠ tp := ne_ir e_tp e_wb
  have n_wb_Sl : wb ≠ Sl := ne_ir e_Sl e_wb
  have n_wr_so : wr ≠ so := ne_ri e_so e_wr
  have n_wr_pa : wr ≠ pa := ne_len e_pa e_wr (by decide)
  have n_wr_ta : wr ≠ ta := ne_01 e_ta e_wr
  have n_wr_lf : wr ≠ lf := ne_len e_lf e_wr (by decide)
  have n_wr_bl : wr ≠ bl := ne_len e_bl e_wr (by decide)
  have n_wr_si : wr ≠ si := ne_ri e_si e_wr
  have n_wr_sw : wr ≠ sw := ne_len e_sw e_wr (by decide)
  have n_wr_tt : wr ≠ tt := ne_01 e_tt e_wr
  have n_wr_tp : wr ≠ tp := ne_01 e_tp e_wr
  have n_wr_Sl : wr ≠ Sl := ne_len e_Sl e_wr (by decide)
  have n_so_Sl : so ≠ Sl := ne_ir e_Sl e_so
  have n_pa_Sl : pa ≠ Sl := ne_len e_Sl e_pa (by decide)
  have n_ta_Sl : ta ≠ Sl := ne_len e_Sl e_ta (by decide)
  have n_lf_Sl : lf ≠ Sl := ne_len e_Sl e_lf (by decide)
  have n_bl_Sl : bl ≠ Sl := ne_len e_Sl e_bl (by decide)
  have n_si_Sl : si ≠ Sl := ne_ir e_Sl e_si
  have n_sw_Sl : sw ≠ Sl := ne_len e_Sl e_sw (by decide)
  have n_tt_Sl : tt ≠ Sl := ne_len e_Sl e_tt (by decide)
  have n_tp_Sl : tp ≠ Sl := ne_len e_Sl e_tp (by decide)
  have n_Sl_xb : Sl ≠ xb := ne_ri e_xb e_Sl
  have n_so_xb : so ≠ xb := ne_rr e_xb e_so (by decide)
  have n_pa_xb : pa ≠ xb := ne_ri e_xb e_pa
  have n_ta_xb : ta ≠ xb := ne_ri e_xb e_ta
  have n_lf_xb : lf ≠ xb := ne_ri e_xb e_lf
  have n_bl_xb : bl ≠ xb := ne_ri e_xb e_bl
  have n_si_xb : si ≠ xb := ne_rr e_xb e_si (by decide)
  have n_sw_xb : sw ≠ xb := ne_ri e_xb e_sw
  have n_tt_xb : tt ≠ xb := ne_ri e_xb e_tt
  have n_tp_xb : tp ≠ xb := ne_ri e_xb e_tp
  have fr : ∀ b, b ∈ L → b ≠ xb → b ≠ Sl → b ≠ so → b ≠ pa → b ≠ ta → b ≠ lf → b ≠ bl → b ≠ si → b ≠ sw → b ≠ tt → b ≠ tp → f b = f b := fun _ _ _ _ _ _ _ _ _ _ _ _ _ => rfl
  have mono : ∀ b, b ∈ L → b ∈ L := fun _ h => h
  unfold mX8_solveF at hM
  refine W_gen (fun QQ hQQ => ?_)
  refine lv_aload_n hx hb dX8_solve_0 rfl (lv_at hl 0 rfl) ?_
  refine lv_iload_n hx hb dX8_solve_1 rfl (lv_at hl 1 rfl) ?_
  refine q_vq (As := [.int wi]) (rest := []) ⟨hx, hb, hml, hown, hts⟩ (k_X8_worldAt l D g m_xb e_xb m_wo e_wo hw2) (cwV 1 hts gX8_solve_X8_worldAt rfl rfl rfl (by decide +kernel) ⟨Nat.le_of_ble_eq_true rfl, Nat.le_of_ble_eq_true rfl⟩) S m_xb e_xb (T := TX8) (N := 8) rfl rfl hl.1 rfl (Nat.le_of_ble_eq_true rfl) dX8_solve_2 ⟨Nat.le_of_ble_eq_true rfl, Nat.le_of_ble_eq_true rfl⟩ (fun r3 L1 f2 H locs S w2 => ?_)
  obtain ⟨ex, eL, ef⟩ := w2
  rw [eL, ef] at S
  replace ex := ex.symm
  subst ex
  refine W.eq (g2 := F0 m 5 ls [.ref wb]) rfl ?_
  refine lv_astore_n (lv' := [(3, .ref wb), (0, .ref xb), (1, .int wi), (2, .int sd_)]) hx hb dX8_solve_5 rfl hl (by decide) rfl (fun ls hl => ?_)
  refine lv_aload_n hx hb dX8_solve_6 rfl (lv_at hl 0 rfl) ?_
  refine lv_ifnonnull (tgt := 12) hx hb dX8_solve_7 (by decide) ?_
  refine lv_aload_n hx hb dX8_solve_12 rfl (lv_at hl 1 rfl) ?_
  refine q_get hx hb hts in_X8 hown S m_xb e_xb (C := RX8) (T := TX8) (N := 8) rfl 5 (by decide) rfl (hts (.fieldLink RX8 35 "SieveCabinet" "solver" "LSieveCabinet$Solver;") (gu_wsX8_solve_1 _ gm_0)) dX8_solve_13 ?_
  refine lv_aload_n hx hb dX8_solve_16 rfl (lv_at hl 0 rfl) ?_
  refine lv_iload_n hx hb dX8_solve_17 rfl (lv_at hl 3 rfl) ?_
  obtain ⟨z18, hz18, hM⟩ := bind_some hM
  refine q_vi (As := [.ref wb, .int sd_]) (rest := []) ⟨hx, hb, hml, hown, hts⟩ (k_X7_triesUntilSolved l D g m_so e_so m_pa e_pa m_ta e_ta m_lf e_lf m_bl e_bl m_si e_si m_sw e_sw m_tt e_tt m_tp e_tp m_wb e_wb m_wr e_wr n_bl_lf n_tt_ta n_tp_ta n_tp_tt hz18) (cwV 2 hts gX8_solve_X7_triesUntilSolved rfl rfl rfl (by decide +kernel) ⟨Nat.le_of_ble_eq_true rfl, Nat.le_of_ble_eq_true rfl⟩) S m_so e_so (T := TX7) (N := 9) rfl rfl hl.1 rfl (Nat.le_of_ble_eq_true rfl) dX8_solve_18 ⟨Nat.le_of_ble_eq_true rfl, Nat.le_of_ble_eq_true rfl⟩ (fun r6 L4 f5 H locs S w18 => ?_)
  obtain ⟨ex18, eL, fv18, E_so, E_pa, E_ta, E_lf, E_bl, E_si, E_sw, E_tt, E_tp⟩ := w18
  rw [eL] at S
  have fr : ∀ b, b ∈ L → b ≠ xb → b ≠ Sl → b ≠ so → b ≠ pa → b ≠ ta → b ≠ lf → b ≠ bl → b ≠ si → b ≠ sw → b ≠ tt → b ≠ tp → f5 b = f b := fun b mb nb0 nb1 nb2 nb3 nb4 nb5 nb6 nb7 nb8 nb9 nb10 => (fv18 b mb nb2 nb3 nb4 nb5 nb6 nb7 nb8 nb9 nb10).trans (fr b mb nb0 nb1 nb2 nb3 nb4 nb5 nb6 nb7 nb8 nb9 nb10)
  have e_so : f5 so = .inr (5, [.ref pa, .ref ta, .ref lf, .ref bl, .ref si, .ref tt, .ref tp, .int z18.2.1, .int z18.2.2.1]) := E_so
  have e_pa : f5 pa = .inl (g 0, 3000, .inl z18.2.2.2.1) := E_pa
  have e_ta : f5 ta = .inl (g 0, 1000, .inl z18.2.2.2.2.1) := E_ta
  have e_lf : f5 lf = .inl (g 0, 3774, .inl z18.2.2.2.2.2.1) := E_lf
  have e_bl : f5 bl = .inl (g 0, 3774, .inl z18.2.2.2.2.2.2.1) := E_bl
  have e_si : f5 si = .inr (1, [.ref sw, .int z18.2.2.2.2.2.2.2.1]) := E_si
  have e_sw : f5 sw = .inl (g 1, 64, .inr (.inl z18.2.2.2.2.2.2.2.2.1)) := E_sw
  have e_tt : f5 tt = .inl (g 0, 1000, .inl z18.2.2.2.2.2.2.2.2.2.1) := E_tt
  have e_tp : f5 tp = .inl (g 0, 1000, .inl z18.2.2.2.2.2.2.2.2.2.2) := E_tp
  replace ex18 := ex18.symm
  subst ex18
  refine lv_istore (lv' := [(4, .int z18.1), (3, .ref wb), (0, .ref xb), (1, .int wi), (2, .int sd_)]) hx hb dX8_solve_21 hl (by decide) rfl (fun ls hl => ?_)
  refine lv_iload hx hb dX8_solve_23 (lv_at hl 0 rfl) ?_
  refine lv_if_ge (tgt := 31) hx hb dX8_solve_25 (by decide) (fun b25 => ?_) (fun b25 => ?_)
  · have hM := itT b25 hM
    refine lv_aload_n hx hb dX8_solve_31 rfl (lv_at hl 2 rfl) ?_
    obtain ⟨z32, hz32, hM⟩ := bind_some hM
    have e_xb := ((fv18 xb m_xb n_xb_so n_xb_pa n_xb_ta n_xb_lf n_xb_bl n_xb_si n_xb_sw n_xb_tt n_xb_tp).trans e_xb)
    have e_Sl := ((fv18 Sl m_Sl n_Sl_so n_Sl_pa n_Sl_ta n_Sl_lf n_Sl_bl n_Sl_si n_Sl_sw n_Sl_tt n_Sl_tp).trans e_Sl)
    refine q_vq (As := []) (rest := []) ⟨hx, hb, hml, hown, hts⟩ (k_X8_nextSlotF l D g m_xb e_xb m_Sl e_Sl hF0 hz32) (cwV 0 hts gX8_solve_X8_nextSlot rfl rfl rfl (by decide +kernel) ⟨Nat.le_of_ble_eq_true rfl, Nat.le_of_ble_eq_true rfl⟩) S m_xb e_xb (T := TX8) (N := 8) rfl rfl hl.1 rfl (Nat.le_of_ble_eq_true rfl) dX8_solve_32 ⟨Nat.le_of_ble_eq_true rfl, Nat.le_of_ble_eq_true rfl⟩ (fun r9 L7 f8 H locs S w32 => ?_)
    refine W.widen (k := 4) (n := 5105) (by decide) (by decide) ?_
    obtain ⟨q38, ce, co, cr, ex32, mo, fv, E_Sl, ⟨nq_q38, mq_q38, E_q38⟩, ⟨nq_ce, mq_ce, E_ce⟩, ⟨nq_co, mq_co, E_co⟩, ⟨nq_cr, mq_cr, E_cr⟩⟩ := w32
    have mono0 := mono
    have e_xb := (fv xb m_xb n_xb_Sl).trans e_xb
    have e_wo := ((fv18 wo m_wo n_wo_so n_wo_pa n_wo_ta n_wo_lf n_wo_bl n_wo_si n_wo_sw n_wo_tt n_wo_tp).trans e_wo)
    have e_wo := (fv wo m_wo n_wo_Sl).trans e_wo
    have e_wb := ((fv18 wb m_wb n_wb_so n_wb_pa n_wb_ta n_wb_lf n_wb_bl n_wb_si n_wb_sw n_wb_tt n_wb_tp).trans e_wb)
    have e_wb := (fv wb m_wb n_wb_Sl).trans e_wb
    have e_wr := ((fv18 wr m_wr n_wr_so n_wr_pa n_wr_ta n_wr_lf n_wr_bl n_wr_si n_wr_sw n_wr_tt n_wr_tp).trans e_wr)
    have e_wr := (fv wr m_wr n_wr_Sl).trans e_wr
    have e_so := (fv so m_so n_so_Sl).trans e_so
    have e_pa := (fv pa m_pa n_pa_Sl).trans e_pa
    have e_ta := (fv ta m_ta n_ta_Sl).trans e_ta
    have e_lf := (fv lf m_lf n_lf_Sl).trans e_lf
    have e_bl := (fv bl m_bl n_bl_Sl).trans e_bl
    have e_si := (fv si m_si n_si_Sl).trans e_si
    have e_sw := (fv sw m_sw n_sw_Sl).trans e_sw
    have e_tt := (fv tt m_tt n_tt_Sl).trans e_tt
    have e_tp := (fv tp m_tp n_tp_Sl).trans e_tp
    have fr : ∀ b, b ∈ L → b ≠ xb → b ≠ Sl → b ≠ so → b ≠ pa → b ≠ ta → b ≠ lf → b ≠ bl → b ≠ si → b ≠ sw → b ≠ tt → b ≠ tp → f8 b = f b := fun b mb nb0 nb1 nb2 nb3 nb4 nb5 nb6 nb7 nb8 nb9 nb10 => (fv b (mono0 b mb) nb1).trans (fr b mb nb0 nb1 nb2 nb3 nb4 nb5 nb6 nb7 nb8 nb9 nb10)
    have n_xb_q38 : xb ≠ q38 := fun h => nq_q38 (h ▸ m_xb)
    have n_q38_xb : q38 ≠ xb := Ne.symm n_xb_q38
    have n_xb_ce : xb ≠ ce := fun h => nq_ce (h ▸ m_xb)
    have n_ce_xb : ce ≠ xb := Ne.symm n_xb_ce
    have n_xb_co : xb ≠ co := fun h => nq_co (h ▸ m_xb)
    have n_co_xb : co ≠ xb := Ne.symm n_xb_co
    have n_xb_cr : xb ≠ cr := fun h => nq_cr (h ▸ m_xb)
    have n_cr_xb : cr ≠ xb := Ne.symm n_xb_cr
    have n_wo_q38 : wo ≠ q38 := fun h => nq_q38 (h ▸ m_wo)
    have n_q38_wo : q38 ≠ wo := Ne.symm n_wo_q38
    have n_wo_ce : wo ≠ ce := fun h => nq_ce (h ▸ m_wo)
    have n_ce_wo : ce ≠ wo := Ne.symm n_wo_ce
    have n_wo_co : wo ≠ co := fun h => nq_co (h ▸ m_wo)
    have n_co_wo : co ≠ wo := Ne.symm n_wo_co
    have n_wo_cr : wo ≠ cr := fun h => nq_cr (h ▸ m_wo)
    have n_cr_wo : cr ≠ wo := Ne.symm n_wo_cr
    have n_wb_q38 : wb ≠ q38 := fun h => nq_q38 (h ▸ m_wb)
    have n_q38_wb : q38 ≠ wb := Ne.symm n_wb_q38
    have n_wb_ce : wb ≠ ce := fun h => nq_ce (h ▸ m_wb)
    have n_ce_wb : ce ≠ wb := Ne.symm n_wb_ce
    have n_wb_co : wb ≠ co := fun h => nq_co (h ▸ m_wb)
    have n_co_wb : co ≠ wb := Ne.symm n_wb_co
    have n_wb_cr : wb ≠ cr := fun h => nq_cr (h ▸ m_wb)
    have n_cr_wb : cr ≠ wb := Ne.symm n_wb_cr
    have n_wr_q38 : wr ≠ q38 := fun h => nq_q38 (h ▸ m_wr)
    have n_q38_wr : q38 ≠ wr := Ne.symm n_wr_q38
    have n_wr_ce : wr ≠ ce := fun h => nq_ce (h ▸ m_wr)
    have n_ce_wr : ce ≠ wr := Ne.symm n_wr_ce
    have n_wr_co : wr ≠ co := fun h => nq_co (h ▸ m_wr)
    have n_co_wr : co ≠ wr := Ne.symm n_wr_co
    have n_wr_cr : wr ≠ cr := fun h => nq_cr (h ▸ m_wr)
    have n_cr_wr : cr ≠ wr := Ne.symm n_wr_cr
    have n_Sl_q38 : Sl ≠ q38 := fun h => nq_q38 (h ▸ m_Sl)
    have n_q38_Sl : q38 ≠ Sl := Ne.symm n_Sl_q38
    have n_Sl_ce : Sl ≠ ce := fun h => nq_ce (h ▸ m_Sl)
    have n_ce_Sl : ce ≠ Sl := Ne.symm n_Sl_ce
    have n_Sl_co : Sl ≠ co := fun h => nq_co (h ▸ m_Sl)
    have n_co_Sl : co ≠ Sl := Ne.symm n_Sl_co
    have n_Sl_cr : Sl ≠ cr := fun h => nq_cr (h ▸ m_Sl)
    have n_cr_Sl : cr ≠ Sl := Ne.symm n_Sl_cr
    have n_so_q38 : so ≠ q38 := fun h => nq_q38 (h ▸ m_so)
    have n_q38_so : q38 ≠ so := Ne.symm n_so_q38
    have n_so_ce : so ≠ ce := fun h => nq_ce (h ▸ m_so)
    have n_ce_so : ce ≠ so := Ne.symm n_so_ce
    have n_so_co : so ≠ co := fun h => nq_co (h ▸ m_so)
    have n_co_so : co ≠ so := Ne.symm n_so_co
    have n_so_cr : so ≠ cr := fun h => nq_cr (h ▸ m_so)
    have n_cr_so : cr ≠ so := Ne.symm n_so_cr
    have n_pa_q38 : pa ≠ q38 := fun h => nq_q38 (h ▸ m_pa)
    have n_q38_pa : q38 ≠ pa := Ne.symm n_pa_q38
    have n_pa_ce : pa ≠ ce := fun h => nq_ce (h ▸ m_pa)
    have n_ce_pa : ce ≠ pa := Ne.symm n_pa_ce
    have n_pa_co : pa ≠ co := fun h => nq_co (h ▸ m_pa)
    have n_co_pa : co ≠ pa := Ne.symm n_pa_co
    have n_pa_cr : pa ≠ cr := fun h => nq_cr (h ▸ m_pa)
    have n_cr_pa : cr ≠ pa := Ne.symm n_pa_cr
    have n_ta_q38 : ta ≠ q38 := fun h => nq_q38 (h ▸ m_ta)
    have n_q38_ta : q38 ≠ ta := Ne.symm n_ta_q38
    have n_ta_ce : ta ≠ ce := fun h => nq_ce (h ▸ m_ta)
    have n_ce_ta : ce ≠ ta := Ne.symm n_ta_ce
    have n_ta_co : ta ≠ co := fun h => nq_co (h ▸ m_ta)
    have n_co_ta : co ≠ ta := Ne.symm n_ta_co
    have n_ta_cr : ta ≠ cr := fun h => nq_cr (h ▸ m_ta)
    have n_cr_ta : cr ≠ ta := Ne.symm n_ta_cr
    have n_lf_q38 : lf ≠ q38 := fun h => nq_q38 (h ▸ m_lf)
    have n_q38_lf : q38 ≠ lf := Ne.symm n_lf_q38
    have n_lf_ce : lf ≠ ce := fun h => nq_ce (h ▸ m_lf)
    have n_ce_lf : ce ≠ lf := Ne.symm n_lf_ce
    have n_lf_co : lf ≠ co := fun h => nq_co (h ▸ m_lf)
    have n_co_lf : co ≠ lf := Ne.symm n_lf_co
    have n_lf_cr : lf ≠ cr := fun h => nq_cr (h ▸ m_lf)
    have n_cr_lf : cr ≠ lf := Ne.symm n_lf_cr
    have n_bl_q38 : bl ≠ q38 := fun h => nq_q38 (h ▸ m_bl)
    have n_q38_bl : q38 ≠ bl := Ne.symm n_bl_q38
    have n_bl_ce : bl ≠ ce := fun h => nq_ce (h ▸ m_bl)
    have n_ce_bl : ce ≠ bl := Ne.symm n_bl_ce
    have n_bl_co : bl ≠ co := fun h => nq_co (h ▸ m_bl)
    have n_co_bl : co ≠ bl := Ne.symm n_bl_co
    have n_bl_cr : bl ≠ cr := fun h => nq_cr (h ▸ m_bl)
    have n_cr_bl : cr ≠ bl := Ne.symm n_bl_cr
    have n_si_q38 : si ≠ q38 := fun h => nq_q38 (h ▸ m_si)
    have n_q38_si : q38 ≠ si := Ne.symm n_si_q38
    have n_si_ce : si ≠ ce := fun h => nq_ce (h ▸ m_si)
    have n_ce_si : ce ≠ si := Ne.symm n_si_ce
    have n_si_co : si ≠ co := fun h => nq_co (h ▸ m_si)
    have n_co_si : co ≠ si := Ne.symm n_si_co
    have n_si_cr : si ≠ cr := fun h => nq_cr (h ▸ m_si)
    have n_cr_si : cr ≠ si := Ne.symm n_si_cr
    have n_sw_q38 : sw ≠ q38 := fun h => nq_q38 (h ▸ m_sw)
    have n_q38_sw : q38 ≠ sw := Ne.symm n_sw_q38
    have n_sw_ce : sw ≠ ce := fun h => nq_ce (h ▸ m_sw)
    have n_ce_sw : ce ≠ sw := Ne.symm n_sw_ce
    have n_sw_co : sw ≠ co := fun h => nq_co (h ▸ m_sw)
    have n_co_sw : co ≠ sw := Ne.symm n_sw_co
    have n_sw_cr : sw ≠ cr := fun h => nq_cr (h ▸ m_sw)
    have n_cr_sw : cr ≠ sw := Ne.symm n_sw_cr
    have n_tt_q38 : tt ≠ q38 := fun h => nq_q38 (h ▸ m_tt)
    have n_q38_tt : q38 ≠ tt := Ne.symm n_tt_q38
    have n_tt_ce : tt ≠ ce := fun h => nq_ce (h ▸ m_tt)
    have n_ce_tt : ce ≠ tt := Ne.symm n_tt_ce
    have n_tt_co : tt ≠ co := fun h => nq_co (h ▸ m_tt)
    have n_co_tt : co ≠ tt := Ne.symm n_tt_co
    have n_tt_cr : tt ≠ cr := fun h => nq_cr (h ▸ m_tt)
    have n_cr_tt : cr ≠ tt := Ne.symm n_tt_cr
    have n_tp_q38 : tp ≠ q38 := fun h => nq_q38 (h ▸ m_tp)
    have n_q38_tp : q38 ≠ tp := Ne.symm n_tp_q38
    have n_tp_ce : tp ≠ ce := fun h => nq_ce (h ▸ m_tp)
    have n_ce_tp : ce ≠ tp := Ne.symm n_tp_ce
    have n_tp_co : tp ≠ co := fun h => nq_co (h ▸ m_tp)
    have n_co_tp : co ≠ tp := Ne.symm n_tp_co
    have n_tp_cr : tp ≠ cr := fun h => nq_cr (h ▸ m_tp)
    have n_cr_tp : cr ≠ tp := Ne.symm n_tp_cr
    have m_xb : xb ∈ L7 := mo xb m_xb
    have m_wo : wo ∈ L7 := mo wo m_wo
    have m_wb : wb ∈ L7 := mo wb m_wb
    have m_wr : wr ∈ L7 := mo wr m_wr
    have m_Sl : Sl ∈ L7 := mo Sl m_Sl
    have m_so : so ∈ L7 := mo so m_so
    have m_pa : pa ∈ L7 := mo pa m_pa
    have m_ta : ta ∈ L7 := mo ta m_ta
    have m_lf : lf ∈ L7 := mo lf m_lf
    have m_bl : bl ∈ L7 := mo bl m_bl
    have m_si : si ∈ L7 := mo si m_si
    have m_sw : sw ∈ L7 := mo sw m_sw
    have m_tt : tt ∈ L7 := mo tt m_tt
    have m_tp : tp ∈ L7 := mo tp m_tp
    have nz_q38 : q38 ∉ L := nq_q38
    have nz_ce : ce ∉ L := nq_ce
    have nz_co : co ∉ L := nq_co
    have nz_cr : cr ∉ L := nq_cr
    have mono : ∀ b, b ∈ L → b ∈ L7 := fun b h => mo b (mono0 b h)
    have m_q38 := mq_q38
    have m_ce := mq_ce
    have m_co := mq_co
    have m_cr := mq_cr
    have e_Sl : f8 Sl = .inl (g 5, 30, .inr (.inr (.inr (.inr (va_up sf (Int32.toNatClampNeg md) (some q38)))))) := E_Sl
    have e_q38 : f8 q38 = .inr (4, [.ref ce, .ref co, .null, .int z32.1, .int z32.2.1, .int z32.2.2.1, .int z32.2.2.2.1]) := E_q38
    have e_ce : f8 ce = .inl (g 0, 4096, .inl z32.2.2.2.2.1) := E_ce
    have e_co : f8 co = .inr (0, [.ref cr, .int z32.2.2.2.2.2.1]) := E_co
    have e_cr : f8 cr = .inl (g 1, 1000, .inr (.inl z32.2.2.2.2.2.2)) := E_cr
    have n_ce_q38 : ce ≠ q38 := ne_ri e_q38 e_ce
    have n_co_q38 : co ≠ q38 := ne_rr e_q38 e_co (by decide)
    have n_cr_q38 : cr ≠ q38 := ne_ri e_q38 e_cr
    have n_q38_ce : q38 ≠ ce := ne_ir e_ce e_q38
    have n_co_ce : co ≠ ce := ne_ir e_ce e_co
    have n_cr_ce : cr ≠ ce := ne_len e_ce e_cr (by decide)
    have n_q38_co : q38 ≠ co := ne_rr e_co e_q38 (by decide)
    have n_ce_co : ce ≠ co := ne_ri e_co e_ce
    have n_cr_co : cr ≠ co := ne_ri e_co e_cr
    have n_q38_cr : q38 ≠ cr := ne_ir e_cr e_q38
    have n_ce_cr : ce ≠ cr := ne_len e_cr e_ce (by decide)
    have n_co_cr : co ≠ cr := ne_ir e_cr e_co
    replace ex32 := ex32.symm
    subst ex32
    refine W.eq (g2 := F0 m 35 ls [.ref q38]) rfl ?_
    refine lv_astore (lv' := [(5, .ref q38), (4, .int z18.1), (3, .ref wb), (0, .ref xb), (1, .int wi), (2, .int sd_)]) hx hb dX8_solve_35 hl (by decide) rfl (fun ls hl => ?_)
    refine lv_aload hx hb dX8_solve_37 (lv_at hl 0 rfl) ?_
    refine lv_ifnonnull (tgt := 45) hx hb dX8_solve_39 (by decide) ?_
    refine lv_aload hx hb dX8_solve_45 (lv_at hl 0 rfl) ?_
    refine lv_iconst (v := (3 : Int32)) hx hb dX8_solve_47 (by decide) ?_
    refine lv_aload_n hx hb dX8_solve_48 rfl (lv_at hl 3 rfl) ?_
    refine q_get hx hb hts in_X8 hown S m_xb e_xb (C := RX8) (T := TX8) (N := 8) rfl 5 (by decide) rfl (hts (.fieldLink RX8 35 "SieveCabinet" "solver" "LSieveCabinet$Solver;") (gu_wsX8_solve_1 _ gm_0)) dX8_solve_49 ?_
    obtain ⟨z52, hz52, hM⟩ := bind_some hM
    refine q_vi (As := []) (rest := [.int (3 : Int32), .ref q38]) ⟨hx, hb, hml, hown, hts⟩ (k_X7_places l D g m_so e_so hz52) (cwV 0 hts gX8_solve_X7_places rfl rfl rfl (by decide +kernel) ⟨Nat.le_of_ble_eq_true rfl, Nat.le_of_ble_eq_true rfl⟩) S m_so e_so (T := TX7) (N := 9) rfl rfl hl.1 rfl (Nat.le_of_ble_eq_true rfl) dX8_solve_52 ⟨Nat.le_of_ble_eq_true rfl, Nat.le_of_ble_eq_true rfl⟩ (fun r12 L10 f11 H locs S w52 => ?_)
    obtain ⟨ex52, eL, ef⟩ := w52
    rw [eL, ef] at S
    replace ex52 := ex52.symm
    subst ex52
    refine lv_iconst (v := (0 : Int32)) hx hb dX8_solve_55 (by decide) ?_
    refine lv_iload_n hx hb dX8_solve_56 rfl (lv_at hl 5 rfl) ?_
    refine lv_iload hx hb dX8_solve_57 (lv_at hl 1 rfl) ?_
    refine lv_iadd hx hb dX8_solve_59 ?_
    obtain ⟨z60, hz60, hM⟩ := bind_some hM
    refine q_vv (As := [.int (3 : Int32), .int z52, .int (0 : Int32), .int (sd_ + z18.1)]) (rest := []) ⟨hx, hb, hml, hown, hts⟩ (k_X6_begin l D g m_q38 e_q38 m_ce e_ce m_co e_co hz60) (cwV 4 hts gX8_solve_X6_begin rfl rfl rfl (by decide +kernel) ⟨Nat.le_of_ble_eq_true rfl, Nat.le_of_ble_eq_true rfl⟩) S m_q38 e_q38 (T := TX6) (N := 7) rfl rfl hl.1 rfl (Nat.le_of_ble_eq_true rfl) dX8_solve_60 ⟨Nat.le_of_ble_eq_true rfl, Nat.le_of_ble_eq_true rfl⟩ (fun L13 f14 H locs S w60 => ?_)
    obtain ⟨eL, fv60, E_q38, E_ce, E_co⟩ := w60
    rw [eL] at S
    have fr : ∀ b, b ∈ L → b ≠ xb → b ≠ Sl → b ≠ so → b ≠ pa → b ≠ ta → b ≠ lf → b ≠ bl → b ≠ si → b ≠ sw → b ≠ tt → b ≠ tp → f14 b = f b := fun b mb nb0 nb1 nb2 nb3 nb4 nb5 nb6 nb7 nb8 nb9 nb10 => (fv60 b (mono b mb) (fun h_ => nz_q38 (h_ ▸ mb)) (fun h_ => nz_ce (h_ ▸ mb)) (fun h_ => nz_co (h_ ▸ mb))).trans (fr b mb nb0 nb1 nb2 nb3 nb4 nb5 nb6 nb7 nb8 nb9 nb10)
    have e_q38 : f14 q38 = .inr (4, [.ref ce, .ref co, .null, .int z60.1, .int z60.2.1, .int z60.2.2.1, .int z60.2.2.2.1]) := E_q38
    have e_ce : f14 ce = .inl (g 0, 4096, .inl z60.2.2.2.2.1) := E_ce
    have e_co : f14 co = .inr (0, [.ref cr, .int z60.2.2.2.2.2]) := E_co
    refine lv_aload hx hb dX8_solve_63 (lv_at hl 0 rfl) ?_
    refine q_getN hx hb hts in_X6 hown S m_q38 e_q38 (C := RX6) (T := TX6) (N := 7) rfl 1 (by decide) rfl (by decide) dX8_solve_65 ?_
    refine lv_aload_n hx hb dX8_solve_68 rfl (lv_at hl 2 rfl) ?_
    obtain ⟨z69, hz69, hM⟩ := bind_some hM
    have e_cr := ((fv60 cr m_cr n_cr_q38 n_cr_ce n_cr_co).trans e_cr)
    have e_wb := ((fv60 wb m_wb n_wb_q38 n_wb_ce n_wb_co).trans e_wb)
    have e_wr := ((fv60 wr m_wr n_wr_q38 n_wr_ce n_wr_co).trans e_wr)
    refine q_vv (As := [.ref wb]) (rest := []) ⟨hx, hb, hml, hown, hts⟩ (k_X0_copyFrom l D g m_co e_co m_cr e_cr m_wb e_wb m_wr e_wr hz69) (cwV 1 hts gX8_solve_X0_copyFrom rfl rfl rfl (by decide +kernel) ⟨Nat.le_of_ble_eq_true rfl, Nat.le_of_ble_eq_true rfl⟩) S m_co e_co (T := TX0) (N := 2) rfl rfl hl.1 rfl (Nat.le_of_ble_eq_true rfl) dX8_solve_69 ⟨Nat.le_of_ble_eq_true rfl, Nat.le_of_ble_eq_true rfl⟩ (fun L16 f17 H locs S w69 => ?_)
    obtain ⟨eL, fv69, E_co, E_cr⟩ := w69
    rw [eL] at S
    have fr : ∀ b, b ∈ L → b ≠ xb → b ≠ Sl → b ≠ so → b ≠ pa → b ≠ ta → b ≠ lf → b ≠ bl → b ≠ si → b ≠ sw → b ≠ tt → b ≠ tp → f17 b = f b := fun b mb nb0 nb1 nb2 nb3 nb4 nb5 nb6 nb7 nb8 nb9 nb10 => (fv69 b (mono b mb) (fun h_ => nz_co (h_ ▸ mb)) (fun h_ => nz_cr (h_ ▸ mb))).trans (fr b mb nb0 nb1 nb2 nb3 nb4 nb5 nb6 nb7 nb8 nb9 nb10)
    have e_co : f17 co = .inr (0, [.ref cr, .int z69.1]) := E_co
    have e_cr : f17 cr = .inl (g 1, 1000, .inr (.inl z69.2)) := E_cr
    refine lv_aload_n hx hb dX8_solve_72 rfl (lv_at hl 3 rfl) ?_
    have e_xb := ((fv69 xb m_xb n_xb_co n_xb_cr).trans ((fv60 xb m_xb n_xb_q38 n_xb_ce n_xb_co).trans e_xb))
    refine q_get hx hb hts in_X8 hown S m_xb e_xb (C := RX8) (T := TX8) (N := 8) rfl 5 (by decide) rfl (hts (.fieldLink RX8 35 "SieveCabinet" "solver" "LSieveCabinet$Solver;") (gu_wsX8_solve_1 _ gm_0)) dX8_solve_73 ?_
    refine lv_aload hx hb dX8_solve_76 (lv_at hl 0 rfl) ?_
    obtain ⟨z78, hz78, hM⟩ := bind_some hM
    have e_so := ((fv69 so m_so n_so_co n_so_cr).trans ((fv60 so m_so n_so_q38 n_so_ce n_so_co).trans e_so))
    have e_pa := ((fv69 pa m_pa n_pa_co n_pa_cr).trans ((fv60 pa m_pa n_pa_q38 n_pa_ce n_pa_co).trans e_pa))
    have e_ta := ((fv69 ta m_ta n_ta_co n_ta_cr).trans ((fv60 ta m_ta n_ta_q38 n_ta_ce n_ta_co).trans e_ta))
    have e_lf := ((fv69 lf m_lf n_lf_co n_lf_cr).trans ((fv60 lf m_lf n_lf_q38 n_lf_ce n_lf_co).trans e_lf))
    have e_bl := ((fv69 bl m_bl n_bl_co n_bl_cr).trans ((fv60 bl m_bl n_bl_q38 n_bl_ce n_bl_co).trans e_bl))
    have e_si := ((fv69 si m_si n_si_co n_si_cr).trans ((fv60 si m_si n_si_q38 n_si_ce n_si_co).trans e_si))
    have e_sw := ((fv69 sw m_sw n_sw_co n_sw_cr).trans ((fv60 sw m_sw n_sw_q38 n_sw_ce n_sw_co).trans e_sw))
    have e_tt := ((fv69 tt m_tt n_tt_co n_tt_cr).trans ((fv60 tt m_tt n_tt_q38 n_tt_ce n_tt_co).trans e_tt))
    have e_tp := ((fv69 tp m_tp n_tp_co n_tp_cr).trans ((fv60 tp m_tp n_tp_q38 n_tp_ce n_tp_co).trans e_tp))
    have e_q38 := ((fv69 q38 m_q38 n_q38_co n_q38_cr).trans e_q38)
    have e_ce := ((fv69 ce m_ce n_ce_co n_ce_cr).trans e_ce)
    refine q_vv (As := [.ref q38]) (rest := []) ⟨hx, hb, hml, hown, hts⟩ (k_X7_fill l D g m_so e_so m_pa e_pa m_ta e_ta m_lf e_lf m_bl e_bl m_si e_si m_sw e_sw m_tt e_tt m_tp e_tp m_q38 e_q38 m_ce e_ce m_co e_co m_cr e_cr hz78) (cwV 1 hts gX8_solve_X7_fill rfl rfl rfl (by decide +kernel) ⟨Nat.le_of_ble_eq_true rfl, Nat.le_of_ble_eq_true rfl⟩) S m_so e_so (T := TX7) (N := 9) rfl rfl hl.1 rfl (Nat.le_of_ble_eq_true rfl) dX8_solve_78 ⟨Nat.le_of_ble_eq_true rfl, Nat.le_of_ble_eq_true rfl⟩ (fun L19 f20 H locs S w78 => ?_)
    obtain ⟨eL, fv78, E_ce⟩ := w78
    rw [eL] at S
    have fr : ∀ b, b ∈ L → b ≠ xb → b ≠ Sl → b ≠ so → b ≠ pa → b ≠ ta → b ≠ lf → b ≠ bl → b ≠ si → b ≠ sw → b ≠ tt → b ≠ tp → f20 b = f b := fun b mb nb0 nb1 nb2 nb3 nb4 nb5 nb6 nb7 nb8 nb9 nb10 => (fv78 b (mono b mb) (fun h_ => nz_ce (h_ ▸ mb))).trans (fr b mb nb0 nb1 nb2 nb3 nb4 nb5 nb6 nb7 nb8 nb9 nb10)
    have e_ce : f20 ce = .inl (g 0, 4096, .inl z78) := E_ce
    refine lv_aload_n hx hb dX8_solve_81 rfl (lv_at hl 3 rfl) ?_
    refine lv_dup hx hb dX8_solve_82 rfl ?_
    have e_xb := ((fv78 xb m_xb n_xb_ce).trans e_xb)
    refine q_get hx hb hts in_X8 hown S m_xb e_xb (C := RX8) (T := TX8) (N := 8) rfl 7 (by decide) rfl (hts (.fieldLink RX8 84 "SieveCabinet" "made" "I") (gu_wsX8_solve_1 _ gm_1)) dX8_solve_83 ?_
    refine lv_dup_x1 hx hb dX8_solve_86 rfl rfl ?_
    refine lv_iconst (v := (1 : Int32)) hx hb dX8_solve_87 (by decide) ?_
    refine lv_iadd hx hb dX8_solve_88 ?_
    refine k_put hx hb hts in_X8 tyX8 tyX8_ok nmX8 hown S m_xb e_xb (C := RX8) (T := TX8) (N := 8) rfl 7 (by decide) (hts (.fieldLink RX8 84 "SieveCabinet" "made" "I") (gu_wsX8_solve_1 _ gm_1)) rfl rfl rfl (Nat.le_of_ble_eq_true rfl) dX8_solve_89 (fun f22 ef22 H locs S => ?_)
    have e_xb : f22 xb = .inr (6, [.ref wo, .ref Sl, .ref dr, .ref ri, .ref th, .ref so, .ref ch, .int (md + (1 : Int32))]) := up_self ef22
    have fr : ∀ b, b ∈ L → b ≠ xb → b ≠ Sl → b ≠ so → b ≠ pa → b ≠ ta → b ≠ lf → b ≠ bl → b ≠ si → b ≠ sw → b ≠ tt → b ≠ tp → f22 b = f b := fun b mb nb0 nb1 nb2 nb3 nb4 nb5 nb6 nb7 nb8 nb9 nb10 => (up_ne ef22 nb0 rfl).trans (fr b mb nb0 nb1 nb2 nb3 nb4 nb5 nb6 nb7 nb8 nb9 nb10)
    have e_Sl := (up_ne ef22 n_Sl_xb ((fv78 Sl m_Sl n_Sl_ce).trans ((fv69 Sl m_Sl n_Sl_co n_Sl_cr).trans ((fv60 Sl m_Sl n_Sl_q38 n_Sl_ce n_Sl_co).trans e_Sl))))
    have e_so := (up_ne ef22 n_so_xb ((fv78 so m_so n_so_ce).trans e_so))
    have e_pa := (up_ne ef22 n_pa_xb ((fv78 pa m_pa n_pa_ce).trans e_pa))
    have e_ta := (up_ne ef22 n_ta_xb ((fv78 ta m_ta n_ta_ce).trans e_ta))
    have e_lf := (up_ne ef22 n_lf_xb ((fv78 lf m_lf n_lf_ce).trans e_lf))
    have e_bl := (up_ne ef22 n_bl_xb ((fv78 bl m_bl n_bl_ce).trans e_bl))
    have e_si := (up_ne ef22 n_si_xb ((fv78 si m_si n_si_ce).trans e_si))
    have e_sw := (up_ne ef22 n_sw_xb ((fv78 sw m_sw n_sw_ce).trans e_sw))
    have e_tt := (up_ne ef22 n_tt_xb ((fv78 tt m_tt n_tt_ce).trans e_tt))
    have e_tp := (up_ne ef22 n_tp_xb ((fv78 tp m_tp n_tp_ce).trans e_tp))
    have e_q38 := (up_ne ef22 n_q38_xb ((fv78 q38 m_q38 n_q38_ce).trans e_q38))
    have e_ce := (up_ne ef22 n_ce_xb e_ce)
    have e_co := (up_ne ef22 n_co_xb ((fv78 co m_co n_co_ce).trans e_co))
    have e_cr := (up_ne ef22 n_cr_xb ((fv78 cr m_cr n_cr_ce).trans e_cr))
    subst hQQ
    exact q_reti (post := fun x L1 f1 => ∃ q38 : Nat, ∃ ce : Nat, ∃ co : Nat, ∃ cr : Nat, x = z.1 ∧ (∀ b, b ∈ L → b ∈ L1) ∧ (∀ b, b ∈ L → b ≠ xb → b ≠ Sl → b ≠ so → b ≠ pa → b ≠ ta → b ≠ lf → b ≠ bl → b ≠ si → b ≠ sw → b ≠ tt → b ≠ tp → f1 b = f b) ∧ f1 xb = .inr (6, [.ref wo, .ref Sl, .ref dr, .ref ri, .ref th, .ref so, .ref ch, .int z.2.1]) ∧ f1 Sl = .inl (g 5, 30, .inr (.inr (.inr (.inr (va_up sf (Int32.toNatClampNeg md) (some q38)))))) ∧ f1 so = .inr (5, [.ref pa, .ref ta, .ref lf, .ref bl, .ref si, .ref tt, .ref tp, .int z.2.2.1, .int z.2.2.2.1]) ∧ f1 pa = .inl (g 0, 3000, .inl z.2.2.2.2.1) ∧ f1 ta = .inl (g 0, 1000, .inl z.2.2.2.2.2.1) ∧ f1 lf = .inl (g 0, 3774, .inl z.2.2.2.2.2.2.1) ∧ f1 bl = .inl (g 0, 3774, .inl z.2.2.2.2.2.2.2.1) ∧ f1 si = .inr (1, [.ref sw, .int z.2.2.2.2.2.2.2.2.1]) ∧ f1 sw = .inl (g 1, 64, .inr (.inl z.2.2.2.2.2.2.2.2.2.1)) ∧ f1 tt = .inl (g 0, 1000, .inl z.2.2.2.2.2.2.2.2.2.2.1) ∧ f1 tp = .inl (g 0, 1000, .inl z.2.2.2.2.2.2.2.2.2.2.2.1) ∧ (q38 ∉ L ∧ q38 ∈ L1 ∧ f1 q38 = .inr (4, [.ref ce, .ref co, .null, .int z.2.2.2.2.2.2.2.2.2.2.2.2.1, .int z.2.2.2.2.2.2.2.2.2.2.2.2.2.1, .int z.2.2.2.2.2.2.2.2.2.2.2.2.2.2.1, .int z.2.2.2.2.2.2.2.2.2.2.2.2.2.2.2.1])) ∧ (ce ∉ L ∧ ce ∈ L1 ∧ f1 ce = .inl (g 0, 4096, .inl z.2.2.2.2.2.2.2.2.2.2.2.2.2.2.2.2.1)) ∧ (co ∉ L ∧ co ∈ L1 ∧ f1 co = .inr (0, [.ref cr, .int z.2.2.2.2.2.2.2.2.2.2.2.2.2.2.2.2.2.1])) ∧ (cr ∉ L ∧ cr ∈ L1 ∧ f1 cr = .inl (g 1, 1000, .inr (.inl z.2.2.2.2.2.2.2.2.2.2.2.2.2.2.2.2.2.2)))) hx hb hr hlk S dX8_solve_92 (by decide) (by decide) (by have hz := Option.some.inj hM; subst hz; exact ⟨q38, ce, co, cr, rfl, mono, fr, e_xb, e_Sl, e_so, e_pa, e_ta, e_lf, e_bl, e_si, e_sw, e_tt, e_tp, ⟨nz_q38, m_q38, e_q38⟩, ⟨nz_ce, m_ce, e_ce⟩, ⟨nz_co, m_co, e_co⟩, ⟨nz_cr, m_cr, e_cr⟩⟩)
  · have hM := itF b25 hM
    refine lv_bipush (v := (-3 : Int32)) hx hb dX8_solve_28 (by decide) ?_
    exact no_some hM

def mX8_solveN  : Option (Int32) := some (-1 : Int32)
set_option maxHeartbeats 4000000 in
set_option maxRecDepth 100000 in
theorem k_X8_solveN (l : Launch) (D : va_G) (g : Nat → ClassId) {L : List Nat} {f : Nat → va_E} {Sl ch dr ri so th wo xb : Nat} {md : Int32} {wf : Nat → Option Nat} {wi : Int32} {sd_ : Int32} {z : Int32} (m_xb : xb ∈ L) (e_xb : f xb = .inr (6, [.ref wo, .ref Sl, .ref dr, .ref ri, .ref th, .ref so, .ref ch, .int md])) (m_wo : wo ∈ L) (e_wo : f wo = .inl (g 3, 8, .inr (.inr (.inr (.inr wf)))))   (hw2 : mX8_worldAt wf wi = some none) (hM : mX8_solveN = some z) : cI l yX8_solve wsX8_solve { frames := 1, cells := 0, slots := 0, locals := 21 } D g [.ref xb, .int wi, .int sd_] L f 0 0 (fun x L1 f1 => x = z ∧ L1 = L ∧ f1 = f) := by
  refine cI_of (cc := cX8_solve) (maxL := 6) (ret := (some .int)) (by decide) rfl (Nat.le_of_ble_eq_true rfl) ?_
  intro szz p e s m below meth c hx hb hr hml hts hown hlk hnm S ls hl
  have hl : lv_has ls 6 [(0, .ref xb), (1, .int wi), (2, .int sd_)] := hl
  unfold mX8_solveN at hM
  refine W_gen (fun QQ hQQ => ?_)
  refine lv_aload_n hx hb dX8_solve_0 rfl (lv_at hl 0 rfl) ?_
  refine lv_iload_n hx hb dX8_solve_1 rfl (lv_at hl 1 rfl) ?_
  refine q_vq (As := [.int wi]) (rest := []) ⟨hx, hb, hml, hown, hts⟩ (k_X8_worldAt l D g m_xb e_xb m_wo e_wo hw2) (cwV 1 hts gX8_solve_X8_worldAt rfl rfl rfl (by decide +kernel) ⟨Nat.le_of_ble_eq_true rfl, Nat.le_of_ble_eq_true rfl⟩) S m_xb e_xb (T := TX8) (N := 8) rfl rfl hl.1 rfl (Nat.le_of_ble_eq_true rfl) dX8_solve_2 ⟨Nat.le_of_ble_eq_true rfl, Nat.le_of_ble_eq_true rfl⟩ (fun r3 L1 f2 H locs S w2 => ?_)
  obtain ⟨ex, eL, ef⟩ := w2
  rw [eL, ef] at S
  replace ex := ex.symm
  subst ex
  refine W.eq (g2 := F0 m 5 ls [.null]) rfl ?_
  refine lv_astore_nN (lv' := [(3, .null), (0, .ref xb), (1, .int wi), (2, .int sd_)]) hx hb dX8_solve_5 rfl hl (by decide) rfl (fun ls hl => ?_)
  refine lv_aload_nN hx hb dX8_solve_6 rfl (lv_at hl 0 rfl) ?_
  refine lv_ifnonnullN hx hb dX8_solve_7 ?_
  refine lv_iconst (v := (-1 : Int32)) hx hb dX8_solve_10 (by decide) ?_
  subst hQQ
  exact q_reti (post := fun x L1 f1 => x = z ∧ L1 = L ∧ f1 = f) hx hb hr hlk S dX8_solve_11 (by decide) (by decide) (by have hz := Option.some.inj hM; subst hz; exact ⟨rfl, rfl, rfl⟩)
