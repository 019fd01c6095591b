def mX8_layeredX (md : Int32) : Option (Int32) := (mX8_nextSlotN md).bind fun z27 => some (-4 : Int32)
set_option maxHeartbeats 4000000 in
set_option maxRecDepth 100000 in
theorem k_X8_layeredX (l : Launch) (D : va_G) (g : Nat → ClassId) {L : List Nat} {f : Nat → va_E} {Sl ch dr ri so th ub wb wo xb : Nat} {md : Int32} {wf : Nat → Option Nat} {sf : Nat → Option Nat} {wi : Int32} {wa : Int32} {sd_ : Int32} {z : Int32} (m_xb : xb ∈ L) (e_xb : f xb = .inr (6, [.ref wo, .ref Sl, .ref dr, .ref ri, .ref th, .ref so, .ref ch, .int md])) (m_wo : wo ∈ L) (e_wo : f wo = .inl (g 3, 8, .inr (.inr (.inr (.inr wf))))) (m_Sl : Sl ∈ L) (e_Sl : f Sl = .inl (g 5, 30, .inr (.inr (.inr (.inr sf)))))   (hw2 : mX8_worldAt wf wi = some (some wb)) (hw9 : mX8_worldAt wf wa = some (some ub)) (hM : mX8_layeredX md = some z) : cI l yX8_layered wsX8_layered { frames := 1, cells := 0, slots := 0, locals := 21 } D g [.ref xb, .int wi, .int wa, .int sd_] L f 0 0 (fun x L1 f1 => x = z ∧ L1 = L ∧ f1 = f) := by
  refine cI_of (cc := cX8_layered) (maxL := 7) (ret := (some .int)) (by decide) rfl (Nat.le_of_ble_eq_true rfl) ?_
  intro szz p e s m below meth c hx hb hr hml hts hown hlk hnm S ls hl
  have hl : lv_has ls 7 [(0, .ref xb), (1, .int wi), (2, .int wa), (3, .int sd_)] := hl
  unfold mX8_layeredX at hM
  refine W_gen (fun QQ hQQ => ?_)
  refine lv_aload_n hx hb dX8_layered_0 rfl (lv_at hl 0 rfl) ?_
  refine lv_iload_n hx hb dX8_layered_1 rfl (lv_at hl 1 rfl) ?_
  refine q_vq (As := [.int wi]) (rest := []) ⟨hx, hb, hml, hown, hts⟩ (k_X8_worldAt l D g m_xb e_xb m_wo e_wo hw2) (cwV 1 hts gX8_layered_X8_worldAt rfl rfl rfl (by decide +kernel) ⟨Nat.le_of_ble_eq_true rfl, Nat.le_of_ble_eq_true rfl⟩) S m_xb e_xb (T := TX8) (N := 8) rfl rfl hl.1 rfl (Nat.le_of_ble_eq_true rfl) dX8_layered_2 ⟨Nat.le_of_ble_eq_true rfl, Nat.le_of_ble_eq_true rfl⟩ (fun r3 L1 f2 H locs S w2 => ?_)
  obtain ⟨ex, eL, ef⟩ := w2
  rw [eL, ef] at S
  replace ex := ex.symm
  subst ex
  refine W.eq (g2 := F0 m 5 ls [.ref wb]) rfl ?_
  refine lv_astore (lv' := [(4, .ref wb), (0, .ref xb), (1, .int wi), (2, .int wa), (3, .int sd_)]) hx hb dX8_layered_5 hl (by decide) rfl (fun ls hl => ?_)
  refine lv_aload_n hx hb dX8_layered_7 rfl (lv_at hl 1 rfl) ?_
  refine lv_iload_n hx hb dX8_layered_8 rfl (lv_at hl 3 rfl) ?_
  refine q_vq (As := [.int wa]) (rest := []) ⟨hx, hb, hml, hown, hts⟩ (k_X8_worldAt l D g m_xb e_xb m_wo e_wo hw9) (cwV 1 hts gX8_layered_X8_worldAt rfl rfl rfl (by decide +kernel) ⟨Nat.le_of_ble_eq_true rfl, Nat.le_of_ble_eq_true rfl⟩) S m_xb e_xb (T := TX8) (N := 8) rfl rfl hl.1 rfl (Nat.le_of_ble_eq_true rfl) dX8_layered_9 ⟨Nat.le_of_ble_eq_true rfl, Nat.le_of_ble_eq_true rfl⟩ (fun r6 L4 f5 H locs S w9 => ?_)
  obtain ⟨ex, eL, ef⟩ := w9
  rw [eL, ef] at S
  replace ex := ex.symm
  subst ex
  refine W.eq (g2 := F0 m 12 ls [.ref ub]) rfl ?_
  refine lv_astore (lv' := [(5, .ref ub), (4, .ref wb), (0, .ref xb), (1, .int wi), (2, .int wa), (3, .int sd_)]) hx hb dX8_layered_12 hl (by decide) rfl (fun ls hl => ?_)
  refine lv_aload hx hb dX8_layered_14 (lv_at hl 1 rfl) ?_
  refine lv_ifnull hx hb dX8_layered_16 ?_
  refine lv_aload hx hb dX8_layered_19 (lv_at hl 0 rfl) ?_
  refine lv_ifnonnull (tgt := 26) hx hb dX8_layered_21 (by decide) ?_
  refine lv_aload_n hx hb dX8_layered_26 rfl (lv_at hl 2 rfl) ?_
  obtain ⟨z27, hz27, hM⟩ := bind_some hM
  refine q_vq (As := []) (rest := []) ⟨hx, hb, hml, hown, hts⟩ (k_X8_nextSlotN l D g m_xb e_xb m_Sl e_Sl hz27) (cwV 0 hts gX8_layered_X8_nextSlot rfl rfl rfl (by decide +kernel) ⟨Nat.le_of_ble_eq_true rfl, Nat.le_of_ble_eq_true rfl⟩) S m_xb e_xb (T := TX8) (N := 8) rfl rfl hl.1 rfl (Nat.le_of_ble_eq_true rfl) dX8_layered_27 ⟨Nat.le_of_ble_eq_true rfl, Nat.le_of_ble_eq_true rfl⟩ (fun r9 L7 f8 H locs S w27 => ?_)
  obtain ⟨ex27, eL, ef⟩ := w27
  rw [eL, ef] at S
  replace ex27 := ex27.symm
  subst ex27
  refine W.eq (g2 := F0 m 30 ls [.null]) rfl ?_
  refine lv_astoreN (lv' := [(6, .null), (5, .ref ub), (4, .ref wb), (0, .ref xb), (1, .int wi), (2, .int wa), (3, .int sd_)]) hx hb dX8_layered_30 hl (by decide) rfl (fun ls hl => ?_)
  refine lv_aloadN hx hb dX8_layered_32 (lv_at hl 0 rfl) ?_
  refine lv_ifnonnullN hx hb dX8_layered_34 ?_
  refine lv_bipush (v := (-4 : Int32)) hx hb dX8_layered_37 (by decide) ?_
  subst hQQ
  exact q_reti (post := fun x L1 f1 => x = z ∧ L1 = L ∧ f1 = f) hx hb hr hlk S dX8_layered_39 (by decide) (by decide) (by have hz := Option.some.inj hM; subst hz; exact ⟨rfl, rfl, rfl⟩)

def mX8_layeredL (md : Int32) (sd_ : Int32) (wn : Int32) (wv : Nat → Int64) (un : Int32) (uv : Nat → Int64) (dv : Nat → Int64) (riv : Nat → Int64) (thn : Int32) (thv : Nat → Int64) (kc : Nat → Int32) (v : Nat → Int64) (kca : Nat → Int32) (rv : Nat → Int64) (lz : Nat → Int32) (ld : Nat → Nat → Int64) : Option (Int32 × Int32 × Int32 × Int32 × Int32 × Int32 × (Nat → Int32) × Int32 × (Nat → Int64) × Int32 × Int32 × (Nat → Int32) × Int32 × (Nat → Int64) × (Nat → Int32) × (Nat → Nat → Int64)) := (mX8_nextSlotE md).bind fun z27 => (mX0_copyFrom dv wn wv).bind fun z46 => (mX0_becomeWithout riv un uv wn wv).bind fun z57 => (mX6_beginLayeredL kc kca rv lz ld z46.1 z46.2 z57.1 z57.2 thn thv sd_).bind fun z75 => (mX0_copyFrom v wn wv).bind fun z85 => some (md, (md + (1 : Int32)), z75.1, z75.2.1, z75.2.2.1, z75.2.2.2.1, z75.2.2.2.2.1, z85.1, z85.2, z75.2.2.2.2.2.2.1, z75.2.2.2.2.2.2.2.1, z75.2.2.2.2.2.2.2.2.1, z75.2.2.2.2.2.2.2.2.2.1, z75.2.2.2.2.2.2.2.2.2.2.1, z75.2.2.2.2.2.2.2.2.2.2.2.1, z75.2.2.2.2.2.2.2.2.2.2.2.2)
set_option maxHeartbeats 4000000 in
set_option maxRecDepth 100000 in
theorem k_X8_layeredL (l : Launch) (D : va_G) (g : Nat → ClassId) {L : List Nat} {f : Nat → va_E} {lb lw : Nat → Nat} {Sl ca ce ch co cr dr drr h la re ri rir ro rr so th thr ub ur wb wo wr xb : Nat} {md : Int32} {wf : Nat → Option Nat} {sf : Nat → Option Nat} {wi : Int32} {wa : Int32} {sd_ : Int32} {wn : Int32} {wv : Nat → Int64} {jw : Nat} {un : Int32} {uv : Nat → Int64} {ju : Nat} {dn : Int32} {dv : Nat → Int64} {rin : Int32} {riv : Nat → Int64} {thn : Int32} {thv : Nat → Int64} {kd : Int32} {sz : Int32} {mk : Int32} {sd : Int32} {kc : Nat → Int32} {n : Int32} {v : Nat → Int64} {lc : Int32} {lsd : Int32} {rf : Nat → Option Nat} {kca : Nat → Int32} {rn : Int32} {rv : Nat → Int64} {lz : Nat → Int32} {ld : Nat → Nat → Int64} {jm : Nat} {ρ : Nat → Nat × Nat} {z : Int32 × Int32 × Int32 × Int32 × Int32 × Int32 × (Nat → Int32) × Int32 × (Nat → Int64) × Int32 × Int32 × (Nat → Int32) × Int32 × (Nat → Int64) × (Nat → Int32) × (Nat → Nat → Int64)} (m_xb : xb ∈ L) (e_xb : f xb = .inr (6, [.ref wo, .ref Sl, .ref dr, .ref ri, .ref th, .ref so, .ref ch, .int md])) (m_wo : wo ∈ L) (e_wo : f wo = .inl (g 3, 8, .inr (.inr (.inr (.inr wf))))) (m_wb : wb ∈ L) (e_wb : f wb = .inr (0, [.ref wr, .int wn])) (m_wr : wr ∈ L) (e_wr : f wr = .inl (g 1, 1000, .inr (.inl wv))) (m_ub : ub ∈ L) (e_ub : f ub = .inr (0, [.ref ur, .int un])) (m_ur : ur ∈ L) (e_ur : f ur = .inl (g 1, 1000, .inr (.inl uv))) (m_Sl : Sl ∈ L) (e_Sl : f Sl = .inl (g 5, 30, .inr (.inr (.inr (.inr sf))))) (m_dr : dr ∈ L) (e_dr : f dr = .inr (0, [.ref drr, .int dn])) (m_drr : drr ∈ L) (e_drr : f drr = .inl (g 1, 1000, .inr (.inl dv))) (m_ri : ri ∈ L) (e_ri : f ri = .inr (0, [.ref rir, .int rin])) (m_rir : rir ∈ L) (e_rir : f rir = .inl (g 1, 1000, .inr (.inl riv))) (m_th : th ∈ L) (e_th : f th = .inr (0, [.ref thr, .int thn])) (m_thr : thr ∈ L) (e_thr : f thr = .inl (g 1, 1000, .inr (.inl thv))) (m_h : h ∈ L) (e_h : f h = .inr (4, [.ref ce, .ref co, .ref la, .int kd, .int sz, .int mk, .int sd])) (m_ce : ce ∈ L) (e_ce : f ce = .inl (g 0, 4096, .inl kc)) (m_co : co ∈ L) (e_co : f co = .inr (0, [.ref cr, .int n])) (m_cr : cr ∈ L) (e_cr : f cr = .inl (g 1, 1000, .inr (.inl v))) (m_la : la ∈ L) (e_la : f la = .inr (3, [.ref ro, .ref ca, .ref re, .int lc, .int lsd])) (m_ro : ro ∈ L) (e_ro : f ro = .inl (g 4, 20, .inr (.inr (.inr (.inr rf))))) (m_ca : ca ∈ L) (e_ca : f ca = .inl (g 0, 20, .inl kca)) (m_re : re ∈ L) (e_re : f re = .inr (0, [.ref rr, .int rn])) (m_rr : rr ∈ L) (e_rr : f rr = .inl (g 1, 1000, .inr (.inl rv))) (e_fam : LF g L f rf lb lw lz ld) (n_co_re : co ≠ re) (n_cr_rr : cr ≠ rr) (r_dr : ρ dr = (0, 3)) (r_drr : ρ drr = (0, 4)) (r_ri : ρ ri = (0, 5)) (r_rir : ρ rir = (0, 6)) (r_th : ρ th = (0, 7)) (r_thr : ρ thr = (0, 8)) (r_wb : ρ wb = (1 + 2 * jw, 0)) (r_wr : ρ wr = (1 + 2 * jw, 0)) (r_ub : ρ ub = (1 + 2 * ju, 0)) (r_ur : ρ ur = (1 + 2 * ju, 0)) (r_co : ρ co = (2 + 2 * jm, 0)) (r_cr : ρ cr = (2 + 2 * jm, 0)) (r_re : ρ re = (2 + 2 * jm, 0)) (r_rr : ρ rr = (2 + 2 * jm, 0)) (hF_h : sf (Int32.toNatClampNeg md) = some h) (hdis : LD lb lw) (hw2 : mX8_worldAt wf wi = some (some wb)) (hw9 : mX8_worldAt wf wa = some (some ub)) (hM : mX8_layeredL md sd_ wn wv un uv dv riv thn thv kc v kca rv lz ld = some z) : cI l yX8_layered wsX8_layered { frames := 6, cells := 0, slots := 0, locals := 151 } D g [.ref xb, .int wi, .int wa, .int sd_] L f 0 0 (fun x L1 f1 => x = z.1 ∧ L1 = L ∧ (∀ b, b ∈ L → b ≠ xb → b ≠ dr → b ≠ drr → b ≠ ri → b ≠ rir → b ≠ th → b ≠ thr → b ≠ h → b ≠ ce → b ≠ co → b ≠ cr → b ≠ la → b ≠ ca → b ≠ re → b ≠ rr → (∀ j, j < 20 → b ≠ lb j ∧ b ≠ lw j) → f1 b = f b) ∧ f1 xb = .inr (6, [.ref wo, .ref Sl, .ref dr, .ref ri, .ref th, .ref so, .ref ch, .int z.2.1]) ∧ (∃ j1 : Int32, f1 dr = .inr (0, [.ref drr, .int j1])) ∧ (∃ j0 : Nat → Int64, f1 drr = .inl (g 1, 1000, .inr (.inl j0))) ∧ (∃ j1 : Int32, f1 ri = .inr (0, [.ref rir, .int j1])) ∧ (∃ j0 : Nat → Int64, f1 rir = .inl (g 1, 1000, .inr (.inl j0))) ∧ (∃ j1 : Int32, f1 th = .inr (0, [.ref thr, .int j1])) ∧ (∃ j0 : Nat → Int64, f1 thr = .inl (g 1, 1000, .inr (.inl j0))) ∧ f1 h = .inr (4, [.ref ce, .ref co, .ref la, .int z.2.2.1, .int z.2.2.2.1, .int z.2.2.2.2.1, .int z.2.2.2.2.2.1]) ∧ f1 ce = .inl (g 0, 4096, .inl z.2.2.2.2.2.2.1) ∧ f1 co = .inr (0, [.ref cr, .int z.2.2.2.2.2.2.2.1]) ∧ f1 cr = .inl (g 1, 1000, .inr (.inl z.2.2.2.2.2.2.2.2.1)) ∧ f1 la = .inr (3, [.ref ro, .ref ca, .ref re, .int z.2.2.2.2.2.2.2.2.2.1, .int z.2.2.2.2.2.2.2.2.2.2.1]) ∧ f1 ca = .inl (g 0, 20, .inl z.2.2.2.2.2.2.2.2.2.2.2.1) ∧ f1 re = .inr (0, [.ref rr, .int z.2.2.2.2.2.2.2.2.2.2.2.2.1]) ∧ f1 rr = .inl (g 1, 1000, .inr (.inl z.2.2.2.2.2.2.2.2.2.2.2.2.2.1)) ∧ LF g L f1 rf lb lw z.2.2.2.2.2.2.2.2.2.2.2.2.2.2.1 z.2.2.2.2.2.2.2.2.2.2.2.2.2.2.2) := by
  refine cI_of (cc := cX8_layered) (maxL := 7) (ret := (some .int)) (by decide) rfl (Nat.le_of_ble_eq_true rfl) ?_
  intro szz p e s m below meth c hx hb hr hml hts hown hlk hnm S ls hl
  have hl : lv_has ls 7 [(0, .ref xb), (1, .int wi), (2, .int wa), (3, .int sd_)] := hl
  have in_X6 : ∀ w ∈ wsX60, w ∈ wsX8_layered := gu_wsX8_layered_10
  have in_X8 : ∀ w ∈ wsX80, w ∈ wsX8_layered := gu_wsX8_layered_9
  have n_xb_dr : xb ≠ dr := ne_rr e_dr e_xb (by decide)
  have n_xb_drr : xb ≠ drr := ne_ir e_drr e_xb
  have n_ri_dr : ri ≠ dr := role_ne r_dr r_ri (by decide)
  have n_ri_drr : ri ≠ drr := ne_ir e_drr e_ri
  have n_rir_dr : rir ≠ dr := ne_ri e_dr e_rir
  have n_rir_drr : rir ≠ drr := role_ne r_drr r_rir (by decide)
  have n_ub_dr : ub ≠ dr := role_ne r_dr r_ub nr_w0
  have n_ub_drr : ub ≠ drr := ne_ir e_drr e_ub
  have n_ur_dr : ur ≠ dr := ne_ri e_dr e_ur
  have n_ur_drr : ur ≠ drr := role_ne r_drr r_ur nr_w0
  have n_wb_dr : wb ≠ dr := role_ne r_dr r_wb nr_w0
  have n_wb_drr : wb ≠ drr := ne_ir e_drr e_wb
  have n_wr_dr : wr ≠ dr := ne_ri e_dr e_wr
  have n_wr_drr : wr ≠ drr := role_ne r_drr r_wr nr_w0
  have n_ub_ri : ub ≠ ri := role_ne r_ri r_ub nr_w0
  have n_wb_ri : wb ≠ ri := role_ne r_ri r_wb nr_w0
  have n_ur_rir : ur ≠ rir := role_ne r_rir r_ur nr_w0
  have n_wr_rir : wr ≠ rir := role_ne r_rir r_wr nr_w0
  have n_xb_ri : xb ≠ ri := ne_rr e_ri e_xb (by decide)
  have n_xb_rir : xb ≠ rir := ne_ir e_rir e_xb
  have n_h_dr : h ≠ dr := ne_rr e_dr e_h (by decide)
  have n_h_drr : h ≠ drr := ne_ir e_drr e_h
  have n_h_ri : h ≠ ri := ne_rr e_ri e_h (by decide)
  have n_h_rir : h ≠ rir := ne_ir e_rir e_h
  have n_ce_dr : ce ≠ dr := ne_ri e_dr e_ce
  have n_ce_drr : ce ≠ drr := ne_len e_drr e_ce (by decide)
  have n_ce_ri : ce ≠ ri := ne_ri e_ri e_ce
  have n_ce_rir : ce ≠ rir := ne_len e_rir e_ce (by decide)
  have n_co_dr : co ≠ dr := role_ne r_dr r_co nr_s0
  have n_co_drr : co ≠ drr := ne_ir e_drr e_co
  have n_co_ri : co ≠ ri := role_ne r_ri r_co nr_s0
  have n_co_rir : co ≠ rir := ne_ir e_rir e_co
  have n_la_dr : la ≠ dr := ne_rr e_dr e_la (by decide)
  have n_la_drr : la ≠ drr := ne_ir e_drr e_la
  have n_la_ri : la ≠ ri := ne_rr e_ri e_la (by decide)
  have n_la_rir : la ≠ rir := ne_ir e_rir e_la
  have n_ro_dr : ro ≠ dr := ne_ri e_dr e_ro
  have n_ro_drr : ro ≠ drr := ne_len e_drr e_ro (by decide)
  have n_ro_ri : ro ≠ ri := ne_ri e_ri e_ro
  have n_ro_rir : ro ≠ rir := ne_len e_rir e_ro (by decide)
  have n_ca_dr : ca ≠ dr := ne_ri e_dr e_ca
  have n_ca_drr : ca ≠ drr := ne_len e_drr e_ca (by decide)
  have n_ca_ri : ca ≠ ri := ne_ri e_ri e_ca
  have n_ca_rir : ca ≠ rir := ne_len e_rir e_ca (by decide)
  have n_re_dr : re ≠ dr := role_ne r_dr r_re nr_s0
  have n_re_drr : re ≠ drr := ne_ir e_drr e_re
  have n_re_ri : re ≠ ri := role_ne r_ri r_re nr_s0
  have n_re_rir : re ≠ rir := ne_ir e_rir e_re
  have n_rr_dr : rr ≠ dr := ne_ri e_dr e_rr
  have n_rr_drr : rr ≠ drr := role_ne r_drr r_rr nr_s0
  have n_rr_ri : rr ≠ ri := ne_ri e_ri e_rr
  have n_rr_rir : rr ≠ rir := role_ne r_rir r_rr nr_s0
  have n_fam_dr : ∀ j, j < 20 → lb j ≠ dr ∧ lw j ≠ dr := fam_sy (fam_no e_fam e_dr (by decide))
  have n_fam_drr : ∀ j, j < 20 → lb j ≠ drr ∧ lw j ≠ drr := fam_sy (fam_na e_fam e_drr (by decide))
  have n_fam_ri : ∀ j, j < 20 → lb j ≠ ri ∧ lw j ≠ ri := fam_sy (fam_no e_fam e_ri (by decide))
  have n_fam_rir : ∀ j, j < 20 → lb j ≠ rir ∧ lw j ≠ rir := fam_sy (fam_na e_fam e_rir (by decide))
  have n_dr_ri : dr ≠ ri := role_ne r_ri r_dr (by decide)
  have n_dr_rir : dr ≠ rir := ne_ir e_rir e_dr
  have n_drr_ri : drr ≠ ri := ne_ri e_ri e_drr
  have n_drr_rir : drr ≠ rir := role_ne r_rir r_drr (by decide)
  have n_th_dr : th ≠ dr := role_ne r_dr r_th (by decide)
  have n_th_drr : th ≠ drr := ne_ir e_drr e_th
  have n_th_ri : th ≠ ri := role_ne r_ri r_th (by decide)
  have n_th_rir : th ≠ rir := ne_ir e_rir e_th
  have n_thr_dr : thr ≠ dr := ne_ri e_dr e_thr
  have n_thr_drr : thr ≠ drr := role_ne r_drr r_thr (by decide)
  have n_thr_ri : thr ≠ ri := ne_ri e_ri e_thr
  have n_thr_rir : thr ≠ rir := role_ne r_rir r_thr (by decide)
  have n_dr_re : dr ≠ re := role_ne r_re r_dr nr_0s
  have n_ri_re : ri ≠ re := role_ne r_re r_ri nr_0s
  have n_th_re : th ≠ re := role_ne r_re r_th nr_0s
  have n_ri_th : ri ≠ th := role_ne r_th r_ri (by decide)
  have n_rr_thr : rr ≠ thr := role_ne r_thr r_rr nr_s0
  have n_rir_thr : rir ≠ thr := role_ne r_thr r_rir (by decide)
  have n_dr_th : dr ≠ th := role_ne r_th r_dr (by decide)
  have n_drr_thr : drr ≠ thr := role_ne r_thr r_drr (by decide)
  have n_drr_rr : drr ≠ rr := role_ne r_rr r_drr nr_0s
  have n_rir_rr : rir ≠ rr := role_ne r_rr r_rir nr_0s
  have n_co_th : co ≠ th := role_ne r_th r_co nr_s0
  have n_cr_dr : cr ≠ dr := ne_ri e_dr e_cr
  have n_cr_drr : cr ≠ drr := role_ne r_drr r_cr nr_s0
  have n_cr_ri : cr ≠ ri := ne_ri e_ri e_cr
  have n_cr_rir : cr ≠ rir := role_ne r_rir r_cr nr_s0
  have n_cr_h : cr ≠ h := ne_ri e_h e_cr
  have n_cr_ce : cr ≠ ce := ne_len e_ce e_cr (by decide)
  have n_cr_co : cr ≠ co := ne_ri e_co e_cr
  have n_cr_la : cr ≠ la := ne_ri e_la e_cr
  have n_cr_ca : cr ≠ ca := ne_len e_ca e_cr (by decide)
  have n_cr_re : cr ≠ re := ne_ri e_re e_cr
  have n_cr_fam : ∀ j, j < 20 → cr ≠ lb j ∧ cr ≠ lw j := (fam_na e_fam e_cr (by decide))
  have n_cr_th : cr ≠ th := ne_ri e_th e_cr
  have n_cr_thr : cr ≠ thr := role_ne r_thr r_cr nr_s0
  have n_wb_rir : wb ≠ rir := ne_ir e_rir e_wb
  have n_wb_h : wb ≠ h := ne_rr e_h e_wb (by decide)
  have n_wb_ce : wb ≠ ce := ne_ir e_ce e_wb
  have n_wb_co : wb ≠ co := role_ne r_co r_wb nr_ws
  have n_wb_la : wb ≠ la := ne_rr e_la e_wb (by decide)
  have n_wb_ca : wb ≠ ca := ne_ir e_ca e_wb
  have n_wb_re : wb ≠ re := role_ne r_re r_wb nr_ws
  have n_wb_rr : wb ≠ rr := ne_ir e_rr e_wb
  have n_wb_fam : ∀ j, j < 20 → wb ≠ lb j ∧ wb ≠ lw j := (fam_no e_fam e_wb (by decide))
  have n_wb_th : wb ≠ th := role_ne r_th r_wb nr_w0
  have n_wb_thr : wb ≠ thr := ne_ir e_thr e_wb
  have n_wr_ri : wr ≠ ri := ne_ri e_ri e_wr
  have n_wr_h : wr ≠ h := ne_ri e_h e_wr
  have n_wr_ce : wr ≠ ce := ne_len e_ce e_wr (by decide)
  have n_wr_co : wr ≠ co := ne_ri e_co e_wr
  have n_wr_la : wr ≠ la := ne_ri e_la e_wr
  have n_wr_ca : wr ≠ ca := ne_len e_ca e_wr (by decide)
  have n_wr_re : wr ≠ re := ne_ri e_re e_wr
  have n_wr_rr : wr ≠ rr := role_ne r_rr r_wr nr_ws
  have n_wr_fam : ∀ j, j < 20 → wr ≠ lb j ∧ wr ≠ lw j := (fam_na e_fam e_wr (by decide))
  have n_wr_th : wr ≠ th := ne_ri e_th e_wr
  have n_wr_thr : wr ≠ thr := role_ne r_thr r_wr nr_w0
  have n_xb_h : xb ≠ h := ne_rr e_h e_xb (by decide)
  have n_xb_ce : xb ≠ ce := ne_ir e_ce e_xb
  have n_xb_co : xb ≠ co := ne_rr e_co e_xb (by decide)
  have n_xb_la : xb ≠ la := ne_rr e_la e_xb (by decide)
  have n_xb_ca : xb ≠ ca := ne_ir e_ca e_xb
  have n_xb_re : xb ≠ re := ne_rr e_re e_xb (by decide)
  have n_xb_rr : xb ≠ rr := ne_ir e_rr e_xb
  have n_xb_fam : ∀ j, j < 20 → xb ≠ lb j ∧ xb ≠ lw j := (fam_no e_fam e_xb (by decide))
  have n_xb_th : xb ≠ th := ne_rr e_th e_xb (by decide)
  have n_xb_thr : xb ≠ thr := ne_ir e_thr e_xb
  have n_xb_cr : xb ≠ cr := ne_ir e_cr e_xb
  have n_dr_co : dr ≠ co := role_ne r_co r_dr nr_0s
  have n_dr_cr : dr ≠ cr := ne_ir e_cr e_dr
  have n_dr_xb : dr ≠ xb := ne_rr e_xb e_dr (by decide)
  have n_drr_co : drr ≠ co := ne_ri e_co e_drr
  have n_drr_cr : drr ≠ cr := role_ne r_cr r_drr nr_0s
  have n_drr_xb : drr ≠ xb := ne_ri e_xb e_drr
  have n_ri_co : ri ≠ co := role_ne r_co r_ri nr_0s
  have n_ri_cr : ri ≠ cr := ne_ir e_cr e_ri
  have n_ri_xb : ri ≠ xb := ne_rr e_xb e_ri (by decide)
  have n_rir_co : rir ≠ co := ne_ri e_co e_rir
  have n_rir_cr : rir ≠ cr := role_ne r_cr r_rir nr_0s
  have n_rir_xb : rir ≠ xb := ne_ri e_xb e_rir
  have n_th_co : th ≠ co := role_ne r_co r_th nr_0s
  have n_th_cr : th ≠ cr := ne_ir e_cr e_th
  have n_th_xb : th ≠ xb := ne_rr e_xb e_th (by decide)
  have n_thr_co : thr ≠ co := ne_ri e_co e_thr
  have n_thr_cr : thr ≠ cr := role_ne r_cr r_thr nr_0s
  have n_thr_xb : thr ≠ xb := ne_ri e_xb e_thr
  have n_h_co : h ≠ co := ne_rr e_co e_h (by decide)
  have n_h_cr : h ≠ cr := ne_ir e_cr e_h
  have n_h_xb : h ≠ xb := ne_rr e_xb e_h (by decide)
  have n_ce_co : ce ≠ co := ne_ri e_co e_ce
  have n_ce_cr : ce ≠ cr := ne_len e_cr e_ce (by decide)
  have n_ce_xb : ce ≠ xb := ne_ri e_xb e_ce
  have n_co_xb : co ≠ xb := ne_rr e_xb e_co (by decide)
  have n_cr_xb : cr ≠ xb := ne_ri e_xb e_cr
  have n_la_co : la ≠ co := ne_rr e_co e_la (by decide)
  have n_la_cr : la ≠ cr := ne_ir e_cr e_la
  have n_la_xb : la ≠ xb := ne_rr e_xb e_la (by decide)
  have n_ca_co : ca ≠ co := ne_ri e_co e_ca
  have n_ca_cr : ca ≠ cr := ne_len e_cr e_ca (by decide)
  have n_ca_xb : ca ≠ xb := ne_ri e_xb e_ca
  have n_re_co := Ne.symm n_co_re
  have n_re_cr : re ≠ cr := ne_ir e_cr e_re
  have n_re_xb : re ≠ xb := ne_rr e_xb e_re (by decide)
  have n_rr_co : rr ≠ co := ne_ri e_co e_rr
  have n_rr_cr := Ne.symm n_cr_rr
  have n_rr_xb : rr ≠ xb := ne_ri e_xb e_rr
  have n_fam_co : ∀ j, j < 20 → lb j ≠ co ∧ lw j ≠ co := fam_sy (fam_no e_fam e_co (by decide))
  have n_fam_cr : ∀ j, j < 20 → lb j ≠ cr ∧ lw j ≠ cr := fam_sy (fam_na e_fam e_cr (by decide))
  have n_fam_xb : ∀ j, j < 20 → lb j ≠ xb ∧ lw j ≠ xb := fam_sy (fam_no e_fam e_xb (by decide))
  have fr : ∀ b, b ∈ L → b ≠ xb → b ≠ dr → b ≠ drr → b ≠ ri → b ≠ rir → b ≠ th → b ≠ thr → b ≠ h → b ≠ ce → b ≠ co → b ≠ cr → b ≠ la → b ≠ ca → b ≠ re → b ≠ rr → (∀ j, j < 20 → b ≠ lb j ∧ b ≠ lw j) → f b = f b := fun _ _ _ _ _ _ _ _ _ _ _ _ _ _ _ _ _ _ => rfl
  unfold mX8_layeredL at hM
  refine W_gen (fun QQ hQQ => ?_)
  refine lv_aload_n hx hb dX8_layered_0 rfl (lv_at hl 0 rfl) ?_
  refine lv_iload_n hx hb dX8_layered_1 rfl (lv_at hl 1 rfl) ?_
  refine q_vq (As := [.int wi]) (rest := []) ⟨hx, hb, hml, hown, hts⟩ (k_X8_worldAt l D g m_xb e_xb m_wo e_wo hw2) (cwV 1 hts gX8_layered_X8_worldAt rfl rfl rfl (by decide +kernel) ⟨Nat.le_of_ble_eq_true rfl, Nat.le_of_ble_eq_true rfl⟩) S m_xb e_xb (T := TX8) (N := 8) rfl rfl hl.1 rfl (Nat.le_of_ble_eq_true rfl) dX8_layered_2 ⟨Nat.le_of_ble_eq_true rfl, Nat.le_of_ble_eq_true rfl⟩ (fun r3 L1 f2 H locs S w2 => ?_)
  obtain ⟨ex, eL, ef⟩ := w2
  rw [eL, ef] at S
  replace ex := ex.symm
  subst ex
  refine W.eq (g2 := F0 m 5 ls [.ref wb]) rfl ?_
  refine lv_astore (lv' := [(4, .ref wb), (0, .ref xb), (1, .int wi), (2, .int wa), (3, .int sd_)]) hx hb dX8_layered_5 hl (by decide) rfl (fun ls hl => ?_)
  refine lv_aload_n hx hb dX8_layered_7 rfl (lv_at hl 1 rfl) ?_
  refine lv_iload_n hx hb dX8_layered_8 rfl (lv_at hl 3 rfl) ?_
  refine q_vq (As := [.int wa]) (rest := []) ⟨hx, hb, hml, hown, hts⟩ (k_X8_worldAt l D g m_xb e_xb m_wo e_wo hw9) (cwV 1 hts gX8_layered_X8_worldAt rfl rfl rfl (by decide +kernel) ⟨Nat.le_of_ble_eq_true rfl, Nat.le_of_ble_eq_true rfl⟩) S m_xb e_xb (T := TX8) (N := 8) rfl rfl hl.1 rfl (Nat.le_of_ble_eq_true rfl) dX8_layered_9 ⟨Nat.le_of_ble_eq_true rfl, Nat.le_of_ble_eq_true rfl⟩ (fun r6 L4 f5 H locs S w9 => ?_)
  obtain ⟨ex, eL, ef⟩ := w9
  rw [eL, ef] at S
  replace ex := ex.symm
  subst ex
  refine W.eq (g2 := F0 m 12 ls [.ref ub]) rfl ?_
  refine lv_astore (lv' := [(5, .ref ub), (4, .ref wb), (0, .ref xb), (1, .int wi), (2, .int wa), (3, .int sd_)]) hx hb dX8_layered_12 hl (by decide) rfl (fun ls hl => ?_)
  refine lv_aload hx hb dX8_layered_14 (lv_at hl 1 rfl) ?_
  refine lv_ifnull hx hb dX8_layered_16 ?_
  refine lv_aload hx hb dX8_layered_19 (lv_at hl 0 rfl) ?_
  refine lv_ifnonnull (tgt := 26) hx hb dX8_layered_21 (by decide) ?_
  refine lv_aload_n hx hb dX8_layered_26 rfl (lv_at hl 2 rfl) ?_
  obtain ⟨z27, hz27, hM⟩ := bind_some hM
  refine q_vq (As := []) (rest := []) ⟨hx, hb, hml, hown, hts⟩ (k_X8_nextSlotE l D g m_xb e_xb m_Sl e_Sl hF_h hz27) (cwV 0 hts gX8_layered_X8_nextSlot rfl rfl rfl (by decide +kernel) ⟨Nat.le_of_ble_eq_true rfl, Nat.le_of_ble_eq_true rfl⟩) S m_xb e_xb (T := TX8) (N := 8) rfl rfl hl.1 rfl (Nat.le_of_ble_eq_true rfl) dX8_layered_27 ⟨Nat.le_of_ble_eq_true rfl, Nat.le_of_ble_eq_true rfl⟩ (fun r9 L7 f8 H locs S w27 => ?_)
  obtain ⟨ex27, eL, ef⟩ := w27
  rw [eL, ef] at S
  replace ex27 := ex27.symm
  subst ex27
  refine W.eq (g2 := F0 m 30 ls [.ref h]) rfl ?_
  refine lv_astore (lv' := [(6, .ref h), (5, .ref ub), (4, .ref wb), (0, .ref xb), (1, .int wi), (2, .int wa), (3, .int sd_)]) hx hb dX8_layered_30 hl (by decide) rfl (fun ls hl => ?_)
  refine lv_aload hx hb dX8_layered_32 (lv_at hl 0 rfl) ?_
  refine lv_ifnonnull (tgt := 40) hx hb dX8_layered_34 (by decide) ?_
  refine lv_aload_n hx hb dX8_layered_40 rfl (lv_at hl 3 rfl) ?_
  refine q_get hx hb hts in_X8 hown S m_xb e_xb (C := RX8) (T := TX8) (N := 8) rfl 2 (by decide) rfl (hts (.fieldLink RX8 22 "SieveCabinet" "draft" "LSieveCabinet$Bag;") (gu_wsX8_layered_1 _ gm_0)) dX8_layered_41 ?_
  refine lv_aload hx hb dX8_layered_44 (lv_at hl 2 rfl) ?_
  obtain ⟨z46, hz46, hM⟩ := bind_some hM
  refine q_vv (As := [.ref wb]) (rest := []) ⟨hx, hb, hml, hown, hts⟩ (k_X0_copyFrom l D g m_dr e_dr m_drr e_drr m_wb e_wb m_wr e_wr hz46) (cwV 1 hts gX8_layered_X0_copyFrom rfl rfl rfl (by decide +kernel) ⟨Nat.le_of_ble_eq_true rfl, Nat.le_of_ble_eq_true rfl⟩) S m_dr e_dr (T := TX0) (N := 2) rfl rfl hl.1 rfl (Nat.le_of_ble_eq_true rfl) dX8_layered_46 ⟨Nat.le_of_ble_eq_true rfl, Nat.le_of_ble_eq_true rfl⟩ (fun L10 f11 H locs S w46 => ?_)
  obtain ⟨eL, fv46, E_dr, E_drr⟩ := w46
  rw [eL] at S
  have fr : ∀ b, b ∈ L → b ≠ xb → b ≠ dr → b ≠ drr → b ≠ ri → b ≠ rir → b ≠ th → b ≠ thr → b ≠ h → b ≠ ce → b ≠ co → b ≠ cr → b ≠ la → b ≠ ca → b ≠ re → b ≠ rr → (∀ j, j < 20 → b ≠ lb j ∧ b ≠ lw j) → f11 b = f b := fun b mb nb0 nb1 nb2 nb3 nb4 nb5 nb6 nb7 nb8 nb9 nb10 nb11 nb12 nb13 nb14 nb15 => (fv46 b mb nb1 nb2).trans (fr b mb nb0 nb1 nb2 nb3 nb4 nb5 nb6 nb7 nb8 nb9 nb10 nb11 nb12 nb13 nb14 nb15)
  have e_dr : f11 dr = .inr (0, [.ref drr, .int z46.1]) := E_dr
  have e_drr : f11 drr = .inl (g 1, 1000, .inr (.inl z46.2)) := E_drr
  refine lv_aload_n hx hb dX8_layered_49 rfl (lv_at hl 3 rfl) ?_
  have e_xb := ((fv46 xb m_xb n_xb_dr n_xb_drr).trans e_xb)
  refine q_get hx hb hts in_X8 hown S m_xb e_xb (C := RX8) (T := TX8) (N := 8) rfl 3 (by decide) rfl (hts (.fieldLink RX8 26 "SieveCabinet" "rivals" "LSieveCabinet$Bag;") (gu_wsX8_layered_1 _ gm_1)) dX8_layered_50 ?_
  refine lv_aload hx hb dX8_layered_53 (lv_at hl 1 rfl) ?_
  refine lv_aload hx hb dX8_layered_55 (lv_at hl 2 rfl) ?_
  obtain ⟨z57, hz57, hM⟩ := bind_some hM
  have e_ri := ((fv46 ri m_ri n_ri_dr n_ri_drr).trans e_ri)
  have e_rir := ((fv46 rir m_rir n_rir_dr n_rir_drr).trans e_rir)
  have e_ub := ((fv46 ub m_ub n_ub_dr n_ub_drr).trans e_ub)
  have e_ur := ((fv46 ur m_ur n_ur_dr n_ur_drr).trans e_ur)
  have e_wb := ((fv46 wb m_wb n_wb_dr n_wb_drr).trans e_wb)
  have e_wr := ((fv46 wr m_wr n_wr_dr n_wr_drr).trans e_wr)
  refine q_vv (As := [.ref ub, .ref wb]) (rest := []) ⟨hx, hb, hml, hown, hts⟩ (k_X0_becomeWithout l D g m_ri e_ri m_rir e_rir m_ub e_ub m_ur e_ur m_wb e_wb m_wr e_wr n_ub_ri n_wb_ri n_ur_rir n_wr_rir hz57) (cwV 2 hts gX8_layered_X0_becomeWithout rfl rfl rfl (by decide +kernel) ⟨Nat.le_of_ble_eq_true rfl, Nat.le_of_ble_eq_true rfl⟩) S m_ri e_ri (T := TX0) (N := 2) rfl rfl hl.1 rfl (Nat.le_of_ble_eq_true rfl) dX8_layered_57 ⟨Nat.le_of_ble_eq_true rfl, Nat.le_of_ble_eq_true rfl⟩ (fun L13 f14 H locs S w57 => ?_)
  obtain ⟨eL, fv57, E_ri, E_rir⟩ := w57
  rw [eL] at S
  have fr : ∀ b, b ∈ L → b ≠ xb → b ≠ dr → b ≠ drr → b ≠ ri → b ≠ rir → b ≠ th → b ≠ thr → b ≠ h → b ≠ ce → b ≠ co → b ≠ cr → b ≠ la → b ≠ ca → b ≠ re → b ≠ rr → (∀ j, j < 20 → b ≠ lb j ∧ b ≠ lw j) → f14 b = f b := fun b mb nb0 nb1 nb2 nb3 nb4 nb5 nb6 nb7 nb8 nb9 nb10 nb11 nb12 nb13 nb14 nb15 => (fv57 b mb nb3 nb4).trans (fr b mb nb0 nb1 nb2 nb3 nb4 nb5 nb6 nb7 nb8 nb9 nb10 nb11 nb12 nb13 nb14 nb15)
  have e_ri : f14 ri = .inr (0, [.ref rir, .int z57.1]) := E_ri
  have e_rir : f14 rir = .inl (g 1, 1000, .inr (.inl z57.2)) := E_rir
  refine lv_aload hx hb dX8_layered_60 (lv_at hl 0 rfl) ?_
  refine lv_aload_n hx hb dX8_layered_62 rfl (lv_at hl 3 rfl) ?_
  have e_xb := ((fv57 xb m_xb n_xb_ri n_xb_rir).trans e_xb)
  refine q_get hx hb hts in_X8 hown S m_xb e_xb (C := RX8) (T := TX8) (N := 8) rfl 2 (by decide) rfl (hts (.fieldLink RX8 22 "SieveCabinet" "draft" "LSieveCabinet$Bag;") (gu_wsX8_layered_1 _ gm_0)) dX8_layered_63 ?_
  refine lv_aload_n hx hb dX8_layered_66 rfl (lv_at hl 3 rfl) ?_
  refine q_get hx hb hts in_X8 hown S m_xb e_xb (C := RX8) (T := TX8) (N := 8) rfl 3 (by decide) rfl (hts (.fieldLink RX8 26 "SieveCabinet" "rivals" "LSieveCabinet$Bag;") (gu_wsX8_layered_1 _ gm_1)) dX8_layered_67 ?_
  refine lv_aload_n hx hb dX8_layered_70 rfl (lv_at hl 3 rfl) ?_
  refine q_get hx hb hts in_X8 hown S m_xb e_xb (C := RX8) (T := TX8) (N := 8) rfl 4 (by decide) rfl (hts (.fieldLink RX8 29 "SieveCabinet" "through" "LSieveCabinet$Bag;") (gu_wsX8_layered_1 _ gm_2)) dX8_layered_71 ?_
  refine lv_iload_n hx hb dX8_layered_74 rfl (lv_at hl 6 rfl) ?_
  obtain ⟨z75, hz75, hM⟩ := bind_some hM
  have e_h := ((fv57 h m_h n_h_ri n_h_rir).trans ((fv46 h m_h n_h_dr n_h_drr).trans e_h))
  have e_ce := ((fv57 ce m_ce n_ce_ri n_ce_rir).trans ((fv46 ce m_ce n_ce_dr n_ce_drr).trans e_ce))
  have e_co := ((fv57 co m_co n_co_ri n_co_rir).trans ((fv46 co m_co n_co_dr n_co_drr).trans e_co))
  have e_la := ((fv57 la m_la n_la_ri n_la_rir).trans ((fv46 la m_la n_la_dr n_la_drr).trans e_la))
  have e_ro := ((fv57 ro m_ro n_ro_ri n_ro_rir).trans ((fv46 ro m_ro n_ro_dr n_ro_drr).trans e_ro))
  have e_ca := ((fv57 ca m_ca n_ca_ri n_ca_rir).trans ((fv46 ca m_ca n_ca_dr n_ca_drr).trans e_ca))
  have e_re := ((fv57 re m_re n_re_ri n_re_rir).trans ((fv46 re m_re n_re_dr n_re_drr).trans e_re))
  have e_rr := ((fv57 rr m_rr n_rr_ri n_rr_rir).trans ((fv46 rr m_rr n_rr_dr n_rr_drr).trans e_rr))
  have e_fam := (LF_ext (LF_ext e_fam (fun j hj q1 q2 => ⟨fv46 (lb j) q1 (n_fam_dr j hj).1 (n_fam_drr j hj).1, fv46 (lw j) q2 (n_fam_dr j hj).2 (n_fam_drr j hj).2⟩)) (fun j hj q1 q2 => ⟨fv57 (lb j) q1 (n_fam_ri j hj).1 (n_fam_rir j hj).1, fv57 (lw j) q2 (n_fam_ri j hj).2 (n_fam_rir j hj).2⟩))
  have e_dr := ((fv57 dr m_dr n_dr_ri n_dr_rir).trans e_dr)
  have e_drr := ((fv57 drr m_drr n_drr_ri n_drr_rir).trans e_drr)
  have e_th := ((fv57 th m_th n_th_ri n_th_rir).trans ((fv46 th m_th n_th_dr n_th_drr).trans e_th))
  have e_thr := ((fv57 thr m_thr n_thr_ri n_thr_rir).trans ((fv46 thr m_thr n_thr_dr n_thr_drr).trans e_thr))
  refine q_vv (As := [.ref dr, .ref ri, .ref th, .int sd_]) (rest := []) ⟨hx, hb, hml, hown, hts⟩ (k_X6_beginLayeredL l D g m_h e_h m_ce e_ce m_co e_co m_la e_la m_ro e_ro m_ca e_ca m_re e_re m_rr e_rr e_fam m_dr e_dr m_drr e_drr m_ri e_ri m_rir e_rir m_th e_th m_thr e_thr n_dr_re n_ri_re n_th_re n_ri_th n_rr_thr n_rir_thr n_dr_th n_drr_thr n_drr_rr n_rir_rr n_dr_ri n_drr_rir n_co_re n_co_dr n_co_ri n_co_th hdis hz75) (cwV 4 hts gX8_layered_X6_beginLayered rfl rfl rfl (by decide +kernel) ⟨Nat.le_of_ble_eq_true rfl, Nat.le_of_ble_eq_true rfl⟩) S m_h e_h (T := TX6) (N := 7) rfl rfl hl.1 rfl (Nat.le_of_ble_eq_true rfl) dX8_layered_75 ⟨Nat.le_of_ble_eq_true rfl, Nat.le_of_ble_eq_true rfl⟩ (fun L16 f17 H locs S w75 => ?_)
  obtain ⟨eL, fv75, E_h, E_ce, E_co, E_la, E_ca, E_re, E_rr, E_fam, ⟨jk_dr_75, E_dr⟩, ⟨jk_drr_75, E_drr⟩, ⟨jk_ri_75, E_ri⟩, ⟨jk_rir_75, E_rir⟩, ⟨jk_th_75, E_th⟩, ⟨jk_thr_75, E_thr⟩⟩ := w75
  rw [eL] at S
  have fr : ∀ b, b ∈ L → b ≠ xb → b ≠ dr → b ≠ drr → b ≠ ri → b ≠ rir → b ≠ th → b ≠ thr → b ≠ h → b ≠ ce → b ≠ co → b ≠ cr → b ≠ la → b ≠ ca → b ≠ re → b ≠ rr → (∀ j, j < 20 → b ≠ lb j ∧ b ≠ lw j) → f17 b = f b := fun b mb nb0 nb1 nb2 nb3 nb4 nb5 nb6 nb7 nb8 nb9 nb10 nb11 nb12 nb13 nb14 nb15 => (fv75 b mb nb7 nb8 nb9 nb11 nb12 nb13 nb14 nb15 nb1 nb2 nb3 nb4 nb5 nb6).trans (fr b mb nb0 nb1 nb2 nb3 nb4 nb5 nb6 nb7 nb8 nb9 nb10 nb11 nb12 nb13 nb14 nb15)
  have e_h : f17 h = .inr (4, [.ref ce, .ref co, .ref la, .int z75.1, .int z75.2.1, .int z75.2.2.1, .int z75.2.2.2.1]) := E_h
  have e_ce : f17 ce = .inl (g 0, 4096, .inl z75.2.2.2.2.1) := E_ce
  have e_co : f17 co = .inr (0, [.ref cr, .int z75.2.2.2.2.2.1]) := E_co
  have e_la : f17 la = .inr (3, [.ref ro, .ref ca, .ref re, .int z75.2.2.2.2.2.2.1, .int z75.2.2.2.2.2.2.2.1]) := E_la
  have e_ca : f17 ca = .inl (g 0, 20, .inl z75.2.2.2.2.2.2.2.2.1) := E_ca
  have e_re : f17 re = .inr (0, [.ref rr, .int z75.2.2.2.2.2.2.2.2.2.1]) := E_re
  have e_rr : f17 rr = .inl (g 1, 1000, .inr (.inl z75.2.2.2.2.2.2.2.2.2.2.1)) := E_rr
  have e_fam : LF g L f17 rf lb lw z75.2.2.2.2.2.2.2.2.2.2.2.1 z75.2.2.2.2.2.2.2.2.2.2.2.2 := E_fam
  have e_dr : f17 dr = .inr (0, [.ref drr, .int jk_dr_75]) := E_dr
  have e_drr : f17 drr = .inl (g 1, 1000, .inr (.inl jk_drr_75)) := E_drr
  have e_ri : f17 ri = .inr (0, [.ref rir, .int jk_ri_75]) := E_ri
  have e_rir : f17 rir = .inl (g 1, 1000, .inr (.inl jk_rir_75)) := E_rir
  have e_th : f17 th = .inr (0, [.ref thr, .int jk_th_75]) := E_th
  have e_thr : f17 thr = .inl (g 1, 1000, .inr (.inl jk_thr_75)) := E_thr
  refine lv_aload hx hb dX8_layered_78 (lv_at hl 0 rfl) ?_
  refine q_getN hx hb hts in_X6 hown S m_h e_h (C := RX6) (T := TX6) (N := 7) rfl 1 (by decide) rfl (by decide) dX8_layered_80 ?_
  refine lv_aload hx hb dX8_layered_83 (lv_at hl 2 rfl) ?_
  obtain ⟨z85, hz85, hM⟩ := bind_some hM
  have e_cr := ((fv75 cr m_cr n_cr_h n_cr_ce n_cr_co n_cr_la n_cr_ca n_cr_re n_cr_rr n_cr_fam n_cr_dr n_cr_drr n_cr_ri n_cr_rir n_cr_th n_cr_thr).trans ((fv57 cr m_cr n_cr_ri n_cr_rir).trans ((fv46 cr m_cr n_cr_dr n_cr_drr).trans e_cr)))
  have e_wb := ((fv75 wb m_wb n_wb_h n_wb_ce n_wb_co n_wb_la n_wb_ca n_wb_re n_wb_rr n_wb_fam n_wb_dr n_wb_drr n_wb_ri n_wb_rir n_wb_th n_wb_thr).trans ((fv57 wb m_wb n_wb_ri n_wb_rir).trans e_wb))
  have e_wr := ((fv75 wr m_wr n_wr_h n_wr_ce n_wr_co n_wr_la n_wr_ca n_wr_re n_wr_rr n_wr_fam n_wr_dr n_wr_drr n_wr_ri n_wr_rir n_wr_th n_wr_thr).trans ((fv57 wr m_wr n_wr_ri n_wr_rir).trans e_wr))
  refine q_vv (As := [.ref wb]) (rest := []) ⟨hx, hb, hml, hown, hts⟩ (k_X0_copyFrom l D g m_co e_co m_cr e_cr m_wb e_wb m_wr e_wr hz85) (cwV 1 hts gX8_layered_X0_copyFrom rfl rfl rfl (by decide +kernel) ⟨Nat.le_of_ble_eq_true rfl, Nat.le_of_ble_eq_true rfl⟩) S m_co e_co (T := TX0) (N := 2) rfl rfl hl.1 rfl (Nat.le_of_ble_eq_true rfl) dX8_layered_85 ⟨Nat.le_of_ble_eq_true rfl, Nat.le_of_ble_eq_true rfl⟩ (fun L19 f20 H locs S w85 => ?_)
  obtain ⟨eL, fv85, E_co, E_cr⟩ := w85
  rw [eL] at S
  have fr : ∀ b, b ∈ L → b ≠ xb → b ≠ dr → b ≠ drr → b ≠ ri → b ≠ rir → b ≠ th → b ≠ thr → b ≠ h → b ≠ ce → b ≠ co → b ≠ cr → b ≠ la → b ≠ ca → b ≠ re → b ≠ rr → (∀ j, j < 20 → b ≠ lb j ∧ b ≠ lw j) → f20 b = f b := fun b mb nb0 nb1 nb2 nb3 nb4 nb5 nb6 nb7 nb8 nb9 nb10 nb11 nb12 nb13 nb14 nb15 => (fv85 b mb nb9 nb10).trans (fr b mb nb0 nb1 nb2 nb3 nb4 nb5 nb6 nb7 nb8 nb9 nb10 nb11 nb12 nb13 nb14 nb15)
  have e_co : f20 co = .inr (0, [.ref cr, .int z85.1]) := E_co
  have e_cr : f20 cr = .inl (g 1, 1000, .inr (.inl z85.2)) := E_cr
  refine lv_aload_n hx hb dX8_layered_88 rfl (lv_at hl 3 rfl) ?_
  refine lv_dup hx hb dX8_layered_89 rfl ?_
  have e_xb := ((fv85 xb m_xb n_xb_co n_xb_cr).trans ((fv75 xb m_xb n_xb_h n_xb_ce n_xb_co n_xb_la n_xb_ca n_xb_re n_xb_rr n_xb_fam n_xb_dr n_xb_drr n_xb_ri n_xb_rir n_xb_th n_xb_thr).trans e_xb))
  refine q_get hx hb hts in_X8 hown S m_xb e_xb (C := RX8) (T := TX8) (N := 8) rfl 7 (by decide) rfl (hts (.fieldLink RX8 84 "SieveCabinet" "made" "I") (gu_wsX8_layered_1 _ gm_3)) dX8_layered_90 ?_
  refine lv_dup_x1 hx hb dX8_layered_93 rfl rfl ?_
  refine lv_iconst (v := (1 : Int32)) hx hb dX8_layered_94 (by decide) ?_
  refine lv_iadd hx hb dX8_layered_95 ?_
  refine k_put hx hb hts in_X8 tyX8 tyX8_ok nmX8 hown S m_xb e_xb (C := RX8) (T := TX8) (N := 8) rfl 7 (by decide) (hts (.fieldLink RX8 84 "SieveCabinet" "made" "I") (gu_wsX8_layered_1 _ gm_3)) rfl rfl rfl (Nat.le_of_ble_eq_true rfl) dX8_layered_96 (fun f22 ef22 H locs S => ?_)
  have e_xb : f22 xb = .inr (6, [.ref wo, .ref Sl, .ref dr, .ref ri, .ref th, .ref so, .ref ch, .int (md + (1 : Int32))]) := up_self ef22
  have fr : ∀ b, b ∈ L → b ≠ xb → b ≠ dr → b ≠ drr → b ≠ ri → b ≠ rir → b ≠ th → b ≠ thr → b ≠ h → b ≠ ce → b ≠ co → b ≠ cr → b ≠ la → b ≠ ca → b ≠ re → b ≠ rr → (∀ j, j < 20 → b ≠ lb j ∧ b ≠ lw j) → f22 b = f b := fun b mb nb0 nb1 nb2 nb3 nb4 nb5 nb6 nb7 nb8 nb9 nb10 nb11 nb12 nb13 nb14 nb15 => (up_ne ef22 nb0 rfl).trans (fr b mb nb0 nb1 nb2 nb3 nb4 nb5 nb6 nb7 nb8 nb9 nb10 nb11 nb12 nb13 nb14 nb15)
  have e_dr := (up_ne ef22 n_dr_xb ((fv85 dr m_dr n_dr_co n_dr_cr).trans e_dr))
  have e_drr := (up_ne ef22 n_drr_xb ((fv85 drr m_drr n_drr_co n_drr_cr).trans e_drr))
  have e_ri := (up_ne ef22 n_ri_xb ((fv85 ri m_ri n_ri_co n_ri_cr).trans e_ri))
  have e_rir := (up_ne ef22 n_rir_xb ((fv85 rir m_rir n_rir_co n_rir_cr).trans e_rir))
  have e_th := (up_ne ef22 n_th_xb ((fv85 th m_th n_th_co n_th_cr).trans e_th))
  have e_thr := (up_ne ef22 n_thr_xb ((fv85 thr m_thr n_thr_co n_thr_cr).trans e_thr))
  have e_h := (up_ne ef22 n_h_xb ((fv85 h m_h n_h_co n_h_cr).trans e_h))
  have e_ce := (up_ne ef22 n_ce_xb ((fv85 ce m_ce n_ce_co n_ce_cr).trans e_ce))
  have e_co := (up_ne ef22 n_co_xb e_co)
  have e_cr := (up_ne ef22 n_cr_xb e_cr)
  have e_la := (up_ne ef22 n_la_xb ((fv85 la m_la n_la_co n_la_cr).trans e_la))
  have e_ca := (up_ne ef22 n_ca_xb ((fv85 ca m_ca n_ca_co n_ca_cr).trans e_ca))
  have e_re := (up_ne ef22 n_re_xb ((fv85 re m_re n_re_co n_re_cr).trans e_re))
  have e_rr := (up_ne ef22 n_rr_xb ((fv85 rr m_rr n_rr_co n_rr_cr).trans e_rr))
  have e_fam := (LF_up (LF_ext e_fam (fun j hj q1 q2 => ⟨fv85 (lb j) q1 (n_fam_co j hj).1 (n_fam_cr j hj).1, fv85 (lw j) q2 (n_fam_co j hj).2 (n_fam_cr j hj).2⟩)) ef22 n_fam_xb)
  subst hQQ
  exact q_reti (post := fun x L1 f1 => x = z.1 ∧ L1 = L ∧ (∀ b, b ∈ L → b ≠ xb → b ≠ dr → b ≠ drr → b ≠ ri → b ≠ rir → b ≠ th → b ≠ thr → b ≠ h → b ≠ ce → b ≠ co → b ≠ cr → b ≠ la → b ≠ ca → b ≠ re → b ≠ rr → (∀ j, j < 20 → b ≠ lb j ∧ b ≠ lw j) → f1 b = f b) ∧ f1 xb = .inr (6, [.ref wo, .ref Sl, .ref dr, .ref ri, .ref th, .ref so, .ref ch, .int z.2.1]) ∧ (∃ j1 : Int32, f1 dr = .inr (0, [.ref drr, .int j1])) ∧ (∃ j0 : Nat → Int64, f1 drr = .inl (g 1, 1000, .inr (.inl j0))) ∧ (∃ j1 : Int32, f1 ri = .inr (0, [.ref rir, .int j1])) ∧ (∃ j0 : Nat → Int64, f1 rir = .inl (g 1, 1000, .inr (.inl j0))) ∧ (∃ j1 : Int32, f1 th = .inr (0, [.ref thr, .int j1])) ∧ (∃ j0 : Nat → Int64, f1 thr = .inl (g 1, 1000, .inr (.inl j0))) ∧ f1 h = .inr (4, [.ref ce, .ref co, .ref la, .int z.2.2.1, .int z.2.2.2.1, .int z.2.2.2.2.1, .int z.2.2.2.2.2.1]) ∧ f1 ce = .inl (g 0, 4096, .inl z.2.2.2.2.2.2.1) ∧ f1 co = .inr (0, [.ref cr, .int z.2.2.2.2.2.2.2.1]) ∧ f1 cr = .inl (g 1, 1000, .inr (.inl z.2.2.2.2.2.2.2.2.1)) ∧ f1 la = .inr (3, [.ref ro, .ref ca, .ref re, .int z.2.2.2.2.2.2.2.2.2.1, .int z.2.2.2.2.2.2.2.2.2.2.1]) ∧ f1 ca = .inl (g 0, 20, .inl z.2.2.2.2.2.2.2.2.2.2.2.1) ∧ f1 re = .inr (0, [.ref rr, .int z.2.2.2.2.2.2.2.2.2.2.2.2.1]) ∧ f1 rr = .inl (g 1, 1000, .inr (.inl z.2.2.2.2.2.2.2.2.2.2.2.2.2.1)) ∧ LF g L f1 rf lb lw z.2.2.2.2.2.2.2.2.2.2.2.2.2.2.1 z.2.2.2.2.2.2.2.2.2.2.2.2.2.2.2) hx hb hr hlk S dX8_layered_99 (by decide) (by decide) (by have hz := Option.some.inj hM; subst hz; exact ⟨rfl, rfl, fr, e_xb, ⟨_, e_dr⟩, ⟨_, e_drr⟩, ⟨_, e_ri⟩, ⟨_, e_rir⟩, ⟨_, e_th⟩, ⟨_, e_thr⟩, e_h, e_ce, e_co, e_cr, e_la, e_ca, e_re, e_rr, e_fam⟩)

def mX8_layeredE (md : Int32) (sd_ : Int32) (wn : Int32) (wv : Nat → Int64) (un : Int32) (uv : Nat → Int64) (dv : Nat → Int64) (riv : Nat → Int64) (thn : Int32) (thv : Nat → Int64) (kc : Nat → Int32) (v : Nat → Int64) : Option (Int32 × Int32 × Int32 × Int32 × Int32 × Int32 × (Nat → Int32) × Int32 × (Nat → Int64) × Int32 × Int32 × (Nat → Int32) × Int32 × (Nat → Int64) × (Nat → Int32) × (Nat → Nat → Int64)) := (mX8_nextSlotE md).bind fun z27 => (mX0_copyFrom dv wn wv).bind fun z46 => (mX0_becomeWithout riv un uv wn wv).bind fun z57 => (mX6_beginLayeredN kc z46.1 z46.2 z57.1 z57.2 thn thv sd_).bind fun z75 => (mX0_copyFrom v wn wv).bind fun z85 => some (md, (md + (1 : Int32)), z75.1, z75.2.1, z75.2.2.1, z75.2.2.2.1, z75.2.2.2.2.1, z85.1, z85.2, z75.2.2.2.2.2.2.1, z75.2.2.2.2.2.2.2.1, z75.2.2.2.2.2.2.2.2.1, z75.2.2.2.2.2.2.2.2.2.1, z75.2.2.2.2.2.2.2.2.2.2.1, z75.2.2.2.2.2.2.2.2.2.2.2.1, z75.2.2.2.2.2.2.2.2.2.2.2.2)
set_option maxHeartbeats 4000000 in
set_option maxRecDepth 100000 in
theorem k_X8_layeredE (l : Launch) (D : va_G) (g : Nat → ClassId) {L : List Nat} {f : Nat → va_E} {Sl ce ch co cr dr drr h ri rir so th thr ub ur wb wo wr xb : Nat} {md : Int32} {wf : Nat → Option Nat} {sf : Nat → Option Nat} {wi : Int32} {wa : Int32} {sd_ : Int32} {wn : Int32} {wv : Nat → Int64} {jw : Nat} {un : Int32} {uv : Nat → Int64} {ju : Nat} {dn : Int32} {dv : Nat → Int64} {rin : Int32} {riv : Nat → Int64} {thn : Int32} {thv : Nat → Int64} {kd : Int32} {sz : Int32} {mk : Int32} {sd : Int32} {kc : Nat → Int32} {n : Int32} {v : Nat → Int64} {jm : Nat} {ρ : Nat → Nat × Nat} {z : Int32 × Int32 × Int32 × Int32 × Int32 × Int32 × (Nat → Int32) × Int32 × (Nat → Int64) × Int32 × Int32 × (Nat → Int32) × Int32 × (Nat → Int64) × (Nat → Int32) × (Nat → Nat → Int64)} (m_xb : xb ∈ L) (e_xb : f xb = .inr (6, [.ref wo, .ref Sl, .ref dr, .ref ri, .ref th, .ref so, .ref ch, .int md])) (m_wo : wo ∈ L) (e_wo : f wo = .inl (g 3, 8, .inr (.inr (.inr (.inr wf))))) (m_wb : wb ∈ L) (e_wb : f wb = .inr (0, [.ref wr, .int wn])) (m_wr : wr ∈ L) (e_wr : f wr = .inl (g 1, 1000, .inr (.inl wv))) (m_ub : ub ∈ L) (e_ub : f ub = .inr (0, [.ref ur, .int un])) (m_ur : ur ∈ L) (e_ur : f ur = .inl (g 1, 1000, .inr (.inl uv))) (m_Sl : Sl ∈ L) (e_Sl : f Sl = .inl (g 5, 30, .inr (.inr (.inr (.inr sf))))) (m_dr : dr ∈ L) (e_dr : f dr = .inr (0, [.ref drr, .int dn])) (m_drr : drr ∈ L) (e_drr : f drr = .inl (g 1, 1000, .inr (.inl dv))) (m_ri : ri ∈ L) (e_ri : f ri = .inr (0, [.ref rir, .int rin])) (m_rir : rir ∈ L) (e_rir : f rir = .inl (g 1, 1000, .inr (.inl riv))) (m_th : th ∈ L) (e_th : f th = .inr (0, [.ref thr, .int thn])) (m_thr : thr ∈ L) (e_thr : f thr = .inl (g 1, 1000, .inr (.inl thv))) (m_h : h ∈ L) (e_h : f h = .inr (4, [.ref ce, .ref co, .null, .int kd, .int sz, .int mk, .int sd])) (m_ce : ce ∈ L) (e_ce : f ce = .inl (g 0, 4096, .inl kc)) (m_co : co ∈ L) (e_co : f co = .inr (0, [.ref cr, .int n])) (m_cr : cr ∈ L) (e_cr : f cr = .inl (g 1, 1000, .inr (.inl v)))  (r_dr : ρ dr = (0, 3)) (r_drr : ρ drr = (0, 4)) (r_ri : ρ ri = (0, 5)) (r_rir : ρ rir = (0, 6)) (r_th : ρ th = (0, 7)) (r_thr : ρ thr = (0, 8)) (r_wb : ρ wb = (1 + 2 * jw, 0)) (r_wr : ρ wr = (1 + 2 * jw, 0)) (r_ub : ρ ub = (1 + 2 * ju, 0)) (r_ur : ρ ur = (1 + 2 * ju, 0)) (r_co : ρ co = (2 + 2 * jm, 0)) (r_cr : ρ cr = (2 + 2 * jm, 0)) (hF_h : sf (Int32.toNatClampNeg md) = some h) (hw2 : mX8_worldAt wf wi = some (some wb)) (hw9 : mX8_worldAt wf wa = some (some ub)) (hM : mX8_layeredE md sd_ wn wv un uv dv riv thn thv kc v = some z) : cI l yX8_layered wsX8_layered { frames := 6, cells := 45, slots := 2367, locals := 151 } D g [.ref xb, .int wi, .int wa, .int sd_] L f 45 2367 (fun x L1 f1 => ∃ q8 : Nat, ∃ ca : Nat, ∃ re : Nat, ∃ rr : Nat, ∃ ro : Nat, ∃ lb lw : Nat → Nat, ∃ rf : Nat → Option Nat, x = z.1 ∧ (∀ b, b ∈ L → b ∈ L1) ∧ (∀ b, b ∈ L → b ≠ xb → b ≠ dr → b ≠ drr → b ≠ ri → b ≠ rir → b ≠ th → b ≠ thr → b ≠ h → b ≠ ce → b ≠ co → b ≠ cr → f1 b = f b) ∧ f1 xb = .inr (6, [.ref wo, .ref Sl, .ref dr, .ref ri, .ref th, .ref so, .ref ch, .int z.2.1]) ∧ (∃ j1 : Int32, f1 dr = .inr (0, [.ref drr, .int j1])) ∧ (∃ j0 : Nat → Int64, f1 drr = .inl (g 1, 1000, .inr (.inl j0))) ∧ (∃ j1 : Int32, f1 ri = .inr (0, [.ref rir, .int j1])) ∧ (∃ j0 : Nat → Int64, f1 rir = .inl (g 1, 1000, .inr (.inl j0))) ∧ (∃ j1 : Int32, f1 th = .inr (0, [.ref thr, .int j1])) ∧ (∃ j0 : Nat → Int64, f1 thr = .inl (g 1, 1000, .inr (.inl j0))) ∧ f1 h = .inr (4, [.ref ce, .ref co, .ref q8, .int z.2.2.1, .int z.2.2.2.1, .int z.2.2.2.2.1, .int z.2.2.2.2.2.1]) ∧ f1 ce = .inl (g 0, 4096, .inl z.2.2.2.2.2.2.1) ∧ f1 co = .inr (0, [.ref cr, .int z.2.2.2.2.2.2.2.1]) ∧ f1 cr = .inl (g 1, 1000, .inr (.inl z.2.2.2.2.2.2.2.2.1)) ∧ (q8 ∉ L ∧ q8 ∈ L1 ∧ f1 q8 = .inr (3, [.ref ro, .ref ca, .ref re, .int z.2.2.2.2.2.2.2.2.2.1, .int z.2.2.2.2.2.2.2.2.2.2.1])) ∧ (ca ∉ L ∧ ca ∈ L1 ∧ f1 ca = .inl (g 0, 20, .inl z.2.2.2.2.2.2.2.2.2.2.2.1)) ∧ (re ∉ L ∧ re ∈ L1 ∧ f1 re = .inr (0, [.ref rr, .int z.2.2.2.2.2.2.2.2.2.2.2.2.1])) ∧ (rr ∉ L ∧ rr ∈ L1 ∧ f1 rr = .inl (g 1, 1000, .inr (.inl z.2.2.2.2.2.2.2.2.2.2.2.2.2.1))) ∧ (ro ∉ L ∧ ro ∈ L1 ∧ f1 ro = .inl (g 4, 20, .inr (.inr (.inr (.inr rf))))) ∧ (LF g L1 f1 rf lb lw z.2.2.2.2.2.2.2.2.2.2.2.2.2.2.1 z.2.2.2.2.2.2.2.2.2.2.2.2.2.2.2 ∧ LD lb lw ∧ ∀ j, j < 20 → lb j ∉ L ∧ lw j ∉ L)) := by
  refine cI_of (cc := cX8_layered) (maxL := 7) (ret := (some .int)) (by decide) rfl (Nat.le_of_ble_eq_true rfl) ?_
  intro szz p e s m below meth c hx hb hr hml hts hown hlk hnm S ls hl
  have hl : lv_has ls 7 [(0, .ref xb), (1, .int wi), (2, .int wa), (3, .int sd_)] := hl
  have in_X6 : ∀ w ∈ wsX60, w ∈ wsX8_layered := gu_wsX8_layered_10
  have in_X8 : ∀ w ∈ wsX80, w ∈ wsX8_layered := gu_wsX8_layered_9
  have n_xb_dr : xb ≠ dr := ne_rr e_dr e_xb (by decide)
  have n_xb_drr : xb ≠ drr := ne_ir e_drr e_xb
  have n_ri_dr : ri ≠ dr := role_ne r_dr r_ri (by decide)
  have n_ri_drr : ri ≠ drr := ne_ir e_drr e_ri
  have n_rir_dr : rir ≠ dr := ne_ri e_dr e_rir
  have n_rir_drr : rir ≠ drr := role_ne r_drr r_rir (by decide)
  have n_ub_dr : ub ≠ dr := role_ne r_dr r_ub nr_w0
  have n_ub_drr : ub ≠ drr := ne_ir e_drr e_ub
  have n_ur_dr : ur ≠ dr := ne_ri e_dr e_ur
  have n_ur_drr : ur ≠ drr := role_ne r_drr r_ur nr_w0
  have n_wb_dr : wb ≠ dr := role_ne r_dr r_wb nr_w0
  have n_wb_drr : wb ≠ drr := ne_ir e_drr e_wb
  have n_wr_dr : wr ≠ dr := ne_ri e_dr e_wr
  have n_wr_drr : wr ≠ drr := role_ne r_drr r_wr nr_w0
  have n_ub_ri : ub ≠ ri := role_ne r_ri r_ub nr_w0
  have n_wb_ri : wb ≠ ri := role_ne r_ri r_wb nr_w0
  have n_ur_rir : ur ≠ rir := role_ne r_rir r_ur nr_w0
  have n_wr_rir : wr ≠ rir := role_ne r_rir r_wr nr_w0
  have n_xb_ri : xb ≠ ri := ne_rr e_ri e_xb (by decide)
  have n_xb_rir : xb ≠ rir := ne_ir e_rir e_xb
  have n_h_dr : h ≠ dr := ne_rr e_dr e_h (by decide)
  have n_h_drr : h ≠ drr := ne_ir e_drr e_h
  have n_h_ri : h ≠ ri := ne_rr e_ri e_h (by decide)
  have n_h_rir : h ≠ rir := ne_ir e_rir e_h
  have n_ce_dr : ce ≠ dr := ne_ri e_dr e_ce
  have n_ce_drr : ce ≠ drr := ne_len e_drr e_ce (by decide)
  have n_ce_ri : ce ≠ ri := ne_ri e_ri e_ce
  have n_ce_rir : ce ≠ rir := ne_len e_rir e_ce (by decide)
  have n_co_dr : co ≠ dr := role_ne r_dr r_co nr_s0
  have n_co_drr : co ≠ drr := ne_ir e_drr e_co
  have n_co_ri : co ≠ ri := role_ne r_ri r_co nr_s0
  have n_co_rir : co ≠ rir := ne_ir e_rir e_co
  have n_cr_dr : cr ≠ dr := ne_ri e_dr e_cr
  have n_cr_drr : cr ≠ drr := role_ne r_drr r_cr nr_s0
  have n_cr_ri : cr ≠ ri := ne_ri e_ri e_cr
  have n_cr_rir : cr ≠ rir := role_ne r_rir r_cr nr_s0
  have n_dr_ri : dr ≠ ri := role_ne r_ri r_dr (by decide)
  have n_dr_rir : dr ≠ rir := ne_ir e_rir e_dr
  have n_drr_ri : drr ≠ ri := ne_ri e_ri e_drr
  have n_drr_rir : drr ≠ rir := role_ne r_rir r_drr (by decide)
  have n_th_dr : th ≠ dr := role_ne r_dr r_th (by decide)
  have n_th_drr : th ≠ drr := ne_ir e_drr e_th
  have n_th_ri : th ≠ ri := role_ne r_ri r_th (by decide)
  have n_th_rir : th ≠ rir := ne_ir e_rir e_th
  have n_thr_dr : thr ≠ dr := ne_ri e_dr e_thr
  have n_thr_drr : thr ≠ drr := role_ne r_drr r_thr (by decide)
  have n_thr_ri : thr ≠ ri := ne_ri e_ri e_thr
  have n_thr_rir : thr ≠ rir := role_ne r_rir r_thr (by decide)
  have n_ri_th : ri ≠ th := role_ne r_th r_ri (by decide)
  have n_rir_thr : rir ≠ thr := role_ne r_thr r_rir (by decide)
  have n_dr_th : dr ≠ th := role_ne r_th r_dr (by decide)
  have n_drr_thr : drr ≠ thr := role_ne r_thr r_drr (by decide)
  have n_co_th : co ≠ th := role_ne r_th r_co nr_s0
  have n_xb_h : xb ≠ h := ne_rr e_h e_xb (by decide)
  have n_xb_ce : xb ≠ ce := ne_ir e_ce e_xb
  have n_xb_co : xb ≠ co := ne_rr e_co e_xb (by decide)
  have n_xb_th : xb ≠ th := ne_rr e_th e_xb (by decide)
  have n_xb_thr : xb ≠ thr := ne_ir e_thr e_xb
  have n_wo_dr : wo ≠ dr := ne_ri e_dr e_wo
  have n_wo_drr : wo ≠ drr := ne_len e_drr e_wo (by decide)
  have n_wo_ri : wo ≠ ri := ne_ri e_ri e_wo
  have n_wo_rir : wo ≠ rir := ne_len e_rir e_wo (by decide)
  have n_wo_h : wo ≠ h := ne_ri e_h e_wo
  have n_wo_ce : wo ≠ ce := ne_len e_ce e_wo (by decide)
  have n_wo_co : wo ≠ co := ne_ri e_co e_wo
  have n_wo_th : wo ≠ th := ne_ri e_th e_wo
  have n_wo_thr : wo ≠ thr := ne_len e_thr e_wo (by decide)
  have n_wb_rir : wb ≠ rir := ne_ir e_rir e_wb
  have n_wb_h : wb ≠ h := ne_rr e_h e_wb (by decide)
  have n_wb_ce : wb ≠ ce := ne_ir e_ce e_wb
  have n_wb_co : wb ≠ co := role_ne r_co r_wb nr_ws
  have n_wb_th : wb ≠ th := role_ne r_th r_wb nr_w0
  have n_wb_thr : wb ≠ thr := ne_ir e_thr e_wb
  have n_wr_ri : wr ≠ ri := ne_ri e_ri e_wr
  have n_wr_h : wr ≠ h := ne_ri e_h e_wr
  have n_wr_ce : wr ≠ ce := ne_len e_ce e_wr (by decide)
  have n_wr_co : wr ≠ co := ne_ri e_co e_wr
  have n_wr_th : wr ≠ th := ne_ri e_th e_wr
  have n_wr_thr : wr ≠ thr := role_ne r_thr r_wr nr_w0
  have n_ub_rir : ub ≠ rir := ne_ir e_rir e_ub
  have n_ub_h : ub ≠ h := ne_rr e_h e_ub (by decide)
  have n_ub_ce : ub ≠ ce := ne_ir e_ce e_ub
  have n_ub_co : ub ≠ co := role_ne r_co r_ub nr_ws
  have n_ub_th : ub ≠ th := role_ne r_th r_ub nr_w0
  have n_ub_thr : ub ≠ thr := ne_ir e_thr e_ub
  have n_ur_ri : ur ≠ ri := ne_ri e_ri e_ur
  have n_ur_h : ur ≠ h := ne_ri e_h e_ur
  have n_ur_ce : ur ≠ ce := ne_len e_ce e_ur (by decide)
  have n_ur_co : ur ≠ co := ne_ri e_co e_ur
  have n_ur_th : ur ≠ th := ne_ri e_th e_ur
  have n_ur_thr : ur ≠ thr := role_ne r_thr r_ur nr_w0
  have n_Sl_dr : Sl ≠ dr := ne_ri e_dr e_Sl
  have n_Sl_drr : Sl ≠ drr := ne_len e_drr e_Sl (by decide)
  have n_Sl_ri : Sl ≠ ri := ne_ri e_ri e_Sl
  have n_Sl_rir : Sl ≠ rir := ne_len e_rir e_Sl (by decide)
  have n_Sl_h : Sl ≠ h := ne_ri e_h e_Sl
  have n_Sl_ce : Sl ≠ ce := ne_len e_ce e_Sl (by decide)
  have n_Sl_co : Sl ≠ co := ne_ri e_co e_Sl
  have n_Sl_th : Sl ≠ th := ne_ri e_th e_Sl
  have n_Sl_thr : Sl ≠ thr := ne_len e_thr e_Sl (by decide)
  have n_cr_h : cr ≠ h := ne_ri e_h e_cr
  have n_cr_ce : cr ≠ ce := ne_len e_ce e_cr (by decide)
  have n_cr_co : cr ≠ co := ne_ri e_co e_cr
  have n_cr_th : cr ≠ th := ne_ri e_th e_cr
  have n_cr_thr : cr ≠ thr := role_ne r_thr r_cr nr_s0
  have n_xb_cr : xb ≠ cr := ne_ir e_cr e_xb
  have n_dr_co : dr ≠ co := role_ne r_co r_dr nr_0s
  have n_dr_cr : dr ≠ cr := ne_ir e_cr e_dr
  have n_dr_xb : dr ≠ xb := ne_rr e_xb e_dr (by decide)
  have n_drr_co : drr ≠ co := ne_ri e_co e_drr
  have n_drr_cr : drr ≠ cr := role_ne r_cr r_drr nr_0s
  have n_drr_xb : drr ≠ xb := ne_ri e_xb e_drr
  have n_ri_co : ri ≠ co := role_ne r_co r_ri nr_0s
  have n_ri_cr : ri ≠ cr := ne_ir e_cr e_ri
  have n_ri_xb : ri ≠ xb := ne_rr e_xb e_ri (by decide)
  have n_rir_co : rir ≠ co := ne_ri e_co e_rir
  have n_rir_cr : rir ≠ cr := role_ne r_cr r_rir nr_0s
  have n_rir_xb : rir ≠ xb := ne_ri e_xb e_rir
  have n_th_co : th ≠ co := role_ne r_co r_th nr_0s
  have n_th_cr : th ≠ cr := ne_ir e_cr e_th
  have n_th_xb : th ≠ xb := ne_rr e_xb e_th (by decide)
  have n_thr_co : thr ≠ co := ne_ri e_co e_thr
  have n_thr_cr : thr ≠ cr := role_ne r_cr r_thr nr_0s
  have n_thr_xb : thr ≠ xb := ne_ri e_xb e_thr
  have n_h_co : h ≠ co := ne_rr e_co e_h (by decide)
  have n_h_cr : h ≠ cr := ne_ir e_cr e_h
  have n_h_xb : h ≠ xb := ne_rr e_xb e_h (by decide)
  have n_ce_co : ce ≠ co := ne_ri e_co e_ce
  have n_ce_cr : ce ≠ cr := ne_len e_cr e_ce (by decide)
  have n_ce_xb : ce ≠ xb := ne_ri e_xb e_ce
  have n_co_xb : co ≠ xb := ne_rr e_xb e_co (by decide)
  have n_cr_xb : cr ≠ xb := ne_ri e_xb e_cr
  have fr : ∀ b, b ∈ L → b ≠ xb → b ≠ dr → b ≠ drr → b ≠ ri → b ≠ rir → b ≠ th → b ≠ thr → b ≠ h → b ≠ ce → b ≠ co → b ≠ cr → f b = f b := fun _ _ _ _ _ _ _ _ _ _ _ _ _ => rfl
  have mono : ∀ b, b ∈ L → b ∈ L := fun _ h => h
  unfold mX8_layeredE at hM
  refine W_gen (fun QQ hQQ => ?_)
  refine lv_aload_n hx hb dX8_layered_0 rfl (lv_at hl 0 rfl) ?_
  refine lv_iload_n hx hb dX8_layered_1 rfl (lv_at hl 1 rfl) ?_
  refine q_vq (As := [.int wi]) (rest := []) ⟨hx, hb, hml, hown, hts⟩ (k_X8_worldAt l D g m_xb e_xb m_wo e_wo hw2) (cwV 1 hts gX8_layered_X8_worldAt rfl rfl rfl (by decide +kernel) ⟨Nat.le_of_ble_eq_true rfl, Nat.le_of_ble_eq_true rfl⟩) S m_xb e_xb (T := TX8) (N := 8) rfl rfl hl.1 rfl (Nat.le_of_ble_eq_true rfl) dX8_layered_2 ⟨Nat.le_of_ble_eq_true rfl, Nat.le_of_ble_eq_true rfl⟩ (fun r3 L1 f2 H locs S w2 => ?_)
  obtain ⟨ex, eL, ef⟩ := w2
  rw [eL, ef] at S
  replace ex := ex.symm
  subst ex
  refine W.eq (g2 := F0 m 5 ls [.ref wb]) rfl ?_
  refine lv_astore (lv' := [(4, .ref wb), (0, .ref xb), (1, .int wi), (2, .int wa), (3, .int sd_)]) hx hb dX8_layered_5 hl (by decide) rfl (fun ls hl => ?_)
  refine lv_aload_n hx hb dX8_layered_7 rfl (lv_at hl 1 rfl) ?_
  refine lv_iload_n hx hb dX8_layered_8 rfl (lv_at hl 3 rfl) ?_
  refine q_vq (As := [.int wa]) (rest := []) ⟨hx, hb, hml, hown, hts⟩ (k_X8_worldAt l D g m_xb e_xb m_wo e_wo hw9) (cwV 1 hts gX8_layered_X8_worldAt rfl rfl rfl (by decide +kernel) ⟨Nat.le_of_ble_eq_true rfl, Nat.le_of_ble_eq_true rfl⟩) S m_xb e_xb (T := TX8) (N := 8) rfl rfl hl.1 rfl (Nat.le_of_ble_eq_true rfl) dX8_layered_9 ⟨Nat.le_of_ble_eq_true rfl, Nat.le_of_ble_eq_true rfl⟩ (fun r6 L4 f5 H locs S w9 => ?_)
  obtain ⟨ex, eL, ef⟩ := w9
  rw [eL, ef] at S
  replace ex := ex.symm
  subst ex
  refine W.eq (g2 := F0 m 12 ls [.ref ub]) rfl ?_
  refine lv_astore (lv' := [(5, .ref ub), (4, .ref wb), (0, .ref xb), (1, .int wi), (2, .int wa), (3, .int sd_)]) hx hb dX8_layered_12 hl (by decide) rfl (fun ls hl => ?_)
  refine lv_aload hx hb dX8_layered_14 (lv_at hl 1 rfl) ?_
  refine lv_ifnull hx hb dX8_layered_16 ?_
  refine lv_aload hx hb dX8_layered_19 (lv_at hl 0 rfl) ?_
  refine lv_ifnonnull (tgt := 26) hx hb dX8_layered_21 (by decide) ?_
  refine lv_aload_n hx hb dX8_layered_26 rfl (lv_at hl 2 rfl) ?_
  obtain ⟨z27, hz27, hM⟩ := bind_some hM
  refine q_vq (As := []) (rest := []) ⟨hx, hb, hml, hown, hts⟩ (k_X8_nextSlotE l D g m_xb e_xb m_Sl e_Sl hF_h hz27) (cwV 0 hts gX8_layered_X8_nextSlot rfl rfl rfl (by decide +kernel) ⟨Nat.le_of_ble_eq_true rfl, Nat.le_of_ble_eq_true rfl⟩) S m_xb e_xb (T := TX8) (N := 8) rfl rfl hl.1 rfl (Nat.le_of_ble_eq_true rfl) dX8_layered_27 ⟨Nat.le_of_ble_eq_true rfl, Nat.le_of_ble_eq_true rfl⟩ (fun r9 L7 f8 H locs S w27 => ?_)
  obtain ⟨ex27, eL, ef⟩ := w27
  rw [eL, ef] at S
  replace ex27 := ex27.symm
  subst ex27
  refine W.eq (g2 := F0 m 30 ls [.ref h]) rfl ?_
  refine lv_astore (lv' := [(6, .ref h), (5, .ref ub), (4, .ref wb), (0, .ref xb), (1, .int wi), (2, .int wa), (3, .int sd_)]) hx hb dX8_layered_30 hl (by decide) rfl (fun ls hl => ?_)
  refine lv_aload hx hb dX8_layered_32 (lv_at hl 0 rfl) ?_
  refine lv_ifnonnull (tgt := 40) hx hb dX8_layered_34 (by decide) ?_
  refine lv_aload_n hx hb dX8_layered_40 rfl (lv_at hl 3 rfl) ?_
  refine q_get hx hb hts in_X8 hown S m_xb e_xb (C := RX8) (T := TX8) (N := 8) rfl 2 (by decide) rfl (hts (.fieldLink RX8 22 "SieveCabinet" "draft" "LSieveCabinet$Bag;") (gu_wsX8_layered_1 _ gm_0)) dX8_layered_41 ?_
  refine lv_aload hx hb dX8_layered_44 (lv_at hl 2 rfl) ?_
  obtain ⟨z46, hz46, hM⟩ := bind_some hM
  refine q_vv (As := [.ref wb]) (rest := []) ⟨hx, hb, hml, hown, hts⟩ (k_X0_copyFrom l D g m_dr e_dr m_drr e_drr m_wb e_wb m_wr e_wr hz46) (cwV 1 hts gX8_layered_X0_copyFrom rfl rfl rfl (by decide +kernel) ⟨Nat.le_of_ble_eq_true rfl, Nat.le_of_ble_eq_true rfl⟩) S m_dr e_dr (T := TX0) (N := 2) rfl rfl hl.1 rfl (Nat.le_of_ble_eq_true rfl) dX8_layered_46 ⟨Nat.le_of_ble_eq_true rfl, Nat.le_of_ble_eq_true rfl⟩ (fun L10 f11 H locs S w46 => ?_)
  obtain ⟨eL, fv46, E_dr, E_drr⟩ := w46
  rw [eL] at S
  have fr : ∀ b, b ∈ L → b ≠ xb → b ≠ dr → b ≠ drr → b ≠ ri → b ≠ rir → b ≠ th → b ≠ thr → b ≠ h → b ≠ ce → b ≠ co → b ≠ cr → f11 b = f b := fun b mb nb0 nb1 nb2 nb3 nb4 nb5 nb6 nb7 nb8 nb9 nb10 => (fv46 b mb nb1 nb2).trans (fr b mb nb0 nb1 nb2 nb3 nb4 nb5 nb6 nb7 nb8 nb9 nb10)
  have e_dr : f11 dr = .inr (0, [.ref drr, .int z46.1]) := E_dr
  have e_drr : f11 drr = .inl (g 1, 1000, .inr (.inl z46.2)) := E_drr
  refine lv_aload_n hx hb dX8_layered_49 rfl (lv_at hl 3 rfl) ?_
  have e_xb := ((fv46 xb m_xb n_xb_dr n_xb_drr).trans e_xb)
  refine q_get hx hb hts in_X8 hown S m_xb e_xb (C := RX8) (T := TX8) (N := 8) rfl 3 (by decide) rfl (hts (.fieldLink RX8 26 "SieveCabinet" "rivals" "LSieveCabinet$Bag;") (gu_wsX8_layered_1 _ gm_1)) dX8_layered_50 ?_
  refine lv_aload hx hb dX8_layered_53 (lv_at hl 1 rfl) ?_
  refine lv_aload hx hb dX8_layered_55 (lv_at hl 2 rfl) ?_
  obtain ⟨z57, hz57, hM⟩ := bind_some hM
  have e_ri := ((fv46 ri m_ri n_ri_dr n_ri_drr).trans e_ri)
  have e_rir := ((fv46 rir m_rir n_rir_dr n_rir_drr).trans e_rir)
  have e_ub := ((fv46 ub m_ub n_ub_dr n_ub_drr).trans e_ub)
  have e_ur := ((fv46 ur m_ur n_ur_dr n_ur_drr).trans e_ur)
  have e_wb := ((fv46 wb m_wb n_wb_dr n_wb_drr).trans e_wb)
  have e_wr := ((fv46 wr m_wr n_wr_dr n_wr_drr).trans e_wr)
  refine q_vv (As := [.ref ub, .ref wb]) (rest := []) ⟨hx, hb, hml, hown, hts⟩ (k_X0_becomeWithout l D g m_ri e_ri m_rir e_rir m_ub e_ub m_ur e_ur m_wb e_wb m_wr e_wr n_ub_ri n_wb_ri n_ur_rir n_wr_rir hz57) (cwV 2 hts gX8_layered_X0_becomeWithout rfl rfl rfl (by decide +kernel) ⟨Nat.le_of_ble_eq_true rfl, Nat.le_of_ble_eq_true rfl⟩) S m_ri e_ri (T := TX0) (N := 2) rfl rfl hl.1 rfl (Nat.le_of_ble_eq_true rfl) dX8_layered_57 ⟨Nat.le_of_ble_eq_true rfl, Nat.le_of_ble_eq_true rfl⟩ (fun L13 f14 H locs S w57 => ?_)
  obtain ⟨eL, fv57, E_ri, E_rir⟩ := w57
  rw [eL] at S
  have fr : ∀ b, b ∈ L → b ≠ xb → b ≠ dr → b ≠ drr → b ≠ ri → b ≠ rir → b ≠ th → b ≠ thr → b ≠ h → b ≠ ce → b ≠ co → b ≠ cr → f14 b = f b := fun b mb nb0 nb1 nb2 nb3 nb4 nb5 nb6 nb7 nb8 nb9 nb10 => (fv57 b mb nb3 nb4).trans (fr b mb nb0 nb1 nb2 nb3 nb4 nb5 nb6 nb7 nb8 nb9 nb10)
  have e_ri : f14 ri = .inr (0, [.ref rir, .int z57.1]) := E_ri
  have e_rir : f14 rir = .inl (g 1, 1000, .inr (.inl z57.2)) := E_rir
  refine lv_aload hx hb dX8_layered_60 (lv_at hl 0 rfl) ?_
  refine lv_aload_n hx hb dX8_layered_62 rfl (lv_at hl 3 rfl) ?_
  have e_xb := ((fv57 xb m_xb n_xb_ri n_xb_rir).trans e_xb)
  refine q_get hx hb hts in_X8 hown S m_xb e_xb (C := RX8) (T := TX8) (N := 8) rfl 2 (by decide) rfl (hts (.fieldLink RX8 22 "SieveCabinet" "draft" "LSieveCabinet$Bag;") (gu_wsX8_layered_1 _ gm_0)) dX8_layered_63 ?_
  refine lv_aload_n hx hb dX8_layered_66 rfl (lv_at hl 3 rfl) ?_
  refine q_get hx hb hts in_X8 hown S m_xb e_xb (C := RX8) (T := TX8) (N := 8) rfl 3 (by decide) rfl (hts (.fieldLink RX8 26 "SieveCabinet" "rivals" "LSieveCabinet$Bag;") (gu_wsX8_layered_1 _ gm_1)) dX8_layered_67 ?_
  refine lv_aload_n hx hb dX8_layered_70 rfl (lv_at hl 3 rfl) ?_
  refine q_get hx hb hts in_X8 hown S m_xb e_xb (C := RX8) (T := TX8) (N := 8) rfl 4 (by decide) rfl (hts (.fieldLink RX8 29 "SieveCabinet" "through" "LSieveCabinet$Bag;") (gu_wsX8_layered_1 _ gm_2)) dX8_layered_71 ?_
  refine lv_iload_n hx hb dX8_layered_74 rfl (lv_at hl 6 rfl) ?_
  obtain ⟨z75, hz75, hM⟩ := bind_some hM
  have e_h := ((fv57 h m_h n_h_ri n_h_rir).trans ((fv46 h m_h n_h_dr n_h_drr).trans e_h))
  have e_ce := ((fv57 ce m_ce n_ce_ri n_ce_rir).trans ((fv46 ce m_ce n_ce_dr n_ce_drr).trans e_ce))
  have e_co := ((fv57 co m_co n_co_ri n_co_rir).trans ((fv46 co m_co n_co_dr n_co_drr).trans e_co))
  have e_cr := ((fv57 cr m_cr n_cr_ri n_cr_rir).trans ((fv46 cr m_cr n_cr_dr n_cr_drr).trans e_cr))
  have e_dr := ((fv57 dr m_dr n_dr_ri n_dr_rir).trans e_dr)
  have e_drr := ((fv57 drr m_drr n_drr_ri n_drr_rir).trans e_drr)
  have e_th := ((fv57 th m_th n_th_ri n_th_rir).trans ((fv46 th m_th n_th_dr n_th_drr).trans e_th))
  have e_thr := ((fv57 thr m_thr n_thr_ri n_thr_rir).trans ((fv46 thr m_thr n_thr_dr n_thr_drr).trans e_thr))
  refine q_vv (As := [.ref dr, .ref ri, .ref th, .int sd_]) (rest := []) ⟨hx, hb, hml, hown, hts⟩ (k_X6_beginLayeredN l D g m_h e_h m_ce e_ce m_co e_co m_cr e_cr m_dr e_dr m_drr e_drr m_ri e_ri m_rir e_rir m_th e_th m_thr e_thr n_ri_th n_rir_thr n_dr_th n_drr_thr n_dr_ri n_drr_rir n_co_dr n_co_ri n_co_th hz75) (cwV 4 hts gX8_layered_X6_beginLayered rfl rfl rfl (by decide +kernel) ⟨Nat.le_of_ble_eq_true rfl, Nat.le_of_ble_eq_true rfl⟩) S m_h e_h (T := TX6) (N := 7) rfl rfl hl.1 rfl (Nat.le_of_ble_eq_true rfl) dX8_layered_75 ⟨Nat.le_of_ble_eq_true rfl, Nat.le_of_ble_eq_true rfl⟩ (fun L16 f17 H locs S w75 => ?_)
  refine W.widen (k := 45) (n := 2367) (by decide) (by decide) ?_
  obtain ⟨q8, ca, re, rr, ro, lb, lw, rf, mo, fv, E_h, E_ce, E_co, ⟨jk_dr_75, E_dr⟩, ⟨jk_drr_75, E_drr⟩, ⟨jk_ri_75, E_ri⟩, ⟨jk_rir_75, E_rir⟩, ⟨jk_th_75, E_th⟩, ⟨jk_thr_75, E_thr⟩, ⟨nq_q8, mq_q8, E_q8⟩, ⟨nq_ca, mq_ca, E_ca⟩, ⟨nq_re, mq_re, E_re⟩, ⟨nq_rr, mq_rr, E_rr⟩, ⟨nq_ro, mq_ro, E_ro⟩, ⟨e_fam, hdis, hnf⟩⟩ := w75
  have mono0 := mono
  have e_xb := (fv xb m_xb n_xb_h n_xb_ce n_xb_co n_xb_dr n_xb_drr n_xb_ri n_xb_rir n_xb_th n_xb_thr).trans e_xb
  have e_wo := ((fv57 wo m_wo n_wo_ri n_wo_rir).trans ((fv46 wo m_wo n_wo_dr n_wo_drr).trans e_wo))
  have e_wo := (fv wo m_wo n_wo_h n_wo_ce n_wo_co n_wo_dr n_wo_drr n_wo_ri n_wo_rir n_wo_th n_wo_thr).trans e_wo
  have e_wb := ((fv57 wb m_wb n_wb_ri n_wb_rir).trans e_wb)
  have e_wb := (fv wb m_wb n_wb_h n_wb_ce n_wb_co n_wb_dr n_wb_drr n_wb_ri n_wb_rir n_wb_th n_wb_thr).trans e_wb
  have e_wr := ((fv57 wr m_wr n_wr_ri n_wr_rir).trans e_wr)
  have e_wr := (fv wr m_wr n_wr_h n_wr_ce n_wr_co n_wr_dr n_wr_drr n_wr_ri n_wr_rir n_wr_th n_wr_thr).trans e_wr
  have e_ub := ((fv57 ub m_ub n_ub_ri n_ub_rir).trans e_ub)
  have e_ub := (fv ub m_ub n_ub_h n_ub_ce n_ub_co n_ub_dr n_ub_drr n_ub_ri n_ub_rir n_ub_th n_ub_thr).trans e_ub
  have e_ur := ((fv57 ur m_ur n_ur_ri n_ur_rir).trans e_ur)
  have e_ur := (fv ur m_ur n_ur_h n_ur_ce n_ur_co n_ur_dr n_ur_drr n_ur_ri n_ur_rir n_ur_th n_ur_thr).trans e_ur
  have e_Sl := ((fv57 Sl m_Sl n_Sl_ri n_Sl_rir).trans ((fv46 Sl m_Sl n_Sl_dr n_Sl_drr).trans e_Sl))
  have e_Sl := (fv Sl m_Sl n_Sl_h n_Sl_ce n_Sl_co n_Sl_dr n_Sl_drr n_Sl_ri n_Sl_rir n_Sl_th n_Sl_thr).trans e_Sl
  have e_cr := (fv cr m_cr n_cr_h n_cr_ce n_cr_co n_cr_dr n_cr_drr n_cr_ri n_cr_rir n_cr_th n_cr_thr).trans e_cr
  have fr : ∀ b, b ∈ L → b ≠ xb → b ≠ dr → b ≠ drr → b ≠ ri → b ≠ rir → b ≠ th → b ≠ thr → b ≠ h → b ≠ ce → b ≠ co → b ≠ cr → f17 b = f b := fun b mb nb0 nb1 nb2 nb3 nb4 nb5 nb6 nb7 nb8 nb9 nb10 => (fv b (mono0 b mb) nb7 nb8 nb9 nb1 nb2 nb3 nb4 nb5 nb6).trans (fr b mb nb0 nb1 nb2 nb3 nb4 nb5 nb6 nb7 nb8 nb9 nb10)
  have n_xb_fam : ∀ j, j < 20 → xb ≠ lb j ∧ xb ≠ lw j := fun j hj => ⟨fun h => (hnf j hj).1 (h ▸ m_xb), fun h => (hnf j hj).2 (h ▸ m_xb)⟩
  have n_wo_fam : ∀ j, j < 20 → wo ≠ lb j ∧ wo ≠ lw j := fun j hj => ⟨fun h => (hnf j hj).1 (h ▸ m_wo), fun h => (hnf j hj).2 (h ▸ m_wo)⟩
  have n_wb_fam : ∀ j, j < 20 → wb ≠ lb j ∧ wb ≠ lw j := fun j hj => ⟨fun h => (hnf j hj).1 (h ▸ m_wb), fun h => (hnf j hj).2 (h ▸ m_wb)⟩
  have n_wr_fam : ∀ j, j < 20 → wr ≠ lb j ∧ wr ≠ lw j := fun j hj => ⟨fun h => (hnf j hj).1 (h ▸ m_wr), fun h => (hnf j hj).2 (h ▸ m_wr)⟩
  have n_ub_fam : ∀ j, j < 20 → ub ≠ lb j ∧ ub ≠ lw j := fun j hj => ⟨fun h => (hnf j hj).1 (h ▸ m_ub), fun h => (hnf j hj).2 (h ▸ m_ub)⟩
  have n_ur_fam : ∀ j, j < 20 → ur ≠ lb j ∧ ur ≠ lw j := fun j hj => ⟨fun h => (hnf j hj).1 (h ▸ m_ur), fun h => (hnf j hj).2 (h ▸ m_ur)⟩
  have n_Sl_fam : ∀ j, j < 20 → Sl ≠ lb j ∧ Sl ≠ lw j := fun j hj => ⟨fun h => (hnf j hj).1 (h ▸ m_Sl), fun h => (hnf j hj).2 (h ▸ m_Sl)⟩
  have n_dr_fam : ∀ j, j < 20 → dr ≠ lb j ∧ dr ≠ lw j := fun j hj => ⟨fun h => (hnf j hj).1 (h ▸ m_dr), fun h => (hnf j hj).2 (h ▸ m_dr)⟩
  have n_drr_fam : ∀ j, j < 20 → drr ≠ lb j ∧ drr ≠ lw j := fun j hj => ⟨fun h => (hnf j hj).1 (h ▸ m_drr), fun h => (hnf j hj).2 (h ▸ m_drr)⟩
  have n_ri_fam : ∀ j, j < 20 → ri ≠ lb j ∧ ri ≠ lw j := fun j hj => ⟨fun h => (hnf j hj).1 (h ▸ m_ri), fun h => (hnf j hj).2 (h ▸ m_ri)⟩
  have n_rir_fam : ∀ j, j < 20 → rir ≠ lb j ∧ rir ≠ lw j := fun j hj => ⟨fun h => (hnf j hj).1 (h ▸ m_rir), fun h => (hnf j hj).2 (h ▸ m_rir)⟩
  have n_th_fam : ∀ j, j < 20 → th ≠ lb j ∧ th ≠ lw j := fun j hj => ⟨fun h => (hnf j hj).1 (h ▸ m_th), fun h => (hnf j hj).2 (h ▸ m_th)⟩
  have n_thr_fam : ∀ j, j < 20 → thr ≠ lb j ∧ thr ≠ lw j := fun j hj => ⟨fun h => (hnf j hj).1 (h ▸ m_thr), fun h => (hnf j hj).2 (h ▸ m_thr)⟩
  have n_h_fam : ∀ j, j < 20 → h ≠ lb j ∧ h ≠ lw j := fun j hj => ⟨fun h => (hnf j hj).1 (h ▸ m_h), fun h => (hnf j hj).2 (h ▸ m_h)⟩
  have n_ce_fam : ∀ j, j < 20 → ce ≠ lb j ∧ ce ≠ lw j := fun j hj => ⟨fun h => (hnf j hj).1 (h ▸ m_ce), fun h => (hnf j hj).2 (h ▸ m_ce)⟩
  have n_co_fam : ∀ j, j < 20 → co ≠ lb j ∧ co ≠ lw j := fun j hj => ⟨fun h => (hnf j hj).1 (h ▸ m_co), fun h => (hnf j hj).2 (h ▸ m_co)⟩
  have n_cr_fam : ∀ j, j < 20 → cr ≠ lb j ∧ cr ≠ lw j := fun j hj => ⟨fun h => (hnf j hj).1 (h ▸ m_cr), fun h => (hnf j hj).2 (h ▸ m_cr)⟩
  have n_xb_q8 : xb ≠ q8 := fun h => nq_q8 (h ▸ m_xb)
  have n_q8_xb : q8 ≠ xb := Ne.symm n_xb_q8
  have n_xb_ca : xb ≠ ca := fun h => nq_ca (h ▸ m_xb)
  have n_ca_xb : ca ≠ xb := Ne.symm n_xb_ca
  have n_xb_re : xb ≠ re := fun h => nq_re (h ▸ m_xb)
  have n_re_xb : re ≠ xb := Ne.symm n_xb_re
  have n_xb_rr : xb ≠ rr := fun h => nq_rr (h ▸ m_xb)
  have n_rr_xb : rr ≠ xb := Ne.symm n_xb_rr
  have n_xb_ro : xb ≠ ro := fun h => nq_ro (h ▸ m_xb)
  have n_ro_xb : ro ≠ xb := Ne.symm n_xb_ro
  have n_wo_q8 : wo ≠ q8 := fun h => nq_q8 (h ▸ m_wo)
  have n_q8_wo : q8 ≠ wo := Ne.symm n_wo_q8
  have n_wo_ca : wo ≠ ca := fun h => nq_ca (h ▸ m_wo)
  have n_ca_wo : ca ≠ wo := Ne.symm n_wo_ca
  have n_wo_re : wo ≠ re := fun h => nq_re (h ▸ m_wo)
  have n_re_wo : re ≠ wo := Ne.symm n_wo_re
  have n_wo_rr : wo ≠ rr := fun h => nq_rr (h ▸ m_wo)
  have n_rr_wo : rr ≠ wo := Ne.symm n_wo_rr
  have n_wo_ro : wo ≠ ro := fun h => nq_ro (h ▸ m_wo)
  have n_ro_wo : ro ≠ wo := Ne.symm n_wo_ro
  have n_wb_q8 : wb ≠ q8 := fun h => nq_q8 (h ▸ m_wb)
  have n_q8_wb : q8 ≠ wb := Ne.symm n_wb_q8
  have n_wb_ca : wb ≠ ca := fun h => nq_ca (h ▸ m_wb)
  have n_ca_wb : ca ≠ wb := Ne.symm n_wb_ca
  have n_wb_re : wb ≠ re := fun h => nq_re (h ▸ m_wb)
  have n_re_wb : re ≠ wb := Ne.symm n_wb_re
  have n_wb_rr : wb ≠ rr := fun h => nq_rr (h ▸ m_wb)
  have n_rr_wb : rr ≠ wb := Ne.symm n_wb_rr
  have n_wb_ro : wb ≠ ro := fun h => nq_ro (h ▸ m_wb)
  have n_ro_wb : ro ≠ wb := Ne.symm n_wb_ro
  have n_wr_q8 : wr ≠ q8 := fun h => nq_q8 (h ▸ m_wr)
  have n_q8_wr : q8 ≠ wr := Ne.symm n_wr_q8
  have n_wr_ca : wr ≠ ca := fun h => nq_ca (h ▸ m_wr)
  have n_ca_wr : ca ≠ wr := Ne.symm n_wr_ca
  have n_wr_re : wr ≠ re := fun h => nq_re (h ▸ m_wr)
  have n_re_wr : re ≠ wr := Ne.symm n_wr_re
  have n_wr_rr : wr ≠ rr := fun h => nq_rr (h ▸ m_wr)
  have n_rr_wr : rr ≠ wr := Ne.symm n_wr_rr
  have n_wr_ro : wr ≠ ro := fun h => nq_ro (h ▸ m_wr)
  have n_ro_wr : ro ≠ wr := Ne.symm n_wr_ro
  have n_ub_q8 : ub ≠ q8 := fun h => nq_q8 (h ▸ m_ub)
  have n_q8_ub : q8 ≠ ub := Ne.symm n_ub_q8
  have n_ub_ca : ub ≠ ca := fun h => nq_ca (h ▸ m_ub)
  have n_ca_ub : ca ≠ ub := Ne.symm n_ub_ca
  have n_ub_re : ub ≠ re := fun h => nq_re (h ▸ m_ub)
  have n_re_ub : re ≠ ub := Ne.symm n_ub_re
  have n_ub_rr : ub ≠ rr := fun h => nq_rr (h ▸ m_ub)
  have n_rr_ub : rr ≠ ub := Ne.symm n_ub_rr
  have n_ub_ro : ub ≠ ro := fun h => nq_ro (h ▸ m_ub)
  have n_ro_ub : ro ≠ ub := Ne.symm n_ub_ro
  have n_ur_q8 : ur ≠ q8 := fun h => nq_q8 (h ▸ m_ur)
  have n_q8_ur : q8 ≠ ur := Ne.symm n_ur_q8
  have n_ur_ca : ur ≠ ca := fun h => nq_ca (h ▸ m_ur)
  have n_ca_ur : ca ≠ ur := Ne.symm n_ur_ca
  have n_ur_re : ur ≠ re := fun h => nq_re (h ▸ m_ur)
  have n_re_ur : re ≠ ur := Ne.symm n_ur_re
  have n_ur_rr : ur ≠ rr := fun h => nq_rr (h ▸ m_ur)
  have n_rr_ur : rr ≠ ur := Ne.symm n_ur_rr
  have n_ur_ro : ur ≠ ro := fun h => nq_ro (h ▸ m_ur)
  have n_ro_ur : ro ≠ ur := Ne.symm n_ur_ro
  have n_Sl_q8 : Sl ≠ q8 := fun h => nq_q8 (h ▸ m_Sl)
  have n_q8_Sl : q8 ≠ Sl := Ne.symm n_Sl_q8
  have n_Sl_ca : Sl ≠ ca := fun h => nq_ca (h ▸ m_Sl)
  have n_ca_Sl : ca ≠ Sl := Ne.symm n_Sl_ca
  have n_Sl_re : Sl ≠ re := fun h => nq_re (h ▸ m_Sl)
  have n_re_Sl : re ≠ Sl := Ne.symm n_Sl_re
  have n_Sl_rr : Sl ≠ rr := fun h => nq_rr (h ▸ m_Sl)
  have n_rr_Sl : rr ≠ Sl := Ne.symm n_Sl_rr
  have n_Sl_ro : Sl ≠ ro := fun h => nq_ro (h ▸ m_Sl)
  have n_ro_Sl : ro ≠ Sl := Ne.symm n_Sl_ro
  have n_dr_q8 : dr ≠ q8 := fun h => nq_q8 (h ▸ m_dr)
  have n_q8_dr : q8 ≠ dr := Ne.symm n_dr_q8
  have n_dr_ca : dr ≠ ca := fun h => nq_ca (h ▸ m_dr)
  have n_ca_dr : ca ≠ dr := Ne.symm n_dr_ca
  have n_dr_re : dr ≠ re := fun h => nq_re (h ▸ m_dr)
  have n_re_dr : re ≠ dr := Ne.symm n_dr_re
  have n_dr_rr : dr ≠ rr := fun h => nq_rr (h ▸ m_dr)
  have n_rr_dr : rr ≠ dr := Ne.symm n_dr_rr
  have n_dr_ro : dr ≠ ro := fun h => nq_ro (h ▸ m_dr)
  have n_ro_dr : ro ≠ dr := Ne.symm n_dr_ro
  have n_drr_q8 : drr ≠ q8 := fun h => nq_q8 (h ▸ m_drr)
  have n_q8_drr : q8 ≠ drr := Ne.symm n_drr_q8
  have n_drr_ca : drr ≠ ca := fun h => nq_ca (h ▸ m_drr)
  have n_ca_drr : ca ≠ drr := Ne.symm n_drr_ca
  have n_drr_re : drr ≠ re := fun h => nq_re (h ▸ m_drr)
  have n_re_drr : re ≠ drr := Ne.symm n_drr_re
  have n_drr_rr : drr ≠ rr := fun h => nq_rr (h ▸ m_drr)
  have n_rr_drr : rr ≠ drr := Ne.symm n_drr_rr
  have n_drr_ro : drr ≠ ro := fun h => nq_ro (h ▸ m_drr)
  have n_ro_drr : ro ≠ drr := Ne.symm n_drr_ro
  have n_ri_q8 : ri ≠ q8 := fun h => nq_q8 (h ▸ m_ri)
  have n_q8_ri : q8 ≠ ri := Ne.symm n_ri_q8
  have n_ri_ca : ri ≠ ca := fun h => nq_ca (h ▸ m_ri)
  have n_ca_ri : ca ≠ ri := Ne.symm n_ri_ca
  have n_ri_re : ri ≠ re := fun h => nq_re (h ▸ m_ri)
  have n_re_ri : re ≠ ri := Ne.symm n_ri_re
  have n_ri_rr : ri ≠ rr := fun h => nq_rr (h ▸ m_ri)
  have n_rr_ri : rr ≠ ri := Ne.symm n_ri_rr
  have n_ri_ro : ri ≠ ro := fun h => nq_ro (h ▸ m_ri)
  have n_ro_ri : ro ≠ ri := Ne.symm n_ri_ro
  have n_rir_q8 : rir ≠ q8 := fun h => nq_q8 (h ▸ m_rir)
  have n_q8_rir : q8 ≠ rir := Ne.symm n_rir_q8
  have n_rir_ca : rir ≠ ca := fun h => nq_ca (h ▸ m_rir)
  have n_ca_rir : ca ≠ rir := Ne.symm n_rir_ca
  have n_rir_re : rir ≠ re := fun h => nq_re (h ▸ m_rir)
  have n_re_rir : re ≠ rir := Ne.symm n_rir_re
  have n_rir_rr : rir ≠ rr := fun h => nq_rr (h ▸ m_rir)
  have n_rr_rir : rr ≠ rir := Ne.symm n_rir_rr
  have n_rir_ro : rir ≠ ro := fun h => nq_ro (h ▸ m_rir)
  have n_ro_rir : ro ≠ rir := Ne.symm n_rir_ro
  have n_th_q8 : th ≠ q8 := fun h => nq_q8 (h ▸ m_th)
  have n_q8_th : q8 ≠ th := Ne.symm n_th_q8
  have n_th_ca : th ≠ ca := fun h => nq_ca (h ▸ m_th)
  have n_ca_th : ca ≠ th := Ne.symm n_th_ca
  have n_th_re : th ≠ re := fun h => nq_re (h ▸ m_th)
  have n_re_th : re ≠ th := Ne.symm n_th_re
  have n_th_rr : th ≠ rr := fun h => nq_rr (h ▸ m_th)
  have n_rr_th : rr ≠ th := Ne.symm n_th_rr
  have n_th_ro : th ≠ ro := fun h => nq_ro (h ▸ m_th)
  have n_ro_th : ro ≠ th := Ne.symm n_th_ro
  have n_thr_q8 : thr ≠ q8 := fun h => nq_q8 (h ▸ m_thr)
  have n_q8_thr : q8 ≠ thr := Ne.symm n_thr_q8
  have n_thr_ca : thr ≠ ca := fun h => nq_ca (h ▸ m_thr)
  have n_ca_thr : ca ≠ thr := Ne.symm n_thr_ca
  have n_thr_re : thr ≠ re := fun h => nq_re (h ▸ m_thr)
  have n_re_thr : re ≠ thr := Ne.symm n_thr_re
  have n_thr_rr : thr ≠ rr := fun h => nq_rr (h ▸ m_thr)
  have n_rr_thr : rr ≠ thr := Ne.symm n_thr_rr
  have n_thr_ro : thr ≠ ro := fun h => nq_ro (h ▸ m_thr)
  have n_ro_thr : ro ≠ thr := Ne.symm n_thr_ro
  have n_h_q8 : h ≠ q8 := fun h => nq_q8 (h ▸ m_h)
  have n_q8_h : q8 ≠ h := Ne.symm n_h_q8
  have n_h_ca : h ≠ ca := fun h => nq_ca (h ▸ m_h)
  have n_ca_h : ca ≠ h := Ne.symm n_h_ca
  have n_h_re : h ≠ re := fun h => nq_re (h ▸ m_h)
  have n_re_h : re ≠ h := Ne.symm n_h_re
  have n_h_rr : h ≠ rr := fun h => nq_rr (h ▸ m_h)
  have n_rr_h : rr ≠ h := Ne.symm n_h_rr
  have n_h_ro : h ≠ ro := fun h => nq_ro (h ▸ m_h)
  have n_ro_h : ro ≠ h := Ne.symm n_h_ro
  have n_ce_q8 : ce ≠ q8 := fun h => nq_q8 (h ▸ m_ce)
  have n_q8_ce : q8 ≠ ce := Ne.symm n_ce_q8
  have n_ce_ca : ce ≠ ca := fun h => nq_ca (h ▸ m_ce)
  have n_ca_ce : ca ≠ ce := Ne.symm n_ce_ca
  have n_ce_re : ce ≠ re := fun h => nq_re (h ▸ m_ce)
  have n_re_ce : re ≠ ce := Ne.symm n_ce_re
  have n_ce_rr : ce ≠ rr := fun h => nq_rr (h ▸ m_ce)
  have n_rr_ce : rr ≠ ce := Ne.symm n_ce_rr
  have n_ce_ro : ce ≠ ro := fun h => nq_ro (h ▸ m_ce)
  have n_ro_ce : ro ≠ ce := Ne.symm n_ce_ro
  have n_co_q8 : co ≠ q8 := fun h => nq_q8 (h ▸ m_co)
  have n_q8_co : q8 ≠ co := Ne.symm n_co_q8
  have n_co_ca : co ≠ ca := fun h => nq_ca (h ▸ m_co)
  have n_ca_co : ca ≠ co := Ne.symm n_co_ca
  have n_co_re : co ≠ re := fun h => nq_re (h ▸ m_co)
  have n_re_co : re ≠ co := Ne.symm n_co_re
  have n_co_rr : co ≠ rr := fun h => nq_rr (h ▸ m_co)
  have n_rr_co : rr ≠ co := Ne.symm n_co_rr
  have n_co_ro : co ≠ ro := fun h => nq_ro (h ▸ m_co)
  have n_ro_co : ro ≠ co := Ne.symm n_co_ro
  have n_cr_q8 : cr ≠ q8 := fun h => nq_q8 (h ▸ m_cr)
  have n_q8_cr : q8 ≠ cr := Ne.symm n_cr_q8
  have n_cr_ca : cr ≠ ca := fun h => nq_ca (h ▸ m_cr)
  have n_ca_cr : ca ≠ cr := Ne.symm n_cr_ca
  have n_cr_re : cr ≠ re := fun h => nq_re (h ▸ m_cr)
  have n_re_cr : re ≠ cr := Ne.symm n_cr_re
  have n_cr_rr : cr ≠ rr := fun h => nq_rr (h ▸ m_cr)
  have n_rr_cr : rr ≠ cr := Ne.symm n_cr_rr
  have n_cr_ro : cr ≠ ro := fun h => nq_ro (h ▸ m_cr)
  have n_ro_cr : ro ≠ cr := Ne.symm n_cr_ro
  have m_xb : xb ∈ L16 := mo xb m_xb
  have m_wo : wo ∈ L16 := mo wo m_wo
  have m_wb : wb ∈ L16 := mo wb m_wb
  have m_wr : wr ∈ L16 := mo wr m_wr
  have m_ub : ub ∈ L16 := mo ub m_ub
  have m_ur : ur ∈ L16 := mo ur m_ur
  have m_Sl : Sl ∈ L16 := mo Sl m_Sl
  have m_dr : dr ∈ L16 := mo dr m_dr
  have m_drr : drr ∈ L16 := mo drr m_drr
  have m_ri : ri ∈ L16 := mo ri m_ri
  have m_rir : rir ∈ L16 := mo rir m_rir
  have m_th : th ∈ L16 := mo th m_th
  have m_thr : thr ∈ L16 := mo thr m_thr
  have m_h : h ∈ L16 := mo h m_h
  have m_ce : ce ∈ L16 := mo ce m_ce
  have m_co : co ∈ L16 := mo co m_co
  have m_cr : cr ∈ L16 := mo cr m_cr
  have nz_q8 : q8 ∉ L := nq_q8
  have nz_ca : ca ∉ L := nq_ca
  have nz_re : re ∉ L := nq_re
  have nz_rr : rr ∉ L := nq_rr
  have nz_ro : ro ∉ L := nq_ro
  have mono : ∀ b, b ∈ L → b ∈ L16 := fun b h => mo b (mono0 b h)
  have m_q8 := mq_q8
  have m_ca := mq_ca
  have m_re := mq_re
  have m_rr := mq_rr
  have m_ro := mq_ro
  have e_h : f17 h = .inr (4, [.ref ce, .ref co, .ref q8, .int z75.1, .int z75.2.1, .int z75.2.2.1, .int z75.2.2.2.1]) := E_h
  have e_ce : f17 ce = .inl (g 0, 4096, .inl z75.2.2.2.2.1) := E_ce
  have e_co : f17 co = .inr (0, [.ref cr, .int z75.2.2.2.2.2.1]) := E_co
  have e_dr : f17 dr = .inr (0, [.ref drr, .int jk_dr_75]) := E_dr
  have e_drr : f17 drr = .inl (g 1, 1000, .inr (.inl jk_drr_75)) := E_drr
  have e_ri : f17 ri = .inr (0, [.ref rir, .int jk_ri_75]) := E_ri
  have e_rir : f17 rir = .inl (g 1, 1000, .inr (.inl jk_rir_75)) := E_rir
  have e_th : f17 th = .inr (0, [.ref thr, .int jk_th_75]) := E_th
  have e_thr : f17 thr = .inl (g 1, 1000, .inr (.inl jk_thr_75)) := E_thr
  have e_q8 : f17 q8 = .inr (3, [.ref ro, .ref ca, .ref re, .int z75.2.2.2.2.2.2.1, .int z75.2.2.2.2.2.2.2.1]) := E_q8
  have e_ca : f17 ca = .inl (g 0, 20, .inl z75.2.2.2.2.2.2.2.2.1) := E_ca
  have e_re : f17 re = .inr (0, [.ref rr, .int z75.2.2.2.2.2.2.2.2.2.1]) := E_re
  have e_rr : f17 rr = .inl (g 1, 1000, .inr (.inl z75.2.2.2.2.2.2.2.2.2.2.1)) := E_rr
  have e_ro : f17 ro = .inl (g 4, 20, .inr (.inr (.inr (.inr rf)))) := E_ro
  have n_ca_q8 : ca ≠ q8 := ne_ri e_q8 e_ca
  have n_re_q8 : re ≠ q8 := ne_rr e_q8 e_re (by decide)
  have n_rr_q8 : rr ≠ q8 := ne_ri e_q8 e_rr
  have n_ro_q8 : ro ≠ q8 := ne_ri e_q8 e_ro
  have n_q8_ca : q8 ≠ ca := ne_ir e_ca e_q8
  have n_re_ca : re ≠ ca := ne_ir e_ca e_re
  have n_rr_ca : rr ≠ ca := ne_len e_ca e_rr (by decide)
  have n_ro_ca : ro ≠ ca := ne_01 e_ca e_ro
  have n_q8_re : q8 ≠ re := ne_rr e_re e_q8 (by decide)
  have n_ca_re : ca ≠ re := ne_ri e_re e_ca
  have n_rr_re : rr ≠ re := ne_ri e_re e_rr
  have n_ro_re : ro ≠ re := ne_ri e_re e_ro
  have n_q8_rr : q8 ≠ rr := ne_ir e_rr e_q8
  have n_ca_rr : ca ≠ rr := ne_len e_rr e_ca (by decide)
  have n_re_rr : re ≠ rr := ne_ir e_rr e_re
  have n_ro_rr : ro ≠ rr := ne_len e_rr e_ro (by decide)
  have n_q8_ro : q8 ≠ ro := ne_ir e_ro e_q8
  have n_ca_ro : ca ≠ ro := ne_10 e_ro e_ca
  have n_re_ro : re ≠ ro := ne_ir e_ro e_re
  have n_rr_ro : rr ≠ ro := ne_len e_ro e_rr (by decide)
  have nz_fam : ∀ j, j < 20 → lb j ∉ L ∧ lw j ∉ L := fun j hj => ⟨fun h => (hnf j hj).1 (mono0 _ h), fun h => (hnf j hj).2 (mono0 _ h)⟩
  have n_q8_fam := fam_no e_fam e_q8 (by decide)
  have n_ca_fam := fam_na e_fam e_ca (by decide)
  have n_re_fam := fam_no e_fam e_re (by decide)
  have n_rr_fam := fam_na e_fam e_rr (by decide)
  have n_ro_fam := fam_na e_fam e_ro (by decide)
  have n_fam_xb := fam_sy n_xb_fam
  have n_fam_wo := fam_sy n_wo_fam
  have n_fam_wb := fam_sy n_wb_fam
  have n_fam_wr := fam_sy n_wr_fam
  have n_fam_ub := fam_sy n_ub_fam
  have n_fam_ur := fam_sy n_ur_fam
  have n_fam_Sl := fam_sy n_Sl_fam
  have n_fam_dr := fam_sy n_dr_fam
  have n_fam_drr := fam_sy n_drr_fam
  have n_fam_ri := fam_sy n_ri_fam
  have n_fam_rir := fam_sy n_rir_fam
  have n_fam_th := fam_sy n_th_fam
  have n_fam_thr := fam_sy n_thr_fam
  have n_fam_h := fam_sy n_h_fam
  have n_fam_ce := fam_sy n_ce_fam
  have n_fam_co := fam_sy n_co_fam
  have n_fam_cr := fam_sy n_cr_fam
  have n_fam_q8 := fam_sy n_q8_fam
  have n_fam_ca := fam_sy n_ca_fam
  have n_fam_re := fam_sy n_re_fam
  have n_fam_rr := fam_sy n_rr_fam
  have n_fam_ro := fam_sy n_ro_fam
  refine lv_aload hx hb dX8_layered_78 (lv_at hl 0 rfl) ?_
  refine q_getN hx hb hts in_X6 hown S m_h e_h (C := RX6) (T := TX6) (N := 7) rfl 1 (by decide) rfl (by decide) dX8_layered_80 ?_
  refine lv_aload hx hb dX8_layered_83 (lv_at hl 2 rfl) ?_
  obtain ⟨z85, hz85, hM⟩ := bind_some hM
  refine q_vv (As := [.ref wb]) (rest := []) ⟨hx, hb, hml, hown, hts⟩ (k_X0_copyFrom l D g m_co e_co m_cr e_cr m_wb e_wb m_wr e_wr hz85) (cwV 1 hts gX8_layered_X0_copyFrom rfl rfl rfl (by decide +kernel) ⟨Nat.le_of_ble_eq_true rfl, Nat.le_of_ble_eq_true rfl⟩) S m_co e_co (T := TX0) (N := 2) rfl rfl hl.1 rfl (Nat.le_of_ble_eq_true rfl) dX8_layered_85 ⟨Nat.le_of_ble_eq_true rfl, Nat.le_of_ble_eq_true rfl⟩ (fun L19 f20 H locs S w85 => ?_)
  obtain ⟨eL, fv85, E_co, E_cr⟩ := w85
  rw [eL] at S
  have fr : ∀ b, b ∈ L → b ≠ xb → b ≠ dr → b ≠ drr → b ≠ ri → b ≠ rir → b ≠ th → b ≠ thr → b ≠ h → b ≠ ce → b ≠ co → b ≠ cr → f20 b = f b := fun b mb nb0 nb1 nb2 nb3 nb4 nb5 nb6 nb7 nb8 nb9 nb10 => (fv85 b (mono b mb) nb9 nb10).trans (fr b mb nb0 nb1 nb2 nb3 nb4 nb5 nb6 nb7 nb8 nb9 nb10)
  have e_co : f20 co = .inr (0, [.ref cr, .int z85.1]) := E_co
  have e_cr : f20 cr = .inl (g 1, 1000, .inr (.inl z85.2)) := E_cr
  refine lv_aload_n hx hb dX8_layered_88 rfl (lv_at hl 3 rfl) ?_
  refine lv_dup hx hb dX8_layered_89 rfl ?_
  have e_xb := ((fv85 xb m_xb n_xb_co n_xb_cr).trans e_xb)
  refine q_get hx hb hts in_X8 hown S m_xb e_xb (C := RX8) (T := TX8) (N := 8) rfl 7 (by decide) rfl (hts (.fieldLink RX8 84 "SieveCabinet" "made" "I") (gu_wsX8_layered_1 _ gm_3)) dX8_layered_90 ?_
  refine lv_dup_x1 hx hb dX8_layered_93 rfl rfl ?_
  refine lv_iconst (v := (1 : Int32)) hx hb dX8_layered_94 (by decide) ?_
  refine lv_iadd hx hb dX8_layered_95 ?_
  refine k_put hx hb hts in_X8 tyX8 tyX8_ok nmX8 hown S m_xb e_xb (C := RX8) (T := TX8) (N := 8) rfl 7 (by decide) (hts (.fieldLink RX8 84 "SieveCabinet" "made" "I") (gu_wsX8_layered_1 _ gm_3)) rfl rfl rfl (Nat.le_of_ble_eq_true rfl) dX8_layered_96 (fun f22 ef22 H locs S => ?_)
  have e_xb : f22 xb = .inr (6, [.ref wo, .ref Sl, .ref dr, .ref ri, .ref th, .ref so, .ref ch, .int (md + (1 : Int32))]) := up_self ef22
  have fr : ∀ b, b ∈ L → b ≠ xb → b ≠ dr → b ≠ drr → b ≠ ri → b ≠ rir → b ≠ th → b ≠ thr → b ≠ h → b ≠ ce → b ≠ co → b ≠ cr → f22 b = f b := fun b mb nb0 nb1 nb2 nb3 nb4 nb5 nb6 nb7 nb8 nb9 nb10 => (up_ne ef22 nb0 rfl).trans (fr b mb nb0 nb1 nb2 nb3 nb4 nb5 nb6 nb7 nb8 nb9 nb10)
  have e_dr := (up_ne ef22 n_dr_xb ((fv85 dr m_dr n_dr_co n_dr_cr).trans e_dr))
  have e_drr := (up_ne ef22 n_drr_xb ((fv85 drr m_drr n_drr_co n_drr_cr).trans e_drr))
  have e_ri := (up_ne ef22 n_ri_xb ((fv85 ri m_ri n_ri_co n_ri_cr).trans e_ri))
  have e_rir := (up_ne ef22 n_rir_xb ((fv85 rir m_rir n_rir_co n_rir_cr).trans e_rir))
  have e_th := (up_ne ef22 n_th_xb ((fv85 th m_th n_th_co n_th_cr).trans e_th))
  have e_thr := (up_ne ef22 n_thr_xb ((fv85 thr m_thr n_thr_co n_thr_cr).trans e_thr))
  have e_h := (up_ne ef22 n_h_xb ((fv85 h m_h n_h_co n_h_cr).trans e_h))
  have e_ce := (up_ne ef22 n_ce_xb ((fv85 ce m_ce n_ce_co n_ce_cr).trans e_ce))
  have e_co := (up_ne ef22 n_co_xb e_co)
  have e_cr := (up_ne ef22 n_cr_xb e_cr)
  have e_q8 := (up_ne ef22 n_q8_xb ((fv85 q8 m_q8 n_q8_co n_q8_cr).trans e_q8))
  have e_ca := (up_ne ef22 n_ca_xb ((fv85 ca m_ca n_ca_co n_ca_cr).trans e_ca))
  have e_re := (up_ne ef22 n_re_xb ((fv85 re m_re n_re_co n_re_cr).trans e_re))
  have e_rr := (up_ne ef22 n_rr_xb ((fv85 rr m_rr n_rr_co n_rr_cr).trans e_rr))
  have e_ro := (up_ne ef22 n_ro_xb ((fv85 ro m_ro n_ro_co n_ro_cr).trans e_ro))
  have e_fam := (LF_up (LF_ext e_fam (fun j hj q1 q2 => ⟨fv85 (lb j) q1 (n_fam_co j hj).1 (n_fam_cr j hj).1, fv85 (lw j) q2 (n_fam_co j hj).2 (n_fam_cr j hj).2⟩)) ef22 n_fam_xb)
  subst hQQ
  exact q_reti (post := fun x L1 f1 => ∃ q8 : Nat, ∃ ca : Nat, ∃ re : Nat, ∃ rr : Nat, ∃ ro : Nat, ∃ lb lw : Nat → Nat, ∃ rf : Nat → Option Nat, x = z.1 ∧ (∀ b, b ∈ L → b ∈ L1) ∧ (∀ b, b ∈ L → b ≠ xb → b ≠ dr → b ≠ drr → b ≠ ri → b ≠ rir → b ≠ th → b ≠ thr → b ≠ h → b ≠ ce → b ≠ co → b ≠ cr → f1 b = f b) ∧ f1 xb = .inr (6, [.ref wo, .ref Sl, .ref dr, .ref ri, .ref th, .ref so, .ref ch, .int z.2.1]) ∧ (∃ j1 : Int32, f1 dr = .inr (0, [.ref drr, .int j1])) ∧ (∃ j0 : Nat → Int64, f1 drr = .inl (g 1, 1000, .inr (.inl j0))) ∧ (∃ j1 : Int32, f1 ri = .inr (0, [.ref rir, .int j1])) ∧ (∃ j0 : Nat → Int64, f1 rir = .inl (g 1, 1000, .inr (.inl j0))) ∧ (∃ j1 : Int32, f1 th = .inr (0, [.ref thr, .int j1])) ∧ (∃ j0 : Nat → Int64, f1 thr = .inl (g 1, 1000, .inr (.inl j0))) ∧ f1 h = .inr (4, [.ref ce, .ref co, .ref q8, .int z.2.2.1, .int z.2.2.2.1, .int z.2.2.2.2.1, .int z.2.2.2.2.2.1]) ∧ f1 ce = .inl (g 0, 4096, .inl z.2.2.2.2.2.2.1) ∧ f1 co = .inr (0, [.ref cr, .int z.2.2.2.2.2.2.2.1]) ∧ f1 cr = .inl (g 1, 1000, .inr (.inl z.2.2.2.2.2.2.2.2.1)) ∧ (q8 ∉ L ∧ q8 ∈ L1 ∧ f1 q8 = .inr (3, [.ref ro, .ref ca, .ref re, .int z.2.2.2.2.2.2.2.2.2.1, .int z.2.2.2.2.2.2.2.2.2.2.1])) ∧ (ca ∉ L ∧ ca ∈ L1 ∧ f1 ca = .inl (g 0, 20, .inl z.2.2.2.2.2.2.2.2.2.2.2.1)) ∧ (re ∉ L ∧ re ∈ L1 ∧ f1 re = .inr (0, [.ref rr, .int z.2.2.2.2.2.2.2.2.2.2.2.2.1])) ∧ (rr ∉ L ∧ rr ∈ L1 ∧ f1 rr = .inl (g 1, 1000, .inr (.inl z.2.2.2.2.2.2.2.2.2.2.2.2.2.1))) ∧ (ro ∉ L ∧ ro ∈ L1 ∧ f1 ro = .inl (g 4, 20, .inr (.inr (.inr (.inr rf))))) ∧ (LF g L1 f1 rf lb lw z.2.2.2.2.2.2.2.2.2.2.2.2.2.2.1 z.2.2.2.2.2.2.2.2.2.2.2.2.2.2.2 ∧ LD lb lw ∧ ∀ j, j < 20 → lb j ∉ L ∧ lw j ∉ L)) hx hb hr hlk S dX8_layered_99 (by decide) (by decide) (by have hz := Option.some.inj hM; subst hz; exact ⟨q8, ca, re, rr, ro, lb, lw, rf, rfl, mono, fr, e_xb, ⟨_, e_dr⟩, ⟨_, e_drr⟩, ⟨_, e_ri⟩, ⟨_, e_rir⟩, ⟨_, e_th⟩, ⟨_, e_thr⟩, e_h, e_ce, e_co, e_cr, ⟨nz_q8, m_q8, e_q8⟩, ⟨nz_ca, m_ca, e_ca⟩, ⟨nz_re, m_re, e_re⟩, ⟨nz_rr, m_rr, e_rr⟩, ⟨nz_ro, m_ro, e_ro⟩, ⟨e_fam, hdis, nz_fam⟩⟩)

def mX8_layeredF (md : Int32) (sd_ : Int32) (wn : Int32) (wv : Nat → Int64) (un : Int32) (uv : Nat → Int64) (dv : Nat → Int64) (riv : Nat → Int64) (thn : Int32) (thv : Nat → Int64) : Option (Int32 × Int32 × Int32 × Int32 × Int32 × Int32 × (Nat → Int32) × Int32 × (Nat → Int64) × Int32 × Int32 × (Nat → Int32) × Int32 × (Nat → Int64) × (Nat → Int32) × (Nat → Nat → Int64)) := (mX8_nextSlotF md).bind fun z27 => (mX0_copyFrom dv wn wv).bind fun z46 => (mX0_becomeWithout riv un uv wn wv).bind fun z57 => (mX6_beginLayeredN z27.2.2.2.2.1 z46.1 z46.2 z57.1 z57.2 thn thv sd_).bind fun z75 => (mX0_copyFrom z27.2.2.2.2.2.2 wn wv).bind fun z85 => some (md, (md + (1 : Int32)), z75.1, z75.2.1, z75.2.2.1, z75.2.2.2.1, z75.2.2.2.2.1, z85.1, z85.2, z75.2.2.2.2.2.2.1, z75.2.2.2.2.2.2.2.1, z75.2.2.2.2.2.2.2.2.1, z75.2.2.2.2.2.2.2.2.2.1, z75.2.2.2.2.2.2.2.2.2.2.1, z75.2.2.2.2.2.2.2.2.2.2.2.1, z75.2.2.2.2.2.2.2.2.2.2.2.2)
set_option maxHeartbeats 4000000 in
set_option maxRecDepth 100000 in
theorem k_X8_layeredF (l : Launch) (D : va_G) (g : Nat → ClassId) {L : List Nat} {f : Nat → va_E} {Sl ch dr drr ri rir so th thr ub ur wb wo wr xb : Nat} {md : Int32} {wf : Nat → Option Nat} {sf : Nat → Option Nat} {wi : Int32} {wa : Int32} {sd_ : Int32} {wn : Int32} {wv : Nat → Int64} {jw : Nat} {un : Int32} {uv : Nat → Int64} {ju : Nat} {dn : Int32} {dv : Nat → Int64} {rin : Int32} {riv : Nat → Int64} {thn : Int32} {thv : Nat → Int64} {ρ : Nat → Nat × Nat} {z : Int32 × Int32 × Int32 × Int32 × Int32 × Int32 × (Nat → Int32) × Int32 × (Nat → Int64) × Int32 × Int32 × (Nat → Int32) × Int32 × (Nat → Int64) × (Nat → Int32) × (Nat → Nat → Int64)} (m_xb : xb ∈ L) (e_xb : f xb = .inr (6, [.ref wo, .ref Sl, .ref dr, .ref ri, .ref th, .ref so, .ref ch, .int md])) (m_wo : wo ∈ L) (e_wo : f wo = .inl (g 3, 8, .inr (.inr (.inr (.inr wf))))) (m_wb : wb ∈ L) (e_wb : f wb = .inr (0, [.ref wr, .int wn])) (m_wr : wr ∈ L) (e_wr : f wr = .inl (g 1, 1000, .inr (.inl wv))) (m_ub : ub ∈ L) (e_ub : f ub = .inr (0, [.ref ur, .int un])) (m_ur : ur ∈ L) (e_ur : f ur = .inl (g 1, 1000, .inr (.inl uv))) (m_Sl : Sl ∈ L) (e_Sl : f Sl = .inl (g 5, 30, .inr (.inr (.inr (.inr sf))))) (m_dr : dr ∈ L) (e_dr : f dr = .inr (0, [.ref drr, .int dn])) (m_drr : drr ∈ L) (e_drr : f drr = .inl (g 1, 1000, .inr (.inl dv))) (m_ri : ri ∈ L) (e_ri : f ri = .inr (0, [.ref rir, .int rin])) (m_rir : rir ∈ L) (e_rir : f rir = .inl (g 1, 1000, .inr (.inl riv))) (m_th : th ∈ L) (e_th : f th = .inr (0, [.ref thr, .int thn])) (m_thr : thr ∈ L) (e_thr : f thr = .inl (g 1, 1000, .inr (.inl thv)))  (r_dr : ρ dr = (0, 3)) (r_drr : ρ drr = (0, 4)) (r_ri : ρ ri = (0, 5)) (r_rir : ρ rir = (0, 6)) (r_th : ρ th = (0, 7)) (r_thr : ρ thr = (0, 8)) (r_wb : ρ wb = (1 + 2 * jw, 0)) (r_wr : ρ wr = (1 + 2 * jw, 0)) (r_ub : ρ ub = (1 + 2 * ju, 0)) (r_ur : ρ ur = (1 + 2 * ju, 0)) (hF0 : sf (Int32.toNatClampNeg md) = none) (hw2 : mX8_worldAt wf wi = some (some wb)) (hw9 : mX8_worldAt wf wa = some (some ub)) (hM : mX8_layeredF md sd_ wn wv un uv dv riv thn thv = some z) : cI l yX8_layered wsX8_layered { frames := 6, cells := 49, slots := 7472, locals := 151 } D g [.ref xb, .int wi, .int wa, .int sd_] L f 49 7472 (fun x L1 f1 => ∃ q38 : Nat, ∃ ce : Nat, ∃ co : Nat, ∃ cr : Nat, ∃ q8 : Nat, ∃ ca : Nat, ∃ re : Nat, ∃ rr : Nat, ∃ ro : Nat, ∃ lb lw : Nat → Nat, ∃ rf : Nat → Option Nat, x = z.1 ∧ (∀ b, b ∈ L → b ∈ L1) ∧ (∀ b, b ∈ L → b ≠ xb → b ≠ Sl → b ≠ dr → b ≠ drr → b ≠ ri → b ≠ rir → b ≠ th → b ≠ thr → f1 b = f b) ∧ f1 xb = .inr (6, [.ref wo, .ref Sl, .ref dr, .ref ri, .ref th, .ref so, .ref ch, .int z.2.1]) ∧ f1 Sl = .inl (g 5, 30, .inr (.inr (.inr (.inr (va_up sf (Int32.toNatClampNeg md) (some q38)))))) ∧ (∃ j1 : Int32, f1 dr = .inr (0, [.ref drr, .int j1])) ∧ (∃ j0 : Nat → Int64, f1 drr = .inl (g 1, 1000, .inr (.inl j0))) ∧ (∃ j1 : Int32, f1 ri = .inr (0, [.ref rir, .int j1])) ∧ (∃ j0 : Nat → Int64, f1 rir = .inl (g 1, 1000, .inr (.inl j0))) ∧ (∃ j1 : Int32, f1 th = .inr (0, [.ref thr, .int j1])) ∧ (∃ j0 : Nat → Int64, f1 thr = .inl (g 1, 1000, .inr (.inl j0))) ∧ (q38 ∉ L ∧ q38 ∈ L1 ∧ f1 q38 = .inr (4, [.ref ce, .ref co, .ref q8, .int z.2.2.1, .int z.2.2.2.1, .int z.2.2.2.2.1, .int z.2.2.2.2.2.1])) ∧ (ce ∉ L ∧ ce ∈ L1 ∧ f1 ce = .inl (g 0, 4096, .inl z.2.2.2.2.2.2.1)) ∧ (co ∉ L ∧ co ∈ L1 ∧ f1 co = .inr (0, [.ref cr, .int z.2.2.2.2.2.2.2.1])) ∧ (cr ∉ L ∧ cr ∈ L1 ∧ f1 cr = .inl (g 1, 1000, .inr (.inl z.2.2.2.2.2.2.2.2.1))) ∧ (q8 ∉ L ∧ q8 ∈ L1 ∧ f1 q8 = .inr (3, [.ref ro, .ref ca, .ref re, .int z.2.2.2.2.2.2.2.2.2.1, .int z.2.2.2.2.2.2.2.2.2.2.1])) ∧ (ca ∉ L ∧ ca ∈ L1 ∧ f1 ca = .inl (g 0, 20, .inl z.2.2.2.2.2.2.2.2.2.2.2.1)) ∧ (re ∉ L ∧ re ∈ L1 ∧ f1 re = .inr (0, [.ref rr, .int z.2.2.2.2.2.2.2.2.2.2.2.2.1])) ∧ (rr ∉ L ∧ rr ∈ L1 ∧ f1 rr = .inl (g 1, 1000, .inr (.inl z.2.2.2.2.2.2.2.2.2.2.2.2.2.1))) ∧ (ro ∉ L ∧ ro ∈ L1 ∧ f1 ro = .inl (g 4, 20, .inr (.inr (.inr (.inr rf))))) ∧ (co ≠ re ∧ cr ≠ rr) ∧ (LF g L1 f1 rf lb lw z.2.2.2.2.2.2.2.2.2.2.2.2.2.2.1 z.2.2.2.2.2.2.2.2.2.2.2.2.2.2.2 ∧ LD lb lw ∧ ∀ j, j < 20 → lb j ∉ L ∧ lw j ∉ L)) := by
  refine cI_of (cc := cX8_layered) (maxL := 7) (ret := (some .int)) (by decide) rfl (Nat.le_of_ble_eq_true rfl) ?_
  intro szz p e s m below meth c hx hb hr hml hts hown hlk hnm S ls hl
  have hl : lv_has ls 7 [(0, .ref xb), (1, .int wi), (2, .int wa), (3, .int sd_)] := hl
  have in_X6 : ∀ w ∈ wsX60, w ∈ wsX8_layered := gu_wsX8_layered_10
  have in_X8 : ∀ w ∈ wsX80, w ∈ wsX8_layered := gu_wsX8_layered_9
  have n_xb_Sl : xb ≠ Sl := ne_ir e_Sl e_xb
  have n_wo_Sl : wo ≠ Sl := ne_len e_Sl e_wo (by decide)
  have n_wb_Sl : wb ≠ Sl := ne_ir e_Sl e_wb
  have n_wr_Sl : wr ≠ Sl := ne_len e_Sl e_wr (by decide)
  have n_ub_Sl : ub ≠ Sl := ne_ir e_Sl e_ub
  have n_ur_Sl : ur ≠ Sl := ne_len e_Sl e_ur (by decide)
  have n_dr_Sl : dr ≠ Sl := ne_ir e_Sl e_dr
  have n_drr_Sl : drr ≠ Sl := ne_len e_Sl e_drr (by decide)
  have n_ri_Sl : ri ≠ Sl := ne_ir e_Sl e_ri
  have n_rir_Sl : rir ≠ Sl := ne_len e_Sl e_rir (by decide)
  have n_th_Sl : th ≠ Sl := ne_ir e_Sl e_th
  have n_thr_Sl : thr ≠ Sl := ne_len e_Sl e_thr (by decide)
  have n_xb_dr : xb ≠ dr := ne_rr e_dr e_xb (by decide)
  have n_xb_drr : xb ≠ drr := ne_ir e_drr e_xb
  have n_ri_dr : ri ≠ dr := role_ne r_dr r_ri (by decide)
  have n_ri_drr : ri ≠ drr := ne_ir e_drr e_ri
  have n_rir_dr : rir ≠ dr := ne_ri e_dr e_rir
  have n_rir_drr : rir ≠ drr := role_ne r_drr r_rir (by decide)
  have n_ub_dr : ub ≠ dr := role_ne r_dr r_ub nr_w0
  have n_ub_drr : ub ≠ drr := ne_ir e_drr e_ub
  have n_ur_dr : ur ≠ dr := ne_ri e_dr e_ur
  have n_ur_drr : ur ≠ drr := role_ne r_drr r_ur nr_w0
  have n_wb_dr : wb ≠ dr := role_ne r_dr r_wb nr_w0
  have n_wb_drr : wb ≠ drr := ne_ir e_drr e_wb
  have n_wr_dr : wr ≠ dr := ne_ri e_dr e_wr
  have n_wr_drr : wr ≠ drr := role_ne r_drr r_wr nr_w0
  have n_ub_ri : ub ≠ ri := role_ne r_ri r_ub nr_w0
  have n_wb_ri : wb ≠ ri := role_ne r_ri r_wb nr_w0
  have n_ur_rir : ur ≠ rir := role_ne r_rir r_ur nr_w0
  have n_wr_rir : wr ≠ rir := role_ne r_rir r_wr nr_w0
  have n_xb_ri : xb ≠ ri := ne_rr e_ri e_xb (by decide)
  have n_xb_rir : xb ≠ rir := ne_ir e_rir e_xb
  have n_dr_ri : dr ≠ ri := role_ne r_ri r_dr (by decide)
  have n_dr_rir : dr ≠ rir := ne_ir e_rir e_dr
  have n_drr_ri : drr ≠ ri := ne_ri e_ri e_drr
  have n_drr_rir : drr ≠ rir := role_ne r_rir r_drr (by decide)
  have n_th_dr : th ≠ dr := role_ne r_dr r_th (by decide)
  have n_th_drr : th ≠ drr := ne_ir e_drr e_th
  have n_th_ri : th ≠ ri := role_ne r_ri r_th (by decide)
  have n_th_rir : th ≠ rir := ne_ir e_rir e_th
  have n_thr_dr : thr ≠ dr := ne_ri e_dr e_thr
  have n_thr_drr : thr ≠ drr := role_ne r_drr r_thr (by decide)
  have n_thr_ri : thr ≠ ri := ne_ri e_ri e_thr
  have n_thr_rir : thr ≠ rir := role_ne r_rir r_thr (by decide)
  have n_ri_th : ri ≠ th := role_ne r_th r_ri (by decide)
  have n_rir_thr : rir ≠ thr := role_ne r_thr r_rir (by decide)
  have n_dr_th : dr ≠ th := role_ne r_th r_dr (by decide)
  have n_drr_thr : drr ≠ thr := role_ne r_thr r_drr (by decide)
  have n_xb_th : xb ≠ th := ne_rr e_th e_xb (by decide)
  have n_xb_thr : xb ≠ thr := ne_ir e_thr e_xb
  have n_wo_dr : wo ≠ dr := ne_ri e_dr e_wo
  have n_wo_drr : wo ≠ drr := ne_len e_drr e_wo (by decide)
  have n_wo_ri : wo ≠ ri := ne_ri e_ri e_wo
  have n_wo_rir : wo ≠ rir := ne_len e_rir e_wo (by decide)
  have n_wo_th : wo ≠ th := ne_ri e_th e_wo
  have n_wo_thr : wo ≠ thr := ne_len e_thr e_wo (by decide)
  have n_wb_rir : wb ≠ rir := ne_ir e_rir e_wb
  have n_wb_th : wb ≠ th := role_ne r_th r_wb nr_w0
  have n_wb_thr : wb ≠ thr := ne_ir e_thr e_wb
  have n_wr_ri : wr ≠ ri := ne_ri e_ri e_wr
  have n_wr_th : wr ≠ th := ne_ri e_th e_wr
  have n_wr_thr : wr ≠ thr := role_ne r_thr r_wr nr_w0
  have n_ub_rir : ub ≠ rir := ne_ir e_rir e_ub
  have n_ub_th : ub ≠ th := role_ne r_th r_ub nr_w0
  have n_ub_thr : ub ≠ thr := ne_ir e_thr e_ub
  have n_ur_ri : ur ≠ ri := ne_ri e_ri e_ur
  have n_ur_th : ur ≠ th := ne_ri e_th e_ur
  have n_ur_thr : ur ≠ thr := role_ne r_thr r_ur nr_w0
  have n_Sl_dr : Sl ≠ dr := ne_ri e_dr e_Sl
  have n_Sl_drr : Sl ≠ drr := ne_len e_drr e_Sl (by decide)
  have n_Sl_ri : Sl ≠ ri := ne_ri e_ri e_Sl
  have n_Sl_rir : Sl ≠ rir := ne_len e_rir e_Sl (by decide)
  have n_Sl_th : Sl ≠ th := ne_ri e_th e_Sl
  have n_Sl_thr : Sl ≠ thr := ne_len e_thr e_Sl (by decide)
  have n_Sl_xb : Sl ≠ xb := ne_ri e_xb e_Sl
  have n_dr_xb : dr ≠ xb := ne_rr e_xb e_dr (by decide)
  have n_drr_xb : drr ≠ xb := ne_ri e_xb e_drr
  have n_ri_xb : ri ≠ xb := ne_rr e_xb e_ri (by decide)
  have n_rir_xb : rir ≠ xb := ne_ri e_xb e_rir
  have n_th_xb : th ≠ xb := ne_rr e_xb e_th (by decide)
  have n_thr_xb : thr ≠ xb := ne_ri e_xb e_thr
  have fr : ∀ b, b ∈ L → b ≠ xb → b ≠ Sl → b ≠ dr → b ≠ drr → b ≠ ri → b ≠ rir → b ≠ th → b ≠ thr → f b = f b := fun _ _ _ _ _ _ _ _ _ _ => rfl
  have mono : ∀ b, b ∈ L → b ∈ L := fun _ h => h
  unfold mX8_layeredF at hM
  refine W_gen (fun QQ hQQ => ?_)
  refine lv_aload_n hx hb dX8_layered_0 rfl (lv_at hl 0 rfl) ?_
  refine lv_iload_n hx hb dX8_layered_1 rfl (lv_at hl 1 rfl) ?_
  refine q_vq (As := [.int wi]) (rest := []) ⟨hx, hb, hml, hown, hts⟩ (k_X8_worldAt l D g m_xb e_xb m_wo e_wo hw2) (cwV 1 hts gX8_layered_X8_worldAt rfl rfl rfl (by decide +kernel) ⟨Nat.le_of_ble_eq_true rfl, Nat.le_of_ble_eq_true rfl⟩) S m_xb e_xb (T := TX8) (N := 8) rfl rfl hl.1 rfl (Nat.le_of_ble_eq_true rfl) dX8_layered_2 ⟨Nat.le_of_ble_eq_true rfl, Nat.le_of_ble_eq_true rfl⟩ (fun r3 L1 f2 H locs S w2 => ?_)
  obtain ⟨ex, eL, ef⟩ := w2
  rw [eL, ef] at S
  replace ex := ex.symm
  subst ex
  refine W.eq (g2 := F0 m 5 ls [.ref wb]) rfl ?_
  refine lv_astore (lv' := [(4, .ref wb), (0, .ref xb), (1, .int wi), (2, .int wa), (3, .int sd_)]) hx hb dX8_layered_5 hl (by decide) rfl (fun ls hl => ?_)
  refine lv_aload_n hx hb dX8_layered_7 rfl (lv_at hl 1 rfl) ?_
  refine lv_iload_n hx hb dX8_layered_8 rfl (lv_at hl 3 rfl) ?_
  refine q_vq (As := [.int wa]) (rest := []) ⟨hx, hb, hml, hown, hts⟩ (k_X8_worldAt l D g m_xb e_xb m_wo e_wo hw9) (cwV 1 hts gX8_layered_X8_worldAt rfl rfl rfl (by decide +kernel) ⟨Nat.le_of_ble_eq_true rfl, Nat.le_of_ble_eq_true rfl⟩) S m_xb e_xb (T := TX8) (N := 8) rfl rfl hl.1 rfl (Nat.le_of_ble_eq_true rfl) dX8_layered_9 ⟨Nat.le_of_ble_eq_true rfl, Nat.le_of_ble_eq_true rfl⟩ (fun r6 L4 f5 H locs S w9 => ?_)
  obtain ⟨ex, eL, ef⟩ := w9
  rw [eL, ef] at S
  replace ex := ex.symm
  subst ex
  refine W.eq (g2 := F0 m 12 ls [.ref ub]) rfl ?_
  refine lv_astore (lv' := [(5, .ref ub), (4, .ref wb), (0, .ref xb), (1, .int wi), (2, .int wa), (3, .int sd_)]) hx hb dX8_layered_12 hl (by decide) rfl (fun ls hl => ?_)
  refine lv_aload hx hb dX8_layered_14 (lv_at hl 1 rfl) ?_
  refine lv_ifnull hx hb dX8_layered_16 ?_
  refine lv_aload hx hb dX8_layered_19 (lv_at hl 0 rfl) ?_
  refine lv_ifnonnull (tgt := 26) hx hb dX8_layered_21 (by decide) ?_
  refine lv_aload_n hx hb dX8_layered_26 rfl (lv_at hl 2 rfl) ?_
  obtain ⟨z27, hz27, hM⟩ := bind_some hM
  refine q_vq (As := []) (rest := []) ⟨hx, hb, hml, hown, hts⟩ (k_X8_nextSlotF l D g m_xb e_xb m_Sl e_Sl hF0 hz27) (cwV 0 hts gX8_layered_X8_nextSlot rfl rfl rfl (by decide +kernel) ⟨Nat.le_of_ble_eq_true rfl, Nat.le_of_ble_eq_true rfl⟩) S m_xb e_xb (T := TX8) (N := 8) rfl rfl hl.1 rfl (Nat.le_of_ble_eq_true rfl) dX8_layered_27 ⟨Nat.le_of_ble_eq_true rfl, Nat.le_of_ble_eq_true rfl⟩ (fun r9 L7 f8 H locs S w27 => ?_)
  refine W.widen (k := 4) (n := 5105) (by decide) (by decide) ?_
  obtain ⟨q38, ce, co, cr, ex27, mo, fv, E_Sl, ⟨nq_q38, mq_q38, E_q38⟩, ⟨nq_ce, mq_ce, E_ce⟩, ⟨nq_co, mq_co, E_co⟩, ⟨nq_cr, mq_cr, E_cr⟩⟩ := w27
  have mono0 := mono
  have e_xb := (fv xb m_xb n_xb_Sl).trans e_xb
  have e_wo := (fv wo m_wo n_wo_Sl).trans e_wo
  have e_wb := (fv wb m_wb n_wb_Sl).trans e_wb
  have e_wr := (fv wr m_wr n_wr_Sl).trans e_wr
  have e_ub := (fv ub m_ub n_ub_Sl).trans e_ub
  have e_ur := (fv ur m_ur n_ur_Sl).trans e_ur
  have e_dr := (fv dr m_dr n_dr_Sl).trans e_dr
  have e_drr := (fv drr m_drr n_drr_Sl).trans e_drr
  have e_ri := (fv ri m_ri n_ri_Sl).trans e_ri
  have e_rir := (fv rir m_rir n_rir_Sl).trans e_rir
  have e_th := (fv th m_th n_th_Sl).trans e_th
  have e_thr := (fv thr m_thr n_thr_Sl).trans e_thr
  have fr : ∀ b, b ∈ L → b ≠ xb → b ≠ Sl → b ≠ dr → b ≠ drr → b ≠ ri → b ≠ rir → b ≠ th → b ≠ thr → f8 b = f b := fun b mb nb0 nb1 nb2 nb3 nb4 nb5 nb6 nb7 => (fv b (mono0 b mb) nb1).trans (fr b mb nb0 nb1 nb2 nb3 nb4 nb5 nb6 nb7)
  have n_xb_q38 : xb ≠ q38 := fun h => nq_q38 (h ▸ m_xb)
  have n_q38_xb : q38 ≠ xb := Ne.symm n_xb_q38
  have n_xb_ce : xb ≠ ce := fun h => nq_ce (h ▸ m_xb)
  have n_ce_xb : ce ≠ xb := Ne.symm n_xb_ce
  have n_xb_co : xb ≠ co := fun h => nq_co (h ▸ m_xb)
  have n_co_xb : co ≠ xb := Ne.symm n_xb_co
  have n_xb_cr : xb ≠ cr := fun h => nq_cr (h ▸ m_xb)
  have n_cr_xb : cr ≠ xb := Ne.symm n_xb_cr
  have n_wo_q38 : wo ≠ q38 := fun h => nq_q38 (h ▸ m_wo)
  have n_q38_wo : q38 ≠ wo := Ne.symm n_wo_q38
  have n_wo_ce : wo ≠ ce := fun h => nq_ce (h ▸ m_wo)
  have n_ce_wo : ce ≠ wo := Ne.symm n_wo_ce
  have n_wo_co : wo ≠ co := fun h => nq_co (h ▸ m_wo)
  have n_co_wo : co ≠ wo := Ne.symm n_wo_co
  have n_wo_cr : wo ≠ cr := fun h => nq_cr (h ▸ m_wo)
  have n_cr_wo : cr ≠ wo := Ne.symm n_wo_cr
  have n_wb_q38 : wb ≠ q38 := fun h => nq_q38 (h ▸ m_wb)
  have n_q38_wb : q38 ≠ wb := Ne.symm n_wb_q38
  have n_wb_ce : wb ≠ ce := fun h => nq_ce (h ▸ m_wb)
  have n_ce_wb : ce ≠ wb := Ne.symm n_wb_ce
  have n_wb_co : wb ≠ co := fun h => nq_co (h ▸ m_wb)
  have n_co_wb : co ≠ wb := Ne.symm n_wb_co
  have n_wb_cr : wb ≠ cr := fun h => nq_cr (h ▸ m_wb)
  have n_cr_wb : cr ≠ wb := Ne.symm n_wb_cr
  have n_wr_q38 : wr ≠ q38 := fun h => nq_q38 (h ▸ m_wr)
  have n_q38_wr : q38 ≠ wr := Ne.symm n_wr_q38
  have n_wr_ce : wr ≠ ce := fun h => nq_ce (h ▸ m_wr)
  have n_ce_wr : ce ≠ wr := Ne.symm n_wr_ce
  have n_wr_co : wr ≠ co := fun h => nq_co (h ▸ m_wr)
  have n_co_wr : co ≠ wr := Ne.symm n_wr_co
  have n_wr_cr : wr ≠ cr := fun h => nq_cr (h ▸ m_wr)
  have n_cr_wr : cr ≠ wr := Ne.symm n_wr_cr
  have n_ub_q38 : ub ≠ q38 := fun h => nq_q38 (h ▸ m_ub)
  have n_q38_ub : q38 ≠ ub := Ne.symm n_ub_q38
  have n_ub_ce : ub ≠ ce := fun h => nq_ce (h ▸ m_ub)
  have n_ce_ub : ce ≠ ub := Ne.symm n_ub_ce
  have n_ub_co : ub ≠ co := fun h => nq_co (h ▸ m_ub)
  have n_co_ub : co ≠ ub := Ne.symm n_ub_co
  have n_ub_cr : ub ≠ cr := fun h => nq_cr (h ▸ m_ub)
  have n_cr_ub : cr ≠ ub := Ne.symm n_ub_cr
  have n_ur_q38 : ur ≠ q38 := fun h => nq_q38 (h ▸ m_ur)
  have n_q38_ur : q38 ≠ ur := Ne.symm n_ur_q38
  have n_ur_ce : ur ≠ ce := fun h => nq_ce (h ▸ m_ur)
  have n_ce_ur : ce ≠ ur := Ne.symm n_ur_ce
  have n_ur_co : ur ≠ co := fun h => nq_co (h ▸ m_ur)
  have n_co_ur : co ≠ ur := Ne.symm n_ur_co
  have n_ur_cr : ur ≠ cr := fun h => nq_cr (h ▸ m_ur)
  have n_cr_ur : cr ≠ ur := Ne.symm n_ur_cr
  have n_Sl_q38 : Sl ≠ q38 := fun h => nq_q38 (h ▸ m_Sl)
  have n_q38_Sl : q38 ≠ Sl := Ne.symm n_Sl_q38
  have n_Sl_ce : Sl ≠ ce := fun h => nq_ce (h ▸ m_Sl)
  have n_ce_Sl : ce ≠ Sl := Ne.symm n_Sl_ce
  have n_Sl_co : Sl ≠ co := fun h => nq_co (h ▸ m_Sl)
  have n_co_Sl : co ≠ Sl := Ne.symm n_Sl_co
  have n_Sl_cr : Sl ≠ cr := fun h => nq_cr (h ▸ m_Sl)
  have n_cr_Sl : cr ≠ Sl := Ne.symm n_Sl_cr
  have n_dr_q38 : dr ≠ q38 := fun h => nq_q38 (h ▸ m_dr)
  have n_q38_dr : q38 ≠ dr := Ne.symm n_dr_q38
  have n_dr_ce : dr ≠ ce := fun h => nq_ce (h ▸ m_dr)
  have n_ce_dr : ce ≠ dr := Ne.symm n_dr_ce
  have n_dr_co : dr ≠ co := fun h => nq_co (h ▸ m_dr)
  have n_co_dr : co ≠ dr := Ne.symm n_dr_co
  have n_dr_cr : dr ≠ cr := fun h => nq_cr (h ▸ m_dr)
  have n_cr_dr : cr ≠ dr := Ne.symm n_dr_cr
  have n_drr_q38 : drr ≠ q38 := fun h => nq_q38 (h ▸ m_drr)
  have n_q38_drr : q38 ≠ drr := Ne.symm n_drr_q38
  have n_drr_ce : drr ≠ ce := fun h => nq_ce (h ▸ m_drr)
  have n_ce_drr : ce ≠ drr := Ne.symm n_drr_ce
  have n_drr_co : drr ≠ co := fun h => nq_co (h ▸ m_drr)
  have n_co_drr : co ≠ drr := Ne.symm n_drr_co
  have n_drr_cr : drr ≠ cr := fun h => nq_cr (h ▸ m_drr)
  have n_cr_drr : cr ≠ drr := Ne.symm n_drr_cr
  have n_ri_q38 : ri ≠ q38 := fun h => nq_q38 (h ▸ m_ri)
  have n_q38_ri : q38 ≠ ri := Ne.symm n_ri_q38
  have n_ri_ce : ri ≠ ce := fun h => nq_ce (h ▸ m_ri)
  have n_ce_ri : ce ≠ ri := Ne.symm n_ri_ce
  have n_ri_co : ri ≠ co := fun h => nq_co (h ▸ m_ri)
  have n_co_ri : co ≠ ri := Ne.symm n_ri_co
  have n_ri_cr : ri ≠ cr := fun h => nq_cr (h ▸ m_ri)
  have n_cr_ri : cr ≠ ri := Ne.symm n_ri_cr
  have n_rir_q38 : rir ≠ q38 := fun h => nq_q38 (h ▸ m_rir)
  have n_q38_rir : q38 ≠ rir := Ne.symm n_rir_q38
  have n_rir_ce : rir ≠ ce := fun h => nq_ce (h ▸ m_rir)
  have n_ce_rir : ce ≠ rir := Ne.symm n_rir_ce
  have n_rir_co : rir ≠ co := fun h => nq_co (h ▸ m_rir)
  have n_co_rir : co ≠ rir := Ne.symm n_rir_co
  have n_rir_cr : rir ≠ cr := fun h => nq_cr (h ▸ m_rir)
  have n_cr_rir : cr ≠ rir := Ne.symm n_rir_cr
  have n_th_q38 : th ≠ q38 := fun h => nq_q38 (h ▸ m_th)
  have n_q38_th : q38 ≠ th := Ne.symm n_th_q38
  have n_th_ce : th ≠ ce := fun h => nq_ce (h ▸ m_th)
  have n_ce_th : ce ≠ th := Ne.symm n_th_ce
  have n_th_co : th ≠ co := fun h => nq_co (h ▸ m_th)
  have n_co_th : co ≠ th := Ne.symm n_th_co
  have n_th_cr : th ≠ cr := fun h => nq_cr (h ▸ m_th)
  have n_cr_th : cr ≠ th := Ne.symm n_th_cr
  have n_thr_q38 : thr ≠ q38 := fun h => nq_q38 (h ▸ m_thr)
  have n_q38_thr : q38 ≠ thr := Ne.symm n_thr_q38
  have n_thr_ce : thr ≠ ce := fun h => nq_ce (h ▸ m_thr)
  have n_ce_thr : ce ≠ thr := Ne.symm n_thr_ce
  have n_thr_co : thr ≠ co := fun h => nq_co (h ▸ m_thr)
  have n_co_thr : co ≠ thr := Ne.symm n_thr_co
  have n_thr_cr : thr ≠ cr := fun h => nq_cr (h ▸ m_thr)
  have n_cr_thr : cr ≠ thr := Ne.symm n_thr_cr
  have m_xb : xb ∈ L7 := mo xb m_xb
  have m_wo : wo ∈ L7 := mo wo m_wo
  have m_wb : wb ∈ L7 := mo wb m_wb
  have m_wr : wr ∈ L7 := mo wr m_wr
  have m_ub : ub ∈ L7 := mo ub m_ub
  have m_ur : ur ∈ L7 := mo ur m_ur
  have m_Sl : Sl ∈ L7 := mo Sl m_Sl
  have m_dr : dr ∈ L7 := mo dr m_dr
  have m_drr : drr ∈ L7 := mo drr m_drr
  have m_ri : ri ∈ L7 := mo ri m_ri
  have m_rir : rir ∈ L7 := mo rir m_rir
  have m_th : th ∈ L7 := mo th m_th
  have m_thr : thr ∈ L7 := mo thr m_thr
  have nz_q38 : q38 ∉ L := nq_q38
  have nz_ce : ce ∉ L := nq_ce
  have nz_co : co ∉ L := nq_co
  have nz_cr : cr ∉ L := nq_cr
  have mono : ∀ b, b ∈ L → b ∈ L7 := fun b h => mo b (mono0 b h)
  have m_q38 := mq_q38
  have m_ce := mq_ce
  have m_co := mq_co
  have m_cr := mq_cr
  have e_Sl : f8 Sl = .inl (g 5, 30, .inr (.inr (.inr (.inr (va_up sf (Int32.toNatClampNeg md) (some q38)))))) := E_Sl
  have e_q38 : f8 q38 = .inr (4, [.ref ce, .ref co, .null, .int z27.1, .int z27.2.1, .int z27.2.2.1, .int z27.2.2.2.1]) := E_q38
  have e_ce : f8 ce = .inl (g 0, 4096, .inl z27.2.2.2.2.1) := E_ce
  have e_co : f8 co = .inr (0, [.ref cr, .int z27.2.2.2.2.2.1]) := E_co
  have e_cr : f8 cr = .inl (g 1, 1000, .inr (.inl z27.2.2.2.2.2.2)) := E_cr
  have n_ce_q38 : ce ≠ q38 := ne_ri e_q38 e_ce
  have n_co_q38 : co ≠ q38 := ne_rr e_q38 e_co (by decide)
  have n_cr_q38 : cr ≠ q38 := ne_ri e_q38 e_cr
  have n_q38_ce : q38 ≠ ce := ne_ir e_ce e_q38
  have n_co_ce : co ≠ ce := ne_ir e_ce e_co
  have n_cr_ce : cr ≠ ce := ne_len e_ce e_cr (by decide)
  have n_q38_co : q38 ≠ co := ne_rr e_co e_q38 (by decide)
  have n_ce_co : ce ≠ co := ne_ri e_co e_ce
  have n_cr_co : cr ≠ co := ne_ri e_co e_cr
  have n_q38_cr : q38 ≠ cr := ne_ir e_cr e_q38
  have n_ce_cr : ce ≠ cr := ne_len e_cr e_ce (by decide)
  have n_co_cr : co ≠ cr := ne_ir e_cr e_co
  replace ex27 := ex27.symm
  subst ex27
  refine W.eq (g2 := F0 m 30 ls [.ref q38]) rfl ?_
  refine lv_astore (lv' := [(6, .ref q38), (5, .ref ub), (4, .ref wb), (0, .ref xb), (1, .int wi), (2, .int wa), (3, .int sd_)]) hx hb dX8_layered_30 hl (by decide) rfl (fun ls hl => ?_)
  refine lv_aload hx hb dX8_layered_32 (lv_at hl 0 rfl) ?_
  refine lv_ifnonnull (tgt := 40) hx hb dX8_layered_34 (by decide) ?_
  refine lv_aload_n hx hb dX8_layered_40 rfl (lv_at hl 3 rfl) ?_
  refine q_get hx hb hts in_X8 hown S m_xb e_xb (C := RX8) (T := TX8) (N := 8) rfl 2 (by decide) rfl (hts (.fieldLink RX8 22 "SieveCabinet" "draft" "LSieveCabinet$Bag;") (gu_wsX8_layered_1 _ gm_0)) dX8_layered_41 ?_
  refine lv_aload hx hb dX8_layered_44 (lv_at hl 2 rfl) ?_
  obtain ⟨z46, hz46, hM⟩ := bind_some hM
  refine q_vv (As := [.ref wb]) (rest := []) ⟨hx, hb, hml, hown, hts⟩ (k_X0_copyFrom l D g m_dr e_dr m_drr e_drr m_wb e_wb m_wr e_wr hz46) (cwV 1 hts gX8_layered_X0_copyFrom rfl rfl rfl (by decide +kernel) ⟨Nat.le_of_ble_eq_true rfl, Nat.le_of_ble_eq_true rfl⟩) S m_dr e_dr (T := TX0) (N := 2) rfl rfl hl.1 rfl (Nat.le_of_ble_eq_true rfl) dX8_layered_46 ⟨Nat.le_of_ble_eq_true rfl, Nat.le_of_ble_eq_true rfl⟩ (fun L10 f11 H locs S w46 => ?_)
  obtain ⟨eL, fv46, E_dr, E_drr⟩ := w46
  rw [eL] at S
  have fr : ∀ b, b ∈ L → b ≠ xb → b ≠ Sl → b ≠ dr → b ≠ drr → b ≠ ri → b ≠ rir → b ≠ th → b ≠ thr → f11 b = f b := fun b mb nb0 nb1 nb2 nb3 nb4 nb5 nb6 nb7 => (fv46 b (mono b mb) nb2 nb3).trans (fr b mb nb0 nb1 nb2 nb3 nb4 nb5 nb6 nb7)
  have e_dr : f11 dr = .inr (0, [.ref drr, .int z46.1]) := E_dr
  have e_drr : f11 drr = .inl (g 1, 1000, .inr (.inl z46.2)) := E_drr
  refine lv_aload_n hx hb dX8_layered_49 rfl (lv_at hl 3 rfl) ?_
  have e_xb := ((fv46 xb m_xb n_xb_dr n_xb_drr).trans e_xb)
  refine q_get hx hb hts in_X8 hown S m_xb e_xb (C := RX8) (T := TX8) (N := 8) rfl 3 (by decide) rfl (hts (.fieldLink RX8 26 "SieveCabinet" "rivals" "LSieveCabinet$Bag;") (gu_wsX8_layered_1 _ gm_1)) dX8_layered_50 ?_
  refine lv_aload hx hb dX8_layered_53 (lv_at hl 1 rfl) ?_
  refine lv_aload hx hb dX8_layered_55 (lv_at hl 2 rfl) ?_
  obtain ⟨z57, hz57, hM⟩ := bind_some hM
  have e_ri := ((fv46 ri m_ri n_ri_dr n_ri_drr).trans e_ri)
  have e_rir := ((fv46 rir m_rir n_rir_dr n_rir_drr).trans e_rir)
  have e_ub := ((fv46 ub m_ub n_ub_dr n_ub_drr).trans e_ub)
  have e_ur := ((fv46 ur m_ur n_ur_dr n_ur_drr).trans e_ur)
  have e_wb := ((fv46 wb m_wb n_wb_dr n_wb_drr).trans e_wb)
  have e_wr := ((fv46 wr m_wr n_wr_dr n_wr_drr).trans e_wr)
  refine q_vv (As := [.ref ub, .ref wb]) (rest := []) ⟨hx, hb, hml, hown, hts⟩ (k_X0_becomeWithout l D g m_ri e_ri m_rir e_rir m_ub e_ub m_ur e_ur m_wb e_wb m_wr e_wr n_ub_ri n_wb_ri n_ur_rir n_wr_rir hz57) (cwV 2 hts gX8_layered_X0_becomeWithout rfl rfl rfl (by decide +kernel) ⟨Nat.le_of_ble_eq_true rfl, Nat.le_of_ble_eq_true rfl⟩) S m_ri e_ri (T := TX0) (N := 2) rfl rfl hl.1 rfl (Nat.le_of_ble_eq_true rfl) dX8_layered_57 ⟨Nat.le_of_ble_eq_true rfl, Nat.le_of_ble_eq_true rfl⟩ (fun L13 f14 H locs S w57 => ?_)
  obtain ⟨eL, fv57, E_ri, E_rir⟩ := w57
  rw [eL] at S
  have fr : ∀ b, b ∈ L → b ≠ xb → b ≠ Sl → b ≠ dr → b ≠ drr → b ≠ ri → b ≠ rir → b ≠ th → b ≠ thr → f14 b = f b := fun b mb nb0 nb1 nb2 nb3 nb4 nb5 nb6 nb7 => (fv57 b (mono b mb) nb4 nb5).trans (fr b mb nb0 nb1 nb2 nb3 nb4 nb5 nb6 nb7)
  have e_ri : f14 ri = .inr (0, [.ref rir, .int z57.1]) := E_ri
  have e_rir : f14 rir = .inl (g 1, 1000, .inr (.inl z57.2)) := E_rir
  refine lv_aload hx hb dX8_layered_60 (lv_at hl 0 rfl) ?_
  refine lv_aload_n hx hb dX8_layered_62 rfl (lv_at hl 3 rfl) ?_
  have e_xb := ((fv57 xb m_xb n_xb_ri n_xb_rir).trans e_xb)
  refine q_get hx hb hts in_X8 hown S m_xb e_xb (C := RX8) (T := TX8) (N := 8) rfl 2 (by decide) rfl (hts (.fieldLink RX8 22 "SieveCabinet" "draft" "LSieveCabinet$Bag;") (gu_wsX8_layered_1 _ gm_0)) dX8_layered_63 ?_
  refine lv_aload_n hx hb dX8_layered_66 rfl (lv_at hl 3 rfl) ?_
  refine q_get hx hb hts in_X8 hown S m_xb e_xb (C := RX8) (T := TX8) (N := 8) rfl 3 (by decide) rfl (hts (.fieldLink RX8 26 "SieveCabinet" "rivals" "LSieveCabinet$Bag;") (gu_wsX8_layered_1 _ gm_1)) dX8_layered_67 ?_
  refine lv_aload_n hx hb dX8_layered_70 rfl (lv_at hl 3 rfl) ?_
  refine q_get hx hb hts in_X8 hown S m_xb e_xb (C := RX8) (T := TX8) (N := 8) rfl 4 (by decide) rfl (hts (.fieldLink RX8 29 "SieveCabinet" "through" "LSieveCabinet$Bag;") (gu_wsX8_layered_1 _ gm_2)) dX8_layered_71 ?_
  refine lv_iload_n hx hb dX8_layered_74 rfl (lv_at hl 6 rfl) ?_
  obtain ⟨z75, hz75, hM⟩ := bind_some hM
  have e_q38 := ((fv57 q38 m_q38 n_q38_ri n_q38_rir).trans ((fv46 q38 m_q38 n_q38_dr n_q38_drr).trans e_q38))
  have e_ce := ((fv57 ce m_ce n_ce_ri n_ce_rir).trans ((fv46 ce m_ce n_ce_dr n_ce_drr).trans e_ce))
  have e_co := ((fv57 co m_co n_co_ri n_co_rir).trans ((fv46 co m_co n_co_dr n_co_drr).trans e_co))
  have e_cr := ((fv57 cr m_cr n_cr_ri n_cr_rir).trans ((fv46 cr m_cr n_cr_dr n_cr_drr).trans e_cr))
  have e_dr := ((fv57 dr m_dr n_dr_ri n_dr_rir).trans e_dr)
  have e_drr := ((fv57 drr m_drr n_drr_ri n_drr_rir).trans e_drr)
  have e_th := ((fv57 th m_th n_th_ri n_th_rir).trans ((fv46 th m_th n_th_dr n_th_drr).trans e_th))
  have e_thr := ((fv57 thr m_thr n_thr_ri n_thr_rir).trans ((fv46 thr m_thr n_thr_dr n_thr_drr).trans e_thr))
  refine q_vv (As := [.ref dr, .ref ri, .ref th, .int sd_]) (rest := []) ⟨hx, hb, hml, hown, hts⟩ (k_X6_beginLayeredN l D g m_q38 e_q38 m_ce e_ce m_co e_co m_cr e_cr m_dr e_dr m_drr e_drr m_ri e_ri m_rir e_rir m_th e_th m_thr e_thr n_ri_th n_rir_thr n_dr_th n_drr_thr n_dr_ri n_drr_rir n_co_dr n_co_ri n_co_th hz75) (cwV 4 hts gX8_layered_X6_beginLayered rfl rfl rfl (by decide +kernel) ⟨Nat.le_of_ble_eq_true rfl, Nat.le_of_ble_eq_true rfl⟩) S m_q38 e_q38 (T := TX6) (N := 7) rfl rfl hl.1 rfl (Nat.le_of_ble_eq_true rfl) dX8_layered_75 ⟨Nat.le_of_ble_eq_true rfl, Nat.le_of_ble_eq_true rfl⟩ (fun L16 f17 H locs S w75 => ?_)
  refine W.widen (k := 49) (n := 7472) (by decide) (by decide) ?_
  obtain ⟨q8, ca, re, rr, ro, lb, lw, rf, mo, fv, E_q38, E_ce, E_co, ⟨jk_dr_75, E_dr⟩, ⟨jk_drr_75, E_drr⟩, ⟨jk_ri_75, E_ri⟩, ⟨jk_rir_75, E_rir⟩, ⟨jk_th_75, E_th⟩, ⟨jk_thr_75, E_thr⟩, ⟨nq_q8, mq_q8, E_q8⟩, ⟨nq_ca, mq_ca, E_ca⟩, ⟨nq_re, mq_re, E_re⟩, ⟨nq_rr, mq_rr, E_rr⟩, ⟨nq_ro, mq_ro, E_ro⟩, ⟨e_fam, hdis, hnf⟩⟩ := w75
  have mono0 := mono
  have e_xb := (fv xb m_xb n_xb_q38 n_xb_ce n_xb_co n_xb_dr n_xb_drr n_xb_ri n_xb_rir n_xb_th n_xb_thr).trans e_xb
  have e_wo := ((fv57 wo m_wo n_wo_ri n_wo_rir).trans ((fv46 wo m_wo n_wo_dr n_wo_drr).trans e_wo))
  have e_wo := (fv wo m_wo n_wo_q38 n_wo_ce n_wo_co n_wo_dr n_wo_drr n_wo_ri n_wo_rir n_wo_th n_wo_thr).trans e_wo
  have e_wb := ((fv57 wb m_wb n_wb_ri n_wb_rir).trans e_wb)
  have e_wb := (fv wb m_wb n_wb_q38 n_wb_ce n_wb_co n_wb_dr n_wb_drr n_wb_ri n_wb_rir n_wb_th n_wb_thr).trans e_wb
  have e_wr := ((fv57 wr m_wr n_wr_ri n_wr_rir).trans e_wr)
  have e_wr := (fv wr m_wr n_wr_q38 n_wr_ce n_wr_co n_wr_dr n_wr_drr n_wr_ri n_wr_rir n_wr_th n_wr_thr).trans e_wr
  have e_ub := ((fv57 ub m_ub n_ub_ri n_ub_rir).trans e_ub)
  have e_ub := (fv ub m_ub n_ub_q38 n_ub_ce n_ub_co n_ub_dr n_ub_drr n_ub_ri n_ub_rir n_ub_th n_ub_thr).trans e_ub
  have e_ur := ((fv57 ur m_ur n_ur_ri n_ur_rir).trans e_ur)
  have e_ur := (fv ur m_ur n_ur_q38 n_ur_ce n_ur_co n_ur_dr n_ur_drr n_ur_ri n_ur_rir n_ur_th n_ur_thr).trans e_ur
  have e_Sl := ((fv57 Sl m_Sl n_Sl_ri n_Sl_rir).trans ((fv46 Sl m_Sl n_Sl_dr n_Sl_drr).trans e_Sl))
  have e_Sl := (fv Sl m_Sl n_Sl_q38 n_Sl_ce n_Sl_co n_Sl_dr n_Sl_drr n_Sl_ri n_Sl_rir n_Sl_th n_Sl_thr).trans e_Sl
  have e_cr := (fv cr m_cr n_cr_q38 n_cr_ce n_cr_co n_cr_dr n_cr_drr n_cr_ri n_cr_rir n_cr_th n_cr_thr).trans e_cr
  have fr : ∀ b, b ∈ L → b ≠ xb → b ≠ Sl → b ≠ dr → b ≠ drr → b ≠ ri → b ≠ rir → b ≠ th → b ≠ thr → f17 b = f b := fun b mb nb0 nb1 nb2 nb3 nb4 nb5 nb6 nb7 => (fv b (mono0 b mb) (fun h_ => nz_q38 (h_ ▸ mb)) (fun h_ => nz_ce (h_ ▸ mb)) (fun h_ => nz_co (h_ ▸ mb)) nb2 nb3 nb4 nb5 nb6 nb7).trans (fr b mb nb0 nb1 nb2 nb3 nb4 nb5 nb6 nb7)
  have n_xb_fam : ∀ j, j < 20 → xb ≠ lb j ∧ xb ≠ lw j := fun j hj => ⟨fun h => (hnf j hj).1 (h ▸ m_xb), fun h => (hnf j hj).2 (h ▸ m_xb)⟩
  have n_wo_fam : ∀ j, j < 20 → wo ≠ lb j ∧ wo ≠ lw j := fun j hj => ⟨fun h => (hnf j hj).1 (h ▸ m_wo), fun h => (hnf j hj).2 (h ▸ m_wo)⟩
  have n_wb_fam : ∀ j, j < 20 → wb ≠ lb j ∧ wb ≠ lw j := fun j hj => ⟨fun h => (hnf j hj).1 (h ▸ m_wb), fun h => (hnf j hj).2 (h ▸ m_wb)⟩
  have n_wr_fam : ∀ j, j < 20 → wr ≠ lb j ∧ wr ≠ lw j := fun j hj => ⟨fun h => (hnf j hj).1 (h ▸ m_wr), fun h => (hnf j hj).2 (h ▸ m_wr)⟩
  have n_ub_fam : ∀ j, j < 20 → ub ≠ lb j ∧ ub ≠ lw j := fun j hj => ⟨fun h => (hnf j hj).1 (h ▸ m_ub), fun h => (hnf j hj).2 (h ▸ m_ub)⟩
  have n_ur_fam : ∀ j, j < 20 → ur ≠ lb j ∧ ur ≠ lw j := fun j hj => ⟨fun h => (hnf j hj).1 (h ▸ m_ur), fun h => (hnf j hj).2 (h ▸ m_ur)⟩
  have n_Sl_fam : ∀ j, j < 20 → Sl ≠ lb j ∧ Sl ≠ lw j := fun j hj => ⟨fun h => (hnf j hj).1 (h ▸ m_Sl), fun h => (hnf j hj).2 (h ▸ m_Sl)⟩
  have n_dr_fam : ∀ j, j < 20 → dr ≠ lb j ∧ dr ≠ lw j := fun j hj => ⟨fun h => (hnf j hj).1 (h ▸ m_dr), fun h => (hnf j hj).2 (h ▸ m_dr)⟩
  have n_drr_fam : ∀ j, j < 20 → drr ≠ lb j ∧ drr ≠ lw j := fun j hj => ⟨fun h => (hnf j hj).1 (h ▸ m_drr), fun h => (hnf j hj).2 (h ▸ m_drr)⟩
  have n_ri_fam : ∀ j, j < 20 → ri ≠ lb j ∧ ri ≠ lw j := fun j hj => ⟨fun h => (hnf j hj).1 (h ▸ m_ri), fun h => (hnf j hj).2 (h ▸ m_ri)⟩
  have n_rir_fam : ∀ j, j < 20 → rir ≠ lb j ∧ rir ≠ lw j := fun j hj => ⟨fun h => (hnf j hj).1 (h ▸ m_rir), fun h => (hnf j hj).2 (h ▸ m_rir)⟩
  have n_th_fam : ∀ j, j < 20 → th ≠ lb j ∧ th ≠ lw j := fun j hj => ⟨fun h => (hnf j hj).1 (h ▸ m_th), fun h => (hnf j hj).2 (h ▸ m_th)⟩
  have n_thr_fam : ∀ j, j < 20 → thr ≠ lb j ∧ thr ≠ lw j := fun j hj => ⟨fun h => (hnf j hj).1 (h ▸ m_thr), fun h => (hnf j hj).2 (h ▸ m_thr)⟩
  have n_q38_fam : ∀ j, j < 20 → q38 ≠ lb j ∧ q38 ≠ lw j := fun j hj => ⟨fun h => (hnf j hj).1 (h ▸ m_q38), fun h => (hnf j hj).2 (h ▸ m_q38)⟩
  have n_ce_fam : ∀ j, j < 20 → ce ≠ lb j ∧ ce ≠ lw j := fun j hj => ⟨fun h => (hnf j hj).1 (h ▸ m_ce), fun h => (hnf j hj).2 (h ▸ m_ce)⟩
  have n_co_fam : ∀ j, j < 20 → co ≠ lb j ∧ co ≠ lw j := fun j hj => ⟨fun h => (hnf j hj).1 (h ▸ m_co), fun h => (hnf j hj).2 (h ▸ m_co)⟩
  have n_cr_fam : ∀ j, j < 20 → cr ≠ lb j ∧ cr ≠ lw j := fun j hj => ⟨fun h => (hnf j hj).1 (h ▸ m_cr), fun h => (hnf j hj).2 (h ▸ m_cr)⟩
  have n_xb_q8 : xb ≠ q8 := fun h => nq_q8 (h ▸ m_xb)
  have n_q8_xb : q8 ≠ xb := Ne.symm n_xb_q8
  have n_xb_ca : xb ≠ ca := fun h => nq_ca (h ▸ m_xb)
  have n_ca_xb : ca ≠ xb := Ne.symm n_xb_ca
  have n_xb_re : xb ≠ re := fun h => nq_re (h ▸ m_xb)
  have n_re_xb : re ≠ xb := Ne.symm n_xb_re
  have n_xb_rr : xb ≠ rr := fun h => nq_rr (h ▸ m_xb)
  have n_rr_xb : rr ≠ xb := Ne.symm n_xb_rr
  have n_xb_ro : xb ≠ ro := fun h => nq_ro (h ▸ m_xb)
  have n_ro_xb : ro ≠ xb := Ne.symm n_xb_ro
  have n_wo_q8 : wo ≠ q8 := fun h => nq_q8 (h ▸ m_wo)
  have n_q8_wo : q8 ≠ wo := Ne.symm n_wo_q8
  have n_wo_ca : wo ≠ ca := fun h => nq_ca (h ▸ m_wo)
  have n_ca_wo : ca ≠ wo := Ne.symm n_wo_ca
  have n_wo_re : wo ≠ re := fun h => nq_re (h ▸ m_wo)
  have n_re_wo : re ≠ wo := Ne.symm n_wo_re
  have n_wo_rr : wo ≠ rr := fun h => nq_rr (h ▸ m_wo)
  have n_rr_wo : rr ≠ wo := Ne.symm n_wo_rr
  have n_wo_ro : wo ≠ ro := fun h => nq_ro (h ▸ m_wo)
  have n_ro_wo : ro ≠ wo := Ne.symm n_wo_ro
  have n_wb_q8 : wb ≠ q8 := fun h => nq_q8 (h ▸ m_wb)
  have n_q8_wb : q8 ≠ wb := Ne.symm n_wb_q8
  have n_wb_ca : wb ≠ ca := fun h => nq_ca (h ▸ m_wb)
  have n_ca_wb : ca ≠ wb := Ne.symm n_wb_ca
  have n_wb_re : wb ≠ re := fun h => nq_re (h ▸ m_wb)
  have n_re_wb : re ≠ wb := Ne.symm n_wb_re
  have n_wb_rr : wb ≠ rr := fun h => nq_rr (h ▸ m_wb)
  have n_rr_wb : rr ≠ wb := Ne.symm n_wb_rr
  have n_wb_ro : wb ≠ ro := fun h => nq_ro (h ▸ m_wb)
  have n_ro_wb : ro ≠ wb := Ne.symm n_wb_ro
  have n_wr_q8 : wr ≠ q8 := fun h => nq_q8 (h ▸ m_wr)
  have n_q8_wr : q8 ≠ wr := Ne.symm n_wr_q8
  have n_wr_ca : wr ≠ ca := fun h => nq_ca (h ▸ m_wr)
  have n_ca_wr : ca ≠ wr := Ne.symm n_wr_ca
  have n_wr_re : wr ≠ re := fun h => nq_re (h ▸ m_wr)
  have n_re_wr : re ≠ wr := Ne.symm n_wr_re
  have n_wr_rr : wr ≠ rr := fun h => nq_rr (h ▸ m_wr)
  have n_rr_wr : rr ≠ wr := Ne.symm n_wr_rr
  have n_wr_ro : wr ≠ ro := fun h => nq_ro (h ▸ m_wr)
  have n_ro_wr : ro ≠ wr := Ne.symm n_wr_ro
  have n_ub_q8 : ub ≠ q8 := fun h => nq_q8 (h ▸ m_ub)
  have n_q8_ub : q8 ≠ ub := Ne.symm n_ub_q8
  have n_ub_ca : ub ≠ ca := fun h => nq_ca (h ▸ m_ub)
  have n_ca_ub : ca ≠ ub := Ne.symm n_ub_ca
  have n_ub_re : ub ≠ re := fun h => nq_re (h ▸ m_ub)
  have n_re_ub : re ≠ ub := Ne.symm n_ub_re
  have n_ub_rr : ub ≠ rr := fun h => nq_rr (h ▸ m_ub)
  have n_rr_ub : rr ≠ ub := Ne.symm n_ub_rr
  have n_ub_ro : ub ≠ ro := fun h => nq_ro (h ▸ m_ub)
  have n_ro_ub : ro ≠ ub := Ne.symm n_ub_ro
  have n_ur_q8 : ur ≠ q8 := fun h => nq_q8 (h ▸ m_ur)
  have n_q8_ur : q8 ≠ ur := Ne.symm n_ur_q8
  have n_ur_ca : ur ≠ ca := fun h => nq_ca (h ▸ m_ur)
  have n_ca_ur : ca ≠ ur := Ne.symm n_ur_ca
  have n_ur_re : ur ≠ re := fun h => nq_re (h ▸ m_ur)
  have n_re_ur : re ≠ ur := Ne.symm n_ur_re
  have n_ur_rr : ur ≠ rr := fun h => nq_rr (h ▸ m_ur)
  have n_rr_ur : rr ≠ ur := Ne.symm n_ur_rr
  have n_ur_ro : ur ≠ ro := fun h => nq_ro (h ▸ m_ur)
  have n_ro_ur : ro ≠ ur := Ne.symm n_ur_ro
  have n_Sl_q8 : Sl ≠ q8 := fun h => nq_q8 (h ▸ m_Sl)
  have n_q8_Sl : q8 ≠ Sl := Ne.symm n_Sl_q8
  have n_Sl_ca : Sl ≠ ca := fun h => nq_ca (h ▸ m_Sl)
  have n_ca_Sl : ca ≠ Sl := Ne.symm n_Sl_ca
  have n_Sl_re : Sl ≠ re := fun h => nq_re (h ▸ m_Sl)
  have n_re_Sl : re ≠ Sl := Ne.symm n_Sl_re
  have n_Sl_rr : Sl ≠ rr := fun h => nq_rr (h ▸ m_Sl)
  have n_rr_Sl : rr ≠ Sl := Ne.symm n_Sl_rr
  have n_Sl_ro : Sl ≠ ro := fun h => nq_ro (h ▸ m_Sl)
  have n_ro_Sl : ro ≠ Sl := Ne.symm n_Sl_ro
  have n_dr_q8 : dr ≠ q8 := fun h => nq_q8 (h ▸ m_dr)
  have n_q8_dr : q8 ≠ dr := Ne.symm n_dr_q8
  have n_dr_ca : dr ≠ ca := fun h => nq_ca (h ▸ m_dr)
  have n_ca_dr : ca ≠ dr := Ne.symm n_dr_ca
  have n_dr_re : dr ≠ re := fun h => nq_re (h ▸ m_dr)
  have n_re_dr : re ≠ dr := Ne.symm n_dr_re
  have n_dr_rr : dr ≠ rr := fun h => nq_rr (h ▸ m_dr)
  have n_rr_dr : rr ≠ dr := Ne.symm n_dr_rr
  have n_dr_ro : dr ≠ ro := fun h => nq_ro (h ▸ m_dr)
  have n_ro_dr : ro ≠ dr := Ne.symm n_dr_ro
  have n_drr_q8 : drr ≠ q8 := fun h => nq_q8 (h ▸ m_drr)
  have n_q8_drr : q8 ≠ drr := Ne.symm n_drr_q8
  have n_drr_ca : drr ≠ ca := fun h => nq_ca (h ▸ m_drr)
  have n_ca_drr : ca ≠ drr := Ne.symm n_drr_ca
  have n_drr_re : drr ≠ re := fun h => nq_re (h ▸ m_drr)
  have n_re_drr : re ≠ drr := Ne.symm n_drr_re
  have n_drr_rr : drr ≠ rr := fun h => nq_rr (h ▸ m_drr)
  have n_rr_drr : rr ≠ drr := Ne.symm n_drr_rr
  have n_drr_ro : drr ≠ ro := fun h => nq_ro (h ▸ m_drr)
  have n_ro_drr : ro ≠ drr := Ne.symm n_drr_ro
  have n_ri_q8 : ri ≠ q8 := fun h => nq_q8 (h ▸ m_ri)
  have n_q8_ri : q8 ≠ ri := Ne.symm n_ri_q8
  have n_ri_ca : ri ≠ ca := fun h => nq_ca (h ▸ m_ri)
  have n_ca_ri : ca ≠ ri := Ne.symm n_ri_ca
  have n_ri_re : ri ≠ re := fun h => nq_re (h ▸ m_ri)
  have n_re_ri : re ≠ ri := Ne.symm n_ri_re
  have n_ri_rr : ri ≠ rr := fun h => nq_rr (h ▸ m_ri)
  have n_rr_ri : rr ≠ ri := Ne.symm n_ri_rr
  have n_ri_ro : ri ≠ ro := fun h => nq_ro (h ▸ m_ri)
  have n_ro_ri : ro ≠ ri := Ne.symm n_ri_ro
  have n_rir_q8 : rir ≠ q8 := fun h => nq_q8 (h ▸ m_rir)
  have n_q8_rir : q8 ≠ rir := Ne.symm n_rir_q8
  have n_rir_ca : rir ≠ ca := fun h => nq_ca (h ▸ m_rir)
  have n_ca_rir : ca ≠ rir := Ne.symm n_rir_ca
  have n_rir_re : rir ≠ re := fun h => nq_re (h ▸ m_rir)
  have n_re_rir : re ≠ rir := Ne.symm n_rir_re
  have n_rir_rr : rir ≠ rr := fun h => nq_rr (h ▸ m_rir)
  have n_rr_rir : rr ≠ rir := Ne.symm n_rir_rr
  have n_rir_ro : rir ≠ ro := fun h => nq_ro (h ▸ m_rir)
  have n_ro_rir : ro ≠ rir := Ne.symm n_rir_ro
  have n_th_q8 : th ≠ q8 := fun h => nq_q8 (h ▸ m_th)
  have n_q8_th : q8 ≠ th := Ne.symm n_th_q8
  have n_th_ca : th ≠ ca := fun h => nq_ca (h ▸ m_th)
  have n_ca_th : ca ≠ th := Ne.symm n_th_ca
  have n_th_re : th ≠ re := fun h => nq_re (h ▸ m_th)
  have n_re_th : re ≠ th := Ne.symm n_th_re
  have n_th_rr : th ≠ rr := fun h => nq_rr (h ▸ m_th)
  have n_rr_th : rr ≠ th := Ne.symm n_th_rr
  have n_th_ro : th ≠ ro := fun h => nq_ro (h ▸ m_th)
  have n_ro_th : ro ≠ th := Ne.symm n_th_ro
  have n_thr_q8 : thr ≠ q8 := fun h => nq_q8 (h ▸ m_thr)
  have n_q8_thr : q8 ≠ thr := Ne.symm n_thr_q8
  have n_thr_ca : thr ≠ ca := fun h => nq_ca (h ▸ m_thr)
  have n_ca_thr : ca ≠ thr := Ne.symm n_thr_ca
  have n_thr_re : thr ≠ re := fun h => nq_re (h ▸ m_thr)
  have n_re_thr : re ≠ thr := Ne.symm n_thr_re
  have n_thr_rr : thr ≠ rr := fun h => nq_rr (h ▸ m_thr)
  have n_rr_thr : rr ≠ thr := Ne.symm n_thr_rr
  have n_thr_ro : thr ≠ ro := fun h => nq_ro (h ▸ m_thr)
  have n_ro_thr : ro ≠ thr := Ne.symm n_thr_ro
  have n_q38_q8 : q38 ≠ q8 := fun h => nq_q8 (h ▸ m_q38)
  have n_q8_q38 : q8 ≠ q38 := Ne.symm n_q38_q8
  have n_q38_ca : q38 ≠ ca := fun h => nq_ca (h ▸ m_q38)
  have n_ca_q38 : ca ≠ q38 := Ne.symm n_q38_ca
  have n_q38_re : q38 ≠ re := fun h => nq_re (h ▸ m_q38)
  have n_re_q38 : re ≠ q38 := Ne.symm n_q38_re
  have n_q38_rr : q38 ≠ rr := fun h => nq_rr (h ▸ m_q38)
  have n_rr_q38 : rr ≠ q38 := Ne.symm n_q38_rr
  have n_q38_ro : q38 ≠ ro := fun h => nq_ro (h ▸ m_q38)
  have n_ro_q38 : ro ≠ q38 := Ne.symm n_q38_ro
  have n_ce_q8 : ce ≠ q8 := fun h => nq_q8 (h ▸ m_ce)
  have n_q8_ce : q8 ≠ ce := Ne.symm n_ce_q8
  have n_ce_ca : ce ≠ ca := fun h => nq_ca (h ▸ m_ce)
  have n_ca_ce : ca ≠ ce := Ne.symm n_ce_ca
  have n_ce_re : ce ≠ re := fun h => nq_re (h ▸ m_ce)
  have n_re_ce : re ≠ ce := Ne.symm n_ce_re
  have n_ce_rr : ce ≠ rr := fun h => nq_rr (h ▸ m_ce)
  have n_rr_ce : rr ≠ ce := Ne.symm n_ce_rr
  have n_ce_ro : ce ≠ ro := fun h => nq_ro (h ▸ m_ce)
  have n_ro_ce : ro ≠ ce := Ne.symm n_ce_ro
  have n_co_q8 : co ≠ q8 := fun h => nq_q8 (h ▸ m_co)
  have n_q8_co : q8 ≠ co := Ne.symm n_co_q8
  have n_co_ca : co ≠ ca := fun h => nq_ca (h ▸ m_co)
  have n_ca_co : ca ≠ co := Ne.symm n_co_ca
  have n_co_re : co ≠ re := fun h => nq_re (h ▸ m_co)
  have n_re_co : re ≠ co := Ne.symm n_co_re
  have n_co_rr : co ≠ rr := fun h => nq_rr (h ▸ m_co)
  have n_rr_co : rr ≠ co := Ne.symm n_co_rr
  have n_co_ro : co ≠ ro := fun h => nq_ro (h ▸ m_co)
  have n_ro_co : ro ≠ co := Ne.symm n_co_ro
  have n_cr_q8 : cr ≠ q8 := fun h => nq_q8 (h ▸ m_cr)
  have n_q8_cr : q8 ≠ cr := Ne.symm n_cr_q8
  have n_cr_ca : cr ≠ ca := fun h => nq_ca (h ▸ m_cr)
  have n_ca_cr : ca ≠ cr := Ne.symm n_cr_ca
  have n_cr_re : cr ≠ re := fun h => nq_re (h ▸ m_cr)
  have n_re_cr : re ≠ cr := Ne.symm n_cr_re
  have n_cr_rr : cr ≠ rr := fun h => nq_rr (h ▸ m_cr)
  have n_rr_cr : rr ≠ cr := Ne.symm n_cr_rr
  have n_cr_ro : cr ≠ ro := fun h => nq_ro (h ▸ m_cr)
  have n_ro_cr : ro ≠ cr := Ne.symm n_cr_ro
  have m_xb : xb ∈ L16 := mo xb m_xb
  have m_wo : wo ∈ L16 := mo wo m_wo
  have m_wb : wb ∈ L16 := mo wb m_wb
  have m_wr : wr ∈ L16 := mo wr m_wr
  have m_ub : ub ∈ L16 := mo ub m_ub
  have m_ur : ur ∈ L16 := mo ur m_ur
  have m_Sl : Sl ∈ L16 := mo Sl m_Sl
  have m_dr : dr ∈ L16 := mo dr m_dr
  have m_drr : drr ∈ L16 := mo drr m_drr
  have m_ri : ri ∈ L16 := mo ri m_ri
  have m_rir : rir ∈ L16 := mo rir m_rir
  have m_th : th ∈ L16 := mo th m_th
  have m_thr : thr ∈ L16 := mo thr m_thr
  have m_q38 : q38 ∈ L16 := mo q38 m_q38
  have m_ce : ce ∈ L16 := mo ce m_ce
  have m_co : co ∈ L16 := mo co m_co
  have m_cr : cr ∈ L16 := mo cr m_cr
  have nz_q8 : q8 ∉ L := fun h => nq_q8 (mono _ h)
  have nz_ca : ca ∉ L := fun h => nq_ca (mono _ h)
  have nz_re : re ∉ L := fun h => nq_re (mono _ h)
  have nz_rr : rr ∉ L := fun h => nq_rr (mono _ h)
  have nz_ro : ro ∉ L := fun h => nq_ro (mono _ h)
  have mono : ∀ b, b ∈ L → b ∈ L16 := fun b h => mo b (mono0 b h)
  have m_q8 := mq_q8
  have m_ca := mq_ca
  have m_re := mq_re
  have m_rr := mq_rr
  have m_ro := mq_ro
  have e_q38 : f17 q38 = .inr (4, [.ref ce, .ref co, .ref q8, .int z75.1, .int z75.2.1, .int z75.2.2.1, .int z75.2.2.2.1]) := E_q38
  have e_ce : f17 ce = .inl (g 0, 4096, .inl z75.2.2.2.2.1) := E_ce
  have e_co : f17 co = .inr (0, [.ref cr, .int z75.2.2.2.2.2.1]) := E_co
  have e_dr : f17 dr = .inr (0, [.ref drr, .int jk_dr_75]) := E_dr
  have e_drr : f17 drr = .inl (g 1, 1000, .inr (.inl jk_drr_75)) := E_drr
  have e_ri : f17 ri = .inr (0, [.ref rir, .int jk_ri_75]) := E_ri
  have e_rir : f17 rir = .inl (g 1, 1000, .inr (.inl jk_rir_75)) := E_rir
  have e_th : f17 th = .inr (0, [.ref thr, .int jk_th_75]) := E_th
  have e_thr : f17 thr = .inl (g 1, 1000, .inr (.inl jk_thr_75)) := E_thr
  have e_q8 : f17 q8 = .inr (3, [.ref ro, .ref ca, .ref re, .int z75.2.2.2.2.2.2.1, .int z75.2.2.2.2.2.2.2.1]) := E_q8
  have e_ca : f17 ca = .inl (g 0, 20, .inl z75.2.2.2.2.2.2.2.2.1) := E_ca
  have e_re : f17 re = .inr (0, [.ref rr, .int z75.2.2.2.2.2.2.2.2.2.1]) := E_re
  have e_rr : f17 rr = .inl (g 1, 1000, .inr (.inl z75.2.2.2.2.2.2.2.2.2.2.1)) := E_rr
  have e_ro : f17 ro = .inl (g 4, 20, .inr (.inr (.inr (.inr rf)))) := E_ro
  have n_ca_q8 : ca ≠ q8 := ne_ri e_q8 e_ca
  have n_re_q8 : re ≠ q8 := ne_rr e_q8 e_re (by decide)
  have n_rr_q8 : rr ≠ q8 := ne_ri e_q8 e_rr
  have n_ro_q8 : ro ≠ q8 := ne_ri e_q8 e_ro
  have n_q8_ca : q8 ≠ ca := ne_ir e_ca e_q8
  have n_re_ca : re ≠ ca := ne_ir e_ca e_re
  have n_rr_ca : rr ≠ ca := ne_len e_ca e_rr (by decide)
  have n_ro_ca : ro ≠ ca := ne_01 e_ca e_ro
  have n_q8_re : q8 ≠ re := ne_rr e_re e_q8 (by decide)
  have n_ca_re : ca ≠ re := ne_ri e_re e_ca
  have n_rr_re : rr ≠ re := ne_ri e_re e_rr
  have n_ro_re : ro ≠ re := ne_ri e_re e_ro
  have n_q8_rr : q8 ≠ rr := ne_ir e_rr e_q8
  have n_ca_rr : ca ≠ rr := ne_len e_rr e_ca (by decide)
  have n_re_rr : re ≠ rr := ne_ir e_rr e_re
  have n_ro_rr : ro ≠ rr := ne_len e_rr e_ro (by decide)
  have n_q8_ro : q8 ≠ ro := ne_ir e_ro e_q8
  have n_ca_ro : ca ≠ ro := ne_10 e_ro e_ca
  have n_re_ro : re ≠ ro := ne_ir e_ro e_re
  have n_rr_ro : rr ≠ ro := ne_len e_ro e_rr (by decide)
  have nz_fam : ∀ j, j < 20 → lb j ∉ L ∧ lw j ∉ L := fun j hj => ⟨fun h => (hnf j hj).1 (mono0 _ h), fun h => (hnf j hj).2 (mono0 _ h)⟩
  have n_q8_fam := fam_no e_fam e_q8 (by decide)
  have n_ca_fam := fam_na e_fam e_ca (by decide)
  have n_re_fam := fam_no e_fam e_re (by decide)
  have n_rr_fam := fam_na e_fam e_rr (by decide)
  have n_ro_fam := fam_na e_fam e_ro (by decide)
  have n_fam_xb := fam_sy n_xb_fam
  have n_fam_wo := fam_sy n_wo_fam
  have n_fam_wb := fam_sy n_wb_fam
  have n_fam_wr := fam_sy n_wr_fam
  have n_fam_ub := fam_sy n_ub_fam
  have n_fam_ur := fam_sy n_ur_fam
  have n_fam_Sl := fam_sy n_Sl_fam
  have n_fam_dr := fam_sy n_dr_fam
  have n_fam_drr := fam_sy n_drr_fam
  have n_fam_ri := fam_sy n_ri_fam
  have n_fam_rir := fam_sy n_rir_fam
  have n_fam_th := fam_sy n_th_fam
  have n_fam_thr := fam_sy n_thr_fam
  have n_fam_q38 := fam_sy n_q38_fam
  have n_fam_ce := fam_sy n_ce_fam
  have n_fam_co := fam_sy n_co_fam
  have n_fam_cr := fam_sy n_cr_fam
  have n_fam_q8 := fam_sy n_q8_fam
  have n_fam_ca := fam_sy n_ca_fam
  have n_fam_re := fam_sy n_re_fam
  have n_fam_rr := fam_sy n_rr_fam
  have n_fam_ro := fam_sy n_ro_fam
  refine lv_aload hx hb dX8_layered_78 (lv_at hl 0 rfl) ?_
  refine q_getN hx hb hts in_X6 hown S m_q38 e_q38 (C := RX6) (T := TX6) (N := 7) rfl 1 (by decide) rfl (by decide) dX8_layered_80 ?_
  refine lv_aload hx hb dX8_layered_83 (lv_at hl 2 rfl) ?_
  obtain ⟨z85, hz85, hM⟩ := bind_some hM
  refine q_vv (As := [.ref wb]) (rest := []) ⟨hx, hb, hml, hown, hts⟩ (k_X0_copyFrom l D g m_co e_co m_cr e_cr m_wb e_wb m_wr e_wr hz85) (cwV 1 hts gX8_layered_X0_copyFrom rfl rfl rfl (by decide +kernel) ⟨Nat.le_of_ble_eq_true rfl, Nat.le_of_ble_eq_true rfl⟩) S m_co e_co (T := TX0) (N := 2) rfl rfl hl.1 rfl (Nat.le_of_ble_eq_true rfl) dX8_layered_85 ⟨Nat.le_of_ble_eq_true rfl, Nat.le_of_ble_eq_true rfl⟩ (fun L19 f20 H locs S w85 => ?_)
  obtain ⟨eL, fv85, E_co, E_cr⟩ := w85
  rw [eL] at S
  have fr : ∀ b, b ∈ L → b ≠ xb → b ≠ Sl → b ≠ dr → b ≠ drr → b ≠ ri → b ≠ rir → b ≠ th → b ≠ thr → f20 b = f b := fun b mb nb0 nb1 nb2 nb3 nb4 nb5 nb6 nb7 => (fv85 b (mono b mb) (fun h_ => nz_co (h_ ▸ mb)) (fun h_ => nz_cr (h_ ▸ mb))).trans (fr b mb nb0 nb1 nb2 nb3 nb4 nb5 nb6 nb7)
  have e_co : f20 co = .inr (0, [.ref cr, .int z85.1]) := E_co
  have e_cr : f20 cr = .inl (g 1, 1000, .inr (.inl z85.2)) := E_cr
  refine lv_aload_n hx hb dX8_layered_88 rfl (lv_at hl 3 rfl) ?_
  refine lv_dup hx hb dX8_layered_89 rfl ?_
  have e_xb := ((fv85 xb m_xb n_xb_co n_xb_cr).trans e_xb)
  refine q_get hx hb hts in_X8 hown S m_xb e_xb (C := RX8) (T := TX8) (N := 8) rfl 7 (by decide) rfl (hts (.fieldLink RX8 84 "SieveCabinet" "made" "I") (gu_wsX8_layered_1 _ gm_3)) dX8_layered_90 ?_
  refine lv_dup_x1 hx hb dX8_layered_93 rfl rfl ?_
  refine lv_iconst (v := (1 : Int32)) hx hb dX8_layered_94 (by decide) ?_
  refine lv_iadd hx hb dX8_layered_95 ?_
  refine k_put hx hb hts in_X8 tyX8 tyX8_ok nmX8 hown S m_xb e_xb (C := RX8) (T := TX8) (N := 8) rfl 7 (by decide) (hts (.fieldLink RX8 84 "SieveCabinet" "made" "I") (gu_wsX8_layered_1 _ gm_3)) rfl rfl rfl (Nat.le_of_ble_eq_true rfl) dX8_layered_96 (fun f22 ef22 H locs S => ?_)
  have e_xb : f22 xb = .inr (6, [.ref wo, .ref Sl, .ref dr, .ref ri, .ref th, .ref so, .ref ch, .int (md + (1 : Int32))]) := up_self ef22
  have fr : ∀ b, b ∈ L → b ≠ xb → b ≠ Sl → b ≠ dr → b ≠ drr → b ≠ ri → b ≠ rir → b ≠ th → b ≠ thr → f22 b = f b := fun b mb nb0 nb1 nb2 nb3 nb4 nb5 nb6 nb7 => (up_ne ef22 nb0 rfl).trans (fr b mb nb0 nb1 nb2 nb3 nb4 nb5 nb6 nb7)
  have e_Sl := (up_ne ef22 n_Sl_xb ((fv85 Sl m_Sl n_Sl_co n_Sl_cr).trans e_Sl))
  have e_dr := (up_ne ef22 n_dr_xb ((fv85 dr m_dr n_dr_co n_dr_cr).trans e_dr))
  have e_drr := (up_ne ef22 n_drr_xb ((fv85 drr m_drr n_drr_co n_drr_cr).trans e_drr))
  have e_ri := (up_ne ef22 n_ri_xb ((fv85 ri m_ri n_ri_co n_ri_cr).trans e_ri))
  have e_rir := (up_ne ef22 n_rir_xb ((fv85 rir m_rir n_rir_co n_rir_cr).trans e_rir))
  have e_th := (up_ne ef22 n_th_xb ((fv85 th m_th n_th_co n_th_cr).trans e_th))
  have e_thr := (up_ne ef22 n_thr_xb ((fv85 thr m_thr n_thr_co n_thr_cr).trans e_thr))
  have e_q38 := (up_ne ef22 n_q38_xb ((fv85 q38 m_q38 n_q38_co n_q38_cr).trans e_q38))
  have e_ce := (up_ne ef22 n_ce_xb ((fv85 ce m_ce n_ce_co n_ce_cr).trans e_ce))
  have e_co := (up_ne ef22 n_co_xb e_co)
  have e_cr := (up_ne ef22 n_cr_xb e_cr)
  have e_q8 := (up_ne ef22 n_q8_xb ((fv85 q8 m_q8 n_q8_co n_q8_cr).trans e_q8))
  have e_ca := (up_ne ef22 n_ca_xb ((fv85 ca m_ca n_ca_co n_ca_cr).trans e_ca))
  have e_re := (up_ne ef22 n_re_xb ((fv85 re m_re n_re_co n_re_cr).trans e_re))
  have e_rr := (up_ne ef22 n_rr_xb ((fv85 rr m_rr n_rr_co n_rr_cr).trans e_rr))
  have e_ro := (up_ne ef22 n_ro_xb ((fv85 ro m_ro n_ro_co n_ro_cr).trans e_ro))
  have e_fam := (LF_up (LF_ext e_fam (fun j hj q1 q2 => ⟨fv85 (lb j) q1 (n_fam_co j hj).1 (n_fam_cr j hj).1, fv85 (lw j) q2 (n_fam_co j hj).2 (n_fam_cr j hj).2⟩)) ef22 n_fam_xb)
  subst hQQ
  exact q_reti (post := fun x L1 f1 => ∃ q38 : Nat, ∃ ce : Nat, ∃ co : Nat, ∃ cr : Nat, ∃ q8 : Nat, ∃ ca : Nat, ∃ re : Nat, ∃ rr : Nat, ∃ ro : Nat, ∃ lb lw : Nat → Nat, ∃ rf : Nat → Option Nat, x = z.1 ∧ (∀ b, b ∈ L → b ∈ L1) ∧ (∀ b, b ∈ L → b ≠ xb → b ≠ Sl → b ≠ dr → b ≠ drr → b ≠ ri → b ≠ rir → b ≠ th → b ≠ thr → f1 b = f b) ∧ f1 xb = .inr (6, [.ref wo, .ref Sl, .ref dr, .ref ri, .ref th, .ref so, .ref ch, .int z.2.1]) ∧ f1 Sl = .inl (g 5, 30, .inr (.inr (.inr (.inr (va_up sf (Int32.toNatClampNeg md) (some q38)))))) ∧ (∃ j1 : Int32, f1 dr = .inr (0, [.ref drr, .int j1])) ∧ (∃ j0 : Nat → Int64, f1 drr = .inl (g 1, 1000, .inr (.inl j0))) ∧ (∃ j1 : Int32, f1 ri = .inr (0, [.ref rir, .int j1])) ∧ (∃ j0 : Nat → Int64, f1 rir = .inl (g 1, 1000, .inr (.inl j0))) ∧ (∃ j1 : Int32, f1 th = .inr (0, [.ref thr, .int j1])) ∧ (∃ j0 : Nat → Int64, f1 thr = .inl (g 1, 1000, .inr (.inl j0))) ∧ (q38 ∉ L ∧ q38 ∈ L1 ∧ f1 q38 = .inr (4, [.ref ce, .ref co, .ref q8, .int z.2.2.1, .int z.2.2.2.1, .int z.2.2.2.2.1, .int z.2.2.2.2.2.1])) ∧ (ce ∉ L ∧ ce ∈ L1 ∧ f1 ce = .inl (g 0, 4096, .inl z.2.2.2.2.2.2.1)) ∧ (co ∉ L ∧ co ∈ L1 ∧ f1 co = .inr (0, [.ref cr, .int z.2.2.2.2.2.2.2.1])) ∧ (cr ∉ L ∧ cr ∈ L1 ∧ f1 cr = .inl (g 1, 1000, .inr (.inl z.2.2.2.2.2.2.2.2.1))) ∧ (q8 ∉ L ∧ q8 ∈ L1 ∧ f1 q8 = .inr (3, [.ref ro, .ref ca, .ref re, .int z.2.2.2.2.2.2.2.2.2.1, .int z.2.2.2.2.2.2.2.2.2.2.1])) ∧ (ca ∉ L ∧ ca ∈ L1 ∧ f1 ca = .inl (g 0, 20, .inl z.2.2.2.2.2.2.2.2.2.2.2.1)) ∧ (re ∉ L ∧ re ∈ L1 ∧ f1 re = .inr (0, [.ref rr, .int z.2.2.2.2.2.2.2.2.2.2.2.2.1])) ∧ (rr ∉ L ∧ rr ∈ L1 ∧ f1 rr = .inl (g 1, 1000, .inr (.inl z.2.2.2.2.2.2.2.2.2.2.2.2.2.1))) ∧ (ro ∉ L ∧ ro ∈ L1 ∧ f1 ro = .inl (g 4, 20, .inr (.inr (.inr (.inr rf))))) ∧ (co ≠ re ∧ cr ≠ rr) ∧ (LF g L1 f1 rf lb lw z.2.2.2.2.2.2.2.2.2.2.2.2.2.2.1 z.2.2.2.2.2.2.2.2.2.2.2.2.2.2.2 ∧ LD lb lw ∧ ∀ j, j < 20 → lb j ∉ L ∧ lw j ∉ L)) hx hb hr hlk S dX8_layered_99 (by decide) (by decide) (by have hz := Option.some.inj hM; subst hz; exact ⟨q38, ce, co, cr, q8, ca, re, rr, ro, lb, lw, rf, rfl, mono, fr, e_xb, e_Sl, ⟨_, e_dr⟩, ⟨_, e_drr⟩, ⟨_, e_ri⟩, ⟨_, e_rir⟩, ⟨_, e_th⟩, ⟨_, e_thr⟩, ⟨nz_q38, m_q38, e_q38⟩, ⟨nz_ce, m_ce, e_ce⟩, ⟨nz_co, m_co, e_co⟩, ⟨nz_cr, m_cr, e_cr⟩, ⟨nz_q8, m_q8, e_q8⟩, ⟨nz_ca, m_ca, e_ca⟩, ⟨nz_re, m_re, e_re⟩, ⟨nz_rr, m_rr, e_rr⟩, ⟨nz_ro, m_ro, e_ro⟩, ⟨n_co_re, n_cr_rr⟩, ⟨e_fam, hdis, nz_fam⟩⟩)

def mX8_layeredWN  : Option (Int32) := some (-1 : Int32)
set_option maxHeartbeats 4000000 in
set_option maxRecDepth 100000 in
theorem k_X8_layeredWN (l : Launch) (D : va_G) (g : Nat → ClassId) {L : List Nat} {f : Nat → va_E} {Sl ch dr ri so th wb wo xb : Nat} {md : Int32} {wf : Nat → Option Nat} {wi : Int32} {wa : Int32} {sd_ : Int32} {z : Int32} (m_xb : xb ∈ L) (e_xb : f xb = .inr (6, [.ref wo, .ref Sl, .ref dr, .ref ri, .ref th, .ref so, .ref ch, .int md])) (m_wo : wo ∈ L) (e_wo : f wo = .inl (g 3, 8, .inr (.inr (.inr (.inr wf)))))   (hw2 : mX8_worldAt wf wi = some (some wb)) (hw9 : mX8_worldAt wf wa = some none) (hM : mX8_layeredWN = some z) : cI l yX8_layered wsX8_layered { frames := 1, cells := 0, slots := 0, locals := 21 } D g [.ref xb, .int wi, .int wa, .int sd_] L f 0 0 (fun x L1 f1 => x = z ∧ L1 = L ∧ f1 = f) := by
  refine cI_of (cc := cX8_layered) (maxL := 7) (ret := (some .int)) (by decide) rfl (Nat.le_of_ble_eq_true rfl) ?_
  intro szz p e s m below meth c hx hb hr hml hts hown hlk hnm S ls hl
  have hl : lv_has ls 7 [(0, .ref xb), (1, .int wi), (2, .int wa), (3, .int sd_)] := hl
  unfold mX8_layeredWN at hM
  refine W_gen (fun QQ hQQ => ?_)
  refine lv_aload_n hx hb dX8_layered_0 rfl (lv_at hl 0 rfl) ?_
  refine lv_iload_n hx hb dX8_layered_1 rfl (lv_at hl 1 rfl) ?_
  refine q_vq (As := [.int wi]) (rest := []) ⟨hx, hb, hml, hown, hts⟩ (k_X8_worldAt l D g m_xb e_xb m_wo e_wo hw2) (cwV 1 hts gX8_layered_X8_worldAt rfl rfl rfl (by decide +kernel) ⟨Nat.le_of_ble_eq_true rfl, Nat.le_of_ble_eq_true rfl⟩) S m_xb e_xb (T := TX8) (N := 8) rfl rfl hl.1 rfl (Nat.le_of_ble_eq_true rfl) dX8_layered_2 ⟨Nat.le_of_ble_eq_true rfl, Nat.le_of_ble_eq_true rfl⟩ (fun r3 L1 f2 H locs S w2 => ?_)
  obtain ⟨ex, eL, ef⟩ := w2
  rw [eL, ef] at S
  replace ex := ex.symm
  subst ex
  refine W.eq (g2 := F0 m 5 ls [.ref wb]) rfl ?_
  refine lv_astore (lv' := [(4, .ref wb), (0, .ref xb), (1, .int wi), (2, .int wa), (3, .int sd_)]) hx hb dX8_layered_5 hl (by decide) rfl (fun ls hl => ?_)
  refine lv_aload_n hx hb dX8_layered_7 rfl (lv_at hl 1 rfl) ?_
  refine lv_iload_n hx hb dX8_layered_8 rfl (lv_at hl 3 rfl) ?_
  refine q_vq (As := [.int wa]) (rest := []) ⟨hx, hb, hml, hown, hts⟩ (k_X8_worldAt l D g m_xb e_xb m_wo e_wo hw9) (cwV 1 hts gX8_layered_X8_worldAt rfl rfl rfl (by decide +kernel) ⟨Nat.le_of_ble_eq_true rfl, Nat.le_of_ble_eq_true rfl⟩) S m_xb e_xb (T := TX8) (N := 8) rfl rfl hl.1 rfl (Nat.le_of_ble_eq_true rfl) dX8_layered_9 ⟨Nat.le_of_ble_eq_true rfl, Nat.le_of_ble_eq_true rfl⟩ (fun r6 L4 f5 H locs S w9 => ?_)
  obtain ⟨ex, eL, ef⟩ := w9
  rw [eL, ef] at S
  replace ex := ex.symm
  subst ex
  refine W.eq (g2 := F0 m 12 ls [.null]) rfl ?_
  refine lv_astoreN (lv' := [(5, .null), (4, .ref wb), (0, .ref xb), (1, .int wi), (2, .int wa), (3, .int sd_)]) hx hb dX8_layered_12 hl (by decide) rfl (fun ls hl => ?_)
  refine lv_aload hx hb dX8_layered_14 (lv_at hl 1 rfl) ?_
  refine lv_ifnull hx hb dX8_layered_16 ?_
  refine lv_aloadN hx hb dX8_layered_19 (lv_at hl 0 rfl) ?_
  refine lv_ifnonnullN hx hb dX8_layered_21 ?_
  refine lv_iconst (v := (-1 : Int32)) hx hb dX8_layered_24 (by decide) ?_
  subst hQQ
  exact q_reti (post := fun x L1 f1 => x = z ∧ L1 = L ∧ f1 = f) hx hb hr hlk S dX8_layered_25 (by decide) (by decide) (by have hz := Option.some.inj hM; subst hz; exact ⟨rfl, rfl, rfl⟩)

def mX8_layeredNW  : Option (Int32) := some (-1 : Int32)
set_option maxHeartbeats 4000000 in
set_option maxRecDepth 100000 in
theorem k_X8_layeredNW (l : Launch) (D : va_G) (g : Nat → ClassId) {L : List Nat} {f : Nat → va_E} {Sl ch dr ri so th ub wo xb : Nat} {md : Int32} {wf : Nat → Option Nat} {wi : Int32} {wa : Int32} {sd_ : Int32} {z : Int32} (m_xb : xb ∈ L) (e_xb : f xb = .inr (6, [.ref wo, .ref Sl, .ref dr, .ref ri, .ref th, .ref so, .ref ch, .int md])) (m_wo : wo ∈ L) (e_wo : f wo = .inl (g 3, 8, .inr (.inr (.inr (.inr wf)))))   (hw2 : mX8_worldAt wf wi = some none) (hw9 : mX8_worldAt wf wa = some (some ub)) (hM : mX8_layeredNW = some z) : cI l yX8_layered wsX8_layered { frames := 1, cells := 0, slots := 0, locals := 21 } D g [.ref xb, .int wi, .int wa, .int sd_] L f 0 0 (fun x L1 f1 => x = z ∧ L1 = L ∧ f1 = f) := by
  refine cI_of (cc := cX8_layered) (maxL := 7) (ret := (some .int)) (by decide) rfl (Nat.le_of_ble_eq_true rfl) ?_
  intro szz p e s m below meth c hx hb hr hml hts hown hlk hnm S ls hl
  have hl : lv_has ls 7 [(0, .ref xb), (1, .int wi), (2, .int wa), (3, .int sd_)] := hl
  unfold mX8_layeredNW at hM
  refine W_gen (fun QQ hQQ => ?_)
  refine lv_aload_n hx hb dX8_layered_0 rfl (lv_at hl 0 rfl) ?_
  refine lv_iload_n hx hb dX8_layered_1 rfl (lv_at hl 1 rfl) ?_
  refine q_vq (As := [.int wi]) (rest := []) ⟨hx, hb, hml, hown, hts⟩ (k_X8_worldAt l D g m_xb e_xb m_wo e_wo hw2) (cwV 1 hts gX8_layered_X8_worldAt rfl rfl rfl (by decide +kernel) ⟨Nat.le_of_ble_eq_true rfl, Nat.le_of_ble_eq_true rfl⟩) S m_xb e_xb (T := TX8) (N := 8) rfl rfl hl.1 rfl (Nat.le_of_ble_eq_true rfl) dX8_layered_2 ⟨Nat.le_of_ble_eq_true rfl, Nat.le_of_ble_eq_true rfl⟩ (fun r3 L1 f2 H locs S w2 => ?_)
  obtain ⟨ex, eL, ef⟩ := w2
  rw [eL, ef] at S
  replace ex := ex.symm
  subst ex
  refine W.eq (g2 := F0 m 5 ls [.null]) rfl ?_
  refine lv_astoreN (lv' := [(4, .null), (0, .ref xb), (1, .int wi), (2, .int wa), (3, .int sd_)]) hx hb dX8_layered_5 hl (by decide) rfl (fun ls hl => ?_)
  refine lv_aload_n hx hb dX8_layered_7 rfl (lv_at hl 1 rfl) ?_
  refine lv_iload_n hx hb dX8_layered_8 rfl (lv_at hl 3 rfl) ?_
  refine q_vq (As := [.int wa]) (rest := []) ⟨hx, hb, hml, hown, hts⟩ (k_X8_worldAt l D g m_xb e_xb m_wo e_wo hw9) (cwV 1 hts gX8_layered_X8_worldAt rfl rfl rfl (by decide +kernel) ⟨Nat.le_of_ble_eq_true rfl, Nat.le_of_ble_eq_true rfl⟩) S m_xb e_xb (T := TX8) (N := 8) rfl rfl hl.1 rfl (Nat.le_of_ble_eq_true rfl) dX8_layered_9 ⟨Nat.le_of_ble_eq_true rfl, Nat.le_of_ble_eq_true rfl⟩ (fun r6 L4 f5 H locs S w9 => ?_)
  obtain ⟨ex, eL, ef⟩ := w9
  rw [eL, ef] at S
  replace ex := ex.symm
  subst ex
  refine W.eq (g2 := F0 m 12 ls [.ref ub]) rfl ?_
  refine lv_astore (lv' := [(5, .ref ub), (4, .null), (0, .ref xb), (1, .int wi), (2, .int wa), (3, .int sd_)]) hx hb dX8_layered_12 hl (by decide) rfl (fun ls hl => ?_)
  refine lv_aloadN hx hb dX8_layered_14 (lv_at hl 1 rfl) ?_
  refine lv_ifnullN (tgt := 24) hx hb dX8_layered_16 (by decide) ?_
  refine lv_iconst (v := (-1 : Int32)) hx hb dX8_layered_24 (by decide) ?_
  subst hQQ
  exact q_reti (post := fun x L1 f1 => x = z ∧ L1 = L ∧ f1 = f) hx hb hr hlk S dX8_layered_25 (by decide) (by decide) (by have hz := Option.some.inj hM; subst hz; exact ⟨rfl, rfl, rfl⟩)

def mX8_layeredNN  : Option (Int32) := some (-1 : Int32)
set_option maxHeartbeats 4000000 in
set_option maxRecDepth 100000 in
theorem k_X8_layeredNN (l : Launch) (D : va_G) (g : Nat → ClassId) {L : List Nat} {f : Nat → va_E} {Sl ch dr ri so th wo xb : Nat} {md : Int32} {wf : Nat → Option Nat} {wi : Int32} {wa : Int32} {sd_ : Int32} {z : Int32} (m_xb : xb ∈ L) (e_xb : f xb = .inr (6, [.ref wo, .ref Sl, .ref dr, .ref ri, .ref th, .ref so, .ref ch, .int md])) (m_wo : wo ∈ L) (e_wo : f wo = .inl (g 3, 8, .inr (.inr (.inr (.inr wf)))))   (hw2 : mX8_worldAt wf wi = some none) (hw9 : mX8_worldAt wf wa = some none) (hM : mX8_layeredNN = some z) : cI l yX8_layered wsX8_layered { frames := 1, cells := 0, slots := 0, locals := 21 } D g [.ref xb, .int wi, .int wa, .int sd_] L f 0 0 (fun x L1 f1 => x = z ∧ L1 = L ∧ f1 = f) := by
  refine cI_of (cc := cX8_layered) (maxL := 7) (ret := (some .int)) (by decide) rfl (Nat.le_of_ble_eq_true rfl) ?_
  intro szz p e s m below meth c hx hb hr hml hts hown hlk hnm S ls hl
  have hl : lv_has ls 7 [(0, .ref xb), (1, .int wi), (2, .int wa), (3, .int sd_)] := hl
  unfold mX8_layeredNN at hM
  refine W_gen (fun QQ hQQ => ?_)
  refine lv_aload_n hx hb dX8_layered_0 rfl (lv_at hl 0 rfl) ?_
  refine lv_iload_n hx hb dX8_layered_1 rfl (lv_at hl 1 rfl) ?_
  refine q_vq (As := [.int wi]) (rest := []) ⟨hx, hb, hml, hown, hts⟩ (k_X8_worldAt l D g m_xb e_xb m_wo e_wo hw2) (cwV 1 hts gX8_layered_X8_worldAt rfl rfl rfl (by decide +kernel) ⟨Nat.le_of_ble_eq_true rfl, Nat.le_of_ble_eq_true rfl⟩) S m_xb e_xb (T := TX8) (N := 8) rfl rfl hl.1 rfl (Nat.le_of_ble_eq_true rfl) dX8_layered_2 ⟨Nat.le_of_ble_eq_true rfl, Nat.le_of_ble_eq_true rfl⟩ (fun r3 L1 f2 H locs S w2 => ?_)
  obtain ⟨ex, eL, ef⟩ := w2
  rw [eL, ef] at S
  replace ex := ex.symm
  subst ex
  refine W.eq (g2 := F0 m 5 ls [.null]) rfl ?_
  refine lv_astoreN (lv' := [(4, .null), (0, .ref xb), (1, .int wi), (2, .int wa), (3, .int sd_)]) hx hb dX8_layered_5 hl (by decide) rfl (fun ls hl => ?_)
  refine lv_aload_n hx hb dX8_layered_7 rfl (lv_at hl 1 rfl) ?_
  refine lv_iload_n hx hb dX8_layered_8 rfl (lv_at hl 3 rfl) ?_
  refine q_vq (As := [.int wa]) (rest := []) ⟨hx, hb, hml, hown, hts⟩ (k_X8_worldAt l D g m_xb e_xb m_wo e_wo hw9) (cwV 1 hts gX8_layered_X8_worldAt rfl rfl rfl (by decide +kernel) ⟨Nat.le_of_ble_eq_true rfl, Nat.le_of_ble_eq_true rfl⟩) S m_xb e_xb (T := TX8) (N := 8) rfl rfl hl.1 rfl (Nat.le_of_ble_eq_true rfl) dX8_layered_9 ⟨Nat.le_of_ble_eq_true rfl, Nat.le_of_ble_eq_true rfl⟩ (fun r6 L4 f5 H locs S w9 => ?_)
  obtain ⟨ex, eL, ef⟩ := w9
  rw [eL, ef] at S
  replace ex := ex.symm
  subst ex
  refine W.eq (g2 := F0 m 12 ls [.null]) rfl ?_
  refine lv_astoreN (lv' := [(5, .null), (4, .null), (0, .ref xb), (1, .int wi), (2, .int wa), (3, .int sd_)]) hx hb dX8_layered_12 hl (by decide) rfl (fun ls hl => ?_)
  refine lv_aloadN hx hb dX8_layered_14 (lv_at hl 1 rfl) ?_
  refine lv_ifnullN (tgt := 24) hx hb dX8_layered_16 (by decide) ?_
  refine lv_iconst (v := (-1 : Int32)) hx hb dX8_layered_24 (by decide) ?_
  subst hQQ
  exact q_reti (post := fun x L1 f1 => x = z ∧ L1 = L ∧ f1 = f) hx hb hr hlk S dX8_layered_25 (by decide) (by decide) (by have hz := Option.some.inj hM; subst hz; exact ⟨rfl, rfl, rfl⟩)
