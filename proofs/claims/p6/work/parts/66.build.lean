def mX3_build_L30 (nsd : Int32) (z24 : Int32) (rv : Nat → Int64) : Nat → Int32 → Int32 → (Nat → Int32) → (Nat → Int32) → (Nat → Nat → Int64) → Int32 → (Nat → Int64) → Int32 → (Nat → Int64) → Int32 → (Nat → Int64) → Option (Int32 × Int32 × (Nat → Int32) × Int32 × (Nat → Int64) × (Nat → Int32) × (Nat → Nat → Int64))
  | 0, _, _, _, _, _, _, _, _, _, _, _ => none
  | fu + 1, x8_30, cLC_30, cCA_30, cLZ_30, cLD_30, iN_30, iV_30, rN_30, rV_30, tN_30, tV_30 => if (20 : Int32) ≤ x8_30 then (some (cLC_30, nsd, cCA_30, z24, rv, cLZ_30, cLD_30)) else (if ix x8_30 20 = true then ((mX3_addLayer nsd cCA_30 x8_30 (cLD_30 (Int32.toNatClampNeg x8_30)) iN_30 iV_30).bind fun z42 => if ix x8_30 20 = true then ((mX3_sift nsd x8_30 ((upd cLZ_30 (Int32.toNatClampNeg x8_30) z42.2.2.1) (Int32.toNatClampNeg x8_30)) ((va_up cLD_30 (Int32.toNatClampNeg x8_30) z42.2.2.2) (Int32.toNatClampNeg x8_30)) rN_30 rV_30 tV_30).bind fun z52 => (mX0_count z52.1).bind fun z57 => if z57 = 0 then (some (z42.1, nsd, z42.2.1, z24, rv, (upd cLZ_30 (Int32.toNatClampNeg x8_30) z42.2.2.1), (va_up cLD_30 (Int32.toNatClampNeg x8_30) z42.2.2.2))) else ((mX0_count z52.1).bind fun z69 => (mX3_isRestBehind z42.2.1 x8_30 z69).bind fun z72 => if z72 = 0 then (mX3_build_L30 nsd z24 rv fu (x8_30 + 1) z42.1 z42.2.1 (upd cLZ_30 (Int32.toNatClampNeg x8_30) z42.2.2.1) (va_up cLD_30 (Int32.toNatClampNeg x8_30) z42.2.2.2) z52.1 z52.2 iN_30 iV_30 rN_30 rV_30) else ((mX0_copyFrom rv z52.1 z52.2).bind fun z84 => some (z42.1, nsd, z42.2.1, z84.1, z84.2, (upd cLZ_30 (Int32.toNatClampNeg x8_30) z42.2.2.1), (va_up cLD_30 (Int32.toNatClampNeg x8_30) z42.2.2.2))))) else none) else none)
def mX3_build (kca : Nat → Int32) (rv : Nat → Int64) (lz : Nat → Int32) (ld : Nat → Nat → Int64) (n1 : Int32) (v1 : Nat → Int64) (n2 : Int32) (v2 : Nat → Int64) (n3 : Int32) (v3 : Nat → Int64) (nsd : Int32) : Option (Int32 × Int32 × (Nat → Int32) × Int32 × (Nat → Int64) × (Nat → Int32) × (Nat → Nat → Int64)) := (mX0_empty).bind fun z24 => mX3_build_L30 nsd z24 rv FU (0 : Int32) (0 : Int32) kca lz ld n1 v1 n2 v2 n3 v3
set_option maxHeartbeats 4000000 in
set_option maxRecDepth 100000 in
theorem k_X3_build (l : Launch) (D : va_G) (g : Nat → ClassId) {L : List Nat} {f : Nat → va_E} {lb lw : Nat → Nat} {ca la o1 o2 o3 r1 r2 r3 re ro rr : Nat} {lc : Int32} {lsd : Int32} {rf : Nat → Option Nat} {kca : Nat → Int32} {rn : Int32} {rv : Nat → Int64} {lz : Nat → Int32} {ld : Nat → Nat → Int64} {n1 : Int32} {v1 : Nat → Int64} {n2 : Int32} {v2 : Nat → Int64} {n3 : Int32} {v3 : Nat → Int64} {nsd : Int32} {z : Int32 × Int32 × (Nat → Int32) × Int32 × (Nat → Int64) × (Nat → Int32) × (Nat → Nat → Int64)} (m_la : la ∈ L) (e_la : f la = .inr (3, [.ref ro, .ref ca, .ref re, .int lc, .int lsd])) (m_ro : ro ∈ L) (e_ro : f ro = .inl (g 4, 20, .inr (.inr (.inr (.inr rf))))) (m_ca : ca ∈ L) (e_ca : f ca = .inl (g 0, 20, .inl kca)) (m_re : re ∈ L) (e_re : f re = .inr (0, [.ref rr, .int rn])) (m_rr : rr ∈ L) (e_rr : f rr = .inl (g 1, 1000, .inr (.inl rv))) (e_fam : LF g L f rf lb lw lz ld) (m_o1 : o1 ∈ L) (e_o1 : f o1 = .inr (0, [.ref r1, .int n1])) (m_r1 : r1 ∈ L) (e_r1 : f r1 = .inl (g 1, 1000, .inr (.inl v1))) (m_o2 : o2 ∈ L) (e_o2 : f o2 = .inr (0, [.ref r2, .int n2])) (m_r2 : r2 ∈ L) (e_r2 : f r2 = .inl (g 1, 1000, .inr (.inl v2))) (m_o3 : o3 ∈ L) (e_o3 : f o3 = .inr (0, [.ref r3, .int n3])) (m_r3 : r3 ∈ L) (e_r3 : f r3 = .inl (g 1, 1000, .inr (.inl v3))) (n_o1_re : o1 ≠ re) (n_o2_re : o2 ≠ re) (n_o3_re : o3 ≠ re) (n_o2_o3 : o2 ≠ o3) (n_rr_r3 : rr ≠ r3) (n_r2_r3 : r2 ≠ r3) (n_o1_o3 : o1 ≠ o3) (n_r1_r3 : r1 ≠ r3) (n_r1_rr : r1 ≠ rr) (n_r2_rr : r2 ≠ rr) (n_o1_o2 : o1 ≠ o2) (n_r1_r2 : r1 ≠ r2)  (hdis : LD lb lw) (hM : mX3_build kca rv lz ld n1 v1 n2 v2 n3 v3 nsd = some z) : cV l yX3_build wsX3_build { frames := 4, cells := 0, slots := 0, locals := 98 } D g [.ref la, .ref o1, .ref o2, .ref o3, .int nsd] L f 0 0 (fun L1 f1 => L1 = L ∧ (∀ b, b ∈ L → b ≠ la → b ≠ ca → b ≠ re → b ≠ rr → (∀ j, j < 20 → b ≠ lb j ∧ b ≠ lw j) → b ≠ o1 → b ≠ r1 → b ≠ o2 → b ≠ r2 → b ≠ o3 → b ≠ r3 → f1 b = f b) ∧ f1 la = .inr (3, [.ref ro, .ref ca, .ref re, .int z.1, .int z.2.1]) ∧ f1 ca = .inl (g 0, 20, .inl z.2.2.1) ∧ f1 re = .inr (0, [.ref rr, .int z.2.2.2.1]) ∧ f1 rr = .inl (g 1, 1000, .inr (.inl z.2.2.2.2.1)) ∧ LF g L f1 rf lb lw z.2.2.2.2.2.1 z.2.2.2.2.2.2 ∧ (∃ j1 : Int32, f1 o1 = .inr (0, [.ref r1, .int j1])) ∧ (∃ j0 : Nat → Int64, f1 r1 = .inl (g 1, 1000, .inr (.inl j0))) ∧ (∃ j1 : Int32, f1 o2 = .inr (0, [.ref r2, .int j1])) ∧ (∃ j0 : Nat → Int64, f1 r2 = .inl (g 1, 1000, .inr (.inl j0))) ∧ (∃ j1 : Int32, f1 o3 = .inr (0, [.ref r3, .int j1])) ∧ (∃ j0 : Nat → Int64, f1 r3 = .inl (g 1, 1000, .inr (.inl j0)))) := by
  refine cV_of (cc := cX3_build) (maxL := 10) (ret := none) (by decide) rfl (Nat.le_of_ble_eq_true rfl) ?_
  intro szz p e s m below meth c hx hb hr hml hts hown hlk hnm S ls hl
  have hl : lv_has ls 10 [(0, .ref la), (1, .ref o1), (2, .ref o2), (3, .ref o3), (4, .int nsd)] := hl
  have in_X3 : ∀ w ∈ wsX30, w ∈ wsX3_build := gu_wsX3_build_6
  have n_re_la : re ≠ la := ne_rr e_la e_re (by decide)
  have n_la_re : la ≠ re := ne_rr e_re e_la (by decide)
  have n_ro_la : ro ≠ la := ne_ri e_la e_ro
  have n_ro_re : ro ≠ re := ne_ri e_re e_ro
  have n_ca_la : ca ≠ la := ne_ri e_la e_ca
  have n_ca_re : ca ≠ re := ne_ri e_re e_ca
  have n_rr_la : rr ≠ la := ne_ri e_la e_rr
  have n_rr_re : rr ≠ re := ne_ri e_re e_rr
  have n_fam_la : ∀ j, j < 20 → lb j ≠ la ∧ lw j ≠ la := fam_sy (fam_no e_fam e_la (by decide))
  have n_fam_re : ∀ j, j < 20 → lb j ≠ re ∧ lw j ≠ re := fam_sy (fam_no e_fam e_re (by decide))
  have n_o1_la : o1 ≠ la := ne_rr e_la e_o1 (by decide)
  have n_r1_la : r1 ≠ la := ne_ri e_la e_r1
  have n_r1_re : r1 ≠ re := ne_ri e_re e_r1
  have n_o2_la : o2 ≠ la := ne_rr e_la e_o2 (by decide)
  have n_r2_la : r2 ≠ la := ne_ri e_la e_r2
  have n_r2_re : r2 ≠ re := ne_ri e_re e_r2
  have n_o3_la : o3 ≠ la := ne_rr e_la e_o3 (by decide)
  have n_r3_la : r3 ≠ la := ne_ri e_la e_r3
  have n_r3_re : r3 ≠ re := ne_ri e_re e_r3
  have n_fam_ca : ∀ j, j < 20 → lb j ≠ ca ∧ lw j ≠ ca := fam_sy (fam_na e_fam e_ca (by decide))
  have n_ro_ca : ro ≠ ca := ne_01 e_ca e_ro
  have n_ro_fam : ∀ j, j < 20 → ro ≠ lb j ∧ ro ≠ lw j := (fam_na e_fam e_ro (by decide))
  have n_re_ca : re ≠ ca := ne_ir e_ca e_re
  have n_re_fam : ∀ j, j < 20 → re ≠ lb j ∧ re ≠ lw j := (fam_no e_fam e_re (by decide))
  have n_rr_ca : rr ≠ ca := ne_len e_ca e_rr (by decide)
  have n_rr_fam : ∀ j, j < 20 → rr ≠ lb j ∧ rr ≠ lw j := (fam_na e_fam e_rr (by decide))
  have n_o2_ca : o2 ≠ ca := ne_ir e_ca e_o2
  have n_o2_fam : ∀ j, j < 20 → o2 ≠ lb j ∧ o2 ≠ lw j := (fam_no e_fam e_o2 (by decide))
  have n_r2_ca : r2 ≠ ca := ne_len e_ca e_r2 (by decide)
  have n_r2_fam : ∀ j, j < 20 → r2 ≠ lb j ∧ r2 ≠ lw j := (fam_na e_fam e_r2 (by decide))
  have n_o3_ca : o3 ≠ ca := ne_ir e_ca e_o3
  have n_o3_fam : ∀ j, j < 20 → o3 ≠ lb j ∧ o3 ≠ lw j := (fam_no e_fam e_o3 (by decide))
  have n_r3_ca : r3 ≠ ca := ne_len e_ca e_r3 (by decide)
  have n_r3_fam : ∀ j, j < 20 → r3 ≠ lb j ∧ r3 ≠ lw j := (fam_na e_fam e_r3 (by decide))
  have n_re_o3 := Ne.symm n_o3_re
  have n_la_o3 : la ≠ o3 := ne_rr e_o3 e_la (by decide)
  have n_la_r3 : la ≠ r3 := ne_ir e_r3 e_la
  have n_ca_o3 : ca ≠ o3 := ne_ri e_o3 e_ca
  have n_ca_r3 : ca ≠ r3 := ne_len e_r3 e_ca (by decide)
  have n_ro_o3 : ro ≠ o3 := ne_ri e_o3 e_ro
  have n_ro_r3 : ro ≠ r3 := ne_len e_r3 e_ro (by decide)
  have n_re_r3 : re ≠ r3 := ne_ir e_r3 e_re
  have n_rr_o3 : rr ≠ o3 := ne_ri e_o3 e_rr
  have n_fam_o3 : ∀ j, j < 20 → lb j ≠ o3 ∧ lw j ≠ o3 := fam_sy (fam_no e_fam e_o3 (by decide))
  have n_fam_r3 : ∀ j, j < 20 → lb j ≠ r3 ∧ lw j ≠ r3 := fam_sy (fam_na e_fam e_r3 (by decide))
  have n_o1_ca : o1 ≠ ca := ne_ir e_ca e_o1
  have n_o1_fam : ∀ j, j < 20 → o1 ≠ lb j ∧ o1 ≠ lw j := (fam_no e_fam e_o1 (by decide))
  have n_o1_r3 : o1 ≠ r3 := ne_ir e_r3 e_o1
  have n_r1_ca : r1 ≠ ca := ne_len e_ca e_r1 (by decide)
  have n_r1_fam : ∀ j, j < 20 → r1 ≠ lb j ∧ r1 ≠ lw j := (fam_na e_fam e_r1 (by decide))
  have n_r1_o3 : r1 ≠ o3 := ne_ri e_o3 e_r1
  have n_o2_r3 : o2 ≠ r3 := ne_ir e_r3 e_o2
  have n_r2_o3 : r2 ≠ o3 := ne_ri e_o3 e_r2
  have n_la_rr : la ≠ rr := ne_ir e_rr e_la
  have n_ca_rr : ca ≠ rr := ne_len e_rr e_ca (by decide)
  have n_fam_rr : ∀ j, j < 20 → lb j ≠ rr ∧ lw j ≠ rr := fam_sy (fam_na e_fam e_rr (by decide))
  have n_o1_rr : o1 ≠ rr := ne_ir e_rr e_o1
  have n_o2_rr : o2 ≠ rr := ne_ir e_rr e_o2
  have n_o3_rr : o3 ≠ rr := ne_ir e_rr e_o3
  have n_r3_rr := Ne.symm n_rr_r3
  have n_re_o2 := Ne.symm n_o2_re
  have n_rr_r2 := Ne.symm n_r2_rr
  have n_la_o2 : la ≠ o2 := ne_rr e_o2 e_la (by decide)
  have n_la_r2 : la ≠ r2 := ne_ir e_r2 e_la
  have n_ca_o2 : ca ≠ o2 := ne_ri e_o2 e_ca
  have n_ca_r2 : ca ≠ r2 := ne_len e_r2 e_ca (by decide)
  have n_ro_o2 : ro ≠ o2 := ne_ri e_o2 e_ro
  have n_ro_r2 : ro ≠ r2 := ne_len e_r2 e_ro (by decide)
  have n_re_r2 : re ≠ r2 := ne_ir e_r2 e_re
  have n_rr_o2 : rr ≠ o2 := ne_ri e_o2 e_rr
  have n_fam_o2 : ∀ j, j < 20 → lb j ≠ o2 ∧ lw j ≠ o2 := fam_sy (fam_no e_fam e_o2 (by decide))
  have n_fam_r2 : ∀ j, j < 20 → lb j ≠ r2 ∧ lw j ≠ r2 := fam_sy (fam_na e_fam e_r2 (by decide))
  have n_o1_r2 : o1 ≠ r2 := ne_ir e_r2 e_o1
  have n_r1_o2 : r1 ≠ o2 := ne_ri e_o2 e_r1
  have n_o3_o2 := Ne.symm n_o2_o3
  have n_o3_r2 : o3 ≠ r2 := ne_ir e_r2 e_o3
  have n_r3_o2 : r3 ≠ o2 := ne_ri e_o2 e_r3
  have n_r3_r2 := Ne.symm n_r2_r3
  have n_re_o1 := Ne.symm n_o1_re
  have n_o3_o1 := Ne.symm n_o1_o3
  have n_rr_r1 := Ne.symm n_r1_rr
  have n_r3_r1 := Ne.symm n_r1_r3
  have n_la_o1 : la ≠ o1 := ne_rr e_o1 e_la (by decide)
  have n_la_r1 : la ≠ r1 := ne_ir e_r1 e_la
  have n_ca_o1 : ca ≠ o1 := ne_ri e_o1 e_ca
  have n_ca_r1 : ca ≠ r1 := ne_len e_r1 e_ca (by decide)
  have n_ro_o1 : ro ≠ o1 := ne_ri e_o1 e_ro
  have n_ro_r1 : ro ≠ r1 := ne_len e_r1 e_ro (by decide)
  have n_re_r1 : re ≠ r1 := ne_ir e_r1 e_re
  have n_rr_o1 : rr ≠ o1 := ne_ri e_o1 e_rr
  have n_fam_o1 : ∀ j, j < 20 → lb j ≠ o1 ∧ lw j ≠ o1 := fam_sy (fam_no e_fam e_o1 (by decide))
  have n_fam_r1 : ∀ j, j < 20 → lb j ≠ r1 ∧ lw j ≠ r1 := fam_sy (fam_na e_fam e_r1 (by decide))
  have n_o2_o1 := Ne.symm n_o1_o2
  have n_o2_r1 : o2 ≠ r1 := ne_ir e_r1 e_o2
  have n_r2_o1 : r2 ≠ o1 := ne_ri e_o1 e_r2
  have n_r2_r1 := Ne.symm n_r1_r2
  have n_o3_r1 : o3 ≠ r1 := ne_ir e_r1 e_o3
  have n_r3_o1 : r3 ≠ o1 := ne_ri e_o1 e_r3
  have fr : ∀ b, b ∈ L → b ≠ la → b ≠ ca → b ≠ re → b ≠ rr → (∀ j, j < 20 → b ≠ lb j ∧ b ≠ lw j) → b ≠ o1 → b ≠ r1 → b ≠ o2 → b ≠ r2 → b ≠ o3 → b ≠ r3 → f b = f b := fun _ _ _ _ _ _ _ _ _ _ _ _ _ => rfl
  unfold mX3_build at hM
  refine W_gen (fun QQ hQQ => ?_)
  refine lv_aload_n hx hb dX3_build_0 rfl (lv_at hl 1 rfl) ?_
  refine lv_astore (lv' := [(5, .ref o1), (0, .ref la), (1, .ref o1), (2, .ref o2), (3, .ref o3), (4, .int nsd)]) hx hb dX3_build_1 hl (by decide) rfl (fun ls hl => ?_)
  refine lv_aload_n hx hb dX3_build_3 rfl (lv_at hl 3 rfl) ?_
  refine lv_astore (lv' := [(6, .ref o2), (5, .ref o1), (0, .ref la), (1, .ref o1), (2, .ref o2), (3, .ref o3), (4, .int nsd)]) hx hb dX3_build_4 hl (by decide) rfl (fun ls hl => ?_)
  refine lv_aload_n hx hb dX3_build_6 rfl (lv_at hl 5 rfl) ?_
  refine lv_astore (lv' := [(7, .ref o3), (6, .ref o2), (5, .ref o1), (0, .ref la), (1, .ref o1), (2, .ref o2), (3, .ref o3), (4, .int nsd)]) hx hb dX3_build_7 hl (by decide) rfl (fun ls hl => ?_)
  refine lv_aload_n hx hb dX3_build_9 rfl (lv_at hl 3 rfl) ?_
  refine lv_iconst (v := (0 : Int32)) hx hb dX3_build_10 (by decide) ?_
  refine k_put hx hb hts in_X3 tyX3 tyX3_ok nmX3 hown S m_la e_la (C := RX3) (T := TX3) (N := 5) rfl 3 (by decide) (hts (.fieldLink RX3 29 "SieveCabinet$Layers" "count" "I") (gu_wsX3_build_1 _ gm_0)) rfl rfl rfl (Nat.le_of_ble_eq_true rfl) dX3_build_11 (fun f1 ef1 H locs S => ?_)
  have e_la : f1 la = .inr (3, [.ref ro, .ref ca, .ref re, .int (0 : Int32), .int lsd]) := up_self ef1
  have fr : ∀ b, b ∈ L → b ≠ la → b ≠ ca → b ≠ re → b ≠ rr → (∀ j, j < 20 → b ≠ lb j ∧ b ≠ lw j) → b ≠ o1 → b ≠ r1 → b ≠ o2 → b ≠ r2 → b ≠ o3 → b ≠ r3 → f1 b = f b := fun b mb nb0 nb1 nb2 nb3 nb4 nb5 nb6 nb7 nb8 nb9 nb10 => (up_ne ef1 nb0 rfl).trans (fr b mb nb0 nb1 nb2 nb3 nb4 nb5 nb6 nb7 nb8 nb9 nb10)
  refine lv_aload_n hx hb dX3_build_14 rfl (lv_at hl 3 rfl) ?_
  refine lv_iload hx hb dX3_build_15 (lv_at hl 7 rfl) ?_
  refine k_put hx hb hts in_X3 tyX3 tyX3_ok nmX3 hown S m_la e_la (C := RX3) (T := TX3) (N := 5) rfl 4 (by decide) (hts (.fieldLink RX3 36 "SieveCabinet$Layers" "seed" "I") (gu_wsX3_build_1 _ gm_1)) rfl rfl rfl (Nat.le_of_ble_eq_true rfl) dX3_build_17 (fun f2 ef2 H locs S => ?_)
  have e_la : f2 la = .inr (3, [.ref ro, .ref ca, .ref re, .int (0 : Int32), .int nsd]) := up_self ef2
  have fr : ∀ b, b ∈ L → b ≠ la → b ≠ ca → b ≠ re → b ≠ rr → (∀ j, j < 20 → b ≠ lb j ∧ b ≠ lw j) → b ≠ o1 → b ≠ r1 → b ≠ o2 → b ≠ r2 → b ≠ o3 → b ≠ r3 → f2 b = f b := fun b mb nb0 nb1 nb2 nb3 nb4 nb5 nb6 nb7 nb8 nb9 nb10 => (up_ne ef2 nb0 rfl).trans (fr b mb nb0 nb1 nb2 nb3 nb4 nb5 nb6 nb7 nb8 nb9 nb10)
  refine lv_aload_n hx hb dX3_build_20 rfl (lv_at hl 3 rfl) ?_
  refine q_get hx hb hts in_X3 hown S m_la e_la (C := RX3) (T := TX3) (N := 5) rfl 2 (by decide) rfl (hts (.fieldLink RX3 24 "SieveCabinet$Layers" "rest" "LSieveCabinet$Bag;") (gu_wsX3_build_1 _ gm_2)) dX3_build_21 ?_
  obtain ⟨z24, hz24, hM⟩ := bind_some hM
  have e_re := (up_ne ef2 n_re_la (up_ne ef1 n_re_la e_re))
  refine q_vv (As := []) (rest := []) ⟨hx, hb, hml, hown, hts⟩ (k_X0_empty l D g m_re e_re hz24) (cwV 0 hts gX3_build_X0_empty rfl rfl rfl (by decide +kernel) ⟨Nat.le_of_ble_eq_true rfl, Nat.le_of_ble_eq_true rfl⟩) S m_re e_re (T := TX0) (N := 2) rfl rfl hl.1 rfl (Nat.le_of_ble_eq_true rfl) dX3_build_24 ⟨Nat.le_of_ble_eq_true rfl, Nat.le_of_ble_eq_true rfl⟩ (fun L3 f4 H locs S w24 => ?_)
  obtain ⟨eL, fv24, E_re⟩ := w24
  rw [eL] at S
  have fr : ∀ b, b ∈ L → b ≠ la → b ≠ ca → b ≠ re → b ≠ rr → (∀ j, j < 20 → b ≠ lb j ∧ b ≠ lw j) → b ≠ o1 → b ≠ r1 → b ≠ o2 → b ≠ r2 → b ≠ o3 → b ≠ r3 → f4 b = f b := fun b mb nb0 nb1 nb2 nb3 nb4 nb5 nb6 nb7 nb8 nb9 nb10 => (fv24 b mb nb2).trans (fr b mb nb0 nb1 nb2 nb3 nb4 nb5 nb6 nb7 nb8 nb9 nb10)
  have e_re : f4 re = .inr (0, [.ref rr, .int z24]) := E_re
  refine lv_iconst (v := (0 : Int32)) hx hb dX3_build_27 (by decide) ?_
  refine lv_istore (lv' := [(8, .int (0 : Int32)), (7, .ref o3), (6, .ref o2), (5, .ref o1), (0, .ref la), (1, .ref o1), (2, .ref o2), (3, .ref o3), (4, .int nsd)]) hx hb dX3_build_28 hl (by decide) rfl (fun ls hl => ?_)
  have e_la := ((fv24 la m_la n_la_re).trans e_la)
  have e_ro := ((fv24 ro m_ro n_ro_re).trans (up_ne ef2 n_ro_la (up_ne ef1 n_ro_la e_ro)))
  have e_ca := ((fv24 ca m_ca n_ca_re).trans (up_ne ef2 n_ca_la (up_ne ef1 n_ca_la e_ca)))
  have e_rr := ((fv24 rr m_rr n_rr_re).trans (up_ne ef2 n_rr_la (up_ne ef1 n_rr_la e_rr)))
  have e_fam := (LF_ext (LF_up (LF_up e_fam ef1 n_fam_la) ef2 n_fam_la) (fun j hj q1 q2 => ⟨fv24 (lb j) q1 (n_fam_re j hj).1, fv24 (lw j) q2 (n_fam_re j hj).2⟩))
  have e_o1 := ((fv24 o1 m_o1 n_o1_re).trans (up_ne ef2 n_o1_la (up_ne ef1 n_o1_la e_o1)))
  have e_r1 := ((fv24 r1 m_r1 n_r1_re).trans (up_ne ef2 n_r1_la (up_ne ef1 n_r1_la e_r1)))
  have e_o2 := ((fv24 o2 m_o2 n_o2_re).trans (up_ne ef2 n_o2_la (up_ne ef1 n_o2_la e_o2)))
  have e_r2 := ((fv24 r2 m_r2 n_r2_re).trans (up_ne ef2 n_r2_la (up_ne ef1 n_r2_la e_r2)))
  have e_o3 := ((fv24 o3 m_o3 n_o3_re).trans (up_ne ef2 n_o3_la (up_ne ef1 n_o3_la e_o3)))
  have e_r3 := ((fv24 r3 m_r3 n_r3_re).trans (up_ne ef2 n_r3_la (up_ne ef1 n_r3_la e_r3)))
  have LP30 : ∀ (fu : Nat), (∀ (x8_30 : Int32) (cLC_30 : Int32) (cCA_30 : Nat → Int32) (cLZ_30 : Nat → Int32) (cLD_30 : Nat → Nat → Int64) (iN_30 : Int32) (iV_30 : Nat → Int64) (rN_30 : Int32) (rV_30 : Nat → Int64) (tN_30 : Int32) (tV_30 : Nat → Int64) (fl30 : Nat → va_E) (H : Heap) (locs : List Loc) (ls : Array Slot), mX3_build_L30 nsd z24 rv fu x8_30 cLC_30 cCA_30 cLZ_30 cLD_30 iN_30 iV_30 rN_30 rV_30 tN_30 tV_30 = some z → PS D g (va_A (va_pl L f) szz) s.heap s L fl30 H locs → fl30 la = .inr (3, [.ref ro, .ref ca, .ref re, .int cLC_30, .int nsd]) → fl30 ro = .inl (g 4, 20, .inr (.inr (.inr (.inr rf)))) → fl30 ca = .inl (g 0, 20, .inl cCA_30) → fl30 re = .inr (0, [.ref rr, .int z24]) → fl30 rr = .inl (g 1, 1000, .inr (.inl rv)) → LF g L fl30 rf lb lw cLZ_30 cLD_30 → fl30 o1 = .inr (0, [.ref r1, .int iN_30]) → fl30 r1 = .inl (g 1, 1000, .inr (.inl iV_30)) → fl30 o2 = .inr (0, [.ref r2, .int rN_30]) → fl30 r2 = .inl (g 1, 1000, .inr (.inl rV_30)) → fl30 o3 = .inr (0, [.ref r3, .int tN_30]) → fl30 r3 = .inl (g 1, 1000, .inr (.inl tV_30)) → (∀ b, b ∈ L → b ≠ la → b ≠ ca → b ≠ re → b ≠ rr → (∀ j, j < 20 → b ≠ lb j ∧ b ≠ lw j) → b ≠ o1 → b ≠ r1 → b ≠ o2 → b ≠ r2 → b ≠ o3 → b ≠ r3 → fl30 b = f b) → lv_has ls 10 [(8, .int x8_30), (5, .ref o1), (6, .ref o2), (7, .ref o3), (0, .ref la)] → W p l e { frames := 4, cells := 0, slots := 0, locals := 98 } s m [.ref la, .ref o1, .ref o2, .ref o3, .int nsd].toArray below meth c H locs 0 0 QQ (F0 m 30 ls [])) ∧ (∀ (x8_30 : Int32) (cLC_30 : Int32) (cCA_30 : Nat → Int32) (cLZ_30 : Nat → Int32) (cLD_30 : Nat → Nat → Int64) (iN_30 : Int32) (iV_30 : Nat → Int64) (rN_30 : Int32) (rV_30 : Nat → Int64) (tN_30 : Int32) (tV_30 : Nat → Int64) (fl30 : Nat → va_E) (H : Heap) (locs : List Loc) (ls : Array Slot), mX3_build_L30 nsd z24 rv fu x8_30 cLC_30 cCA_30 cLZ_30 cLD_30 iN_30 iV_30 rN_30 rV_30 tN_30 tV_30 = some z → PS D g (va_A (va_pl L f) szz) s.heap s L fl30 H locs → fl30 la = .inr (3, [.ref ro, .ref ca, .ref re, .int cLC_30, .int nsd]) → fl30 ro = .inl (g 4, 20, .inr (.inr (.inr (.inr rf)))) → fl30 ca = .inl (g 0, 20, .inl cCA_30) → fl30 re = .inr (0, [.ref rr, .int z24]) → fl30 rr = .inl (g 1, 1000, .inr (.inl rv)) → LF g L fl30 rf lb lw cLZ_30 cLD_30 → fl30 o1 = .inr (0, [.ref r1, .int rN_30]) → fl30 r1 = .inl (g 1, 1000, .inr (.inl rV_30)) → fl30 o2 = .inr (0, [.ref r2, .int tN_30]) → fl30 r2 = .inl (g 1, 1000, .inr (.inl tV_30)) → fl30 o3 = .inr (0, [.ref r3, .int iN_30]) → fl30 r3 = .inl (g 1, 1000, .inr (.inl iV_30)) → (∀ b, b ∈ L → b ≠ la → b ≠ ca → b ≠ re → b ≠ rr → (∀ j, j < 20 → b ≠ lb j ∧ b ≠ lw j) → b ≠ o1 → b ≠ r1 → b ≠ o2 → b ≠ r2 → b ≠ o3 → b ≠ r3 → fl30 b = f b) → lv_has ls 10 [(8, .int x8_30), (5, .ref o3), (6, .ref o1), (7, .ref o2), (0, .ref la)] → W p l e { frames := 4, cells := 0, slots := 0, locals := 98 } s m [.ref la, .ref o1, .ref o2, .ref o3, .int nsd].toArray below meth c H locs 0 0 QQ (F0 m 30 ls [])) ∧ (∀ (x8_30 : Int32) (cLC_30 : Int32) (cCA_30 : Nat → Int32) (cLZ_30 : Nat → Int32) (cLD_30 : Nat → Nat → Int64) (iN_30 : Int32) (iV_30 : Nat → Int64) (rN_30 : Int32) (rV_30 : Nat → Int64) (tN_30 : Int32) (tV_30 : Nat → Int64) (fl30 : Nat → va_E) (H : Heap) (locs : List Loc) (ls : Array Slot), mX3_build_L30 nsd z24 rv fu x8_30 cLC_30 cCA_30 cLZ_30 cLD_30 iN_30 iV_30 rN_30 rV_30 tN_30 tV_30 = some z → PS D g (va_A (va_pl L f) szz) s.heap s L fl30 H locs → fl30 la = .inr (3, [.ref ro, .ref ca, .ref re, .int cLC_30, .int nsd]) → fl30 ro = .inl (g 4, 20, .inr (.inr (.inr (.inr rf)))) → fl30 ca = .inl (g 0, 20, .inl cCA_30) → fl30 re = .inr (0, [.ref rr, .int z24]) → fl30 rr = .inl (g 1, 1000, .inr (.inl rv)) → LF g L fl30 rf lb lw cLZ_30 cLD_30 → fl30 o1 = .inr (0, [.ref r1, .int tN_30]) → fl30 r1 = .inl (g 1, 1000, .inr (.inl tV_30)) → fl30 o2 = .inr (0, [.ref r2, .int iN_30]) → fl30 r2 = .inl (g 1, 1000, .inr (.inl iV_30)) → fl30 o3 = .inr (0, [.ref r3, .int rN_30]) → fl30 r3 = .inl (g 1, 1000, .inr (.inl rV_30)) → (∀ b, b ∈ L → b ≠ la → b ≠ ca → b ≠ re → b ≠ rr → (∀ j, j < 20 → b ≠ lb j ∧ b ≠ lw j) → b ≠ o1 → b ≠ r1 → b ≠ o2 → b ≠ r2 → b ≠ o3 → b ≠ r3 → fl30 b = f b) → lv_has ls 10 [(8, .int x8_30), (5, .ref o2), (6, .ref o3), (7, .ref o1), (0, .ref la)] → W p l e { frames := 4, cells := 0, slots := 0, locals := 98 } s m [.ref la, .ref o1, .ref o2, .ref o3, .int nsd].toArray below meth c H locs 0 0 QQ (F0 m 30 ls [])) := by
    intro fu
    induction fu with
    | zero => refine ⟨?_, ?_, ?_⟩ <;> (intro x8_30 cLC_30 cCA_30 cLZ_30 cLD_30 iN_30 iV_30 rN_30 rV_30 tN_30 tV_30 fl30 H locs ls hM S e_la e_ro e_ca e_re e_rr e_fam e_o1 e_r1 e_o2 e_r2 e_o3 e_r3 fr hl; exact no_some hM)
    | succ fu ih30 =>
      refine ⟨?_, ?_, ?_⟩
      · intro x8_30 cLC_30 cCA_30 cLZ_30 cLD_30 iN_30 iV_30 rN_30 rV_30 tN_30 tV_30 fl30 H locs ls hM S e_la e_ro e_ca e_re e_rr e_fam e_o1 e_r1 e_o2 e_r2 e_o3 e_r3 fr hl
        rw [mX3_build_L30] at hM
        refine lv_iload hx hb dX3_build_30 (lv_at hl 0 rfl) ?_
        refine lv_bipush (v := (20 : Int32)) hx hb dX3_build_32 (by decide) ?_
        refine lv_icmp_ge (tgt := 110) hx hb dX3_build_34 (by decide) (fun b34 => ?_) (fun b34 => ?_)
        · have hM := itT b34 hM
          subst hQQ
          exact q_retv (post := fun L1 f1 => L1 = L ∧ (∀ b, b ∈ L → b ≠ la → b ≠ ca → b ≠ re → b ≠ rr → (∀ j, j < 20 → b ≠ lb j ∧ b ≠ lw j) → b ≠ o1 → b ≠ r1 → b ≠ o2 → b ≠ r2 → b ≠ o3 → b ≠ r3 → f1 b = f b) ∧ f1 la = .inr (3, [.ref ro, .ref ca, .ref re, .int z.1, .int z.2.1]) ∧ f1 ca = .inl (g 0, 20, .inl z.2.2.1) ∧ f1 re = .inr (0, [.ref rr, .int z.2.2.2.1]) ∧ f1 rr = .inl (g 1, 1000, .inr (.inl z.2.2.2.2.1)) ∧ LF g L f1 rf lb lw z.2.2.2.2.2.1 z.2.2.2.2.2.2 ∧ (∃ j1 : Int32, f1 o1 = .inr (0, [.ref r1, .int j1])) ∧ (∃ j0 : Nat → Int64, f1 r1 = .inl (g 1, 1000, .inr (.inl j0))) ∧ (∃ j1 : Int32, f1 o2 = .inr (0, [.ref r2, .int j1])) ∧ (∃ j0 : Nat → Int64, f1 r2 = .inl (g 1, 1000, .inr (.inl j0))) ∧ (∃ j1 : Int32, f1 o3 = .inr (0, [.ref r3, .int j1])) ∧ (∃ j0 : Nat → Int64, f1 r3 = .inl (g 1, 1000, .inr (.inl j0)))) hx hb hr hlk S dX3_build_110 (by decide) (by decide) (by have hz := Option.some.inj hM; subst hz; exact ⟨rfl, fr, e_la, e_ca, e_re, e_rr, e_fam, ⟨_, e_o1⟩, ⟨_, e_r1⟩, ⟨_, e_o2⟩, ⟨_, e_r2⟩, ⟨_, e_o3⟩, ⟨_, e_r3⟩⟩)
        · have hM := itF b34 hM
          refine lv_aload_n hx hb dX3_build_37 rfl (lv_at hl 4 rfl) ?_
          refine lv_iload hx hb dX3_build_38 (lv_at hl 0 rfl) ?_
          refine lv_aload hx hb dX3_build_40 (lv_at hl 1 rfl) ?_
          obtain ⟨hk42, hM⟩ := ckx hM
          obtain ⟨rb42, rw42, eb42, ew42, hF_rb42, m_rb42, e_rb42, m_rw42, e_rw42⟩ := LF_at e_fam hk42
          obtain ⟨z42, hz42, hM⟩ := bind_some hM
          refine q_vv (As := [.int x8_30, .ref o1]) (rest := []) ⟨hx, hb, hml, hown, hts⟩ (k_X3_addLayer l D g m_la e_la m_ro e_ro m_ca e_ca m_re e_re m_rr e_rr m_rb42 e_rb42 m_rw42 e_rw42 m_o1 e_o1 m_r1 e_r1 hF_rb42 hz42) (cwV 2 hts gX3_build_X3_addLayer rfl rfl rfl (by decide +kernel) ⟨Nat.le_of_ble_eq_true rfl, Nat.le_of_ble_eq_true rfl⟩) S m_la e_la (T := TX3) (N := 5) rfl rfl hl.1 rfl (Nat.le_of_ble_eq_true rfl) dX3_build_42 ⟨Nat.le_of_ble_eq_true rfl, Nat.le_of_ble_eq_true rfl⟩ (fun L6 f7 H locs S w42 => ?_)
          obtain ⟨eL, fv42, E_la, E_ca, E_rb42, E_rw42⟩ := w42
          rw [eL] at S
          have fr : ∀ b, b ∈ L → b ≠ la → b ≠ ca → b ≠ re → b ≠ rr → (∀ j, j < 20 → b ≠ lb j ∧ b ≠ lw j) → b ≠ o1 → b ≠ r1 → b ≠ o2 → b ≠ r2 → b ≠ o3 → b ≠ r3 → f7 b = f b := fun b mb nb0 nb1 nb2 nb3 nb4 nb5 nb6 nb7 nb8 nb9 nb10 => (fv42 b mb nb0 nb1 (fun h_ => (nb4 _ (vp_lt hk42)).1 (h_.trans eb42)) (fun h_ => (nb4 _ (vp_lt hk42)).2 (h_.trans ew42))).trans (fr b mb nb0 nb1 nb2 nb3 nb4 nb5 nb6 nb7 nb8 nb9 nb10)
          have e_fam := LF_set e_fam hdis hk42 eb42 ew42 E_rb42 E_rw42 (fun j hj q1 q2 n1 n2 => ⟨fv42 (lb j) q1 (n_fam_la j hj).1 (n_fam_ca j hj).1 n1 (ne_ir e_rw42 (e_fam j hj).2.2.1), fv42 (lw j) q2 (n_fam_la j hj).2 (n_fam_ca j hj).2 (ne_ri e_rb42 (e_fam j hj).2.2.2.2) n2⟩)
          have e_la : f7 la = .inr (3, [.ref ro, .ref ca, .ref re, .int z42.1, .int nsd]) := E_la
          have e_ca : f7 ca = .inl (g 0, 20, .inl z42.2.1) := E_ca
          refine lv_aload_n hx hb dX3_build_45 rfl (lv_at hl 4 rfl) ?_
          refine lv_iload hx hb dX3_build_46 (lv_at hl 0 rfl) ?_
          refine lv_aload hx hb dX3_build_48 (lv_at hl 2 rfl) ?_
          refine lv_aload hx hb dX3_build_50 (lv_at hl 3 rfl) ?_
          obtain ⟨hk52, hM⟩ := ckx hM
          obtain ⟨rb52, rw52, eb52, ew52, hF_rb52, m_rb52, e_rb52, m_rw52, e_rw52⟩ := LF_at e_fam hk52
          obtain ⟨z52, hz52, hM⟩ := bind_some hM
          have e_ro := ((fv42 ro m_ro n_ro_la n_ro_ca (fun h_ => (n_ro_fam _ (vp_lt hk42)).1 (h_.trans eb42)) (fun h_ => (n_ro_fam _ (vp_lt hk42)).2 (h_.trans ew42))).trans e_ro)
          have e_re := ((fv42 re m_re n_re_la n_re_ca (fun h_ => (n_re_fam _ (vp_lt hk42)).1 (h_.trans eb42)) (fun h_ => (n_re_fam _ (vp_lt hk42)).2 (h_.trans ew42))).trans e_re)
          have e_rr := ((fv42 rr m_rr n_rr_la n_rr_ca (fun h_ => (n_rr_fam _ (vp_lt hk42)).1 (h_.trans eb42)) (fun h_ => (n_rr_fam _ (vp_lt hk42)).2 (h_.trans ew42))).trans e_rr)
          have e_o2 := ((fv42 o2 m_o2 n_o2_la n_o2_ca (fun h_ => (n_o2_fam _ (vp_lt hk42)).1 (h_.trans eb42)) (fun h_ => (n_o2_fam _ (vp_lt hk42)).2 (h_.trans ew42))).trans e_o2)
          have e_r2 := ((fv42 r2 m_r2 n_r2_la n_r2_ca (fun h_ => (n_r2_fam _ (vp_lt hk42)).1 (h_.trans eb42)) (fun h_ => (n_r2_fam _ (vp_lt hk42)).2 (h_.trans ew42))).trans e_r2)
          have e_o3 := ((fv42 o3 m_o3 n_o3_la n_o3_ca (fun h_ => (n_o3_fam _ (vp_lt hk42)).1 (h_.trans eb42)) (fun h_ => (n_o3_fam _ (vp_lt hk42)).2 (h_.trans ew42))).trans e_o3)
          have e_r3 := ((fv42 r3 m_r3 n_r3_la n_r3_ca (fun h_ => (n_r3_fam _ (vp_lt hk42)).1 (h_.trans eb42)) (fun h_ => (n_r3_fam _ (vp_lt hk42)).2 (h_.trans ew42))).trans e_r3)
          refine q_vv (As := [.int x8_30, .ref o2, .ref o3]) (rest := []) ⟨hx, hb, hml, hown, hts⟩ (k_X3_sift l D g m_la e_la m_ro e_ro m_ca e_ca m_re e_re m_rr e_rr m_rb52 e_rb52 m_rw52 e_rw52 m_o2 e_o2 m_r2 e_r2 m_o3 e_o3 m_r3 e_r3 n_re_o3 n_o2_o3 n_rr_r3 n_r2_r3 hF_rb52 hz52) (cwV 3 hts gX3_build_X3_sift rfl rfl rfl (by decide +kernel) ⟨Nat.le_of_ble_eq_true rfl, Nat.le_of_ble_eq_true rfl⟩) S m_la e_la (T := TX3) (N := 5) rfl rfl hl.1 rfl (Nat.le_of_ble_eq_true rfl) dX3_build_52 ⟨Nat.le_of_ble_eq_true rfl, Nat.le_of_ble_eq_true rfl⟩ (fun L9 f10 H locs S w52 => ?_)
          obtain ⟨eL, fv52, E_o3, E_r3⟩ := w52
          rw [eL] at S
          have fr : ∀ b, b ∈ L → b ≠ la → b ≠ ca → b ≠ re → b ≠ rr → (∀ j, j < 20 → b ≠ lb j ∧ b ≠ lw j) → b ≠ o1 → b ≠ r1 → b ≠ o2 → b ≠ r2 → b ≠ o3 → b ≠ r3 → f10 b = f b := fun b mb nb0 nb1 nb2 nb3 nb4 nb5 nb6 nb7 nb8 nb9 nb10 => (fv52 b mb nb9 nb10).trans (fr b mb nb0 nb1 nb2 nb3 nb4 nb5 nb6 nb7 nb8 nb9 nb10)
          have e_o3 : f10 o3 = .inr (0, [.ref r3, .int z52.1]) := E_o3
          have e_r3 : f10 r3 = .inl (g 1, 1000, .inr (.inl z52.2)) := E_r3
          refine lv_aload hx hb dX3_build_55 (lv_at hl 3 rfl) ?_
          obtain ⟨z57, hz57, hM⟩ := bind_some hM
          refine q_vi (As := []) (rest := []) ⟨hx, hb, hml, hown, hts⟩ (k_X0_count l D g m_o3 e_o3 hz57) (cwV 0 hts gX3_build_X0_count rfl rfl rfl (by decide +kernel) ⟨Nat.le_of_ble_eq_true rfl, Nat.le_of_ble_eq_true rfl⟩) S m_o3 e_o3 (T := TX0) (N := 2) rfl rfl hl.1 rfl (Nat.le_of_ble_eq_true rfl) dX3_build_57 ⟨Nat.le_of_ble_eq_true rfl, Nat.le_of_ble_eq_true rfl⟩ (fun r14 L12 f13 H locs S w57 => ?_)
          obtain ⟨ex57, eL, ef⟩ := w57
          rw [eL, ef] at S
          replace ex57 := ex57.symm
          subst ex57
          refine lv_if_ne (tgt := 64) hx hb dX3_build_60 (by decide) (fun b60 => ?_) (fun b60 => ?_)
          · have hM := itF b60 hM
            refine lv_aload_n hx hb dX3_build_64 rfl (lv_at hl 4 rfl) ?_
            refine lv_iload hx hb dX3_build_65 (lv_at hl 0 rfl) ?_
            refine lv_aload hx hb dX3_build_67 (lv_at hl 3 rfl) ?_
            obtain ⟨z69, hz69, hM⟩ := bind_some hM
            refine q_vi (As := []) (rest := [.int x8_30, .ref la]) ⟨hx, hb, hml, hown, hts⟩ (k_X0_count l D g m_o3 e_o3 hz69) (cwV 0 hts gX3_build_X0_count rfl rfl rfl (by decide +kernel) ⟨Nat.le_of_ble_eq_true rfl, Nat.le_of_ble_eq_true rfl⟩) S m_o3 e_o3 (T := TX0) (N := 2) rfl rfl hl.1 rfl (Nat.le_of_ble_eq_true rfl) dX3_build_69 ⟨Nat.le_of_ble_eq_true rfl, Nat.le_of_ble_eq_true rfl⟩ (fun r17 L15 f16 H locs S w69 => ?_)
            obtain ⟨ex69, eL, ef⟩ := w69
            rw [eL, ef] at S
            replace ex69 := ex69.symm
            subst ex69
            obtain ⟨z72, hz72, hM⟩ := bind_some hM
            have e_la := ((fv52 la m_la n_la_o3 n_la_r3).trans e_la)
            have e_ca := ((fv52 ca m_ca n_ca_o3 n_ca_r3).trans e_ca)
            refine q_vi (As := [.int x8_30, .int z69]) (rest := []) ⟨hx, hb, hml, hown, hts⟩ (k_X3_isRestBehind l D g m_la e_la m_ca e_ca hz72) (cwV 2 hts gX3_build_X3_isRestBehind rfl rfl rfl (by decide +kernel) ⟨Nat.le_of_ble_eq_true rfl, Nat.le_of_ble_eq_true rfl⟩) S m_la e_la (T := TX3) (N := 5) rfl rfl hl.1 rfl (Nat.le_of_ble_eq_true rfl) dX3_build_72 ⟨Nat.le_of_ble_eq_true rfl, Nat.le_of_ble_eq_true rfl⟩ (fun r20 L18 f19 H locs S w72 => ?_)
            obtain ⟨ex72, eL, ef⟩ := w72
            rw [eL, ef] at S
            replace ex72 := ex72.symm
            subst ex72
            refine lv_if_eq (tgt := 88) hx hb dX3_build_75 (by decide) (fun b75 => ?_) (fun b75 => ?_)
            · have hM := itT b75 hM
              refine lv_aload hx hb dX3_build_88 (lv_at hl 2 rfl) ?_
              refine lv_astore (lv' := [(9, .ref o2), (8, .int x8_30), (5, .ref o1), (6, .ref o2), (7, .ref o3), (0, .ref la)]) hx hb dX3_build_90 hl (by decide) rfl (fun ls hl => ?_)
              refine lv_aload hx hb dX3_build_92 (lv_at hl 2 rfl) ?_
              refine lv_astore (lv' := [(6, .ref o1), (9, .ref o2), (8, .int x8_30), (5, .ref o1), (7, .ref o3), (0, .ref la)]) hx hb dX3_build_94 hl (by decide) rfl (fun ls hl => ?_)
              refine lv_aload hx hb dX3_build_96 (lv_at hl 4 rfl) ?_
              refine lv_astore (lv' := [(5, .ref o3), (6, .ref o1), (9, .ref o2), (8, .int x8_30), (7, .ref o3), (0, .ref la)]) hx hb dX3_build_98 hl (by decide) rfl (fun ls hl => ?_)
              refine lv_aload hx hb dX3_build_100 (lv_at hl 2 rfl) ?_
              refine lv_astore (lv' := [(7, .ref o2), (5, .ref o3), (6, .ref o1), (9, .ref o2), (8, .int x8_30), (0, .ref la)]) hx hb dX3_build_102 hl (by decide) rfl (fun ls hl => ?_)
              refine lv_iinc (v := (x8_30 + 1)) (lv' := [(8, .int (x8_30 + 1)), (7, .ref o2), (5, .ref o3), (6, .ref o1), (9, .ref o2), (0, .ref la)]) hx hb dX3_build_104 hl (k := 4) rfl rfl (by decide) rfl (fun ls hl => ?_)
              refine lv_goto (tgt := 30) hx hb dX3_build_107 (by decide) ?_
              have e_ro := ((fv52 ro m_ro n_ro_o3 n_ro_r3).trans e_ro)
              have e_re := ((fv52 re m_re n_re_o3 n_re_r3).trans e_re)
              have e_rr := ((fv52 rr m_rr n_rr_o3 n_rr_r3).trans e_rr)
              have e_fam := (LF_ext e_fam (fun j hj q1 q2 => ⟨fv52 (lb j) q1 (n_fam_o3 j hj).1 (n_fam_r3 j hj).1, fv52 (lw j) q2 (n_fam_o3 j hj).2 (n_fam_r3 j hj).2⟩))
              have e_o1 := ((fv52 o1 m_o1 n_o1_o3 n_o1_r3).trans ((fv42 o1 m_o1 n_o1_la n_o1_ca (fun h_ => (n_o1_fam _ (vp_lt hk42)).1 (h_.trans eb42)) (fun h_ => (n_o1_fam _ (vp_lt hk42)).2 (h_.trans ew42))).trans e_o1))
              have e_r1 := ((fv52 r1 m_r1 n_r1_o3 n_r1_r3).trans ((fv42 r1 m_r1 n_r1_la n_r1_ca (fun h_ => (n_r1_fam _ (vp_lt hk42)).1 (h_.trans eb42)) (fun h_ => (n_r1_fam _ (vp_lt hk42)).2 (h_.trans ew42))).trans e_r1))
              have e_o2 := ((fv52 o2 m_o2 n_o2_o3 n_o2_r3).trans e_o2)
              have e_r2 := ((fv52 r2 m_r2 n_r2_o3 n_r2_r3).trans e_r2)
              exact ih30.2.1 (x8_30 + 1) z42.1 z42.2.1 (upd cLZ_30 (Int32.toNatClampNeg x8_30) z42.2.2.1) (va_up cLD_30 (Int32.toNatClampNeg x8_30) z42.2.2.2) z52.1 z52.2 iN_30 iV_30 rN_30 rV_30 f10 _ _ _ hM S e_la e_ro e_ca e_re e_rr e_fam e_o1 e_r1 e_o2 e_r2 e_o3 e_r3 fr (lv_sub hl [0, 2, 3, 1, 5] rfl)
            · have hM := itF b75 hM
              refine lv_aload_n hx hb dX3_build_78 rfl (lv_at hl 4 rfl) ?_
              refine q_get hx hb hts in_X3 hown S m_la e_la (C := RX3) (T := TX3) (N := 5) rfl 2 (by decide) rfl (hts (.fieldLink RX3 24 "SieveCabinet$Layers" "rest" "LSieveCabinet$Bag;") (gu_wsX3_build_1 _ gm_2)) dX3_build_79 ?_
              refine lv_aload hx hb dX3_build_82 (lv_at hl 3 rfl) ?_
              obtain ⟨z84, hz84, hM⟩ := bind_some hM
              have e_re := ((fv52 re m_re n_re_o3 n_re_r3).trans e_re)
              have e_rr := ((fv52 rr m_rr n_rr_o3 n_rr_r3).trans e_rr)
              refine q_vv (As := [.ref o3]) (rest := []) ⟨hx, hb, hml, hown, hts⟩ (k_X0_copyFrom l D g m_re e_re m_rr e_rr m_o3 e_o3 m_r3 e_r3 hz84) (cwV 1 hts gX3_build_X0_copyFrom rfl rfl rfl (by decide +kernel) ⟨Nat.le_of_ble_eq_true rfl, Nat.le_of_ble_eq_true rfl⟩) S m_re e_re (T := TX0) (N := 2) rfl rfl hl.1 rfl (Nat.le_of_ble_eq_true rfl) dX3_build_84 ⟨Nat.le_of_ble_eq_true rfl, Nat.le_of_ble_eq_true rfl⟩ (fun L21 f22 H locs S w84 => ?_)
              obtain ⟨eL, fv84, E_re, E_rr⟩ := w84
              rw [eL] at S
              have fr : ∀ b, b ∈ L → b ≠ la → b ≠ ca → b ≠ re → b ≠ rr → (∀ j, j < 20 → b ≠ lb j ∧ b ≠ lw j) → b ≠ o1 → b ≠ r1 → b ≠ o2 → b ≠ r2 → b ≠ o3 → b ≠ r3 → f22 b = f b := fun b mb nb0 nb1 nb2 nb3 nb4 nb5 nb6 nb7 nb8 nb9 nb10 => (fv84 b mb nb2 nb3).trans (fr b mb nb0 nb1 nb2 nb3 nb4 nb5 nb6 nb7 nb8 nb9 nb10)
              have e_re : f22 re = .inr (0, [.ref rr, .int z84.1]) := E_re
              have e_rr : f22 rr = .inl (g 1, 1000, .inr (.inl z84.2)) := E_rr
              have e_la := ((fv84 la m_la n_la_re n_la_rr).trans e_la)
              have e_ca := ((fv84 ca m_ca n_ca_re n_ca_rr).trans e_ca)
              have e_fam := (LF_ext (LF_ext e_fam (fun j hj q1 q2 => ⟨fv52 (lb j) q1 (n_fam_o3 j hj).1 (n_fam_r3 j hj).1, fv52 (lw j) q2 (n_fam_o3 j hj).2 (n_fam_r3 j hj).2⟩)) (fun j hj q1 q2 => ⟨fv84 (lb j) q1 (n_fam_re j hj).1 (n_fam_rr j hj).1, fv84 (lw j) q2 (n_fam_re j hj).2 (n_fam_rr j hj).2⟩))
              have e_o1 := ((fv84 o1 m_o1 n_o1_re n_o1_rr).trans ((fv52 o1 m_o1 n_o1_o3 n_o1_r3).trans ((fv42 o1 m_o1 n_o1_la n_o1_ca (fun h_ => (n_o1_fam _ (vp_lt hk42)).1 (h_.trans eb42)) (fun h_ => (n_o1_fam _ (vp_lt hk42)).2 (h_.trans ew42))).trans e_o1)))
              have e_r1 := ((fv84 r1 m_r1 n_r1_re n_r1_rr).trans ((fv52 r1 m_r1 n_r1_o3 n_r1_r3).trans ((fv42 r1 m_r1 n_r1_la n_r1_ca (fun h_ => (n_r1_fam _ (vp_lt hk42)).1 (h_.trans eb42)) (fun h_ => (n_r1_fam _ (vp_lt hk42)).2 (h_.trans ew42))).trans e_r1)))
              have e_o2 := ((fv84 o2 m_o2 n_o2_re n_o2_rr).trans ((fv52 o2 m_o2 n_o2_o3 n_o2_r3).trans e_o2))
              have e_r2 := ((fv84 r2 m_r2 n_r2_re n_r2_rr).trans ((fv52 r2 m_r2 n_r2_o3 n_r2_r3).trans e_r2))
              have e_o3 := ((fv84 o3 m_o3 n_o3_re n_o3_rr).trans e_o3)
              have e_r3 := ((fv84 r3 m_r3 n_r3_re n_r3_rr).trans e_r3)
              subst hQQ
              exact q_retv (post := fun L1 f1 => L1 = L ∧ (∀ b, b ∈ L → b ≠ la → b ≠ ca → b ≠ re → b ≠ rr → (∀ j, j < 20 → b ≠ lb j ∧ b ≠ lw j) → b ≠ o1 → b ≠ r1 → b ≠ o2 → b ≠ r2 → b ≠ o3 → b ≠ r3 → f1 b = f b) ∧ f1 la = .inr (3, [.ref ro, .ref ca, .ref re, .int z.1, .int z.2.1]) ∧ f1 ca = .inl (g 0, 20, .inl z.2.2.1) ∧ f1 re = .inr (0, [.ref rr, .int z.2.2.2.1]) ∧ f1 rr = .inl (g 1, 1000, .inr (.inl z.2.2.2.2.1)) ∧ LF g L f1 rf lb lw z.2.2.2.2.2.1 z.2.2.2.2.2.2 ∧ (∃ j1 : Int32, f1 o1 = .inr (0, [.ref r1, .int j1])) ∧ (∃ j0 : Nat → Int64, f1 r1 = .inl (g 1, 1000, .inr (.inl j0))) ∧ (∃ j1 : Int32, f1 o2 = .inr (0, [.ref r2, .int j1])) ∧ (∃ j0 : Nat → Int64, f1 r2 = .inl (g 1, 1000, .inr (.inl j0))) ∧ (∃ j1 : Int32, f1 o3 = .inr (0, [.ref r3, .int j1])) ∧ (∃ j0 : Nat → Int64, f1 r3 = .inl (g 1, 1000, .inr (.inl j0)))) hx hb hr hlk S dX3_build_87 (by decide) (by decide) (by have hz := Option.some.inj hM; subst hz; exact ⟨rfl, fr, e_la, e_ca, e_re, e_rr, e_fam, ⟨_, e_o1⟩, ⟨_, e_r1⟩, ⟨_, e_o2⟩, ⟨_, e_r2⟩, ⟨_, e_o3⟩, ⟨_, e_r3⟩⟩)
          · have hM := itT b60 hM
            have e_la := ((fv52 la m_la n_la_o3 n_la_r3).trans e_la)
            have e_ca := ((fv52 ca m_ca n_ca_o3 n_ca_r3).trans e_ca)
            have e_re := ((fv52 re m_re n_re_o3 n_re_r3).trans e_re)
            have e_rr := ((fv52 rr m_rr n_rr_o3 n_rr_r3).trans e_rr)
            have e_fam := (LF_ext e_fam (fun j hj q1 q2 => ⟨fv52 (lb j) q1 (n_fam_o3 j hj).1 (n_fam_r3 j hj).1, fv52 (lw j) q2 (n_fam_o3 j hj).2 (n_fam_r3 j hj).2⟩))
            have e_o1 := ((fv52 o1 m_o1 n_o1_o3 n_o1_r3).trans ((fv42 o1 m_o1 n_o1_la n_o1_ca (fun h_ => (n_o1_fam _ (vp_lt hk42)).1 (h_.trans eb42)) (fun h_ => (n_o1_fam _ (vp_lt hk42)).2 (h_.trans ew42))).trans e_o1))
            have e_r1 := ((fv52 r1 m_r1 n_r1_o3 n_r1_r3).trans ((fv42 r1 m_r1 n_r1_la n_r1_ca (fun h_ => (n_r1_fam _ (vp_lt hk42)).1 (h_.trans eb42)) (fun h_ => (n_r1_fam _ (vp_lt hk42)).2 (h_.trans ew42))).trans e_r1))
            have e_o2 := ((fv52 o2 m_o2 n_o2_o3 n_o2_r3).trans e_o2)
            have e_r2 := ((fv52 r2 m_r2 n_r2_o3 n_r2_r3).trans e_r2)
            subst hQQ
            exact q_retv (post := fun L1 f1 => L1 = L ∧ (∀ b, b ∈ L → b ≠ la → b ≠ ca → b ≠ re → b ≠ rr → (∀ j, j < 20 → b ≠ lb j ∧ b ≠ lw j) → b ≠ o1 → b ≠ r1 → b ≠ o2 → b ≠ r2 → b ≠ o3 → b ≠ r3 → f1 b = f b) ∧ f1 la = .inr (3, [.ref ro, .ref ca, .ref re, .int z.1, .int z.2.1]) ∧ f1 ca = .inl (g 0, 20, .inl z.2.2.1) ∧ f1 re = .inr (0, [.ref rr, .int z.2.2.2.1]) ∧ f1 rr = .inl (g 1, 1000, .inr (.inl z.2.2.2.2.1)) ∧ LF g L f1 rf lb lw z.2.2.2.2.2.1 z.2.2.2.2.2.2 ∧ (∃ j1 : Int32, f1 o1 = .inr (0, [.ref r1, .int j1])) ∧ (∃ j0 : Nat → Int64, f1 r1 = .inl (g 1, 1000, .inr (.inl j0))) ∧ (∃ j1 : Int32, f1 o2 = .inr (0, [.ref r2, .int j1])) ∧ (∃ j0 : Nat → Int64, f1 r2 = .inl (g 1, 1000, .inr (.inl j0))) ∧ (∃ j1 : Int32, f1 o3 = .inr (0, [.ref r3, .int j1])) ∧ (∃ j0 : Nat → Int64, f1 r3 = .inl (g 1, 1000, .inr (.inl j0)))) hx hb hr hlk S dX3_build_63 (by decide) (by decide) (by have hz := Option.some.inj hM; subst hz; exact ⟨rfl, fr, e_la, e_ca, e_re, e_rr, e_fam, ⟨_, e_o1⟩, ⟨_, e_r1⟩, ⟨_, e_o2⟩, ⟨_, e_r2⟩, ⟨_, e_o3⟩, ⟨_, e_r3⟩⟩)
      · intro x8_30 cLC_30 cCA_30 cLZ_30 cLD_30 iN_30 iV_30 rN_30 rV_30 tN_30 tV_30 fl30 H locs ls hM S e_la e_ro e_ca e_re e_rr e_fam e_o1 e_r1 e_o2 e_r2 e_o3 e_r3 fr hl
        rw [mX3_build_L30] at hM
        refine lv_iload hx hb dX3_build_30 (lv_at hl 0 rfl) ?_
        refine lv_bipush (v := (20 : Int32)) hx hb dX3_build_32 (by decide) ?_
        refine lv_icmp_ge (tgt := 110) hx hb dX3_build_34 (by decide) (fun b34 => ?_) (fun b34 => ?_)
        · have hM := itT b34 hM
          subst hQQ
          exact q_retv (post := fun L1 f1 => L1 = L ∧ (∀ b, b ∈ L → b ≠ la → b ≠ ca → b ≠ re → b ≠ rr → (∀ j, j < 20 → b ≠ lb j ∧ b ≠ lw j) → b ≠ o1 → b ≠ r1 → b ≠ o2 → b ≠ r2 → b ≠ o3 → b ≠ r3 → f1 b = f b) ∧ f1 la = .inr (3, [.ref ro, .ref ca, .ref re, .int z.1, .int z.2.1]) ∧ f1 ca = .inl (g 0, 20, .inl z.2.2.1) ∧ f1 re = .inr (0, [.ref rr, .int z.2.2.2.1]) ∧ f1 rr = .inl (g 1, 1000, .inr (.inl z.2.2.2.2.1)) ∧ LF g L f1 rf lb lw z.2.2.2.2.2.1 z.2.2.2.2.2.2 ∧ (∃ j1 : Int32, f1 o1 = .inr (0, [.ref r1, .int j1])) ∧ (∃ j0 : Nat → Int64, f1 r1 = .inl (g 1, 1000, .inr (.inl j0))) ∧ (∃ j1 : Int32, f1 o2 = .inr (0, [.ref r2, .int j1])) ∧ (∃ j0 : Nat → Int64, f1 r2 = .inl (g 1, 1000, .inr (.inl j0))) ∧ (∃ j1 : Int32, f1 o3 = .inr (0, [.ref r3, .int j1])) ∧ (∃ j0 : Nat → Int64, f1 r3 = .inl (g 1, 1000, .inr (.inl j0)))) hx hb hr hlk S dX3_build_110 (by decide) (by decide) (by have hz := Option.some.inj hM; subst hz; exact ⟨rfl, fr, e_la, e_ca, e_re, e_rr, e_fam, ⟨_, e_o1⟩, ⟨_, e_r1⟩, ⟨_, e_o2⟩, ⟨_, e_r2⟩, ⟨_, e_o3⟩, ⟨_, e_r3⟩⟩)
        · have hM := itF b34 hM
          refine lv_aload_n hx hb dX3_build_37 rfl (lv_at hl 4 rfl) ?_
          refine lv_iload hx hb dX3_build_38 (lv_at hl 0 rfl) ?_
          refine lv_aload hx hb dX3_build_40 (lv_at hl 1 rfl) ?_
          obtain ⟨hk42, hM⟩ := ckx hM
          obtain ⟨rb42, rw42, eb42, ew42, hF_rb42, m_rb42, e_rb42, m_rw42, e_rw42⟩ := LF_at e_fam hk42
          obtain ⟨z42, hz42, hM⟩ := bind_some hM
          refine q_vv (As := [.int x8_30, .ref o3]) (rest := []) ⟨hx, hb, hml, hown, hts⟩ (k_X3_addLayer l D g m_la e_la m_ro e_ro m_ca e_ca m_re e_re m_rr e_rr m_rb42 e_rb42 m_rw42 e_rw42 m_o3 e_o3 m_r3 e_r3 hF_rb42 hz42) (cwV 2 hts gX3_build_X3_addLayer rfl rfl rfl (by decide +kernel) ⟨Nat.le_of_ble_eq_true rfl, Nat.le_of_ble_eq_true rfl⟩) S m_la e_la (T := TX3) (N := 5) rfl rfl hl.1 rfl (Nat.le_of_ble_eq_true rfl) dX3_build_42 ⟨Nat.le_of_ble_eq_true rfl, Nat.le_of_ble_eq_true rfl⟩ (fun L24 f25 H locs S w42 => ?_)
          obtain ⟨eL, fv42, E_la, E_ca, E_rb42, E_rw42⟩ := w42
          rw [eL] at S
          have fr : ∀ b, b ∈ L → b ≠ la → b ≠ ca → b ≠ re → b ≠ rr → (∀ j, j < 20 → b ≠ lb j ∧ b ≠ lw j) → b ≠ o1 → b ≠ r1 → b ≠ o2 → b ≠ r2 → b ≠ o3 → b ≠ r3 → f25 b = f b := fun b mb nb0 nb1 nb2 nb3 nb4 nb5 nb6 nb7 nb8 nb9 nb10 => (fv42 b mb nb0 nb1 (fun h_ => (nb4 _ (vp_lt hk42)).1 (h_.trans eb42)) (fun h_ => (nb4 _ (vp_lt hk42)).2 (h_.trans ew42))).trans (fr b mb nb0 nb1 nb2 nb3 nb4 nb5 nb6 nb7 nb8 nb9 nb10)
          have e_fam := LF_set e_fam hdis hk42 eb42 ew42 E_rb42 E_rw42 (fun j hj q1 q2 n1 n2 => ⟨fv42 (lb j) q1 (n_fam_la j hj).1 (n_fam_ca j hj).1 n1 (ne_ir e_rw42 (e_fam j hj).2.2.1), fv42 (lw j) q2 (n_fam_la j hj).2 (n_fam_ca j hj).2 (ne_ri e_rb42 (e_fam j hj).2.2.2.2) n2⟩)
          have e_la : f25 la = .inr (3, [.ref ro, .ref ca, .ref re, .int z42.1, .int nsd]) := E_la
          have e_ca : f25 ca = .inl (g 0, 20, .inl z42.2.1) := E_ca
          refine lv_aload_n hx hb dX3_build_45 rfl (lv_at hl 4 rfl) ?_
          refine lv_iload hx hb dX3_build_46 (lv_at hl 0 rfl) ?_
          refine lv_aload hx hb dX3_build_48 (lv_at hl 2 rfl) ?_
          refine lv_aload hx hb dX3_build_50 (lv_at hl 3 rfl) ?_
          obtain ⟨hk52, hM⟩ := ckx hM
          obtain ⟨rb52, rw52, eb52, ew52, hF_rb52, m_rb52, e_rb52, m_rw52, e_rw52⟩ := LF_at e_fam hk52
          obtain ⟨z52, hz52, hM⟩ := bind_some hM
          have e_ro := ((fv42 ro m_ro n_ro_la n_ro_ca (fun h_ => (n_ro_fam _ (vp_lt hk42)).1 (h_.trans eb42)) (fun h_ => (n_ro_fam _ (vp_lt hk42)).2 (h_.trans ew42))).trans e_ro)
          have e_re := ((fv42 re m_re n_re_la n_re_ca (fun h_ => (n_re_fam _ (vp_lt hk42)).1 (h_.trans eb42)) (fun h_ => (n_re_fam _ (vp_lt hk42)).2 (h_.trans ew42))).trans e_re)
          have e_rr := ((fv42 rr m_rr n_rr_la n_rr_ca (fun h_ => (n_rr_fam _ (vp_lt hk42)).1 (h_.trans eb42)) (fun h_ => (n_rr_fam _ (vp_lt hk42)).2 (h_.trans ew42))).trans e_rr)
          have e_o1 := ((fv42 o1 m_o1 n_o1_la n_o1_ca (fun h_ => (n_o1_fam _ (vp_lt hk42)).1 (h_.trans eb42)) (fun h_ => (n_o1_fam _ (vp_lt hk42)).2 (h_.trans ew42))).trans e_o1)
          have e_r1 := ((fv42 r1 m_r1 n_r1_la n_r1_ca (fun h_ => (n_r1_fam _ (vp_lt hk42)).1 (h_.trans eb42)) (fun h_ => (n_r1_fam _ (vp_lt hk42)).2 (h_.trans ew42))).trans e_r1)
          have e_o2 := ((fv42 o2 m_o2 n_o2_la n_o2_ca (fun h_ => (n_o2_fam _ (vp_lt hk42)).1 (h_.trans eb42)) (fun h_ => (n_o2_fam _ (vp_lt hk42)).2 (h_.trans ew42))).trans e_o2)
          have e_r2 := ((fv42 r2 m_r2 n_r2_la n_r2_ca (fun h_ => (n_r2_fam _ (vp_lt hk42)).1 (h_.trans eb42)) (fun h_ => (n_r2_fam _ (vp_lt hk42)).2 (h_.trans ew42))).trans e_r2)
          refine q_vv (As := [.int x8_30, .ref o1, .ref o2]) (rest := []) ⟨hx, hb, hml, hown, hts⟩ (k_X3_sift l D g m_la e_la m_ro e_ro m_ca e_ca m_re e_re m_rr e_rr m_rb52 e_rb52 m_rw52 e_rw52 m_o1 e_o1 m_r1 e_r1 m_o2 e_o2 m_r2 e_r2 n_re_o2 n_o1_o2 n_rr_r2 n_r1_r2 hF_rb52 hz52) (cwV 3 hts gX3_build_X3_sift rfl rfl rfl (by decide +kernel) ⟨Nat.le_of_ble_eq_true rfl, Nat.le_of_ble_eq_true rfl⟩) S m_la e_la (T := TX3) (N := 5) rfl rfl hl.1 rfl (Nat.le_of_ble_eq_true rfl) dX3_build_52 ⟨Nat.le_of_ble_eq_true rfl, Nat.le_of_ble_eq_true rfl⟩ (fun L27 f28 H locs S w52 => ?_)
          obtain ⟨eL, fv52, E_o2, E_r2⟩ := w52
          rw [eL] at S
          have fr : ∀ b, b ∈ L → b ≠ la → b ≠ ca → b ≠ re → b ≠ rr → (∀ j, j < 20 → b ≠ lb j ∧ b ≠ lw j) → b ≠ o1 → b ≠ r1 → b ≠ o2 → b ≠ r2 → b ≠ o3 → b ≠ r3 → f28 b = f b := fun b mb nb0 nb1 nb2 nb3 nb4 nb5 nb6 nb7 nb8 nb9 nb10 => (fv52 b mb nb7 nb8).trans (fr b mb nb0 nb1 nb2 nb3 nb4 nb5 nb6 nb7 nb8 nb9 nb10)
          have e_o2 : f28 o2 = .inr (0, [.ref r2, .int z52.1]) := E_o2
          have e_r2 : f28 r2 = .inl (g 1, 1000, .inr (.inl z52.2)) := E_r2
          refine lv_aload hx hb dX3_build_55 (lv_at hl 3 rfl) ?_
          obtain ⟨z57, hz57, hM⟩ := bind_some hM
          refine q_vi (As := []) (rest := []) ⟨hx, hb, hml, hown, hts⟩ (k_X0_count l D g m_o2 e_o2 hz57) (cwV 0 hts gX3_build_X0_count rfl rfl rfl (by decide +kernel) ⟨Nat.le_of_ble_eq_true rfl, Nat.le_of_ble_eq_true rfl⟩) S m_o2 e_o2 (T := TX0) (N := 2) rfl rfl hl.1 rfl (Nat.le_of_ble_eq_true rfl) dX3_build_57 ⟨Nat.le_of_ble_eq_true rfl, Nat.le_of_ble_eq_true rfl⟩ (fun r32 L30 f31 H locs S w57 => ?_)
          obtain ⟨ex57, eL, ef⟩ := w57
          rw [eL, ef] at S
          replace ex57 := ex57.symm
          subst ex57
          refine lv_if_ne (tgt := 64) hx hb dX3_build_60 (by decide) (fun b60 => ?_) (fun b60 => ?_)
          · have hM := itF b60 hM
            refine lv_aload_n hx hb dX3_build_64 rfl (lv_at hl 4 rfl) ?_
            refine lv_iload hx hb dX3_build_65 (lv_at hl 0 rfl) ?_
            refine lv_aload hx hb dX3_build_67 (lv_at hl 3 rfl) ?_
            obtain ⟨z69, hz69, hM⟩ := bind_some hM
            refine q_vi (As := []) (rest := [.int x8_30, .ref la]) ⟨hx, hb, hml, hown, hts⟩ (k_X0_count l D g m_o2 e_o2 hz69) (cwV 0 hts gX3_build_X0_count rfl rfl rfl (by decide +kernel) ⟨Nat.le_of_ble_eq_true rfl, Nat.le_of_ble_eq_true rfl⟩) S m_o2 e_o2 (T := TX0) (N := 2) rfl rfl hl.1 rfl (Nat.le_of_ble_eq_true rfl) dX3_build_69 ⟨Nat.le_of_ble_eq_true rfl, Nat.le_of_ble_eq_true rfl⟩ (fun r35 L33 f34 H locs S w69 => ?_)
            obtain ⟨ex69, eL, ef⟩ := w69
            rw [eL, ef] at S
            replace ex69 := ex69.symm
            subst ex69
            obtain ⟨z72, hz72, hM⟩ := bind_some hM
            have e_la := ((fv52 la m_la n_la_o2 n_la_r2).trans e_la)
            have e_ca := ((fv52 ca m_ca n_ca_o2 n_ca_r2).trans e_ca)
            refine q_vi (As := [.int x8_30, .int z69]) (rest := []) ⟨hx, hb, hml, hown, hts⟩ (k_X3_isRestBehind l D g m_la e_la m_ca e_ca hz72) (cwV 2 hts gX3_build_X3_isRestBehind rfl rfl rfl (by decide +kernel) ⟨Nat.le_of_ble_eq_true rfl, Nat.le_of_ble_eq_true rfl⟩) S m_la e_la (T := TX3) (N := 5) rfl rfl hl.1 rfl (Nat.le_of_ble_eq_true rfl) dX3_build_72 ⟨Nat.le_of_ble_eq_true rfl, Nat.le_of_ble_eq_true rfl⟩ (fun r38 L36 f37 H locs S w72 => ?_)
            obtain ⟨ex72, eL, ef⟩ := w72
            rw [eL, ef] at S
            replace ex72 := ex72.symm
            subst ex72
            refine lv_if_eq (tgt := 88) hx hb dX3_build_75 (by decide) (fun b75 => ?_) (fun b75 => ?_)
            · have hM := itT b75 hM
              refine lv_aload hx hb dX3_build_88 (lv_at hl 2 rfl) ?_
              refine lv_astore (lv' := [(9, .ref o1), (8, .int x8_30), (5, .ref o3), (6, .ref o1), (7, .ref o2), (0, .ref la)]) hx hb dX3_build_90 hl (by decide) rfl (fun ls hl => ?_)
              refine lv_aload hx hb dX3_build_92 (lv_at hl 2 rfl) ?_
              refine lv_astore (lv' := [(6, .ref o3), (9, .ref o1), (8, .int x8_30), (5, .ref o3), (7, .ref o2), (0, .ref la)]) hx hb dX3_build_94 hl (by decide) rfl (fun ls hl => ?_)
              refine lv_aload hx hb dX3_build_96 (lv_at hl 4 rfl) ?_
              refine lv_astore (lv' := [(5, .ref o2), (6, .ref o3), (9, .ref o1), (8, .int x8_30), (7, .ref o2), (0, .ref la)]) hx hb dX3_build_98 hl (by decide) rfl (fun ls hl => ?_)
              refine lv_aload hx hb dX3_build_100 (lv_at hl 2 rfl) ?_
              refine lv_astore (lv' := [(7, .ref o1), (5, .ref o2), (6, .ref o3), (9, .ref o1), (8, .int x8_30), (0, .ref la)]) hx hb dX3_build_102 hl (by decide) rfl (fun ls hl => ?_)
              refine lv_iinc (v := (x8_30 + 1)) (lv' := [(8, .int (x8_30 + 1)), (7, .ref o1), (5, .ref o2), (6, .ref o3), (9, .ref o1), (0, .ref la)]) hx hb dX3_build_104 hl (k := 4) rfl rfl (by decide) rfl (fun ls hl => ?_)
              refine lv_goto (tgt := 30) hx hb dX3_build_107 (by decide) ?_
              have e_ro := ((fv52 ro m_ro n_ro_o2 n_ro_r2).trans e_ro)
              have e_re := ((fv52 re m_re n_re_o2 n_re_r2).trans e_re)
              have e_rr := ((fv52 rr m_rr n_rr_o2 n_rr_r2).trans e_rr)
              have e_fam := (LF_ext e_fam (fun j hj q1 q2 => ⟨fv52 (lb j) q1 (n_fam_o2 j hj).1 (n_fam_r2 j hj).1, fv52 (lw j) q2 (n_fam_o2 j hj).2 (n_fam_r2 j hj).2⟩))
              have e_o1 := ((fv52 o1 m_o1 n_o1_o2 n_o1_r2).trans e_o1)
              have e_r1 := ((fv52 r1 m_r1 n_r1_o2 n_r1_r2).trans e_r1)
              have e_o3 := ((fv52 o3 m_o3 n_o3_o2 n_o3_r2).trans ((fv42 o3 m_o3 n_o3_la n_o3_ca (fun h_ => (n_o3_fam _ (vp_lt hk42)).1 (h_.trans eb42)) (fun h_ => (n_o3_fam _ (vp_lt hk42)).2 (h_.trans ew42))).trans e_o3))
              have e_r3 := ((fv52 r3 m_r3 n_r3_o2 n_r3_r2).trans ((fv42 r3 m_r3 n_r3_la n_r3_ca (fun h_ => (n_r3_fam _ (vp_lt hk42)).1 (h_.trans eb42)) (fun h_ => (n_r3_fam _ (vp_lt hk42)).2 (h_.trans ew42))).trans e_r3))
              exact ih30.2.2 (x8_30 + 1) z42.1 z42.2.1 (upd cLZ_30 (Int32.toNatClampNeg x8_30) z42.2.2.1) (va_up cLD_30 (Int32.toNatClampNeg x8_30) z42.2.2.2) z52.1 z52.2 iN_30 iV_30 rN_30 rV_30 f28 _ _ _ hM S e_la e_ro e_ca e_re e_rr e_fam e_o1 e_r1 e_o2 e_r2 e_o3 e_r3 fr (lv_sub hl [0, 2, 3, 1, 5] rfl)
            · have hM := itF b75 hM
              refine lv_aload_n hx hb dX3_build_78 rfl (lv_at hl 4 rfl) ?_
              refine q_get hx hb hts in_X3 hown S m_la e_la (C := RX3) (T := TX3) (N := 5) rfl 2 (by decide) rfl (hts (.fieldLink RX3 24 "SieveCabinet$Layers" "rest" "LSieveCabinet$Bag;") (gu_wsX3_build_1 _ gm_2)) dX3_build_79 ?_
              refine lv_aload hx hb dX3_build_82 (lv_at hl 3 rfl) ?_
              obtain ⟨z84, hz84, hM⟩ := bind_some hM
              have e_re := ((fv52 re m_re n_re_o2 n_re_r2).trans e_re)
              have e_rr := ((fv52 rr m_rr n_rr_o2 n_rr_r2).trans e_rr)
              refine q_vv (As := [.ref o2]) (rest := []) ⟨hx, hb, hml, hown, hts⟩ (k_X0_copyFrom l D g m_re e_re m_rr e_rr m_o2 e_o2 m_r2 e_r2 hz84) (cwV 1 hts gX3_build_X0_copyFrom rfl rfl rfl (by decide +kernel) ⟨Nat.le_of_ble_eq_true rfl, Nat.le_of_ble_eq_true rfl⟩) S m_re e_re (T := TX0) (N := 2) rfl rfl hl.1 rfl (Nat.le_of_ble_eq_true rfl) dX3_build_84 ⟨Nat.le_of_ble_eq_true rfl, Nat.le_of_ble_eq_true rfl⟩ (fun L39 f40 H locs S w84 => ?_)
              obtain ⟨eL, fv84, E_re, E_rr⟩ := w84
              rw [eL] at S
              have fr : ∀ b, b ∈ L → b ≠ la → b ≠ ca → b ≠ re → b ≠ rr → (∀ j, j < 20 → b ≠ lb j ∧ b ≠ lw j) → b ≠ o1 → b ≠ r1 → b ≠ o2 → b ≠ r2 → b ≠ o3 → b ≠ r3 → f40 b = f b := fun b mb nb0 nb1 nb2 nb3 nb4 nb5 nb6 nb7 nb8 nb9 nb10 => (fv84 b mb nb2 nb3).trans (fr b mb nb0 nb1 nb2 nb3 nb4 nb5 nb6 nb7 nb8 nb9 nb10)
              have e_re : f40 re = .inr (0, [.ref rr, .int z84.1]) := E_re
              have e_rr : f40 rr = .inl (g 1, 1000, .inr (.inl z84.2)) := E_rr
              have e_la := ((fv84 la m_la n_la_re n_la_rr).trans e_la)
              have e_ca := ((fv84 ca m_ca n_ca_re n_ca_rr).trans e_ca)
              have e_fam := (LF_ext (LF_ext e_fam (fun j hj q1 q2 => ⟨fv52 (lb j) q1 (n_fam_o2 j hj).1 (n_fam_r2 j hj).1, fv52 (lw j) q2 (n_fam_o2 j hj).2 (n_fam_r2 j hj).2⟩)) (fun j hj q1 q2 => ⟨fv84 (lb j) q1 (n_fam_re j hj).1 (n_fam_rr j hj).1, fv84 (lw j) q2 (n_fam_re j hj).2 (n_fam_rr j hj).2⟩))
              have e_o1 := ((fv84 o1 m_o1 n_o1_re n_o1_rr).trans ((fv52 o1 m_o1 n_o1_o2 n_o1_r2).trans e_o1))
              have e_r1 := ((fv84 r1 m_r1 n_r1_re n_r1_rr).trans ((fv52 r1 m_r1 n_r1_o2 n_r1_r2).trans e_r1))
              have e_o2 := ((fv84 o2 m_o2 n_o2_re n_o2_rr).trans e_o2)
              have e_r2 := ((fv84 r2 m_r2 n_r2_re n_r2_rr).trans e_r2)
              have e_o3 := ((fv84 o3 m_o3 n_o3_re n_o3_rr).trans ((fv52 o3 m_o3 n_o3_o2 n_o3_r2).trans ((fv42 o3 m_o3 n_o3_la n_o3_ca (fun h_ => (n_o3_fam _ (vp_lt hk42)).1 (h_.trans eb42)) (fun h_ => (n_o3_fam _ (vp_lt hk42)).2 (h_.trans ew42))).trans e_o3)))
              have e_r3 := ((fv84 r3 m_r3 n_r3_re n_r3_rr).trans ((fv52 r3 m_r3 n_r3_o2 n_r3_r2).trans ((fv42 r3 m_r3 n_r3_la n_r3_ca (fun h_ => (n_r3_fam _ (vp_lt hk42)).1 (h_.trans eb42)) (fun h_ => (n_r3_fam _ (vp_lt hk42)).2 (h_.trans ew42))).trans e_r3)))
              subst hQQ
              exact q_retv (post := fun L1 f1 => L1 = L ∧ (∀ b, b ∈ L → b ≠ la → b ≠ ca → b ≠ re → b ≠ rr → (∀ j, j < 20 → b ≠ lb j ∧ b ≠ lw j) → b ≠ o1 → b ≠ r1 → b ≠ o2 → b ≠ r2 → b ≠ o3 → b ≠ r3 → f1 b = f b) ∧ f1 la = .inr (3, [.ref ro, .ref ca, .ref re, .int z.1, .int z.2.1]) ∧ f1 ca = .inl (g 0, 20, .inl z.2.2.1) ∧ f1 re = .inr (0, [.ref rr, .int z.2.2.2.1]) ∧ f1 rr = .inl (g 1, 1000, .inr (.inl z.2.2.2.2.1)) ∧ LF g L f1 rf lb lw z.2.2.2.2.2.1 z.2.2.2.2.2.2 ∧ (∃ j1 : Int32, f1 o1 = .inr (0, [.ref r1, .int j1])) ∧ (∃ j0 : Nat → Int64, f1 r1 = .inl (g 1, 1000, .inr (.inl j0))) ∧ (∃ j1 : Int32, f1 o2 = .inr (0, [.ref r2, .int j1])) ∧ (∃ j0 : Nat → Int64, f1 r2 = .inl (g 1, 1000, .inr (.inl j0))) ∧ (∃ j1 : Int32, f1 o3 = .inr (0, [.ref r3, .int j1])) ∧ (∃ j0 : Nat → Int64, f1 r3 = .inl (g 1, 1000, .inr (.inl j0)))) hx hb hr hlk S dX3_build_87 (by decide) (by decide) (by have hz := Option.some.inj hM; subst hz; exact ⟨rfl, fr, e_la, e_ca, e_re, e_rr, e_fam, ⟨_, e_o1⟩, ⟨_, e_r1⟩, ⟨_, e_o2⟩, ⟨_, e_r2⟩, ⟨_, e_o3⟩, ⟨_, e_r3⟩⟩)
          · have hM := itT b60 hM
            have e_la := ((fv52 la m_la n_la_o2 n_la_r2).trans e_la)
            have e_ca := ((fv52 ca m_ca n_ca_o2 n_ca_r2).trans e_ca)
            have e_re := ((fv52 re m_re n_re_o2 n_re_r2).trans e_re)
            have e_rr := ((fv52 rr m_rr n_rr_o2 n_rr_r2).trans e_rr)
            have e_fam := (LF_ext e_fam (fun j hj q1 q2 => ⟨fv52 (lb j) q1 (n_fam_o2 j hj).1 (n_fam_r2 j hj).1, fv52 (lw j) q2 (n_fam_o2 j hj).2 (n_fam_r2 j hj).2⟩))
            have e_o1 := ((fv52 o1 m_o1 n_o1_o2 n_o1_r2).trans e_o1)
            have e_r1 := ((fv52 r1 m_r1 n_r1_o2 n_r1_r2).trans e_r1)
            have e_o3 := ((fv52 o3 m_o3 n_o3_o2 n_o3_r2).trans ((fv42 o3 m_o3 n_o3_la n_o3_ca (fun h_ => (n_o3_fam _ (vp_lt hk42)).1 (h_.trans eb42)) (fun h_ => (n_o3_fam _ (vp_lt hk42)).2 (h_.trans ew42))).trans e_o3))
            have e_r3 := ((fv52 r3 m_r3 n_r3_o2 n_r3_r2).trans ((fv42 r3 m_r3 n_r3_la n_r3_ca (fun h_ => (n_r3_fam _ (vp_lt hk42)).1 (h_.trans eb42)) (fun h_ => (n_r3_fam _ (vp_lt hk42)).2 (h_.trans ew42))).trans e_r3))
            subst hQQ
            exact q_retv (post := fun L1 f1 => L1 = L ∧ (∀ b, b ∈ L → b ≠ la → b ≠ ca → b ≠ re → b ≠ rr → (∀ j, j < 20 → b ≠ lb j ∧ b ≠ lw j) → b ≠ o1 → b ≠ r1 → b ≠ o2 → b ≠ r2 → b ≠ o3 → b ≠ r3 → f1 b = f b) ∧ f1 la = .inr (3, [.ref ro, .ref ca, .ref re, .int z.1, .int z.2.1]) ∧ f1 ca = .inl (g 0, 20, .inl z.2.2.1) ∧ f1 re = .inr (0, [.ref rr, .int z.2.2.2.1]) ∧ f1 rr = .inl (g 1, 1000, .inr (.inl z.2.2.2.2.1)) ∧ LF g L f1 rf lb lw z.2.2.2.2.2.1 z.2.2.2.2.2.2 ∧ (∃ j1 : Int32, f1 o1 = .inr (0, [.ref r1, .int j1])) ∧ (∃ j0 : Nat → Int64, f1 r1 = .inl (g 1, 1000, .inr (.inl j0))) ∧ (∃ j1 : Int32, f1 o2 = .inr (0, [.ref r2, .int j1])) ∧ (∃ j0 : Nat → Int64, f1 r2 = .inl (g 1, 1000, .inr (.inl j0))) ∧ (∃ j1 : Int32, f1 o3 = .inr (0, [.ref r3, .int j1])) ∧ (∃ j0 : Nat → Int64, f1 r3 = .inl (g 1, 1000, .inr (.inl j0)))) hx hb hr hlk S dX3_build_63 (by decide) (by decide) (by have hz := Option.some.inj hM; subst hz; exact ⟨rfl, fr, e_la, e_ca, e_re, e_rr, e_fam, ⟨_, e_o1⟩, ⟨_, e_r1⟩, ⟨_, e_o2⟩, ⟨_, e_r2⟩, ⟨_, e_o3⟩, ⟨_, e_r3⟩⟩)
      · intro x8_30 cLC_30 cCA_30 cLZ_30 cLD_30 iN_30 iV_30 rN_30 rV_30 tN_30 tV_30 fl30 H locs ls hM S e_la e_ro e_ca e_re e_rr e_fam e_o1 e_r1 e_o2 e_r2 e_o3 e_r3 fr hl
        rw [mX3_build_L30] at hM
        refine lv_iload hx hb dX3_build_30 (lv_at hl 0 rfl) ?_
        refine lv_bipush (v := (20 : Int32)) hx hb dX3_build_32 (by decide) ?_
        refine lv_icmp_ge (tgt := 110) hx hb dX3_build_34 (by decide) (fun b34 => ?_) (fun b34 => ?_)
        · have hM := itT b34 hM
          subst hQQ
          exact q_retv (post := fun L1 f1 => L1 = L ∧ (∀ b, b ∈ L → b ≠ la → b ≠ ca → b ≠ re → b ≠ rr → (∀ j, j < 20 → b ≠ lb j ∧ b ≠ lw j) → b ≠ o1 → b ≠ r1 → b ≠ o2 → b ≠ r2 → b ≠ o3 → b ≠ r3 → f1 b = f b) ∧ f1 la = .inr (3, [.ref ro, .ref ca, .ref re, .int z.1, .int z.2.1]) ∧ f1 ca = .inl (g 0, 20, .inl z.2.2.1) ∧ f1 re = .inr (0, [.ref rr, .int z.2.2.2.1]) ∧ f1 rr = .inl (g 1, 1000, .inr (.inl z.2.2.2.2.1)) ∧ LF g L f1 rf lb lw z.2.2.2.2.2.1 z.2.2.2.2.2.2 ∧ (∃ j1 : Int32, f1 o1 = .inr (0, [.ref r1, .int j1])) ∧ (∃ j0 : Nat → Int64, f1 r1 = .inl (g 1, 1000, .inr (.inl j0))) ∧ (∃ j1 : Int32, f1 o2 = .inr (0, [.ref r2, .int j1])) ∧ (∃ j0 : Nat → Int64, f1 r2 = .inl (g 1, 1000, .inr (.inl j0))) ∧ (∃ j1 : Int32, f1 o3 = .inr (0, [.ref r3, .int j1])) ∧ (∃ j0 : Nat → Int64, f1 r3 = .inl (g 1, 1000, .inr (.inl j0)))) hx hb hr hlk S dX3_build_110 (by decide) (by decide) (by have hz := Option.some.inj hM; subst hz; exact ⟨rfl, fr, e_la, e_ca, e_re, e_rr, e_fam, ⟨_, e_o1⟩, ⟨_, e_r1⟩, ⟨_, e_o2⟩, ⟨_, e_r2⟩, ⟨_, e_o3⟩, ⟨_, e_r3⟩⟩)
        · have hM := itF b34 hM
          refine lv_aload_n hx hb dX3_build_37 rfl (lv_at hl 4 rfl) ?_
          refine lv_iload hx hb dX3_build_38 (lv_at hl 0 rfl) ?_
          refine lv_aload hx hb dX3_build_40 (lv_at hl 1 rfl) ?_
          obtain ⟨hk42, hM⟩ := ckx hM
          obtain ⟨rb42, rw42, eb42, ew42, hF_rb42, m_rb42, e_rb42, m_rw42, e_rw42⟩ := LF_at e_fam hk42
          obtain ⟨z42, hz42, hM⟩ := bind_some hM
          refine q_vv (As := [.int x8_30, .ref o2]) (rest := []) ⟨hx, hb, hml, hown, hts⟩ (k_X3_addLayer l D g m_la e_la m_ro e_ro m_ca e_ca m_re e_re m_rr e_rr m_rb42 e_rb42 m_rw42 e_rw42 m_o2 e_o2 m_r2 e_r2 hF_rb42 hz42) (cwV 2 hts gX3_build_X3_addLayer rfl rfl rfl (by decide +kernel) ⟨Nat.le_of_ble_eq_true rfl, Nat.le_of_ble_eq_true rfl⟩) S m_la e_la (T := TX3) (N := 5) rfl rfl hl.1 rfl (Nat.le_of_ble_eq_true rfl) dX3_build_42 ⟨Nat.le_of_ble_eq_true rfl, Nat.le_of_ble_eq_true rfl⟩ (fun L42 f43 H locs S w42 => ?_)
          obtain ⟨eL, fv42, E_la, E_ca, E_rb42, E_rw42⟩ := w42
          rw [eL] at S
          have fr : ∀ b, b ∈ L → b ≠ la → b ≠ ca → b ≠ re → b ≠ rr → (∀ j, j < 20 → b ≠ lb j ∧ b ≠ lw j) → b ≠ o1 → b ≠ r1 → b ≠ o2 → b ≠ r2 → b ≠ o3 → b ≠ r3 → f43 b = f b := fun b mb nb0 nb1 nb2 nb3 nb4 nb5 nb6 nb7 nb8 nb9 nb10 => (fv42 b mb nb0 nb1 (fun h_ => (nb4 _ (vp_lt hk42)).1 (h_.trans eb42)) (fun h_ => (nb4 _ (vp_lt hk42)).2 (h_.trans ew42))).trans (fr b mb nb0 nb1 nb2 nb3 nb4 nb5 nb6 nb7 nb8 nb9 nb10)
          have e_fam := LF_set e_fam hdis hk42 eb42 ew42 E_rb42 E_rw42 (fun j hj q1 q2 n1 n2 => ⟨fv42 (lb j) q1 (n_fam_la j hj).1 (n_fam_ca j hj).1 n1 (ne_ir e_rw42 (e_fam j hj).2.2.1), fv42 (lw j) q2 (n_fam_la j hj).2 (n_fam_ca j hj).2 (ne_ri e_rb42 (e_fam j hj).2.2.2.2) n2⟩)
          have e_la : f43 la = .inr (3, [.ref ro, .ref ca, .ref re, .int z42.1, .int nsd]) := E_la
          have e_ca : f43 ca = .inl (g 0, 20, .inl z42.2.1) := E_ca
          refine lv_aload_n hx hb dX3_build_45 rfl (lv_at hl 4 rfl) ?_
          refine lv_iload hx hb dX3_build_46 (lv_at hl 0 rfl) ?_
          refine lv_aload hx hb dX3_build_48 (lv_at hl 2 rfl) ?_
          refine lv_aload hx hb dX3_build_50 (lv_at hl 3 rfl) ?_
          obtain ⟨hk52, hM⟩ := ckx hM
          obtain ⟨rb52, rw52, eb52, ew52, hF_rb52, m_rb52, e_rb52, m_rw52, e_rw52⟩ := LF_at e_fam hk52
          obtain ⟨z52, hz52, hM⟩ := bind_some hM
          have e_ro := ((fv42 ro m_ro n_ro_la n_ro_ca (fun h_ => (n_ro_fam _ (vp_lt hk42)).1 (h_.trans eb42)) (fun h_ => (n_ro_fam _ (vp_lt hk42)).2 (h_.trans ew42))).trans e_ro)
          have e_re := ((fv42 re m_re n_re_la n_re_ca (fun h_ => (n_re_fam _ (vp_lt hk42)).1 (h_.trans eb42)) (fun h_ => (n_re_fam _ (vp_lt hk42)).2 (h_.trans ew42))).trans e_re)
          have e_rr := ((fv42 rr m_rr n_rr_la n_rr_ca (fun h_ => (n_rr_fam _ (vp_lt hk42)).1 (h_.trans eb42)) (fun h_ => (n_rr_fam _ (vp_lt hk42)).2 (h_.trans ew42))).trans e_rr)
          have e_o3 := ((fv42 o3 m_o3 n_o3_la n_o3_ca (fun h_ => (n_o3_fam _ (vp_lt hk42)).1 (h_.trans eb42)) (fun h_ => (n_o3_fam _ (vp_lt hk42)).2 (h_.trans ew42))).trans e_o3)
          have e_r3 := ((fv42 r3 m_r3 n_r3_la n_r3_ca (fun h_ => (n_r3_fam _ (vp_lt hk42)).1 (h_.trans eb42)) (fun h_ => (n_r3_fam _ (vp_lt hk42)).2 (h_.trans ew42))).trans e_r3)
          have e_o1 := ((fv42 o1 m_o1 n_o1_la n_o1_ca (fun h_ => (n_o1_fam _ (vp_lt hk42)).1 (h_.trans eb42)) (fun h_ => (n_o1_fam _ (vp_lt hk42)).2 (h_.trans ew42))).trans e_o1)
          have e_r1 := ((fv42 r1 m_r1 n_r1_la n_r1_ca (fun h_ => (n_r1_fam _ (vp_lt hk42)).1 (h_.trans eb42)) (fun h_ => (n_r1_fam _ (vp_lt hk42)).2 (h_.trans ew42))).trans e_r1)
          refine q_vv (As := [.int x8_30, .ref o3, .ref o1]) (rest := []) ⟨hx, hb, hml, hown, hts⟩ (k_X3_sift l D g m_la e_la m_ro e_ro m_ca e_ca m_re e_re m_rr e_rr m_rb52 e_rb52 m_rw52 e_rw52 m_o3 e_o3 m_r3 e_r3 m_o1 e_o1 m_r1 e_r1 n_re_o1 n_o3_o1 n_rr_r1 n_r3_r1 hF_rb52 hz52) (cwV 3 hts gX3_build_X3_sift rfl rfl rfl (by decide +kernel) ⟨Nat.le_of_ble_eq_true rfl, Nat.le_of_ble_eq_true rfl⟩) S m_la e_la (T := TX3) (N := 5) rfl rfl hl.1 rfl (Nat.le_of_ble_eq_true rfl) dX3_build_52 ⟨Nat.le_of_ble_eq_true rfl, Nat.le_of_ble_eq_true rfl⟩ (fun L45 f46 H locs S w52 => ?_)
          obtain ⟨eL, fv52, E_o1, E_r1⟩ := w52
          rw [eL] at S
          have fr : ∀ b, b ∈ L → b ≠ la → b ≠ ca → b ≠ re → b ≠ rr → (∀ j, j < 20 → b ≠ lb j ∧ b ≠ lw j) → b ≠ o1 → b ≠ r1 → b ≠ o2 → b ≠ r2 → b ≠ o3 → b ≠ r3 → f46 b = f b := fun b mb nb0 nb1 nb2 nb3 nb4 nb5 nb6 nb7 nb8 nb9 nb10 => (fv52 b mb nb5 nb6).trans (fr b mb nb0 nb1 nb2 nb3 nb4 nb5 nb6 nb7 nb8 nb9 nb10)
          have e_o1 : f46 o1 = .inr (0, [.ref r1, .int z52.1]) := E_o1
          have e_r1 : f46 r1 = .inl (g 1, 1000, .inr (.inl z52.2)) := E_r1
          refine lv_aload hx hb dX3_build_55 (lv_at hl 3 rfl) ?_
          obtain ⟨z57, hz57, hM⟩ := bind_some hM
          refine q_vi (As := []) (rest := []) ⟨hx, hb, hml, hown, hts⟩ (k_X0_count l D g m_o1 e_o1 hz57) (cwV 0 hts gX3_build_X0_count rfl rfl rfl (by decide +kernel) ⟨Nat.le_of_ble_eq_true rfl, Nat.le_of_ble_eq_true rfl⟩) S m_o1 e_o1 (T := TX0) (N := 2) rfl rfl hl.1 rfl (Nat.le_of_ble_eq_true rfl) dX3_build_57 ⟨Nat.le_of_ble_eq_true rfl, Nat.le_of_ble_eq_true rfl⟩ (fun r50 L48 f49 H locs S w57 => ?_)
          obtain ⟨ex57, eL, ef⟩ := w57
          rw [eL, ef] at S
          replace ex57 := ex57.symm
          subst ex57
          refine lv_if_ne (tgt := 64) hx hb dX3_build_60 (by decide) (fun b60 => ?_) (fun b60 => ?_)
          · have hM := itF b60 hM
            refine lv_aload_n hx hb dX3_build_64 rfl (lv_at hl 4 rfl) ?_
            refine lv_iload hx hb dX3_build_65 (lv_at hl 0 rfl) ?_
            refine lv_aload hx hb dX3_build_67 (lv_at hl 3 rfl) ?_
            obtain ⟨z69, hz69, hM⟩ := bind_some hM
            refine q_vi (As := []) (rest := [.int x8_30, .ref la]) ⟨hx, hb, hml, hown, hts⟩ (k_X0_count l D g m_o1 e_o1 hz69) (cwV 0 hts gX3_build_X0_count rfl rfl rfl (by decide +kernel) ⟨Nat.le_of_ble_eq_true rfl, Nat.le_of_ble_eq_true rfl⟩) S m_o1 e_o1 (T := TX0) (N := 2) rfl rfl hl.1 rfl (Nat.le_of_ble_eq_true rfl) dX3_build_69 ⟨Nat.le_of_ble_eq_true rfl, Nat.le_of_ble_eq_true rfl⟩ (fun r53 L51 f52 H locs S w69 => ?_)
            obtain ⟨ex69, eL, ef⟩ := w69
            rw [eL, ef] at S
            replace ex69 := ex69.symm
            subst ex69
            obtain ⟨z72, hz72, hM⟩ := bind_some hM
            have e_la := ((fv52 la m_la n_la_o1 n_la_r1).trans e_la)
            have e_ca := ((fv52 ca m_ca n_ca_o1 n_ca_r1).trans e_ca)
            refine q_vi (As := [.int x8_30, .int z69]) (rest := []) ⟨hx, hb, hml, hown, hts⟩ (k_X3_isRestBehind l D g m_la e_la m_ca e_ca hz72) (cwV 2 hts gX3_build_X3_isRestBehind rfl rfl rfl (by decide +kernel) ⟨Nat.le_of_ble_eq_true rfl, Nat.le_of_ble_eq_true rfl⟩) S m_la e_la (T := TX3) (N := 5) rfl rfl hl.1 rfl (Nat.le_of_ble_eq_true rfl) dX3_build_72 ⟨Nat.le_of_ble_eq_true rfl, Nat.le_of_ble_eq_true rfl⟩ (fun r56 L54 f55 H locs S w72 => ?_)
            obtain ⟨ex72, eL, ef⟩ := w72
            rw [eL, ef] at S
            replace ex72 := ex72.symm
            subst ex72
            refine lv_if_eq (tgt := 88) hx hb dX3_build_75 (by decide) (fun b75 => ?_) (fun b75 => ?_)
            · have hM := itT b75 hM
              refine lv_aload hx hb dX3_build_88 (lv_at hl 2 rfl) ?_
              refine lv_astore (lv' := [(9, .ref o3), (8, .int x8_30), (5, .ref o2), (6, .ref o3), (7, .ref o1), (0, .ref la)]) hx hb dX3_build_90 hl (by decide) rfl (fun ls hl => ?_)
              refine lv_aload hx hb dX3_build_92 (lv_at hl 2 rfl) ?_
              refine lv_astore (lv' := [(6, .ref o2), (9, .ref o3), (8, .int x8_30), (5, .ref o2), (7, .ref o1), (0, .ref la)]) hx hb dX3_build_94 hl (by decide) rfl (fun ls hl => ?_)
              refine lv_aload hx hb dX3_build_96 (lv_at hl 4 rfl) ?_
              refine lv_astore (lv' := [(5, .ref o1), (6, .ref o2), (9, .ref o3), (8, .int x8_30), (7, .ref o1), (0, .ref la)]) hx hb dX3_build_98 hl (by decide) rfl (fun ls hl => ?_)
              refine lv_aload hx hb dX3_build_100 (lv_at hl 2 rfl) ?_
              refine lv_astore (lv' := [(7, .ref o3), (5, .ref o1), (6, .ref o2), (9, .ref o3), (8, .int x8_30), (0, .ref la)]) hx hb dX3_build_102 hl (by decide) rfl (fun ls hl => ?_)
              refine lv_iinc (v := (x8_30 + 1)) (lv' := [(8, .int (x8_30 + 1)), (7, .ref o3), (5, .ref o1), (6, .ref o2), (9, .ref o3), (0, .ref la)]) hx hb dX3_build_104 hl (k := 4) rfl rfl (by decide) rfl (fun ls hl => ?_)
              refine lv_goto (tgt := 30) hx hb dX3_build_107 (by decide) ?_
              have e_ro := ((fv52 ro m_ro n_ro_o1 n_ro_r1).trans e_ro)
              have e_re := ((fv52 re m_re n_re_o1 n_re_r1).trans e_re)
              have e_rr := ((fv52 rr m_rr n_rr_o1 n_rr_r1).trans e_rr)
              have e_fam := (LF_ext e_fam (fun j hj q1 q2 => ⟨fv52 (lb j) q1 (n_fam_o1 j hj).1 (n_fam_r1 j hj).1, fv52 (lw j) q2 (n_fam_o1 j hj).2 (n_fam_r1 j hj).2⟩))
              have e_o2 := ((fv52 o2 m_o2 n_o2_o1 n_o2_r1).trans ((fv42 o2 m_o2 n_o2_la n_o2_ca (fun h_ => (n_o2_fam _ (vp_lt hk42)).1 (h_.trans eb42)) (fun h_ => (n_o2_fam _ (vp_lt hk42)).2 (h_.trans ew42))).trans e_o2))
              have e_r2 := ((fv52 r2 m_r2 n_r2_o1 n_r2_r1).trans ((fv42 r2 m_r2 n_r2_la n_r2_ca (fun h_ => (n_r2_fam _ (vp_lt hk42)).1 (h_.trans eb42)) (fun h_ => (n_r2_fam _ (vp_lt hk42)).2 (h_.trans ew42))).trans e_r2))
              have e_o3 := ((fv52 o3 m_o3 n_o3_o1 n_o3_r1).trans e_o3)
              have e_r3 := ((fv52 r3 m_r3 n_r3_o1 n_r3_r1).trans e_r3)
              exact ih30.1 (x8_30 + 1) z42.1 z42.2.1 (upd cLZ_30 (Int32.toNatClampNeg x8_30) z42.2.2.1) (va_up cLD_30 (Int32.toNatClampNeg x8_30) z42.2.2.2) z52.1 z52.2 iN_30 iV_30 rN_30 rV_30 f46 _ _ _ hM S e_la e_ro e_ca e_re e_rr e_fam e_o1 e_r1 e_o2 e_r2 e_o3 e_r3 fr (lv_sub hl [0, 2, 3, 1, 5] rfl)
            · have hM := itF b75 hM
              refine lv_aload_n hx hb dX3_build_78 rfl (lv_at hl 4 rfl) ?_
              refine q_get hx hb hts in_X3 hown S m_la e_la (C := RX3) (T := TX3) (N := 5) rfl 2 (by decide) rfl (hts (.fieldLink RX3 24 "SieveCabinet$Layers" "rest" "LSieveCabinet$Bag;") (gu_wsX3_build_1 _ gm_2)) dX3_build_79 ?_
              refine lv_aload hx hb dX3_build_82 (lv_at hl 3 rfl) ?_
              obtain ⟨z84, hz84, hM⟩ := bind_some hM
              have e_re := ((fv52 re m_re n_re_o1 n_re_r1).trans e_re)
              have e_rr := ((fv52 rr m_rr n_rr_o1 n_rr_r1).trans e_rr)
              refine q_vv (As := [.ref o1]) (rest := []) ⟨hx, hb, hml, hown, hts⟩ (k_X0_copyFrom l D g m_re e_re m_rr e_rr m_o1 e_o1 m_r1 e_r1 hz84) (cwV 1 hts gX3_build_X0_copyFrom rfl rfl rfl (by decide +kernel) ⟨Nat.le_of_ble_eq_true rfl, Nat.le_of_ble_eq_true rfl⟩) S m_re e_re (T := TX0) (N := 2) rfl rfl hl.1 rfl (Nat.le_of_ble_eq_true rfl) dX3_build_84 ⟨Nat.le_of_ble_eq_true rfl, Nat.le_of_ble_eq_true rfl⟩ (fun L57 f58 H locs S w84 => ?_)
              obtain ⟨eL, fv84, E_re, E_rr⟩ := w84
              rw [eL] at S
              have fr : ∀ b, b ∈ L → b ≠ la → b ≠ ca → b ≠ re → b ≠ rr → (∀ j, j < 20 → b ≠ lb j ∧ b ≠ lw j) → b ≠ o1 → b ≠ r1 → b ≠ o2 → b ≠ r2 → b ≠ o3 → b ≠ r3 → f58 b = f b := fun b mb nb0 nb1 nb2 nb3 nb4 nb5 nb6 nb7 nb8 nb9 nb10 => (fv84 b mb nb2 nb3).trans (fr b mb nb0 nb1 nb2 nb3 nb4 nb5 nb6 nb7 nb8 nb9 nb10)
              have e_re : f58 re = .inr (0, [.ref rr, .int z84.1]) := E_re
              have e_rr : f58 rr = .inl (g 1, 1000, .inr (.inl z84.2)) := E_rr
              have e_la := ((fv84 la m_la n_la_re n_la_rr).trans e_la)
              have e_ca := ((fv84 ca m_ca n_ca_re n_ca_rr).trans e_ca)
              have e_fam := (LF_ext (LF_ext e_fam (fun j hj q1 q2 => ⟨fv52 (lb j) q1 (n_fam_o1 j hj).1 (n_fam_r1 j hj).1, fv52 (lw j) q2 (n_fam_o1 j hj).2 (n_fam_r1 j hj).2⟩)) (fun j hj q1 q2 => ⟨fv84 (lb j) q1 (n_fam_re j hj).1 (n_fam_rr j hj).1, fv84 (lw j) q2 (n_fam_re j hj).2 (n_fam_rr j hj).2⟩))
              have e_o1 := ((fv84 o1 m_o1 n_o1_re n_o1_rr).trans e_o1)
              have e_r1 := ((fv84 r1 m_r1 n_r1_re n_r1_rr).trans e_r1)
              have e_o2 := ((fv84 o2 m_o2 n_o2_re n_o2_rr).trans ((fv52 o2 m_o2 n_o2_o1 n_o2_r1).trans ((fv42 o2 m_o2 n_o2_la n_o2_ca (fun h_ => (n_o2_fam _ (vp_lt hk42)).1 (h_.trans eb42)) (fun h_ => (n_o2_fam _ (vp_lt hk42)).2 (h_.trans ew42))).trans e_o2)))
              have e_r2 := ((fv84 r2 m_r2 n_r2_re n_r2_rr).trans ((fv52 r2 m_r2 n_r2_o1 n_r2_r1).trans ((fv42 r2 m_r2 n_r2_la n_r2_ca (fun h_ => (n_r2_fam _ (vp_lt hk42)).1 (h_.trans eb42)) (fun h_ => (n_r2_fam _ (vp_lt hk42)).2 (h_.trans ew42))).trans e_r2)))
              have e_o3 := ((fv84 o3 m_o3 n_o3_re n_o3_rr).trans ((fv52 o3 m_o3 n_o3_o1 n_o3_r1).trans e_o3))
              have e_r3 := ((fv84 r3 m_r3 n_r3_re n_r3_rr).trans ((fv52 r3 m_r3 n_r3_o1 n_r3_r1).trans e_r3))
              subst hQQ
              exact q_retv (post := fun L1 f1 => L1 = L ∧ (∀ b, b ∈ L → b ≠ la → b ≠ ca → b ≠ re → b ≠ rr → (∀ j, j < 20 → b ≠ lb j ∧ b ≠ lw j) → b ≠ o1 → b ≠ r1 → b ≠ o2 → b ≠ r2 → b ≠ o3 → b ≠ r3 → f1 b = f b) ∧ f1 la = .inr (3, [.ref ro, .ref ca, .ref re, .int z.1, .int z.2.1]) ∧ f1 ca = .inl (g 0, 20, .inl z.2.2.1) ∧ f1 re = .inr (0, [.ref rr, .int z.2.2.2.1]) ∧ f1 rr = .inl (g 1, 1000, .inr (.inl z.2.2.2.2.1)) ∧ LF g L f1 rf lb lw z.2.2.2.2.2.1 z.2.2.2.2.2.2 ∧ (∃ j1 : Int32, f1 o1 = .inr (0, [.ref r1, .int j1])) ∧ (∃ j0 : Nat → Int64, f1 r1 = .inl (g 1, 1000, .inr (.inl j0))) ∧ (∃ j1 : Int32, f1 o2 = .inr (0, [.ref r2, .int j1])) ∧ (∃ j0 : Nat → Int64, f1 r2 = .inl (g 1, 1000, .inr (.inl j0))) ∧ (∃ j1 : Int32, f1 o3 = .inr (0, [.ref r3, .int j1])) ∧ (∃ j0 : Nat → Int64, f1 r3 = .inl (g 1, 1000, .inr (.inl j0)))) hx hb hr hlk S dX3_build_87 (by decide) (by decide) (by have hz := Option.some.inj hM; subst hz; exact ⟨rfl, fr, e_la, e_ca, e_re, e_rr, e_fam, ⟨_, e_o1⟩, ⟨_, e_r1⟩, ⟨_, e_o2⟩, ⟨_, e_r2⟩, ⟨_, e_o3⟩, ⟨_, e_r3⟩⟩)
          · have hM := itT b60 hM
            have e_la := ((fv52 la m_la n_la_o1 n_la_r1).trans e_la)
            have e_ca := ((fv52 ca m_ca n_ca_o1 n_ca_r1).trans e_ca)
            have e_re := ((fv52 re m_re n_re_o1 n_re_r1).trans e_re)
            have e_rr := ((fv52 rr m_rr n_rr_o1 n_rr_r1).trans e_rr)
            have e_fam := (LF_ext e_fam (fun j hj q1 q2 => ⟨fv52 (lb j) q1 (n_fam_o1 j hj).1 (n_fam_r1 j hj).1, fv52 (lw j) q2 (n_fam_o1 j hj).2 (n_fam_r1 j hj).2⟩))
            have e_o2 := ((fv52 o2 m_o2 n_o2_o1 n_o2_r1).trans ((fv42 o2 m_o2 n_o2_la n_o2_ca (fun h_ => (n_o2_fam _ (vp_lt hk42)).1 (h_.trans eb42)) (fun h_ => (n_o2_fam _ (vp_lt hk42)).2 (h_.trans ew42))).trans e_o2))
            have e_r2 := ((fv52 r2 m_r2 n_r2_o1 n_r2_r1).trans ((fv42 r2 m_r2 n_r2_la n_r2_ca (fun h_ => (n_r2_fam _ (vp_lt hk42)).1 (h_.trans eb42)) (fun h_ => (n_r2_fam _ (vp_lt hk42)).2 (h_.trans ew42))).trans e_r2))
            have e_o3 := ((fv52 o3 m_o3 n_o3_o1 n_o3_r1).trans e_o3)
            have e_r3 := ((fv52 r3 m_r3 n_r3_o1 n_r3_r1).trans e_r3)
            subst hQQ
            exact q_retv (post := fun L1 f1 => L1 = L ∧ (∀ b, b ∈ L → b ≠ la → b ≠ ca → b ≠ re → b ≠ rr → (∀ j, j < 20 → b ≠ lb j ∧ b ≠ lw j) → b ≠ o1 → b ≠ r1 → b ≠ o2 → b ≠ r2 → b ≠ o3 → b ≠ r3 → f1 b = f b) ∧ f1 la = .inr (3, [.ref ro, .ref ca, .ref re, .int z.1, .int z.2.1]) ∧ f1 ca = .inl (g 0, 20, .inl z.2.2.1) ∧ f1 re = .inr (0, [.ref rr, .int z.2.2.2.1]) ∧ f1 rr = .inl (g 1, 1000, .inr (.inl z.2.2.2.2.1)) ∧ LF g L f1 rf lb lw z.2.2.2.2.2.1 z.2.2.2.2.2.2 ∧ (∃ j1 : Int32, f1 o1 = .inr (0, [.ref r1, .int j1])) ∧ (∃ j0 : Nat → Int64, f1 r1 = .inl (g 1, 1000, .inr (.inl j0))) ∧ (∃ j1 : Int32, f1 o2 = .inr (0, [.ref r2, .int j1])) ∧ (∃ j0 : Nat → Int64, f1 r2 = .inl (g 1, 1000, .inr (.inl j0))) ∧ (∃ j1 : Int32, f1 o3 = .inr (0, [.ref r3, .int j1])) ∧ (∃ j0 : Nat → Int64, f1 r3 = .inl (g 1, 1000, .inr (.inl j0)))) hx hb hr hlk S dX3_build_63 (by decide) (by decide) (by have hz := Option.some.inj hM; subst hz; exact ⟨rfl, fr, e_la, e_ca, e_re, e_rr, e_fam, ⟨_, e_o1⟩, ⟨_, e_r1⟩, ⟨_, e_o2⟩, ⟨_, e_r2⟩, ⟨_, e_o3⟩, ⟨_, e_r3⟩⟩)
  exact (LP30 FU).1 (0 : Int32) (0 : Int32) kca lz ld n1 v1 n2 v2 n3 v3 f4 _ _ _ hM S e_la e_ro e_ca e_re e_rr e_fam e_o1 e_r1 e_o2 e_r2 e_o3 e_r3 fr (lv_sub hl [0, 3, 2, 1, 4] rfl)
