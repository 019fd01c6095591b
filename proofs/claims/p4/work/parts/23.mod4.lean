set_option maxHeartbeats 4000000 in
set_option maxRecDepth 100000 in
/-- reference: lay, layer 0 of nothing -/
theorem c_X9_lay0 (l : Launch) (D : va_G) (g : Nat → ClassId) {L : List Nat} {f : Nat → va_E} {y y0 y1 y2 y3 y4 y5 y6 y7 y8 y9 y10 y11 y12 y13 y15 y16 y17 y18 y19 y20 y21 y22 : Nat}    {v_size : Nat → Int32}      {v_bits : Nat → Int32} {v_layerSize : Nat → Int32} {v_layerCame : Nat → Int32}           {mm : Int32} (m_y : y ∈ L) (e_y : f y = .inr (7, [.ref y0, .ref y1, .ref y2, .ref y3, .ref y4, .ref y5, .ref y6, .ref y7, .ref y8, .ref y9, .ref y10, .ref y11, .ref y12, .ref y13, .int mm, .ref y15, .ref y16, .ref y17, .ref y18, .ref y19, .ref y20, .ref y21, .ref y22])) (m_y10 : y10 ∈ L) (e_y10 : f y10 = .inl (g 0, 600, .inl v_layerSize)) (m_y11 : y11 ∈ L) (e_y11 : f y11 = .inl (g 0, 600, .inl v_layerCame)) (m_y9 : y9 ∈ L) (e_y9 : f y9 = .inl (g 0, 76800, .inl v_bits)) (m_y3 : y3 ∈ L) (e_y3 : f y3 = .inl (g 0, 30, .inl v_size)) (hnd : [y, y0, y1, y2, y3, y4, y5, y6, y7, y8, y9, y10, y11, y12, y13, y15, y16, y17, y18, y19, y20, y21, y22].Nodup) : cV l yX9_lay wsX9_lay { frames := 0, cells := 0, slots := 0, locals := 0 } D g [.ref y, .int 0, .int 0, .int 0] L f 0 0 (fun L1 f1 => L1 = L ∧ (∀ b, b ∈ L → b ≠ y10 → b ≠ y11 → b ≠ y9 → b ≠ y3 → f1 b = f b) ∧ ∃ u_layerSize : Nat → Int32, ∃ u_layerCame : Nat → Int32, ∃ u_bits : Nat → Int32, ∃ u_size : Nat → Int32, f1 y10 = .inl (g 0, 600, .inl u_layerSize) ∧ f1 y11 = .inl (g 0, 600, .inl u_layerCame) ∧ f1 y9 = .inl (g 0, 76800, .inl u_bits) ∧ f1 y3 = .inl (g 0, 30, .inl u_size)) := by
  refine cV_of (cc := cX9_lay) (maxL := 11) (ret := none) (by decide) rfl (Nat.le_of_ble_eq_true rfl) ?_
  intro sz p e s m below meth c hx hb hr hml hts hown hlk hnm S ls hl
  have hl : lv_has ls 11 [(0, .ref y), (1, .int 0), (2, .int 0), (3, .int 0)] := hl
  have in_X9 : ∀ w ∈ wsX90, w ∈ wsX9_lay := by decide +kernel
  have fr : ∀ b, b ∈ L → b ≠ y10 → b ≠ y11 → b ≠ y9 → b ≠ y3 → f b = f b := fun _ _ _ _ _ _ => rfl
  have mono : ∀ b, b ∈ L → b ∈ L := fun _ h => h
  refine lv_bipush (v := 8) hx hb dX9_lay_0 (by decide) ?_
  refine lv_istore (lv' := [(4, .int 8), (0, .ref y), (1, .int 0), (2, .int 0), (3, .int 0)]) hx hb dX9_lay_2 hl (by decide) rfl (fun ls hl => ?_)
  refine lv_iload hx hb dX9_lay_4 (lv_at hl 0 rfl) ?_
  refine lv_sipush (v := 4096) hx hb dX9_lay_6 (by decide) ?_
  refine lv_icmp_ge (tgt := 30) hx hb dX9_lay_9 (by decide) (fun b9 => absurd b9 (by decide)) (fun b9 => ?_)
  refine lv_iload hx hb dX9_lay_12 (lv_at hl 0 rfl) ?_
  refine lv_bipush (v := 8) hx hb dX9_lay_14 (by decide) ?_
  refine lv_iload_n hx hb dX9_lay_16 rfl (lv_at hl 4 rfl) ?_
  refine lv_imul hx hb dX9_lay_17 ?_
  refine lv_topi (fun t_ et_ => ?_)
  obtain rfl : t_ = 0 := et_.trans (by decide)
  refine lv_icmp_ge (tgt := 30) hx hb dX9_lay_18 (by decide) (fun b18 => ?_) (fun b18 => absurd (by decide) b18)
  refine lv_iload_n hx hb dX9_lay_30 rfl (lv_at hl 2 rfl) ?_
  refine lv_bipush (v := 20) hx hb dX9_lay_31 (by decide) ?_
  refine lv_imul hx hb dX9_lay_33 ?_
  refine lv_topi (fun t_ et_ => ?_)
  obtain rfl : t_ = 0 := et_.trans (by decide)
  refine lv_iload_n hx hb dX9_lay_34 rfl (lv_at hl 3 rfl) ?_
  refine lv_iadd hx hb dX9_lay_35 ?_
  refine lv_topi (fun t_ et_ => ?_)
  obtain rfl : t_ = 0 := et_.trans (by decide)
  refine lv_istore (lv' := [(5, .int 0), (4, .int 8), (0, .ref y), (1, .int 0), (2, .int 0), (3, .int 0)]) hx hb dX9_lay_36 hl (by decide) rfl (fun ls hl => ?_)
  refine lv_aload_n hx hb dX9_lay_38 rfl (lv_at hl 2 rfl) ?_
  refine q_get hx hb hts in_X9 hown S m_y e_y (C := RX9) (T := TX9) (N := 23) rfl 10 (by decide) rfl (hts (.fieldLink RX9 43 "SieveCabinetModel" "layerSize" "[I") (by decide +kernel)) dX9_lay_39 ?_
  refine lv_iload hx hb dX9_lay_42 (lv_at hl 0 rfl) ?_
  refine lv_iload hx hb dX9_lay_44 (lv_at hl 1 rfl) ?_
  refine q_iast hx hb S m_y10 e_y10 (pu_in0 (by decide) (by decide)) dX9_lay_46 (fun H locs S => ?_)
  obtain ⟨f1, ef1⟩ : ∃ z_, z_ = va_up f y10 (.inl (g 0, 600, .inl (upd v_layerSize (0 : Int32).toNatClampNeg 8))) := ⟨_, rfl⟩
  have S : PS D g (va_A (va_pl L f) sz) s.heap s L f1 H locs := by rw [ef1]; exact S
  have e_y : f1 y = .inr (7, [.ref y0, .ref y1, .ref y2, .ref y3, .ref y4, .ref y5, .ref y6, .ref y7, .ref y8, .ref y9, .ref y10, .ref y11, .ref y12, .ref y13, .int mm, .ref y15, .ref y16, .ref y17, .ref y18, .ref y19, .ref y20, .ref y21, .ref y22]) := up_ne ef1 (nd_ne hnd (i := 11) (j := 0) rfl rfl (by decide)) e_y
  have e_y11 : f1 y11 = .inl (g 0, 600, .inl v_layerCame) := up_ne ef1 (nd_ne hnd (i := 11) (j := 12) rfl rfl (by decide)) e_y11
  have e_y9 : f1 y9 = .inl (g 0, 76800, .inl v_bits) := up_ne ef1 (nd_ne hnd (i := 11) (j := 10) rfl rfl (by decide)) e_y9
  have e_y3 : f1 y3 = .inl (g 0, 30, .inl v_size) := up_ne ef1 (nd_ne hnd (i := 11) (j := 4) rfl rfl (by decide)) e_y3
  have e_y10 : f1 y10 = .inl (g 0, 600, .inl (upd v_layerSize (0 : Int32).toNatClampNeg 8)) := up_self ef1
  have fr : ∀ b, b ∈ L → b ≠ y10 → b ≠ y11 → b ≠ y9 → b ≠ y3 → f1 b = f b := fun b mb nb0 nb1 nb2 nb3 => (up_ne ef1 nb0 rfl).trans (fr b mb nb0 nb1 nb2 nb3)
  refine lv_aload_n hx hb dX9_lay_47 rfl (lv_at hl 2 rfl) ?_
  refine q_get hx hb hts in_X9 hown S m_y e_y (C := RX9) (T := TX9) (N := 23) rfl 11 (by decide) rfl (hts (.fieldLink RX9 46 "SieveCabinetModel" "layerCame" "[I") (by decide +kernel)) dX9_lay_48 ?_
  refine lv_iload hx hb dX9_lay_51 (lv_at hl 0 rfl) ?_
  refine lv_iload_n hx hb dX9_lay_53 rfl (lv_at hl 5 rfl) ?_
  refine q_iast hx hb S m_y11 e_y11 (pu_in0 (by decide) (by decide)) dX9_lay_54 (fun H locs S => ?_)
  obtain ⟨f2, ef2⟩ : ∃ z_, z_ = va_up f1 y11 (.inl (g 0, 600, .inl (upd v_layerCame (0 : Int32).toNatClampNeg 0))) := ⟨_, rfl⟩
  have S : PS D g (va_A (va_pl L f) sz) s.heap s L f2 H locs := by rw [ef2]; exact S
  have e_y : f2 y = .inr (7, [.ref y0, .ref y1, .ref y2, .ref y3, .ref y4, .ref y5, .ref y6, .ref y7, .ref y8, .ref y9, .ref y10, .ref y11, .ref y12, .ref y13, .int mm, .ref y15, .ref y16, .ref y17, .ref y18, .ref y19, .ref y20, .ref y21, .ref y22]) := up_ne ef2 (nd_ne hnd (i := 12) (j := 0) rfl rfl (by decide)) e_y
  have e_y10 : f2 y10 = .inl (g 0, 600, .inl (upd v_layerSize (0 : Int32).toNatClampNeg 8)) := up_ne ef2 (nd_ne hnd (i := 12) (j := 11) rfl rfl (by decide)) e_y10
  have e_y9 : f2 y9 = .inl (g 0, 76800, .inl v_bits) := up_ne ef2 (nd_ne hnd (i := 12) (j := 10) rfl rfl (by decide)) e_y9
  have e_y3 : f2 y3 = .inl (g 0, 30, .inl v_size) := up_ne ef2 (nd_ne hnd (i := 12) (j := 4) rfl rfl (by decide)) e_y3
  have e_y11 : f2 y11 = .inl (g 0, 600, .inl (upd v_layerCame (0 : Int32).toNatClampNeg 0)) := up_self ef2
  have fr : ∀ b, b ∈ L → b ≠ y10 → b ≠ y11 → b ≠ y9 → b ≠ y3 → f2 b = f b := fun b mb nb0 nb1 nb2 nb3 => (up_ne ef2 nb1 rfl).trans (fr b mb nb0 nb1 nb2 nb3)
  refine lv_iconst (v := 0) hx hb dX9_lay_55 (by decide) ?_
  refine lv_istore (lv' := [(6, .int 0), (5, .int 0), (4, .int 8), (0, .ref y), (1, .int 0), (2, .int 0), (3, .int 0)]) hx hb dX9_lay_56 hl (by decide) rfl (fun ls hl => ?_)
  obtain ⟨i, ei⟩ : ∃ z_ : Nat, z_ = 0 := ⟨_, rfl⟩
  obtain ⟨k_y9, ek_y9⟩ : ∃ z_ : Nat → Int32, z_ = v_bits := ⟨_, rfl⟩
  obtain ⟨fl, efl⟩ : ∃ z_, z_ = f2 := ⟨_, rfl⟩
  have e_y : fl y = .inr (7, [.ref y0, .ref y1, .ref y2, .ref y3, .ref y4, .ref y5, .ref y6, .ref y7, .ref y8, .ref y9, .ref y10, .ref y11, .ref y12, .ref y13, .int mm, .ref y15, .ref y16, .ref y17, .ref y18, .ref y19, .ref y20, .ref y21, .ref y22]) := by rw [efl]; exact e_y
  have e_y10 : fl y10 = .inl (g 0, 600, .inl (upd v_layerSize (0 : Int32).toNatClampNeg 8)) := by rw [efl]; exact e_y10
  have e_y11 : fl y11 = .inl (g 0, 600, .inl (upd v_layerCame (0 : Int32).toNatClampNeg 0)) := by rw [efl]; exact e_y11
  have e_y9 : fl y9 = .inl (g 0, 76800, .inl k_y9) := by rw [efl, ek_y9]; exact e_y9
  have e_y3 : fl y3 = .inl (g 0, 30, .inl v_size) := by rw [efl]; exact e_y3
  have fr : ∀ b, b ∈ L → b ≠ y10 → b ≠ y11 → b ≠ y9 → b ≠ y3 → fl b = f b := by rw [efl]; exact fr
  have S_0 : PS D g (va_A (va_pl L f) sz) s.heap s L fl H locs := by rw [efl]; exact S
  refine W_any (X := fun H locs => PS D g (va_A (va_pl L f) sz) s.heap s L fl H locs) S_0 (fun H locs S => ?_)
  refine W_ls (lv := [(6, .int ((nI i))), (5, .int 0), (4, .int 8), (0, .ref y), (1, .int 0), (2, .int 0), (3, .int 0)]) (by have q := lv_sub hl [0, 1, 2, 3, 4, 5, 6] rfl; rw [ei]; exact q) (fun ls hl => ?_)
  obtain ⟨d, hd⟩ : ∃ z_ : Nat, i + z_ = 128 := ⟨128 - i, by omega⟩
  clear ei ek_y9 efl S_0
  induction d generalizing i k_y9 fl H locs ls with
  | zero =>
    have hN : i = 128 := by omega
    refine lv_iload hx hb dX9_lay_58 (lv_at hl 0 rfl) ?_
    refine lv_sipush (v := 128) hx hb dX9_lay_60 (by decide) ?_
    refine lv_icmp_ge (tgt := 87) hx hb dX9_lay_63 (by decide) (fun b63 => ?_) (fun b63 => absurd (by rw [hN]; decide) b63)
    refine lv_iconst (v := 0) hx hb dX9_lay_87 (by decide) ?_
    refine lv_istore (lv' := [(6, .int 0), (5, .int 0), (4, .int 8), (0, .ref y), (1, .int 0), (2, .int 0), (3, .int 0)]) hx hb dX9_lay_88 hl (by decide) rfl (fun ls hl => ?_)
    refine lv_iload hx hb dX9_lay_90 (lv_at hl 0 rfl) ?_
    refine lv_iload_n hx hb dX9_lay_92 rfl (lv_at hl 6 rfl) ?_
    refine lv_icmp_ge (tgt := 175) hx hb dX9_lay_93 (by decide) (fun b93 => ?_) (fun b93 => absurd (by decide) b93)
    refine lv_aload_n hx hb dX9_lay_175 rfl (lv_at hl 3 rfl) ?_
    refine q_get hx hb hts in_X9 hown S m_y e_y (C := RX9) (T := TX9) (N := 23) rfl 3 (by decide) rfl (hts (.fieldLink RX9 20 "SieveCabinetModel" "size" "[I") (by decide +kernel)) dX9_lay_176 ?_
    refine lv_iload_n hx hb dX9_lay_179 rfl (lv_at hl 4 rfl) ?_
    refine lv_iload_n hx hb dX9_lay_180 rfl (lv_at hl 5 rfl) ?_
    refine lv_iconst (v := 1) hx hb dX9_lay_181 (by decide) ?_
    refine lv_iadd hx hb dX9_lay_182 ?_
    refine q_iast hx hb S m_y3 e_y3 (pu_in0 (by decide) (by decide)) dX9_lay_183 (fun H locs S => ?_)
    obtain ⟨f3, ef3⟩ : ∃ z_, z_ = va_up fl y3 (.inl (g 0, 30, .inl (upd v_size (0 : Int32).toNatClampNeg (0 + 1)))) := ⟨_, rfl⟩
    have S : PS D g (va_A (va_pl L f) sz) s.heap s L f3 H locs := by rw [ef3]; exact S
    have e_y : f3 y = .inr (7, [.ref y0, .ref y1, .ref y2, .ref y3, .ref y4, .ref y5, .ref y6, .ref y7, .ref y8, .ref y9, .ref y10, .ref y11, .ref y12, .ref y13, .int mm, .ref y15, .ref y16, .ref y17, .ref y18, .ref y19, .ref y20, .ref y21, .ref y22]) := up_ne ef3 (nd_ne hnd (i := 4) (j := 0) rfl rfl (by decide)) e_y
    have e_y10 : f3 y10 = .inl (g 0, 600, .inl (upd v_layerSize (0 : Int32).toNatClampNeg 8)) := up_ne ef3 (nd_ne hnd (i := 4) (j := 11) rfl rfl (by decide)) e_y10
    have e_y11 : f3 y11 = .inl (g 0, 600, .inl (upd v_layerCame (0 : Int32).toNatClampNeg 0)) := up_ne ef3 (nd_ne hnd (i := 4) (j := 12) rfl rfl (by decide)) e_y11
    have e_y9 : f3 y9 = .inl (g 0, 76800, .inl k_y9) := up_ne ef3 (nd_ne hnd (i := 4) (j := 10) rfl rfl (by decide)) e_y9
    have e_y3 : f3 y3 = .inl (g 0, 30, .inl (upd v_size (0 : Int32).toNatClampNeg (0 + 1))) := up_self ef3
    have fr : ∀ b, b ∈ L → b ≠ y10 → b ≠ y11 → b ≠ y9 → b ≠ y3 → f3 b = f b := fun b mb nb0 nb1 nb2 nb3 => (up_ne ef3 nb3 rfl).trans (fr b mb nb0 nb1 nb2 nb3)
    exact q_retv (post := fun L1 f1 => L1 = L ∧ (∀ b, b ∈ L → b ≠ y10 → b ≠ y11 → b ≠ y9 → b ≠ y3 → f1 b = f b) ∧ ∃ u_layerSize : Nat → Int32, ∃ u_layerCame : Nat → Int32, ∃ u_bits : Nat → Int32, ∃ u_size : Nat → Int32, f1 y10 = .inl (g 0, 600, .inl u_layerSize) ∧ f1 y11 = .inl (g 0, 600, .inl u_layerCame) ∧ f1 y9 = .inl (g 0, 76800, .inl u_bits) ∧ f1 y3 = .inl (g 0, 30, .inl u_size)) hx hb hr hlk S dX9_lay_184 (by decide) (by decide) (⟨rfl, fr, _, _, _, _, e_y10, e_y11, e_y9, e_y3⟩)
  | succ d ih =>
    have hlt : i < 128 := by omega
    refine lv_iload hx hb dX9_lay_58 (lv_at hl 0 rfl) ?_
    refine lv_sipush (v := 128) hx hb dX9_lay_60 (by decide) ?_
    refine lv_icmp_ge (tgt := 87) hx hb dX9_lay_63 (by decide) (fun b63 => absurd b63 (nI_ge (b := 128) hlt (by decide))) (fun b63 => ?_)
    refine lv_aload_n hx hb dX9_lay_66 rfl (lv_at hl 3 rfl) ?_
    refine q_get hx hb hts in_X9 hown S m_y e_y (C := RX9) (T := TX9) (N := 23) rfl 9 (by decide) rfl (hts (.fieldLink RX9 40 "SieveCabinetModel" "bits" "[I") (by decide +kernel)) dX9_lay_67 ?_
    refine lv_iload hx hb dX9_lay_70 (lv_at hl 1 rfl) ?_
    refine lv_sipush (v := 128) hx hb dX9_lay_72 (by decide) ?_
    refine lv_imul hx hb dX9_lay_75 ?_
    refine lv_topi (fun t_ et_ => ?_)
    obtain rfl : t_ = 0 := et_.trans (by decide)
    refine lv_iload hx hb dX9_lay_76 (lv_at hl 0 rfl) ?_
    refine lv_iadd hx hb dX9_lay_78 ?_
    refine lv_iconst (v := 0) hx hb dX9_lay_79 (by decide) ?_
    refine q_iast hx hb S m_y9 e_y9 (by rw [Int32.zero_add]; exact vp_in_nI (by omega) (by decide)) dX9_lay_80 (fun H locs S => ?_)
    obtain ⟨f4, ef4⟩ : ∃ z_, z_ = va_up fl y9 (.inl (g 0, 76800, .inl (upd k_y9 ((0 + (nI i)) : Int32).toNatClampNeg 0))) := ⟨_, rfl⟩
    have S : PS D g (va_A (va_pl L f) sz) s.heap s L f4 H locs := by rw [ef4]; exact S
    have e_y : f4 y = .inr (7, [.ref y0, .ref y1, .ref y2, .ref y3, .ref y4, .ref y5, .ref y6, .ref y7, .ref y8, .ref y9, .ref y10, .ref y11, .ref y12, .ref y13, .int mm, .ref y15, .ref y16, .ref y17, .ref y18, .ref y19, .ref y20, .ref y21, .ref y22]) := up_ne ef4 (nd_ne hnd (i := 10) (j := 0) rfl rfl (by decide)) e_y
    have e_y10 : f4 y10 = .inl (g 0, 600, .inl (upd v_layerSize (0 : Int32).toNatClampNeg 8)) := up_ne ef4 (nd_ne hnd (i := 10) (j := 11) rfl rfl (by decide)) e_y10
    have e_y11 : f4 y11 = .inl (g 0, 600, .inl (upd v_layerCame (0 : Int32).toNatClampNeg 0)) := up_ne ef4 (nd_ne hnd (i := 10) (j := 12) rfl rfl (by decide)) e_y11
    have e_y3 : f4 y3 = .inl (g 0, 30, .inl v_size) := up_ne ef4 (nd_ne hnd (i := 10) (j := 4) rfl rfl (by decide)) e_y3
    have e_y9 : f4 y9 = .inl (g 0, 76800, .inl (upd k_y9 ((0 + (nI i)) : Int32).toNatClampNeg 0)) := up_self ef4
    have fr : ∀ b, b ∈ L → b ≠ y10 → b ≠ y11 → b ≠ y9 → b ≠ y3 → f4 b = f b := fun b mb nb0 nb1 nb2 nb3 => (up_ne ef4 nb2 rfl).trans (fr b mb nb0 nb1 nb2 nb3)
    obtain ⟨i1, ei1⟩ : ∃ y : Int32, y = (nI i) + (1) := ⟨_, rfl⟩
    refine lv_iinc (v := i1) (lv' := [(6, .int i1), (5, .int 0), (4, .int 8), (0, .ref y), (1, .int 0), (2, .int 0), (3, .int 0)]) hx hb dX9_lay_81 hl (k := 0) rfl (by rw [ei1]; rfl) (by decide) rfl (fun ls hl => ?_)
    refine lv_goto (tgt := 58) hx hb dX9_lay_84 (by decide) ?_
    exact ih (i := (i + 1)) (k_y9 := (upd k_y9 ((0 + (nI i)) : Int32).toNatClampNeg 0)) (fl := f4) (e_y := e_y) (e_y10 := e_y10) (e_y11 := e_y11) (e_y9 := e_y9) (e_y3 := e_y3) (fr := fr) (H := _) (locs := _) (S := S) (ls := ls) (hd := by omega) (hl := by have q := lv_sub hl [0, 1, 2, 3, 4, 5, 6] rfl; rw [ei1, nI_1] at q; exact q)

set_option maxHeartbeats 4000000 in
set_option maxRecDepth 100000 in
/-- reference: layered of a new one -/
theorem c_X9_layered0 (l : Launch) (D : va_G) (g : Nat → ClassId) {L : List Nat} {f : Nat → va_E} {y y0 y1 y2 y3 y4 y5 y6 y7 y8 y9 y10 y11 y12 y13 y15 y16 y17 y18 y19 y20 y21 y22 : Nat}  {v_inWorld : Nat → Int32} {v_kind : Nat → Int32} {v_size : Nat → Int32} {v_marks : Nat → Int32} {v_seed : Nat → Int32}  {v_contentMany : Nat → Int32} {v_row : Nat → Int32} {v_bits : Nat → Int32} {v_layerSize : Nat → Int32} {v_layerCame : Nat → Int32}  {v_restMany : Nat → Int32}         {w w2 sd : Int32} (m_y : y ∈ L) (e_y : f y = .inr (7, [.ref y0, .ref y1, .ref y2, .ref y3, .ref y4, .ref y5, .ref y6, .ref y7, .ref y8, .ref y9, .ref y10, .ref y11, .ref y12, .ref y13, .int 0, .ref y15, .ref y16, .ref y17, .ref y18, .ref y19, .ref y20, .ref y21, .ref y22])) (m_y1 : y1 ∈ L) (e_y1 : f y1 = .inl (g 0, 8, .inl v_inWorld)) (m_y10 : y10 ∈ L) (e_y10 : f y10 = .inl (g 0, 600, .inl v_layerSize)) (m_y11 : y11 ∈ L) (e_y11 : f y11 = .inl (g 0, 600, .inl v_layerCame)) (m_y9 : y9 ∈ L) (e_y9 : f y9 = .inl (g 0, 76800, .inl v_bits)) (m_y2 : y2 ∈ L) (e_y2 : f y2 = .inl (g 0, 30, .inl v_kind)) (m_y3 : y3 ∈ L) (e_y3 : f y3 = .inl (g 0, 30, .inl v_size)) (m_y4 : y4 ∈ L) (e_y4 : f y4 = .inl (g 0, 30, .inl v_marks)) (m_y5 : y5 ∈ L) (e_y5 : f y5 = .inl (g 0, 30, .inl v_seed)) (m_y7 : y7 ∈ L) (e_y7 : f y7 = .inl (g 0, 30, .inl v_contentMany)) (m_y13 : y13 ∈ L) (e_y13 : f y13 = .inl (g 0, 30, .inl v_restMany)) (m_y8 : y8 ∈ L) (e_y8 : f y8 = .inl (g 0, 122880, .inl v_row)) (hnd : [y, y0, y1, y2, y3, y4, y5, y6, y7, y8, y9, y10, y11, y12, y13, y15, y16, y17, y18, y19, y20, y21, y22].Nodup) (hI : ∀ j, j < 8 → v_inWorld j = 0) : cI l yX9_layered wsX9_layered { frames := 1, cells := 0, slots := 0, locals := 30 } D g [.ref y, .int w, .int w2, .int sd] L f 0 0 (fun x _ _ => x = (if (¬ w < 0 ∧ ¬ 8 ≤ w) ∧ (¬ w2 < 0 ∧ ¬ 8 ≤ w2) then 0 else -1)) := by
  refine cI_of (cc := cX9_layered) (maxL := 11) (ret := (some .int)) (by decide) rfl (Nat.le_of_ble_eq_true rfl) ?_
  intro sz p e s m below meth c hx hb hr hml hts hown hlk hnm S ls hl
  have hl : lv_has ls 11 [(0, .ref y), (1, .int w), (2, .int w2), (3, .int sd)] := hl
  have in_X9 : ∀ w ∈ wsX90, w ∈ wsX9_layered := by decide +kernel
  refine lv_iload_n hx hb dX9_layered_0 rfl (lv_at hl 1 rfl) ?_
  refine q_si (As := [.int w]) (rest := []) ⟨hx, hb, hml, hown, hts⟩ (c_X9_isWorld l D g (w := w)) (va_cwS 1 hts gX9_layered_X9_isWorld rfl rfl rfl (by decide +kernel) ⟨Nat.le_of_ble_eq_true rfl, Nat.le_of_ble_eq_true rfl⟩) S rfl hl.1 rfl (Nat.le_of_ble_eq_true rfl) dX9_layered_1 ⟨Nat.le_of_ble_eq_true rfl, Nat.le_of_ble_eq_true rfl⟩ (fun r3 L1 f2 H locs S w1 => ?_)
  obtain ⟨exw1, eLw1, efw1⟩ := w1
  rw [eLw1, efw1] at S
  by_cases hw1 : ¬ w < 0 ∧ ¬ 8 ≤ w
  · skip
    rw [if_pos hw1] at exw1
    subst exw1
    obtain ⟨j1, hj1, ej1⟩ := pu_of (n := 8) hw1.1 hw1.2 (by decide)
    have p1 : vp_in w 8 := by rw [ej1]; exact vp_in_nI hj1 (by decide)
    have z1 : v_inWorld (w : Int32).toNatClampNeg = 0 := by rw [ej1, nI_clamp (by omega)]; exact hI _ hj1
    refine lv_if_eq (tgt := 14) hx hb dX9_layered_4 (by decide) (fun b4 => absurd b4 (by decide)) (fun b4 => ?_)
    refine lv_iload_n hx hb dX9_layered_7 rfl (lv_at hl 2 rfl) ?_
    refine q_si (As := [.int w2]) (rest := []) ⟨hx, hb, hml, hown, hts⟩ (c_X9_isWorld l D g (w := w2)) (va_cwS 1 hts gX9_layered_X9_isWorld rfl rfl rfl (by decide +kernel) ⟨Nat.le_of_ble_eq_true rfl, Nat.le_of_ble_eq_true rfl⟩) S rfl hl.1 rfl (Nat.le_of_ble_eq_true rfl) dX9_layered_8 ⟨Nat.le_of_ble_eq_true rfl, Nat.le_of_ble_eq_true rfl⟩ (fun r6 L4 f5 H locs S w8 => ?_)
    obtain ⟨exw8, eLw8, efw8⟩ := w8
    rw [eLw8, efw8] at S
    by_cases hw8 : ¬ w2 < 0 ∧ ¬ 8 ≤ w2
    · skip
      rw [if_pos hw8] at exw8
      subst exw8
      obtain ⟨j8, hj8, ej8⟩ := pu_of (n := 8) hw8.1 hw8.2 (by decide)
      have p8 : vp_in w2 8 := by rw [ej8]; exact vp_in_nI hj8 (by decide)
      have z8 : v_inWorld (w2 : Int32).toNatClampNeg = 0 := by rw [ej8, nI_clamp (by omega)]; exact hI _ hj8
      refine lv_if_ne (tgt := 16) hx hb dX9_layered_11 (by decide) (fun b11 => ?_) (fun b11 => absurd b11 (by decide))
      refine lv_aload_n hx hb dX9_layered_16 rfl (lv_at hl 0 rfl) ?_
      refine q_get hx hb hts in_X9 hown S m_y e_y (C := RX9) (T := TX9) (N := 23) rfl 14 (by decide) rfl (hts (.fieldLink RX9 88 "SieveCabinetModel" "many" "I") (by decide +kernel)) dX9_layered_17 ?_
      refine lv_bipush (v := 30) hx hb dX9_layered_20 (by decide) ?_
      refine lv_icmp_ne (tgt := 28) hx hb dX9_layered_22 (by decide) (fun b22 => ?_) (fun b22 => absurd b22 (by decide))
      refine lv_aload_n hx hb dX9_layered_28 rfl (lv_at hl 0 rfl) ?_
      refine lv_iconst (v := 4) hx hb dX9_layered_29 (by decide) ?_
      refine lv_iconst (v := 0) hx hb dX9_layered_30 (by decide) ?_
      refine lv_iconst (v := 3) hx hb dX9_layered_31 (by decide) ?_
      refine lv_iload_n hx hb dX9_layered_32 rfl (lv_at hl 3 rfl) ?_
      refine q_vi (As := [.int 4, .int 0, .int 3, .int sd]) (rest := []) ⟨hx, hb, hml, hown, hts⟩ (c_X9_begin0 l D g m_y e_y m_y2 e_y2 m_y3 e_y3 m_y4 e_y4 m_y5 e_y5 m_y7 e_y7 m_y13 e_y13 m_y8 e_y8 hnd) (cwV 4 hts gX9_layered_X9_begin rfl rfl rfl (by decide +kernel) ⟨Nat.le_of_ble_eq_true rfl, Nat.le_of_ble_eq_true rfl⟩) S m_y e_y (T := TX9) (N := 23) rfl rfl hl.1 rfl (Nat.le_of_ble_eq_true rfl) dX9_layered_33 ⟨Nat.le_of_ble_eq_true rfl, Nat.le_of_ble_eq_true rfl⟩ (fun r9 L7 f8 H locs S w33 => ?_)
      obtain ⟨exw33, eLw33, fvw33, e_y, w_kind, w_size, w_marks, w_seed, w_contentMany, w_restMany, w_row, e_y2, e_y3, e_y4, e_y5, e_y7, e_y13, e_y8⟩ := w33
      rw [eLw33] at S
      subst exw33
      have e_y1 : f8 y1 = .inl (g 0, 8, .inl v_inWorld) := (fvw33 y1 m_y1 (nd_ne hnd (i := 0) (j := 2) rfl rfl (by decide)) (nd_ne hnd (i := 3) (j := 2) rfl rfl (by decide)) (nd_ne hnd (i := 4) (j := 2) rfl rfl (by decide)) (nd_ne hnd (i := 5) (j := 2) rfl rfl (by decide)) (nd_ne hnd (i := 6) (j := 2) rfl rfl (by decide)) (nd_ne hnd (i := 8) (j := 2) rfl rfl (by decide)) (nd_ne hnd (i := 14) (j := 2) rfl rfl (by decide)) (nd_ne hnd (i := 9) (j := 2) rfl rfl (by decide))).trans e_y1
      have e_y10 : f8 y10 = .inl (g 0, 600, .inl v_layerSize) := (fvw33 y10 m_y10 (nd_ne hnd (i := 0) (j := 11) rfl rfl (by decide)) (nd_ne hnd (i := 3) (j := 11) rfl rfl (by decide)) (nd_ne hnd (i := 4) (j := 11) rfl rfl (by decide)) (nd_ne hnd (i := 5) (j := 11) rfl rfl (by decide)) (nd_ne hnd (i := 6) (j := 11) rfl rfl (by decide)) (nd_ne hnd (i := 8) (j := 11) rfl rfl (by decide)) (nd_ne hnd (i := 14) (j := 11) rfl rfl (by decide)) (nd_ne hnd (i := 9) (j := 11) rfl rfl (by decide))).trans e_y10
      have e_y11 : f8 y11 = .inl (g 0, 600, .inl v_layerCame) := (fvw33 y11 m_y11 (nd_ne hnd (i := 0) (j := 12) rfl rfl (by decide)) (nd_ne hnd (i := 3) (j := 12) rfl rfl (by decide)) (nd_ne hnd (i := 4) (j := 12) rfl rfl (by decide)) (nd_ne hnd (i := 5) (j := 12) rfl rfl (by decide)) (nd_ne hnd (i := 6) (j := 12) rfl rfl (by decide)) (nd_ne hnd (i := 8) (j := 12) rfl rfl (by decide)) (nd_ne hnd (i := 14) (j := 12) rfl rfl (by decide)) (nd_ne hnd (i := 9) (j := 12) rfl rfl (by decide))).trans e_y11
      have e_y9 : f8 y9 = .inl (g 0, 76800, .inl v_bits) := (fvw33 y9 m_y9 (nd_ne hnd (i := 0) (j := 10) rfl rfl (by decide)) (nd_ne hnd (i := 3) (j := 10) rfl rfl (by decide)) (nd_ne hnd (i := 4) (j := 10) rfl rfl (by decide)) (nd_ne hnd (i := 5) (j := 10) rfl rfl (by decide)) (nd_ne hnd (i := 6) (j := 10) rfl rfl (by decide)) (nd_ne hnd (i := 8) (j := 10) rfl rfl (by decide)) (nd_ne hnd (i := 14) (j := 10) rfl rfl (by decide)) (nd_ne hnd (i := 9) (j := 10) rfl rfl (by decide))).trans e_y9
      refine lv_istore (lv' := [(4, .int 0), (0, .ref y), (1, .int w), (2, .int w2), (3, .int sd)]) hx hb dX9_layered_36 hl (by decide) rfl (fun ls hl => ?_)
      refine lv_aload_n hx hb dX9_layered_38 rfl (lv_at hl 1 rfl) ?_
      refine lv_iload hx hb dX9_layered_39 (lv_at hl 0 rfl) ?_
      refine lv_iload_n hx hb dX9_layered_41 rfl (lv_at hl 2 rfl) ?_
      refine q_vv (As := [.int 0, .int w]) (rest := []) ⟨hx, hb, hml, hown, hts⟩ (c_X9_fillFrom0 l D g m_y e_y m_y1 e_y1 m_y7 e_y7 hnd p1 z1) (cwV 2 hts gX9_layered_X9_fillFrom rfl rfl rfl (by decide +kernel) ⟨Nat.le_of_ble_eq_true rfl, Nat.le_of_ble_eq_true rfl⟩) S m_y e_y (T := TX9) (N := 23) rfl rfl hl.1 rfl (Nat.le_of_ble_eq_true rfl) dX9_layered_42 ⟨Nat.le_of_ble_eq_true rfl, Nat.le_of_ble_eq_true rfl⟩ (fun L10 f11 H locs S w42 => ?_)
      obtain ⟨eLw42, fvw42, w_cm, e_y7⟩ := w42
      rw [eLw42] at S
      have e_y : f11 y = .inr (7, [.ref y0, .ref y1, .ref y2, .ref y3, .ref y4, .ref y5, .ref y6, .ref y7, .ref y8, .ref y9, .ref y10, .ref y11, .ref y12, .ref y13, .int ((0 + 1)), .ref y15, .ref y16, .ref y17, .ref y18, .ref y19, .ref y20, .ref y21, .ref y22]) := (fvw42 y m_y (nd_ne hnd (i := 8) (j := 0) rfl rfl (by decide))).trans e_y
      have e_y1 : f11 y1 = .inl (g 0, 8, .inl v_inWorld) := (fvw42 y1 m_y1 (nd_ne hnd (i := 8) (j := 2) rfl rfl (by decide))).trans e_y1
      have e_y10 : f11 y10 = .inl (g 0, 600, .inl v_layerSize) := (fvw42 y10 m_y10 (nd_ne hnd (i := 8) (j := 11) rfl rfl (by decide))).trans e_y10
      have e_y11 : f11 y11 = .inl (g 0, 600, .inl v_layerCame) := (fvw42 y11 m_y11 (nd_ne hnd (i := 8) (j := 12) rfl rfl (by decide))).trans e_y11
      have e_y9 : f11 y9 = .inl (g 0, 76800, .inl v_bits) := (fvw42 y9 m_y9 (nd_ne hnd (i := 8) (j := 10) rfl rfl (by decide))).trans e_y9
      have e_y2 : f11 y2 = .inl (g 0, 30, .inl w_kind) := (fvw42 y2 m_y2 (nd_ne hnd (i := 8) (j := 3) rfl rfl (by decide))).trans e_y2
      have e_y3 : f11 y3 = .inl (g 0, 30, .inl w_size) := (fvw42 y3 m_y3 (nd_ne hnd (i := 8) (j := 4) rfl rfl (by decide))).trans e_y3
      have e_y4 : f11 y4 = .inl (g 0, 30, .inl w_marks) := (fvw42 y4 m_y4 (nd_ne hnd (i := 8) (j := 5) rfl rfl (by decide))).trans e_y4
      have e_y5 : f11 y5 = .inl (g 0, 30, .inl w_seed) := (fvw42 y5 m_y5 (nd_ne hnd (i := 8) (j := 6) rfl rfl (by decide))).trans e_y5
      have e_y13 : f11 y13 = .inl (g 0, 30, .inl w_restMany) := (fvw42 y13 m_y13 (nd_ne hnd (i := 8) (j := 14) rfl rfl (by decide))).trans e_y13
      have e_y8 : f11 y8 = .inl (g 0, 122880, .inl w_row) := (fvw42 y8 m_y8 (nd_ne hnd (i := 8) (j := 9) rfl rfl (by decide))).trans e_y8
      refine lv_aload_n hx hb dX9_layered_45 rfl (lv_at hl 1 rfl) ?_
      refine q_get hx hb hts in_X9 hown S m_y e_y (C := RX9) (T := TX9) (N := 23) rfl 1 (by decide) rfl (hts (.fieldLink RX9 13 "SieveCabinetModel" "inWorld" "[I") (by decide +kernel)) dX9_layered_46 ?_
      refine lv_iload_n hx hb dX9_layered_49 rfl (lv_at hl 2 rfl) ?_
      refine q_iald hx hb S m_y1 e_y1 (p1) dX9_layered_50 ?_
      rw [show v_inWorld (w : Int32).toNatClampNeg = 0 from z1]
      refine lv_istore (lv' := [(5, .int 0), (4, .int 0), (0, .ref y), (1, .int w), (2, .int w2), (3, .int sd)]) hx hb dX9_layered_51 hl (by decide) rfl (fun ls hl => ?_)
      refine lv_iconst (v := 0) hx hb dX9_layered_53 (by decide) ?_
      refine lv_istore (lv' := [(6, .int 0), (5, .int 0), (4, .int 0), (0, .ref y), (1, .int w), (2, .int w2), (3, .int sd)]) hx hb dX9_layered_54 hl (by decide) rfl (fun ls hl => ?_)
      refine lv_iconst (v := 0) hx hb dX9_layered_56 (by decide) ?_
      refine lv_istore (lv' := [(7, .int 0), (6, .int 0), (5, .int 0), (4, .int 0), (0, .ref y), (1, .int w), (2, .int w2), (3, .int sd)]) hx hb dX9_layered_57 hl (by decide) rfl (fun ls hl => ?_)
      refine lv_iload hx hb dX9_layered_59 (lv_at hl 0 rfl) ?_
      refine lv_iload hx hb dX9_layered_61 (lv_at hl 2 rfl) ?_
      refine lv_icmp_ge (tgt := 92) hx hb dX9_layered_63 (by decide) (fun b63 => ?_) (fun b63 => absurd (by decide) b63)
      refine lv_iconst (v := 0) hx hb dX9_layered_92 (by decide) ?_
      refine lv_istore (lv' := [(7, .int 0), (6, .int 0), (5, .int 0), (4, .int 0), (0, .ref y), (1, .int w), (2, .int w2), (3, .int sd)]) hx hb dX9_layered_93 hl (by decide) rfl (fun ls hl => ?_)
      refine lv_iload hx hb dX9_layered_95 (lv_at hl 0 rfl) ?_
      refine lv_aload_n hx hb dX9_layered_97 rfl (lv_at hl 4 rfl) ?_
      refine q_get hx hb hts in_X9 hown S m_y e_y (C := RX9) (T := TX9) (N := 23) rfl 1 (by decide) rfl (hts (.fieldLink RX9 13 "SieveCabinetModel" "inWorld" "[I") (by decide +kernel)) dX9_layered_98 ?_
      refine lv_iload_n hx hb dX9_layered_101 rfl (lv_at hl 6 rfl) ?_
      refine q_iald hx hb S m_y1 e_y1 (p8) dX9_layered_102 ?_
      rw [show v_inWorld (w2 : Int32).toNatClampNeg = 0 from z8]
      refine lv_icmp_ge (tgt := 156) hx hb dX9_layered_103 (by decide) (fun b103 => ?_) (fun b103 => absurd (by decide) b103)
      refine lv_iconst (v := 1) hx hb dX9_layered_156 (by decide) ?_
      refine lv_istore (lv' := [(7, .int 1), (6, .int 0), (5, .int 0), (4, .int 0), (0, .ref y), (1, .int w), (2, .int w2), (3, .int sd)]) hx hb dX9_layered_157 hl (by decide) rfl (fun ls hl => ?_)
      refine lv_iconst (v := 0) hx hb dX9_layered_159 (by decide) ?_
      refine lv_istore (lv' := [(8, .int 0), (7, .int 1), (6, .int 0), (5, .int 0), (4, .int 0), (0, .ref y), (1, .int w), (2, .int w2), (3, .int sd)]) hx hb dX9_layered_160 hl (by decide) rfl (fun ls hl => ?_)
      refine lv_iload hx hb dX9_layered_162 (lv_at hl 1 rfl) ?_
      refine lv_if_eq (tgt := 402) hx hb dX9_layered_164 (by decide) (fun b164 => absurd b164 (by decide)) (fun b164 => ?_)
      refine lv_iload hx hb dX9_layered_167 (lv_at hl 0 rfl) ?_
      refine lv_bipush (v := 20) hx hb dX9_layered_169 (by decide) ?_
      refine lv_icmp_eq (tgt := 200) hx hb dX9_layered_171 (by decide) (fun b171 => absurd b171 (by decide)) (fun b171 => ?_)
      refine lv_iload hx hb dX9_layered_174 (lv_at hl 0 rfl) ?_
      refine lv_iconst (v := 1) hx hb dX9_layered_176 (by decide) ?_
      refine lv_icmp_le (tgt := 252) hx hb dX9_layered_177 (by decide) (fun b177 => ?_) (fun b177 => absurd (by decide) b177)
      refine lv_aload_n hx hb dX9_layered_252 rfl (lv_at hl 5 rfl) ?_
      refine lv_iload hx hb dX9_layered_253 (lv_at hl 4 rfl) ?_
      refine lv_iload hx hb dX9_layered_255 (lv_at hl 0 rfl) ?_
      refine lv_iload hx hb dX9_layered_257 (lv_at hl 3 rfl) ?_
      refine q_vv (As := [.int 0, .int 0, .int 0]) (rest := []) ⟨hx, hb, hml, hown, hts⟩ (c_X9_lay0 l D g m_y e_y m_y10 e_y10 m_y11 e_y11 m_y9 e_y9 m_y3 e_y3 hnd) (cwV 3 hts gX9_layered_X9_lay rfl rfl rfl (by decide +kernel) ⟨Nat.le_of_ble_eq_true rfl, Nat.le_of_ble_eq_true rfl⟩) S m_y e_y (T := TX9) (N := 23) rfl rfl hl.1 rfl (Nat.le_of_ble_eq_true rfl) dX9_layered_259 ⟨Nat.le_of_ble_eq_true rfl, Nat.le_of_ble_eq_true rfl⟩ (fun L13 f14 H locs S w259 => ?_)
      obtain ⟨eLw259, fvw259, u_layerSize, u_layerCame, u_bits, u_size, e_y10, e_y11, e_y9, e_y3⟩ := w259
      rw [eLw259] at S
      have e_y : f14 y = .inr (7, [.ref y0, .ref y1, .ref y2, .ref y3, .ref y4, .ref y5, .ref y6, .ref y7, .ref y8, .ref y9, .ref y10, .ref y11, .ref y12, .ref y13, .int ((0 + 1)), .ref y15, .ref y16, .ref y17, .ref y18, .ref y19, .ref y20, .ref y21, .ref y22]) := (fvw259 y m_y (nd_ne hnd (i := 11) (j := 0) rfl rfl (by decide)) (nd_ne hnd (i := 12) (j := 0) rfl rfl (by decide)) (nd_ne hnd (i := 10) (j := 0) rfl rfl (by decide)) (nd_ne hnd (i := 4) (j := 0) rfl rfl (by decide))).trans e_y
      have e_y1 : f14 y1 = .inl (g 0, 8, .inl v_inWorld) := (fvw259 y1 m_y1 (nd_ne hnd (i := 11) (j := 2) rfl rfl (by decide)) (nd_ne hnd (i := 12) (j := 2) rfl rfl (by decide)) (nd_ne hnd (i := 10) (j := 2) rfl rfl (by decide)) (nd_ne hnd (i := 4) (j := 2) rfl rfl (by decide))).trans e_y1
      have e_y2 : f14 y2 = .inl (g 0, 30, .inl w_kind) := (fvw259 y2 m_y2 (nd_ne hnd (i := 11) (j := 3) rfl rfl (by decide)) (nd_ne hnd (i := 12) (j := 3) rfl rfl (by decide)) (nd_ne hnd (i := 10) (j := 3) rfl rfl (by decide)) (nd_ne hnd (i := 4) (j := 3) rfl rfl (by decide))).trans e_y2
      have e_y4 : f14 y4 = .inl (g 0, 30, .inl w_marks) := (fvw259 y4 m_y4 (nd_ne hnd (i := 11) (j := 5) rfl rfl (by decide)) (nd_ne hnd (i := 12) (j := 5) rfl rfl (by decide)) (nd_ne hnd (i := 10) (j := 5) rfl rfl (by decide)) (nd_ne hnd (i := 4) (j := 5) rfl rfl (by decide))).trans e_y4
      have e_y5 : f14 y5 = .inl (g 0, 30, .inl w_seed) := (fvw259 y5 m_y5 (nd_ne hnd (i := 11) (j := 6) rfl rfl (by decide)) (nd_ne hnd (i := 12) (j := 6) rfl rfl (by decide)) (nd_ne hnd (i := 10) (j := 6) rfl rfl (by decide)) (nd_ne hnd (i := 4) (j := 6) rfl rfl (by decide))).trans e_y5
      have e_y7 : f14 y7 = .inl (g 0, 30, .inl w_cm) := (fvw259 y7 m_y7 (nd_ne hnd (i := 11) (j := 8) rfl rfl (by decide)) (nd_ne hnd (i := 12) (j := 8) rfl rfl (by decide)) (nd_ne hnd (i := 10) (j := 8) rfl rfl (by decide)) (nd_ne hnd (i := 4) (j := 8) rfl rfl (by decide))).trans e_y7
      have e_y13 : f14 y13 = .inl (g 0, 30, .inl w_restMany) := (fvw259 y13 m_y13 (nd_ne hnd (i := 11) (j := 14) rfl rfl (by decide)) (nd_ne hnd (i := 12) (j := 14) rfl rfl (by decide)) (nd_ne hnd (i := 10) (j := 14) rfl rfl (by decide)) (nd_ne hnd (i := 4) (j := 14) rfl rfl (by decide))).trans e_y13
      have e_y8 : f14 y8 = .inl (g 0, 122880, .inl w_row) := (fvw259 y8 m_y8 (nd_ne hnd (i := 11) (j := 9) rfl rfl (by decide)) (nd_ne hnd (i := 12) (j := 9) rfl rfl (by decide)) (nd_ne hnd (i := 10) (j := 9) rfl rfl (by decide)) (nd_ne hnd (i := 4) (j := 9) rfl rfl (by decide))).trans e_y8
      refine lv_iconst (v := 0) hx hb dX9_layered_262 (by decide) ?_
      refine lv_istore (lv' := [(9, .int 0), (8, .int 0), (7, .int 1), (6, .int 0), (5, .int 0), (4, .int 0), (0, .ref y), (1, .int w), (2, .int w2), (3, .int sd)]) hx hb dX9_layered_263 hl (by decide) rfl (fun ls hl => ?_)
      refine lv_iconst (v := 0) hx hb dX9_layered_265 (by decide) ?_
      refine lv_istore (lv' := [(10, .int 0), (9, .int 0), (8, .int 0), (7, .int 1), (6, .int 0), (5, .int 0), (4, .int 0), (0, .ref y), (1, .int w), (2, .int w2), (3, .int sd)]) hx hb dX9_layered_266 hl (by decide) rfl (fun ls hl => ?_)
      refine lv_iload hx hb dX9_layered_268 (lv_at hl 0 rfl) ?_
      refine lv_iload hx hb dX9_layered_270 (lv_at hl 4 rfl) ?_
      refine lv_icmp_ge (tgt := 316) hx hb dX9_layered_272 (by decide) (fun b272 => ?_) (fun b272 => absurd (by decide) b272)
      refine lv_iload hx hb dX9_layered_316 (lv_at hl 1 rfl) ?_
      refine lv_if_le (tgt := 325) hx hb dX9_layered_318 (by decide) (fun b318 => ?_) (fun b318 => absurd (by decide) b318)
      refine lv_iconst (v := 0) hx hb dX9_layered_325 (by decide) ?_
      refine lv_istore (lv' := [(7, .int 0), (10, .int 0), (9, .int 0), (8, .int 0), (6, .int 0), (5, .int 0), (4, .int 0), (0, .ref y), (1, .int w), (2, .int w2), (3, .int sd)]) hx hb dX9_layered_326 hl (by decide) rfl (fun ls hl => ?_)
      refine lv_iload hx hb dX9_layered_328 (lv_at hl 5 rfl) ?_
      refine lv_istore (lv' := [(6, .int 0), (7, .int 0), (10, .int 0), (9, .int 0), (8, .int 0), (5, .int 0), (4, .int 0), (0, .ref y), (1, .int w), (2, .int w2), (3, .int sd)]) hx hb dX9_layered_330 hl (by decide) rfl (fun ls hl => ?_)
      refine lv_iconst (v := 0) hx hb dX9_layered_332 (by decide) ?_
      refine lv_istore (lv' := [(10, .int 0), (6, .int 0), (7, .int 0), (9, .int 0), (8, .int 0), (5, .int 0), (4, .int 0), (0, .ref y), (1, .int w), (2, .int w2), (3, .int sd)]) hx hb dX9_layered_333 hl (by decide) rfl (fun ls hl => ?_)
      refine lv_iload hx hb dX9_layered_335 (lv_at hl 0 rfl) ?_
      refine lv_iload hx hb dX9_layered_337 (lv_at hl 5 rfl) ?_
      refine lv_icmp_ge (tgt := 362) hx hb dX9_layered_339 (by decide) (fun b339 => ?_) (fun b339 => absurd (by decide) b339)
      refine lv_iload hx hb dX9_layered_362 (lv_at hl 3 rfl) ?_
      refine lv_istore (lv' := [(5, .int 0), (10, .int 0), (6, .int 0), (7, .int 0), (9, .int 0), (8, .int 0), (4, .int 0), (0, .ref y), (1, .int w), (2, .int w2), (3, .int sd)]) hx hb dX9_layered_364 hl (by decide) rfl (fun ls hl => ?_)
      refine lv_iconst (v := 0) hx hb dX9_layered_366 (by decide) ?_
      refine lv_istore (lv' := [(10, .int 0), (5, .int 0), (6, .int 0), (7, .int 0), (9, .int 0), (8, .int 0), (4, .int 0), (0, .ref y), (1, .int w), (2, .int w2), (3, .int sd)]) hx hb dX9_layered_367 hl (by decide) rfl (fun ls hl => ?_)
      refine lv_iload hx hb dX9_layered_369 (lv_at hl 0 rfl) ?_
      refine lv_iload hx hb dX9_layered_371 (lv_at hl 1 rfl) ?_
      refine lv_icmp_ge (tgt := 396) hx hb dX9_layered_373 (by decide) (fun b373 => ?_) (fun b373 => absurd (by decide) b373)
      obtain ⟨i1, ei1⟩ : ∃ y : Int32, y = 0 + (1) := ⟨_, rfl⟩
      refine lv_iinc (v := i1) (lv' := [(8, .int i1), (10, .int 0), (5, .int 0), (6, .int 0), (7, .int 0), (9, .int 0), (4, .int 0), (0, .ref y), (1, .int w), (2, .int w2), (3, .int sd)]) hx hb dX9_layered_396 hl (k := 5) rfl (by rw [ei1]; rfl) (by decide) rfl (fun ls hl => ?_)
      refine lv_goto (tgt := 162) hx hb dX9_layered_399 (by decide) ?_
      refine lv_iload hx hb dX9_layered_162 (lv_at hl 4 rfl) ?_
      refine lv_if_eq (tgt := 402) hx hb dX9_layered_164 (by decide) (fun b164 => ?_) (fun b164 => absurd (rfl) b164)
      refine lv_iload hx hb dX9_layered_402 (lv_at hl 6 rfl) ?_
      exact q_reti (post := fun x _ _ => x = (if (¬ w < 0 ∧ ¬ 8 ≤ w) ∧ (¬ w2 < 0 ∧ ¬ 8 ≤ w2) then 0 else -1)) hx hb hr hlk S dX9_layered_404 (by decide) (by decide) ((if_pos ⟨hw1, hw8⟩).symm)
    · skip
      rw [if_neg hw8] at exw8
      subst exw8
      refine lv_if_ne (tgt := 16) hx hb dX9_layered_11 (by decide) (fun b11 => absurd b11 (fun h => h rfl)) (fun b11 => ?_)
      refine lv_iconst (v := -1) hx hb dX9_layered_14 (by decide) ?_
      exact q_reti (post := fun x _ _ => x = (if (¬ w < 0 ∧ ¬ 8 ≤ w) ∧ (¬ w2 < 0 ∧ ¬ 8 ≤ w2) then 0 else -1)) hx hb hr hlk S dX9_layered_15 (by decide) (by decide) ((if_neg (fun h => hw8 h.2)).symm)
  · skip
    rw [if_neg hw1] at exw1
    subst exw1
    refine lv_if_eq (tgt := 14) hx hb dX9_layered_4 (by decide) (fun b4 => ?_) (fun b4 => absurd (rfl) b4)
    refine lv_iconst (v := -1) hx hb dX9_layered_14 (by decide) ?_
    exact q_reti (post := fun x _ _ => x = (if (¬ w < 0 ∧ ¬ 8 ≤ w) ∧ (¬ w2 < 0 ∧ ¬ 8 ≤ w2) then 0 else -1)) hx hb hr hlk S dX9_layered_15 (by decide) (by decide) ((if_neg (fun h => hw1 h.1)).symm)

set_option maxHeartbeats 4000000 in
set_option maxRecDepth 100000 in
/-- reference: falselyLet of empty worlds -/
theorem c_X9_falselyLet0 (l : Launch) (D : va_G) (g : Nat → ClassId) {L : List Nat} {f : Nat → va_E} {y y0 y1 y2 y3 y4 y5 y6 y7 y8 y9 y10 y11 y12 y13 y15 y16 y17 y18 y19 y20 y21 y22 : Nat}  {v_inWorld : Nat → Int32}                   {v_alone : Nat → Int32}  {mm : Int32} {w w2 kk sd : Int32} {n : Nat} (m_y : y ∈ L) (e_y : f y = .inr (7, [.ref y0, .ref y1, .ref y2, .ref y3, .ref y4, .ref y5, .ref y6, .ref y7, .ref y8, .ref y9, .ref y10, .ref y11, .ref y12, .ref y13, .int mm, .ref y15, .ref y16, .ref y17, .ref y18, .ref y19, .ref y20, .ref y21, .ref y22])) (m_y1 : y1 ∈ L) (e_y1 : f y1 = .inl (g 0, 8, .inl v_inWorld)) (m_y21 : y21 ∈ L) (e_y21 : f y21 = .inl (g 0, 4096, .inl v_alone)) (hnd : [y, y0, y1, y2, y3, y4, y5, y6, y7, y8, y9, y10, y11, y12, y13, y15, y16, y17, y18, y19, y20, y21, y22].Nodup) (p1 : vp_in w 8) (z1 : v_inWorld w.toNatClampNeg = 0) (p2 : vp_in w2 8) (z2 : v_inWorld w2.toNatClampNeg = 0) (hn : n ≤ 4096) : cI l yX9_falselyLet wsX9_falselyLet { frames := 0, cells := 0, slots := 0, locals := 0 } D g [.ref y, .int w, .int w2, .int ((nI n)), .int kk, .int sd] L f 0 0 (fun x L1 f1 => x = 0 ∧ L1 = L ∧ (∀ b, b ∈ L → b ≠ y21 → f1 b = f b) ∧ ∃ w_alone : Nat → Int32, f1 y21 = .inl (g 0, 4096, .inl w_alone)) := by
  refine cI_of (cc := cX9_falselyLet) (maxL := 14) (ret := (some .int)) (by decide) rfl (Nat.le_of_ble_eq_true rfl) ?_
  intro sz p e s m below meth c hx hb hr hml hts hown hlk hnm S ls hl
  have hl : lv_has ls 14 [(0, .ref y), (1, .int w), (2, .int w2), (3, .int ((nI n))), (4, .int kk), (5, .int sd)] := hl
  have in_X9 : ∀ w ∈ wsX90, w ∈ wsX9_falselyLet := by decide +kernel
  have fr : ∀ b, b ∈ L → b ≠ y21 → f b = f b := fun _ _ _ => rfl
  have mono : ∀ b, b ∈ L → b ∈ L := fun _ h => h
  refine lv_iconst (v := 0) hx hb dX9_falselyLet_0 (by decide) ?_
  refine lv_istore (lv' := [(6, .int 0), (0, .ref y), (1, .int w), (2, .int w2), (3, .int ((nI n))), (4, .int kk), (5, .int sd)]) hx hb dX9_falselyLet_1 hl (by decide) rfl (fun ls hl => ?_)
  obtain ⟨i, ei⟩ : ∃ z_ : Nat, z_ = 0 := ⟨_, rfl⟩
  obtain ⟨k_y21, ek_y21⟩ : ∃ z_ : Nat → Int32, z_ = v_alone := ⟨_, rfl⟩
  obtain ⟨fl, efl⟩ : ∃ z_, z_ = f := ⟨_, rfl⟩
  have e_y : fl y = .inr (7, [.ref y0, .ref y1, .ref y2, .ref y3, .ref y4, .ref y5, .ref y6, .ref y7, .ref y8, .ref y9, .ref y10, .ref y11, .ref y12, .ref y13, .int mm, .ref y15, .ref y16, .ref y17, .ref y18, .ref y19, .ref y20, .ref y21, .ref y22]) := by rw [efl]; exact e_y
  have e_y1 : fl y1 = .inl (g 0, 8, .inl v_inWorld) := by rw [efl]; exact e_y1
  have e_y21 : fl y21 = .inl (g 0, 4096, .inl k_y21) := by rw [efl, ek_y21]; exact e_y21
  have fr : ∀ b, b ∈ L → b ≠ y21 → fl b = f b := by rw [efl]; exact fr
  have S_0 : PS D g (va_A (va_pl L f) sz) s.heap s L fl s.heap [] := by rw [efl]; exact S
  refine W_any (X := fun H locs => PS D g (va_A (va_pl L f) sz) s.heap s L fl H locs) S_0 (fun H locs S => ?_)
  refine W_ls (lv := [(6, .int ((nI i))), (0, .ref y), (1, .int w), (2, .int w2), (3, .int ((nI n))), (4, .int kk), (5, .int sd)]) (by have q := lv_sub hl [0, 1, 2, 3, 4, 5, 6] rfl; rw [ei]; exact q) (fun ls hl => ?_)
  obtain ⟨d, hd⟩ : ∃ z_ : Nat, i + z_ = n := ⟨n - i, by omega⟩
  clear ei ek_y21 efl S_0
  induction d generalizing i k_y21 fl H locs ls with
  | zero =>
    have hN : i = n := by omega
    refine lv_iload hx hb dX9_falselyLet_3 (lv_at hl 0 rfl) ?_
    refine lv_iload_n hx hb dX9_falselyLet_5 rfl (lv_at hl 4 rfl) ?_
    refine lv_icmp_ge (tgt := 23) hx hb dX9_falselyLet_6 (by decide) (fun b6 => ?_) (fun b6 => absurd (by rw [hN]; exact Int32.le_refl _) b6)
    refine lv_iconst (v := 0) hx hb dX9_falselyLet_23 (by decide) ?_
    refine lv_istore (lv' := [(6, .int 0), (0, .ref y), (1, .int w), (2, .int w2), (3, .int ((nI n))), (4, .int kk), (5, .int sd)]) hx hb dX9_falselyLet_24 hl (by decide) rfl (fun ls hl => ?_)
    refine lv_iload hx hb dX9_falselyLet_26 (lv_at hl 0 rfl) ?_
    refine lv_aload_n hx hb dX9_falselyLet_28 rfl (lv_at hl 1 rfl) ?_
    refine q_get hx hb hts in_X9 hown S m_y e_y (C := RX9) (T := TX9) (N := 23) rfl 1 (by decide) rfl (hts (.fieldLink RX9 13 "SieveCabinetModel" "inWorld" "[I") (by decide +kernel)) dX9_falselyLet_29 ?_
    refine lv_iload_n hx hb dX9_falselyLet_32 rfl (lv_at hl 2 rfl) ?_
    refine q_iald hx hb S m_y1 e_y1 (p1) dX9_falselyLet_33 ?_
    rw [show v_inWorld (w : Int32).toNatClampNeg = 0 from z1]
    refine lv_icmp_ge (tgt := 93) hx hb dX9_falselyLet_34 (by decide) (fun b34 => ?_) (fun b34 => absurd (by decide) b34)
    refine lv_iconst (v := 0) hx hb dX9_falselyLet_93 (by decide) ?_
    refine lv_istore (lv' := [(6, .int 0), (0, .ref y), (1, .int w), (2, .int w2), (3, .int ((nI n))), (4, .int kk), (5, .int sd)]) hx hb dX9_falselyLet_94 hl (by decide) rfl (fun ls hl => ?_)
    refine lv_iconst (v := 0) hx hb dX9_falselyLet_96 (by decide) ?_
    refine lv_istore (lv' := [(7, .int 0), (6, .int 0), (0, .ref y), (1, .int w), (2, .int w2), (3, .int ((nI n))), (4, .int kk), (5, .int sd)]) hx hb dX9_falselyLet_97 hl (by decide) rfl (fun ls hl => ?_)
    refine lv_iload hx hb dX9_falselyLet_99 (lv_at hl 0 rfl) ?_
    refine lv_aload_n hx hb dX9_falselyLet_101 rfl (lv_at hl 2 rfl) ?_
    refine q_get hx hb hts in_X9 hown S m_y e_y (C := RX9) (T := TX9) (N := 23) rfl 1 (by decide) rfl (hts (.fieldLink RX9 13 "SieveCabinetModel" "inWorld" "[I") (by decide +kernel)) dX9_falselyLet_102 ?_
    refine lv_iload_n hx hb dX9_falselyLet_105 rfl (lv_at hl 4 rfl) ?_
    refine q_iald hx hb S m_y1 e_y1 (p2) dX9_falselyLet_106 ?_
    rw [show v_inWorld (w2 : Int32).toNatClampNeg = 0 from z2]
    refine lv_icmp_ge (tgt := 213) hx hb dX9_falselyLet_107 (by decide) (fun b107 => ?_) (fun b107 => absurd (by decide) b107)
    refine lv_iload hx hb dX9_falselyLet_213 (lv_at hl 1 rfl) ?_
    exact q_reti (post := fun x L1 f1 => x = 0 ∧ L1 = L ∧ (∀ b, b ∈ L → b ≠ y21 → f1 b = f b) ∧ ∃ w_alone : Nat → Int32, f1 y21 = .inl (g 0, 4096, .inl w_alone)) hx hb hr hlk S dX9_falselyLet_215 (by decide) (by decide) (⟨rfl, rfl, fr, _, e_y21⟩)
  | succ d ih =>
    have hlt : i < n := by omega
    refine lv_iload hx hb dX9_falselyLet_3 (lv_at hl 0 rfl) ?_
    refine lv_iload_n hx hb dX9_falselyLet_5 rfl (lv_at hl 4 rfl) ?_
    refine lv_icmp_ge (tgt := 23) hx hb dX9_falselyLet_6 (by decide) (fun b6 => absurd b6 (nI_ge hlt (by omega))) (fun b6 => ?_)
    refine lv_aload_n hx hb dX9_falselyLet_9 rfl (lv_at hl 1 rfl) ?_
    refine q_get hx hb hts in_X9 hown S m_y e_y (C := RX9) (T := TX9) (N := 23) rfl 21 (by decide) rfl (hts (.fieldLink RX9 74 "SieveCabinetModel" "alone" "[I") (by decide +kernel)) dX9_falselyLet_10 ?_
    refine lv_iload hx hb dX9_falselyLet_13 (lv_at hl 0 rfl) ?_
    refine lv_iconst (v := 0) hx hb dX9_falselyLet_15 (by decide) ?_
    refine q_iast hx hb S m_y21 e_y21 (vp_in_nI (by omega) (by decide)) dX9_falselyLet_16 (fun H locs S => ?_)
    obtain ⟨f1, ef1⟩ : ∃ z_, z_ = va_up fl y21 (.inl (g 0, 4096, .inl (upd k_y21 ((nI i) : Int32).toNatClampNeg 0))) := ⟨_, rfl⟩
    have S : PS D g (va_A (va_pl L f) sz) s.heap s L f1 H locs := by rw [ef1]; exact S
    have e_y : f1 y = .inr (7, [.ref y0, .ref y1, .ref y2, .ref y3, .ref y4, .ref y5, .ref y6, .ref y7, .ref y8, .ref y9, .ref y10, .ref y11, .ref y12, .ref y13, .int mm, .ref y15, .ref y16, .ref y17, .ref y18, .ref y19, .ref y20, .ref y21, .ref y22]) := up_ne ef1 (nd_ne hnd (i := 21) (j := 0) rfl rfl (by decide)) e_y
    have e_y1 : f1 y1 = .inl (g 0, 8, .inl v_inWorld) := up_ne ef1 (nd_ne hnd (i := 21) (j := 2) rfl rfl (by decide)) e_y1
    have e_y21 : f1 y21 = .inl (g 0, 4096, .inl (upd k_y21 ((nI i) : Int32).toNatClampNeg 0)) := up_self ef1
    have fr : ∀ b, b ∈ L → b ≠ y21 → f1 b = f b := fun b mb nb0 => (up_ne ef1 nb0 rfl).trans (fr b mb nb0)
    obtain ⟨i1, ei1⟩ : ∃ y : Int32, y = (nI i) + (1) := ⟨_, rfl⟩
    refine lv_iinc (v := i1) (lv' := [(6, .int i1), (0, .ref y), (1, .int w), (2, .int w2), (3, .int ((nI n))), (4, .int kk), (5, .int sd)]) hx hb dX9_falselyLet_17 hl (k := 0) rfl (by rw [ei1]; rfl) (by decide) rfl (fun ls hl => ?_)
    refine lv_goto (tgt := 3) hx hb dX9_falselyLet_20 (by decide) ?_
    exact ih (i := (i + 1)) (k_y21 := (upd k_y21 ((nI i) : Int32).toNatClampNeg 0)) (fl := f1) (e_y := e_y) (e_y1 := e_y1) (e_y21 := e_y21) (fr := fr) (H := _) (locs := _) (S := S) (ls := ls) (hd := by omega) (hl := by have q := lv_sub hl [0, 1, 2, 3, 4, 5, 6] rfl; rw [ei1, nI_1] at q; exact q)

set_option maxHeartbeats 4000000 in
set_option maxRecDepth 100000 in
/-- reference: fewest of a new one -/
theorem c_X9_fewest0 (l : Launch) (D : va_G) (g : Nat → ClassId) {L : List Nat} {f : Nat → va_E} {y y0 y1 y2 y3 y4 y5 y6 y7 y8 y9 y10 y11 y12 y13 y15 y16 y17 y18 y19 y20 y21 y22 : Nat}  {v_inWorld : Nat → Int32}                   {v_alone : Nat → Int32}  {w w2 mo sd : Int32} (m_y : y ∈ L) (e_y : f y = .inr (7, [.ref y0, .ref y1, .ref y2, .ref y3, .ref y4, .ref y5, .ref y6, .ref y7, .ref y8, .ref y9, .ref y10, .ref y11, .ref y12, .ref y13, .int 0, .ref y15, .ref y16, .ref y17, .ref y18, .ref y19, .ref y20, .ref y21, .ref y22])) (m_y1 : y1 ∈ L) (e_y1 : f y1 = .inl (g 0, 8, .inl v_inWorld)) (m_y21 : y21 ∈ L) (e_y21 : f y21 = .inl (g 0, 4096, .inl v_alone)) (hnd : [y, y0, y1, y2, y3, y4, y5, y6, y7, y8, y9, y10, y11, y12, y13, y15, y16, y17, y18, y19, y20, y21, y22].Nodup) (hI : ∀ j, j < 8 → v_inWorld j = 0) : cI l yX9_fewest wsX9_fewest { frames := 1, cells := 0, slots := 0, locals := 33 } D g [.ref y, .int w, .int w2, .int mo, .int sd] L f 0 0 (fun x _ _ => x = (if (¬ w < 0 ∧ ¬ 8 ≤ w) ∧ (¬ w2 < 0 ∧ ¬ 8 ≤ w2) ∧ ¬ mo < 8 ∧ mo ≤ 4096 then 129 else -1)) := by
  refine cI_of (cc := cX9_fewest) (maxL := 10) (ret := (some .int)) (by decide) rfl (Nat.le_of_ble_eq_true rfl) ?_
  intro sz p e s m below meth c hx hb hr hml hts hown hlk hnm S ls hl
  have hl : lv_has ls 10 [(0, .ref y), (1, .int w), (2, .int w2), (3, .int mo), (4, .int sd)] := hl
  refine lv_iload_n hx hb dX9_fewest_0 rfl (lv_at hl 1 rfl) ?_
  refine q_si (As := [.int w]) (rest := []) ⟨hx, hb, hml, hown, hts⟩ (c_X9_isWorld l D g (w := w)) (va_cwS 1 hts gX9_fewest_X9_isWorld rfl rfl rfl (by decide +kernel) ⟨Nat.le_of_ble_eq_true rfl, Nat.le_of_ble_eq_true rfl⟩) S rfl hl.1 rfl (Nat.le_of_ble_eq_true rfl) dX9_fewest_1 ⟨Nat.le_of_ble_eq_true rfl, Nat.le_of_ble_eq_true rfl⟩ (fun r3 L1 f2 H locs S w1 => ?_)
  obtain ⟨exw1, eLw1, efw1⟩ := w1
  rw [eLw1, efw1] at S
  by_cases hw1 : ¬ w < 0 ∧ ¬ 8 ≤ w
  · skip
    rw [if_pos hw1] at exw1
    subst exw1
    obtain ⟨j1, hj1, ej1⟩ := pu_of (n := 8) hw1.1 hw1.2 (by decide)
    have p1 : vp_in w 8 := by rw [ej1]; exact vp_in_nI hj1 (by decide)
    have z1 : v_inWorld (w : Int32).toNatClampNeg = 0 := by rw [ej1, nI_clamp (by omega)]; exact hI _ hj1
    refine lv_if_eq (tgt := 27) hx hb dX9_fewest_4 (by decide) (fun b4 => absurd b4 (by decide)) (fun b4 => ?_)
    refine lv_iload_n hx hb dX9_fewest_7 rfl (lv_at hl 2 rfl) ?_
    refine q_si (As := [.int w2]) (rest := []) ⟨hx, hb, hml, hown, hts⟩ (c_X9_isWorld l D g (w := w2)) (va_cwS 1 hts gX9_fewest_X9_isWorld rfl rfl rfl (by decide +kernel) ⟨Nat.le_of_ble_eq_true rfl, Nat.le_of_ble_eq_true rfl⟩) S rfl hl.1 rfl (Nat.le_of_ble_eq_true rfl) dX9_fewest_8 ⟨Nat.le_of_ble_eq_true rfl, Nat.le_of_ble_eq_true rfl⟩ (fun r6 L4 f5 H locs S w8 => ?_)
    obtain ⟨exw8, eLw8, efw8⟩ := w8
    rw [eLw8, efw8] at S
    by_cases hw8 : ¬ w2 < 0 ∧ ¬ 8 ≤ w2
    · skip
      rw [if_pos hw8] at exw8
      subst exw8
      obtain ⟨j8, hj8, ej8⟩ := pu_of (n := 8) hw8.1 hw8.2 (by decide)
      have p8 : vp_in w2 8 := by rw [ej8]; exact vp_in_nI hj8 (by decide)
      have z8 : v_inWorld (w2 : Int32).toNatClampNeg = 0 := by rw [ej8, nI_clamp (by omega)]; exact hI _ hj8
      refine lv_if_eq (tgt := 27) hx hb dX9_fewest_11 (by decide) (fun b11 => absurd b11 (by decide)) (fun b11 => ?_)
      refine lv_iload_n hx hb dX9_fewest_14 rfl (lv_at hl 3 rfl) ?_
      refine lv_bipush (v := 8) hx hb dX9_fewest_15 (by decide) ?_
      refine lv_icmp_lt (tgt := 27) hx hb dX9_fewest_17 (by decide) (fun b17 => ?_) (fun b17 => ?_)
      · skip
        refine lv_iconst (v := -1) hx hb dX9_fewest_27 (by decide) ?_
        exact q_reti (post := fun x _ _ => x = (if (¬ w < 0 ∧ ¬ 8 ≤ w) ∧ (¬ w2 < 0 ∧ ¬ 8 ≤ w2) ∧ ¬ mo < 8 ∧ mo ≤ 4096 then 129 else -1)) hx hb hr hlk S dX9_fewest_28 (by decide) (by decide) ((if_neg (fun h => h.2.2.1 b17)).symm)
      · skip
        refine lv_iload_n hx hb dX9_fewest_20 rfl (lv_at hl 3 rfl) ?_
        refine lv_sipush (v := 4096) hx hb dX9_fewest_21 (by decide) ?_
        refine lv_icmp_le (tgt := 29) hx hb dX9_fewest_24 (by decide) (fun b24 => ?_) (fun b24 => ?_)
        · skip
          refine lv_iconst (v := 0) hx hb dX9_fewest_29 (by decide) ?_
          refine lv_istore (lv' := [(5, .int 0), (0, .ref y), (1, .int w), (2, .int w2), (3, .int mo), (4, .int sd)]) hx hb dX9_fewest_30 hl (by decide) rfl (fun ls hl => ?_)
          refine lv_sipush (v := 1001) hx hb dX9_fewest_32 (by decide) ?_
          refine lv_istore (lv' := [(6, .int 1001), (5, .int 0), (0, .ref y), (1, .int w), (2, .int w2), (3, .int mo), (4, .int sd)]) hx hb dX9_fewest_35 hl (by decide) rfl (fun ls hl => ?_)
          refine lv_bipush (v := 8) hx hb dX9_fewest_37 (by decide) ?_
          refine lv_istore (lv' := [(7, .int 8), (6, .int 1001), (5, .int 0), (0, .ref y), (1, .int w), (2, .int w2), (3, .int mo), (4, .int sd)]) hx hb dX9_fewest_39 hl (by decide) rfl (fun ls hl => ?_)
          refine lv_iload hx hb dX9_fewest_41 (lv_at hl 0 rfl) ?_
          refine lv_iload_n hx hb dX9_fewest_43 rfl (lv_at hl 6 rfl) ?_
          refine lv_icmp_gt (tgt := 107) hx hb dX9_fewest_44 (by decide) (fun b44 => absurd b44 (b17)) (fun b44 => ?_)
          refine lv_iconst (v := 1) hx hb dX9_fewest_47 (by decide) ?_
          refine lv_istore (lv' := [(8, .int 1), (7, .int 8), (6, .int 1001), (5, .int 0), (0, .ref y), (1, .int w), (2, .int w2), (3, .int mo), (4, .int sd)]) hx hb dX9_fewest_48 hl (by decide) rfl (fun ls hl => ?_)
          obtain ⟨n, en⟩ : ∃ z_ : Nat, z_ = 8 := ⟨_, rfl⟩
          obtain ⟨k, ek⟩ : ∃ z_ : Nat, z_ = 1 := ⟨_, rfl⟩
          obtain ⟨lst, elst⟩ : ∃ z_ : Int32, z_ = 1001 := ⟨_, rfl⟩
          obtain ⟨bst, ebst⟩ : ∃ z_ : Int32, z_ = 0 := ⟨_, rfl⟩
          obtain ⟨k_y21, ek_y21⟩ : ∃ z_ : Nat → Int32, z_ = v_alone := ⟨_, rfl⟩
          obtain ⟨fl, efl⟩ : ∃ z_, z_ = f := ⟨_, rfl⟩
          have e_y : fl y = .inr (7, [.ref y0, .ref y1, .ref y2, .ref y3, .ref y4, .ref y5, .ref y6, .ref y7, .ref y8, .ref y9, .ref y10, .ref y11, .ref y12, .ref y13, .int 0, .ref y15, .ref y16, .ref y17, .ref y18, .ref y19, .ref y20, .ref y21, .ref y22]) := by rw [efl]; exact e_y
          have e_y1 : fl y1 = .inl (g 0, 8, .inl v_inWorld) := by rw [efl]; exact e_y1
          have e_y21 : fl y21 = .inl (g 0, 4096, .inl k_y21) := by rw [efl, ek_y21]; exact e_y21
          have S_0 : PS D g (va_A (va_pl L f) sz) s.heap s L fl H locs := by rw [efl]; exact S
          refine W_any (X := fun H locs => PS D g (va_A (va_pl L f) sz) s.heap s L fl H locs) S_0 (fun H locs S => ?_)
          refine W_ls (lv := [(8, .int ((nI k))), (7, .int ((nI n))), (5, .int bst), (6, .int lst), (0, .ref y), (1, .int w), (2, .int w2), (3, .int mo), (4, .int sd)]) (by have q := lv_sub hl [0, 1, 3, 2, 4, 5, 6, 7, 8] rfl; rw [en, ek, elst, ebst]; exact q) (fun ls hl => ?_)
          have hn4 : n ≤ 4096 := by omega
          have hn8 : 8 ≤ n := by omega
          have hk9 : k ≤ 9 := by omega
          have hI2 : (lst = 1001 ∧ bst = 0 ∧ n = 8 ∧ k = 1) ∨ (lst = 0 ∧ bst = 129) := by exact Or.inl ⟨elst, ebst, en, ek⟩
          obtain ⟨d, hd⟩ : ∃ z_ : Nat, (8192 - n) * 10 + (9 - k) < z_ := ⟨(8192 - n) * 10 + (9 - k) + 1, by omega⟩
          clear en ek elst ebst ek_y21 efl S_0
          induction d generalizing n k lst bst k_y21 fl H locs ls with
          | zero => exact absurd hd (by omega)
          | succ d ih =>
            rcases hI2 with ⟨rfl, rfl, rfl, rfl⟩ | ⟨rfl, rfl⟩
            · skip
              refine lv_iload hx hb dX9_fewest_50 (lv_at hl 0 rfl) ?_
              refine lv_bipush (v := 8) hx hb dX9_fewest_52 (by decide) ?_
              refine lv_icmp_gt (tgt := 98) hx hb dX9_fewest_54 (by decide) (fun b54 => absurd b54 (by decide)) (fun b54 => ?_)
              refine lv_aload_n hx hb dX9_fewest_57 rfl (lv_at hl 4 rfl) ?_
              refine lv_iload_n hx hb dX9_fewest_58 rfl (lv_at hl 5 rfl) ?_
              refine lv_iload_n hx hb dX9_fewest_59 rfl (lv_at hl 6 rfl) ?_
              refine lv_iload hx hb dX9_fewest_60 (lv_at hl 1 rfl) ?_
              refine lv_iload hx hb dX9_fewest_62 (lv_at hl 0 rfl) ?_
              refine lv_iload hx hb dX9_fewest_64 (lv_at hl 8 rfl) ?_
              refine q_vi (As := [.int w, .int w2, .int ((nI 8)), .int ((nI 1)), .int sd]) (rest := []) ⟨hx, hb, hml, hown, hts⟩ (c_X9_falselyLet0 l D g (n := 8) m_y e_y m_y1 e_y1 m_y21 e_y21 hnd p1 z1 p8 z8 hn4) (cwV 5 hts gX9_fewest_X9_falselyLet rfl rfl rfl (by decide +kernel) ⟨Nat.le_of_ble_eq_true rfl, Nat.le_of_ble_eq_true rfl⟩) S m_y e_y (T := TX9) (N := 23) rfl rfl hl.1 rfl (Nat.le_of_ble_eq_true rfl) dX9_fewest_66 ⟨Nat.le_of_ble_eq_true rfl, Nat.le_of_ble_eq_true rfl⟩ (fun r9 L7 f8 H locs S w66 => ?_)
              obtain ⟨exw66, eLw66, fvw66, w_alone, e_y21⟩ := w66
              rw [eLw66] at S
              subst exw66
              have e_y : f8 y = .inr (7, [.ref y0, .ref y1, .ref y2, .ref y3, .ref y4, .ref y5, .ref y6, .ref y7, .ref y8, .ref y9, .ref y10, .ref y11, .ref y12, .ref y13, .int 0, .ref y15, .ref y16, .ref y17, .ref y18, .ref y19, .ref y20, .ref y21, .ref y22]) := (fvw66 y m_y (nd_ne hnd (i := 21) (j := 0) rfl rfl (by decide))).trans e_y
              have e_y1 : f8 y1 = .inl (g 0, 8, .inl v_inWorld) := (fvw66 y1 m_y1 (nd_ne hnd (i := 21) (j := 2) rfl rfl (by decide))).trans e_y1
              refine lv_istore (lv' := [(9, .int 0), (8, .int ((nI 1))), (7, .int ((nI 8))), (5, .int 0), (6, .int 1001), (0, .ref y), (1, .int w), (2, .int w2), (3, .int mo), (4, .int sd)]) hx hb dX9_fewest_69 hl (by decide) rfl (fun ls hl => ?_)
              refine lv_iload hx hb dX9_fewest_71 (lv_at hl 0 rfl) ?_
              refine lv_iload hx hb dX9_fewest_73 (lv_at hl 4 rfl) ?_
              refine lv_icmp_ge (tgt := 92) hx hb dX9_fewest_75 (by decide) (fun b75 => absurd b75 (by decide)) (fun b75 => ?_)
              refine lv_iload hx hb dX9_fewest_78 (lv_at hl 0 rfl) ?_
              refine lv_istore (lv' := [(6, .int 0), (9, .int 0), (8, .int ((nI 1))), (7, .int ((nI 8))), (5, .int 0), (0, .ref y), (1, .int w), (2, .int w2), (3, .int mo), (4, .int sd)]) hx hb dX9_fewest_80 hl (by decide) rfl (fun ls hl => ?_)
              refine lv_bipush (v := 16) hx hb dX9_fewest_82 (by decide) ?_
              refine lv_iload hx hb dX9_fewest_84 (lv_at hl 3 rfl) ?_
              refine lv_imul hx hb dX9_fewest_86 ?_
              refine lv_iload hx hb dX9_fewest_87 (lv_at hl 2 rfl) ?_
              refine lv_iadd hx hb dX9_fewest_89 ?_
              refine lv_topi (fun t_ et_ => ?_)
              obtain rfl : t_ = 129 := et_.trans (by decide)
              refine lv_istore (lv' := [(5, .int 129), (6, .int 0), (9, .int 0), (8, .int ((nI 1))), (7, .int ((nI 8))), (0, .ref y), (1, .int w), (2, .int w2), (3, .int mo), (4, .int sd)]) hx hb dX9_fewest_90 hl (by decide) rfl (fun ls hl => ?_)
              obtain ⟨i1, ei1⟩ : ∃ y : Int32, y = (nI 1) + (1) := ⟨_, rfl⟩
              refine lv_iinc (v := i1) (lv' := [(8, .int i1), (5, .int 129), (6, .int 0), (9, .int 0), (7, .int ((nI 8))), (0, .ref y), (1, .int w), (2, .int w2), (3, .int mo), (4, .int sd)]) hx hb dX9_fewest_92 hl (k := 3) rfl (by rw [ei1]; rfl) (by decide) rfl (fun ls hl => ?_)
              refine lv_goto (tgt := 50) hx hb dX9_fewest_95 (by decide) ?_
              exact ih (n := 8) (k := (1 + 1)) (lst := 0) (bst := 129) (k_y21 := w_alone) (fl := f8) (e_y := e_y) (e_y1 := e_y1) (e_y21 := e_y21) (H := _) (locs := _) (S := S) (ls := ls) (hd := by omega) (hn4 := by omega) (hn8 := by omega) (hk9 := by omega) (hI2 := by exact Or.inr ⟨rfl, rfl⟩) (hl := by have q := lv_sub hl [0, 4, 1, 2, 5, 6, 7, 8, 9] rfl; rw [ei1, nI_1] at q; exact q)
            · skip
              refine lv_iload hx hb dX9_fewest_50 (lv_at hl 0 rfl) ?_
              refine lv_bipush (v := 8) hx hb dX9_fewest_52 (by decide) ?_
              refine lv_icmp_gt (tgt := 98) hx hb dX9_fewest_54 (by decide) (fun b54 => ?_) (fun b54 => ?_)
              · skip
                refine lv_iconst (v := 2) hx hb dX9_fewest_98 (by decide) ?_
                refine lv_iload hx hb dX9_fewest_99 (lv_at hl 1 rfl) ?_
                refine lv_imul hx hb dX9_fewest_101 ?_
                refine lv_topi (fun n2 en2 => ?_)
                refine lv_istore (lv' := [(7, .int n2), (8, .int ((nI k))), (5, .int 129), (6, .int 0), (0, .ref y), (1, .int w), (2, .int w2), (3, .int mo), (4, .int sd)]) hx hb dX9_fewest_102 hl (by decide) rfl (fun ls hl => ?_)
                refine lv_goto (tgt := 41) hx hb dX9_fewest_104 (by decide) ?_
                refine lv_iload hx hb dX9_fewest_41 (lv_at hl 0 rfl) ?_
                refine lv_iload_n hx hb dX9_fewest_43 rfl (lv_at hl 7 rfl) ?_
                refine lv_icmp_gt (tgt := 107) hx hb dX9_fewest_44 (by decide) (fun b44 => ?_) (fun b44 => ?_)
                · skip
                  refine lv_iload hx hb dX9_fewest_107 (lv_at hl 2 rfl) ?_
                  exact q_reti (post := fun x _ _ => x = (if (¬ w < 0 ∧ ¬ 8 ≤ w) ∧ (¬ w2 < 0 ∧ ¬ 8 ≤ w2) ∧ ¬ mo < 8 ∧ mo ≤ 4096 then 129 else -1)) hx hb hr hlk S dX9_fewest_109 (by decide) (by decide) ((if_pos ⟨hw1, hw8, b17, b24⟩).symm)
                · skip
                  refine lv_iconst (v := 1) hx hb dX9_fewest_47 (by decide) ?_
                  refine lv_istore (lv' := [(8, .int 1), (7, .int n2), (5, .int 129), (6, .int 0), (0, .ref y), (1, .int w), (2, .int w2), (3, .int mo), (4, .int sd)]) hx hb dX9_fewest_48 hl (by decide) rfl (fun ls hl => ?_)
                  exact ih (n := (2 * n)) (k := 1) (lst := 0) (bst := 129) (k_y21 := k_y21) (fl := fl) (e_y := e_y) (e_y1 := e_y1) (e_y21 := e_y21) (H := _) (locs := _) (S := S) (ls := ls) (hd := by omega) (hn4 := by exact pu_dbl (by rw [en2, show (2 : Int32) * nI n = nI (2 * n) from pk_mul 2 n] at b44; exact b44) b24 hn4) (hn8 := by omega) (hk9 := by omega) (hI2 := by exact Or.inr ⟨rfl, rfl⟩) (hl := by have q := lv_sub hl [0, 1, 2, 3, 4, 5, 6, 7, 8] rfl; rw [en2, show (2 : Int32) * nI n = nI (2 * n) from pk_mul 2 n] at q; exact q)
              · skip
                refine lv_aload_n hx hb dX9_fewest_57 rfl (lv_at hl 4 rfl) ?_
                refine lv_iload_n hx hb dX9_fewest_58 rfl (lv_at hl 5 rfl) ?_
                refine lv_iload_n hx hb dX9_fewest_59 rfl (lv_at hl 6 rfl) ?_
                refine lv_iload hx hb dX9_fewest_60 (lv_at hl 1 rfl) ?_
                refine lv_iload hx hb dX9_fewest_62 (lv_at hl 0 rfl) ?_
                refine lv_iload hx hb dX9_fewest_64 (lv_at hl 8 rfl) ?_
                refine q_vi (As := [.int w, .int w2, .int ((nI n)), .int ((nI k)), .int sd]) (rest := []) ⟨hx, hb, hml, hown, hts⟩ (c_X9_falselyLet0 l D g (n := n) m_y e_y m_y1 e_y1 m_y21 e_y21 hnd p1 z1 p8 z8 hn4) (cwV 5 hts gX9_fewest_X9_falselyLet rfl rfl rfl (by decide +kernel) ⟨Nat.le_of_ble_eq_true rfl, Nat.le_of_ble_eq_true rfl⟩) S m_y e_y (T := TX9) (N := 23) rfl rfl hl.1 rfl (Nat.le_of_ble_eq_true rfl) dX9_fewest_66 ⟨Nat.le_of_ble_eq_true rfl, Nat.le_of_ble_eq_true rfl⟩ (fun r9 L7 f8 H locs S w66 => ?_)
                obtain ⟨exw66, eLw66, fvw66, w_alone, e_y21⟩ := w66
                rw [eLw66] at S
                subst exw66
                have e_y : f8 y = .inr (7, [.ref y0, .ref y1, .ref y2, .ref y3, .ref y4, .ref y5, .ref y6, .ref y7, .ref y8, .ref y9, .ref y10, .ref y11, .ref y12, .ref y13, .int 0, .ref y15, .ref y16, .ref y17, .ref y18, .ref y19, .ref y20, .ref y21, .ref y22]) := (fvw66 y m_y (nd_ne hnd (i := 21) (j := 0) rfl rfl (by decide))).trans e_y
                have e_y1 : f8 y1 = .inl (g 0, 8, .inl v_inWorld) := (fvw66 y1 m_y1 (nd_ne hnd (i := 21) (j := 2) rfl rfl (by decide))).trans e_y1
                refine lv_istore (lv' := [(9, .int 0), (8, .int ((nI k))), (7, .int ((nI n))), (5, .int 129), (6, .int 0), (0, .ref y), (1, .int w), (2, .int w2), (3, .int mo), (4, .int sd)]) hx hb dX9_fewest_69 hl (by decide) rfl (fun ls hl => ?_)
                refine lv_iload hx hb dX9_fewest_71 (lv_at hl 0 rfl) ?_
                refine lv_iload hx hb dX9_fewest_73 (lv_at hl 4 rfl) ?_
                refine lv_icmp_ge (tgt := 92) hx hb dX9_fewest_75 (by decide) (fun b75 => ?_) (fun b75 => absurd (by decide) b75)
                obtain ⟨i1, ei1⟩ : ∃ y : Int32, y = (nI k) + (1) := ⟨_, rfl⟩
                refine lv_iinc (v := i1) (lv' := [(8, .int i1), (9, .int 0), (7, .int ((nI n))), (5, .int 129), (6, .int 0), (0, .ref y), (1, .int w), (2, .int w2), (3, .int mo), (4, .int sd)]) hx hb dX9_fewest_92 hl (k := 1) rfl (by rw [ei1]; rfl) (by decide) rfl (fun ls hl => ?_)
                refine lv_goto (tgt := 50) hx hb dX9_fewest_95 (by decide) ?_
                exact ih (n := n) (k := (k + 1)) (lst := 0) (bst := 129) (k_y21 := w_alone) (fl := f8) (e_y := e_y) (e_y1 := e_y1) (e_y21 := e_y21) (H := _) (locs := _) (S := S) (ls := ls) (hd := by have := Nat.le_of_not_lt (fun h => b54 (nI_lt (a := 8) h (by omega))); omega) (hn4 := by exact hn4) (hn8 := by omega) (hk9 := by have := Nat.le_of_not_lt (fun h => b54 (nI_lt (a := 8) h (by omega))); omega) (hI2 := by exact Or.inr ⟨rfl, rfl⟩) (hl := by have q := lv_sub hl [0, 2, 3, 4, 5, 6, 7, 8, 9] rfl; rw [ei1, nI_1] at q; exact q)
        · skip
          refine lv_iconst (v := -1) hx hb dX9_fewest_27 (by decide) ?_
          exact q_reti (post := fun x _ _ => x = (if (¬ w < 0 ∧ ¬ 8 ≤ w) ∧ (¬ w2 < 0 ∧ ¬ 8 ≤ w2) ∧ ¬ mo < 8 ∧ mo ≤ 4096 then 129 else -1)) hx hb hr hlk S dX9_fewest_28 (by decide) (by decide) ((if_neg (fun h => b24 h.2.2.2)).symm)
    · skip
      rw [if_neg hw8] at exw8
      subst exw8
      refine lv_if_eq (tgt := 27) hx hb dX9_fewest_11 (by decide) (fun b11 => ?_) (fun b11 => absurd (rfl) b11)
      refine lv_iconst (v := -1) hx hb dX9_fewest_27 (by decide) ?_
      exact q_reti (post := fun x _ _ => x = (if (¬ w < 0 ∧ ¬ 8 ≤ w) ∧ (¬ w2 < 0 ∧ ¬ 8 ≤ w2) ∧ ¬ mo < 8 ∧ mo ≤ 4096 then 129 else -1)) hx hb hr hlk S dX9_fewest_28 (by decide) (by decide) ((if_neg (fun h => hw8 h.2.1)).symm)
  · skip
    rw [if_neg hw1] at exw1
    subst exw1
    refine lv_if_eq (tgt := 27) hx hb dX9_fewest_4 (by decide) (fun b4 => ?_) (fun b4 => absurd (rfl) b4)
    refine lv_iconst (v := -1) hx hb dX9_fewest_27 (by decide) ?_
    exact q_reti (post := fun x _ _ => x = (if (¬ w < 0 ∧ ¬ 8 ≤ w) ∧ (¬ w2 < 0 ∧ ¬ 8 ≤ w2) ∧ ¬ mo < 8 ∧ mo ≤ 4096 then 129 else -1)) hx hb hr hlk S dX9_fewest_28 (by decide) (by decide) ((if_neg (fun h => hw1 h.1)).symm)
