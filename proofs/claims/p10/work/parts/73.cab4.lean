def mX8_makeR (k0 : Int32) (k1 : Int32) (k2 : Int32) : Option (Int32) := (mX8_isMakeable k0 k1 k2).bind fun z3 => if z3 = 0 then (some (-1 : Int32)) else none
set_option maxHeartbeats 4000000 in
set_option maxRecDepth 100000 in
theorem k_X8_makeR (l : Launch) (D : va_G) (g : Nat → ClassId) {L : List Nat} {f : Nat → va_E} {xb : Nat} {k0 : Int32} {k1 : Int32} {k2 : Int32} {k3 : Int32} {z : Int32}     (hM : mX8_makeR k0 k1 k2 = some z) : cI l yX8_make wsX8_make { frames := 2, cells := 0, slots := 0, locals := 44 } D g [.ref xb, .int k0, .int k1, .int k2, .int k3] L f 0 0 (fun x L1 f1 => x = z ∧ L1 = L ∧ f1 = f) := by
  refine cI_of (cc := cX8_make) (maxL := 6) (ret := (some .int)) (by decide) rfl (Nat.le_of_ble_eq_true rfl) ?_
  intro szz p e s m below meth c hx hb hr hml hts hown hlk hnm S ls hl
  have hl : lv_has ls 6 [(0, .ref xb), (1, .int k0), (2, .int k1), (3, .int k2), (4, .int k3)] := hl
  unfold mX8_makeR at hM
  refine W_gen (fun QQ hQQ => ?_)
  refine lv_iload_n hx hb dX8_make_0 rfl (lv_at hl 1 rfl) ?_
  refine lv_iload_n hx hb dX8_make_1 rfl (lv_at hl 2 rfl) ?_
  refine lv_iload_n hx hb dX8_make_2 rfl (lv_at hl 3 rfl) ?_
  obtain ⟨z3, hz3, hM⟩ := bind_some hM
  refine q_si (As := [.int k0, .int k1, .int k2]) (rest := []) ⟨hx, hb, hml, hown, hts⟩ (k_X8_isMakeable l D g hz3) (va_cwS 3 hts gX8_make_X8_isMakeable rfl rfl rfl (by decide +kernel) ⟨Nat.le_of_ble_eq_true rfl, Nat.le_of_ble_eq_true rfl⟩) S rfl hl.1 rfl (Nat.le_of_ble_eq_true rfl) dX8_make_3 ⟨Nat.le_of_ble_eq_true rfl, Nat.le_of_ble_eq_true rfl⟩ (fun r3 L1 f2 H locs S w3 => ?_)
  obtain ⟨ex3, eL, ef⟩ := w3
  rw [eL, ef] at S
  replace ex3 := ex3.symm
  subst ex3
  refine lv_if_ne (tgt := 11) hx hb dX8_make_6 (by decide) (fun b6 => ?_) (fun b6 => ?_)
  · have hM := itF b6 hM
    refine lv_aload_n hx hb dX8_make_11 rfl (lv_at hl 0 rfl) ?_
    exact no_some hM
  · have hM := itT b6 hM
    refine lv_iconst (v := (-1 : Int32)) hx hb dX8_make_9 (by decide) ?_
    subst hQQ
    exact q_reti (post := fun x L1 f1 => x = z ∧ L1 = L ∧ f1 = f) hx hb hr hlk S dX8_make_10 (by decide) (by decide) (by have hz := Option.some.inj hM; subst hz; exact ⟨rfl, rfl, rfl⟩)

def mX8_makeX (md : Int32) (k0 : Int32) (k1 : Int32) (k2 : Int32) : Option (Int32) := (mX8_isMakeable k0 k1 k2).bind fun z3 => if z3 = 0 then (some (-1 : Int32)) else ((mX8_nextSlotN md).bind fun z12 => some (-4 : Int32))
set_option maxHeartbeats 4000000 in
set_option maxRecDepth 100000 in
theorem k_X8_makeX (l : Launch) (D : va_G) (g : Nat → ClassId) {L : List Nat} {f : Nat → va_E} {Sl ch dr ri so th wo xb : Nat} {md : Int32} {sf : Nat → Option Nat} {k0 : Int32} {k1 : Int32} {k2 : Int32} {k3 : Int32} {z : Int32} (m_xb : xb ∈ L) (e_xb : f xb = .inr (6, [.ref wo, .ref Sl, .ref dr, .ref ri, .ref th, .ref so, .ref ch, .int md])) (m_Sl : Sl ∈ L) (e_Sl : f Sl = .inl (g 5, 30, .inr (.inr (.inr (.inr sf)))))    (hM : mX8_makeX md k0 k1 k2 = some z) : cI l yX8_make wsX8_make { frames := 2, cells := 0, slots := 0, locals := 44 } D g [.ref xb, .int k0, .int k1, .int k2, .int k3] L f 0 0 (fun x L1 f1 => x = z ∧ L1 = L ∧ f1 = f) := by
  refine cI_of (cc := cX8_make) (maxL := 6) (ret := (some .int)) (by decide) rfl (Nat.le_of_ble_eq_true rfl) ?_
  intro szz p e s m below meth c hx hb hr hml hts hown hlk hnm S ls hl
  have hl : lv_has ls 6 [(0, .ref xb), (1, .int k0), (2, .int k1), (3, .int k2), (4, .int k3)] := hl
  unfold mX8_makeX at hM
  refine W_gen (fun QQ hQQ => ?_)
  refine lv_iload_n hx hb dX8_make_0 rfl (lv_at hl 1 rfl) ?_
  refine lv_iload_n hx hb dX8_make_1 rfl (lv_at hl 2 rfl) ?_
  refine lv_iload_n hx hb dX8_make_2 rfl (lv_at hl 3 rfl) ?_
  obtain ⟨z3, hz3, hM⟩ := bind_some hM
  refine q_si (As := [.int k0, .int k1, .int k2]) (rest := []) ⟨hx, hb, hml, hown, hts⟩ (k_X8_isMakeable l D g hz3) (va_cwS 3 hts gX8_make_X8_isMakeable rfl rfl rfl (by decide +kernel) ⟨Nat.le_of_ble_eq_true rfl, Nat.le_of_ble_eq_true rfl⟩) S rfl hl.1 rfl (Nat.le_of_ble_eq_true rfl) dX8_make_3 ⟨Nat.le_of_ble_eq_true rfl, Nat.le_of_ble_eq_true rfl⟩ (fun r3 L1 f2 H locs S w3 => ?_)
  obtain ⟨ex3, eL, ef⟩ := w3
  rw [eL, ef] at S
  replace ex3 := ex3.symm
  subst ex3
  refine lv_if_ne (tgt := 11) hx hb dX8_make_6 (by decide) (fun b6 => ?_) (fun b6 => ?_)
  · have hM := itF b6 hM
    refine lv_aload_n hx hb dX8_make_11 rfl (lv_at hl 0 rfl) ?_
    obtain ⟨z12, hz12, hM⟩ := bind_some hM
    refine q_vq (As := []) (rest := []) ⟨hx, hb, hml, hown, hts⟩ (k_X8_nextSlotN l D g m_xb e_xb m_Sl e_Sl hz12) (cwV 0 hts gX8_make_X8_nextSlot rfl rfl rfl (by decide +kernel) ⟨Nat.le_of_ble_eq_true rfl, Nat.le_of_ble_eq_true rfl⟩) S m_xb e_xb (T := TX8) (N := 8) rfl rfl hl.1 rfl (Nat.le_of_ble_eq_true rfl) dX8_make_12 ⟨Nat.le_of_ble_eq_true rfl, Nat.le_of_ble_eq_true rfl⟩ (fun r6 L4 f5 H locs S w12 => ?_)
    obtain ⟨ex12, eL, ef⟩ := w12
    rw [eL, ef] at S
    replace ex12 := ex12.symm
    subst ex12
    refine W.eq (g2 := F0 m 15 ls [.null]) rfl ?_
    refine lv_astoreN (lv' := [(5, .null), (0, .ref xb), (1, .int k0), (2, .int k1), (3, .int k2), (4, .int k3)]) hx hb dX8_make_15 hl (by decide) rfl (fun ls hl => ?_)
    refine lv_aloadN hx hb dX8_make_17 (lv_at hl 0 rfl) ?_
    refine lv_ifnonnullN hx hb dX8_make_19 ?_
    refine lv_bipush (v := (-4 : Int32)) hx hb dX8_make_22 (by decide) ?_
    subst hQQ
    exact q_reti (post := fun x L1 f1 => x = z ∧ L1 = L ∧ f1 = f) hx hb hr hlk S dX8_make_24 (by decide) (by decide) (by have hz := Option.some.inj hM; subst hz; exact ⟨rfl, rfl, rfl⟩)
  · have hM := itT b6 hM
    refine lv_iconst (v := (-1 : Int32)) hx hb dX8_make_9 (by decide) ?_
    subst hQQ
    exact q_reti (post := fun x L1 f1 => x = z ∧ L1 = L ∧ f1 = f) hx hb hr hlk S dX8_make_10 (by decide) (by decide) (by have hz := Option.some.inj hM; subst hz; exact ⟨rfl, rfl, rfl⟩)

def mX8_makeE (md : Int32) (k0 : Int32) (k1 : Int32) (k2 : Int32) (k3 : Int32) (kd : Int32) (sz : Int32) (mk : Int32) (sd : Int32) (kc : Nat → Int32) (n : Int32) : Option (Int32 × Int32 × Int32 × Int32 × Int32 × Int32 × (Nat → Int32) × Int32) := (mX8_isMakeable k0 k1 k2).bind fun z3 => if z3 = 0 then (some ((-1 : Int32), md, kd, sz, mk, sd, kc, n)) else ((mX8_nextSlotE md).bind fun z12 => if k0 = (2 : Int32) then ((mX6_begin kc k0 k1 (0 : Int32) k3).bind fun z41 => some (md, (md + (1 : Int32)), z41.1, z41.2.1, z41.2.2.1, z41.2.2.2.1, z41.2.2.2.2.1, z41.2.2.2.2.2)) else ((mX6_begin kc k0 k1 k2 k3).bind fun z41 => some (md, (md + (1 : Int32)), z41.1, z41.2.1, z41.2.2.1, z41.2.2.2.1, z41.2.2.2.2.1, z41.2.2.2.2.2)))
set_option maxHeartbeats 4000000 in
set_option maxRecDepth 100000 in
theorem k_X8_makeE (l : Launch) (D : va_G) (g : Nat → ClassId) {L : List Nat} {f : Nat → va_E} {Sl ce ch co cr dr h ri so th wo xb : Nat} {md : Int32} {sf : Nat → Option Nat} {k0 : Int32} {k1 : Int32} {k2 : Int32} {k3 : Int32} {lay : Value} {kd : Int32} {sz : Int32} {mk : Int32} {sd : Int32} {kc : Nat → Int32} {n : Int32} {z : Int32 × Int32 × Int32 × Int32 × Int32 × Int32 × (Nat → Int32) × Int32} (m_xb : xb ∈ L) (e_xb : f xb = .inr (6, [.ref wo, .ref Sl, .ref dr, .ref ri, .ref th, .ref so, .ref ch, .int md])) (m_Sl : Sl ∈ L) (e_Sl : f Sl = .inl (g 5, 30, .inr (.inr (.inr (.inr sf))))) (m_h : h ∈ L) (e_h : f h = .inr (4, [.ref ce, .ref co, lay, .int kd, .int sz, .int mk, .int sd])) (m_ce : ce ∈ L) (e_ce : f ce = .inl (g 0, 4096, .inl kc)) (m_co : co ∈ L) (e_co : f co = .inr (0, [.ref cr, .int n]))   (hF_h : sf (Int32.toNatClampNeg md) = some h)  (hM : mX8_makeE md k0 k1 k2 k3 kd sz mk sd kc n = some z) : cI l yX8_make wsX8_make { frames := 2, cells := 0, slots := 0, locals := 47 } D g [.ref xb, .int k0, .int k1, .int k2, .int k3] L f 0 0 (fun x L1 f1 => x = z.1 ∧ L1 = L ∧ (∀ b, b ∈ L → b ≠ xb → b ≠ h → b ≠ ce → b ≠ co → f1 b = f b) ∧ f1 xb = .inr (6, [.ref wo, .ref Sl, .ref dr, .ref ri, .ref th, .ref so, .ref ch, .int z.2.1]) ∧ f1 h = .inr (4, [.ref ce, .ref co, lay, .int z.2.2.1, .int z.2.2.2.1, .int z.2.2.2.2.1, .int z.2.2.2.2.2.1]) ∧ f1 ce = .inl (g 0, 4096, .inl z.2.2.2.2.2.2.1) ∧ f1 co = .inr (0, [.ref cr, .int z.2.2.2.2.2.2.2])) := by
  refine cI_of (cc := cX8_make) (maxL := 6) (ret := (some .int)) (by decide) rfl (Nat.le_of_ble_eq_true rfl) ?_
  intro szz p e s m below meth c hx hb hr hml hts hown hlk hnm S ls hl
  have hl : lv_has ls 6 [(0, .ref xb), (1, .int k0), (2, .int k1), (3, .int k2), (4, .int k3)] := hl
  have in_X8 : ∀ w ∈ wsX80, w ∈ wsX8_make := gu_wsX8_make_4
  have n_xb_h : xb ≠ h := ne_rr e_h e_xb (by decide)
  have n_xb_ce : xb ≠ ce := ne_ir e_ce e_xb
  have n_xb_co : xb ≠ co := ne_rr e_co e_xb (by decide)
  have n_h_xb : h ≠ xb := ne_rr e_xb e_h (by decide)
  have n_ce_xb : ce ≠ xb := ne_ri e_xb e_ce
  have n_co_xb : co ≠ xb := ne_rr e_xb e_co (by decide)
  have fr : ∀ b, b ∈ L → b ≠ xb → b ≠ h → b ≠ ce → b ≠ co → f b = f b := fun _ _ _ _ _ _ => rfl
  unfold mX8_makeE at hM
  refine W_gen (fun QQ hQQ => ?_)
  refine lv_iload_n hx hb dX8_make_0 rfl (lv_at hl 1 rfl) ?_
  refine lv_iload_n hx hb dX8_make_1 rfl (lv_at hl 2 rfl) ?_
  refine lv_iload_n hx hb dX8_make_2 rfl (lv_at hl 3 rfl) ?_
  obtain ⟨z3, hz3, hM⟩ := bind_some hM
  refine q_si (As := [.int k0, .int k1, .int k2]) (rest := []) ⟨hx, hb, hml, hown, hts⟩ (k_X8_isMakeable l D g hz3) (va_cwS 3 hts gX8_make_X8_isMakeable rfl rfl rfl (by decide +kernel) ⟨Nat.le_of_ble_eq_true rfl, Nat.le_of_ble_eq_true rfl⟩) S rfl hl.1 rfl (Nat.le_of_ble_eq_true rfl) dX8_make_3 ⟨Nat.le_of_ble_eq_true rfl, Nat.le_of_ble_eq_true rfl⟩ (fun r3 L1 f2 H locs S w3 => ?_)
  obtain ⟨ex3, eL, ef⟩ := w3
  rw [eL, ef] at S
  replace ex3 := ex3.symm
  subst ex3
  refine lv_if_ne (tgt := 11) hx hb dX8_make_6 (by decide) (fun b6 => ?_) (fun b6 => ?_)
  · have hM := itF b6 hM
    refine lv_aload_n hx hb dX8_make_11 rfl (lv_at hl 0 rfl) ?_
    obtain ⟨z12, hz12, hM⟩ := bind_some hM
    refine q_vq (As := []) (rest := []) ⟨hx, hb, hml, hown, hts⟩ (k_X8_nextSlotE l D g m_xb e_xb m_Sl e_Sl hF_h hz12) (cwV 0 hts gX8_make_X8_nextSlot rfl rfl rfl (by decide +kernel) ⟨Nat.le_of_ble_eq_true rfl, Nat.le_of_ble_eq_true rfl⟩) S m_xb e_xb (T := TX8) (N := 8) rfl rfl hl.1 rfl (Nat.le_of_ble_eq_true rfl) dX8_make_12 ⟨Nat.le_of_ble_eq_true rfl, Nat.le_of_ble_eq_true rfl⟩ (fun r6 L4 f5 H locs S w12 => ?_)
    obtain ⟨ex12, eL, ef⟩ := w12
    rw [eL, ef] at S
    replace ex12 := ex12.symm
    subst ex12
    refine W.eq (g2 := F0 m 15 ls [.ref h]) rfl ?_
    refine lv_astore (lv' := [(5, .ref h), (0, .ref xb), (1, .int k0), (2, .int k1), (3, .int k2), (4, .int k3)]) hx hb dX8_make_15 hl (by decide) rfl (fun ls hl => ?_)
    refine lv_aload hx hb dX8_make_17 (lv_at hl 0 rfl) ?_
    refine lv_ifnonnull (tgt := 25) hx hb dX8_make_19 (by decide) ?_
    refine lv_aload hx hb dX8_make_25 (lv_at hl 0 rfl) ?_
    refine lv_iload_n hx hb dX8_make_27 rfl (lv_at hl 2 rfl) ?_
    refine lv_iload_n hx hb dX8_make_28 rfl (lv_at hl 3 rfl) ?_
    refine lv_iload_n hx hb dX8_make_29 rfl (lv_at hl 2 rfl) ?_
    refine lv_iconst (v := (2 : Int32)) hx hb dX8_make_30 (by decide) ?_
    refine lv_icmp_ne (tgt := 38) hx hb dX8_make_31 (by decide) (fun b31 => ?_) (fun b31 => ?_)
    · have hM := itF b31 hM
      refine lv_iload_n hx hb dX8_make_38 rfl (lv_at hl 4 rfl) ?_
      refine lv_iload hx hb dX8_make_39 (lv_at hl 5 rfl) ?_
      obtain ⟨z41, hz41, hM⟩ := bind_some hM
      refine q_vv (As := [.int k0, .int k1, .int k2, .int k3]) (rest := []) ⟨hx, hb, hml, hown, hts⟩ (k_X6_begin l D g m_h e_h m_ce e_ce m_co e_co hz41) (cwV 4 hts gX8_make_X6_begin rfl rfl rfl (by decide +kernel) ⟨Nat.le_of_ble_eq_true rfl, Nat.le_of_ble_eq_true rfl⟩) S m_h e_h (T := TX6) (N := 7) rfl rfl hl.1 rfl (Nat.le_of_ble_eq_true rfl) dX8_make_41 ⟨Nat.le_of_ble_eq_true rfl, Nat.le_of_ble_eq_true rfl⟩ (fun L7 f8 H locs S w41 => ?_)
      obtain ⟨eL, fv41, E_h, E_ce, E_co⟩ := w41
      rw [eL] at S
      have fr : ∀ b, b ∈ L → b ≠ xb → b ≠ h → b ≠ ce → b ≠ co → f8 b = f b := fun b mb nb0 nb1 nb2 nb3 => (fv41 b mb nb1 nb2 nb3).trans (fr b mb nb0 nb1 nb2 nb3)
      have e_h : f8 h = .inr (4, [.ref ce, .ref co, lay, .int z41.1, .int z41.2.1, .int z41.2.2.1, .int z41.2.2.2.1]) := E_h
      have e_ce : f8 ce = .inl (g 0, 4096, .inl z41.2.2.2.2.1) := E_ce
      have e_co : f8 co = .inr (0, [.ref cr, .int z41.2.2.2.2.2]) := E_co
      refine lv_aload_n hx hb dX8_make_44 rfl (lv_at hl 1 rfl) ?_
      refine lv_dup hx hb dX8_make_45 rfl ?_
      have e_xb := ((fv41 xb m_xb n_xb_h n_xb_ce n_xb_co).trans e_xb)
      refine q_get hx hb hts in_X8 hown S m_xb e_xb (C := RX8) (T := TX8) (N := 8) rfl 7 (by decide) rfl (hts (.fieldLink RX8 84 "SieveCabinet" "made" "I") (gu_wsX8_make_1 _ gm_0)) dX8_make_46 ?_
      refine lv_dup_x1 hx hb dX8_make_49 rfl rfl ?_
      refine lv_iconst (v := (1 : Int32)) hx hb dX8_make_50 (by decide) ?_
      refine lv_iadd hx hb dX8_make_51 ?_
      refine k_put hx hb hts in_X8 tyX8 tyX8_ok nmX8 hown S m_xb e_xb (C := RX8) (T := TX8) (N := 8) rfl 7 (by decide) (hts (.fieldLink RX8 84 "SieveCabinet" "made" "I") (gu_wsX8_make_1 _ gm_0)) rfl rfl rfl (Nat.le_of_ble_eq_true rfl) dX8_make_52 (fun f10 ef10 H locs S => ?_)
      have e_xb : f10 xb = .inr (6, [.ref wo, .ref Sl, .ref dr, .ref ri, .ref th, .ref so, .ref ch, .int (md + (1 : Int32))]) := up_self ef10
      have fr : ∀ b, b ∈ L → b ≠ xb → b ≠ h → b ≠ ce → b ≠ co → f10 b = f b := fun b mb nb0 nb1 nb2 nb3 => (up_ne ef10 nb0 rfl).trans (fr b mb nb0 nb1 nb2 nb3)
      have e_h := (up_ne ef10 n_h_xb e_h)
      have e_ce := (up_ne ef10 n_ce_xb e_ce)
      have e_co := (up_ne ef10 n_co_xb e_co)
      subst hQQ
      exact q_reti (post := fun x L1 f1 => x = z.1 ∧ L1 = L ∧ (∀ b, b ∈ L → b ≠ xb → b ≠ h → b ≠ ce → b ≠ co → f1 b = f b) ∧ f1 xb = .inr (6, [.ref wo, .ref Sl, .ref dr, .ref ri, .ref th, .ref so, .ref ch, .int z.2.1]) ∧ f1 h = .inr (4, [.ref ce, .ref co, lay, .int z.2.2.1, .int z.2.2.2.1, .int z.2.2.2.2.1, .int z.2.2.2.2.2.1]) ∧ f1 ce = .inl (g 0, 4096, .inl z.2.2.2.2.2.2.1) ∧ f1 co = .inr (0, [.ref cr, .int z.2.2.2.2.2.2.2])) hx hb hr hlk S dX8_make_55 (by decide) (by decide) (by have hz := Option.some.inj hM; subst hz; exact ⟨rfl, rfl, fr, e_xb, e_h, e_ce, e_co⟩)
    · have hM := itT b31 hM
      refine lv_iconst (v := (0 : Int32)) hx hb dX8_make_34 (by decide) ?_
      refine lv_goto (tgt := 39) hx hb dX8_make_35 (by decide) ?_
      refine lv_iload hx hb dX8_make_39 (lv_at hl 5 rfl) ?_
      obtain ⟨z41, hz41, hM⟩ := bind_some hM
      refine q_vv (As := [.int k0, .int k1, .int (0 : Int32), .int k3]) (rest := []) ⟨hx, hb, hml, hown, hts⟩ (k_X6_begin l D g m_h e_h m_ce e_ce m_co e_co hz41) (cwV 4 hts gX8_make_X6_begin rfl rfl rfl (by decide +kernel) ⟨Nat.le_of_ble_eq_true rfl, Nat.le_of_ble_eq_true rfl⟩) S m_h e_h (T := TX6) (N := 7) rfl rfl hl.1 rfl (Nat.le_of_ble_eq_true rfl) dX8_make_41 ⟨Nat.le_of_ble_eq_true rfl, Nat.le_of_ble_eq_true rfl⟩ (fun L11 f12 H locs S w41 => ?_)
      obtain ⟨eL, fv41, E_h, E_ce, E_co⟩ := w41
      rw [eL] at S
      have fr : ∀ b, b ∈ L → b ≠ xb → b ≠ h → b ≠ ce → b ≠ co → f12 b = f b := fun b mb nb0 nb1 nb2 nb3 => (fv41 b mb nb1 nb2 nb3).trans (fr b mb nb0 nb1 nb2 nb3)
      have e_h : f12 h = .inr (4, [.ref ce, .ref co, lay, .int z41.1, .int z41.2.1, .int z41.2.2.1, .int z41.2.2.2.1]) := E_h
      have e_ce : f12 ce = .inl (g 0, 4096, .inl z41.2.2.2.2.1) := E_ce
      have e_co : f12 co = .inr (0, [.ref cr, .int z41.2.2.2.2.2]) := E_co
      refine lv_aload_n hx hb dX8_make_44 rfl (lv_at hl 1 rfl) ?_
      refine lv_dup hx hb dX8_make_45 rfl ?_
      have e_xb := ((fv41 xb m_xb n_xb_h n_xb_ce n_xb_co).trans e_xb)
      refine q_get hx hb hts in_X8 hown S m_xb e_xb (C := RX8) (T := TX8) (N := 8) rfl 7 (by decide) rfl (hts (.fieldLink RX8 84 "SieveCabinet" "made" "I") (gu_wsX8_make_1 _ gm_0)) dX8_make_46 ?_
      refine lv_dup_x1 hx hb dX8_make_49 rfl rfl ?_
      refine lv_iconst (v := (1 : Int32)) hx hb dX8_make_50 (by decide) ?_
      refine lv_iadd hx hb dX8_make_51 ?_
      refine k_put hx hb hts in_X8 tyX8 tyX8_ok nmX8 hown S m_xb e_xb (C := RX8) (T := TX8) (N := 8) rfl 7 (by decide) (hts (.fieldLink RX8 84 "SieveCabinet" "made" "I") (gu_wsX8_make_1 _ gm_0)) rfl rfl rfl (Nat.le_of_ble_eq_true rfl) dX8_make_52 (fun f14 ef14 H locs S => ?_)
      have e_xb : f14 xb = .inr (6, [.ref wo, .ref Sl, .ref dr, .ref ri, .ref th, .ref so, .ref ch, .int (md + (1 : Int32))]) := up_self ef14
      have fr : ∀ b, b ∈ L → b ≠ xb → b ≠ h → b ≠ ce → b ≠ co → f14 b = f b := fun b mb nb0 nb1 nb2 nb3 => (up_ne ef14 nb0 rfl).trans (fr b mb nb0 nb1 nb2 nb3)
      have e_h := (up_ne ef14 n_h_xb e_h)
      have e_ce := (up_ne ef14 n_ce_xb e_ce)
      have e_co := (up_ne ef14 n_co_xb e_co)
      subst hQQ
      exact q_reti (post := fun x L1 f1 => x = z.1 ∧ L1 = L ∧ (∀ b, b ∈ L → b ≠ xb → b ≠ h → b ≠ ce → b ≠ co → f1 b = f b) ∧ f1 xb = .inr (6, [.ref wo, .ref Sl, .ref dr, .ref ri, .ref th, .ref so, .ref ch, .int z.2.1]) ∧ f1 h = .inr (4, [.ref ce, .ref co, lay, .int z.2.2.1, .int z.2.2.2.1, .int z.2.2.2.2.1, .int z.2.2.2.2.2.1]) ∧ f1 ce = .inl (g 0, 4096, .inl z.2.2.2.2.2.2.1) ∧ f1 co = .inr (0, [.ref cr, .int z.2.2.2.2.2.2.2])) hx hb hr hlk S dX8_make_55 (by decide) (by decide) (by have hz := Option.some.inj hM; subst hz; exact ⟨rfl, rfl, fr, e_xb, e_h, e_ce, e_co⟩)
  · have hM := itT b6 hM
    refine lv_iconst (v := (-1 : Int32)) hx hb dX8_make_9 (by decide) ?_
    subst hQQ
    exact q_reti (post := fun x L1 f1 => x = z.1 ∧ L1 = L ∧ (∀ b, b ∈ L → b ≠ xb → b ≠ h → b ≠ ce → b ≠ co → f1 b = f b) ∧ f1 xb = .inr (6, [.ref wo, .ref Sl, .ref dr, .ref ri, .ref th, .ref so, .ref ch, .int z.2.1]) ∧ f1 h = .inr (4, [.ref ce, .ref co, lay, .int z.2.2.1, .int z.2.2.2.1, .int z.2.2.2.2.1, .int z.2.2.2.2.2.1]) ∧ f1 ce = .inl (g 0, 4096, .inl z.2.2.2.2.2.2.1) ∧ f1 co = .inr (0, [.ref cr, .int z.2.2.2.2.2.2.2])) hx hb hr hlk S dX8_make_10 (by decide) (by decide) (by have hz := Option.some.inj hM; subst hz; exact ⟨rfl, rfl, fr, e_xb, e_h, e_ce, e_co⟩)

def mX8_makeF (md : Int32) (k0 : Int32) (k1 : Int32) (k2 : Int32) (k3 : Int32) : Option (Int32 × Int32 × Int32 × Int32 × Int32 × Int32 × (Nat → Int32) × Int32 × (Nat → Int64)) := (mX8_isMakeable k0 k1 k2).bind fun z3 => if z3 = 0 then none else ((mX8_nextSlotF md).bind fun z12 => if k0 = (2 : Int32) then ((mX6_begin z12.2.2.2.2.1 k0 k1 (0 : Int32) k3).bind fun z41 => some (md, (md + (1 : Int32)), z41.1, z41.2.1, z41.2.2.1, z41.2.2.2.1, z41.2.2.2.2.1, z41.2.2.2.2.2, z12.2.2.2.2.2.2)) else ((mX6_begin z12.2.2.2.2.1 k0 k1 k2 k3).bind fun z41 => some (md, (md + (1 : Int32)), z41.1, z41.2.1, z41.2.2.1, z41.2.2.2.1, z41.2.2.2.2.1, z41.2.2.2.2.2, z12.2.2.2.2.2.2)))
set_option maxHeartbeats 4000000 in
set_option maxRecDepth 100000 in
theorem k_X8_makeF (l : Launch) (D : va_G) (g : Nat → ClassId) {L : List Nat} {f : Nat → va_E} {Sl ch dr ri so th wo xb : Nat} {md : Int32} {sf : Nat → Option Nat} {k0 : Int32} {k1 : Int32} {k2 : Int32} {k3 : Int32} {z : Int32 × Int32 × Int32 × Int32 × Int32 × Int32 × (Nat → Int32) × Int32 × (Nat → Int64)} (m_xb : xb ∈ L) (e_xb : f xb = .inr (6, [.ref wo, .ref Sl, .ref dr, .ref ri, .ref th, .ref so, .ref ch, .int md])) (m_Sl : Sl ∈ L) (e_Sl : f Sl = .inl (g 5, 30, .inr (.inr (.inr (.inr sf)))))   (hF0 : sf (Int32.toNatClampNeg md) = none) (hM : mX8_makeF md k0 k1 k2 k3 = some z) : cI l yX8_make wsX8_make { frames := 4, cells := 4, slots := 5105, locals := 72 } D g [.ref xb, .int k0, .int k1, .int k2, .int k3] L f 4 5105 (fun x L1 f1 => ∃ q38 : Nat, ∃ ce : Nat, ∃ co : Nat, ∃ cr : Nat, x = z.1 ∧ (∀ b, b ∈ L → b ∈ L1) ∧ (∀ b, b ∈ L → b ≠ xb → b ≠ Sl → f1 b = f b) ∧ f1 xb = .inr (6, [.ref wo, .ref Sl, .ref dr, .ref ri, .ref th, .ref so, .ref ch, .int z.2.1]) ∧ f1 Sl = .inl (g 5, 30, .inr (.inr (.inr (.inr (va_up sf (Int32.toNatClampNeg md) (some q38)))))) ∧ (q38 ∉ L ∧ q38 ∈ L1 ∧ f1 q38 = .inr (4, [.ref ce, .ref co, .null, .int z.2.2.1, .int z.2.2.2.1, .int z.2.2.2.2.1, .int z.2.2.2.2.2.1])) ∧ (ce ∉ L ∧ ce ∈ L1 ∧ f1 ce = .inl (g 0, 4096, .inl z.2.2.2.2.2.2.1)) ∧ (co ∉ L ∧ co ∈ L1 ∧ f1 co = .inr (0, [.ref cr, .int z.2.2.2.2.2.2.2.1])) ∧ (cr ∉ L ∧ cr ∈ L1 ∧ f1 cr = .inl (g 1, 1000, .inr (.inl z.2.2.2.2.2.2.2.2)))) := by
  refine cI_of (cc := cX8_make) (maxL := 6) (ret := (some .int)) (by decide) rfl (Nat.le_of_ble_eq_true rfl) ?_
  intro szz p e s m below meth c hx hb hr hml hts hown hlk hnm S ls hl
  have hl : lv_has ls 6 [(0, .ref xb), (1, .int k0), (2, .int k1), (3, .int k2), (4, .int k3)] := hl
  have in_X8 : ∀ w ∈ wsX80, w ∈ wsX8_make := gu_wsX8_make_4
  have n_xb_Sl : xb ≠ Sl := ne_ir e_Sl e_xb
  have n_Sl_xb : Sl ≠ xb := ne_ri e_xb e_Sl
  have fr : ∀ b, b ∈ L → b ≠ xb → b ≠ Sl → f b = f b := fun _ _ _ _ => rfl
  have mono : ∀ b, b ∈ L → b ∈ L := fun _ h => h
  unfold mX8_makeF at hM
  refine W_gen (fun QQ hQQ => ?_)
  refine lv_iload_n hx hb dX8_make_0 rfl (lv_at hl 1 rfl) ?_
  refine lv_iload_n hx hb dX8_make_1 rfl (lv_at hl 2 rfl) ?_
  refine lv_iload_n hx hb dX8_make_2 rfl (lv_at hl 3 rfl) ?_
  obtain ⟨z3, hz3, hM⟩ := bind_some hM
  refine q_si (As := [.int k0, .int k1, .int k2]) (rest := []) ⟨hx, hb, hml, hown, hts⟩ (k_X8_isMakeable l D g hz3) (va_cwS 3 hts gX8_make_X8_isMakeable rfl rfl rfl (by decide +kernel) ⟨Nat.le_of_ble_eq_true rfl, Nat.le_of_ble_eq_true rfl⟩) S rfl hl.1 rfl (Nat.le_of_ble_eq_true rfl) dX8_make_3 ⟨Nat.le_of_ble_eq_true rfl, Nat.le_of_ble_eq_true rfl⟩ (fun r3 L1 f2 H locs S w3 => ?_)
  obtain ⟨ex3, eL, ef⟩ := w3
  rw [eL, ef] at S
  replace ex3 := ex3.symm
  subst ex3
  refine lv_if_ne (tgt := 11) hx hb dX8_make_6 (by decide) (fun b6 => ?_) (fun b6 => ?_)
  · have hM := itF b6 hM
    refine lv_aload_n hx hb dX8_make_11 rfl (lv_at hl 0 rfl) ?_
    obtain ⟨z12, hz12, hM⟩ := bind_some hM
    refine q_vq (As := []) (rest := []) ⟨hx, hb, hml, hown, hts⟩ (k_X8_nextSlotF l D g m_xb e_xb m_Sl e_Sl hF0 hz12) (cwV 0 hts gX8_make_X8_nextSlot rfl rfl rfl (by decide +kernel) ⟨Nat.le_of_ble_eq_true rfl, Nat.le_of_ble_eq_true rfl⟩) S m_xb e_xb (T := TX8) (N := 8) rfl rfl hl.1 rfl (Nat.le_of_ble_eq_true rfl) dX8_make_12 ⟨Nat.le_of_ble_eq_true rfl, Nat.le_of_ble_eq_true rfl⟩ (fun r6 L4 f5 H locs S w12 => ?_)
    refine W.widen (k := 4) (n := 5105) (by decide) (by decide) ?_
    obtain ⟨q38, ce, co, cr, ex12, mo, fv, E_Sl, ⟨nq_q38, mq_q38, E_q38⟩, ⟨nq_ce, mq_ce, E_ce⟩, ⟨nq_co, mq_co, E_co⟩, ⟨nq_cr, mq_cr, E_cr⟩⟩ := w12
    have mono0 := mono
    have e_xb := (fv xb m_xb n_xb_Sl).trans e_xb
    have fr : ∀ b, b ∈ L → b ≠ xb → b ≠ Sl → f5 b = f b := fun b mb nb0 nb1 => (fv b (mono0 b mb) nb1).trans (fr b mb nb0 nb1)
    have n_xb_q38 : xb ≠ q38 := fun h => nq_q38 (h ▸ m_xb)
    have n_q38_xb : q38 ≠ xb := Ne.symm n_xb_q38
    have n_xb_ce : xb ≠ ce := fun h => nq_ce (h ▸ m_xb)
    have n_ce_xb : ce ≠ xb := Ne.symm n_xb_ce
    have n_xb_co : xb ≠ co := fun h => nq_co (h ▸ m_xb)
    have n_co_xb : co ≠ xb := Ne.symm n_xb_co
    have n_xb_cr : xb ≠ cr := fun h => nq_cr (h ▸ m_xb)
    have n_cr_xb : cr ≠ xb := Ne.symm n_xb_cr
    have n_Sl_q38 : Sl ≠ q38 := fun h => nq_q38 (h ▸ m_Sl)
    have n_q38_Sl : q38 ≠ Sl := Ne.symm n_Sl_q38
    have n_Sl_ce : Sl ≠ ce := fun h => nq_ce (h ▸ m_Sl)
    have n_ce_Sl : ce ≠ Sl := Ne.symm n_Sl_ce
    have n_Sl_co : Sl ≠ co := fun h => nq_co (h ▸ m_Sl)
    have n_co_Sl : co ≠ Sl := Ne.symm n_Sl_co
    have n_Sl_cr : Sl ≠ cr := fun h => nq_cr (h ▸ m_Sl)
    have n_cr_Sl : cr ≠ Sl := Ne.symm n_Sl_cr
    have m_xb : xb ∈ L4 := mo xb m_xb
    have m_Sl : Sl ∈ L4 := mo Sl m_Sl
    have nz_q38 : q38 ∉ L := nq_q38
    have nz_ce : ce ∉ L := nq_ce
    have nz_co : co ∉ L := nq_co
    have nz_cr : cr ∉ L := nq_cr
    have mono : ∀ b, b ∈ L → b ∈ L4 := fun b h => mo b (mono0 b h)
    have m_q38 := mq_q38
    have m_ce := mq_ce
    have m_co := mq_co
    have m_cr := mq_cr
    have e_Sl : f5 Sl = .inl (g 5, 30, .inr (.inr (.inr (.inr (va_up sf (Int32.toNatClampNeg md) (some q38)))))) := E_Sl
    have e_q38 : f5 q38 = .inr (4, [.ref ce, .ref co, .null, .int z12.1, .int z12.2.1, .int z12.2.2.1, .int z12.2.2.2.1]) := E_q38
    have e_ce : f5 ce = .inl (g 0, 4096, .inl z12.2.2.2.2.1) := E_ce
    have e_co : f5 co = .inr (0, [.ref cr, .int z12.2.2.2.2.2.1]) := E_co
    have e_cr : f5 cr = .inl (g 1, 1000, .inr (.inl z12.2.2.2.2.2.2)) := E_cr
    have n_ce_q38 : ce ≠ q38 := ne_ri e_q38 e_ce
    have n_co_q38 : co ≠ q38 := ne_rr e_q38 e_co (by decide)
    have n_cr_q38 : cr ≠ q38 := ne_ri e_q38 e_cr
    have n_q38_ce : q38 ≠ ce := ne_ir e_ce e_q38
    have n_co_ce : co ≠ ce := ne_ir e_ce e_co
    have n_cr_ce : cr ≠ ce := ne_len e_ce e_cr (by decide)
    have n_q38_co : q38 ≠ co := ne_rr e_co e_q38 (by decide)
    have n_ce_co : ce ≠ co := ne_ri e_co e_ce
    have n_cr_co : cr ≠ co := ne_ri e_co e_cr
    have n_q38_cr : q38 ≠ cr := ne_ir e_cr e_q38
    have n_ce_cr : ce ≠ cr := ne_len e_cr e_ce (by decide)
    have n_co_cr : co ≠ cr := ne_ir e_cr e_co
    replace ex12 := ex12.symm
    subst ex12
    refine W.eq (g2 := F0 m 15 ls [.ref q38]) rfl ?_
    refine lv_astore (lv' := [(5, .ref q38), (0, .ref xb), (1, .int k0), (2, .int k1), (3, .int k2), (4, .int k3)]) hx hb dX8_make_15 hl (by decide) rfl (fun ls hl => ?_)
    refine lv_aload hx hb dX8_make_17 (lv_at hl 0 rfl) ?_
    refine lv_ifnonnull (tgt := 25) hx hb dX8_make_19 (by decide) ?_
    refine lv_aload hx hb dX8_make_25 (lv_at hl 0 rfl) ?_
    refine lv_iload_n hx hb dX8_make_27 rfl (lv_at hl 2 rfl) ?_
    refine lv_iload_n hx hb dX8_make_28 rfl (lv_at hl 3 rfl) ?_
    refine lv_iload_n hx hb dX8_make_29 rfl (lv_at hl 2 rfl) ?_
    refine lv_iconst (v := (2 : Int32)) hx hb dX8_make_30 (by decide) ?_
    refine lv_icmp_ne (tgt := 38) hx hb dX8_make_31 (by decide) (fun b31 => ?_) (fun b31 => ?_)
    · have hM := itF b31 hM
      refine lv_iload_n hx hb dX8_make_38 rfl (lv_at hl 4 rfl) ?_
      refine lv_iload hx hb dX8_make_39 (lv_at hl 5 rfl) ?_
      obtain ⟨z41, hz41, hM⟩ := bind_some hM
      refine q_vv (As := [.int k0, .int k1, .int k2, .int k3]) (rest := []) ⟨hx, hb, hml, hown, hts⟩ (k_X6_begin l D g m_q38 e_q38 m_ce e_ce m_co e_co hz41) (cwV 4 hts gX8_make_X6_begin rfl rfl rfl (by decide +kernel) ⟨Nat.le_of_ble_eq_true rfl, Nat.le_of_ble_eq_true rfl⟩) S m_q38 e_q38 (T := TX6) (N := 7) rfl rfl hl.1 rfl (Nat.le_of_ble_eq_true rfl) dX8_make_41 ⟨Nat.le_of_ble_eq_true rfl, Nat.le_of_ble_eq_true rfl⟩ (fun L7 f8 H locs S w41 => ?_)
      obtain ⟨eL, fv41, E_q38, E_ce, E_co⟩ := w41
      rw [eL] at S
      have fr : ∀ b, b ∈ L → b ≠ xb → b ≠ Sl → f8 b = f b := fun b mb nb0 nb1 => (fv41 b (mono b mb) (fun h_ => nz_q38 (h_ ▸ mb)) (fun h_ => nz_ce (h_ ▸ mb)) (fun h_ => nz_co (h_ ▸ mb))).trans (fr b mb nb0 nb1)
      have e_q38 : f8 q38 = .inr (4, [.ref ce, .ref co, .null, .int z41.1, .int z41.2.1, .int z41.2.2.1, .int z41.2.2.2.1]) := E_q38
      have e_ce : f8 ce = .inl (g 0, 4096, .inl z41.2.2.2.2.1) := E_ce
      have e_co : f8 co = .inr (0, [.ref cr, .int z41.2.2.2.2.2]) := E_co
      refine lv_aload_n hx hb dX8_make_44 rfl (lv_at hl 1 rfl) ?_
      refine lv_dup hx hb dX8_make_45 rfl ?_
      have e_xb := ((fv41 xb m_xb n_xb_q38 n_xb_ce n_xb_co).trans e_xb)
      refine q_get hx hb hts in_X8 hown S m_xb e_xb (C := RX8) (T := TX8) (N := 8) rfl 7 (by decide) rfl (hts (.fieldLink RX8 84 "SieveCabinet" "made" "I") (gu_wsX8_make_1 _ gm_0)) dX8_make_46 ?_
      refine lv_dup_x1 hx hb dX8_make_49 rfl rfl ?_
      refine lv_iconst (v := (1 : Int32)) hx hb dX8_make_50 (by decide) ?_
      refine lv_iadd hx hb dX8_make_51 ?_
      refine k_put hx hb hts in_X8 tyX8 tyX8_ok nmX8 hown S m_xb e_xb (C := RX8) (T := TX8) (N := 8) rfl 7 (by decide) (hts (.fieldLink RX8 84 "SieveCabinet" "made" "I") (gu_wsX8_make_1 _ gm_0)) rfl rfl rfl (Nat.le_of_ble_eq_true rfl) dX8_make_52 (fun f10 ef10 H locs S => ?_)
      have e_xb : f10 xb = .inr (6, [.ref wo, .ref Sl, .ref dr, .ref ri, .ref th, .ref so, .ref ch, .int (md + (1 : Int32))]) := up_self ef10
      have fr : ∀ b, b ∈ L → b ≠ xb → b ≠ Sl → f10 b = f b := fun b mb nb0 nb1 => (up_ne ef10 nb0 rfl).trans (fr b mb nb0 nb1)
      have e_Sl := (up_ne ef10 n_Sl_xb ((fv41 Sl m_Sl n_Sl_q38 n_Sl_ce n_Sl_co).trans e_Sl))
      have e_q38 := (up_ne ef10 n_q38_xb e_q38)
      have e_ce := (up_ne ef10 n_ce_xb e_ce)
      have e_co := (up_ne ef10 n_co_xb e_co)
      have e_cr := (up_ne ef10 n_cr_xb ((fv41 cr m_cr n_cr_q38 n_cr_ce n_cr_co).trans e_cr))
      subst hQQ
      exact q_reti (post := fun x L1 f1 => ∃ q38 : Nat, ∃ ce : Nat, ∃ co : Nat, ∃ cr : Nat, x = z.1 ∧ (∀ b, b ∈ L → b ∈ L1) ∧ (∀ b, b ∈ L → b ≠ xb → b ≠ Sl → f1 b = f b) ∧ f1 xb = .inr (6, [.ref wo, .ref Sl, .ref dr, .ref ri, .ref th, .ref so, .ref ch, .int z.2.1]) ∧ f1 Sl = .inl (g 5, 30, .inr (.inr (.inr (.inr (va_up sf (Int32.toNatClampNeg md) (some q38)))))) ∧ (q38 ∉ L ∧ q38 ∈ L1 ∧ f1 q38 = .inr (4, [.ref ce, .ref co, .null, .int z.2.2.1, .int z.2.2.2.1, .int z.2.2.2.2.1, .int z.2.2.2.2.2.1])) ∧ (ce ∉ L ∧ ce ∈ L1 ∧ f1 ce = .inl (g 0, 4096, .inl z.2.2.2.2.2.2.1)) ∧ (co ∉ L ∧ co ∈ L1 ∧ f1 co = .inr (0, [.ref cr, .int z.2.2.2.2.2.2.2.1])) ∧ (cr ∉ L ∧ cr ∈ L1 ∧ f1 cr = .inl (g 1, 1000, .inr (.inl z.2.2.2.2.2.2.2.2)))) hx hb hr hlk S dX8_make_55 (by decide) (by decide) (by have hz := Option.some.inj hM; subst hz; exact ⟨q38, ce, co, cr, rfl, mono, fr, e_xb, e_Sl, ⟨nz_q38, m_q38, e_q38⟩, ⟨nz_ce, m_ce, e_ce⟩, ⟨nz_co, m_co, e_co⟩, ⟨nz_cr, m_cr, e_cr⟩⟩)
    · have hM := itT b31 hM
      refine lv_iconst (v := (0 : Int32)) hx hb dX8_make_34 (by decide) ?_
      refine lv_goto (tgt := 39) hx hb dX8_make_35 (by decide) ?_
      refine lv_iload hx hb dX8_make_39 (lv_at hl 5 rfl) ?_
      obtain ⟨z41, hz41, hM⟩ := bind_some hM
      refine q_vv (As := [.int k0, .int k1, .int (0 : Int32), .int k3]) (rest := []) ⟨hx, hb, hml, hown, hts⟩ (k_X6_begin l D g m_q38 e_q38 m_ce e_ce m_co e_co hz41) (cwV 4 hts gX8_make_X6_begin rfl rfl rfl (by decide +kernel) ⟨Nat.le_of_ble_eq_true rfl, Nat.le_of_ble_eq_true rfl⟩) S m_q38 e_q38 (T := TX6) (N := 7) rfl rfl hl.1 rfl (Nat.le_of_ble_eq_true rfl) dX8_make_41 ⟨Nat.le_of_ble_eq_true rfl, Nat.le_of_ble_eq_true rfl⟩ (fun L11 f12 H locs S w41 => ?_)
      obtain ⟨eL, fv41, E_q38, E_ce, E_co⟩ := w41
      rw [eL] at S
      have fr : ∀ b, b ∈ L → b ≠ xb → b ≠ Sl → f12 b = f b := fun b mb nb0 nb1 => (fv41 b (mono b mb) (fun h_ => nz_q38 (h_ ▸ mb)) (fun h_ => nz_ce (h_ ▸ mb)) (fun h_ => nz_co (h_ ▸ mb))).trans (fr b mb nb0 nb1)
      have e_q38 : f12 q38 = .inr (4, [.ref ce, .ref co, .null, .int z41.1, .int z41.2.1, .int z41.2.2.1, .int z41.2.2.2.1]) := E_q38
      have e_ce : f12 ce = .inl (g 0, 4096, .inl z41.2.2.2.2.1) := E_ce
      have e_co : f12 co = .inr (0, [.ref cr, .int z41.2.2.2.2.2]) := E_co
      refine lv_aload_n hx hb dX8_make_44 rfl (lv_at hl 1 rfl) ?_
      refine lv_dup hx hb dX8_make_45 rfl ?_
      have e_xb := ((fv41 xb m_xb n_xb_q38 n_xb_ce n_xb_co).trans e_xb)
      refine q_get hx hb hts in_X8 hown S m_xb e_xb (C := RX8) (T := TX8) (N := 8) rfl 7 (by decide) rfl (hts (.fieldLink RX8 84 "SieveCabinet" "made" "I") (gu_wsX8_make_1 _ gm_0)) dX8_make_46 ?_
      refine lv_dup_x1 hx hb dX8_make_49 rfl rfl ?_
      refine lv_iconst (v := (1 : Int32)) hx hb dX8_make_50 (by decide) ?_
      refine lv_iadd hx hb dX8_make_51 ?_
      refine k_put hx hb hts in_X8 tyX8 tyX8_ok nmX8 hown S m_xb e_xb (C := RX8) (T := TX8) (N := 8) rfl 7 (by decide) (hts (.fieldLink RX8 84 "SieveCabinet" "made" "I") (gu_wsX8_make_1 _ gm_0)) rfl rfl rfl (Nat.le_of_ble_eq_true rfl) dX8_make_52 (fun f14 ef14 H locs S => ?_)
      have e_xb : f14 xb = .inr (6, [.ref wo, .ref Sl, .ref dr, .ref ri, .ref th, .ref so, .ref ch, .int (md + (1 : Int32))]) := up_self ef14
      have fr : ∀ b, b ∈ L → b ≠ xb → b ≠ Sl → f14 b = f b := fun b mb nb0 nb1 => (up_ne ef14 nb0 rfl).trans (fr b mb nb0 nb1)
      have e_Sl := (up_ne ef14 n_Sl_xb ((fv41 Sl m_Sl n_Sl_q38 n_Sl_ce n_Sl_co).trans e_Sl))
      have e_q38 := (up_ne ef14 n_q38_xb e_q38)
      have e_ce := (up_ne ef14 n_ce_xb e_ce)
      have e_co := (up_ne ef14 n_co_xb e_co)
      have e_cr := (up_ne ef14 n_cr_xb ((fv41 cr m_cr n_cr_q38 n_cr_ce n_cr_co).trans e_cr))
      subst hQQ
      exact q_reti (post := fun x L1 f1 => ∃ q38 : Nat, ∃ ce : Nat, ∃ co : Nat, ∃ cr : Nat, x = z.1 ∧ (∀ b, b ∈ L → b ∈ L1) ∧ (∀ b, b ∈ L → b ≠ xb → b ≠ Sl → f1 b = f b) ∧ f1 xb = .inr (6, [.ref wo, .ref Sl, .ref dr, .ref ri, .ref th, .ref so, .ref ch, .int z.2.1]) ∧ f1 Sl = .inl (g 5, 30, .inr (.inr (.inr (.inr (va_up sf (Int32.toNatClampNeg md) (some q38)))))) ∧ (q38 ∉ L ∧ q38 ∈ L1 ∧ f1 q38 = .inr (4, [.ref ce, .ref co, .null, .int z.2.2.1, .int z.2.2.2.1, .int z.2.2.2.2.1, .int z.2.2.2.2.2.1])) ∧ (ce ∉ L ∧ ce ∈ L1 ∧ f1 ce = .inl (g 0, 4096, .inl z.2.2.2.2.2.2.1)) ∧ (co ∉ L ∧ co ∈ L1 ∧ f1 co = .inr (0, [.ref cr, .int z.2.2.2.2.2.2.2.1])) ∧ (cr ∉ L ∧ cr ∈ L1 ∧ f1 cr = .inl (g 1, 1000, .inr (.inl z.2.2.2.2.2.2.2.2)))) hx hb hr hlk S dX8_make_55 (by decide) (by decide) (by have hz := Option.some.inj hM; subst hz; exact ⟨q38, ce, co, cr, rfl, mono, fr, e_xb, e_Sl, ⟨nz_q38, m_q38, e_q38⟩, ⟨nz_ce, m_ce, e_ce⟩, ⟨nz_co, m_co, e_co⟩, ⟨nz_cr, m_cr, e_cr⟩⟩)
  · have hM := itT b6 hM
    refine lv_iconst (v := (-1 : Int32)) hx hb dX8_make_9 (by decide) ?_
    exact no_some hM
