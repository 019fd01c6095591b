def mX8_joinR (ho : Int32) (akd : Int32) (asz : Int32) (amk : Int32) (asd : Int32) (bkd : Int32) (bsz : Int32) (bmk : Int32) (bsd : Int32) : Option (Int32) := if ho < 0 then (some (-1 : Int32)) else (if ho ≤ (1 : Int32) then ((mX6_isMarkedLike akd asz amk asd bkd bsz bmk bsd).bind fun z39 => if z39 = 0 then (some (-2 : Int32)) else none) else (some (-1 : Int32)))
set_option maxHeartbeats 4000000 in
set_option maxRecDepth 100000 in
theorem k_X8_joinR (l : Launch) (D : va_G) (g : Nat → ClassId) {L : List Nat} {f : Nat → va_E} {Sl ace aco ah bce bco bh ch dr ri so th wo xb : Nat} {md : Int32} {sf : Nat → Option Nat} {ho : Int32} {aq : Int32} {bq : Int32} {alay : Value} {akd : Int32} {asz : Int32} {amk : Int32} {asd : Int32} {blay : Value} {bkd : Int32} {bsz : Int32} {bmk : Int32} {bsd : Int32} {z : Int32} (m_xb : xb ∈ L) (e_xb : f xb = .inr (6, [.ref wo, .ref Sl, .ref dr, .ref ri, .ref th, .ref so, .ref ch, .int md])) (m_Sl : Sl ∈ L) (e_Sl : f Sl = .inl (g 5, 30, .inr (.inr (.inr (.inr sf))))) (m_ah : ah ∈ L) (e_ah : f ah = .inr (4, [.ref ace, .ref aco, alay, .int akd, .int asz, .int amk, .int asd])) (m_bh : bh ∈ L) (e_bh : f bh = .inr (4, [.ref bce, .ref bco, blay, .int bkd, .int bsz, .int bmk, .int bsd]))   (hs2 : mX8_sieveAt md sf aq = some (some ah)) (hs9 : mX8_sieveAt md sf bq = some (some bh)) (hM : mX8_joinR ho akd asz amk asd bkd bsz bmk bsd = some z) : cI l yX8_join wsX8_join { frames := 1, cells := 0, slots := 0, locals := 21 } D g [.ref xb, .int ho, .int aq, .int bq] L f 0 0 (fun x L1 f1 => x = z ∧ L1 = L ∧ f1 = f) := by
  refine cI_of (cc := cX8_join) (maxL := 8) (ret := (some .int)) (by decide) rfl (Nat.le_of_ble_eq_true rfl) ?_
  intro szz p e s m below meth c hx hb hr hml hts hown hlk hnm S ls hl
  have hl : lv_has ls 8 [(0, .ref xb), (1, .int ho), (2, .int aq), (3, .int bq)] := hl
  unfold mX8_joinR at hM
  refine W_gen (fun QQ hQQ => ?_)
  refine lv_aload_n hx hb dX8_join_0 rfl (lv_at hl 0 rfl) ?_
  refine lv_iload_n hx hb dX8_join_1 rfl (lv_at hl 2 rfl) ?_
  refine q_vq (As := [.int aq]) (rest := []) ⟨hx, hb, hml, hown, hts⟩ (k_X8_sieveAt l D g m_xb e_xb m_Sl e_Sl hs2) (cwV 1 hts gX8_join_X8_sieveAt rfl rfl rfl (by decide +kernel) ⟨Nat.le_of_ble_eq_true rfl, Nat.le_of_ble_eq_true rfl⟩) S m_xb e_xb (T := TX8) (N := 8) rfl rfl hl.1 rfl (Nat.le_of_ble_eq_true rfl) dX8_join_2 ⟨Nat.le_of_ble_eq_true rfl, Nat.le_of_ble_eq_true rfl⟩ (fun r3 L1 f2 H locs S w2 => ?_)
  obtain ⟨ex, eL, ef⟩ := w2
  rw [eL, ef] at S
  replace ex := ex.symm
  subst ex
  refine W.eq (g2 := F0 m 5 ls [.ref ah]) rfl ?_
  refine lv_astore (lv' := [(4, .ref ah), (0, .ref xb), (1, .int ho), (2, .int aq), (3, .int bq)]) hx hb dX8_join_5 hl (by decide) rfl (fun ls hl => ?_)
  refine lv_aload_n hx hb dX8_join_7 rfl (lv_at hl 1 rfl) ?_
  refine lv_iload_n hx hb dX8_join_8 rfl (lv_at hl 4 rfl) ?_
  refine q_vq (As := [.int bq]) (rest := []) ⟨hx, hb, hml, hown, hts⟩ (k_X8_sieveAt l D g m_xb e_xb m_Sl e_Sl hs9) (cwV 1 hts gX8_join_X8_sieveAt rfl rfl rfl (by decide +kernel) ⟨Nat.le_of_ble_eq_true rfl, Nat.le_of_ble_eq_true rfl⟩) S m_xb e_xb (T := TX8) (N := 8) rfl rfl hl.1 rfl (Nat.le_of_ble_eq_true rfl) dX8_join_9 ⟨Nat.le_of_ble_eq_true rfl, Nat.le_of_ble_eq_true rfl⟩ (fun r6 L4 f5 H locs S w9 => ?_)
  obtain ⟨ex, eL, ef⟩ := w9
  rw [eL, ef] at S
  replace ex := ex.symm
  subst ex
  refine W.eq (g2 := F0 m 12 ls [.ref bh]) rfl ?_
  refine lv_astore (lv' := [(5, .ref bh), (4, .ref ah), (0, .ref xb), (1, .int ho), (2, .int aq), (3, .int bq)]) hx hb dX8_join_12 hl (by decide) rfl (fun ls hl => ?_)
  refine lv_aload hx hb dX8_join_14 (lv_at hl 1 rfl) ?_
  refine lv_ifnull hx hb dX8_join_16 ?_
  refine lv_aload hx hb dX8_join_19 (lv_at hl 0 rfl) ?_
  refine lv_ifnull hx hb dX8_join_21 ?_
  refine lv_iload_n hx hb dX8_join_24 rfl (lv_at hl 3 rfl) ?_
  refine lv_if_lt (tgt := 33) hx hb dX8_join_25 (by decide) (fun b25 => ?_) (fun b25 => ?_)
  · have hM := itT b25 hM
    refine lv_iconst (v := (-1 : Int32)) hx hb dX8_join_33 (by decide) ?_
    subst hQQ
    exact q_reti (post := fun x L1 f1 => x = z ∧ L1 = L ∧ f1 = f) hx hb hr hlk S dX8_join_34 (by decide) (by decide) (by have hz := Option.some.inj hM; subst hz; exact ⟨rfl, rfl, rfl⟩)
  · have hM := itF b25 hM
    refine lv_iload_n hx hb dX8_join_28 rfl (lv_at hl 3 rfl) ?_
    refine lv_iconst (v := (1 : Int32)) hx hb dX8_join_29 (by decide) ?_
    refine lv_icmp_le (tgt := 35) hx hb dX8_join_30 (by decide) (fun b30 => ?_) (fun b30 => ?_)
    · have hM := itT b30 hM
      refine lv_aload hx hb dX8_join_35 (lv_at hl 1 rfl) ?_
      refine lv_aload hx hb dX8_join_37 (lv_at hl 0 rfl) ?_
      obtain ⟨z39, hz39, hM⟩ := bind_some hM
      refine q_vi (As := [.ref bh]) (rest := []) ⟨hx, hb, hml, hown, hts⟩ (k_X6_isMarkedLike l D g m_ah e_ah m_bh e_bh hz39) (cwV 1 hts gX8_join_X6_isMarkedLike rfl rfl rfl (by decide +kernel) ⟨Nat.le_of_ble_eq_true rfl, Nat.le_of_ble_eq_true rfl⟩) S m_ah e_ah (T := TX6) (N := 7) rfl rfl hl.1 rfl (Nat.le_of_ble_eq_true rfl) dX8_join_39 ⟨Nat.le_of_ble_eq_true rfl, Nat.le_of_ble_eq_true rfl⟩ (fun r9 L7 f8 H locs S w39 => ?_)
      obtain ⟨ex39, eL, ef⟩ := w39
      rw [eL, ef] at S
      replace ex39 := ex39.symm
      subst ex39
      refine lv_if_ne (tgt := 48) hx hb dX8_join_42 (by decide) (fun b42 => ?_) (fun b42 => ?_)
      · have hM := itF b42 hM
        refine lv_aload_n hx hb dX8_join_48 rfl (lv_at hl 2 rfl) ?_
        exact no_some hM
      · have hM := itT b42 hM
        refine lv_bipush (v := (-2 : Int32)) hx hb dX8_join_45 (by decide) ?_
        subst hQQ
        exact q_reti (post := fun x L1 f1 => x = z ∧ L1 = L ∧ f1 = f) hx hb hr hlk S dX8_join_47 (by decide) (by decide) (by have hz := Option.some.inj hM; subst hz; exact ⟨rfl, rfl, rfl⟩)
    · have hM := itF b30 hM
      refine lv_iconst (v := (-1 : Int32)) hx hb dX8_join_33 (by decide) ?_
      subst hQQ
      exact q_reti (post := fun x L1 f1 => x = z ∧ L1 = L ∧ f1 = f) hx hb hr hlk S dX8_join_34 (by decide) (by decide) (by have hz := Option.some.inj hM; subst hz; exact ⟨rfl, rfl, rfl⟩)

def mX8_foldR (akd : Int32) (asz : Int32) : Option (Int32) := if akd = 0 then (if (8 : Int32) < asz then none else (some (-2 : Int32))) else (some (-2 : Int32))
set_option maxHeartbeats 4000000 in
set_option maxRecDepth 100000 in
theorem k_X8_foldR (l : Launch) (D : va_G) (g : Nat → ClassId) {L : List Nat} {f : Nat → va_E} {Sl ace aco ah ch dr ri so th wo xb : Nat} {md : Int32} {sf : Nat → Option Nat} {aq : Int32} {alay : Value} {akd : Int32} {asz : Int32} {amk : Int32} {asd : Int32} {z : Int32} (m_xb : xb ∈ L) (e_xb : f xb = .inr (6, [.ref wo, .ref Sl, .ref dr, .ref ri, .ref th, .ref so, .ref ch, .int md])) (m_Sl : Sl ∈ L) (e_Sl : f Sl = .inl (g 5, 30, .inr (.inr (.inr (.inr sf))))) (m_ah : ah ∈ L) (e_ah : f ah = .inr (4, [.ref ace, .ref aco, alay, .int akd, .int asz, .int amk, .int asd]))   (hs2 : mX8_sieveAt md sf aq = some (some ah)) (hM : mX8_foldR akd asz = some z) : cI l yX8_fold wsX8_fold { frames := 1, cells := 0, slots := 0, locals := 21 } D g [.ref xb, .int aq] L f 0 0 (fun x L1 f1 => x = z ∧ L1 = L ∧ f1 = f) := by
  refine cI_of (cc := cX8_fold) (maxL := 4) (ret := (some .int)) (by decide) rfl (Nat.le_of_ble_eq_true rfl) ?_
  intro szz p e s m below meth c hx hb hr hml hts hown hlk hnm S ls hl
  have hl : lv_has ls 4 [(0, .ref xb), (1, .int aq)] := hl
  have in_X6 : ∀ w ∈ wsX60, w ∈ wsX8_fold := by decide +kernel
  unfold mX8_foldR at hM
  refine W_gen (fun QQ hQQ => ?_)
  refine lv_aload_n hx hb dX8_fold_0 rfl (lv_at hl 0 rfl) ?_
  refine lv_iload_n hx hb dX8_fold_1 rfl (lv_at hl 1 rfl) ?_
  refine q_vq (As := [.int aq]) (rest := []) ⟨hx, hb, hml, hown, hts⟩ (k_X8_sieveAt l D g m_xb e_xb m_Sl e_Sl hs2) (cwV 1 hts gX8_fold_X8_sieveAt rfl rfl rfl (by decide +kernel) ⟨Nat.le_of_ble_eq_true rfl, Nat.le_of_ble_eq_true rfl⟩) S m_xb e_xb (T := TX8) (N := 8) rfl rfl hl.1 rfl (Nat.le_of_ble_eq_true rfl) dX8_fold_2 ⟨Nat.le_of_ble_eq_true rfl, Nat.le_of_ble_eq_true rfl⟩ (fun r3 L1 f2 H locs S w2 => ?_)
  obtain ⟨ex, eL, ef⟩ := w2
  rw [eL, ef] at S
  replace ex := ex.symm
  subst ex
  refine W.eq (g2 := F0 m 5 ls [.ref ah]) rfl ?_
  refine lv_astore_n (lv' := [(2, .ref ah), (0, .ref xb), (1, .int aq)]) hx hb dX8_fold_5 rfl hl (by decide) rfl (fun ls hl => ?_)
  refine lv_aload_n hx hb dX8_fold_6 rfl (lv_at hl 0 rfl) ?_
  refine lv_ifnonnull (tgt := 12) hx hb dX8_fold_7 (by decide) ?_
  refine lv_aload_n hx hb dX8_fold_12 rfl (lv_at hl 0 rfl) ?_
  refine q_getN hx hb hts in_X6 hown S m_ah e_ah (C := RX6) (T := TX6) (N := 7) rfl 3 (by decide) rfl (by decide) dX8_fold_13 ?_
  refine lv_if_ne (tgt := 28) hx hb dX8_fold_16 (by decide) (fun b16 => ?_) (fun b16 => ?_)
  · have hM := itF b16 hM
    refine lv_bipush (v := (-2 : Int32)) hx hb dX8_fold_28 (by decide) ?_
    subst hQQ
    exact q_reti (post := fun x L1 f1 => x = z ∧ L1 = L ∧ f1 = f) hx hb hr hlk S dX8_fold_30 (by decide) (by decide) (by have hz := Option.some.inj hM; subst hz; exact ⟨rfl, rfl, rfl⟩)
  · have hM := itT b16 hM
    refine lv_aload_n hx hb dX8_fold_19 rfl (lv_at hl 0 rfl) ?_
    refine q_getN hx hb hts in_X6 hown S m_ah e_ah (C := RX6) (T := TX6) (N := 7) rfl 4 (by decide) rfl (by decide) dX8_fold_20 ?_
    refine lv_bipush (v := (8 : Int32)) hx hb dX8_fold_23 (by decide) ?_
    refine lv_icmp_gt (tgt := 31) hx hb dX8_fold_25 (by decide) (fun b25 => ?_) (fun b25 => ?_)
    · have hM := itT b25 hM
      refine lv_aload_n hx hb dX8_fold_31 rfl (lv_at hl 1 rfl) ?_
      exact no_some hM
    · have hM := itF b25 hM
      refine lv_bipush (v := (-2 : Int32)) hx hb dX8_fold_28 (by decide) ?_
      subst hQQ
      exact q_reti (post := fun x L1 f1 => x = z ∧ L1 = L ∧ f1 = f) hx hb hr hlk S dX8_fold_30 (by decide) (by decide) (by have hz := Option.some.inj hM; subst hz; exact ⟨rfl, rfl, rfl⟩)

def mX8_joinX (md : Int32) (ho : Int32) (akd : Int32) (asz : Int32) (amk : Int32) (asd : Int32) (bkd : Int32) (bsz : Int32) (bmk : Int32) (bsd : Int32) : Option (Int32) := if ho < 0 then (some (-1 : Int32)) else (if ho ≤ (1 : Int32) then ((mX6_isMarkedLike akd asz amk asd bkd bsz bmk bsd).bind fun z39 => if z39 = 0 then (some (-2 : Int32)) else ((mX8_nextSlotN md).bind fun z49 => if ho = (1 : Int32) then (some (-4 : Int32)) else (some (-4 : Int32)))) else (some (-1 : Int32)))
set_option maxHeartbeats 4000000 in
set_option maxRecDepth 100000 in
theorem k_X8_joinX (l : Launch) (D : va_G) (g : Nat → ClassId) {L : List Nat} {f : Nat → va_E} {Sl ace aco ah bce bco bh ch dr ri so th wo xb : Nat} {md : Int32} {sf : Nat → Option Nat} {ho : Int32} {aq : Int32} {bq : Int32} {alay : Value} {akd : Int32} {asz : Int32} {amk : Int32} {asd : Int32} {blay : Value} {bkd : Int32} {bsz : Int32} {bmk : Int32} {bsd : Int32} {z : Int32} (m_xb : xb ∈ L) (e_xb : f xb = .inr (6, [.ref wo, .ref Sl, .ref dr, .ref ri, .ref th, .ref so, .ref ch, .int md])) (m_Sl : Sl ∈ L) (e_Sl : f Sl = .inl (g 5, 30, .inr (.inr (.inr (.inr sf))))) (m_ah : ah ∈ L) (e_ah : f ah = .inr (4, [.ref ace, .ref aco, alay, .int akd, .int asz, .int amk, .int asd])) (m_bh : bh ∈ L) (e_bh : f bh = .inr (4, [.ref bce, .ref bco, blay, .int bkd, .int bsz, .int bmk, .int bsd]))   (hs2 : mX8_sieveAt md sf aq = some (some ah)) (hs9 : mX8_sieveAt md sf bq = some (some bh)) (hM : mX8_joinX md ho akd asz amk asd bkd bsz bmk bsd = some z) : cI l yX8_join wsX8_join { frames := 1, cells := 0, slots := 0, locals := 21 } D g [.ref xb, .int ho, .int aq, .int bq] L f 0 0 (fun x L1 f1 => x = z ∧ L1 = L ∧ f1 = f) := by
  refine cI_of (cc := cX8_join) (maxL := 8) (ret := (some .int)) (by decide) rfl (Nat.le_of_ble_eq_true rfl) ?_
  intro szz p e s m below meth c hx hb hr hml hts hown hlk hnm S ls hl
  have hl : lv_has ls 8 [(0, .ref xb), (1, .int ho), (2, .int aq), (3, .int bq)] := hl
  unfold mX8_joinX at hM
  refine W_gen (fun QQ hQQ => ?_)
  refine lv_aload_n hx hb dX8_join_0 rfl (lv_at hl 0 rfl) ?_
  refine lv_iload_n hx hb dX8_join_1 rfl (lv_at hl 2 rfl) ?_
  refine q_vq (As := [.int aq]) (rest := []) ⟨hx, hb, hml, hown, hts⟩ (k_X8_sieveAt l D g m_xb e_xb m_Sl e_Sl hs2) (cwV 1 hts gX8_join_X8_sieveAt rfl rfl rfl (by decide +kernel) ⟨Nat.le_of_ble_eq_true rfl, Nat.le_of_ble_eq_true rfl⟩) S m_xb e_xb (T := TX8) (N := 8) rfl rfl hl.1 rfl (Nat.le_of_ble_eq_true rfl) dX8_join_2 ⟨Nat.le_of_ble_eq_true rfl, Nat.le_of_ble_eq_true rfl⟩ (fun r3 L1 f2 H locs S w2 => ?_)
  obtain ⟨ex, eL, ef⟩ := w2
  rw [eL, ef] at S
  replace ex := ex.symm
  subst ex
  refine W.eq (g2 := F0 m 5 ls [.ref ah]) rfl ?_
  refine lv_astore (lv' := [(4, .ref ah), (0, .ref xb), (1, .int ho), (2, .int aq), (3, .int bq)]) hx hb dX8_join_5 hl (by decide) rfl (fun ls hl => ?_)
  refine lv_aload_n hx hb dX8_join_7 rfl (lv_at hl 1 rfl) ?_
  refine lv_iload_n hx hb dX8_join_8 rfl (lv_at hl 4 rfl) ?_
  refine q_vq (As := [.int bq]) (rest := []) ⟨hx, hb, hml, hown, hts⟩ (k_X8_sieveAt l D g m_xb e_xb m_Sl e_Sl hs9) (cwV 1 hts gX8_join_X8_sieveAt rfl rfl rfl (by decide +kernel) ⟨Nat.le_of_ble_eq_true rfl, Nat.le_of_ble_eq_true rfl⟩) S m_xb e_xb (T := TX8) (N := 8) rfl rfl hl.1 rfl (Nat.le_of_ble_eq_true rfl) dX8_join_9 ⟨Nat.le_of_ble_eq_true rfl, Nat.le_of_ble_eq_true rfl⟩ (fun r6 L4 f5 H locs S w9 => ?_)
  obtain ⟨ex, eL, ef⟩ := w9
  rw [eL, ef] at S
  replace ex := ex.symm
  subst ex
  refine W.eq (g2 := F0 m 12 ls [.ref bh]) rfl ?_
  refine lv_astore (lv' := [(5, .ref bh), (4, .ref ah), (0, .ref xb), (1, .int ho), (2, .int aq), (3, .int bq)]) hx hb dX8_join_12 hl (by decide) rfl (fun ls hl => ?_)
  refine lv_aload hx hb dX8_join_14 (lv_at hl 1 rfl) ?_
  refine lv_ifnull hx hb dX8_join_16 ?_
  refine lv_aload hx hb dX8_join_19 (lv_at hl 0 rfl) ?_
  refine lv_ifnull hx hb dX8_join_21 ?_
  refine lv_iload_n hx hb dX8_join_24 rfl (lv_at hl 3 rfl) ?_
  refine lv_if_lt (tgt := 33) hx hb dX8_join_25 (by decide) (fun b25 => ?_) (fun b25 => ?_)
  · have hM := itT b25 hM
    refine lv_iconst (v := (-1 : Int32)) hx hb dX8_join_33 (by decide) ?_
    subst hQQ
    exact q_reti (post := fun x L1 f1 => x = z ∧ L1 = L ∧ f1 = f) hx hb hr hlk S dX8_join_34 (by decide) (by decide) (by have hz := Option.some.inj hM; subst hz; exact ⟨rfl, rfl, rfl⟩)
  · have hM := itF b25 hM
    refine lv_iload_n hx hb dX8_join_28 rfl (lv_at hl 3 rfl) ?_
    refine lv_iconst (v := (1 : Int32)) hx hb dX8_join_29 (by decide) ?_
    refine lv_icmp_le (tgt := 35) hx hb dX8_join_30 (by decide) (fun b30 => ?_) (fun b30 => ?_)
    · have hM := itT b30 hM
      refine lv_aload hx hb dX8_join_35 (lv_at hl 1 rfl) ?_
      refine lv_aload hx hb dX8_join_37 (lv_at hl 0 rfl) ?_
      obtain ⟨z39, hz39, hM⟩ := bind_some hM
      refine q_vi (As := [.ref bh]) (rest := []) ⟨hx, hb, hml, hown, hts⟩ (k_X6_isMarkedLike l D g m_ah e_ah m_bh e_bh hz39) (cwV 1 hts gX8_join_X6_isMarkedLike rfl rfl rfl (by decide +kernel) ⟨Nat.le_of_ble_eq_true rfl, Nat.le_of_ble_eq_true rfl⟩) S m_ah e_ah (T := TX6) (N := 7) rfl rfl hl.1 rfl (Nat.le_of_ble_eq_true rfl) dX8_join_39 ⟨Nat.le_of_ble_eq_true rfl, Nat.le_of_ble_eq_true rfl⟩ (fun r9 L7 f8 H locs S w39 => ?_)
      obtain ⟨ex39, eL, ef⟩ := w39
      rw [eL, ef] at S
      replace ex39 := ex39.symm
      subst ex39
      refine lv_if_ne (tgt := 48) hx hb dX8_join_42 (by decide) (fun b42 => ?_) (fun b42 => ?_)
      · have hM := itF b42 hM
        refine lv_aload_n hx hb dX8_join_48 rfl (lv_at hl 2 rfl) ?_
        obtain ⟨z49, hz49, hM⟩ := bind_some hM
        refine q_vq (As := []) (rest := []) ⟨hx, hb, hml, hown, hts⟩ (k_X8_nextSlotN l D g m_xb e_xb m_Sl e_Sl hz49) (cwV 0 hts gX8_join_X8_nextSlot rfl rfl rfl (by decide +kernel) ⟨Nat.le_of_ble_eq_true rfl, Nat.le_of_ble_eq_true rfl⟩) S m_xb e_xb (T := TX8) (N := 8) rfl rfl hl.1 rfl (Nat.le_of_ble_eq_true rfl) dX8_join_49 ⟨Nat.le_of_ble_eq_true rfl, Nat.le_of_ble_eq_true rfl⟩ (fun r12 L10 f11 H locs S w49 => ?_)
        obtain ⟨ex49, eL, ef⟩ := w49
        rw [eL, ef] at S
        replace ex49 := ex49.symm
        subst ex49
        refine W.eq (g2 := F0 m 52 ls [.null]) rfl ?_
        refine lv_astoreN (lv' := [(6, .null), (5, .ref bh), (4, .ref ah), (0, .ref xb), (1, .int ho), (2, .int aq), (3, .int bq)]) hx hb dX8_join_52 hl (by decide) rfl (fun ls hl => ?_)
        refine lv_iload_n hx hb dX8_join_54 rfl (lv_at hl 4 rfl) ?_
        refine lv_iconst (v := (1 : Int32)) hx hb dX8_join_55 (by decide) ?_
        refine lv_icmp_ne (tgt := 63) hx hb dX8_join_56 (by decide) (fun b56 => ?_) (fun b56 => ?_)
        · have hM := itF b56 hM
          refine lv_iconst (v := (0 : Int32)) hx hb dX8_join_63 (by decide) ?_
          refine lv_istore (lv' := [(7, .int (0 : Int32)), (6, .null), (5, .ref bh), (4, .ref ah), (0, .ref xb), (1, .int ho), (2, .int aq), (3, .int bq)]) hx hb dX8_join_64 hl (by decide) rfl (fun ls hl => ?_)
          refine lv_aloadN hx hb dX8_join_66 (lv_at hl 1 rfl) ?_
          refine lv_ifnullN (tgt := 99) hx hb dX8_join_68 (by decide) ?_
          refine lv_bipush (v := (-4 : Int32)) hx hb dX8_join_99 (by decide) ?_
          subst hQQ
          exact q_reti (post := fun x L1 f1 => x = z ∧ L1 = L ∧ f1 = f) hx hb hr hlk S dX8_join_101 (by decide) (by decide) (by have hz := Option.some.inj hM; subst hz; exact ⟨rfl, rfl, rfl⟩)
        · have hM := itT b56 hM
          refine lv_iconst (v := (1 : Int32)) hx hb dX8_join_59 (by decide) ?_
          refine lv_goto (tgt := 64) hx hb dX8_join_60 (by decide) ?_
          refine lv_istore (lv' := [(7, .int (1 : Int32)), (6, .null), (5, .ref bh), (4, .ref ah), (0, .ref xb), (1, .int ho), (2, .int aq), (3, .int bq)]) hx hb dX8_join_64 hl (by decide) rfl (fun ls hl => ?_)
          refine lv_aloadN hx hb dX8_join_66 (lv_at hl 1 rfl) ?_
          refine lv_ifnullN (tgt := 99) hx hb dX8_join_68 (by decide) ?_
          refine lv_bipush (v := (-4 : Int32)) hx hb dX8_join_99 (by decide) ?_
          subst hQQ
          exact q_reti (post := fun x L1 f1 => x = z ∧ L1 = L ∧ f1 = f) hx hb hr hlk S dX8_join_101 (by decide) (by decide) (by have hz := Option.some.inj hM; subst hz; exact ⟨rfl, rfl, rfl⟩)
      · have hM := itT b42 hM
        refine lv_bipush (v := (-2 : Int32)) hx hb dX8_join_45 (by decide) ?_
        subst hQQ
        exact q_reti (post := fun x L1 f1 => x = z ∧ L1 = L ∧ f1 = f) hx hb hr hlk S dX8_join_47 (by decide) (by decide) (by have hz := Option.some.inj hM; subst hz; exact ⟨rfl, rfl, rfl⟩)
    · have hM := itF b30 hM
      refine lv_iconst (v := (-1 : Int32)) hx hb dX8_join_33 (by decide) ?_
      subst hQQ
      exact q_reti (post := fun x L1 f1 => x = z ∧ L1 = L ∧ f1 = f) hx hb hr hlk S dX8_join_34 (by decide) (by decide) (by have hz := Option.some.inj hM; subst hz; exact ⟨rfl, rfl, rfl⟩)

def mX8_foldX (md : Int32) (akd : Int32) (asz : Int32) : Option (Int32) := if akd = 0 then (if (8 : Int32) < asz then ((mX8_nextSlotN md).bind fun z32 => some (-4 : Int32)) else (some (-2 : Int32))) else (some (-2 : Int32))
set_option maxHeartbeats 4000000 in
set_option maxRecDepth 100000 in
theorem k_X8_foldX (l : Launch) (D : va_G) (g : Nat → ClassId) {L : List Nat} {f : Nat → va_E} {Sl ace aco ah ch dr ri so th wo xb : Nat} {md : Int32} {sf : Nat → Option Nat} {aq : Int32} {alay : Value} {akd : Int32} {asz : Int32} {amk : Int32} {asd : Int32} {z : Int32} (m_xb : xb ∈ L) (e_xb : f xb = .inr (6, [.ref wo, .ref Sl, .ref dr, .ref ri, .ref th, .ref so, .ref ch, .int md])) (m_Sl : Sl ∈ L) (e_Sl : f Sl = .inl (g 5, 30, .inr (.inr (.inr (.inr sf))))) (m_ah : ah ∈ L) (e_ah : f ah = .inr (4, [.ref ace, .ref aco, alay, .int akd, .int asz, .int amk, .int asd]))   (hs2 : mX8_sieveAt md sf aq = some (some ah)) (hM : mX8_foldX md akd asz = some z) : cI l yX8_fold wsX8_fold { frames := 1, cells := 0, slots := 0, locals := 21 } D g [.ref xb, .int aq] L f 0 0 (fun x L1 f1 => x = z ∧ L1 = L ∧ f1 = f) := by
  refine cI_of (cc := cX8_fold) (maxL := 4) (ret := (some .int)) (by decide) rfl (Nat.le_of_ble_eq_true rfl) ?_
  intro szz p e s m below meth c hx hb hr hml hts hown hlk hnm S ls hl
  have hl : lv_has ls 4 [(0, .ref xb), (1, .int aq)] := hl
  have in_X6 : ∀ w ∈ wsX60, w ∈ wsX8_fold := by decide +kernel
  unfold mX8_foldX at hM
  refine W_gen (fun QQ hQQ => ?_)
  refine lv_aload_n hx hb dX8_fold_0 rfl (lv_at hl 0 rfl) ?_
  refine lv_iload_n hx hb dX8_fold_1 rfl (lv_at hl 1 rfl) ?_
  refine q_vq (As := [.int aq]) (rest := []) ⟨hx, hb, hml, hown, hts⟩ (k_X8_sieveAt l D g m_xb e_xb m_Sl e_Sl hs2) (cwV 1 hts gX8_fold_X8_sieveAt rfl rfl rfl (by decide +kernel) ⟨Nat.le_of_ble_eq_true rfl, Nat.le_of_ble_eq_true rfl⟩) S m_xb e_xb (T := TX8) (N := 8) rfl rfl hl.1 rfl (Nat.le_of_ble_eq_true rfl) dX8_fold_2 ⟨Nat.le_of_ble_eq_true rfl, Nat.le_of_ble_eq_true rfl⟩ (fun r3 L1 f2 H locs S w2 => ?_)
  obtain ⟨ex, eL, ef⟩ := w2
  rw [eL, ef] at S
  replace ex := ex.symm
  subst ex
  refine W.eq (g2 := F0 m 5 ls [.ref ah]) rfl ?_
  refine lv_astore_n (lv' := [(2, .ref ah), (0, .ref xb), (1, .int aq)]) hx hb dX8_fold_5 rfl hl (by decide) rfl (fun ls hl => ?_)
  refine lv_aload_n hx hb dX8_fold_6 rfl (lv_at hl 0 rfl) ?_
  refine lv_ifnonnull (tgt := 12) hx hb dX8_fold_7 (by decide) ?_
  refine lv_aload_n hx hb dX8_fold_12 rfl (lv_at hl 0 rfl) ?_
  refine q_getN hx hb hts in_X6 hown S m_ah e_ah (C := RX6) (T := TX6) (N := 7) rfl 3 (by decide) rfl (by decide) dX8_fold_13 ?_
  refine lv_if_ne (tgt := 28) hx hb dX8_fold_16 (by decide) (fun b16 => ?_) (fun b16 => ?_)
  · have hM := itF b16 hM
    refine lv_bipush (v := (-2 : Int32)) hx hb dX8_fold_28 (by decide) ?_
    subst hQQ
    exact q_reti (post := fun x L1 f1 => x = z ∧ L1 = L ∧ f1 = f) hx hb hr hlk S dX8_fold_30 (by decide) (by decide) (by have hz := Option.some.inj hM; subst hz; exact ⟨rfl, rfl, rfl⟩)
  · have hM := itT b16 hM
    refine lv_aload_n hx hb dX8_fold_19 rfl (lv_at hl 0 rfl) ?_
    refine q_getN hx hb hts in_X6 hown S m_ah e_ah (C := RX6) (T := TX6) (N := 7) rfl 4 (by decide) rfl (by decide) dX8_fold_20 ?_
    refine lv_bipush (v := (8 : Int32)) hx hb dX8_fold_23 (by decide) ?_
    refine lv_icmp_gt (tgt := 31) hx hb dX8_fold_25 (by decide) (fun b25 => ?_) (fun b25 => ?_)
    · have hM := itT b25 hM
      refine lv_aload_n hx hb dX8_fold_31 rfl (lv_at hl 1 rfl) ?_
      obtain ⟨z32, hz32, hM⟩ := bind_some hM
      refine q_vq (As := []) (rest := []) ⟨hx, hb, hml, hown, hts⟩ (k_X8_nextSlotN l D g m_xb e_xb m_Sl e_Sl hz32) (cwV 0 hts gX8_fold_X8_nextSlot rfl rfl rfl (by decide +kernel) ⟨Nat.le_of_ble_eq_true rfl, Nat.le_of_ble_eq_true rfl⟩) S m_xb e_xb (T := TX8) (N := 8) rfl rfl hl.1 rfl (Nat.le_of_ble_eq_true rfl) dX8_fold_32 ⟨Nat.le_of_ble_eq_true rfl, Nat.le_of_ble_eq_true rfl⟩ (fun r6 L4 f5 H locs S w32 => ?_)
      obtain ⟨ex32, eL, ef⟩ := w32
      rw [eL, ef] at S
      replace ex32 := ex32.symm
      subst ex32
      refine W.eq (g2 := F0 m 35 ls [.null]) rfl ?_
      refine lv_astore_nN (lv' := [(3, .null), (2, .ref ah), (0, .ref xb), (1, .int aq)]) hx hb dX8_fold_35 rfl hl (by decide) rfl (fun ls hl => ?_)
      refine lv_aload_nN hx hb dX8_fold_36 rfl (lv_at hl 0 rfl) ?_
      refine lv_ifnonnullN hx hb dX8_fold_37 ?_
      refine lv_bipush (v := (-4 : Int32)) hx hb dX8_fold_40 (by decide) ?_
      subst hQQ
      exact q_reti (post := fun x L1 f1 => x = z ∧ L1 = L ∧ f1 = f) hx hb hr hlk S dX8_fold_42 (by decide) (by decide) (by have hz := Option.some.inj hM; subst hz; exact ⟨rfl, rfl, rfl⟩)
    · have hM := itF b25 hM
      refine lv_bipush (v := (-2 : Int32)) hx hb dX8_fold_28 (by decide) ?_
      subst hQQ
      exact q_reti (post := fun x L1 f1 => x = z ∧ L1 = L ∧ f1 = f) hx hb hr hlk S dX8_fold_30 (by decide) (by decide) (by have hz := Option.some.inj hM; subst hz; exact ⟨rfl, rfl, rfl⟩)

def mX8_joinE (md : Int32) (ho : Int32) (akd : Int32) (asz : Int32) (amk : Int32) (asd : Int32) (akc : Nat → Int32) (an : Int32) (av : Nat → Int64) (bkd : Int32) (bsz : Int32) (bmk : Int32) (bsd : Int32) (bkc : Nat → Int32) (bn : Int32) (bv : Nat → Int64) (kd : Int32) (sz : Int32) (mk : Int32) (sd : Int32) (kc : Nat → Int32) (n : Int32) (v : Nat → Int64) : Option (Int32 × Int32 × Int32 × Int32 × Int32 × Int32 × (Nat → Int32) × Int32 × (Nat → Int64)) := if ho < 0 then (some ((-1 : Int32), md, kd, sz, mk, sd, kc, n, v)) else (if ho ≤ (1 : Int32) then ((mX6_isMarkedLike akd asz amk asd bkd bsz bmk bsd).bind fun z39 => if z39 = 0 then (some ((-2 : Int32), md, kd, sz, mk, sd, kc, n, v)) else ((mX8_nextSlotE md).bind fun z49 => if ho = (1 : Int32) then (if (1 : Int32) = 0 then ((mX0_count an).bind fun z81 => (mX0_count bn).bind fun z89 => if (z81 + z89) ≤ (1000 : Int32) then ((mX6_begin kc (0 : Int32) asz amk asd).bind fun z120 => (mX6_joinBits z120.2.1 z120.2.2.2.2.1 akc bkc (1 : Int32)).bind fun z131 => if (1 : Int32) = 0 then ((mX0_becomeTogether v an av bn bv).bind fun z175 => some (md, (md + (1 : Int32)), z120.1, z120.2.1, z120.2.2.1, z120.2.2.2.1, z131, z175.1, z175.2)) else ((mX0_becomeShared v an av bn bv).bind fun z154 => some (md, (md + (1 : Int32)), z120.1, z120.2.1, z120.2.2.1, z120.2.2.2.1, z131, z154.1, z154.2))) else (some ((-4 : Int32), md, kd, sz, mk, sd, kc, n, v))) else ((mX6_begin kc (0 : Int32) asz amk asd).bind fun z120 => (mX6_joinBits z120.2.1 z120.2.2.2.2.1 akc bkc (1 : Int32)).bind fun z131 => if (1 : Int32) = 0 then ((mX0_becomeTogether v an av bn bv).bind fun z175 => some (md, (md + (1 : Int32)), z120.1, z120.2.1, z120.2.2.1, z120.2.2.2.1, z131, z175.1, z175.2)) else ((mX0_becomeShared v an av bn bv).bind fun z154 => some (md, (md + (1 : Int32)), z120.1, z120.2.1, z120.2.2.1, z120.2.2.2.1, z131, z154.1, z154.2)))) else (if (0 : Int32) = 0 then ((mX0_count an).bind fun z81 => (mX0_count bn).bind fun z89 => if (z81 + z89) ≤ (1000 : Int32) then ((mX6_begin kc (0 : Int32) asz amk asd).bind fun z120 => (mX6_joinBits z120.2.1 z120.2.2.2.2.1 akc bkc (0 : Int32)).bind fun z131 => if (0 : Int32) = 0 then ((mX0_becomeTogether v an av bn bv).bind fun z175 => some (md, (md + (1 : Int32)), z120.1, z120.2.1, z120.2.2.1, z120.2.2.2.1, z131, z175.1, z175.2)) else ((mX0_becomeShared v an av bn bv).bind fun z154 => some (md, (md + (1 : Int32)), z120.1, z120.2.1, z120.2.2.1, z120.2.2.2.1, z131, z154.1, z154.2))) else (some ((-4 : Int32), md, kd, sz, mk, sd, kc, n, v))) else ((mX6_begin kc (0 : Int32) asz amk asd).bind fun z120 => (mX6_joinBits z120.2.1 z120.2.2.2.2.1 akc bkc (0 : Int32)).bind fun z131 => if (0 : Int32) = 0 then ((mX0_becomeTogether v an av bn bv).bind fun z175 => some (md, (md + (1 : Int32)), z120.1, z120.2.1, z120.2.2.1, z120.2.2.2.1, z131, z175.1, z175.2)) else ((mX0_becomeShared v an av bn bv).bind fun z154 => some (md, (md + (1 : Int32)), z120.1, z120.2.1, z120.2.2.1, z120.2.2.2.1, z131, z154.1, z154.2)))))) else (some ((-1 : Int32), md, kd, sz, mk, sd, kc, n, v)))
set_option maxHeartbeats 4000000 in
set_option maxRecDepth 100000 in
theorem k_X8_joinE (l : Launch) (D : va_G) (g : Nat → ClassId) {L : List Nat} {f : Nat → va_E} {Sl ace aco acr ah bce bco bcr bh ce ch co cr dr h ri so th wo xb : Nat} {md : Int32} {sf : Nat → Option Nat} {ho : Int32} {aq : Int32} {bq : Int32} {alay : Value} {akd : Int32} {asz : Int32} {amk : Int32} {asd : Int32} {akc : Nat → Int32} {an : Int32} {av : Nat → Int64} {jas : Nat} {blay : Value} {bkd : Int32} {bsz : Int32} {bmk : Int32} {bsd : Int32} {bkc : Nat → Int32} {bn : Int32} {bv : Nat → Int64} {jbs : Nat} {lay : Value} {kd : Int32} {sz : Int32} {mk : Int32} {sd : Int32} {kc : Nat → Int32} {n : Int32} {v : Nat → Int64} {jm : Nat} {ρ : Nat → Nat × Nat} {z : Int32 × Int32 × Int32 × Int32 × Int32 × Int32 × (Nat → Int32) × Int32 × (Nat → Int64)} (m_xb : xb ∈ L) (e_xb : f xb = .inr (6, [.ref wo, .ref Sl, .ref dr, .ref ri, .ref th, .ref so, .ref ch, .int md])) (m_Sl : Sl ∈ L) (e_Sl : f Sl = .inl (g 5, 30, .inr (.inr (.inr (.inr sf))))) (m_ah : ah ∈ L) (e_ah : f ah = .inr (4, [.ref ace, .ref aco, alay, .int akd, .int asz, .int amk, .int asd])) (m_ace : ace ∈ L) (e_ace : f ace = .inl (g 0, 4096, .inl akc)) (m_aco : aco ∈ L) (e_aco : f aco = .inr (0, [.ref acr, .int an])) (m_acr : acr ∈ L) (e_acr : f acr = .inl (g 1, 1000, .inr (.inl av))) (m_bh : bh ∈ L) (e_bh : f bh = .inr (4, [.ref bce, .ref bco, blay, .int bkd, .int bsz, .int bmk, .int bsd])) (m_bce : bce ∈ L) (e_bce : f bce = .inl (g 0, 4096, .inl bkc)) (m_bco : bco ∈ L) (e_bco : f bco = .inr (0, [.ref bcr, .int bn])) (m_bcr : bcr ∈ L) (e_bcr : f bcr = .inl (g 1, 1000, .inr (.inl bv))) (m_h : h ∈ L) (e_h : f h = .inr (4, [.ref ce, .ref co, lay, .int kd, .int sz, .int mk, .int sd])) (m_ce : ce ∈ L) (e_ce : f ce = .inl (g 0, 4096, .inl kc)) (m_co : co ∈ L) (e_co : f co = .inr (0, [.ref cr, .int n])) (m_cr : cr ∈ L) (e_cr : f cr = .inl (g 1, 1000, .inr (.inl v)))  (r_ah : ρ ah = (2 + 2 * jas, 0)) (r_ace : ρ ace = (2 + 2 * jas, 0)) (r_aco : ρ aco = (2 + 2 * jas, 0)) (r_acr : ρ acr = (2 + 2 * jas, 0)) (r_bh : ρ bh = (2 + 2 * jbs, 0)) (r_bce : ρ bce = (2 + 2 * jbs, 0)) (r_bco : ρ bco = (2 + 2 * jbs, 0)) (r_bcr : ρ bcr = (2 + 2 * jbs, 0)) (r_h : ρ h = (2 + 2 * jm, 0)) (r_ce : ρ ce = (2 + 2 * jm, 0)) (r_co : ρ co = (2 + 2 * jm, 0)) (r_cr : ρ cr = (2 + 2 * jm, 0)) (hF_h : sf (Int32.toNatClampNeg md) = some h) (hja : jas ≠ jm) (hjb : jbs ≠ jm) (hs2 : mX8_sieveAt md sf aq = some (some ah)) (hs9 : mX8_sieveAt md sf bq = some (some bh)) (hM : mX8_joinE md ho akd asz amk asd akc an av bkd bsz bmk bsd bkc bn bv kd sz mk sd kc n v = some z) : cI l yX8_join wsX8_join { frames := 3, cells := 0, slots := 0, locals := 71 } D g [.ref xb, .int ho, .int aq, .int bq] L f 0 0 (fun x L1 f1 => x = z.1 ∧ L1 = L ∧ (∀ b, b ∈ L → b ≠ xb → b ≠ h → b ≠ ce → b ≠ co → b ≠ cr → f1 b = f b) ∧ f1 xb = .inr (6, [.ref wo, .ref Sl, .ref dr, .ref ri, .ref th, .ref so, .ref ch, .int z.2.1]) ∧ f1 h = .inr (4, [.ref ce, .ref co, lay, .int z.2.2.1, .int z.2.2.2.1, .int z.2.2.2.2.1, .int z.2.2.2.2.2.1]) ∧ f1 ce = .inl (g 0, 4096, .inl z.2.2.2.2.2.2.1) ∧ f1 co = .inr (0, [.ref cr, .int z.2.2.2.2.2.2.2.1]) ∧ f1 cr = .inl (g 1, 1000, .inr (.inl z.2.2.2.2.2.2.2.2))) := by
  refine cI_of (cc := cX8_join) (maxL := 8) (ret := (some .int)) (by decide) rfl (Nat.le_of_ble_eq_true rfl) ?_
  intro szz p e s m below meth c hx hb hr hml hts hown hlk hnm S ls hl
  have hl : lv_has ls 8 [(0, .ref xb), (1, .int ho), (2, .int aq), (3, .int bq)] := hl
  have in_X6 : ∀ w ∈ wsX60, w ∈ wsX8_join := by decide +kernel
  have in_X8 : ∀ w ∈ wsX80, w ∈ wsX8_join := by decide +kernel
  have n_cr_h : cr ≠ h := ne_ri e_h e_cr
  have n_cr_ce : cr ≠ ce := ne_len e_ce e_cr (by decide)
  have n_cr_co : cr ≠ co := ne_ri e_co e_cr
  have n_ah_h : ah ≠ h := role_ne r_h r_ah (nr_ss hja)
  have n_ah_ce : ah ≠ ce := ne_ir e_ce e_ah
  have n_ah_co : ah ≠ co := ne_rr e_co e_ah (by decide)
  have n_ace_h : ace ≠ h := ne_ri e_h e_ace
  have n_ace_ce : ace ≠ ce := role_ne r_ce r_ace (nr_ss hja)
  have n_ace_co : ace ≠ co := ne_ri e_co e_ace
  have n_aco_h : aco ≠ h := ne_rr e_h e_aco (by decide)
  have n_aco_ce : aco ≠ ce := ne_ir e_ce e_aco
  have n_aco_co : aco ≠ co := role_ne r_co r_aco (nr_ss hja)
  have n_acr_h : acr ≠ h := ne_ri e_h e_acr
  have n_acr_ce : acr ≠ ce := ne_len e_ce e_acr (by decide)
  have n_acr_co : acr ≠ co := ne_ri e_co e_acr
  have n_bh_h : bh ≠ h := role_ne r_h r_bh (nr_ss hjb)
  have n_bh_ce : bh ≠ ce := ne_ir e_ce e_bh
  have n_bh_co : bh ≠ co := ne_rr e_co e_bh (by decide)
  have n_bce_h : bce ≠ h := ne_ri e_h e_bce
  have n_bce_ce : bce ≠ ce := role_ne r_ce r_bce (nr_ss hjb)
  have n_bce_co : bce ≠ co := ne_ri e_co e_bce
  have n_bco_h : bco ≠ h := ne_rr e_h e_bco (by decide)
  have n_bco_ce : bco ≠ ce := ne_ir e_ce e_bco
  have n_bco_co : bco ≠ co := role_ne r_co r_bco (nr_ss hjb)
  have n_bcr_h : bcr ≠ h := ne_ri e_h e_bcr
  have n_bcr_ce : bcr ≠ ce := ne_len e_ce e_bcr (by decide)
  have n_bcr_co : bcr ≠ co := ne_ri e_co e_bcr
  have n_h_ce : h ≠ ce := ne_ir e_ce e_h
  have n_co_ce : co ≠ ce := ne_ir e_ce e_co
  have n_acr_cr : acr ≠ cr := role_ne r_cr r_acr (nr_ss hja)
  have n_bcr_cr : bcr ≠ cr := role_ne r_cr r_bcr (nr_ss hjb)
  have n_xb_h : xb ≠ h := ne_rr e_h e_xb (by decide)
  have n_xb_ce : xb ≠ ce := ne_ir e_ce e_xb
  have n_xb_co : xb ≠ co := ne_rr e_co e_xb (by decide)
  have n_xb_cr : xb ≠ cr := ne_ir e_cr e_xb
  have n_h_co : h ≠ co := ne_rr e_co e_h (by decide)
  have n_h_cr : h ≠ cr := ne_ir e_cr e_h
  have n_h_xb : h ≠ xb := ne_rr e_xb e_h (by decide)
  have n_ce_co : ce ≠ co := ne_ri e_co e_ce
  have n_ce_cr : ce ≠ cr := ne_len e_cr e_ce (by decide)
  have n_ce_xb : ce ≠ xb := ne_ri e_xb e_ce
  have n_co_xb : co ≠ xb := ne_rr e_xb e_co (by decide)
  have n_cr_xb : cr ≠ xb := ne_ri e_xb e_cr
  have fr : ∀ b, b ∈ L → b ≠ xb → b ≠ h → b ≠ ce → b ≠ co → b ≠ cr → f b = f b := fun _ _ _ _ _ _ _ => rfl
  unfold mX8_joinE at hM
  refine W_gen (fun QQ hQQ => ?_)
  refine lv_aload_n hx hb dX8_join_0 rfl (lv_at hl 0 rfl) ?_
  refine lv_iload_n hx hb dX8_join_1 rfl (lv_at hl 2 rfl) ?_
  refine q_vq (As := [.int aq]) (rest := []) ⟨hx, hb, hml, hown, hts⟩ (k_X8_sieveAt l D g m_xb e_xb m_Sl e_Sl hs2) (cwV 1 hts gX8_join_X8_sieveAt rfl rfl rfl (by decide +kernel) ⟨Nat.le_of_ble_eq_true rfl, Nat.le_of_ble_eq_true rfl⟩) S m_xb e_xb (T := TX8) (N := 8) rfl rfl hl.1 rfl (Nat.le_of_ble_eq_true rfl) dX8_join_2 ⟨Nat.le_of_ble_eq_true rfl, Nat.le_of_ble_eq_true rfl⟩ (fun r3 L1 f2 H locs S w2 => ?_)
  obtain ⟨ex, eL, ef⟩ := w2
  rw [eL, ef] at S
  replace ex := ex.symm
  subst ex
  refine W.eq (g2 := F0 m 5 ls [.ref ah]) rfl ?_
  refine lv_astore (lv' := [(4, .ref ah), (0, .ref xb), (1, .int ho), (2, .int aq), (3, .int bq)]) hx hb dX8_join_5 hl (by decide) rfl (fun ls hl => ?_)
  refine lv_aload_n hx hb dX8_join_7 rfl (lv_at hl 1 rfl) ?_
  refine lv_iload_n hx hb dX8_join_8 rfl (lv_at hl 4 rfl) ?_
  refine q_vq (As := [.int bq]) (rest := []) ⟨hx, hb, hml, hown, hts⟩ (k_X8_sieveAt l D g m_xb e_xb m_Sl e_Sl hs9) (cwV 1 hts gX8_join_X8_sieveAt rfl rfl rfl (by decide +kernel) ⟨Nat.le_of_ble_eq_true rfl, Nat.le_of_ble_eq_true rfl⟩) S m_xb e_xb (T := TX8) (N := 8) rfl rfl hl.1 rfl (Nat.le_of_ble_eq_true rfl) dX8_join_9 ⟨Nat.le_of_ble_eq_true rfl, Nat.le_of_ble_eq_true rfl⟩ (fun r6 L4 f5 H locs S w9 => ?_)
  obtain ⟨ex, eL, ef⟩ := w9
  rw [eL, ef] at S
  replace ex := ex.symm
  subst ex
  refine W.eq (g2 := F0 m 12 ls [.ref bh]) rfl ?_
  refine lv_astore (lv' := [(5, .ref bh), (4, .ref ah), (0, .ref xb), (1, .int ho), (2, .int aq), (3, .int bq)]) hx hb dX8_join_12 hl (by decide) rfl (fun ls hl => ?_)
  refine lv_aload hx hb dX8_join_14 (lv_at hl 1 rfl) ?_
  refine lv_ifnull hx hb dX8_join_16 ?_
  refine lv_aload hx hb dX8_join_19 (lv_at hl 0 rfl) ?_
  refine lv_ifnull hx hb dX8_join_21 ?_
  refine lv_iload_n hx hb dX8_join_24 rfl (lv_at hl 3 rfl) ?_
  refine lv_if_lt (tgt := 33) hx hb dX8_join_25 (by decide) (fun b25 => ?_) (fun b25 => ?_)
  · have hM := itT b25 hM
    refine lv_iconst (v := (-1 : Int32)) hx hb dX8_join_33 (by decide) ?_
    subst hQQ
    exact q_reti (post := fun x L1 f1 => x = z.1 ∧ L1 = L ∧ (∀ b, b ∈ L → b ≠ xb → b ≠ h → b ≠ ce → b ≠ co → b ≠ cr → f1 b = f b) ∧ f1 xb = .inr (6, [.ref wo, .ref Sl, .ref dr, .ref ri, .ref th, .ref so, .ref ch, .int z.2.1]) ∧ f1 h = .inr (4, [.ref ce, .ref co, lay, .int z.2.2.1, .int z.2.2.2.1, .int z.2.2.2.2.1, .int z.2.2.2.2.2.1]) ∧ f1 ce = .inl (g 0, 4096, .inl z.2.2.2.2.2.2.1) ∧ f1 co = .inr (0, [.ref cr, .int z.2.2.2.2.2.2.2.1]) ∧ f1 cr = .inl (g 1, 1000, .inr (.inl z.2.2.2.2.2.2.2.2))) hx hb hr hlk S dX8_join_34 (by decide) (by decide) (by have hz := Option.some.inj hM; subst hz; exact ⟨rfl, rfl, fr, e_xb, e_h, e_ce, e_co, e_cr⟩)
  · have hM := itF b25 hM
    refine lv_iload_n hx hb dX8_join_28 rfl (lv_at hl 3 rfl) ?_
    refine lv_iconst (v := (1 : Int32)) hx hb dX8_join_29 (by decide) ?_
    refine lv_icmp_le (tgt := 35) hx hb dX8_join_30 (by decide) (fun b30 => ?_) (fun b30 => ?_)
    · have hM := itT b30 hM
      refine lv_aload hx hb dX8_join_35 (lv_at hl 1 rfl) ?_
      refine lv_aload hx hb dX8_join_37 (lv_at hl 0 rfl) ?_
      obtain ⟨z39, hz39, hM⟩ := bind_some hM
      refine q_vi (As := [.ref bh]) (rest := []) ⟨hx, hb, hml, hown, hts⟩ (k_X6_isMarkedLike l D g m_ah e_ah m_bh e_bh hz39) (cwV 1 hts gX8_join_X6_isMarkedLike rfl rfl rfl (by decide +kernel) ⟨Nat.le_of_ble_eq_true rfl, Nat.le_of_ble_eq_true rfl⟩) S m_ah e_ah (T := TX6) (N := 7) rfl rfl hl.1 rfl (Nat.le_of_ble_eq_true rfl) dX8_join_39 ⟨Nat.le_of_ble_eq_true rfl, Nat.le_of_ble_eq_true rfl⟩ (fun r9 L7 f8 H locs S w39 => ?_)
      obtain ⟨ex39, eL, ef⟩ := w39
      rw [eL, ef] at S
      replace ex39 := ex39.symm
      subst ex39
      refine lv_if_ne (tgt := 48) hx hb dX8_join_42 (by decide) (fun b42 => ?_) (fun b42 => ?_)
      · have hM := itF b42 hM
        refine lv_aload_n hx hb dX8_join_48 rfl (lv_at hl 2 rfl) ?_
        obtain ⟨z49, hz49, hM⟩ := bind_some hM
        refine q_vq (As := []) (rest := []) ⟨hx, hb, hml, hown, hts⟩ (k_X8_nextSlotE l D g m_xb e_xb m_Sl e_Sl hF_h hz49) (cwV 0 hts gX8_join_X8_nextSlot rfl rfl rfl (by decide +kernel) ⟨Nat.le_of_ble_eq_true rfl, Nat.le_of_ble_eq_true rfl⟩) S m_xb e_xb (T := TX8) (N := 8) rfl rfl hl.1 rfl (Nat.le_of_ble_eq_true rfl) dX8_join_49 ⟨Nat.le_of_ble_eq_true rfl, Nat.le_of_ble_eq_true rfl⟩ (fun r12 L10 f11 H locs S w49 => ?_)
        obtain ⟨ex49, eL, ef⟩ := w49
        rw [eL, ef] at S
        replace ex49 := ex49.symm
        subst ex49
        refine W.eq (g2 := F0 m 52 ls [.ref h]) rfl ?_
        refine lv_astore (lv' := [(6, .ref h), (5, .ref bh), (4, .ref ah), (0, .ref xb), (1, .int ho), (2, .int aq), (3, .int bq)]) hx hb dX8_join_52 hl (by decide) rfl (fun ls hl => ?_)
        refine lv_iload_n hx hb dX8_join_54 rfl (lv_at hl 4 rfl) ?_
        refine lv_iconst (v := (1 : Int32)) hx hb dX8_join_55 (by decide) ?_
        refine lv_icmp_ne (tgt := 63) hx hb dX8_join_56 (by decide) (fun b56 => ?_) (fun b56 => ?_)
        · have hM := itF b56 hM
          refine lv_iconst (v := (0 : Int32)) hx hb dX8_join_63 (by decide) ?_
          refine lv_istore (lv' := [(7, .int (0 : Int32)), (6, .ref h), (5, .ref bh), (4, .ref ah), (0, .ref xb), (1, .int ho), (2, .int aq), (3, .int bq)]) hx hb dX8_join_64 hl (by decide) rfl (fun ls hl => ?_)
          refine lv_aload hx hb dX8_join_66 (lv_at hl 1 rfl) ?_
          refine lv_ifnull hx hb dX8_join_68 ?_
          refine lv_iload hx hb dX8_join_71 (lv_at hl 0 rfl) ?_
          refine lv_if_ne (tgt := 102) hx hb dX8_join_73 (by decide) (fun b73 => ?_) (fun b73 => ?_)
          · have hM := itF b73 hM
            refine lv_aload hx hb dX8_join_102 (lv_at hl 1 rfl) ?_
            refine lv_iconst (v := (0 : Int32)) hx hb dX8_join_104 (by decide) ?_
            refine lv_aload hx hb dX8_join_105 (lv_at hl 3 rfl) ?_
            refine q_getN hx hb hts in_X6 hown S m_ah e_ah (C := RX6) (T := TX6) (N := 7) rfl 4 (by decide) rfl (by decide) dX8_join_107 ?_
            refine lv_aload hx hb dX8_join_110 (lv_at hl 3 rfl) ?_
            refine q_getN hx hb hts in_X6 hown S m_ah e_ah (C := RX6) (T := TX6) (N := 7) rfl 5 (by decide) rfl (by decide) dX8_join_112 ?_
            refine lv_aload hx hb dX8_join_115 (lv_at hl 3 rfl) ?_
            refine q_getN hx hb hts in_X6 hown S m_ah e_ah (C := RX6) (T := TX6) (N := 7) rfl 6 (by decide) rfl (by decide) dX8_join_117 ?_
            obtain ⟨z120, hz120, hM⟩ := bind_some hM
            refine q_vv (As := [.int (0 : Int32), .int asz, .int amk, .int asd]) (rest := []) ⟨hx, hb, hml, hown, hts⟩ (k_X6_begin l D g m_h e_h m_ce e_ce m_co e_co hz120) (cwV 4 hts gX8_join_X6_begin rfl rfl rfl (by decide +kernel) ⟨Nat.le_of_ble_eq_true rfl, Nat.le_of_ble_eq_true rfl⟩) S m_h e_h (T := TX6) (N := 7) rfl rfl hl.1 rfl (Nat.le_of_ble_eq_true rfl) dX8_join_120 ⟨Nat.le_of_ble_eq_true rfl, Nat.le_of_ble_eq_true rfl⟩ (fun L13 f14 H locs S w120 => ?_)
            obtain ⟨eL, fv120, E_h, E_ce, E_co⟩ := w120
            rw [eL] at S
            have fr : ∀ b, b ∈ L → b ≠ xb → b ≠ h → b ≠ ce → b ≠ co → b ≠ cr → f14 b = f b := fun b mb nb0 nb1 nb2 nb3 nb4 => (fv120 b mb nb1 nb2 nb3).trans (fr b mb nb0 nb1 nb2 nb3 nb4)
            have e_h : f14 h = .inr (4, [.ref ce, .ref co, lay, .int z120.1, .int z120.2.1, .int z120.2.2.1, .int z120.2.2.2.1]) := E_h
            have e_ce : f14 ce = .inl (g 0, 4096, .inl z120.2.2.2.2.1) := E_ce
            have e_co : f14 co = .inr (0, [.ref cr, .int z120.2.2.2.2.2]) := E_co
            refine lv_aload hx hb dX8_join_123 (lv_at hl 1 rfl) ?_
            refine lv_iload hx hb dX8_join_125 (lv_at hl 0 rfl) ?_
            refine lv_aload hx hb dX8_join_127 (lv_at hl 3 rfl) ?_
            refine lv_aload hx hb dX8_join_129 (lv_at hl 2 rfl) ?_
            obtain ⟨z131, hz131, hM⟩ := bind_some hM
            have e_cr := ((fv120 cr m_cr n_cr_h n_cr_ce n_cr_co).trans e_cr)
            have e_ah := ((fv120 ah m_ah n_ah_h n_ah_ce n_ah_co).trans e_ah)
            have e_ace := ((fv120 ace m_ace n_ace_h n_ace_ce n_ace_co).trans e_ace)
            have e_aco := ((fv120 aco m_aco n_aco_h n_aco_ce n_aco_co).trans e_aco)
            have e_acr := ((fv120 acr m_acr n_acr_h n_acr_ce n_acr_co).trans e_acr)
            have e_bh := ((fv120 bh m_bh n_bh_h n_bh_ce n_bh_co).trans e_bh)
            have e_bce := ((fv120 bce m_bce n_bce_h n_bce_ce n_bce_co).trans e_bce)
            have e_bco := ((fv120 bco m_bco n_bco_h n_bco_ce n_bco_co).trans e_bco)
            have e_bcr := ((fv120 bcr m_bcr n_bcr_h n_bcr_ce n_bcr_co).trans e_bcr)
            refine q_vv (As := [.int (0 : Int32), .ref ah, .ref bh]) (rest := []) ⟨hx, hb, hml, hown, hts⟩ (k_X6_joinBits l D g m_h e_h m_ce e_ce m_co e_co m_cr e_cr m_ah e_ah m_ace e_ace m_aco e_aco m_acr e_acr m_bh e_bh m_bce e_bce m_bco e_bco m_bcr e_bcr n_ace_ce n_bce_ce hz131) (cwV 3 hts gX8_join_X6_joinBits rfl rfl rfl (by decide +kernel) ⟨Nat.le_of_ble_eq_true rfl, Nat.le_of_ble_eq_true rfl⟩) S m_h e_h (T := TX6) (N := 7) rfl rfl hl.1 rfl (Nat.le_of_ble_eq_true rfl) dX8_join_131 ⟨Nat.le_of_ble_eq_true rfl, Nat.le_of_ble_eq_true rfl⟩ (fun L16 f17 H locs S w131 => ?_)
            obtain ⟨eL, fv131, E_ce⟩ := w131
            rw [eL] at S
            have fr : ∀ b, b ∈ L → b ≠ xb → b ≠ h → b ≠ ce → b ≠ co → b ≠ cr → f17 b = f b := fun b mb nb0 nb1 nb2 nb3 nb4 => (fv131 b mb nb2).trans (fr b mb nb0 nb1 nb2 nb3 nb4)
            have e_ce : f17 ce = .inl (g 0, 4096, .inl z131) := E_ce
            refine lv_iload hx hb dX8_join_134 (lv_at hl 0 rfl) ?_
            refine lv_if_eq (tgt := 160) hx hb dX8_join_136 (by decide) (fun b136 => ?_) (fun b136 => ?_)
            · have hM := itT b136 hM
              refine lv_aload hx hb dX8_join_160 (lv_at hl 1 rfl) ?_
              have e_h := ((fv131 h m_h n_h_ce).trans e_h)
              refine q_getN hx hb hts in_X6 hown S m_h e_h (C := RX6) (T := TX6) (N := 7) rfl 1 (by decide) rfl (by decide) dX8_join_162 ?_
              refine lv_aload hx hb dX8_join_165 (lv_at hl 3 rfl) ?_
              have e_ah := ((fv131 ah m_ah n_ah_ce).trans e_ah)
              refine q_getN hx hb hts in_X6 hown S m_ah e_ah (C := RX6) (T := TX6) (N := 7) rfl 1 (by decide) rfl (by decide) dX8_join_167 ?_
              refine lv_aload hx hb dX8_join_170 (lv_at hl 2 rfl) ?_
              have e_bh := ((fv131 bh m_bh n_bh_ce).trans e_bh)
              refine q_getN hx hb hts in_X6 hown S m_bh e_bh (C := RX6) (T := TX6) (N := 7) rfl 1 (by decide) rfl (by decide) dX8_join_172 ?_
              obtain ⟨z175, hz175, hM⟩ := bind_some hM
              have e_co := ((fv131 co m_co n_co_ce).trans e_co)
              have e_cr := ((fv131 cr m_cr n_cr_ce).trans e_cr)
              have e_aco := ((fv131 aco m_aco n_aco_ce).trans e_aco)
              have e_acr := ((fv131 acr m_acr n_acr_ce).trans e_acr)
              have e_bco := ((fv131 bco m_bco n_bco_ce).trans e_bco)
              have e_bcr := ((fv131 bcr m_bcr n_bcr_ce).trans e_bcr)
              refine q_vv (As := [.ref aco, .ref bco]) (rest := []) ⟨hx, hb, hml, hown, hts⟩ (k_X0_becomeTogether l D g m_co e_co m_cr e_cr m_aco e_aco m_acr e_acr m_bco e_bco m_bcr e_bcr n_aco_co n_acr_cr n_bco_co n_bcr_cr hz175) (cwV 2 hts gX8_join_X0_becomeTogether rfl rfl rfl (by decide +kernel) ⟨Nat.le_of_ble_eq_true rfl, Nat.le_of_ble_eq_true rfl⟩) S m_co e_co (T := TX0) (N := 2) rfl rfl hl.1 rfl (Nat.le_of_ble_eq_true rfl) dX8_join_175 ⟨Nat.le_of_ble_eq_true rfl, Nat.le_of_ble_eq_true rfl⟩ (fun L19 f20 H locs S w175 => ?_)
              obtain ⟨eL, fv175, E_co, E_cr⟩ := w175
              rw [eL] at S
              have fr : ∀ b, b ∈ L → b ≠ xb → b ≠ h → b ≠ ce → b ≠ co → b ≠ cr → f20 b = f b := fun b mb nb0 nb1 nb2 nb3 nb4 => (fv175 b mb nb3 nb4).trans (fr b mb nb0 nb1 nb2 nb3 nb4)
              have e_co : f20 co = .inr (0, [.ref cr, .int z175.1]) := E_co
              have e_cr : f20 cr = .inl (g 1, 1000, .inr (.inl z175.2)) := E_cr
              refine lv_aload_n hx hb dX8_join_178 rfl (lv_at hl 4 rfl) ?_
              refine lv_dup hx hb dX8_join_179 rfl ?_
              have e_xb := ((fv175 xb m_xb n_xb_co n_xb_cr).trans ((fv131 xb m_xb n_xb_ce).trans ((fv120 xb m_xb n_xb_h n_xb_ce n_xb_co).trans e_xb)))
              refine q_get hx hb hts in_X8 hown S m_xb e_xb (C := RX8) (T := TX8) (N := 8) rfl 7 (by decide) rfl (hts (.fieldLink RX8 84 "SieveCabinet" "made" "I") (by decide +kernel)) dX8_join_180 ?_
              refine lv_dup_x1 hx hb dX8_join_183 rfl rfl ?_
              refine lv_iconst (v := (1 : Int32)) hx hb dX8_join_184 (by decide) ?_
              refine lv_iadd hx hb dX8_join_185 ?_
              refine k_put hx hb hts in_X8 tyX8 tyX8_ok nmX8 hown S m_xb e_xb (C := RX8) (T := TX8) (N := 8) rfl 7 (by decide) (hts (.fieldLink RX8 84 "SieveCabinet" "made" "I") (by decide +kernel)) rfl rfl rfl (Nat.le_of_ble_eq_true rfl) dX8_join_186 (fun f22 ef22 H locs S => ?_)
              have e_xb : f22 xb = .inr (6, [.ref wo, .ref Sl, .ref dr, .ref ri, .ref th, .ref so, .ref ch, .int (md + (1 : Int32))]) := up_self ef22
              have fr : ∀ b, b ∈ L → b ≠ xb → b ≠ h → b ≠ ce → b ≠ co → b ≠ cr → f22 b = f b := fun b mb nb0 nb1 nb2 nb3 nb4 => (up_ne ef22 nb0 rfl).trans (fr b mb nb0 nb1 nb2 nb3 nb4)
              have e_h := (up_ne ef22 n_h_xb ((fv175 h m_h n_h_co n_h_cr).trans e_h))
              have e_ce := (up_ne ef22 n_ce_xb ((fv175 ce m_ce n_ce_co n_ce_cr).trans e_ce))
              have e_co := (up_ne ef22 n_co_xb e_co)
              have e_cr := (up_ne ef22 n_cr_xb e_cr)
              subst hQQ
              exact q_reti (post := fun x L1 f1 => x = z.1 ∧ L1 = L ∧ (∀ b, b ∈ L → b ≠ xb → b ≠ h → b ≠ ce → b ≠ co → b ≠ cr → f1 b = f b) ∧ f1 xb = .inr (6, [.ref wo, .ref Sl, .ref dr, .ref ri, .ref th, .ref so, .ref ch, .int z.2.1]) ∧ f1 h = .inr (4, [.ref ce, .ref co, lay, .int z.2.2.1, .int z.2.2.2.1, .int z.2.2.2.2.1, .int z.2.2.2.2.2.1]) ∧ f1 ce = .inl (g 0, 4096, .inl z.2.2.2.2.2.2.1) ∧ f1 co = .inr (0, [.ref cr, .int z.2.2.2.2.2.2.2.1]) ∧ f1 cr = .inl (g 1, 1000, .inr (.inl z.2.2.2.2.2.2.2.2))) hx hb hr hlk S dX8_join_189 (by decide) (by decide) (by have hz := Option.some.inj hM; subst hz; exact ⟨rfl, rfl, fr, e_xb, e_h, e_ce, e_co, e_cr⟩)
            · have hM := itF b136 hM
              refine lv_aload hx hb dX8_join_139 (lv_at hl 1 rfl) ?_
              have e_h := ((fv131 h m_h n_h_ce).trans e_h)
              refine q_getN hx hb hts in_X6 hown S m_h e_h (C := RX6) (T := TX6) (N := 7) rfl 1 (by decide) rfl (by decide) dX8_join_141 ?_
              refine lv_aload hx hb dX8_join_144 (lv_at hl 3 rfl) ?_
              have e_ah := ((fv131 ah m_ah n_ah_ce).trans e_ah)
              refine q_getN hx hb hts in_X6 hown S m_ah e_ah (C := RX6) (T := TX6) (N := 7) rfl 1 (by decide) rfl (by decide) dX8_join_146 ?_
              refine lv_aload hx hb dX8_join_149 (lv_at hl 2 rfl) ?_
              have e_bh := ((fv131 bh m_bh n_bh_ce).trans e_bh)
              refine q_getN hx hb hts in_X6 hown S m_bh e_bh (C := RX6) (T := TX6) (N := 7) rfl 1 (by decide) rfl (by decide) dX8_join_151 ?_
              obtain ⟨z154, hz154, hM⟩ := bind_some hM
              have e_co := ((fv131 co m_co n_co_ce).trans e_co)
              have e_cr := ((fv131 cr m_cr n_cr_ce).trans e_cr)
              have e_aco := ((fv131 aco m_aco n_aco_ce).trans e_aco)
              have e_acr := ((fv131 acr m_acr n_acr_ce).trans e_acr)
              have e_bco := ((fv131 bco m_bco n_bco_ce).trans e_bco)
              have e_bcr := ((fv131 bcr m_bcr n_bcr_ce).trans e_bcr)
              refine q_vv (As := [.ref aco, .ref bco]) (rest := []) ⟨hx, hb, hml, hown, hts⟩ (k_X0_becomeShared l D g m_co e_co m_cr e_cr m_aco e_aco m_acr e_acr m_bco e_bco m_bcr e_bcr n_aco_co n_bco_co n_acr_cr n_bcr_cr hz154) (cwV 2 hts gX8_join_X0_becomeShared rfl rfl rfl (by decide +kernel) ⟨Nat.le_of_ble_eq_true rfl, Nat.le_of_ble_eq_true rfl⟩) S m_co e_co (T := TX0) (N := 2) rfl rfl hl.1 rfl (Nat.le_of_ble_eq_true rfl) dX8_join_154 ⟨Nat.le_of_ble_eq_true rfl, Nat.le_of_ble_eq_true rfl⟩ (fun L23 f24 H locs S w154 => ?_)
              obtain ⟨eL, fv154, E_co, E_cr⟩ := w154
              rw [eL] at S
              have fr : ∀ b, b ∈ L → b ≠ xb → b ≠ h → b ≠ ce → b ≠ co → b ≠ cr → f24 b = f b := fun b mb nb0 nb1 nb2 nb3 nb4 => (fv154 b mb nb3 nb4).trans (fr b mb nb0 nb1 nb2 nb3 nb4)
              have e_co : f24 co = .inr (0, [.ref cr, .int z154.1]) := E_co
              have e_cr : f24 cr = .inl (g 1, 1000, .inr (.inl z154.2)) := E_cr
              refine lv_goto (tgt := 178) hx hb dX8_join_157 (by decide) ?_
              refine lv_aload_n hx hb dX8_join_178 rfl (lv_at hl 4 rfl) ?_
              refine lv_dup hx hb dX8_join_179 rfl ?_
              have e_xb := ((fv154 xb m_xb n_xb_co n_xb_cr).trans ((fv131 xb m_xb n_xb_ce).trans ((fv120 xb m_xb n_xb_h n_xb_ce n_xb_co).trans e_xb)))
              refine q_get hx hb hts in_X8 hown S m_xb e_xb (C := RX8) (T := TX8) (N := 8) rfl 7 (by decide) rfl (hts (.fieldLink RX8 84 "SieveCabinet" "made" "I") (by decide +kernel)) dX8_join_180 ?_
              refine lv_dup_x1 hx hb dX8_join_183 rfl rfl ?_
              refine lv_iconst (v := (1 : Int32)) hx hb dX8_join_184 (by decide) ?_
              refine lv_iadd hx hb dX8_join_185 ?_
              refine k_put hx hb hts in_X8 tyX8 tyX8_ok nmX8 hown S m_xb e_xb (C := RX8) (T := TX8) (N := 8) rfl 7 (by decide) (hts (.fieldLink RX8 84 "SieveCabinet" "made" "I") (by decide +kernel)) rfl rfl rfl (Nat.le_of_ble_eq_true rfl) dX8_join_186 (fun f26 ef26 H locs S => ?_)
              have e_xb : f26 xb = .inr (6, [.ref wo, .ref Sl, .ref dr, .ref ri, .ref th, .ref so, .ref ch, .int (md + (1 : Int32))]) := up_self ef26
              have fr : ∀ b, b ∈ L → b ≠ xb → b ≠ h → b ≠ ce → b ≠ co → b ≠ cr → f26 b = f b := fun b mb nb0 nb1 nb2 nb3 nb4 => (up_ne ef26 nb0 rfl).trans (fr b mb nb0 nb1 nb2 nb3 nb4)
              have e_h := (up_ne ef26 n_h_xb ((fv154 h m_h n_h_co n_h_cr).trans e_h))
              have e_ce := (up_ne ef26 n_ce_xb ((fv154 ce m_ce n_ce_co n_ce_cr).trans e_ce))
              have e_co := (up_ne ef26 n_co_xb e_co)
              have e_cr := (up_ne ef26 n_cr_xb e_cr)
              subst hQQ
              exact q_reti (post := fun x L1 f1 => x = z.1 ∧ L1 = L ∧ (∀ b, b ∈ L → b ≠ xb → b ≠ h → b ≠ ce → b ≠ co → b ≠ cr → f1 b = f b) ∧ f1 xb = .inr (6, [.ref wo, .ref Sl, .ref dr, .ref ri, .ref th, .ref so, .ref ch, .int z.2.1]) ∧ f1 h = .inr (4, [.ref ce, .ref co, lay, .int z.2.2.1, .int z.2.2.2.1, .int z.2.2.2.2.1, .int z.2.2.2.2.2.1]) ∧ f1 ce = .inl (g 0, 4096, .inl z.2.2.2.2.2.2.1) ∧ f1 co = .inr (0, [.ref cr, .int z.2.2.2.2.2.2.2.1]) ∧ f1 cr = .inl (g 1, 1000, .inr (.inl z.2.2.2.2.2.2.2.2))) hx hb hr hlk S dX8_join_189 (by decide) (by decide) (by have hz := Option.some.inj hM; subst hz; exact ⟨rfl, rfl, fr, e_xb, e_h, e_ce, e_co, e_cr⟩)
          · have hM := itT b73 hM
            refine lv_aload hx hb dX8_join_76 (lv_at hl 3 rfl) ?_
            refine q_getN hx hb hts in_X6 hown S m_ah e_ah (C := RX6) (T := TX6) (N := 7) rfl 1 (by decide) rfl (by decide) dX8_join_78 ?_
            obtain ⟨z81, hz81, hM⟩ := bind_some hM
            refine q_vi (As := []) (rest := []) ⟨hx, hb, hml, hown, hts⟩ (k_X0_count l D g m_aco e_aco hz81) (cwV 0 hts gX8_join_X0_count rfl rfl rfl (by decide +kernel) ⟨Nat.le_of_ble_eq_true rfl, Nat.le_of_ble_eq_true rfl⟩) S m_aco e_aco (T := TX0) (N := 2) rfl rfl hl.1 rfl (Nat.le_of_ble_eq_true rfl) dX8_join_81 ⟨Nat.le_of_ble_eq_true rfl, Nat.le_of_ble_eq_true rfl⟩ (fun r29 L27 f28 H locs S w81 => ?_)
            obtain ⟨ex81, eL, ef⟩ := w81
            rw [eL, ef] at S
            replace ex81 := ex81.symm
            subst ex81
            refine lv_aload hx hb dX8_join_84 (lv_at hl 2 rfl) ?_
            refine q_getN hx hb hts in_X6 hown S m_bh e_bh (C := RX6) (T := TX6) (N := 7) rfl 1 (by decide) rfl (by decide) dX8_join_86 ?_
            obtain ⟨z89, hz89, hM⟩ := bind_some hM
            refine q_vi (As := []) (rest := [.int z81]) ⟨hx, hb, hml, hown, hts⟩ (k_X0_count l D g m_bco e_bco hz89) (cwV 0 hts gX8_join_X0_count rfl rfl rfl (by decide +kernel) ⟨Nat.le_of_ble_eq_true rfl, Nat.le_of_ble_eq_true rfl⟩) S m_bco e_bco (T := TX0) (N := 2) rfl rfl hl.1 rfl (Nat.le_of_ble_eq_true rfl) dX8_join_89 ⟨Nat.le_of_ble_eq_true rfl, Nat.le_of_ble_eq_true rfl⟩ (fun r32 L30 f31 H locs S w89 => ?_)
            obtain ⟨ex89, eL, ef⟩ := w89
            rw [eL, ef] at S
            replace ex89 := ex89.symm
            subst ex89
            refine lv_iadd hx hb dX8_join_92 ?_
            refine lv_sipush (v := (1000 : Int32)) hx hb dX8_join_93 (by decide) ?_
            refine lv_icmp_le (tgt := 102) hx hb dX8_join_96 (by decide) (fun b96 => ?_) (fun b96 => ?_)
            · have hM := itT b96 hM
              refine lv_aload hx hb dX8_join_102 (lv_at hl 1 rfl) ?_
              refine lv_iconst (v := (0 : Int32)) hx hb dX8_join_104 (by decide) ?_
              refine lv_aload hx hb dX8_join_105 (lv_at hl 3 rfl) ?_
              refine q_getN hx hb hts in_X6 hown S m_ah e_ah (C := RX6) (T := TX6) (N := 7) rfl 4 (by decide) rfl (by decide) dX8_join_107 ?_
              refine lv_aload hx hb dX8_join_110 (lv_at hl 3 rfl) ?_
              refine q_getN hx hb hts in_X6 hown S m_ah e_ah (C := RX6) (T := TX6) (N := 7) rfl 5 (by decide) rfl (by decide) dX8_join_112 ?_
              refine lv_aload hx hb dX8_join_115 (lv_at hl 3 rfl) ?_
              refine q_getN hx hb hts in_X6 hown S m_ah e_ah (C := RX6) (T := TX6) (N := 7) rfl 6 (by decide) rfl (by decide) dX8_join_117 ?_
              obtain ⟨z120, hz120, hM⟩ := bind_some hM
              refine q_vv (As := [.int (0 : Int32), .int asz, .int amk, .int asd]) (rest := []) ⟨hx, hb, hml, hown, hts⟩ (k_X6_begin l D g m_h e_h m_ce e_ce m_co e_co hz120) (cwV 4 hts gX8_join_X6_begin rfl rfl rfl (by decide +kernel) ⟨Nat.le_of_ble_eq_true rfl, Nat.le_of_ble_eq_true rfl⟩) S m_h e_h (T := TX6) (N := 7) rfl rfl hl.1 rfl (Nat.le_of_ble_eq_true rfl) dX8_join_120 ⟨Nat.le_of_ble_eq_true rfl, Nat.le_of_ble_eq_true rfl⟩ (fun L33 f34 H locs S w120 => ?_)
              obtain ⟨eL, fv120, E_h, E_ce, E_co⟩ := w120
              rw [eL] at S
              have fr : ∀ b, b ∈ L → b ≠ xb → b ≠ h → b ≠ ce → b ≠ co → b ≠ cr → f34 b = f b := fun b mb nb0 nb1 nb2 nb3 nb4 => (fv120 b mb nb1 nb2 nb3).trans (fr b mb nb0 nb1 nb2 nb3 nb4)
              have e_h : f34 h = .inr (4, [.ref ce, .ref co, lay, .int z120.1, .int z120.2.1, .int z120.2.2.1, .int z120.2.2.2.1]) := E_h
              have e_ce : f34 ce = .inl (g 0, 4096, .inl z120.2.2.2.2.1) := E_ce
              have e_co : f34 co = .inr (0, [.ref cr, .int z120.2.2.2.2.2]) := E_co
              refine lv_aload hx hb dX8_join_123 (lv_at hl 1 rfl) ?_
              refine lv_iload hx hb dX8_join_125 (lv_at hl 0 rfl) ?_
              refine lv_aload hx hb dX8_join_127 (lv_at hl 3 rfl) ?_
              refine lv_aload hx hb dX8_join_129 (lv_at hl 2 rfl) ?_
              obtain ⟨z131, hz131, hM⟩ := bind_some hM
              have e_cr := ((fv120 cr m_cr n_cr_h n_cr_ce n_cr_co).trans e_cr)
              have e_ah := ((fv120 ah m_ah n_ah_h n_ah_ce n_ah_co).trans e_ah)
              have e_ace := ((fv120 ace m_ace n_ace_h n_ace_ce n_ace_co).trans e_ace)
              have e_aco := ((fv120 aco m_aco n_aco_h n_aco_ce n_aco_co).trans e_aco)
              have e_acr := ((fv120 acr m_acr n_acr_h n_acr_ce n_acr_co).trans e_acr)
              have e_bh := ((fv120 bh m_bh n_bh_h n_bh_ce n_bh_co).trans e_bh)
              have e_bce := ((fv120 bce m_bce n_bce_h n_bce_ce n_bce_co).trans e_bce)
              have e_bco := ((fv120 bco m_bco n_bco_h n_bco_ce n_bco_co).trans e_bco)
              have e_bcr := ((fv120 bcr m_bcr n_bcr_h n_bcr_ce n_bcr_co).trans e_bcr)
              refine q_vv (As := [.int (0 : Int32), .ref ah, .ref bh]) (rest := []) ⟨hx, hb, hml, hown, hts⟩ (k_X6_joinBits l D g m_h e_h m_ce e_ce m_co e_co m_cr e_cr m_ah e_ah m_ace e_ace m_aco e_aco m_acr e_acr m_bh e_bh m_bce e_bce m_bco e_bco m_bcr e_bcr n_ace_ce n_bce_ce hz131) (cwV 3 hts gX8_join_X6_joinBits rfl rfl rfl (by decide +kernel) ⟨Nat.le_of_ble_eq_true rfl, Nat.le_of_ble_eq_true rfl⟩) S m_h e_h (T := TX6) (N := 7) rfl rfl hl.1 rfl (Nat.le_of_ble_eq_true rfl) dX8_join_131 ⟨Nat.le_of_ble_eq_true rfl, Nat.le_of_ble_eq_true rfl⟩ (fun L36 f37 H locs S w131 => ?_)
              obtain ⟨eL, fv131, E_ce⟩ := w131
              rw [eL] at S
              have fr : ∀ b, b ∈ L → b ≠ xb → b ≠ h → b ≠ ce → b ≠ co → b ≠ cr → f37 b = f b := fun b mb nb0 nb1 nb2 nb3 nb4 => (fv131 b mb nb2).trans (fr b mb nb0 nb1 nb2 nb3 nb4)
              have e_ce : f37 ce = .inl (g 0, 4096, .inl z131) := E_ce
              refine lv_iload hx hb dX8_join_134 (lv_at hl 0 rfl) ?_
              refine lv_if_eq (tgt := 160) hx hb dX8_join_136 (by decide) (fun b136 => ?_) (fun b136 => ?_)
              · have hM := itT b136 hM
                refine lv_aload hx hb dX8_join_160 (lv_at hl 1 rfl) ?_
                have e_h := ((fv131 h m_h n_h_ce).trans e_h)
                refine q_getN hx hb hts in_X6 hown S m_h e_h (C := RX6) (T := TX6) (N := 7) rfl 1 (by decide) rfl (by decide) dX8_join_162 ?_
                refine lv_aload hx hb dX8_join_165 (lv_at hl 3 rfl) ?_
                have e_ah := ((fv131 ah m_ah n_ah_ce).trans e_ah)
                refine q_getN hx hb hts in_X6 hown S m_ah e_ah (C := RX6) (T := TX6) (N := 7) rfl 1 (by decide) rfl (by decide) dX8_join_167 ?_
                refine lv_aload hx hb dX8_join_170 (lv_at hl 2 rfl) ?_
                have e_bh := ((fv131 bh m_bh n_bh_ce).trans e_bh)
                refine q_getN hx hb hts in_X6 hown S m_bh e_bh (C := RX6) (T := TX6) (N := 7) rfl 1 (by decide) rfl (by decide) dX8_join_172 ?_
                obtain ⟨z175, hz175, hM⟩ := bind_some hM
                have e_co := ((fv131 co m_co n_co_ce).trans e_co)
                have e_cr := ((fv131 cr m_cr n_cr_ce).trans e_cr)
                have e_aco := ((fv131 aco m_aco n_aco_ce).trans e_aco)
                have e_acr := ((fv131 acr m_acr n_acr_ce).trans e_acr)
                have e_bco := ((fv131 bco m_bco n_bco_ce).trans e_bco)
                have e_bcr := ((fv131 bcr m_bcr n_bcr_ce).trans e_bcr)
                refine q_vv (As := [.ref aco, .ref bco]) (rest := []) ⟨hx, hb, hml, hown, hts⟩ (k_X0_becomeTogether l D g m_co e_co m_cr e_cr m_aco e_aco m_acr e_acr m_bco e_bco m_bcr e_bcr n_aco_co n_acr_cr n_bco_co n_bcr_cr hz175) (cwV 2 hts gX8_join_X0_becomeTogether rfl rfl rfl (by decide +kernel) ⟨Nat.le_of_ble_eq_true rfl, Nat.le_of_ble_eq_true rfl⟩) S m_co e_co (T := TX0) (N := 2) rfl rfl hl.1 rfl (Nat.le_of_ble_eq_true rfl) dX8_join_175 ⟨Nat.le_of_ble_eq_true rfl, Nat.le_of_ble_eq_true rfl⟩ (fun L39 f40 H locs S w175 => ?_)
                obtain ⟨eL, fv175, E_co, E_cr⟩ := w175
                rw [eL] at S
                have fr : ∀ b, b ∈ L → b ≠ xb → b ≠ h → b ≠ ce → b ≠ co → b ≠ cr → f40 b = f b := fun b mb nb0 nb1 nb2 nb3 nb4 => (fv175 b mb nb3 nb4).trans (fr b mb nb0 nb1 nb2 nb3 nb4)
                have e_co : f40 co = .inr (0, [.ref cr, .int z175.1]) := E_co
                have e_cr : f40 cr = .inl (g 1, 1000, .inr (.inl z175.2)) := E_cr
                refine lv_aload_n hx hb dX8_join_178 rfl (lv_at hl 4 rfl) ?_
                refine lv_dup hx hb dX8_join_179 rfl ?_
                have e_xb := ((fv175 xb m_xb n_xb_co n_xb_cr).trans ((fv131 xb m_xb n_xb_ce).trans ((fv120 xb m_xb n_xb_h n_xb_ce n_xb_co).trans e_xb)))
                refine q_get hx hb hts in_X8 hown S m_xb e_xb (C := RX8) (T := TX8) (N := 8) rfl 7 (by decide) rfl (hts (.fieldLink RX8 84 "SieveCabinet" "made" "I") (by decide +kernel)) dX8_join_180 ?_
                refine lv_dup_x1 hx hb dX8_join_183 rfl rfl ?_
                refine lv_iconst (v := (1 : Int32)) hx hb dX8_join_184 (by decide) ?_
                refine lv_iadd hx hb dX8_join_185 ?_
                refine k_put hx hb hts in_X8 tyX8 tyX8_ok nmX8 hown S m_xb e_xb (C := RX8) (T := TX8) (N := 8) rfl 7 (by decide) (hts (.fieldLink RX8 84 "SieveCabinet" "made" "I") (by decide +kernel)) rfl rfl rfl (Nat.le_of_ble_eq_true rfl) dX8_join_186 (fun f42 ef42 H locs S => ?_)
                have e_xb : f42 xb = .inr (6, [.ref wo, .ref Sl, .ref dr, .ref ri, .ref th, .ref so, .ref ch, .int (md + (1 : Int32))]) := up_self ef42
                have fr : ∀ b, b ∈ L → b ≠ xb → b ≠ h → b ≠ ce → b ≠ co → b ≠ cr → f42 b = f b := fun b mb nb0 nb1 nb2 nb3 nb4 => (up_ne ef42 nb0 rfl).trans (fr b mb nb0 nb1 nb2 nb3 nb4)
                have e_h := (up_ne ef42 n_h_xb ((fv175 h m_h n_h_co n_h_cr).trans e_h))
                have e_ce := (up_ne ef42 n_ce_xb ((fv175 ce m_ce n_ce_co n_ce_cr).trans e_ce))
                have e_co := (up_ne ef42 n_co_xb e_co)
                have e_cr := (up_ne ef42 n_cr_xb e_cr)
                subst hQQ
                exact q_reti (post := fun x L1 f1 => x = z.1 ∧ L1 = L ∧ (∀ b, b ∈ L → b ≠ xb → b ≠ h → b ≠ ce → b ≠ co → b ≠ cr → f1 b = f b) ∧ f1 xb = .inr (6, [.ref wo, .ref Sl, .ref dr, .ref ri, .ref th, .ref so, .ref ch, .int z.2.1]) ∧ f1 h = .inr (4, [.ref ce, .ref co, lay, .int z.2.2.1, .int z.2.2.2.1, .int z.2.2.2.2.1, .int z.2.2.2.2.2.1]) ∧ f1 ce = .inl (g 0, 4096, .inl z.2.2.2.2.2.2.1) ∧ f1 co = .inr (0, [.ref cr, .int z.2.2.2.2.2.2.2.1]) ∧ f1 cr = .inl (g 1, 1000, .inr (.inl z.2.2.2.2.2.2.2.2))) hx hb hr hlk S dX8_join_189 (by decide) (by decide) (by have hz := Option.some.inj hM; subst hz; exact ⟨rfl, rfl, fr, e_xb, e_h, e_ce, e_co, e_cr⟩)
              · have hM := itF b136 hM
                refine lv_aload hx hb dX8_join_139 (lv_at hl 1 rfl) ?_
                have e_h := ((fv131 h m_h n_h_ce).trans e_h)
                refine q_getN hx hb hts in_X6 hown S m_h e_h (C := RX6) (T := TX6) (N := 7) rfl 1 (by decide) rfl (by decide) dX8_join_141 ?_
                refine lv_aload hx hb dX8_join_144 (lv_at hl 3 rfl) ?_
                have e_ah := ((fv131 ah m_ah n_ah_ce).trans e_ah)
                refine q_getN hx hb hts in_X6 hown S m_ah e_ah (C := RX6) (T := TX6) (N := 7) rfl 1 (by decide) rfl (by decide) dX8_join_146 ?_
                refine lv_aload hx hb dX8_join_149 (lv_at hl 2 rfl) ?_
                have e_bh := ((fv131 bh m_bh n_bh_ce).trans e_bh)
                refine q_getN hx hb hts in_X6 hown S m_bh e_bh (C := RX6) (T := TX6) (N := 7) rfl 1 (by decide) rfl (by decide) dX8_join_151 ?_
                obtain ⟨z154, hz154, hM⟩ := bind_some hM
                have e_co := ((fv131 co m_co n_co_ce).trans e_co)
                have e_cr := ((fv131 cr m_cr n_cr_ce).trans e_cr)
                have e_aco := ((fv131 aco m_aco n_aco_ce).trans e_aco)
                have e_acr := ((fv131 acr m_acr n_acr_ce).trans e_acr)
                have e_bco := ((fv131 bco m_bco n_bco_ce).trans e_bco)
                have e_bcr := ((fv131 bcr m_bcr n_bcr_ce).trans e_bcr)
                refine q_vv (As := [.ref aco, .ref bco]) (rest := []) ⟨hx, hb, hml, hown, hts⟩ (k_X0_becomeShared l D g m_co e_co m_cr e_cr m_aco e_aco m_acr e_acr m_bco e_bco m_bcr e_bcr n_aco_co n_bco_co n_acr_cr n_bcr_cr hz154) (cwV 2 hts gX8_join_X0_becomeShared rfl rfl rfl (by decide +kernel) ⟨Nat.le_of_ble_eq_true rfl, Nat.le_of_ble_eq_true rfl⟩) S m_co e_co (T := TX0) (N := 2) rfl rfl hl.1 rfl (Nat.le_of_ble_eq_true rfl) dX8_join_154 ⟨Nat.le_of_ble_eq_true rfl, Nat.le_of_ble_eq_true rfl⟩ (fun L43 f44 H locs S w154 => ?_)
                obtain ⟨eL, fv154, E_co, E_cr⟩ := w154
                rw [eL] at S
                have fr : ∀ b, b ∈ L → b ≠ xb → b ≠ h → b ≠ ce → b ≠ co → b ≠ cr → f44 b = f b := fun b mb nb0 nb1 nb2 nb3 nb4 => (fv154 b mb nb3 nb4).trans (fr b mb nb0 nb1 nb2 nb3 nb4)
                have e_co : f44 co = .inr (0, [.ref cr, .int z154.1]) := E_co
                have e_cr : f44 cr = .inl (g 1, 1000, .inr (.inl z154.2)) := E_cr
                refine lv_goto (tgt := 178) hx hb dX8_join_157 (by decide) ?_
                refine lv_aload_n hx hb dX8_join_178 rfl (lv_at hl 4 rfl) ?_
                refine lv_dup hx hb dX8_join_179 rfl ?_
                have e_xb := ((fv154 xb m_xb n_xb_co n_xb_cr).trans ((fv131 xb m_xb n_xb_ce).trans ((fv120 xb m_xb n_xb_h n_xb_ce n_xb_co).trans e_xb)))
                refine q_get hx hb hts in_X8 hown S m_xb e_xb (C := RX8) (T := TX8) (N := 8) rfl 7 (by decide) rfl (hts (.fieldLink RX8 84 "SieveCabinet" "made" "I") (by decide +kernel)) dX8_join_180 ?_
                refine lv_dup_x1 hx hb dX8_join_183 rfl rfl ?_
                refine lv_iconst (v := (1 : Int32)) hx hb dX8_join_184 (by decide) ?_
                refine lv_iadd hx hb dX8_join_185 ?_
                refine k_put hx hb hts in_X8 tyX8 tyX8_ok nmX8 hown S m_xb e_xb (C := RX8) (T := TX8) (N := 8) rfl 7 (by decide) (hts (.fieldLink RX8 84 "SieveCabinet" "made" "I") (by decide +kernel)) rfl rfl rfl (Nat.le_of_ble_eq_true rfl) dX8_join_186 (fun f46 ef46 H locs S => ?_)
                have e_xb : f46 xb = .inr (6, [.ref wo, .ref Sl, .ref dr, .ref ri, .ref th, .ref so, .ref ch, .int (md + (1 : Int32))]) := up_self ef46
                have fr : ∀ b, b ∈ L → b ≠ xb → b ≠ h → b ≠ ce → b ≠ co → b ≠ cr → f46 b = f b := fun b mb nb0 nb1 nb2 nb3 nb4 => (up_ne ef46 nb0 rfl).trans (fr b mb nb0 nb1 nb2 nb3 nb4)
                have e_h := (up_ne ef46 n_h_xb ((fv154 h m_h n_h_co n_h_cr).trans e_h))
                have e_ce := (up_ne ef46 n_ce_xb ((fv154 ce m_ce n_ce_co n_ce_cr).trans e_ce))
                have e_co := (up_ne ef46 n_co_xb e_co)
                have e_cr := (up_ne ef46 n_cr_xb e_cr)
                subst hQQ
                exact q_reti (post := fun x L1 f1 => x = z.1 ∧ L1 = L ∧ (∀ b, b ∈ L → b ≠ xb → b ≠ h → b ≠ ce → b ≠ co → b ≠ cr → f1 b = f b) ∧ f1 xb = .inr (6, [.ref wo, .ref Sl, .ref dr, .ref ri, .ref th, .ref so, .ref ch, .int z.2.1]) ∧ f1 h = .inr (4, [.ref ce, .ref co, lay, .int z.2.2.1, .int z.2.2.2.1, .int z.2.2.2.2.1, .int z.2.2.2.2.2.1]) ∧ f1 ce = .inl (g 0, 4096, .inl z.2.2.2.2.2.2.1) ∧ f1 co = .inr (0, [.ref cr, .int z.2.2.2.2.2.2.2.1]) ∧ f1 cr = .inl (g 1, 1000, .inr (.inl z.2.2.2.2.2.2.2.2))) hx hb hr hlk S dX8_join_189 (by decide) (by decide) (by have hz := Option.some.inj hM; subst hz; exact ⟨rfl, rfl, fr, e_xb, e_h, e_ce, e_co, e_cr⟩)
            · have hM := itF b96 hM
              refine lv_bipush (v := (-4 : Int32)) hx hb dX8_join_99 (by decide) ?_
              subst hQQ
              exact q_reti (post := fun x L1 f1 => x = z.1 ∧ L1 = L ∧ (∀ b, b ∈ L → b ≠ xb → b ≠ h → b ≠ ce → b ≠ co → b ≠ cr → f1 b = f b) ∧ f1 xb = .inr (6, [.ref wo, .ref Sl, .ref dr, .ref ri, .ref th, .ref so, .ref ch, .int z.2.1]) ∧ f1 h = .inr (4, [.ref ce, .ref co, lay, .int z.2.2.1, .int z.2.2.2.1, .int z.2.2.2.2.1, .int z.2.2.2.2.2.1]) ∧ f1 ce = .inl (g 0, 4096, .inl z.2.2.2.2.2.2.1) ∧ f1 co = .inr (0, [.ref cr, .int z.2.2.2.2.2.2.2.1]) ∧ f1 cr = .inl (g 1, 1000, .inr (.inl z.2.2.2.2.2.2.2.2))) hx hb hr hlk S dX8_join_101 (by decide) (by decide) (by have hz := Option.some.inj hM; subst hz; exact ⟨rfl, rfl, fr, e_xb, e_h, e_ce, e_co, e_cr⟩)
        · have hM := itT b56 hM
          refine lv_iconst (v := (1 : Int32)) hx hb dX8_join_59 (by decide) ?_
          refine lv_goto (tgt := 64) hx hb dX8_join_60 (by decide) ?_
          refine lv_istore (lv' := [(7, .int (1 : Int32)), (6, .ref h), (5, .ref bh), (4, .ref ah), (0, .ref xb), (1, .int ho), (2, .int aq), (3, .int bq)]) hx hb dX8_join_64 hl (by decide) rfl (fun ls hl => ?_)
          refine lv_aload hx hb dX8_join_66 (lv_at hl 1 rfl) ?_
          refine lv_ifnull hx hb dX8_join_68 ?_
          refine lv_iload hx hb dX8_join_71 (lv_at hl 0 rfl) ?_
          refine lv_if_ne (tgt := 102) hx hb dX8_join_73 (by decide) (fun b73 => ?_) (fun b73 => ?_)
          · have hM := itF b73 hM
            refine lv_aload hx hb dX8_join_102 (lv_at hl 1 rfl) ?_
            refine lv_iconst (v := (0 : Int32)) hx hb dX8_join_104 (by decide) ?_
            refine lv_aload hx hb dX8_join_105 (lv_at hl 3 rfl) ?_
            refine q_getN hx hb hts in_X6 hown S m_ah e_ah (C := RX6) (T := TX6) (N := 7) rfl 4 (by decide) rfl (by decide) dX8_join_107 ?_
            refine lv_aload hx hb dX8_join_110 (lv_at hl 3 rfl) ?_
            refine q_getN hx hb hts in_X6 hown S m_ah e_ah (C := RX6) (T := TX6) (N := 7) rfl 5 (by decide) rfl (by decide) dX8_join_112 ?_
            refine lv_aload hx hb dX8_join_115 (lv_at hl 3 rfl) ?_
            refine q_getN hx hb hts in_X6 hown S m_ah e_ah (C := RX6) (T := TX6) (N := 7) rfl 6 (by decide) rfl (by decide) dX8_join_117 ?_
            obtain ⟨z120, hz120, hM⟩ := bind_some hM
            refine q_vv (As := [.int (0 : Int32), .int asz, .int amk, .int asd]) (rest := []) ⟨hx, hb, hml, hown, hts⟩ (k_X6_begin l D g m_h e_h m_ce e_ce m_co e_co hz120) (cwV 4 hts gX8_join_X6_begin rfl rfl rfl (by decide +kernel) ⟨Nat.le_of_ble_eq_true rfl, Nat.le_of_ble_eq_true rfl⟩) S m_h e_h (T := TX6) (N := 7) rfl rfl hl.1 rfl (Nat.le_of_ble_eq_true rfl) dX8_join_120 ⟨Nat.le_of_ble_eq_true rfl, Nat.le_of_ble_eq_true rfl⟩ (fun L47 f48 H locs S w120 => ?_)
            obtain ⟨eL, fv120, E_h, E_ce, E_co⟩ := w120
            rw [eL] at S
            have fr : ∀ b, b ∈ L → b ≠ xb → b ≠ h → b ≠ ce → b ≠ co → b ≠ cr → f48 b = f b := fun b mb nb0 nb1 nb2 nb3 nb4 => (fv120 b mb nb1 nb2 nb3).trans (fr b mb nb0 nb1 nb2 nb3 nb4)
            have e_h : f48 h = .inr (4, [.ref ce, .ref co, lay, .int z120.1, .int z120.2.1, .int z120.2.2.1, .int z120.2.2.2.1]) := E_h
            have e_ce : f48 ce = .inl (g 0, 4096, .inl z120.2.2.2.2.1) := E_ce
            have e_co : f48 co = .inr (0, [.ref cr, .int z120.2.2.2.2.2]) := E_co
            refine lv_aload hx hb dX8_join_123 (lv_at hl 1 rfl) ?_
            refine lv_iload hx hb dX8_join_125 (lv_at hl 0 rfl) ?_
            refine lv_aload hx hb dX8_join_127 (lv_at hl 3 rfl) ?_
            refine lv_aload hx hb dX8_join_129 (lv_at hl 2 rfl) ?_
            obtain ⟨z131, hz131, hM⟩ := bind_some hM
            have e_cr := ((fv120 cr m_cr n_cr_h n_cr_ce n_cr_co).trans e_cr)
            have e_ah := ((fv120 ah m_ah n_ah_h n_ah_ce n_ah_co).trans e_ah)
            have e_ace := ((fv120 ace m_ace n_ace_h n_ace_ce n_ace_co).trans e_ace)
            have e_aco := ((fv120 aco m_aco n_aco_h n_aco_ce n_aco_co).trans e_aco)
            have e_acr := ((fv120 acr m_acr n_acr_h n_acr_ce n_acr_co).trans e_acr)
            have e_bh := ((fv120 bh m_bh n_bh_h n_bh_ce n_bh_co).trans e_bh)
            have e_bce := ((fv120 bce m_bce n_bce_h n_bce_ce n_bce_co).trans e_bce)
            have e_bco := ((fv120 bco m_bco n_bco_h n_bco_ce n_bco_co).trans e_bco)
            have e_bcr := ((fv120 bcr m_bcr n_bcr_h n_bcr_ce n_bcr_co).trans e_bcr)
            refine q_vv (As := [.int (1 : Int32), .ref ah, .ref bh]) (rest := []) ⟨hx, hb, hml, hown, hts⟩ (k_X6_joinBits l D g m_h e_h m_ce e_ce m_co e_co m_cr e_cr m_ah e_ah m_ace e_ace m_aco e_aco m_acr e_acr m_bh e_bh m_bce e_bce m_bco e_bco m_bcr e_bcr n_ace_ce n_bce_ce hz131) (cwV 3 hts gX8_join_X6_joinBits rfl rfl rfl (by decide +kernel) ⟨Nat.le_of_ble_eq_true rfl, Nat.le_of_ble_eq_true rfl⟩) S m_h e_h (T := TX6) (N := 7) rfl rfl hl.1 rfl (Nat.le_of_ble_eq_true rfl) dX8_join_131 ⟨Nat.le_of_ble_eq_true rfl, Nat.le_of_ble_eq_true rfl⟩ (fun L50 f51 H locs S w131 => ?_)
            obtain ⟨eL, fv131, E_ce⟩ := w131
            rw [eL] at S
            have fr : ∀ b, b ∈ L → b ≠ xb → b ≠ h → b ≠ ce → b ≠ co → b ≠ cr → f51 b = f b := fun b mb nb0 nb1 nb2 nb3 nb4 => (fv131 b mb nb2).trans (fr b mb nb0 nb1 nb2 nb3 nb4)
            have e_ce : f51 ce = .inl (g 0, 4096, .inl z131) := E_ce
            refine lv_iload hx hb dX8_join_134 (lv_at hl 0 rfl) ?_
            refine lv_if_eq (tgt := 160) hx hb dX8_join_136 (by decide) (fun b136 => ?_) (fun b136 => ?_)
            · have hM := itT b136 hM
              refine lv_aload hx hb dX8_join_160 (lv_at hl 1 rfl) ?_
              have e_h := ((fv131 h m_h n_h_ce).trans e_h)
              refine q_getN hx hb hts in_X6 hown S m_h e_h (C := RX6) (T := TX6) (N := 7) rfl 1 (by decide) rfl (by decide) dX8_join_162 ?_
              refine lv_aload hx hb dX8_join_165 (lv_at hl 3 rfl) ?_
              have e_ah := ((fv131 ah m_ah n_ah_ce).trans e_ah)
              refine q_getN hx hb hts in_X6 hown S m_ah e_ah (C := RX6) (T := TX6) (N := 7) rfl 1 (by decide) rfl (by decide) dX8_join_167 ?_
              refine lv_aload hx hb dX8_join_170 (lv_at hl 2 rfl) ?_
              have e_bh := ((fv131 bh m_bh n_bh_ce).trans e_bh)
              refine q_getN hx hb hts in_X6 hown S m_bh e_bh (C := RX6) (T := TX6) (N := 7) rfl 1 (by decide) rfl (by decide) dX8_join_172 ?_
              obtain ⟨z175, hz175, hM⟩ := bind_some hM
              have e_co := ((fv131 co m_co n_co_ce).trans e_co)
              have e_cr := ((fv131 cr m_cr n_cr_ce).trans e_cr)
              have e_aco := ((fv131 aco m_aco n_aco_ce).trans e_aco)
              have e_acr := ((fv131 acr m_acr n_acr_ce).trans e_acr)
              have e_bco := ((fv131 bco m_bco n_bco_ce).trans e_bco)
              have e_bcr := ((fv131 bcr m_bcr n_bcr_ce).trans e_bcr)
              refine q_vv (As := [.ref aco, .ref bco]) (rest := []) ⟨hx, hb, hml, hown, hts⟩ (k_X0_becomeTogether l D g m_co e_co m_cr e_cr m_aco e_aco m_acr e_acr m_bco e_bco m_bcr e_bcr n_aco_co n_acr_cr n_bco_co n_bcr_cr hz175) (cwV 2 hts gX8_join_X0_becomeTogether rfl rfl rfl (by decide +kernel) ⟨Nat.le_of_ble_eq_true rfl, Nat.le_of_ble_eq_true rfl⟩) S m_co e_co (T := TX0) (N := 2) rfl rfl hl.1 rfl (Nat.le_of_ble_eq_true rfl) dX8_join_175 ⟨Nat.le_of_ble_eq_true rfl, Nat.le_of_ble_eq_true rfl⟩ (fun L53 f54 H locs S w175 => ?_)
              obtain ⟨eL, fv175, E_co, E_cr⟩ := w175
              rw [eL] at S
              have fr : ∀ b, b ∈ L → b ≠ xb → b ≠ h → b ≠ ce → b ≠ co → b ≠ cr → f54 b = f b := fun b mb nb0 nb1 nb2 nb3 nb4 => (fv175 b mb nb3 nb4).trans (fr b mb nb0 nb1 nb2 nb3 nb4)
              have e_co : f54 co = .inr (0, [.ref cr, .int z175.1]) := E_co
              have e_cr : f54 cr = .inl (g 1, 1000, .inr (.inl z175.2)) := E_cr
              refine lv_aload_n hx hb dX8_join_178 rfl (lv_at hl 4 rfl) ?_
              refine lv_dup hx hb dX8_join_179 rfl ?_
              have e_xb := ((fv175 xb m_xb n_xb_co n_xb_cr).trans ((fv131 xb m_xb n_xb_ce).trans ((fv120 xb m_xb n_xb_h n_xb_ce n_xb_co).trans e_xb)))
              refine q_get hx hb hts in_X8 hown S m_xb e_xb (C := RX8) (T := TX8) (N := 8) rfl 7 (by decide) rfl (hts (.fieldLink RX8 84 "SieveCabinet" "made" "I") (by decide +kernel)) dX8_join_180 ?_
              refine lv_dup_x1 hx hb dX8_join_183 rfl rfl ?_
              refine lv_iconst (v := (1 : Int32)) hx hb dX8_join_184 (by decide) ?_
              refine lv_iadd hx hb dX8_join_185 ?_
              refine k_put hx hb hts in_X8 tyX8 tyX8_ok nmX8 hown S m_xb e_xb (C := RX8) (T := TX8) (N := 8) rfl 7 (by decide) (hts (.fieldLink RX8 84 "SieveCabinet" "made" "I") (by decide +kernel)) rfl rfl rfl (Nat.le_of_ble_eq_true rfl) dX8_join_186 (fun f56 ef56 H locs S => ?_)
              have e_xb : f56 xb = .inr (6, [.ref wo, .ref Sl, .ref dr, .ref ri, .ref th, .ref so, .ref ch, .int (md + (1 : Int32))]) := up_self ef56
              have fr : ∀ b, b ∈ L → b ≠ xb → b ≠ h → b ≠ ce → b ≠ co → b ≠ cr → f56 b = f b := fun b mb nb0 nb1 nb2 nb3 nb4 => (up_ne ef56 nb0 rfl).trans (fr b mb nb0 nb1 nb2 nb3 nb4)
              have e_h := (up_ne ef56 n_h_xb ((fv175 h m_h n_h_co n_h_cr).trans e_h))
              have e_ce := (up_ne ef56 n_ce_xb ((fv175 ce m_ce n_ce_co n_ce_cr).trans e_ce))
              have e_co := (up_ne ef56 n_co_xb e_co)
              have e_cr := (up_ne ef56 n_cr_xb e_cr)
              subst hQQ
              exact q_reti (post := fun x L1 f1 => x = z.1 ∧ L1 = L ∧ (∀ b, b ∈ L → b ≠ xb → b ≠ h → b ≠ ce → b ≠ co → b ≠ cr → f1 b = f b) ∧ f1 xb = .inr (6, [.ref wo, .ref Sl, .ref dr, .ref ri, .ref th, .ref so, .ref ch, .int z.2.1]) ∧ f1 h = .inr (4, [.ref ce, .ref co, lay, .int z.2.2.1, .int z.2.2.2.1, .int z.2.2.2.2.1, .int z.2.2.2.2.2.1]) ∧ f1 ce = .inl (g 0, 4096, .inl z.2.2.2.2.2.2.1) ∧ f1 co = .inr (0, [.ref cr, .int z.2.2.2.2.2.2.2.1]) ∧ f1 cr = .inl (g 1, 1000, .inr (.inl z.2.2.2.2.2.2.2.2))) hx hb hr hlk S dX8_join_189 (by decide) (by decide) (by have hz := Option.some.inj hM; subst hz; exact ⟨rfl, rfl, fr, e_xb, e_h, e_ce, e_co, e_cr⟩)
            · have hM := itF b136 hM
              refine lv_aload hx hb dX8_join_139 (lv_at hl 1 rfl) ?_
              have e_h := ((fv131 h m_h n_h_ce).trans e_h)
              refine q_getN hx hb hts in_X6 hown S m_h e_h (C := RX6) (T := TX6) (N := 7) rfl 1 (by decide) rfl (by decide) dX8_join_141 ?_
              refine lv_aload hx hb dX8_join_144 (lv_at hl 3 rfl) ?_
              have e_ah := ((fv131 ah m_ah n_ah_ce).trans e_ah)
              refine q_getN hx hb hts in_X6 hown S m_ah e_ah (C := RX6) (T := TX6) (N := 7) rfl 1 (by decide) rfl (by decide) dX8_join_146 ?_
              refine lv_aload hx hb dX8_join_149 (lv_at hl 2 rfl) ?_
              have e_bh := ((fv131 bh m_bh n_bh_ce).trans e_bh)
              refine q_getN hx hb hts in_X6 hown S m_bh e_bh (C := RX6) (T := TX6) (N := 7) rfl 1 (by decide) rfl (by decide) dX8_join_151 ?_
              obtain ⟨z154, hz154, hM⟩ := bind_some hM
              have e_co := ((fv131 co m_co n_co_ce).trans e_co)
              have e_cr := ((fv131 cr m_cr n_cr_ce).trans e_cr)
              have e_aco := ((fv131 aco m_aco n_aco_ce).trans e_aco)
              have e_acr := ((fv131 acr m_acr n_acr_ce).trans e_acr)
              have e_bco := ((fv131 bco m_bco n_bco_ce).trans e_bco)
              have e_bcr := ((fv131 bcr m_bcr n_bcr_ce).trans e_bcr)
              refine q_vv (As := [.ref aco, .ref bco]) (rest := []) ⟨hx, hb, hml, hown, hts⟩ (k_X0_becomeShared l D g m_co e_co m_cr e_cr m_aco e_aco m_acr e_acr m_bco e_bco m_bcr e_bcr n_aco_co n_bco_co n_acr_cr n_bcr_cr hz154) (cwV 2 hts gX8_join_X0_becomeShared rfl rfl rfl (by decide +kernel) ⟨Nat.le_of_ble_eq_true rfl, Nat.le_of_ble_eq_true rfl⟩) S m_co e_co (T := TX0) (N := 2) rfl rfl hl.1 rfl (Nat.le_of_ble_eq_true rfl) dX8_join_154 ⟨Nat.le_of_ble_eq_true rfl, Nat.le_of_ble_eq_true rfl⟩ (fun L57 f58 H locs S w154 => ?_)
              obtain ⟨eL, fv154, E_co, E_cr⟩ := w154
              rw [eL] at S
              have fr : ∀ b, b ∈ L → b ≠ xb → b ≠ h → b ≠ ce → b ≠ co → b ≠ cr → f58 b = f b := fun b mb nb0 nb1 nb2 nb3 nb4 => (fv154 b mb nb3 nb4).trans (fr b mb nb0 nb1 nb2 nb3 nb4)
              have e_co : f58 co = .inr (0, [.ref cr, .int z154.1]) := E_co
              have e_cr : f58 cr = .inl (g 1, 1000, .inr (.inl z154.2)) := E_cr
              refine lv_goto (tgt := 178) hx hb dX8_join_157 (by decide) ?_
              refine lv_aload_n hx hb dX8_join_178 rfl (lv_at hl 4 rfl) ?_
              refine lv_dup hx hb dX8_join_179 rfl ?_
              have e_xb := ((fv154 xb m_xb n_xb_co n_xb_cr).trans ((fv131 xb m_xb n_xb_ce).trans ((fv120 xb m_xb n_xb_h n_xb_ce n_xb_co).trans e_xb)))
              refine q_get hx hb hts in_X8 hown S m_xb e_xb (C := RX8) (T := TX8) (N := 8) rfl 7 (by decide) rfl (hts (.fieldLink RX8 84 "SieveCabinet" "made" "I") (by decide +kernel)) dX8_join_180 ?_
              refine lv_dup_x1 hx hb dX8_join_183 rfl rfl ?_
              refine lv_iconst (v := (1 : Int32)) hx hb dX8_join_184 (by decide) ?_
              refine lv_iadd hx hb dX8_join_185 ?_
              refine k_put hx hb hts in_X8 tyX8 tyX8_ok nmX8 hown S m_xb e_xb (C := RX8) (T := TX8) (N := 8) rfl 7 (by decide) (hts (.fieldLink RX8 84 "SieveCabinet" "made" "I") (by decide +kernel)) rfl rfl rfl (Nat.le_of_ble_eq_true rfl) dX8_join_186 (fun f60 ef60 H locs S => ?_)
              have e_xb : f60 xb = .inr (6, [.ref wo, .ref Sl, .ref dr, .ref ri, .ref th, .ref so, .ref ch, .int (md + (1 : Int32))]) := up_self ef60
              have fr : ∀ b, b ∈ L → b ≠ xb → b ≠ h → b ≠ ce → b ≠ co → b ≠ cr → f60 b = f b := fun b mb nb0 nb1 nb2 nb3 nb4 => (up_ne ef60 nb0 rfl).trans (fr b mb nb0 nb1 nb2 nb3 nb4)
              have e_h := (up_ne ef60 n_h_xb ((fv154 h m_h n_h_co n_h_cr).trans e_h))
              have e_ce := (up_ne ef60 n_ce_xb ((fv154 ce m_ce n_ce_co n_ce_cr).trans e_ce))
              have e_co := (up_ne ef60 n_co_xb e_co)
              have e_cr := (up_ne ef60 n_cr_xb e_cr)
              subst hQQ
              exact q_reti (post := fun x L1 f1 => x = z.1 ∧ L1 = L ∧ (∀ b, b ∈ L → b ≠ xb → b ≠ h → b ≠ ce → b ≠ co → b ≠ cr → f1 b = f b) ∧ f1 xb = .inr (6, [.ref wo, .ref Sl, .ref dr, .ref ri, .ref th, .ref so, .ref ch, .int z.2.1]) ∧ f1 h = .inr (4, [.ref ce, .ref co, lay, .int z.2.2.1, .int z.2.2.2.1, .int z.2.2.2.2.1, .int z.2.2.2.2.2.1]) ∧ f1 ce = .inl (g 0, 4096, .inl z.2.2.2.2.2.2.1) ∧ f1 co = .inr (0, [.ref cr, .int z.2.2.2.2.2.2.2.1]) ∧ f1 cr = .inl (g 1, 1000, .inr (.inl z.2.2.2.2.2.2.2.2))) hx hb hr hlk S dX8_join_189 (by decide) (by decide) (by have hz := Option.some.inj hM; subst hz; exact ⟨rfl, rfl, fr, e_xb, e_h, e_ce, e_co, e_cr⟩)
          · have hM := itT b73 hM
            refine lv_aload hx hb dX8_join_76 (lv_at hl 3 rfl) ?_
            refine q_getN hx hb hts in_X6 hown S m_ah e_ah (C := RX6) (T := TX6) (N := 7) rfl 1 (by decide) rfl (by decide) dX8_join_78 ?_
            obtain ⟨z81, hz81, hM⟩ := bind_some hM
            refine q_vi (As := []) (rest := []) ⟨hx, hb, hml, hown, hts⟩ (k_X0_count l D g m_aco e_aco hz81) (cwV 0 hts gX8_join_X0_count rfl rfl rfl (by decide +kernel) ⟨Nat.le_of_ble_eq_true rfl, Nat.le_of_ble_eq_true rfl⟩) S m_aco e_aco (T := TX0) (N := 2) rfl rfl hl.1 rfl (Nat.le_of_ble_eq_true rfl) dX8_join_81 ⟨Nat.le_of_ble_eq_true rfl, Nat.le_of_ble_eq_true rfl⟩ (fun r63 L61 f62 H locs S w81 => ?_)
            obtain ⟨ex81, eL, ef⟩ := w81
            rw [eL, ef] at S
            replace ex81 := ex81.symm
            subst ex81
            refine lv_aload hx hb dX8_join_84 (lv_at hl 2 rfl) ?_
            refine q_getN hx hb hts in_X6 hown S m_bh e_bh (C := RX6) (T := TX6) (N := 7) rfl 1 (by decide) rfl (by decide) dX8_join_86 ?_
            obtain ⟨z89, hz89, hM⟩ := bind_some hM
            refine q_vi (As := []) (rest := [.int z81]) ⟨hx, hb, hml, hown, hts⟩ (k_X0_count l D g m_bco e_bco hz89) (cwV 0 hts gX8_join_X0_count rfl rfl rfl (by decide +kernel) ⟨Nat.le_of_ble_eq_true rfl, Nat.le_of_ble_eq_true rfl⟩) S m_bco e_bco (T := TX0) (N := 2) rfl rfl hl.1 rfl (Nat.le_of_ble_eq_true rfl) dX8_join_89 ⟨Nat.le_of_ble_eq_true rfl, Nat.le_of_ble_eq_true rfl⟩ (fun r66 L64 f65 H locs S w89 => ?_)
            obtain ⟨ex89, eL, ef⟩ := w89
            rw [eL, ef] at S
            replace ex89 := ex89.symm
            subst ex89
            refine lv_iadd hx hb dX8_join_92 ?_
            refine lv_sipush (v := (1000 : Int32)) hx hb dX8_join_93 (by decide) ?_
            refine lv_icmp_le (tgt := 102) hx hb dX8_join_96 (by decide) (fun b96 => ?_) (fun b96 => ?_)
            · have hM := itT b96 hM
              refine lv_aload hx hb dX8_join_102 (lv_at hl 1 rfl) ?_
              refine lv_iconst (v := (0 : Int32)) hx hb dX8_join_104 (by decide) ?_
              refine lv_aload hx hb dX8_join_105 (lv_at hl 3 rfl) ?_
              refine q_getN hx hb hts in_X6 hown S m_ah e_ah (C := RX6) (T := TX6) (N := 7) rfl 4 (by decide) rfl (by decide) dX8_join_107 ?_
              refine lv_aload hx hb dX8_join_110 (lv_at hl 3 rfl) ?_
              refine q_getN hx hb hts in_X6 hown S m_ah e_ah (C := RX6) (T := TX6) (N := 7) rfl 5 (by decide) rfl (by decide) dX8_join_112 ?_
              refine lv_aload hx hb dX8_join_115 (lv_at hl 3 rfl) ?_
              refine q_getN hx hb hts in_X6 hown S m_ah e_ah (C := RX6) (T := TX6) (N := 7) rfl 6 (by decide) rfl (by decide) dX8_join_117 ?_
              obtain ⟨z120, hz120, hM⟩ := bind_some hM
              refine q_vv (As := [.int (0 : Int32), .int asz, .int amk, .int asd]) (rest := []) ⟨hx, hb, hml, hown, hts⟩ (k_X6_begin l D g m_h e_h m_ce e_ce m_co e_co hz120) (cwV 4 hts gX8_join_X6_begin rfl rfl rfl (by decide +kernel) ⟨Nat.le_of_ble_eq_true rfl, Nat.le_of_ble_eq_true rfl⟩) S m_h e_h (T := TX6) (N := 7) rfl rfl hl.1 rfl (Nat.le_of_ble_eq_true rfl) dX8_join_120 ⟨Nat.le_of_ble_eq_true rfl, Nat.le_of_ble_eq_true rfl⟩ (fun L67 f68 H locs S w120 => ?_)
              obtain ⟨eL, fv120, E_h, E_ce, E_co⟩ := w120
              rw [eL] at S
              have fr : ∀ b, b ∈ L → b ≠ xb → b ≠ h → b ≠ ce → b ≠ co → b ≠ cr → f68 b = f b := fun b mb nb0 nb1 nb2 nb3 nb4 => (fv120 b mb nb1 nb2 nb3).trans (fr b mb nb0 nb1 nb2 nb3 nb4)
              have e_h : f68 h = .inr (4, [.ref ce, .ref co, lay, .int z120.1, .int z120.2.1, .int z120.2.2.1, .int z120.2.2.2.1]) := E_h
              have e_ce : f68 ce = .inl (g 0, 4096, .inl z120.2.2.2.2.1) := E_ce
              have e_co : f68 co = .inr (0, [.ref cr, .int z120.2.2.2.2.2]) := E_co
              refine lv_aload hx hb dX8_join_123 (lv_at hl 1 rfl) ?_
              refine lv_iload hx hb dX8_join_125 (lv_at hl 0 rfl) ?_
              refine lv_aload hx hb dX8_join_127 (lv_at hl 3 rfl) ?_
              refine lv_aload hx hb dX8_join_129 (lv_at hl 2 rfl) ?_
              obtain ⟨z131, hz131, hM⟩ := bind_some hM
              have e_cr := ((fv120 cr m_cr n_cr_h n_cr_ce n_cr_co).trans e_cr)
              have e_ah := ((fv120 ah m_ah n_ah_h n_ah_ce n_ah_co).trans e_ah)
              have e_ace := ((fv120 ace m_ace n_ace_h n_ace_ce n_ace_co).trans e_ace)
              have e_aco := ((fv120 aco m_aco n_aco_h n_aco_ce n_aco_co).trans e_aco)
              have e_acr := ((fv120 acr m_acr n_acr_h n_acr_ce n_acr_co).trans e_acr)
              have e_bh := ((fv120 bh m_bh n_bh_h n_bh_ce n_bh_co).trans e_bh)
              have e_bce := ((fv120 bce m_bce n_bce_h n_bce_ce n_bce_co).trans e_bce)
              have e_bco := ((fv120 bco m_bco n_bco_h n_bco_ce n_bco_co).trans e_bco)
              have e_bcr := ((fv120 bcr m_bcr n_bcr_h n_bcr_ce n_bcr_co).trans e_bcr)
              refine q_vv (As := [.int (1 : Int32), .ref ah, .ref bh]) (rest := []) ⟨hx, hb, hml, hown, hts⟩ (k_X6_joinBits l D g m_h e_h m_ce e_ce m_co e_co m_cr e_cr m_ah e_ah m_ace e_ace m_aco e_aco m_acr e_acr m_bh e_bh m_bce e_bce m_bco e_bco m_bcr e_bcr n_ace_ce n_bce_ce hz131) (cwV 3 hts gX8_join_X6_joinBits rfl rfl rfl (by decide +kernel) ⟨Nat.le_of_ble_eq_true rfl, Nat.le_of_ble_eq_true rfl⟩) S m_h e_h (T := TX6) (N := 7) rfl rfl hl.1 rfl (Nat.le_of_ble_eq_true rfl) dX8_join_131 ⟨Nat.le_of_ble_eq_true rfl, Nat.le_of_ble_eq_true rfl⟩ (fun L70 f71 H locs S w131 => ?_)
              obtain ⟨eL, fv131, E_ce⟩ := w131
              rw [eL] at S
              have fr : ∀ b, b ∈ L → b ≠ xb → b ≠ h → b ≠ ce → b ≠ co → b ≠ cr → f71 b = f b := fun b mb nb0 nb1 nb2 nb3 nb4 => (fv131 b mb nb2).trans (fr b mb nb0 nb1 nb2 nb3 nb4)
              have e_ce : f71 ce = .inl (g 0, 4096, .inl z131) := E_ce
              refine lv_iload hx hb dX8_join_134 (lv_at hl 0 rfl) ?_
              refine lv_if_eq (tgt := 160) hx hb dX8_join_136 (by decide) (fun b136 => ?_) (fun b136 => ?_)
              · have hM := itT b136 hM
                refine lv_aload hx hb dX8_join_160 (lv_at hl 1 rfl) ?_
                have e_h := ((fv131 h m_h n_h_ce).trans e_h)
                refine q_getN hx hb hts in_X6 hown S m_h e_h (C := RX6) (T := TX6) (N := 7) rfl 1 (by decide) rfl (by decide) dX8_join_162 ?_
                refine lv_aload hx hb dX8_join_165 (lv_at hl 3 rfl) ?_
                have e_ah := ((fv131 ah m_ah n_ah_ce).trans e_ah)
                refine q_getN hx hb hts in_X6 hown S m_ah e_ah (C := RX6) (T := TX6) (N := 7) rfl 1 (by decide) rfl (by decide) dX8_join_167 ?_
                refine lv_aload hx hb dX8_join_170 (lv_at hl 2 rfl) ?_
                have e_bh := ((fv131 bh m_bh n_bh_ce).trans e_bh)
                refine q_getN hx hb hts in_X6 hown S m_bh e_bh (C := RX6) (T := TX6) (N := 7) rfl 1 (by decide) rfl (by decide) dX8_join_172 ?_
                obtain ⟨z175, hz175, hM⟩ := bind_some hM
                have e_co := ((fv131 co m_co n_co_ce).trans e_co)
                have e_cr := ((fv131 cr m_cr n_cr_ce).trans e_cr)
                have e_aco := ((fv131 aco m_aco n_aco_ce).trans e_aco)
                have e_acr := ((fv131 acr m_acr n_acr_ce).trans e_acr)
                have e_bco := ((fv131 bco m_bco n_bco_ce).trans e_bco)
                have e_bcr := ((fv131 bcr m_bcr n_bcr_ce).trans e_bcr)
                refine q_vv (As := [.ref aco, .ref bco]) (rest := []) ⟨hx, hb, hml, hown, hts⟩ (k_X0_becomeTogether l D g m_co e_co m_cr e_cr m_aco e_aco m_acr e_acr m_bco e_bco m_bcr e_bcr n_aco_co n_acr_cr n_bco_co n_bcr_cr hz175) (cwV 2 hts gX8_join_X0_becomeTogether rfl rfl rfl (by decide +kernel) ⟨Nat.le_of_ble_eq_true rfl, Nat.le_of_ble_eq_true rfl⟩) S m_co e_co (T := TX0) (N := 2) rfl rfl hl.1 rfl (Nat.le_of_ble_eq_true rfl) dX8_join_175 ⟨Nat.le_of_ble_eq_true rfl, Nat.le_of_ble_eq_true rfl⟩ (fun L73 f74 H locs S w175 => ?_)
                obtain ⟨eL, fv175, E_co, E_cr⟩ := w175
                rw [eL] at S
                have fr : ∀ b, b ∈ L → b ≠ xb → b ≠ h → b ≠ ce → b ≠ co → b ≠ cr → f74 b = f b := fun b mb nb0 nb1 nb2 nb3 nb4 => (fv175 b mb nb3 nb4).trans (fr b mb nb0 nb1 nb2 nb3 nb4)
                have e_co : f74 co = .inr (0, [.ref cr, .int z175.1]) := E_co
                have e_cr : f74 cr = .inl (g 1, 1000, .inr (.inl z175.2)) := E_cr
                refine lv_aload_n hx hb dX8_join_178 rfl (lv_at hl 4 rfl) ?_
                refine lv_dup hx hb dX8_join_179 rfl ?_
                have e_xb := ((fv175 xb m_xb n_xb_co n_xb_cr).trans ((fv131 xb m_xb n_xb_ce).trans ((fv120 xb m_xb n_xb_h n_xb_ce n_xb_co).trans e_xb)))
                refine q_get hx hb hts in_X8 hown S m_xb e_xb (C := RX8) (T := TX8) (N := 8) rfl 7 (by decide) rfl (hts (.fieldLink RX8 84 "SieveCabinet" "made" "I") (by decide +kernel)) dX8_join_180 ?_
                refine lv_dup_x1 hx hb dX8_join_183 rfl rfl ?_
                refine lv_iconst (v := (1 : Int32)) hx hb dX8_join_184 (by decide) ?_
                refine lv_iadd hx hb dX8_join_185 ?_
                refine k_put hx hb hts in_X8 tyX8 tyX8_ok nmX8 hown S m_xb e_xb (C := RX8) (T := TX8) (N := 8) rfl 7 (by decide) (hts (.fieldLink RX8 84 "SieveCabinet" "made" "I") (by decide +kernel)) rfl rfl rfl (Nat.le_of_ble_eq_true rfl) dX8_join_186 (fun f76 ef76 H locs S => ?_)
                have e_xb : f76 xb = .inr (6, [.ref wo, .ref Sl, .ref dr, .ref ri, .ref th, .ref so, .ref ch, .int (md + (1 : Int32))]) := up_self ef76
                have fr : ∀ b, b ∈ L → b ≠ xb → b ≠ h → b ≠ ce → b ≠ co → b ≠ cr → f76 b = f b := fun b mb nb0 nb1 nb2 nb3 nb4 => (up_ne ef76 nb0 rfl).trans (fr b mb nb0 nb1 nb2 nb3 nb4)
                have e_h := (up_ne ef76 n_h_xb ((fv175 h m_h n_h_co n_h_cr).trans e_h))
                have e_ce := (up_ne ef76 n_ce_xb ((fv175 ce m_ce n_ce_co n_ce_cr).trans e_ce))
                have e_co := (up_ne ef76 n_co_xb e_co)
                have e_cr := (up_ne ef76 n_cr_xb e_cr)
                subst hQQ
                exact q_reti (post := fun x L1 f1 => x = z.1 ∧ L1 = L ∧ (∀ b, b ∈ L → b ≠ xb → b ≠ h → b ≠ ce → b ≠ co → b ≠ cr → f1 b = f b) ∧ f1 xb = .inr (6, [.ref wo, .ref Sl, .ref dr, .ref ri, .ref th, .ref so, .ref ch, .int z.2.1]) ∧ f1 h = .inr (4, [.ref ce, .ref co, lay, .int z.2.2.1, .int z.2.2.2.1, .int z.2.2.2.2.1, .int z.2.2.2.2.2.1]) ∧ f1 ce = .inl (g 0, 4096, .inl z.2.2.2.2.2.2.1) ∧ f1 co = .inr (0, [.ref cr, .int z.2.2.2.2.2.2.2.1]) ∧ f1 cr = .inl (g 1, 1000, .inr (.inl z.2.2.2.2.2.2.2.2))) hx hb hr hlk S dX8_join_189 (by decide) (by decide) (by have hz := Option.some.inj hM; subst hz; exact ⟨rfl, rfl, fr, e_xb, e_h, e_ce, e_co, e_cr⟩)
              · have hM := itF b136 hM
                refine lv_aload hx hb dX8_join_139 (lv_at hl 1 rfl) ?_
                have e_h := ((fv131 h m_h n_h_ce).trans e_h)
                refine q_getN hx hb hts in_X6 hown S m_h e_h (C := RX6) (T := TX6) (N := 7) rfl 1 (by decide) rfl (by decide) dX8_join_141 ?_
                refine lv_aload hx hb dX8_join_144 (lv_at hl 3 rfl) ?_
                have e_ah := ((fv131 ah m_ah n_ah_ce).trans e_ah)
                refine q_getN hx hb hts in_X6 hown S m_ah e_ah (C := RX6) (T := TX6) (N := 7) rfl 1 (by decide) rfl (by decide) dX8_join_146 ?_
                refine lv_aload hx hb dX8_join_149 (lv_at hl 2 rfl) ?_
                have e_bh := ((fv131 bh m_bh n_bh_ce).trans e_bh)
                refine q_getN hx hb hts in_X6 hown S m_bh e_bh (C := RX6) (T := TX6) (N := 7) rfl 1 (by decide) rfl (by decide) dX8_join_151 ?_
                obtain ⟨z154, hz154, hM⟩ := bind_some hM
                have e_co := ((fv131 co m_co n_co_ce).trans e_co)
                have e_cr := ((fv131 cr m_cr n_cr_ce).trans e_cr)
                have e_aco := ((fv131 aco m_aco n_aco_ce).trans e_aco)
                have e_acr := ((fv131 acr m_acr n_acr_ce).trans e_acr)
                have e_bco := ((fv131 bco m_bco n_bco_ce).trans e_bco)
                have e_bcr := ((fv131 bcr m_bcr n_bcr_ce).trans e_bcr)
                refine q_vv (As := [.ref aco, .ref bco]) (rest := []) ⟨hx, hb, hml, hown, hts⟩ (k_X0_becomeShared l D g m_co e_co m_cr e_cr m_aco e_aco m_acr e_acr m_bco e_bco m_bcr e_bcr n_aco_co n_bco_co n_acr_cr n_bcr_cr hz154) (cwV 2 hts gX8_join_X0_becomeShared rfl rfl rfl (by decide +kernel) ⟨Nat.le_of_ble_eq_true rfl, Nat.le_of_ble_eq_true rfl⟩) S m_co e_co (T := TX0) (N := 2) rfl rfl hl.1 rfl (Nat.le_of_ble_eq_true rfl) dX8_join_154 ⟨Nat.le_of_ble_eq_true rfl, Nat.le_of_ble_eq_true rfl⟩ (fun L77 f78 H locs S w154 => ?_)
                obtain ⟨eL, fv154, E_co, E_cr⟩ := w154
                rw [eL] at S
                have fr : ∀ b, b ∈ L → b ≠ xb → b ≠ h → b ≠ ce → b ≠ co → b ≠ cr → f78 b = f b := fun b mb nb0 nb1 nb2 nb3 nb4 => (fv154 b mb nb3 nb4).trans (fr b mb nb0 nb1 nb2 nb3 nb4)
                have e_co : f78 co = .inr (0, [.ref cr, .int z154.1]) := E_co
                have e_cr : f78 cr = .inl (g 1, 1000, .inr (.inl z154.2)) := E_cr
                refine lv_goto (tgt := 178) hx hb dX8_join_157 (by decide) ?_
                refine lv_aload_n hx hb dX8_join_178 rfl (lv_at hl 4 rfl) ?_
                refine lv_dup hx hb dX8_join_179 rfl ?_
                have e_xb := ((fv154 xb m_xb n_xb_co n_xb_cr).trans ((fv131 xb m_xb n_xb_ce).trans ((fv120 xb m_xb n_xb_h n_xb_ce n_xb_co).trans e_xb)))
                refine q_get hx hb hts in_X8 hown S m_xb e_xb (C := RX8) (T := TX8) (N := 8) rfl 7 (by decide) rfl (hts (.fieldLink RX8 84 "SieveCabinet" "made" "I") (by decide +kernel)) dX8_join_180 ?_
                refine lv_dup_x1 hx hb dX8_join_183 rfl rfl ?_
                refine lv_iconst (v := (1 : Int32)) hx hb dX8_join_184 (by decide) ?_
                refine lv_iadd hx hb dX8_join_185 ?_
                refine k_put hx hb hts in_X8 tyX8 tyX8_ok nmX8 hown S m_xb e_xb (C := RX8) (T := TX8) (N := 8) rfl 7 (by decide) (hts (.fieldLink RX8 84 "SieveCabinet" "made" "I") (by decide +kernel)) rfl rfl rfl (Nat.le_of_ble_eq_true rfl) dX8_join_186 (fun f80 ef80 H locs S => ?_)
                have e_xb : f80 xb = .inr (6, [.ref wo, .ref Sl, .ref dr, .ref ri, .ref th, .ref so, .ref ch, .int (md + (1 : Int32))]) := up_self ef80
                have fr : ∀ b, b ∈ L → b ≠ xb → b ≠ h → b ≠ ce → b ≠ co → b ≠ cr → f80 b = f b := fun b mb nb0 nb1 nb2 nb3 nb4 => (up_ne ef80 nb0 rfl).trans (fr b mb nb0 nb1 nb2 nb3 nb4)
                have e_h := (up_ne ef80 n_h_xb ((fv154 h m_h n_h_co n_h_cr).trans e_h))
                have e_ce := (up_ne ef80 n_ce_xb ((fv154 ce m_ce n_ce_co n_ce_cr).trans e_ce))
                have e_co := (up_ne ef80 n_co_xb e_co)
                have e_cr := (up_ne ef80 n_cr_xb e_cr)
                subst hQQ
                exact q_reti (post := fun x L1 f1 => x = z.1 ∧ L1 = L ∧ (∀ b, b ∈ L → b ≠ xb → b ≠ h → b ≠ ce → b ≠ co → b ≠ cr → f1 b = f b) ∧ f1 xb = .inr (6, [.ref wo, .ref Sl, .ref dr, .ref ri, .ref th, .ref so, .ref ch, .int z.2.1]) ∧ f1 h = .inr (4, [.ref ce, .ref co, lay, .int z.2.2.1, .int z.2.2.2.1, .int z.2.2.2.2.1, .int z.2.2.2.2.2.1]) ∧ f1 ce = .inl (g 0, 4096, .inl z.2.2.2.2.2.2.1) ∧ f1 co = .inr (0, [.ref cr, .int z.2.2.2.2.2.2.2.1]) ∧ f1 cr = .inl (g 1, 1000, .inr (.inl z.2.2.2.2.2.2.2.2))) hx hb hr hlk S dX8_join_189 (by decide) (by decide) (by have hz := Option.some.inj hM; subst hz; exact ⟨rfl, rfl, fr, e_xb, e_h, e_ce, e_co, e_cr⟩)
            · have hM := itF b96 hM
              refine lv_bipush (v := (-4 : Int32)) hx hb dX8_join_99 (by decide) ?_
              subst hQQ
              exact q_reti (post := fun x L1 f1 => x = z.1 ∧ L1 = L ∧ (∀ b, b ∈ L → b ≠ xb → b ≠ h → b ≠ ce → b ≠ co → b ≠ cr → f1 b = f b) ∧ f1 xb = .inr (6, [.ref wo, .ref Sl, .ref dr, .ref ri, .ref th, .ref so, .ref ch, .int z.2.1]) ∧ f1 h = .inr (4, [.ref ce, .ref co, lay, .int z.2.2.1, .int z.2.2.2.1, .int z.2.2.2.2.1, .int z.2.2.2.2.2.1]) ∧ f1 ce = .inl (g 0, 4096, .inl z.2.2.2.2.2.2.1) ∧ f1 co = .inr (0, [.ref cr, .int z.2.2.2.2.2.2.2.1]) ∧ f1 cr = .inl (g 1, 1000, .inr (.inl z.2.2.2.2.2.2.2.2))) hx hb hr hlk S dX8_join_101 (by decide) (by decide) (by have hz := Option.some.inj hM; subst hz; exact ⟨rfl, rfl, fr, e_xb, e_h, e_ce, e_co, e_cr⟩)
      · have hM := itT b42 hM
        refine lv_bipush (v := (-2 : Int32)) hx hb dX8_join_45 (by decide) ?_
        subst hQQ
        exact q_reti (post := fun x L1 f1 => x = z.1 ∧ L1 = L ∧ (∀ b, b ∈ L → b ≠ xb → b ≠ h → b ≠ ce → b ≠ co → b ≠ cr → f1 b = f b) ∧ f1 xb = .inr (6, [.ref wo, .ref Sl, .ref dr, .ref ri, .ref th, .ref so, .ref ch, .int z.2.1]) ∧ f1 h = .inr (4, [.ref ce, .ref co, lay, .int z.2.2.1, .int z.2.2.2.1, .int z.2.2.2.2.1, .int z.2.2.2.2.2.1]) ∧ f1 ce = .inl (g 0, 4096, .inl z.2.2.2.2.2.2.1) ∧ f1 co = .inr (0, [.ref cr, .int z.2.2.2.2.2.2.2.1]) ∧ f1 cr = .inl (g 1, 1000, .inr (.inl z.2.2.2.2.2.2.2.2))) hx hb hr hlk S dX8_join_47 (by decide) (by decide) (by have hz := Option.some.inj hM; subst hz; exact ⟨rfl, rfl, fr, e_xb, e_h, e_ce, e_co, e_cr⟩)
    · have hM := itF b30 hM
      refine lv_iconst (v := (-1 : Int32)) hx hb dX8_join_33 (by decide) ?_
      subst hQQ
      exact q_reti (post := fun x L1 f1 => x = z.1 ∧ L1 = L ∧ (∀ b, b ∈ L → b ≠ xb → b ≠ h → b ≠ ce → b ≠ co → b ≠ cr → f1 b = f b) ∧ f1 xb = .inr (6, [.ref wo, .ref Sl, .ref dr, .ref ri, .ref th, .ref so, .ref ch, .int z.2.1]) ∧ f1 h = .inr (4, [.ref ce, .ref co, lay, .int z.2.2.1, .int z.2.2.2.1, .int z.2.2.2.2.1, .int z.2.2.2.2.2.1]) ∧ f1 ce = .inl (g 0, 4096, .inl z.2.2.2.2.2.2.1) ∧ f1 co = .inr (0, [.ref cr, .int z.2.2.2.2.2.2.2.1]) ∧ f1 cr = .inl (g 1, 1000, .inr (.inl z.2.2.2.2.2.2.2.2))) hx hb hr hlk S dX8_join_34 (by decide) (by decide) (by have hz := Option.some.inj hM; subst hz; exact ⟨rfl, rfl, fr, e_xb, e_h, e_ce, e_co, e_cr⟩)

def mX8_foldE (md : Int32) (akd : Int32) (asz : Int32) (amk : Int32) (asd : Int32) (akc : Nat → Int32) (an : Int32) (av : Nat → Int64) (kd : Int32) (sz : Int32) (mk : Int32) (sd : Int32) (kc : Nat → Int32) (n : Int32) (v : Nat → Int64) : Option (Int32 × Int32 × Int32 × Int32 × Int32 × Int32 × (Nat → Int32) × Int32 × (Nat → Int64)) := if akd = 0 then (if (8 : Int32) < asz then ((mX8_nextSlotE md).bind fun z32 => (mX6_begin kc (0 : Int32) (asz / (2 : Int32)) amk asd).bind fun z59 => (mX6_foldBits z59.2.1 z59.2.2.2.2.1 akc).bind fun z64 => (mX0_copyFrom v an av).bind fun z75 => some (md, (md + (1 : Int32)), z59.1, z59.2.1, z59.2.2.1, z59.2.2.2.1, z64, z75.1, z75.2)) else (some ((-2 : Int32), md, kd, sz, mk, sd, kc, n, v))) else (some ((-2 : Int32), md, kd, sz, mk, sd, kc, n, v))
set_option maxHeartbeats 4000000 in
set_option maxRecDepth 100000 in
theorem k_X8_foldE (l : Launch) (D : va_G) (g : Nat → ClassId) {L : List Nat} {f : Nat → va_E} {Sl ace aco acr ah ce ch co cr dr h ri so th wo xb : Nat} {md : Int32} {sf : Nat → Option Nat} {aq : Int32} {alay : Value} {akd : Int32} {asz : Int32} {amk : Int32} {asd : Int32} {akc : Nat → Int32} {an : Int32} {av : Nat → Int64} {jas : Nat} {lay : Value} {kd : Int32} {sz : Int32} {mk : Int32} {sd : Int32} {kc : Nat → Int32} {n : Int32} {v : Nat → Int64} {jm : Nat} {ρ : Nat → Nat × Nat} {z : Int32 × Int32 × Int32 × Int32 × Int32 × Int32 × (Nat → Int32) × Int32 × (Nat → Int64)} (m_xb : xb ∈ L) (e_xb : f xb = .inr (6, [.ref wo, .ref Sl, .ref dr, .ref ri, .ref th, .ref so, .ref ch, .int md])) (m_Sl : Sl ∈ L) (e_Sl : f Sl = .inl (g 5, 30, .inr (.inr (.inr (.inr sf))))) (m_ah : ah ∈ L) (e_ah : f ah = .inr (4, [.ref ace, .ref aco, alay, .int akd, .int asz, .int amk, .int asd])) (m_ace : ace ∈ L) (e_ace : f ace = .inl (g 0, 4096, .inl akc)) (m_aco : aco ∈ L) (e_aco : f aco = .inr (0, [.ref acr, .int an])) (m_acr : acr ∈ L) (e_acr : f acr = .inl (g 1, 1000, .inr (.inl av))) (m_h : h ∈ L) (e_h : f h = .inr (4, [.ref ce, .ref co, lay, .int kd, .int sz, .int mk, .int sd])) (m_ce : ce ∈ L) (e_ce : f ce = .inl (g 0, 4096, .inl kc)) (m_co : co ∈ L) (e_co : f co = .inr (0, [.ref cr, .int n])) (m_cr : cr ∈ L) (e_cr : f cr = .inl (g 1, 1000, .inr (.inl v)))  (r_ah : ρ ah = (2 + 2 * jas, 0)) (r_ace : ρ ace = (2 + 2 * jas, 0)) (r_aco : ρ aco = (2 + 2 * jas, 0)) (r_h : ρ h = (2 + 2 * jm, 0)) (r_ce : ρ ce = (2 + 2 * jm, 0)) (r_co : ρ co = (2 + 2 * jm, 0)) (hF_h : sf (Int32.toNatClampNeg md) = some h) (hja : jas ≠ jm) (hs2 : mX8_sieveAt md sf aq = some (some ah)) (hM : mX8_foldE md akd asz amk asd akc an av kd sz mk sd kc n v = some z) : cI l yX8_fold wsX8_fold { frames := 2, cells := 0, slots := 0, locals := 47 } D g [.ref xb, .int aq] L f 0 0 (fun x L1 f1 => x = z.1 ∧ L1 = L ∧ (∀ b, b ∈ L → b ≠ xb → b ≠ h → b ≠ ce → b ≠ co → b ≠ cr → f1 b = f b) ∧ f1 xb = .inr (6, [.ref wo, .ref Sl, .ref dr, .ref ri, .ref th, .ref so, .ref ch, .int z.2.1]) ∧ f1 h = .inr (4, [.ref ce, .ref co, lay, .int z.2.2.1, .int z.2.2.2.1, .int z.2.2.2.2.1, .int z.2.2.2.2.2.1]) ∧ f1 ce = .inl (g 0, 4096, .inl z.2.2.2.2.2.2.1) ∧ f1 co = .inr (0, [.ref cr, .int z.2.2.2.2.2.2.2.1]) ∧ f1 cr = .inl (g 1, 1000, .inr (.inl z.2.2.2.2.2.2.2.2))) := by
  refine cI_of (cc := cX8_fold) (maxL := 4) (ret := (some .int)) (by decide) rfl (Nat.le_of_ble_eq_true rfl) ?_
  intro szz p e s m below meth c hx hb hr hml hts hown hlk hnm S ls hl
  have hl : lv_has ls 4 [(0, .ref xb), (1, .int aq)] := hl
  have in_X6 : ∀ w ∈ wsX60, w ∈ wsX8_fold := by decide +kernel
  have in_X8 : ∀ w ∈ wsX80, w ∈ wsX8_fold := by decide +kernel
  have n_cr_h : cr ≠ h := ne_ri e_h e_cr
  have n_cr_ce : cr ≠ ce := ne_len e_ce e_cr (by decide)
  have n_cr_co : cr ≠ co := ne_ri e_co e_cr
  have n_ah_h : ah ≠ h := role_ne r_h r_ah (nr_ss hja)
  have n_ah_ce : ah ≠ ce := ne_ir e_ce e_ah
  have n_ah_co : ah ≠ co := ne_rr e_co e_ah (by decide)
  have n_ace_h : ace ≠ h := ne_ri e_h e_ace
  have n_ace_ce : ace ≠ ce := role_ne r_ce r_ace (nr_ss hja)
  have n_ace_co : ace ≠ co := ne_ri e_co e_ace
  have n_aco_h : aco ≠ h := ne_rr e_h e_aco (by decide)
  have n_aco_ce : aco ≠ ce := ne_ir e_ce e_aco
  have n_aco_co : aco ≠ co := role_ne r_co r_aco (nr_ss hja)
  have n_acr_h : acr ≠ h := ne_ri e_h e_acr
  have n_acr_ce : acr ≠ ce := ne_len e_ce e_acr (by decide)
  have n_acr_co : acr ≠ co := ne_ri e_co e_acr
  have n_h_ce : h ≠ ce := ne_ir e_ce e_h
  have n_co_ce : co ≠ ce := ne_ir e_ce e_co
  have n_xb_h : xb ≠ h := ne_rr e_h e_xb (by decide)
  have n_xb_ce : xb ≠ ce := ne_ir e_ce e_xb
  have n_xb_co : xb ≠ co := ne_rr e_co e_xb (by decide)
  have n_xb_cr : xb ≠ cr := ne_ir e_cr e_xb
  have n_h_co : h ≠ co := ne_rr e_co e_h (by decide)
  have n_h_cr : h ≠ cr := ne_ir e_cr e_h
  have n_h_xb : h ≠ xb := ne_rr e_xb e_h (by decide)
  have n_ce_co : ce ≠ co := ne_ri e_co e_ce
  have n_ce_cr : ce ≠ cr := ne_len e_cr e_ce (by decide)
  have n_ce_xb : ce ≠ xb := ne_ri e_xb e_ce
  have n_co_xb : co ≠ xb := ne_rr e_xb e_co (by decide)
  have n_cr_xb : cr ≠ xb := ne_ri e_xb e_cr
  have fr : ∀ b, b ∈ L → b ≠ xb → b ≠ h → b ≠ ce → b ≠ co → b ≠ cr → f b = f b := fun _ _ _ _ _ _ _ => rfl
  unfold mX8_foldE at hM
  refine W_gen (fun QQ hQQ => ?_)
  refine lv_aload_n hx hb dX8_fold_0 rfl (lv_at hl 0 rfl) ?_
  refine lv_iload_n hx hb dX8_fold_1 rfl (lv_at hl 1 rfl) ?_
  refine q_vq (As := [.int aq]) (rest := []) ⟨hx, hb, hml, hown, hts⟩ (k_X8_sieveAt l D g m_xb e_xb m_Sl e_Sl hs2) (cwV 1 hts gX8_fold_X8_sieveAt rfl rfl rfl (by decide +kernel) ⟨Nat.le_of_ble_eq_true rfl, Nat.le_of_ble_eq_true rfl⟩) S m_xb e_xb (T := TX8) (N := 8) rfl rfl hl.1 rfl (Nat.le_of_ble_eq_true rfl) dX8_fold_2 ⟨Nat.le_of_ble_eq_true rfl, Nat.le_of_ble_eq_true rfl⟩ (fun r3 L1 f2 H locs S w2 => ?_)
  obtain ⟨ex, eL, ef⟩ := w2
  rw [eL, ef] at S
  replace ex := ex.symm
  subst ex
  refine W.eq (g2 := F0 m 5 ls [.ref ah]) rfl ?_
  refine lv_astore_n (lv' := [(2, .ref ah), (0, .ref xb), (1, .int aq)]) hx hb dX8_fold_5 rfl hl (by decide) rfl (fun ls hl => ?_)
  refine lv_aload_n hx hb dX8_fold_6 rfl (lv_at hl 0 rfl) ?_
  refine lv_ifnonnull (tgt := 12) hx hb dX8_fold_7 (by decide) ?_
  refine lv_aload_n hx hb dX8_fold_12 rfl (lv_at hl 0 rfl) ?_
  refine q_getN hx hb hts in_X6 hown S m_ah e_ah (C := RX6) (T := TX6) (N := 7) rfl 3 (by decide) rfl (by decide) dX8_fold_13 ?_
  refine lv_if_ne (tgt := 28) hx hb dX8_fold_16 (by decide) (fun b16 => ?_) (fun b16 => ?_)
  · have hM := itF b16 hM
    refine lv_bipush (v := (-2 : Int32)) hx hb dX8_fold_28 (by decide) ?_
    subst hQQ
    exact q_reti (post := fun x L1 f1 => x = z.1 ∧ L1 = L ∧ (∀ b, b ∈ L → b ≠ xb → b ≠ h → b ≠ ce → b ≠ co → b ≠ cr → f1 b = f b) ∧ f1 xb = .inr (6, [.ref wo, .ref Sl, .ref dr, .ref ri, .ref th, .ref so, .ref ch, .int z.2.1]) ∧ f1 h = .inr (4, [.ref ce, .ref co, lay, .int z.2.2.1, .int z.2.2.2.1, .int z.2.2.2.2.1, .int z.2.2.2.2.2.1]) ∧ f1 ce = .inl (g 0, 4096, .inl z.2.2.2.2.2.2.1) ∧ f1 co = .inr (0, [.ref cr, .int z.2.2.2.2.2.2.2.1]) ∧ f1 cr = .inl (g 1, 1000, .inr (.inl z.2.2.2.2.2.2.2.2))) hx hb hr hlk S dX8_fold_30 (by decide) (by decide) (by have hz := Option.some.inj hM; subst hz; exact ⟨rfl, rfl, fr, e_xb, e_h, e_ce, e_co, e_cr⟩)
  · have hM := itT b16 hM
    refine lv_aload_n hx hb dX8_fold_19 rfl (lv_at hl 0 rfl) ?_
    refine q_getN hx hb hts in_X6 hown S m_ah e_ah (C := RX6) (T := TX6) (N := 7) rfl 4 (by decide) rfl (by decide) dX8_fold_20 ?_
    refine lv_bipush (v := (8 : Int32)) hx hb dX8_fold_23 (by decide) ?_
    refine lv_icmp_gt (tgt := 31) hx hb dX8_fold_25 (by decide) (fun b25 => ?_) (fun b25 => ?_)
    · have hM := itT b25 hM
      refine lv_aload_n hx hb dX8_fold_31 rfl (lv_at hl 1 rfl) ?_
      obtain ⟨z32, hz32, hM⟩ := bind_some hM
      refine q_vq (As := []) (rest := []) ⟨hx, hb, hml, hown, hts⟩ (k_X8_nextSlotE l D g m_xb e_xb m_Sl e_Sl hF_h hz32) (cwV 0 hts gX8_fold_X8_nextSlot rfl rfl rfl (by decide +kernel) ⟨Nat.le_of_ble_eq_true rfl, Nat.le_of_ble_eq_true rfl⟩) S m_xb e_xb (T := TX8) (N := 8) rfl rfl hl.1 rfl (Nat.le_of_ble_eq_true rfl) dX8_fold_32 ⟨Nat.le_of_ble_eq_true rfl, Nat.le_of_ble_eq_true rfl⟩ (fun r6 L4 f5 H locs S w32 => ?_)
      obtain ⟨ex32, eL, ef⟩ := w32
      rw [eL, ef] at S
      replace ex32 := ex32.symm
      subst ex32
      refine W.eq (g2 := F0 m 35 ls [.ref h]) rfl ?_
      refine lv_astore_n (lv' := [(3, .ref h), (2, .ref ah), (0, .ref xb), (1, .int aq)]) hx hb dX8_fold_35 rfl hl (by decide) rfl (fun ls hl => ?_)
      refine lv_aload_n hx hb dX8_fold_36 rfl (lv_at hl 0 rfl) ?_
      refine lv_ifnonnull (tgt := 43) hx hb dX8_fold_37 (by decide) ?_
      refine lv_aload_n hx hb dX8_fold_43 rfl (lv_at hl 0 rfl) ?_
      refine lv_iconst (v := (0 : Int32)) hx hb dX8_fold_44 (by decide) ?_
      refine lv_aload_n hx hb dX8_fold_45 rfl (lv_at hl 1 rfl) ?_
      refine q_getN hx hb hts in_X6 hown S m_ah e_ah (C := RX6) (T := TX6) (N := 7) rfl 4 (by decide) rfl (by decide) dX8_fold_46 ?_
      refine lv_iconst (v := (2 : Int32)) hx hb dX8_fold_49 (by decide) ?_
      refine lv_idiv hx hb dX8_fold_50 (by decide) ?_
      refine lv_aload_n hx hb dX8_fold_51 rfl (lv_at hl 1 rfl) ?_
      refine q_getN hx hb hts in_X6 hown S m_ah e_ah (C := RX6) (T := TX6) (N := 7) rfl 5 (by decide) rfl (by decide) dX8_fold_52 ?_
      refine lv_aload_n hx hb dX8_fold_55 rfl (lv_at hl 1 rfl) ?_
      refine q_getN hx hb hts in_X6 hown S m_ah e_ah (C := RX6) (T := TX6) (N := 7) rfl 6 (by decide) rfl (by decide) dX8_fold_56 ?_
      obtain ⟨z59, hz59, hM⟩ := bind_some hM
      refine q_vv (As := [.int (0 : Int32), .int (asz / (2 : Int32)), .int amk, .int asd]) (rest := []) ⟨hx, hb, hml, hown, hts⟩ (k_X6_begin l D g m_h e_h m_ce e_ce m_co e_co hz59) (cwV 4 hts gX8_fold_X6_begin rfl rfl rfl (by decide +kernel) ⟨Nat.le_of_ble_eq_true rfl, Nat.le_of_ble_eq_true rfl⟩) S m_h e_h (T := TX6) (N := 7) rfl rfl hl.1 rfl (Nat.le_of_ble_eq_true rfl) dX8_fold_59 ⟨Nat.le_of_ble_eq_true rfl, Nat.le_of_ble_eq_true rfl⟩ (fun L7 f8 H locs S w59 => ?_)
      obtain ⟨eL, fv59, E_h, E_ce, E_co⟩ := w59
      rw [eL] at S
      have fr : ∀ b, b ∈ L → b ≠ xb → b ≠ h → b ≠ ce → b ≠ co → b ≠ cr → f8 b = f b := fun b mb nb0 nb1 nb2 nb3 nb4 => (fv59 b mb nb1 nb2 nb3).trans (fr b mb nb0 nb1 nb2 nb3 nb4)
      have e_h : f8 h = .inr (4, [.ref ce, .ref co, lay, .int z59.1, .int z59.2.1, .int z59.2.2.1, .int z59.2.2.2.1]) := E_h
      have e_ce : f8 ce = .inl (g 0, 4096, .inl z59.2.2.2.2.1) := E_ce
      have e_co : f8 co = .inr (0, [.ref cr, .int z59.2.2.2.2.2]) := E_co
      refine lv_aload_n hx hb dX8_fold_62 rfl (lv_at hl 0 rfl) ?_
      refine lv_aload_n hx hb dX8_fold_63 rfl (lv_at hl 1 rfl) ?_
      obtain ⟨z64, hz64, hM⟩ := bind_some hM
      have e_cr := ((fv59 cr m_cr n_cr_h n_cr_ce n_cr_co).trans e_cr)
      have e_ah := ((fv59 ah m_ah n_ah_h n_ah_ce n_ah_co).trans e_ah)
      have e_ace := ((fv59 ace m_ace n_ace_h n_ace_ce n_ace_co).trans e_ace)
      have e_aco := ((fv59 aco m_aco n_aco_h n_aco_ce n_aco_co).trans e_aco)
      have e_acr := ((fv59 acr m_acr n_acr_h n_acr_ce n_acr_co).trans e_acr)
      refine q_vv (As := [.ref ah]) (rest := []) ⟨hx, hb, hml, hown, hts⟩ (k_X6_foldBits l D g m_h e_h m_ce e_ce m_co e_co m_cr e_cr m_ah e_ah m_ace e_ace m_aco e_aco m_acr e_acr n_ace_ce hz64) (cwV 1 hts gX8_fold_X6_foldBits rfl rfl rfl (by decide +kernel) ⟨Nat.le_of_ble_eq_true rfl, Nat.le_of_ble_eq_true rfl⟩) S m_h e_h (T := TX6) (N := 7) rfl rfl hl.1 rfl (Nat.le_of_ble_eq_true rfl) dX8_fold_64 ⟨Nat.le_of_ble_eq_true rfl, Nat.le_of_ble_eq_true rfl⟩ (fun L10 f11 H locs S w64 => ?_)
      obtain ⟨eL, fv64, E_ce⟩ := w64
      rw [eL] at S
      have fr : ∀ b, b ∈ L → b ≠ xb → b ≠ h → b ≠ ce → b ≠ co → b ≠ cr → f11 b = f b := fun b mb nb0 nb1 nb2 nb3 nb4 => (fv64 b mb nb2).trans (fr b mb nb0 nb1 nb2 nb3 nb4)
      have e_ce : f11 ce = .inl (g 0, 4096, .inl z64) := E_ce
      refine lv_aload_n hx hb dX8_fold_67 rfl (lv_at hl 0 rfl) ?_
      have e_h := ((fv64 h m_h n_h_ce).trans e_h)
      refine q_getN hx hb hts in_X6 hown S m_h e_h (C := RX6) (T := TX6) (N := 7) rfl 1 (by decide) rfl (by decide) dX8_fold_68 ?_
      refine lv_aload_n hx hb dX8_fold_71 rfl (lv_at hl 1 rfl) ?_
      have e_ah := ((fv64 ah m_ah n_ah_ce).trans e_ah)
      refine q_getN hx hb hts in_X6 hown S m_ah e_ah (C := RX6) (T := TX6) (N := 7) rfl 1 (by decide) rfl (by decide) dX8_fold_72 ?_
      obtain ⟨z75, hz75, hM⟩ := bind_some hM
      have e_co := ((fv64 co m_co n_co_ce).trans e_co)
      have e_cr := ((fv64 cr m_cr n_cr_ce).trans e_cr)
      have e_aco := ((fv64 aco m_aco n_aco_ce).trans e_aco)
      have e_acr := ((fv64 acr m_acr n_acr_ce).trans e_acr)
      refine q_vv (As := [.ref aco]) (rest := []) ⟨hx, hb, hml, hown, hts⟩ (k_X0_copyFrom l D g m_co e_co m_cr e_cr m_aco e_aco m_acr e_acr hz75) (cwV 1 hts gX8_fold_X0_copyFrom rfl rfl rfl (by decide +kernel) ⟨Nat.le_of_ble_eq_true rfl, Nat.le_of_ble_eq_true rfl⟩) S m_co e_co (T := TX0) (N := 2) rfl rfl hl.1 rfl (Nat.le_of_ble_eq_true rfl) dX8_fold_75 ⟨Nat.le_of_ble_eq_true rfl, Nat.le_of_ble_eq_true rfl⟩ (fun L13 f14 H locs S w75 => ?_)
      obtain ⟨eL, fv75, E_co, E_cr⟩ := w75
      rw [eL] at S
      have fr : ∀ b, b ∈ L → b ≠ xb → b ≠ h → b ≠ ce → b ≠ co → b ≠ cr → f14 b = f b := fun b mb nb0 nb1 nb2 nb3 nb4 => (fv75 b mb nb3 nb4).trans (fr b mb nb0 nb1 nb2 nb3 nb4)
      have e_co : f14 co = .inr (0, [.ref cr, .int z75.1]) := E_co
      have e_cr : f14 cr = .inl (g 1, 1000, .inr (.inl z75.2)) := E_cr
      refine lv_aload_n hx hb dX8_fold_78 rfl (lv_at hl 2 rfl) ?_
      refine lv_dup hx hb dX8_fold_79 rfl ?_
      have e_xb := ((fv75 xb m_xb n_xb_co n_xb_cr).trans ((fv64 xb m_xb n_xb_ce).trans ((fv59 xb m_xb n_xb_h n_xb_ce n_xb_co).trans e_xb)))
      refine q_get hx hb hts in_X8 hown S m_xb e_xb (C := RX8) (T := TX8) (N := 8) rfl 7 (by decide) rfl (hts (.fieldLink RX8 84 "SieveCabinet" "made" "I") (by decide +kernel)) dX8_fold_80 ?_
      refine lv_dup_x1 hx hb dX8_fold_83 rfl rfl ?_
      refine lv_iconst (v := (1 : Int32)) hx hb dX8_fold_84 (by decide) ?_
      refine lv_iadd hx hb dX8_fold_85 ?_
      refine k_put hx hb hts in_X8 tyX8 tyX8_ok nmX8 hown S m_xb e_xb (C := RX8) (T := TX8) (N := 8) rfl 7 (by decide) (hts (.fieldLink RX8 84 "SieveCabinet" "made" "I") (by decide +kernel)) rfl rfl rfl (Nat.le_of_ble_eq_true rfl) dX8_fold_86 (fun f16 ef16 H locs S => ?_)
      have e_xb : f16 xb = .inr (6, [.ref wo, .ref Sl, .ref dr, .ref ri, .ref th, .ref so, .ref ch, .int (md + (1 : Int32))]) := up_self ef16
      have fr : ∀ b, b ∈ L → b ≠ xb → b ≠ h → b ≠ ce → b ≠ co → b ≠ cr → f16 b = f b := fun b mb nb0 nb1 nb2 nb3 nb4 => (up_ne ef16 nb0 rfl).trans (fr b mb nb0 nb1 nb2 nb3 nb4)
      have e_h := (up_ne ef16 n_h_xb ((fv75 h m_h n_h_co n_h_cr).trans e_h))
      have e_ce := (up_ne ef16 n_ce_xb ((fv75 ce m_ce n_ce_co n_ce_cr).trans e_ce))
      have e_co := (up_ne ef16 n_co_xb e_co)
      have e_cr := (up_ne ef16 n_cr_xb e_cr)
      subst hQQ
      exact q_reti (post := fun x L1 f1 => x = z.1 ∧ L1 = L ∧ (∀ b, b ∈ L → b ≠ xb → b ≠ h → b ≠ ce → b ≠ co → b ≠ cr → f1 b = f b) ∧ f1 xb = .inr (6, [.ref wo, .ref Sl, .ref dr, .ref ri, .ref th, .ref so, .ref ch, .int z.2.1]) ∧ f1 h = .inr (4, [.ref ce, .ref co, lay, .int z.2.2.1, .int z.2.2.2.1, .int z.2.2.2.2.1, .int z.2.2.2.2.2.1]) ∧ f1 ce = .inl (g 0, 4096, .inl z.2.2.2.2.2.2.1) ∧ f1 co = .inr (0, [.ref cr, .int z.2.2.2.2.2.2.2.1]) ∧ f1 cr = .inl (g 1, 1000, .inr (.inl z.2.2.2.2.2.2.2.2))) hx hb hr hlk S dX8_fold_89 (by decide) (by decide) (by have hz := Option.some.inj hM; subst hz; exact ⟨rfl, rfl, fr, e_xb, e_h, e_ce, e_co, e_cr⟩)
    · have hM := itF b25 hM
      refine lv_bipush (v := (-2 : Int32)) hx hb dX8_fold_28 (by decide) ?_
      subst hQQ
      exact q_reti (post := fun x L1 f1 => x = z.1 ∧ L1 = L ∧ (∀ b, b ∈ L → b ≠ xb → b ≠ h → b ≠ ce → b ≠ co → b ≠ cr → f1 b = f b) ∧ f1 xb = .inr (6, [.ref wo, .ref Sl, .ref dr, .ref ri, .ref th, .ref so, .ref ch, .int z.2.1]) ∧ f1 h = .inr (4, [.ref ce, .ref co, lay, .int z.2.2.1, .int z.2.2.2.1, .int z.2.2.2.2.1, .int z.2.2.2.2.2.1]) ∧ f1 ce = .inl (g 0, 4096, .inl z.2.2.2.2.2.2.1) ∧ f1 co = .inr (0, [.ref cr, .int z.2.2.2.2.2.2.2.1]) ∧ f1 cr = .inl (g 1, 1000, .inr (.inl z.2.2.2.2.2.2.2.2))) hx hb hr hlk S dX8_fold_30 (by decide) (by decide) (by have hz := Option.some.inj hM; subst hz; exact ⟨rfl, rfl, fr, e_xb, e_h, e_ce, e_co, e_cr⟩)

def mX8_joinF (md : Int32) (ho : Int32) (akd : Int32) (asz : Int32) (amk : Int32) (asd : Int32) (akc : Nat → Int32) (an : Int32) (av : Nat → Int64) (bkd : Int32) (bsz : Int32) (bmk : Int32) (bsd : Int32) (bkc : Nat → Int32) (bn : Int32) (bv : Nat → Int64) : Option (Int32 × Int32 × Int32 × Int32 × Int32 × Int32 × (Nat → Int32) × Int32 × (Nat → Int64)) := if ho < 0 then none else (if ho ≤ (1 : Int32) then ((mX6_isMarkedLike akd asz amk asd bkd bsz bmk bsd).bind fun z39 => if z39 = 0 then none else ((mX8_nextSlotF md).bind fun z49 => if ho = (1 : Int32) then (if (1 : Int32) = 0 then ((mX0_count an).bind fun z81 => (mX0_count bn).bind fun z89 => if (z81 + z89) ≤ (1000 : Int32) then ((mX6_begin z49.2.2.2.2.1 (0 : Int32) asz amk asd).bind fun z120 => (mX6_joinBits z120.2.1 z120.2.2.2.2.1 akc bkc (1 : Int32)).bind fun z131 => if (1 : Int32) = 0 then ((mX0_becomeTogether z49.2.2.2.2.2.2 an av bn bv).bind fun z175 => some (md, (md + (1 : Int32)), z120.1, z120.2.1, z120.2.2.1, z120.2.2.2.1, z131, z175.1, z175.2)) else ((mX0_becomeShared z49.2.2.2.2.2.2 an av bn bv).bind fun z154 => some (md, (md + (1 : Int32)), z120.1, z120.2.1, z120.2.2.1, z120.2.2.2.1, z131, z154.1, z154.2))) else (some ((-4 : Int32), md, z49.1, z49.2.1, z49.2.2.1, z49.2.2.2.1, z49.2.2.2.2.1, z49.2.2.2.2.2.1, z49.2.2.2.2.2.2))) else ((mX6_begin z49.2.2.2.2.1 (0 : Int32) asz amk asd).bind fun z120 => (mX6_joinBits z120.2.1 z120.2.2.2.2.1 akc bkc (1 : Int32)).bind fun z131 => if (1 : Int32) = 0 then ((mX0_becomeTogether z49.2.2.2.2.2.2 an av bn bv).bind fun z175 => some (md, (md + (1 : Int32)), z120.1, z120.2.1, z120.2.2.1, z120.2.2.2.1, z131, z175.1, z175.2)) else ((mX0_becomeShared z49.2.2.2.2.2.2 an av bn bv).bind fun z154 => some (md, (md + (1 : Int32)), z120.1, z120.2.1, z120.2.2.1, z120.2.2.2.1, z131, z154.1, z154.2)))) else (if (0 : Int32) = 0 then ((mX0_count an).bind fun z81 => (mX0_count bn).bind fun z89 => if (z81 + z89) ≤ (1000 : Int32) then ((mX6_begin z49.2.2.2.2.1 (0 : Int32) asz amk asd).bind fun z120 => (mX6_joinBits z120.2.1 z120.2.2.2.2.1 akc bkc (0 : Int32)).bind fun z131 => if (0 : Int32) = 0 then ((mX0_becomeTogether z49.2.2.2.2.2.2 an av bn bv).bind fun z175 => some (md, (md + (1 : Int32)), z120.1, z120.2.1, z120.2.2.1, z120.2.2.2.1, z131, z175.1, z175.2)) else ((mX0_becomeShared z49.2.2.2.2.2.2 an av bn bv).bind fun z154 => some (md, (md + (1 : Int32)), z120.1, z120.2.1, z120.2.2.1, z120.2.2.2.1, z131, z154.1, z154.2))) else (some ((-4 : Int32), md, z49.1, z49.2.1, z49.2.2.1, z49.2.2.2.1, z49.2.2.2.2.1, z49.2.2.2.2.2.1, z49.2.2.2.2.2.2))) else ((mX6_begin z49.2.2.2.2.1 (0 : Int32) asz amk asd).bind fun z120 => (mX6_joinBits z120.2.1 z120.2.2.2.2.1 akc bkc (0 : Int32)).bind fun z131 => if (0 : Int32) = 0 then ((mX0_becomeTogether z49.2.2.2.2.2.2 an av bn bv).bind fun z175 => some (md, (md + (1 : Int32)), z120.1, z120.2.1, z120.2.2.1, z120.2.2.2.1, z131, z175.1, z175.2)) else ((mX0_becomeShared z49.2.2.2.2.2.2 an av bn bv).bind fun z154 => some (md, (md + (1 : Int32)), z120.1, z120.2.1, z120.2.2.1, z120.2.2.2.1, z131, z154.1, z154.2)))))) else none)
set_option maxHeartbeats 4000000 in
set_option maxRecDepth 100000 in
theorem k_X8_joinF (l : Launch) (D : va_G) (g : Nat → ClassId) {L : List Nat} {f : Nat → va_E} {Sl ace aco acr ah bce bco bcr bh ch dr ri so th wo xb : Nat} {md : Int32} {sf : Nat → Option Nat} {ho : Int32} {aq : Int32} {bq : Int32} {alay : Value} {akd : Int32} {asz : Int32} {amk : Int32} {asd : Int32} {akc : Nat → Int32} {an : Int32} {av : Nat → Int64} {blay : Value} {bkd : Int32} {bsz : Int32} {bmk : Int32} {bsd : Int32} {bkc : Nat → Int32} {bn : Int32} {bv : Nat → Int64} {z : Int32 × Int32 × Int32 × Int32 × Int32 × Int32 × (Nat → Int32) × Int32 × (Nat → Int64)} (m_xb : xb ∈ L) (e_xb : f xb = .inr (6, [.ref wo, .ref Sl, .ref dr, .ref ri, .ref th, .ref so, .ref ch, .int md])) (m_Sl : Sl ∈ L) (e_Sl : f Sl = .inl (g 5, 30, .inr (.inr (.inr (.inr sf))))) (m_ah : ah ∈ L) (e_ah : f ah = .inr (4, [.ref ace, .ref aco, alay, .int akd, .int asz, .int amk, .int asd])) (m_ace : ace ∈ L) (e_ace : f ace = .inl (g 0, 4096, .inl akc)) (m_aco : aco ∈ L) (e_aco : f aco = .inr (0, [.ref acr, .int an])) (m_acr : acr ∈ L) (e_acr : f acr = .inl (g 1, 1000, .inr (.inl av))) (m_bh : bh ∈ L) (e_bh : f bh = .inr (4, [.ref bce, .ref bco, blay, .int bkd, .int bsz, .int bmk, .int bsd])) (m_bce : bce ∈ L) (e_bce : f bce = .inl (g 0, 4096, .inl bkc)) (m_bco : bco ∈ L) (e_bco : f bco = .inr (0, [.ref bcr, .int bn])) (m_bcr : bcr ∈ L) (e_bcr : f bcr = .inl (g 1, 1000, .inr (.inl bv)))   (hF0 : sf (Int32.toNatClampNeg md) = none) (hs2 : mX8_sieveAt md sf aq = some (some ah)) (hs9 : mX8_sieveAt md sf bq = some (some bh)) (hM : mX8_joinF md ho akd asz amk asd akc an av bkd bsz bmk bsd bkc bn bv = some z) : cI l yX8_join wsX8_join { frames := 4, cells := 4, slots := 5105, locals := 72 } D g [.ref xb, .int ho, .int aq, .int bq] L f 4 5105 (fun x L1 f1 => ∃ q38 : Nat, ∃ ce : Nat, ∃ co : Nat, ∃ cr : Nat, x = z.1 ∧ (∀ b, b ∈ L → b ∈ L1) ∧ (∀ b, b ∈ L → b ≠ xb → b ≠ Sl → f1 b = f b) ∧ f1 xb = .inr (6, [.ref wo, .ref Sl, .ref dr, .ref ri, .ref th, .ref so, .ref ch, .int z.2.1]) ∧ f1 Sl = .inl (g 5, 30, .inr (.inr (.inr (.inr (va_up sf (Int32.toNatClampNeg md) (some q38)))))) ∧ (q38 ∉ L ∧ q38 ∈ L1 ∧ f1 q38 = .inr (4, [.ref ce, .ref co, .null, .int z.2.2.1, .int z.2.2.2.1, .int z.2.2.2.2.1, .int z.2.2.2.2.2.1])) ∧ (ce ∉ L ∧ ce ∈ L1 ∧ f1 ce = .inl (g 0, 4096, .inl z.2.2.2.2.2.2.1)) ∧ (co ∉ L ∧ co ∈ L1 ∧ f1 co = .inr (0, [.ref cr, .int z.2.2.2.2.2.2.2.1])) ∧ (cr ∉ L ∧ cr ∈ L1 ∧ f1 cr = .inl (g 1, 1000, .inr (.inl z.2.2.2.2.2.2.2.2)))) := by
  refine cI_of (cc := cX8_join) (maxL := 8) (ret := (some .int)) (by decide) rfl (Nat.le_of_ble_eq_true rfl) ?_
  intro szz p e s m below meth c hx hb hr hml hts hown hlk hnm S ls hl
  have hl : lv_has ls 8 [(0, .ref xb), (1, .int ho), (2, .int aq), (3, .int bq)] := hl
  have in_X6 : ∀ w ∈ wsX60, w ∈ wsX8_join := by decide +kernel
  have in_X8 : ∀ w ∈ wsX80, w ∈ wsX8_join := by decide +kernel
  have n_xb_Sl : xb ≠ Sl := ne_ir e_Sl e_xb
  have n_ah_Sl : ah ≠ Sl := ne_ir e_Sl e_ah
  have n_ace_Sl : ace ≠ Sl := ne_len e_Sl e_ace (by decide)
  have n_aco_Sl : aco ≠ Sl := ne_ir e_Sl e_aco
  have n_acr_Sl : acr ≠ Sl := ne_len e_Sl e_acr (by decide)
  have n_bh_Sl : bh ≠ Sl := ne_ir e_Sl e_bh
  have n_bce_Sl : bce ≠ Sl := ne_len e_Sl e_bce (by decide)
  have n_bco_Sl : bco ≠ Sl := ne_ir e_Sl e_bco
  have n_bcr_Sl : bcr ≠ Sl := ne_len e_Sl e_bcr (by decide)
  have n_Sl_xb : Sl ≠ xb := ne_ri e_xb e_Sl
  have fr : ∀ b, b ∈ L → b ≠ xb → b ≠ Sl → f b = f b := fun _ _ _ _ => rfl
  have mono : ∀ b, b ∈ L → b ∈ L := fun _ h => h
  unfold mX8_joinF at hM
  refine W_gen (fun QQ hQQ => ?_)
  refine lv_aload_n hx hb dX8_join_0 rfl (lv_at hl 0 rfl) ?_
  refine lv_iload_n hx hb dX8_join_1 rfl (lv_at hl 2 rfl) ?_
  refine q_vq (As := [.int aq]) (rest := []) ⟨hx, hb, hml, hown, hts⟩ (k_X8_sieveAt l D g m_xb e_xb m_Sl e_Sl hs2) (cwV 1 hts gX8_join_X8_sieveAt rfl rfl rfl (by decide +kernel) ⟨Nat.le_of_ble_eq_true rfl, Nat.le_of_ble_eq_true rfl⟩) S m_xb e_xb (T := TX8) (N := 8) rfl rfl hl.1 rfl (Nat.le_of_ble_eq_true rfl) dX8_join_2 ⟨Nat.le_of_ble_eq_true rfl, Nat.le_of_ble_eq_true rfl⟩ (fun r3 L1 f2 H locs S w2 => ?_)
  obtain ⟨ex, eL, ef⟩ := w2
  rw [eL, ef] at S
  replace ex := ex.symm
  subst ex
  refine W.eq (g2 := F0 m 5 ls [.ref ah]) rfl ?_
  refine lv_astore (lv' := [(4, .ref ah), (0, .ref xb), (1, .int ho), (2, .int aq), (3, .int bq)]) hx hb dX8_join_5 hl (by decide) rfl (fun ls hl => ?_)
  refine lv_aload_n hx hb dX8_join_7 rfl (lv_at hl 1 rfl) ?_
  refine lv_iload_n hx hb dX8_join_8 rfl (lv_at hl 4 rfl) ?_
  refine q_vq (As := [.int bq]) (rest := []) ⟨hx, hb, hml, hown, hts⟩ (k_X8_sieveAt l D g m_xb e_xb m_Sl e_Sl hs9) (cwV 1 hts gX8_join_X8_sieveAt rfl rfl rfl (by decide +kernel) ⟨Nat.le_of_ble_eq_true rfl, Nat.le_of_ble_eq_true rfl⟩) S m_xb e_xb (T := TX8) (N := 8) rfl rfl hl.1 rfl (Nat.le_of_ble_eq_true rfl) dX8_join_9 ⟨Nat.le_of_ble_eq_true rfl, Nat.le_of_ble_eq_true rfl⟩ (fun r6 L4 f5 H locs S w9 => ?_)
  obtain ⟨ex, eL, ef⟩ := w9
  rw [eL, ef] at S
  replace ex := ex.symm
  subst ex
  refine W.eq (g2 := F0 m 12 ls [.ref bh]) rfl ?_
  refine lv_astore (lv' := [(5, .ref bh), (4, .ref ah), (0, .ref xb), (1, .int ho), (2, .int aq), (3, .int bq)]) hx hb dX8_join_12 hl (by decide) rfl (fun ls hl => ?_)
  refine lv_aload hx hb dX8_join_14 (lv_at hl 1 rfl) ?_
  refine lv_ifnull hx hb dX8_join_16 ?_
  refine lv_aload hx hb dX8_join_19 (lv_at hl 0 rfl) ?_
  refine lv_ifnull hx hb dX8_join_21 ?_
  refine lv_iload_n hx hb dX8_join_24 rfl (lv_at hl 3 rfl) ?_
  refine lv_if_lt (tgt := 33) hx hb dX8_join_25 (by decide) (fun b25 => ?_) (fun b25 => ?_)
  · have hM := itT b25 hM
    refine lv_iconst (v := (-1 : Int32)) hx hb dX8_join_33 (by decide) ?_
    exact no_some hM
  · have hM := itF b25 hM
    refine lv_iload_n hx hb dX8_join_28 rfl (lv_at hl 3 rfl) ?_
    refine lv_iconst (v := (1 : Int32)) hx hb dX8_join_29 (by decide) ?_
    refine lv_icmp_le (tgt := 35) hx hb dX8_join_30 (by decide) (fun b30 => ?_) (fun b30 => ?_)
    · have hM := itT b30 hM
      refine lv_aload hx hb dX8_join_35 (lv_at hl 1 rfl) ?_
      refine lv_aload hx hb dX8_join_37 (lv_at hl 0 rfl) ?_
      obtain ⟨z39, hz39, hM⟩ := bind_some hM
      refine q_vi (As := [.ref bh]) (rest := []) ⟨hx, hb, hml, hown, hts⟩ (k_X6_isMarkedLike l D g m_ah e_ah m_bh e_bh hz39) (cwV 1 hts gX8_join_X6_isMarkedLike rfl rfl rfl (by decide +kernel) ⟨Nat.le_of_ble_eq_true rfl, Nat.le_of_ble_eq_true rfl⟩) S m_ah e_ah (T := TX6) (N := 7) rfl rfl hl.1 rfl (Nat.le_of_ble_eq_true rfl) dX8_join_39 ⟨Nat.le_of_ble_eq_true rfl, Nat.le_of_ble_eq_true rfl⟩ (fun r9 L7 f8 H locs S w39 => ?_)
      obtain ⟨ex39, eL, ef⟩ := w39
      rw [eL, ef] at S
      replace ex39 := ex39.symm
      subst ex39
      refine lv_if_ne (tgt := 48) hx hb dX8_join_42 (by decide) (fun b42 => ?_) (fun b42 => ?_)
      · have hM := itF b42 hM
        refine lv_aload_n hx hb dX8_join_48 rfl (lv_at hl 2 rfl) ?_
        obtain ⟨z49, hz49, hM⟩ := bind_some hM
        refine q_vq (As := []) (rest := []) ⟨hx, hb, hml, hown, hts⟩ (k_X8_nextSlotF l D g m_xb e_xb m_Sl e_Sl hF0 hz49) (cwV 0 hts gX8_join_X8_nextSlot rfl rfl rfl (by decide +kernel) ⟨Nat.le_of_ble_eq_true rfl, Nat.le_of_ble_eq_true rfl⟩) S m_xb e_xb (T := TX8) (N := 8) rfl rfl hl.1 rfl (Nat.le_of_ble_eq_true rfl) dX8_join_49 ⟨Nat.le_of_ble_eq_true rfl, Nat.le_of_ble_eq_true rfl⟩ (fun r12 L10 f11 H locs S w49 => ?_)
        refine W.widen (k := 4) (n := 5105) (by decide) (by decide) ?_
        obtain ⟨q38, ce, co, cr, ex49, mo, fv, E_Sl, ⟨nq_q38, mq_q38, E_q38⟩, ⟨nq_ce, mq_ce, E_ce⟩, ⟨nq_co, mq_co, E_co⟩, ⟨nq_cr, mq_cr, E_cr⟩⟩ := w49
        have mono0 := mono
        have e_xb := (fv xb m_xb n_xb_Sl).trans e_xb
        have e_ah := (fv ah m_ah n_ah_Sl).trans e_ah
        have e_ace := (fv ace m_ace n_ace_Sl).trans e_ace
        have e_aco := (fv aco m_aco n_aco_Sl).trans e_aco
        have e_acr := (fv acr m_acr n_acr_Sl).trans e_acr
        have e_bh := (fv bh m_bh n_bh_Sl).trans e_bh
        have e_bce := (fv bce m_bce n_bce_Sl).trans e_bce
        have e_bco := (fv bco m_bco n_bco_Sl).trans e_bco
        have e_bcr := (fv bcr m_bcr n_bcr_Sl).trans e_bcr
        have fr : ∀ b, b ∈ L → b ≠ xb → b ≠ Sl → f11 b = f b := fun b mb nb0 nb1 => (fv b (mono0 b mb) nb1).trans (fr b mb nb0 nb1)
        have n_xb_q38 : xb ≠ q38 := fun h => nq_q38 (h ▸ m_xb)
        have n_q38_xb : q38 ≠ xb := Ne.symm n_xb_q38
        have n_xb_ce : xb ≠ ce := fun h => nq_ce (h ▸ m_xb)
        have n_ce_xb : ce ≠ xb := Ne.symm n_xb_ce
        have n_xb_co : xb ≠ co := fun h => nq_co (h ▸ m_xb)
        have n_co_xb : co ≠ xb := Ne.symm n_xb_co
        have n_xb_cr : xb ≠ cr := fun h => nq_cr (h ▸ m_xb)
        have n_cr_xb : cr ≠ xb := Ne.symm n_xb_cr
        have n_Sl_q38 : Sl ≠ q38 := fun h => nq_q38 (h ▸ m_Sl)
        have n_q38_Sl : q38 ≠ Sl := Ne.symm n_Sl_q38
        have n_Sl_ce : Sl ≠ ce := fun h => nq_ce (h ▸ m_Sl)
        have n_ce_Sl : ce ≠ Sl := Ne.symm n_Sl_ce
        have n_Sl_co : Sl ≠ co := fun h => nq_co (h ▸ m_Sl)
        have n_co_Sl : co ≠ Sl := Ne.symm n_Sl_co
        have n_Sl_cr : Sl ≠ cr := fun h => nq_cr (h ▸ m_Sl)
        have n_cr_Sl : cr ≠ Sl := Ne.symm n_Sl_cr
        have n_ah_q38 : ah ≠ q38 := fun h => nq_q38 (h ▸ m_ah)
        have n_q38_ah : q38 ≠ ah := Ne.symm n_ah_q38
        have n_ah_ce : ah ≠ ce := fun h => nq_ce (h ▸ m_ah)
        have n_ce_ah : ce ≠ ah := Ne.symm n_ah_ce
        have n_ah_co : ah ≠ co := fun h => nq_co (h ▸ m_ah)
        have n_co_ah : co ≠ ah := Ne.symm n_ah_co
        have n_ah_cr : ah ≠ cr := fun h => nq_cr (h ▸ m_ah)
        have n_cr_ah : cr ≠ ah := Ne.symm n_ah_cr
        have n_ace_q38 : ace ≠ q38 := fun h => nq_q38 (h ▸ m_ace)
        have n_q38_ace : q38 ≠ ace := Ne.symm n_ace_q38
        have n_ace_ce : ace ≠ ce := fun h => nq_ce (h ▸ m_ace)
        have n_ce_ace : ce ≠ ace := Ne.symm n_ace_ce
        have n_ace_co : ace ≠ co := fun h => nq_co (h ▸ m_ace)
        have n_co_ace : co ≠ ace := Ne.symm n_ace_co
        have n_ace_cr : ace ≠ cr := fun h => nq_cr (h ▸ m_ace)
        have n_cr_ace : cr ≠ ace := Ne.symm n_ace_cr
        have n_aco_q38 : aco ≠ q38 := fun h => nq_q38 (h ▸ m_aco)
        have n_q38_aco : q38 ≠ aco := Ne.symm n_aco_q38
        have n_aco_ce : aco ≠ ce := fun h => nq_ce (h ▸ m_aco)
        have n_ce_aco : ce ≠ aco := Ne.symm n_aco_ce
        have n_aco_co : aco ≠ co := fun h => nq_co (h ▸ m_aco)
        have n_co_aco : co ≠ aco := Ne.symm n_aco_co
        have n_aco_cr : aco ≠ cr := fun h => nq_cr (h ▸ m_aco)
        have n_cr_aco : cr ≠ aco := Ne.symm n_aco_cr
        have n_acr_q38 : acr ≠ q38 := fun h => nq_q38 (h ▸ m_acr)
        have n_q38_acr : q38 ≠ acr := Ne.symm n_acr_q38
        have n_acr_ce : acr ≠ ce := fun h => nq_ce (h ▸ m_acr)
        have n_ce_acr : ce ≠ acr := Ne.symm n_acr_ce
        have n_acr_co : acr ≠ co := fun h => nq_co (h ▸ m_acr)
        have n_co_acr : co ≠ acr := Ne.symm n_acr_co
        have n_acr_cr : acr ≠ cr := fun h => nq_cr (h ▸ m_acr)
        have n_cr_acr : cr ≠ acr := Ne.symm n_acr_cr
        have n_bh_q38 : bh ≠ q38 := fun h => nq_q38 (h ▸ m_bh)
        have n_q38_bh : q38 ≠ bh := Ne.symm n_bh_q38
        have n_bh_ce : bh ≠ ce := fun h => nq_ce (h ▸ m_bh)
        have n_ce_bh : ce ≠ bh := Ne.symm n_bh_ce
        have n_bh_co : bh ≠ co := fun h => nq_co (h ▸ m_bh)
        have n_co_bh : co ≠ bh := Ne.symm n_bh_co
        have n_bh_cr : bh ≠ cr := fun h => nq_cr (h ▸ m_bh)
        have n_cr_bh : cr ≠ bh := Ne.symm n_bh_cr
        have n_bce_q38 : bce ≠ q38 := fun h => nq_q38 (h ▸ m_bce)
        have n_q38_bce : q38 ≠ bce := Ne.symm n_bce_q38
        have n_bce_ce : bce ≠ ce := fun h => nq_ce (h ▸ m_bce)
        have n_ce_bce : ce ≠ bce := Ne.symm n_bce_ce
        have n_bce_co : bce ≠ co := fun h => nq_co (h ▸ m_bce)
        have n_co_bce : co ≠ bce := Ne.symm n_bce_co
        have n_bce_cr : bce ≠ cr := fun h => nq_cr (h ▸ m_bce)
        have n_cr_bce : cr ≠ bce := Ne.symm n_bce_cr
        have n_bco_q38 : bco ≠ q38 := fun h => nq_q38 (h ▸ m_bco)
        have n_q38_bco : q38 ≠ bco := Ne.symm n_bco_q38
        have n_bco_ce : bco ≠ ce := fun h => nq_ce (h ▸ m_bco)
        have n_ce_bco : ce ≠ bco := Ne.symm n_bco_ce
        have n_bco_co : bco ≠ co := fun h => nq_co (h ▸ m_bco)
        have n_co_bco : co ≠ bco := Ne.symm n_bco_co
        have n_bco_cr : bco ≠ cr := fun h => nq_cr (h ▸ m_bco)
        have n_cr_bco : cr ≠ bco := Ne.symm n_bco_cr
        have n_bcr_q38 : bcr ≠ q38 := fun h => nq_q38 (h ▸ m_bcr)
        have n_q38_bcr : q38 ≠ bcr := Ne.symm n_bcr_q38
        have n_bcr_ce : bcr ≠ ce := fun h => nq_ce (h ▸ m_bcr)
        have n_ce_bcr : ce ≠ bcr := Ne.symm n_bcr_ce
        have n_bcr_co : bcr ≠ co := fun h => nq_co (h ▸ m_bcr)
        have n_co_bcr : co ≠ bcr := Ne.symm n_bcr_co
        have n_bcr_cr : bcr ≠ cr := fun h => nq_cr (h ▸ m_bcr)
        have n_cr_bcr : cr ≠ bcr := Ne.symm n_bcr_cr
        have m_xb : xb ∈ L10 := mo xb m_xb
        have m_Sl : Sl ∈ L10 := mo Sl m_Sl
        have m_ah : ah ∈ L10 := mo ah m_ah
        have m_ace : ace ∈ L10 := mo ace m_ace
        have m_aco : aco ∈ L10 := mo aco m_aco
        have m_acr : acr ∈ L10 := mo acr m_acr
        have m_bh : bh ∈ L10 := mo bh m_bh
        have m_bce : bce ∈ L10 := mo bce m_bce
        have m_bco : bco ∈ L10 := mo bco m_bco
        have m_bcr : bcr ∈ L10 := mo bcr m_bcr
        have nz_q38 : q38 ∉ L := nq_q38
        have nz_ce : ce ∉ L := nq_ce
        have nz_co : co ∉ L := nq_co
        have nz_cr : cr ∉ L := nq_cr
        have mono : ∀ b, b ∈ L → b ∈ L10 := fun b h => mo b (mono0 b h)
        have m_q38 := mq_q38
        have m_ce := mq_ce
        have m_co := mq_co
        have m_cr := mq_cr
        have e_Sl : f11 Sl = .inl (g 5, 30, .inr (.inr (.inr (.inr (va_up sf (Int32.toNatClampNeg md) (some q38)))))) := E_Sl
        have e_q38 : f11 q38 = .inr (4, [.ref ce, .ref co, .null, .int z49.1, .int z49.2.1, .int z49.2.2.1, .int z49.2.2.2.1]) := E_q38
        have e_ce : f11 ce = .inl (g 0, 4096, .inl z49.2.2.2.2.1) := E_ce
        have e_co : f11 co = .inr (0, [.ref cr, .int z49.2.2.2.2.2.1]) := E_co
        have e_cr : f11 cr = .inl (g 1, 1000, .inr (.inl z49.2.2.2.2.2.2)) := E_cr
        have n_ce_q38 : ce ≠ q38 := ne_ri e_q38 e_ce
        have n_co_q38 : co ≠ q38 := ne_rr e_q38 e_co (by decide)
        have n_cr_q38 : cr ≠ q38 := ne_ri e_q38 e_cr
        have n_q38_ce : q38 ≠ ce := ne_ir e_ce e_q38
        have n_co_ce : co ≠ ce := ne_ir e_ce e_co
        have n_cr_ce : cr ≠ ce := ne_len e_ce e_cr (by decide)
        have n_q38_co : q38 ≠ co := ne_rr e_co e_q38 (by decide)
        have n_ce_co : ce ≠ co := ne_ri e_co e_ce
        have n_cr_co : cr ≠ co := ne_ri e_co e_cr
        have n_q38_cr : q38 ≠ cr := ne_ir e_cr e_q38
        have n_ce_cr : ce ≠ cr := ne_len e_cr e_ce (by decide)
        have n_co_cr : co ≠ cr := ne_ir e_cr e_co
        replace ex49 := ex49.symm
        subst ex49
        refine W.eq (g2 := F0 m 52 ls [.ref q38]) rfl ?_
        refine lv_astore (lv' := [(6, .ref q38), (5, .ref bh), (4, .ref ah), (0, .ref xb), (1, .int ho), (2, .int aq), (3, .int bq)]) hx hb dX8_join_52 hl (by decide) rfl (fun ls hl => ?_)
        refine lv_iload_n hx hb dX8_join_54 rfl (lv_at hl 4 rfl) ?_
        refine lv_iconst (v := (1 : Int32)) hx hb dX8_join_55 (by decide) ?_
        refine lv_icmp_ne (tgt := 63) hx hb dX8_join_56 (by decide) (fun b56 => ?_) (fun b56 => ?_)
        · have hM := itF b56 hM
          refine lv_iconst (v := (0 : Int32)) hx hb dX8_join_63 (by decide) ?_
          refine lv_istore (lv' := [(7, .int (0 : Int32)), (6, .ref q38), (5, .ref bh), (4, .ref ah), (0, .ref xb), (1, .int ho), (2, .int aq), (3, .int bq)]) hx hb dX8_join_64 hl (by decide) rfl (fun ls hl => ?_)
          refine lv_aload hx hb dX8_join_66 (lv_at hl 1 rfl) ?_
          refine lv_ifnull hx hb dX8_join_68 ?_
          refine lv_iload hx hb dX8_join_71 (lv_at hl 0 rfl) ?_
          refine lv_if_ne (tgt := 102) hx hb dX8_join_73 (by decide) (fun b73 => ?_) (fun b73 => ?_)
          · have hM := itF b73 hM
            refine lv_aload hx hb dX8_join_102 (lv_at hl 1 rfl) ?_
            refine lv_iconst (v := (0 : Int32)) hx hb dX8_join_104 (by decide) ?_
            refine lv_aload hx hb dX8_join_105 (lv_at hl 3 rfl) ?_
            refine q_getN hx hb hts in_X6 hown S m_ah e_ah (C := RX6) (T := TX6) (N := 7) rfl 4 (by decide) rfl (by decide) dX8_join_107 ?_
            refine lv_aload hx hb dX8_join_110 (lv_at hl 3 rfl) ?_
            refine q_getN hx hb hts in_X6 hown S m_ah e_ah (C := RX6) (T := TX6) (N := 7) rfl 5 (by decide) rfl (by decide) dX8_join_112 ?_
            refine lv_aload hx hb dX8_join_115 (lv_at hl 3 rfl) ?_
            refine q_getN hx hb hts in_X6 hown S m_ah e_ah (C := RX6) (T := TX6) (N := 7) rfl 6 (by decide) rfl (by decide) dX8_join_117 ?_
            obtain ⟨z120, hz120, hM⟩ := bind_some hM
            refine q_vv (As := [.int (0 : Int32), .int asz, .int amk, .int asd]) (rest := []) ⟨hx, hb, hml, hown, hts⟩ (k_X6_begin l D g m_q38 e_q38 m_ce e_ce m_co e_co hz120) (cwV 4 hts gX8_join_X6_begin rfl rfl rfl (by decide +kernel) ⟨Nat.le_of_ble_eq_true rfl, Nat.le_of_ble_eq_true rfl⟩) S m_q38 e_q38 (T := TX6) (N := 7) rfl rfl hl.1 rfl (Nat.le_of_ble_eq_true rfl) dX8_join_120 ⟨Nat.le_of_ble_eq_true rfl, Nat.le_of_ble_eq_true rfl⟩ (fun L13 f14 H locs S w120 => ?_)
            obtain ⟨eL, fv120, E_q38, E_ce, E_co⟩ := w120
            rw [eL] at S
            have fr : ∀ b, b ∈ L → b ≠ xb → b ≠ Sl → f14 b = f b := fun b mb nb0 nb1 => (fv120 b (mono b mb) (fun h_ => nz_q38 (h_ ▸ mb)) (fun h_ => nz_ce (h_ ▸ mb)) (fun h_ => nz_co (h_ ▸ mb))).trans (fr b mb nb0 nb1)
            have e_q38 : f14 q38 = .inr (4, [.ref ce, .ref co, .null, .int z120.1, .int z120.2.1, .int z120.2.2.1, .int z120.2.2.2.1]) := E_q38
            have e_ce : f14 ce = .inl (g 0, 4096, .inl z120.2.2.2.2.1) := E_ce
            have e_co : f14 co = .inr (0, [.ref cr, .int z120.2.2.2.2.2]) := E_co
            refine lv_aload hx hb dX8_join_123 (lv_at hl 1 rfl) ?_
            refine lv_iload hx hb dX8_join_125 (lv_at hl 0 rfl) ?_
            refine lv_aload hx hb dX8_join_127 (lv_at hl 3 rfl) ?_
            refine lv_aload hx hb dX8_join_129 (lv_at hl 2 rfl) ?_
            obtain ⟨z131, hz131, hM⟩ := bind_some hM
            have e_cr := ((fv120 cr m_cr n_cr_q38 n_cr_ce n_cr_co).trans e_cr)
            have e_ah := ((fv120 ah m_ah n_ah_q38 n_ah_ce n_ah_co).trans e_ah)
            have e_ace := ((fv120 ace m_ace n_ace_q38 n_ace_ce n_ace_co).trans e_ace)
            have e_aco := ((fv120 aco m_aco n_aco_q38 n_aco_ce n_aco_co).trans e_aco)
            have e_acr := ((fv120 acr m_acr n_acr_q38 n_acr_ce n_acr_co).trans e_acr)
            have e_bh := ((fv120 bh m_bh n_bh_q38 n_bh_ce n_bh_co).trans e_bh)
            have e_bce := ((fv120 bce m_bce n_bce_q38 n_bce_ce n_bce_co).trans e_bce)
            have e_bco := ((fv120 bco m_bco n_bco_q38 n_bco_ce n_bco_co).trans e_bco)
            have e_bcr := ((fv120 bcr m_bcr n_bcr_q38 n_bcr_ce n_bcr_co).trans e_bcr)
            refine q_vv (As := [.int (0 : Int32), .ref ah, .ref bh]) (rest := []) ⟨hx, hb, hml, hown, hts⟩ (k_X6_joinBits l D g m_q38 e_q38 m_ce e_ce m_co e_co m_cr e_cr m_ah e_ah m_ace e_ace m_aco e_aco m_acr e_acr m_bh e_bh m_bce e_bce m_bco e_bco m_bcr e_bcr n_ace_ce n_bce_ce hz131) (cwV 3 hts gX8_join_X6_joinBits rfl rfl rfl (by decide +kernel) ⟨Nat.le_of_ble_eq_true rfl, Nat.le_of_ble_eq_true rfl⟩) S m_q38 e_q38 (T := TX6) (N := 7) rfl rfl hl.1 rfl (Nat.le_of_ble_eq_true rfl) dX8_join_131 ⟨Nat.le_of_ble_eq_true rfl, Nat.le_of_ble_eq_true rfl⟩ (fun L16 f17 H locs S w131 => ?_)
            obtain ⟨eL, fv131, E_ce⟩ := w131
            rw [eL] at S
            have fr : ∀ b, b ∈ L → b ≠ xb → b ≠ Sl → f17 b = f b := fun b mb nb0 nb1 => (fv131 b (mono b mb) (fun h_ => nz_ce (h_ ▸ mb))).trans (fr b mb nb0 nb1)
            have e_ce : f17 ce = .inl (g 0, 4096, .inl z131) := E_ce
            refine lv_iload hx hb dX8_join_134 (lv_at hl 0 rfl) ?_
            refine lv_if_eq (tgt := 160) hx hb dX8_join_136 (by decide) (fun b136 => ?_) (fun b136 => ?_)
            · have hM := itT b136 hM
              refine lv_aload hx hb dX8_join_160 (lv_at hl 1 rfl) ?_
              have e_q38 := ((fv131 q38 m_q38 n_q38_ce).trans e_q38)
              refine q_getN hx hb hts in_X6 hown S m_q38 e_q38 (C := RX6) (T := TX6) (N := 7) rfl 1 (by decide) rfl (by decide) dX8_join_162 ?_
              refine lv_aload hx hb dX8_join_165 (lv_at hl 3 rfl) ?_
              have e_ah := ((fv131 ah m_ah n_ah_ce).trans e_ah)
              refine q_getN hx hb hts in_X6 hown S m_ah e_ah (C := RX6) (T := TX6) (N := 7) rfl 1 (by decide) rfl (by decide) dX8_join_167 ?_
              refine lv_aload hx hb dX8_join_170 (lv_at hl 2 rfl) ?_
              have e_bh := ((fv131 bh m_bh n_bh_ce).trans e_bh)
              refine q_getN hx hb hts in_X6 hown S m_bh e_bh (C := RX6) (T := TX6) (N := 7) rfl 1 (by decide) rfl (by decide) dX8_join_172 ?_
              obtain ⟨z175, hz175, hM⟩ := bind_some hM
              have e_co := ((fv131 co m_co n_co_ce).trans e_co)
              have e_cr := ((fv131 cr m_cr n_cr_ce).trans e_cr)
              have e_aco := ((fv131 aco m_aco n_aco_ce).trans e_aco)
              have e_acr := ((fv131 acr m_acr n_acr_ce).trans e_acr)
              have e_bco := ((fv131 bco m_bco n_bco_ce).trans e_bco)
              have e_bcr := ((fv131 bcr m_bcr n_bcr_ce).trans e_bcr)
              refine q_vv (As := [.ref aco, .ref bco]) (rest := []) ⟨hx, hb, hml, hown, hts⟩ (k_X0_becomeTogether l D g m_co e_co m_cr e_cr m_aco e_aco m_acr e_acr m_bco e_bco m_bcr e_bcr n_aco_co n_acr_cr n_bco_co n_bcr_cr hz175) (cwV 2 hts gX8_join_X0_becomeTogether rfl rfl rfl (by decide +kernel) ⟨Nat.le_of_ble_eq_true rfl, Nat.le_of_ble_eq_true rfl⟩) S m_co e_co (T := TX0) (N := 2) rfl rfl hl.1 rfl (Nat.le_of_ble_eq_true rfl) dX8_join_175 ⟨Nat.le_of_ble_eq_true rfl, Nat.le_of_ble_eq_true rfl⟩ (fun L19 f20 H locs S w175 => ?_)
              obtain ⟨eL, fv175, E_co, E_cr⟩ := w175
              rw [eL] at S
              have fr : ∀ b, b ∈ L → b ≠ xb → b ≠ Sl → f20 b = f b := fun b mb nb0 nb1 => (fv175 b (mono b mb) (fun h_ => nz_co (h_ ▸ mb)) (fun h_ => nz_cr (h_ ▸ mb))).trans (fr b mb nb0 nb1)
              have e_co : f20 co = .inr (0, [.ref cr, .int z175.1]) := E_co
              have e_cr : f20 cr = .inl (g 1, 1000, .inr (.inl z175.2)) := E_cr
              refine lv_aload_n hx hb dX8_join_178 rfl (lv_at hl 4 rfl) ?_
              refine lv_dup hx hb dX8_join_179 rfl ?_
              have e_xb := ((fv175 xb m_xb n_xb_co n_xb_cr).trans ((fv131 xb m_xb n_xb_ce).trans ((fv120 xb m_xb n_xb_q38 n_xb_ce n_xb_co).trans e_xb)))
              refine q_get hx hb hts in_X8 hown S m_xb e_xb (C := RX8) (T := TX8) (N := 8) rfl 7 (by decide) rfl (hts (.fieldLink RX8 84 "SieveCabinet" "made" "I") (by decide +kernel)) dX8_join_180 ?_
              refine lv_dup_x1 hx hb dX8_join_183 rfl rfl ?_
              refine lv_iconst (v := (1 : Int32)) hx hb dX8_join_184 (by decide) ?_
              refine lv_iadd hx hb dX8_join_185 ?_
              refine k_put hx hb hts in_X8 tyX8 tyX8_ok nmX8 hown S m_xb e_xb (C := RX8) (T := TX8) (N := 8) rfl 7 (by decide) (hts (.fieldLink RX8 84 "SieveCabinet" "made" "I") (by decide +kernel)) rfl rfl rfl (Nat.le_of_ble_eq_true rfl) dX8_join_186 (fun f22 ef22 H locs S => ?_)
              have e_xb : f22 xb = .inr (6, [.ref wo, .ref Sl, .ref dr, .ref ri, .ref th, .ref so, .ref ch, .int (md + (1 : Int32))]) := up_self ef22
              have fr : ∀ b, b ∈ L → b ≠ xb → b ≠ Sl → f22 b = f b := fun b mb nb0 nb1 => (up_ne ef22 nb0 rfl).trans (fr b mb nb0 nb1)
              have e_Sl := (up_ne ef22 n_Sl_xb ((fv175 Sl m_Sl n_Sl_co n_Sl_cr).trans ((fv131 Sl m_Sl n_Sl_ce).trans ((fv120 Sl m_Sl n_Sl_q38 n_Sl_ce n_Sl_co).trans e_Sl))))
              have e_q38 := (up_ne ef22 n_q38_xb ((fv175 q38 m_q38 n_q38_co n_q38_cr).trans e_q38))
              have e_ce := (up_ne ef22 n_ce_xb ((fv175 ce m_ce n_ce_co n_ce_cr).trans e_ce))
              have e_co := (up_ne ef22 n_co_xb e_co)
              have e_cr := (up_ne ef22 n_cr_xb e_cr)
              subst hQQ
              exact q_reti (post := fun x L1 f1 => ∃ q38 : Nat, ∃ ce : Nat, ∃ co : Nat, ∃ cr : Nat, x = z.1 ∧ (∀ b, b ∈ L → b ∈ L1) ∧ (∀ b, b ∈ L → b ≠ xb → b ≠ Sl → f1 b = f b) ∧ f1 xb = .inr (6, [.ref wo, .ref Sl, .ref dr, .ref ri, .ref th, .ref so, .ref ch, .int z.2.1]) ∧ f1 Sl = .inl (g 5, 30, .inr (.inr (.inr (.inr (va_up sf (Int32.toNatClampNeg md) (some q38)))))) ∧ (q38 ∉ L ∧ q38 ∈ L1 ∧ f1 q38 = .inr (4, [.ref ce, .ref co, .null, .int z.2.2.1, .int z.2.2.2.1, .int z.2.2.2.2.1, .int z.2.2.2.2.2.1])) ∧ (ce ∉ L ∧ ce ∈ L1 ∧ f1 ce = .inl (g 0, 4096, .inl z.2.2.2.2.2.2.1)) ∧ (co ∉ L ∧ co ∈ L1 ∧ f1 co = .inr (0, [.ref cr, .int z.2.2.2.2.2.2.2.1])) ∧ (cr ∉ L ∧ cr ∈ L1 ∧ f1 cr = .inl (g 1, 1000, .inr (.inl z.2.2.2.2.2.2.2.2)))) hx hb hr hlk S dX8_join_189 (by decide) (by decide) (by have hz := Option.some.inj hM; subst hz; exact ⟨q38, ce, co, cr, rfl, mono, fr, e_xb, e_Sl, ⟨nz_q38, m_q38, e_q38⟩, ⟨nz_ce, m_ce, e_ce⟩, ⟨nz_co, m_co, e_co⟩, ⟨nz_cr, m_cr, e_cr⟩⟩)
            · have hM := itF b136 hM
              refine lv_aload hx hb dX8_join_139 (lv_at hl 1 rfl) ?_
              have e_q38 := ((fv131 q38 m_q38 n_q38_ce).trans e_q38)
              refine q_getN hx hb hts in_X6 hown S m_q38 e_q38 (C := RX6) (T := TX6) (N := 7) rfl 1 (by decide) rfl (by decide) dX8_join_141 ?_
              refine lv_aload hx hb dX8_join_144 (lv_at hl 3 rfl) ?_
              have e_ah := ((fv131 ah m_ah n_ah_ce).trans e_ah)
              refine q_getN hx hb hts in_X6 hown S m_ah e_ah (C := RX6) (T := TX6) (N := 7) rfl 1 (by decide) rfl (by decide) dX8_join_146 ?_
              refine lv_aload hx hb dX8_join_149 (lv_at hl 2 rfl) ?_
              have e_bh := ((fv131 bh m_bh n_bh_ce).trans e_bh)
              refine q_getN hx hb hts in_X6 hown S m_bh e_bh (C := RX6) (T := TX6) (N := 7) rfl 1 (by decide) rfl (by decide) dX8_join_151 ?_
              obtain ⟨z154, hz154, hM⟩ := bind_some hM
              have e_co := ((fv131 co m_co n_co_ce).trans e_co)
              have e_cr := ((fv131 cr m_cr n_cr_ce).trans e_cr)
              have e_aco := ((fv131 aco m_aco n_aco_ce).trans e_aco)
              have e_acr := ((fv131 acr m_acr n_acr_ce).trans e_acr)
              have e_bco := ((fv131 bco m_bco n_bco_ce).trans e_bco)
              have e_bcr := ((fv131 bcr m_bcr n_bcr_ce).trans e_bcr)
              refine q_vv (As := [.ref aco, .ref bco]) (rest := []) ⟨hx, hb, hml, hown, hts⟩ (k_X0_becomeShared l D g m_co e_co m_cr e_cr m_aco e_aco m_acr e_acr m_bco e_bco m_bcr e_bcr n_aco_co n_bco_co n_acr_cr n_bcr_cr hz154) (cwV 2 hts gX8_join_X0_becomeShared rfl rfl rfl (by decide +kernel) ⟨Nat.le_of_ble_eq_true rfl, Nat.le_of_ble_eq_true rfl⟩) S m_co e_co (T := TX0) (N := 2) rfl rfl hl.1 rfl (Nat.le_of_ble_eq_true rfl) dX8_join_154 ⟨Nat.le_of_ble_eq_true rfl, Nat.le_of_ble_eq_true rfl⟩ (fun L23 f24 H locs S w154 => ?_)
              obtain ⟨eL, fv154, E_co, E_cr⟩ := w154
              rw [eL] at S
              have fr : ∀ b, b ∈ L → b ≠ xb → b ≠ Sl → f24 b = f b := fun b mb nb0 nb1 => (fv154 b (mono b mb) (fun h_ => nz_co (h_ ▸ mb)) (fun h_ => nz_cr (h_ ▸ mb))).trans (fr b mb nb0 nb1)
              have e_co : f24 co = .inr (0, [.ref cr, .int z154.1]) := E_co
              have e_cr : f24 cr = .inl (g 1, 1000, .inr (.inl z154.2)) := E_cr
              refine lv_goto (tgt := 178) hx hb dX8_join_157 (by decide) ?_
              refine lv_aload_n hx hb dX8_join_178 rfl (lv_at hl 4 rfl) ?_
              refine lv_dup hx hb dX8_join_179 rfl ?_
              have e_xb := ((fv154 xb m_xb n_xb_co n_xb_cr).trans ((fv131 xb m_xb n_xb_ce).trans ((fv120 xb m_xb n_xb_q38 n_xb_ce n_xb_co).trans e_xb)))
              refine q_get hx hb hts in_X8 hown S m_xb e_xb (C := RX8) (T := TX8) (N := 8) rfl 7 (by decide) rfl (hts (.fieldLink RX8 84 "SieveCabinet" "made" "I") (by decide +kernel)) dX8_join_180 ?_
              refine lv_dup_x1 hx hb dX8_join_183 rfl rfl ?_
              refine lv_iconst (v := (1 : Int32)) hx hb dX8_join_184 (by decide) ?_
              refine lv_iadd hx hb dX8_join_185 ?_
              refine k_put hx hb hts in_X8 tyX8 tyX8_ok nmX8 hown S m_xb e_xb (C := RX8) (T := TX8) (N := 8) rfl 7 (by decide) (hts (.fieldLink RX8 84 "SieveCabinet" "made" "I") (by decide +kernel)) rfl rfl rfl (Nat.le_of_ble_eq_true rfl) dX8_join_186 (fun f26 ef26 H locs S => ?_)
              have e_xb : f26 xb = .inr (6, [.ref wo, .ref Sl, .ref dr, .ref ri, .ref th, .ref so, .ref ch, .int (md + (1 : Int32))]) := up_self ef26
              have fr : ∀ b, b ∈ L → b ≠ xb → b ≠ Sl → f26 b = f b := fun b mb nb0 nb1 => (up_ne ef26 nb0 rfl).trans (fr b mb nb0 nb1)
              have e_Sl := (up_ne ef26 n_Sl_xb ((fv154 Sl m_Sl n_Sl_co n_Sl_cr).trans ((fv131 Sl m_Sl n_Sl_ce).trans ((fv120 Sl m_Sl n_Sl_q38 n_Sl_ce n_Sl_co).trans e_Sl))))
              have e_q38 := (up_ne ef26 n_q38_xb ((fv154 q38 m_q38 n_q38_co n_q38_cr).trans e_q38))
              have e_ce := (up_ne ef26 n_ce_xb ((fv154 ce m_ce n_ce_co n_ce_cr).trans e_ce))
              have e_co := (up_ne ef26 n_co_xb e_co)
              have e_cr := (up_ne ef26 n_cr_xb e_cr)
              subst hQQ
              exact q_reti (post := fun x L1 f1 => ∃ q38 : Nat, ∃ ce : Nat, ∃ co : Nat, ∃ cr : Nat, x = z.1 ∧ (∀ b, b ∈ L → b ∈ L1) ∧ (∀ b, b ∈ L → b ≠ xb → b ≠ Sl → f1 b = f b) ∧ f1 xb = .inr (6, [.ref wo, .ref Sl, .ref dr, .ref ri, .ref th, .ref so, .ref ch, .int z.2.1]) ∧ f1 Sl = .inl (g 5, 30, .inr (.inr (.inr (.inr (va_up sf (Int32.toNatClampNeg md) (some q38)))))) ∧ (q38 ∉ L ∧ q38 ∈ L1 ∧ f1 q38 = .inr (4, [.ref ce, .ref co, .null, .int z.2.2.1, .int z.2.2.2.1, .int z.2.2.2.2.1, .int z.2.2.2.2.2.1])) ∧ (ce ∉ L ∧ ce ∈ L1 ∧ f1 ce = .inl (g 0, 4096, .inl z.2.2.2.2.2.2.1)) ∧ (co ∉ L ∧ co ∈ L1 ∧ f1 co = .inr (0, [.ref cr, .int z.2.2.2.2.2.2.2.1])) ∧ (cr ∉ L ∧ cr ∈ L1 ∧ f1 cr = .inl (g 1, 1000, .inr (.inl z.2.2.2.2.2.2.2.2)))) hx hb hr hlk S dX8_join_189 (by decide) (by decide) (by have hz := Option.some.inj hM; subst hz; exact ⟨q38, ce, co, cr, rfl, mono, fr, e_xb, e_Sl, ⟨nz_q38, m_q38, e_q38⟩, ⟨nz_ce, m_ce, e_ce⟩, ⟨nz_co, m_co, e_co⟩, ⟨nz_cr, m_cr, e_cr⟩⟩)
          · have hM := itT b73 hM
            refine lv_aload hx hb dX8_join_76 (lv_at hl 3 rfl) ?_
            refine q_getN hx hb hts in_X6 hown S m_ah e_ah (C := RX6) (T := TX6) (N := 7) rfl 1 (by decide) rfl (by decide) dX8_join_78 ?_
            obtain ⟨z81, hz81, hM⟩ := bind_some hM
            refine q_vi (As := []) (rest := []) ⟨hx, hb, hml, hown, hts⟩ (k_X0_count l D g m_aco e_aco hz81) (cwV 0 hts gX8_join_X0_count rfl rfl rfl (by decide +kernel) ⟨Nat.le_of_ble_eq_true rfl, Nat.le_of_ble_eq_true rfl⟩) S m_aco e_aco (T := TX0) (N := 2) rfl rfl hl.1 rfl (Nat.le_of_ble_eq_true rfl) dX8_join_81 ⟨Nat.le_of_ble_eq_true rfl, Nat.le_of_ble_eq_true rfl⟩ (fun r29 L27 f28 H locs S w81 => ?_)
            obtain ⟨ex81, eL, ef⟩ := w81
            rw [eL, ef] at S
            replace ex81 := ex81.symm
            subst ex81
            refine lv_aload hx hb dX8_join_84 (lv_at hl 2 rfl) ?_
            refine q_getN hx hb hts in_X6 hown S m_bh e_bh (C := RX6) (T := TX6) (N := 7) rfl 1 (by decide) rfl (by decide) dX8_join_86 ?_
            obtain ⟨z89, hz89, hM⟩ := bind_some hM
            refine q_vi (As := []) (rest := [.int z81]) ⟨hx, hb, hml, hown, hts⟩ (k_X0_count l D g m_bco e_bco hz89) (cwV 0 hts gX8_join_X0_count rfl rfl rfl (by decide +kernel) ⟨Nat.le_of_ble_eq_true rfl, Nat.le_of_ble_eq_true rfl⟩) S m_bco e_bco (T := TX0) (N := 2) rfl rfl hl.1 rfl (Nat.le_of_ble_eq_true rfl) dX8_join_89 ⟨Nat.le_of_ble_eq_true rfl, Nat.le_of_ble_eq_true rfl⟩ (fun r32 L30 f31 H locs S w89 => ?_)
            obtain ⟨ex89, eL, ef⟩ := w89
            rw [eL, ef] at S
            replace ex89 := ex89.symm
            subst ex89
            refine lv_iadd hx hb dX8_join_92 ?_
            refine lv_sipush (v := (1000 : Int32)) hx hb dX8_join_93 (by decide) ?_
            refine lv_icmp_le (tgt := 102) hx hb dX8_join_96 (by decide) (fun b96 => ?_) (fun b96 => ?_)
            · have hM := itT b96 hM
              refine lv_aload hx hb dX8_join_102 (lv_at hl 1 rfl) ?_
              refine lv_iconst (v := (0 : Int32)) hx hb dX8_join_104 (by decide) ?_
              refine lv_aload hx hb dX8_join_105 (lv_at hl 3 rfl) ?_
              refine q_getN hx hb hts in_X6 hown S m_ah e_ah (C := RX6) (T := TX6) (N := 7) rfl 4 (by decide) rfl (by decide) dX8_join_107 ?_
              refine lv_aload hx hb dX8_join_110 (lv_at hl 3 rfl) ?_
              refine q_getN hx hb hts in_X6 hown S m_ah e_ah (C := RX6) (T := TX6) (N := 7) rfl 5 (by decide) rfl (by decide) dX8_join_112 ?_
              refine lv_aload hx hb dX8_join_115 (lv_at hl 3 rfl) ?_
              refine q_getN hx hb hts in_X6 hown S m_ah e_ah (C := RX6) (T := TX6) (N := 7) rfl 6 (by decide) rfl (by decide) dX8_join_117 ?_
              obtain ⟨z120, hz120, hM⟩ := bind_some hM
              refine q_vv (As := [.int (0 : Int32), .int asz, .int amk, .int asd]) (rest := []) ⟨hx, hb, hml, hown, hts⟩ (k_X6_begin l D g m_q38 e_q38 m_ce e_ce m_co e_co hz120) (cwV 4 hts gX8_join_X6_begin rfl rfl rfl (by decide +kernel) ⟨Nat.le_of_ble_eq_true rfl, Nat.le_of_ble_eq_true rfl⟩) S m_q38 e_q38 (T := TX6) (N := 7) rfl rfl hl.1 rfl (Nat.le_of_ble_eq_true rfl) dX8_join_120 ⟨Nat.le_of_ble_eq_true rfl, Nat.le_of_ble_eq_true rfl⟩ (fun L33 f34 H locs S w120 => ?_)
              obtain ⟨eL, fv120, E_q38, E_ce, E_co⟩ := w120
              rw [eL] at S
              have fr : ∀ b, b ∈ L → b ≠ xb → b ≠ Sl → f34 b = f b := fun b mb nb0 nb1 => (fv120 b (mono b mb) (fun h_ => nz_q38 (h_ ▸ mb)) (fun h_ => nz_ce (h_ ▸ mb)) (fun h_ => nz_co (h_ ▸ mb))).trans (fr b mb nb0 nb1)
              have e_q38 : f34 q38 = .inr (4, [.ref ce, .ref co, .null, .int z120.1, .int z120.2.1, .int z120.2.2.1, .int z120.2.2.2.1]) := E_q38
              have e_ce : f34 ce = .inl (g 0, 4096, .inl z120.2.2.2.2.1) := E_ce
              have e_co : f34 co = .inr (0, [.ref cr, .int z120.2.2.2.2.2]) := E_co
              refine lv_aload hx hb dX8_join_123 (lv_at hl 1 rfl) ?_
              refine lv_iload hx hb dX8_join_125 (lv_at hl 0 rfl) ?_
              refine lv_aload hx hb dX8_join_127 (lv_at hl 3 rfl) ?_
              refine lv_aload hx hb dX8_join_129 (lv_at hl 2 rfl) ?_
              obtain ⟨z131, hz131, hM⟩ := bind_some hM
              have e_cr := ((fv120 cr m_cr n_cr_q38 n_cr_ce n_cr_co).trans e_cr)
              have e_ah := ((fv120 ah m_ah n_ah_q38 n_ah_ce n_ah_co).trans e_ah)
              have e_ace := ((fv120 ace m_ace n_ace_q38 n_ace_ce n_ace_co).trans e_ace)
              have e_aco := ((fv120 aco m_aco n_aco_q38 n_aco_ce n_aco_co).trans e_aco)
              have e_acr := ((fv120 acr m_acr n_acr_q38 n_acr_ce n_acr_co).trans e_acr)
              have e_bh := ((fv120 bh m_bh n_bh_q38 n_bh_ce n_bh_co).trans e_bh)
              have e_bce := ((fv120 bce m_bce n_bce_q38 n_bce_ce n_bce_co).trans e_bce)
              have e_bco := ((fv120 bco m_bco n_bco_q38 n_bco_ce n_bco_co).trans e_bco)
              have e_bcr := ((fv120 bcr m_bcr n_bcr_q38 n_bcr_ce n_bcr_co).trans e_bcr)
              refine q_vv (As := [.int (0 : Int32), .ref ah, .ref bh]) (rest := []) ⟨hx, hb, hml, hown, hts⟩ (k_X6_joinBits l D g m_q38 e_q38 m_ce e_ce m_co e_co m_cr e_cr m_ah e_ah m_ace e_ace m_aco e_aco m_acr e_acr m_bh e_bh m_bce e_bce m_bco e_bco m_bcr e_bcr n_ace_ce n_bce_ce hz131) (cwV 3 hts gX8_join_X6_joinBits rfl rfl rfl (by decide +kernel) ⟨Nat.le_of_ble_eq_true rfl, Nat.le_of_ble_eq_true rfl⟩) S m_q38 e_q38 (T := TX6) (N := 7) rfl rfl hl.1 rfl (Nat.le_of_ble_eq_true rfl) dX8_join_131 ⟨Nat.le_of_ble_eq_true rfl, Nat.le_of_ble_eq_true rfl⟩ (fun L36 f37 H locs S w131 => ?_)
              obtain ⟨eL, fv131, E_ce⟩ := w131
              rw [eL] at S
              have fr : ∀ b, b ∈ L → b ≠ xb → b ≠ Sl → f37 b = f b := fun b mb nb0 nb1 => (fv131 b (mono b mb) (fun h_ => nz_ce (h_ ▸ mb))).trans (fr b mb nb0 nb1)
              have e_ce : f37 ce = .inl (g 0, 4096, .inl z131) := E_ce
              refine lv_iload hx hb dX8_join_134 (lv_at hl 0 rfl) ?_
              refine lv_if_eq (tgt := 160) hx hb dX8_join_136 (by decide) (fun b136 => ?_) (fun b136 => ?_)
              · have hM := itT b136 hM
                refine lv_aload hx hb dX8_join_160 (lv_at hl 1 rfl) ?_
                have e_q38 := ((fv131 q38 m_q38 n_q38_ce).trans e_q38)
                refine q_getN hx hb hts in_X6 hown S m_q38 e_q38 (C := RX6) (T := TX6) (N := 7) rfl 1 (by decide) rfl (by decide) dX8_join_162 ?_
                refine lv_aload hx hb dX8_join_165 (lv_at hl 3 rfl) ?_
                have e_ah := ((fv131 ah m_ah n_ah_ce).trans e_ah)
                refine q_getN hx hb hts in_X6 hown S m_ah e_ah (C := RX6) (T := TX6) (N := 7) rfl 1 (by decide) rfl (by decide) dX8_join_167 ?_
                refine lv_aload hx hb dX8_join_170 (lv_at hl 2 rfl) ?_
                have e_bh := ((fv131 bh m_bh n_bh_ce).trans e_bh)
                refine q_getN hx hb hts in_X6 hown S m_bh e_bh (C := RX6) (T := TX6) (N := 7) rfl 1 (by decide) rfl (by decide) dX8_join_172 ?_
                obtain ⟨z175, hz175, hM⟩ := bind_some hM
                have e_co := ((fv131 co m_co n_co_ce).trans e_co)
                have e_cr := ((fv131 cr m_cr n_cr_ce).trans e_cr)
                have e_aco := ((fv131 aco m_aco n_aco_ce).trans e_aco)
                have e_acr := ((fv131 acr m_acr n_acr_ce).trans e_acr)
                have e_bco := ((fv131 bco m_bco n_bco_ce).trans e_bco)
                have e_bcr := ((fv131 bcr m_bcr n_bcr_ce).trans e_bcr)
                refine q_vv (As := [.ref aco, .ref bco]) (rest := []) ⟨hx, hb, hml, hown, hts⟩ (k_X0_becomeTogether l D g m_co e_co m_cr e_cr m_aco e_aco m_acr e_acr m_bco e_bco m_bcr e_bcr n_aco_co n_acr_cr n_bco_co n_bcr_cr hz175) (cwV 2 hts gX8_join_X0_becomeTogether rfl rfl rfl (by decide +kernel) ⟨Nat.le_of_ble_eq_true rfl, Nat.le_of_ble_eq_true rfl⟩) S m_co e_co (T := TX0) (N := 2) rfl rfl hl.1 rfl (Nat.le_of_ble_eq_true rfl) dX8_join_175 ⟨Nat.le_of_ble_eq_true rfl, Nat.le_of_ble_eq_true rfl⟩ (fun L39 f40 H locs S w175 => ?_)
                obtain ⟨eL, fv175, E_co, E_cr⟩ := w175
                rw [eL] at S
                have fr : ∀ b, b ∈ L → b ≠ xb → b ≠ Sl → f40 b = f b := fun b mb nb0 nb1 => (fv175 b (mono b mb) (fun h_ => nz_co (h_ ▸ mb)) (fun h_ => nz_cr (h_ ▸ mb))).trans (fr b mb nb0 nb1)
                have e_co : f40 co = .inr (0, [.ref cr, .int z175.1]) := E_co
                have e_cr : f40 cr = .inl (g 1, 1000, .inr (.inl z175.2)) := E_cr
                refine lv_aload_n hx hb dX8_join_178 rfl (lv_at hl 4 rfl) ?_
                refine lv_dup hx hb dX8_join_179 rfl ?_
                have e_xb := ((fv175 xb m_xb n_xb_co n_xb_cr).trans ((fv131 xb m_xb n_xb_ce).trans ((fv120 xb m_xb n_xb_q38 n_xb_ce n_xb_co).trans e_xb)))
                refine q_get hx hb hts in_X8 hown S m_xb e_xb (C := RX8) (T := TX8) (N := 8) rfl 7 (by decide) rfl (hts (.fieldLink RX8 84 "SieveCabinet" "made" "I") (by decide +kernel)) dX8_join_180 ?_
                refine lv_dup_x1 hx hb dX8_join_183 rfl rfl ?_
                refine lv_iconst (v := (1 : Int32)) hx hb dX8_join_184 (by decide) ?_
                refine lv_iadd hx hb dX8_join_185 ?_
                refine k_put hx hb hts in_X8 tyX8 tyX8_ok nmX8 hown S m_xb e_xb (C := RX8) (T := TX8) (N := 8) rfl 7 (by decide) (hts (.fieldLink RX8 84 "SieveCabinet" "made" "I") (by decide +kernel)) rfl rfl rfl (Nat.le_of_ble_eq_true rfl) dX8_join_186 (fun f42 ef42 H locs S => ?_)
                have e_xb : f42 xb = .inr (6, [.ref wo, .ref Sl, .ref dr, .ref ri, .ref th, .ref so, .ref ch, .int (md + (1 : Int32))]) := up_self ef42
                have fr : ∀ b, b ∈ L → b ≠ xb → b ≠ Sl → f42 b = f b := fun b mb nb0 nb1 => (up_ne ef42 nb0 rfl).trans (fr b mb nb0 nb1)
                have e_Sl := (up_ne ef42 n_Sl_xb ((fv175 Sl m_Sl n_Sl_co n_Sl_cr).trans ((fv131 Sl m_Sl n_Sl_ce).trans ((fv120 Sl m_Sl n_Sl_q38 n_Sl_ce n_Sl_co).trans e_Sl))))
                have e_q38 := (up_ne ef42 n_q38_xb ((fv175 q38 m_q38 n_q38_co n_q38_cr).trans e_q38))
                have e_ce := (up_ne ef42 n_ce_xb ((fv175 ce m_ce n_ce_co n_ce_cr).trans e_ce))
                have e_co := (up_ne ef42 n_co_xb e_co)
                have e_cr := (up_ne ef42 n_cr_xb e_cr)
                subst hQQ
                exact q_reti (post := fun x L1 f1 => ∃ q38 : Nat, ∃ ce : Nat, ∃ co : Nat, ∃ cr : Nat, x = z.1 ∧ (∀ b, b ∈ L → b ∈ L1) ∧ (∀ b, b ∈ L → b ≠ xb → b ≠ Sl → f1 b = f b) ∧ f1 xb = .inr (6, [.ref wo, .ref Sl, .ref dr, .ref ri, .ref th, .ref so, .ref ch, .int z.2.1]) ∧ f1 Sl = .inl (g 5, 30, .inr (.inr (.inr (.inr (va_up sf (Int32.toNatClampNeg md) (some q38)))))) ∧ (q38 ∉ L ∧ q38 ∈ L1 ∧ f1 q38 = .inr (4, [.ref ce, .ref co, .null, .int z.2.2.1, .int z.2.2.2.1, .int z.2.2.2.2.1, .int z.2.2.2.2.2.1])) ∧ (ce ∉ L ∧ ce ∈ L1 ∧ f1 ce = .inl (g 0, 4096, .inl z.2.2.2.2.2.2.1)) ∧ (co ∉ L ∧ co ∈ L1 ∧ f1 co = .inr (0, [.ref cr, .int z.2.2.2.2.2.2.2.1])) ∧ (cr ∉ L ∧ cr ∈ L1 ∧ f1 cr = .inl (g 1, 1000, .inr (.inl z.2.2.2.2.2.2.2.2)))) hx hb hr hlk S dX8_join_189 (by decide) (by decide) (by have hz := Option.some.inj hM; subst hz; exact ⟨q38, ce, co, cr, rfl, mono, fr, e_xb, e_Sl, ⟨nz_q38, m_q38, e_q38⟩, ⟨nz_ce, m_ce, e_ce⟩, ⟨nz_co, m_co, e_co⟩, ⟨nz_cr, m_cr, e_cr⟩⟩)
              · have hM := itF b136 hM
                refine lv_aload hx hb dX8_join_139 (lv_at hl 1 rfl) ?_
                have e_q38 := ((fv131 q38 m_q38 n_q38_ce).trans e_q38)
                refine q_getN hx hb hts in_X6 hown S m_q38 e_q38 (C := RX6) (T := TX6) (N := 7) rfl 1 (by decide) rfl (by decide) dX8_join_141 ?_
                refine lv_aload hx hb dX8_join_144 (lv_at hl 3 rfl) ?_
                have e_ah := ((fv131 ah m_ah n_ah_ce).trans e_ah)
                refine q_getN hx hb hts in_X6 hown S m_ah e_ah (C := RX6) (T := TX6) (N := 7) rfl 1 (by decide) rfl (by decide) dX8_join_146 ?_
                refine lv_aload hx hb dX8_join_149 (lv_at hl 2 rfl) ?_
                have e_bh := ((fv131 bh m_bh n_bh_ce).trans e_bh)
                refine q_getN hx hb hts in_X6 hown S m_bh e_bh (C := RX6) (T := TX6) (N := 7) rfl 1 (by decide) rfl (by decide) dX8_join_151 ?_
                obtain ⟨z154, hz154, hM⟩ := bind_some hM
                have e_co := ((fv131 co m_co n_co_ce).trans e_co)
                have e_cr := ((fv131 cr m_cr n_cr_ce).trans e_cr)
                have e_aco := ((fv131 aco m_aco n_aco_ce).trans e_aco)
                have e_acr := ((fv131 acr m_acr n_acr_ce).trans e_acr)
                have e_bco := ((fv131 bco m_bco n_bco_ce).trans e_bco)
                have e_bcr := ((fv131 bcr m_bcr n_bcr_ce).trans e_bcr)
                refine q_vv (As := [.ref aco, .ref bco]) (rest := []) ⟨hx, hb, hml, hown, hts⟩ (k_X0_becomeShared l D g m_co e_co m_cr e_cr m_aco e_aco m_acr e_acr m_bco e_bco m_bcr e_bcr n_aco_co n_bco_co n_acr_cr n_bcr_cr hz154) (cwV 2 hts gX8_join_X0_becomeShared rfl rfl rfl (by decide +kernel) ⟨Nat.le_of_ble_eq_true rfl, Nat.le_of_ble_eq_true rfl⟩) S m_co e_co (T := TX0) (N := 2) rfl rfl hl.1 rfl (Nat.le_of_ble_eq_true rfl) dX8_join_154 ⟨Nat.le_of_ble_eq_true rfl, Nat.le_of_ble_eq_true rfl⟩ (fun L43 f44 H locs S w154 => ?_)
                obtain ⟨eL, fv154, E_co, E_cr⟩ := w154
                rw [eL] at S
                have fr : ∀ b, b ∈ L → b ≠ xb → b ≠ Sl → f44 b = f b := fun b mb nb0 nb1 => (fv154 b (mono b mb) (fun h_ => nz_co (h_ ▸ mb)) (fun h_ => nz_cr (h_ ▸ mb))).trans (fr b mb nb0 nb1)
                have e_co : f44 co = .inr (0, [.ref cr, .int z154.1]) := E_co
                have e_cr : f44 cr = .inl (g 1, 1000, .inr (.inl z154.2)) := E_cr
                refine lv_goto (tgt := 178) hx hb dX8_join_157 (by decide) ?_
                refine lv_aload_n hx hb dX8_join_178 rfl (lv_at hl 4 rfl) ?_
                refine lv_dup hx hb dX8_join_179 rfl ?_
                have e_xb := ((fv154 xb m_xb n_xb_co n_xb_cr).trans ((fv131 xb m_xb n_xb_ce).trans ((fv120 xb m_xb n_xb_q38 n_xb_ce n_xb_co).trans e_xb)))
                refine q_get hx hb hts in_X8 hown S m_xb e_xb (C := RX8) (T := TX8) (N := 8) rfl 7 (by decide) rfl (hts (.fieldLink RX8 84 "SieveCabinet" "made" "I") (by decide +kernel)) dX8_join_180 ?_
                refine lv_dup_x1 hx hb dX8_join_183 rfl rfl ?_
                refine lv_iconst (v := (1 : Int32)) hx hb dX8_join_184 (by decide) ?_
                refine lv_iadd hx hb dX8_join_185 ?_
                refine k_put hx hb hts in_X8 tyX8 tyX8_ok nmX8 hown S m_xb e_xb (C := RX8) (T := TX8) (N := 8) rfl 7 (by decide) (hts (.fieldLink RX8 84 "SieveCabinet" "made" "I") (by decide +kernel)) rfl rfl rfl (Nat.le_of_ble_eq_true rfl) dX8_join_186 (fun f46 ef46 H locs S => ?_)
                have e_xb : f46 xb = .inr (6, [.ref wo, .ref Sl, .ref dr, .ref ri, .ref th, .ref so, .ref ch, .int (md + (1 : Int32))]) := up_self ef46
                have fr : ∀ b, b ∈ L → b ≠ xb → b ≠ Sl → f46 b = f b := fun b mb nb0 nb1 => (up_ne ef46 nb0 rfl).trans (fr b mb nb0 nb1)
                have e_Sl := (up_ne ef46 n_Sl_xb ((fv154 Sl m_Sl n_Sl_co n_Sl_cr).trans ((fv131 Sl m_Sl n_Sl_ce).trans ((fv120 Sl m_Sl n_Sl_q38 n_Sl_ce n_Sl_co).trans e_Sl))))
                have e_q38 := (up_ne ef46 n_q38_xb ((fv154 q38 m_q38 n_q38_co n_q38_cr).trans e_q38))
                have e_ce := (up_ne ef46 n_ce_xb ((fv154 ce m_ce n_ce_co n_ce_cr).trans e_ce))
                have e_co := (up_ne ef46 n_co_xb e_co)
                have e_cr := (up_ne ef46 n_cr_xb e_cr)
                subst hQQ
                exact q_reti (post := fun x L1 f1 => ∃ q38 : Nat, ∃ ce : Nat, ∃ co : Nat, ∃ cr : Nat, x = z.1 ∧ (∀ b, b ∈ L → b ∈ L1) ∧ (∀ b, b ∈ L → b ≠ xb → b ≠ Sl → f1 b = f b) ∧ f1 xb = .inr (6, [.ref wo, .ref Sl, .ref dr, .ref ri, .ref th, .ref so, .ref ch, .int z.2.1]) ∧ f1 Sl = .inl (g 5, 30, .inr (.inr (.inr (.inr (va_up sf (Int32.toNatClampNeg md) (some q38)))))) ∧ (q38 ∉ L ∧ q38 ∈ L1 ∧ f1 q38 = .inr (4, [.ref ce, .ref co, .null, .int z.2.2.1, .int z.2.2.2.1, .int z.2.2.2.2.1, .int z.2.2.2.2.2.1])) ∧ (ce ∉ L ∧ ce ∈ L1 ∧ f1 ce = .inl (g 0, 4096, .inl z.2.2.2.2.2.2.1)) ∧ (co ∉ L ∧ co ∈ L1 ∧ f1 co = .inr (0, [.ref cr, .int z.2.2.2.2.2.2.2.1])) ∧ (cr ∉ L ∧ cr ∈ L1 ∧ f1 cr = .inl (g 1, 1000, .inr (.inl z.2.2.2.2.2.2.2.2)))) hx hb hr hlk S dX8_join_189 (by decide) (by decide) (by have hz := Option.some.inj hM; subst hz; exact ⟨q38, ce, co, cr, rfl, mono, fr, e_xb, e_Sl, ⟨nz_q38, m_q38, e_q38⟩, ⟨nz_ce, m_ce, e_ce⟩, ⟨nz_co, m_co, e_co⟩, ⟨nz_cr, m_cr, e_cr⟩⟩)
            · have hM := itF b96 hM
              refine lv_bipush (v := (-4 : Int32)) hx hb dX8_join_99 (by decide) ?_
              subst hQQ
              exact q_reti (post := fun x L1 f1 => ∃ q38 : Nat, ∃ ce : Nat, ∃ co : Nat, ∃ cr : Nat, x = z.1 ∧ (∀ b, b ∈ L → b ∈ L1) ∧ (∀ b, b ∈ L → b ≠ xb → b ≠ Sl → f1 b = f b) ∧ f1 xb = .inr (6, [.ref wo, .ref Sl, .ref dr, .ref ri, .ref th, .ref so, .ref ch, .int z.2.1]) ∧ f1 Sl = .inl (g 5, 30, .inr (.inr (.inr (.inr (va_up sf (Int32.toNatClampNeg md) (some q38)))))) ∧ (q38 ∉ L ∧ q38 ∈ L1 ∧ f1 q38 = .inr (4, [.ref ce, .ref co, .null, .int z.2.2.1, .int z.2.2.2.1, .int z.2.2.2.2.1, .int z.2.2.2.2.2.1])) ∧ (ce ∉ L ∧ ce ∈ L1 ∧ f1 ce = .inl (g 0, 4096, .inl z.2.2.2.2.2.2.1)) ∧ (co ∉ L ∧ co ∈ L1 ∧ f1 co = .inr (0, [.ref cr, .int z.2.2.2.2.2.2.2.1])) ∧ (cr ∉ L ∧ cr ∈ L1 ∧ f1 cr = .inl (g 1, 1000, .inr (.inl z.2.2.2.2.2.2.2.2)))) hx hb hr hlk S dX8_join_101 (by decide) (by decide) (by have hz := Option.some.inj hM; subst hz; exact ⟨q38, ce, co, cr, rfl, mono, fr, e_xb, e_Sl, ⟨nz_q38, m_q38, e_q38⟩, ⟨nz_ce, m_ce, e_ce⟩, ⟨nz_co, m_co, e_co⟩, ⟨nz_cr, m_cr, e_cr⟩⟩)
        · have hM := itT b56 hM
          refine lv_iconst (v := (1 : Int32)) hx hb dX8_join_59 (by decide) ?_
          refine lv_goto (tgt := 64) hx hb dX8_join_60 (by decide) ?_
          refine lv_istore (lv' := [(7, .int (1 : Int32)), (6, .ref q38), (5, .ref bh), (4, .ref ah), (0, .ref xb), (1, .int ho), (2, .int aq), (3, .int bq)]) hx hb dX8_join_64 hl (by decide) rfl (fun ls hl => ?_)
          refine lv_aload hx hb dX8_join_66 (lv_at hl 1 rfl) ?_
          refine lv_ifnull hx hb dX8_join_68 ?_
          refine lv_iload hx hb dX8_join_71 (lv_at hl 0 rfl) ?_
          refine lv_if_ne (tgt := 102) hx hb dX8_join_73 (by decide) (fun b73 => ?_) (fun b73 => ?_)
          · have hM := itF b73 hM
            refine lv_aload hx hb dX8_join_102 (lv_at hl 1 rfl) ?_
            refine lv_iconst (v := (0 : Int32)) hx hb dX8_join_104 (by decide) ?_
            refine lv_aload hx hb dX8_join_105 (lv_at hl 3 rfl) ?_
            refine q_getN hx hb hts in_X6 hown S m_ah e_ah (C := RX6) (T := TX6) (N := 7) rfl 4 (by decide) rfl (by decide) dX8_join_107 ?_
            refine lv_aload hx hb dX8_join_110 (lv_at hl 3 rfl) ?_
            refine q_getN hx hb hts in_X6 hown S m_ah e_ah (C := RX6) (T := TX6) (N := 7) rfl 5 (by decide) rfl (by decide) dX8_join_112 ?_
            refine lv_aload hx hb dX8_join_115 (lv_at hl 3 rfl) ?_
            refine q_getN hx hb hts in_X6 hown S m_ah e_ah (C := RX6) (T := TX6) (N := 7) rfl 6 (by decide) rfl (by decide) dX8_join_117 ?_
            obtain ⟨z120, hz120, hM⟩ := bind_some hM
            refine q_vv (As := [.int (0 : Int32), .int asz, .int amk, .int asd]) (rest := []) ⟨hx, hb, hml, hown, hts⟩ (k_X6_begin l D g m_q38 e_q38 m_ce e_ce m_co e_co hz120) (cwV 4 hts gX8_join_X6_begin rfl rfl rfl (by decide +kernel) ⟨Nat.le_of_ble_eq_true rfl, Nat.le_of_ble_eq_true rfl⟩) S m_q38 e_q38 (T := TX6) (N := 7) rfl rfl hl.1 rfl (Nat.le_of_ble_eq_true rfl) dX8_join_120 ⟨Nat.le_of_ble_eq_true rfl, Nat.le_of_ble_eq_true rfl⟩ (fun L47 f48 H locs S w120 => ?_)
            obtain ⟨eL, fv120, E_q38, E_ce, E_co⟩ := w120
            rw [eL] at S
            have fr : ∀ b, b ∈ L → b ≠ xb → b ≠ Sl → f48 b = f b := fun b mb nb0 nb1 => (fv120 b (mono b mb) (fun h_ => nz_q38 (h_ ▸ mb)) (fun h_ => nz_ce (h_ ▸ mb)) (fun h_ => nz_co (h_ ▸ mb))).trans (fr b mb nb0 nb1)
            have e_q38 : f48 q38 = .inr (4, [.ref ce, .ref co, .null, .int z120.1, .int z120.2.1, .int z120.2.2.1, .int z120.2.2.2.1]) := E_q38
            have e_ce : f48 ce = .inl (g 0, 4096, .inl z120.2.2.2.2.1) := E_ce
            have e_co : f48 co = .inr (0, [.ref cr, .int z120.2.2.2.2.2]) := E_co
            refine lv_aload hx hb dX8_join_123 (lv_at hl 1 rfl) ?_
            refine lv_iload hx hb dX8_join_125 (lv_at hl 0 rfl) ?_
            refine lv_aload hx hb dX8_join_127 (lv_at hl 3 rfl) ?_
            refine lv_aload hx hb dX8_join_129 (lv_at hl 2 rfl) ?_
            obtain ⟨z131, hz131, hM⟩ := bind_some hM
            have e_cr := ((fv120 cr m_cr n_cr_q38 n_cr_ce n_cr_co).trans e_cr)
            have e_ah := ((fv120 ah m_ah n_ah_q38 n_ah_ce n_ah_co).trans e_ah)
            have e_ace := ((fv120 ace m_ace n_ace_q38 n_ace_ce n_ace_co).trans e_ace)
            have e_aco := ((fv120 aco m_aco n_aco_q38 n_aco_ce n_aco_co).trans e_aco)
            have e_acr := ((fv120 acr m_acr n_acr_q38 n_acr_ce n_acr_co).trans e_acr)
            have e_bh := ((fv120 bh m_bh n_bh_q38 n_bh_ce n_bh_co).trans e_bh)
            have e_bce := ((fv120 bce m_bce n_bce_q38 n_bce_ce n_bce_co).trans e_bce)
            have e_bco := ((fv120 bco m_bco n_bco_q38 n_bco_ce n_bco_co).trans e_bco)
            have e_bcr := ((fv120 bcr m_bcr n_bcr_q38 n_bcr_ce n_bcr_co).trans e_bcr)
            refine q_vv (As := [.int (1 : Int32), .ref ah, .ref bh]) (rest := []) ⟨hx, hb, hml, hown, hts⟩ (k_X6_joinBits l D g m_q38 e_q38 m_ce e_ce m_co e_co m_cr e_cr m_ah e_ah m_ace e_ace m_aco e_aco m_acr e_acr m_bh e_bh m_bce e_bce m_bco e_bco m_bcr e_bcr n_ace_ce n_bce_ce hz131) (cwV 3 hts gX8_join_X6_joinBits rfl rfl rfl (by decide +kernel) ⟨Nat.le_of_ble_eq_true rfl, Nat.le_of_ble_eq_true rfl⟩) S m_q38 e_q38 (T := TX6) (N := 7) rfl rfl hl.1 rfl (Nat.le_of_ble_eq_true rfl) dX8_join_131 ⟨Nat.le_of_ble_eq_true rfl, Nat.le_of_ble_eq_true rfl⟩ (fun L50 f51 H locs S w131 => ?_)
            obtain ⟨eL, fv131, E_ce⟩ := w131
            rw [eL] at S
            have fr : ∀ b, b ∈ L → b ≠ xb → b ≠ Sl → f51 b = f b := fun b mb nb0 nb1 => (fv131 b (mono b mb) (fun h_ => nz_ce (h_ ▸ mb))).trans (fr b mb nb0 nb1)
            have e_ce : f51 ce = .inl (g 0, 4096, .inl z131) := E_ce
            refine lv_iload hx hb dX8_join_134 (lv_at hl 0 rfl) ?_
            refine lv_if_eq (tgt := 160) hx hb dX8_join_136 (by decide) (fun b136 => ?_) (fun b136 => ?_)
            · have hM := itT b136 hM
              refine lv_aload hx hb dX8_join_160 (lv_at hl 1 rfl) ?_
              have e_q38 := ((fv131 q38 m_q38 n_q38_ce).trans e_q38)
              refine q_getN hx hb hts in_X6 hown S m_q38 e_q38 (C := RX6) (T := TX6) (N := 7) rfl 1 (by decide) rfl (by decide) dX8_join_162 ?_
              refine lv_aload hx hb dX8_join_165 (lv_at hl 3 rfl) ?_
              have e_ah := ((fv131 ah m_ah n_ah_ce).trans e_ah)
              refine q_getN hx hb hts in_X6 hown S m_ah e_ah (C := RX6) (T := TX6) (N := 7) rfl 1 (by decide) rfl (by decide) dX8_join_167 ?_
              refine lv_aload hx hb dX8_join_170 (lv_at hl 2 rfl) ?_
              have e_bh := ((fv131 bh m_bh n_bh_ce).trans e_bh)
              refine q_getN hx hb hts in_X6 hown S m_bh e_bh (C := RX6) (T := TX6) (N := 7) rfl 1 (by decide) rfl (by decide) dX8_join_172 ?_
              obtain ⟨z175, hz175, hM⟩ := bind_some hM
              have e_co := ((fv131 co m_co n_co_ce).trans e_co)
              have e_cr := ((fv131 cr m_cr n_cr_ce).trans e_cr)
              have e_aco := ((fv131 aco m_aco n_aco_ce).trans e_aco)
              have e_acr := ((fv131 acr m_acr n_acr_ce).trans e_acr)
              have e_bco := ((fv131 bco m_bco n_bco_ce).trans e_bco)
              have e_bcr := ((fv131 bcr m_bcr n_bcr_ce).trans e_bcr)
              refine q_vv (As := [.ref aco, .ref bco]) (rest := []) ⟨hx, hb, hml, hown, hts⟩ (k_X0_becomeTogether l D g m_co e_co m_cr e_cr m_aco e_aco m_acr e_acr m_bco e_bco m_bcr e_bcr n_aco_co n_acr_cr n_bco_co n_bcr_cr hz175) (cwV 2 hts gX8_join_X0_becomeTogether rfl rfl rfl (by decide +kernel) ⟨Nat.le_of_ble_eq_true rfl, Nat.le_of_ble_eq_true rfl⟩) S m_co e_co (T := TX0) (N := 2) rfl rfl hl.1 rfl (Nat.le_of_ble_eq_true rfl) dX8_join_175 ⟨Nat.le_of_ble_eq_true rfl, Nat.le_of_ble_eq_true rfl⟩ (fun L53 f54 H locs S w175 => ?_)
              obtain ⟨eL, fv175, E_co, E_cr⟩ := w175
              rw [eL] at S
              have fr : ∀ b, b ∈ L → b ≠ xb → b ≠ Sl → f54 b = f b := fun b mb nb0 nb1 => (fv175 b (mono b mb) (fun h_ => nz_co (h_ ▸ mb)) (fun h_ => nz_cr (h_ ▸ mb))).trans (fr b mb nb0 nb1)
              have e_co : f54 co = .inr (0, [.ref cr, .int z175.1]) := E_co
              have e_cr : f54 cr = .inl (g 1, 1000, .inr (.inl z175.2)) := E_cr
              refine lv_aload_n hx hb dX8_join_178 rfl (lv_at hl 4 rfl) ?_
              refine lv_dup hx hb dX8_join_179 rfl ?_
              have e_xb := ((fv175 xb m_xb n_xb_co n_xb_cr).trans ((fv131 xb m_xb n_xb_ce).trans ((fv120 xb m_xb n_xb_q38 n_xb_ce n_xb_co).trans e_xb)))
              refine q_get hx hb hts in_X8 hown S m_xb e_xb (C := RX8) (T := TX8) (N := 8) rfl 7 (by decide) rfl (hts (.fieldLink RX8 84 "SieveCabinet" "made" "I") (by decide +kernel)) dX8_join_180 ?_
              refine lv_dup_x1 hx hb dX8_join_183 rfl rfl ?_
              refine lv_iconst (v := (1 : Int32)) hx hb dX8_join_184 (by decide) ?_
              refine lv_iadd hx hb dX8_join_185 ?_
              refine k_put hx hb hts in_X8 tyX8 tyX8_ok nmX8 hown S m_xb e_xb (C := RX8) (T := TX8) (N := 8) rfl 7 (by decide) (hts (.fieldLink RX8 84 "SieveCabinet" "made" "I") (by decide +kernel)) rfl rfl rfl (Nat.le_of_ble_eq_true rfl) dX8_join_186 (fun f56 ef56 H locs S => ?_)
              have e_xb : f56 xb = .inr (6, [.ref wo, .ref Sl, .ref dr, .ref ri, .ref th, .ref so, .ref ch, .int (md + (1 : Int32))]) := up_self ef56
              have fr : ∀ b, b ∈ L → b ≠ xb → b ≠ Sl → f56 b = f b := fun b mb nb0 nb1 => (up_ne ef56 nb0 rfl).trans (fr b mb nb0 nb1)
              have e_Sl := (up_ne ef56 n_Sl_xb ((fv175 Sl m_Sl n_Sl_co n_Sl_cr).trans ((fv131 Sl m_Sl n_Sl_ce).trans ((fv120 Sl m_Sl n_Sl_q38 n_Sl_ce n_Sl_co).trans e_Sl))))
              have e_q38 := (up_ne ef56 n_q38_xb ((fv175 q38 m_q38 n_q38_co n_q38_cr).trans e_q38))
              have e_ce := (up_ne ef56 n_ce_xb ((fv175 ce m_ce n_ce_co n_ce_cr).trans e_ce))
              have e_co := (up_ne ef56 n_co_xb e_co)
              have e_cr := (up_ne ef56 n_cr_xb e_cr)
              subst hQQ
              exact q_reti (post := fun x L1 f1 => ∃ q38 : Nat, ∃ ce : Nat, ∃ co : Nat, ∃ cr : Nat, x = z.1 ∧ (∀ b, b ∈ L → b ∈ L1) ∧ (∀ b, b ∈ L → b ≠ xb → b ≠ Sl → f1 b = f b) ∧ f1 xb = .inr (6, [.ref wo, .ref Sl, .ref dr, .ref ri, .ref th, .ref so, .ref ch, .int z.2.1]) ∧ f1 Sl = .inl (g 5, 30, .inr (.inr (.inr (.inr (va_up sf (Int32.toNatClampNeg md) (some q38)))))) ∧ (q38 ∉ L ∧ q38 ∈ L1 ∧ f1 q38 = .inr (4, [.ref ce, .ref co, .null, .int z.2.2.1, .int z.2.2.2.1, .int z.2.2.2.2.1, .int z.2.2.2.2.2.1])) ∧ (ce ∉ L ∧ ce ∈ L1 ∧ f1 ce = .inl (g 0, 4096, .inl z.2.2.2.2.2.2.1)) ∧ (co ∉ L ∧ co ∈ L1 ∧ f1 co = .inr (0, [.ref cr, .int z.2.2.2.2.2.2.2.1])) ∧ (cr ∉ L ∧ cr ∈ L1 ∧ f1 cr = .inl (g 1, 1000, .inr (.inl z.2.2.2.2.2.2.2.2)))) hx hb hr hlk S dX8_join_189 (by decide) (by decide) (by have hz := Option.some.inj hM; subst hz; exact ⟨q38, ce, co, cr, rfl, mono, fr, e_xb, e_Sl, ⟨nz_q38, m_q38, e_q38⟩, ⟨nz_ce, m_ce, e_ce⟩, ⟨nz_co, m_co, e_co⟩, ⟨nz_cr, m_cr, e_cr⟩⟩)
            · have hM := itF b136 hM
              refine lv_aload hx hb dX8_join_139 (lv_at hl 1 rfl) ?_
              have e_q38 := ((fv131 q38 m_q38 n_q38_ce).trans e_q38)
              refine q_getN hx hb hts in_X6 hown S m_q38 e_q38 (C := RX6) (T := TX6) (N := 7) rfl 1 (by decide) rfl (by decide) dX8_join_141 ?_
              refine lv_aload hx hb dX8_join_144 (lv_at hl 3 rfl) ?_
              have e_ah := ((fv131 ah m_ah n_ah_ce).trans e_ah)
              refine q_getN hx hb hts in_X6 hown S m_ah e_ah (C := RX6) (T := TX6) (N := 7) rfl 1 (by decide) rfl (by decide) dX8_join_146 ?_
              refine lv_aload hx hb dX8_join_149 (lv_at hl 2 rfl) ?_
              have e_bh := ((fv131 bh m_bh n_bh_ce).trans e_bh)
              refine q_getN hx hb hts in_X6 hown S m_bh e_bh (C := RX6) (T := TX6) (N := 7) rfl 1 (by decide) rfl (by decide) dX8_join_151 ?_
              obtain ⟨z154, hz154, hM⟩ := bind_some hM
              have e_co := ((fv131 co m_co n_co_ce).trans e_co)
              have e_cr := ((fv131 cr m_cr n_cr_ce).trans e_cr)
              have e_aco := ((fv131 aco m_aco n_aco_ce).trans e_aco)
              have e_acr := ((fv131 acr m_acr n_acr_ce).trans e_acr)
              have e_bco := ((fv131 bco m_bco n_bco_ce).trans e_bco)
              have e_bcr := ((fv131 bcr m_bcr n_bcr_ce).trans e_bcr)
              refine q_vv (As := [.ref aco, .ref bco]) (rest := []) ⟨hx, hb, hml, hown, hts⟩ (k_X0_becomeShared l D g m_co e_co m_cr e_cr m_aco e_aco m_acr e_acr m_bco e_bco m_bcr e_bcr n_aco_co n_bco_co n_acr_cr n_bcr_cr hz154) (cwV 2 hts gX8_join_X0_becomeShared rfl rfl rfl (by decide +kernel) ⟨Nat.le_of_ble_eq_true rfl, Nat.le_of_ble_eq_true rfl⟩) S m_co e_co (T := TX0) (N := 2) rfl rfl hl.1 rfl (Nat.le_of_ble_eq_true rfl) dX8_join_154 ⟨Nat.le_of_ble_eq_true rfl, Nat.le_of_ble_eq_true rfl⟩ (fun L57 f58 H locs S w154 => ?_)
              obtain ⟨eL, fv154, E_co, E_cr⟩ := w154
              rw [eL] at S
              have fr : ∀ b, b ∈ L → b ≠ xb → b ≠ Sl → f58 b = f b := fun b mb nb0 nb1 => (fv154 b (mono b mb) (fun h_ => nz_co (h_ ▸ mb)) (fun h_ => nz_cr (h_ ▸ mb))).trans (fr b mb nb0 nb1)
              have e_co : f58 co = .inr (0, [.ref cr, .int z154.1]) := E_co
              have e_cr : f58 cr = .inl (g 1, 1000, .inr (.inl z154.2)) := E_cr
              refine lv_goto (tgt := 178) hx hb dX8_join_157 (by decide) ?_
              refine lv_aload_n hx hb dX8_join_178 rfl (lv_at hl 4 rfl) ?_
              refine lv_dup hx hb dX8_join_179 rfl ?_
              have e_xb := ((fv154 xb m_xb n_xb_co n_xb_cr).trans ((fv131 xb m_xb n_xb_ce).trans ((fv120 xb m_xb n_xb_q38 n_xb_ce n_xb_co).trans e_xb)))
              refine q_get hx hb hts in_X8 hown S m_xb e_xb (C := RX8) (T := TX8) (N := 8) rfl 7 (by decide) rfl (hts (.fieldLink RX8 84 "SieveCabinet" "made" "I") (by decide +kernel)) dX8_join_180 ?_
              refine lv_dup_x1 hx hb dX8_join_183 rfl rfl ?_
              refine lv_iconst (v := (1 : Int32)) hx hb dX8_join_184 (by decide) ?_
              refine lv_iadd hx hb dX8_join_185 ?_
              refine k_put hx hb hts in_X8 tyX8 tyX8_ok nmX8 hown S m_xb e_xb (C := RX8) (T := TX8) (N := 8) rfl 7 (by decide) (hts (.fieldLink RX8 84 "SieveCabinet" "made" "I") (by decide +kernel)) rfl rfl rfl (Nat.le_of_ble_eq_true rfl) dX8_join_186 (fun f60 ef60 H locs S => ?_)
              have e_xb : f60 xb = .inr (6, [.ref wo, .ref Sl, .ref dr, .ref ri, .ref th, .ref so, .ref ch, .int (md + (1 : Int32))]) := up_self ef60
              have fr : ∀ b, b ∈ L → b ≠ xb → b ≠ Sl → f60 b = f b := fun b mb nb0 nb1 => (up_ne ef60 nb0 rfl).trans (fr b mb nb0 nb1)
              have e_Sl := (up_ne ef60 n_Sl_xb ((fv154 Sl m_Sl n_Sl_co n_Sl_cr).trans ((fv131 Sl m_Sl n_Sl_ce).trans ((fv120 Sl m_Sl n_Sl_q38 n_Sl_ce n_Sl_co).trans e_Sl))))
              have e_q38 := (up_ne ef60 n_q38_xb ((fv154 q38 m_q38 n_q38_co n_q38_cr).trans e_q38))
              have e_ce := (up_ne ef60 n_ce_xb ((fv154 ce m_ce n_ce_co n_ce_cr).trans e_ce))
              have e_co := (up_ne ef60 n_co_xb e_co)
              have e_cr := (up_ne ef60 n_cr_xb e_cr)
              subst hQQ
              exact q_reti (post := fun x L1 f1 => ∃ q38 : Nat, ∃ ce : Nat, ∃ co : Nat, ∃ cr : Nat, x = z.1 ∧ (∀ b, b ∈ L → b ∈ L1) ∧ (∀ b, b ∈ L → b ≠ xb → b ≠ Sl → f1 b = f b) ∧ f1 xb = .inr (6, [.ref wo, .ref Sl, .ref dr, .ref ri, .ref th, .ref so, .ref ch, .int z.2.1]) ∧ f1 Sl = .inl (g 5, 30, .inr (.inr (.inr (.inr (va_up sf (Int32.toNatClampNeg md) (some q38)))))) ∧ (q38 ∉ L ∧ q38 ∈ L1 ∧ f1 q38 = .inr (4, [.ref ce, .ref co, .null, .int z.2.2.1, .int z.2.2.2.1, .int z.2.2.2.2.1, .int z.2.2.2.2.2.1])) ∧ (ce ∉ L ∧ ce ∈ L1 ∧ f1 ce = .inl (g 0, 4096, .inl z.2.2.2.2.2.2.1)) ∧ (co ∉ L ∧ co ∈ L1 ∧ f1 co = .inr (0, [.ref cr, .int z.2.2.2.2.2.2.2.1])) ∧ (cr ∉ L ∧ cr ∈ L1 ∧ f1 cr = .inl (g 1, 1000, .inr (.inl z.2.2.2.2.2.2.2.2)))) hx hb hr hlk S dX8_join_189 (by decide) (by decide) (by have hz := Option.some.inj hM; subst hz; exact ⟨q38, ce, co, cr, rfl, mono, fr, e_xb, e_Sl, ⟨nz_q38, m_q38, e_q38⟩, ⟨nz_ce, m_ce, e_ce⟩, ⟨nz_co, m_co, e_co⟩, ⟨nz_cr, m_cr, e_cr⟩⟩)
          · have hM := itT b73 hM
            refine lv_aload hx hb dX8_join_76 (lv_at hl 3 rfl) ?_
            refine q_getN hx hb hts in_X6 hown S m_ah e_ah (C := RX6) (T := TX6) (N := 7) rfl 1 (by decide) rfl (by decide) dX8_join_78 ?_
            obtain ⟨z81, hz81, hM⟩ := bind_some hM
            refine q_vi (As := []) (rest := []) ⟨hx, hb, hml, hown, hts⟩ (k_X0_count l D g m_aco e_aco hz81) (cwV 0 hts gX8_join_X0_count rfl rfl rfl (by decide +kernel) ⟨Nat.le_of_ble_eq_true rfl, Nat.le_of_ble_eq_true rfl⟩) S m_aco e_aco (T := TX0) (N := 2) rfl rfl hl.1 rfl (Nat.le_of_ble_eq_true rfl) dX8_join_81 ⟨Nat.le_of_ble_eq_true rfl, Nat.le_of_ble_eq_true rfl⟩ (fun r63 L61 f62 H locs S w81 => ?_)
            obtain ⟨ex81, eL, ef⟩ := w81
            rw [eL, ef] at S
            replace ex81 := ex81.symm
            subst ex81
            refine lv_aload hx hb dX8_join_84 (lv_at hl 2 rfl) ?_
            refine q_getN hx hb hts in_X6 hown S m_bh e_bh (C := RX6) (T := TX6) (N := 7) rfl 1 (by decide) rfl (by decide) dX8_join_86 ?_
            obtain ⟨z89, hz89, hM⟩ := bind_some hM
            refine q_vi (As := []) (rest := [.int z81]) ⟨hx, hb, hml, hown, hts⟩ (k_X0_count l D g m_bco e_bco hz89) (cwV 0 hts gX8_join_X0_count rfl rfl rfl (by decide +kernel) ⟨Nat.le_of_ble_eq_true rfl, Nat.le_of_ble_eq_true rfl⟩) S m_bco e_bco (T := TX0) (N := 2) rfl rfl hl.1 rfl (Nat.le_of_ble_eq_true rfl) dX8_join_89 ⟨Nat.le_of_ble_eq_true rfl, Nat.le_of_ble_eq_true rfl⟩ (fun r66 L64 f65 H locs S w89 => ?_)
            obtain ⟨ex89, eL, ef⟩ := w89
            rw [eL, ef] at S
            replace ex89 := ex89.symm
            subst ex89
            refine lv_iadd hx hb dX8_join_92 ?_
            refine lv_sipush (v := (1000 : Int32)) hx hb dX8_join_93 (by decide) ?_
            refine lv_icmp_le (tgt := 102) hx hb dX8_join_96 (by decide) (fun b96 => ?_) (fun b96 => ?_)
            · have hM := itT b96 hM
              refine lv_aload hx hb dX8_join_102 (lv_at hl 1 rfl) ?_
              refine lv_iconst (v := (0 : Int32)) hx hb dX8_join_104 (by decide) ?_
              refine lv_aload hx hb dX8_join_105 (lv_at hl 3 rfl) ?_
              refine q_getN hx hb hts in_X6 hown S m_ah e_ah (C := RX6) (T := TX6) (N := 7) rfl 4 (by decide) rfl (by decide) dX8_join_107 ?_
              refine lv_aload hx hb dX8_join_110 (lv_at hl 3 rfl) ?_
              refine q_getN hx hb hts in_X6 hown S m_ah e_ah (C := RX6) (T := TX6) (N := 7) rfl 5 (by decide) rfl (by decide) dX8_join_112 ?_
              refine lv_aload hx hb dX8_join_115 (lv_at hl 3 rfl) ?_
              refine q_getN hx hb hts in_X6 hown S m_ah e_ah (C := RX6) (T := TX6) (N := 7) rfl 6 (by decide) rfl (by decide) dX8_join_117 ?_
              obtain ⟨z120, hz120, hM⟩ := bind_some hM
              refine q_vv (As := [.int (0 : Int32), .int asz, .int amk, .int asd]) (rest := []) ⟨hx, hb, hml, hown, hts⟩ (k_X6_begin l D g m_q38 e_q38 m_ce e_ce m_co e_co hz120) (cwV 4 hts gX8_join_X6_begin rfl rfl rfl (by decide +kernel) ⟨Nat.le_of_ble_eq_true rfl, Nat.le_of_ble_eq_true rfl⟩) S m_q38 e_q38 (T := TX6) (N := 7) rfl rfl hl.1 rfl (Nat.le_of_ble_eq_true rfl) dX8_join_120 ⟨Nat.le_of_ble_eq_true rfl, Nat.le_of_ble_eq_true rfl⟩ (fun L67 f68 H locs S w120 => ?_)
              obtain ⟨eL, fv120, E_q38, E_ce, E_co⟩ := w120
              rw [eL] at S
              have fr : ∀ b, b ∈ L → b ≠ xb → b ≠ Sl → f68 b = f b := fun b mb nb0 nb1 => (fv120 b (mono b mb) (fun h_ => nz_q38 (h_ ▸ mb)) (fun h_ => nz_ce (h_ ▸ mb)) (fun h_ => nz_co (h_ ▸ mb))).trans (fr b mb nb0 nb1)
              have e_q38 : f68 q38 = .inr (4, [.ref ce, .ref co, .null, .int z120.1, .int z120.2.1, .int z120.2.2.1, .int z120.2.2.2.1]) := E_q38
              have e_ce : f68 ce = .inl (g 0, 4096, .inl z120.2.2.2.2.1) := E_ce
              have e_co : f68 co = .inr (0, [.ref cr, .int z120.2.2.2.2.2]) := E_co
              refine lv_aload hx hb dX8_join_123 (lv_at hl 1 rfl) ?_
              refine lv_iload hx hb dX8_join_125 (lv_at hl 0 rfl) ?_
              refine lv_aload hx hb dX8_join_127 (lv_at hl 3 rfl) ?_
              refine lv_aload hx hb dX8_join_129 (lv_at hl 2 rfl) ?_
              obtain ⟨z131, hz131, hM⟩ := bind_some hM
              have e_cr := ((fv120 cr m_cr n_cr_q38 n_cr_ce n_cr_co).trans e_cr)
              have e_ah := ((fv120 ah m_ah n_ah_q38 n_ah_ce n_ah_co).trans e_ah)
              have e_ace := ((fv120 ace m_ace n_ace_q38 n_ace_ce n_ace_co).trans e_ace)
              have e_aco := ((fv120 aco m_aco n_aco_q38 n_aco_ce n_aco_co).trans e_aco)
              have e_acr := ((fv120 acr m_acr n_acr_q38 n_acr_ce n_acr_co).trans e_acr)
              have e_bh := ((fv120 bh m_bh n_bh_q38 n_bh_ce n_bh_co).trans e_bh)
              have e_bce := ((fv120 bce m_bce n_bce_q38 n_bce_ce n_bce_co).trans e_bce)
              have e_bco := ((fv120 bco m_bco n_bco_q38 n_bco_ce n_bco_co).trans e_bco)
              have e_bcr := ((fv120 bcr m_bcr n_bcr_q38 n_bcr_ce n_bcr_co).trans e_bcr)
              refine q_vv (As := [.int (1 : Int32), .ref ah, .ref bh]) (rest := []) ⟨hx, hb, hml, hown, hts⟩ (k_X6_joinBits l D g m_q38 e_q38 m_ce e_ce m_co e_co m_cr e_cr m_ah e_ah m_ace e_ace m_aco e_aco m_acr e_acr m_bh e_bh m_bce e_bce m_bco e_bco m_bcr e_bcr n_ace_ce n_bce_ce hz131) (cwV 3 hts gX8_join_X6_joinBits rfl rfl rfl (by decide +kernel) ⟨Nat.le_of_ble_eq_true rfl, Nat.le_of_ble_eq_true rfl⟩) S m_q38 e_q38 (T := TX6) (N := 7) rfl rfl hl.1 rfl (Nat.le_of_ble_eq_true rfl) dX8_join_131 ⟨Nat.le_of_ble_eq_true rfl, Nat.le_of_ble_eq_true rfl⟩ (fun L70 f71 H locs S w131 => ?_)
              obtain ⟨eL, fv131, E_ce⟩ := w131
              rw [eL] at S
              have fr : ∀ b, b ∈ L → b ≠ xb → b ≠ Sl → f71 b = f b := fun b mb nb0 nb1 => (fv131 b (mono b mb) (fun h_ => nz_ce (h_ ▸ mb))).trans (fr b mb nb0 nb1)
              have e_ce : f71 ce = .inl (g 0, 4096, .inl z131) := E_ce
              refine lv_iload hx hb dX8_join_134 (lv_at hl 0 rfl) ?_
              refine lv_if_eq (tgt := 160) hx hb dX8_join_136 (by decide) (fun b136 => ?_) (fun b136 => ?_)
              · have hM := itT b136 hM
                refine lv_aload hx hb dX8_join_160 (lv_at hl 1 rfl) ?_
                have e_q38 := ((fv131 q38 m_q38 n_q38_ce).trans e_q38)
                refine q_getN hx hb hts in_X6 hown S m_q38 e_q38 (C := RX6) (T := TX6) (N := 7) rfl 1 (by decide) rfl (by decide) dX8_join_162 ?_
                refine lv_aload hx hb dX8_join_165 (lv_at hl 3 rfl) ?_
                have e_ah := ((fv131 ah m_ah n_ah_ce).trans e_ah)
                refine q_getN hx hb hts in_X6 hown S m_ah e_ah (C := RX6) (T := TX6) (N := 7) rfl 1 (by decide) rfl (by decide) dX8_join_167 ?_
                refine lv_aload hx hb dX8_join_170 (lv_at hl 2 rfl) ?_
                have e_bh := ((fv131 bh m_bh n_bh_ce).trans e_bh)
                refine q_getN hx hb hts in_X6 hown S m_bh e_bh (C := RX6) (T := TX6) (N := 7) rfl 1 (by decide) rfl (by decide) dX8_join_172 ?_
                obtain ⟨z175, hz175, hM⟩ := bind_some hM
                have e_co := ((fv131 co m_co n_co_ce).trans e_co)
                have e_cr := ((fv131 cr m_cr n_cr_ce).trans e_cr)
                have e_aco := ((fv131 aco m_aco n_aco_ce).trans e_aco)
                have e_acr := ((fv131 acr m_acr n_acr_ce).trans e_acr)
                have e_bco := ((fv131 bco m_bco n_bco_ce).trans e_bco)
                have e_bcr := ((fv131 bcr m_bcr n_bcr_ce).trans e_bcr)
                refine q_vv (As := [.ref aco, .ref bco]) (rest := []) ⟨hx, hb, hml, hown, hts⟩ (k_X0_becomeTogether l D g m_co e_co m_cr e_cr m_aco e_aco m_acr e_acr m_bco e_bco m_bcr e_bcr n_aco_co n_acr_cr n_bco_co n_bcr_cr hz175) (cwV 2 hts gX8_join_X0_becomeTogether rfl rfl rfl (by decide +kernel) ⟨Nat.le_of_ble_eq_true rfl, Nat.le_of_ble_eq_true rfl⟩) S m_co e_co (T := TX0) (N := 2) rfl rfl hl.1 rfl (Nat.le_of_ble_eq_true rfl) dX8_join_175 ⟨Nat.le_of_ble_eq_true rfl, Nat.le_of_ble_eq_true rfl⟩ (fun L73 f74 H locs S w175 => ?_)
                obtain ⟨eL, fv175, E_co, E_cr⟩ := w175
                rw [eL] at S
                have fr : ∀ b, b ∈ L → b ≠ xb → b ≠ Sl → f74 b = f b := fun b mb nb0 nb1 => (fv175 b (mono b mb) (fun h_ => nz_co (h_ ▸ mb)) (fun h_ => nz_cr (h_ ▸ mb))).trans (fr b mb nb0 nb1)
                have e_co : f74 co = .inr (0, [.ref cr, .int z175.1]) := E_co
                have e_cr : f74 cr = .inl (g 1, 1000, .inr (.inl z175.2)) := E_cr
                refine lv_aload_n hx hb dX8_join_178 rfl (lv_at hl 4 rfl) ?_
                refine lv_dup hx hb dX8_join_179 rfl ?_
                have e_xb := ((fv175 xb m_xb n_xb_co n_xb_cr).trans ((fv131 xb m_xb n_xb_ce).trans ((fv120 xb m_xb n_xb_q38 n_xb_ce n_xb_co).trans e_xb)))
                refine q_get hx hb hts in_X8 hown S m_xb e_xb (C := RX8) (T := TX8) (N := 8) rfl 7 (by decide) rfl (hts (.fieldLink RX8 84 "SieveCabinet" "made" "I") (by decide +kernel)) dX8_join_180 ?_
                refine lv_dup_x1 hx hb dX8_join_183 rfl rfl ?_
                refine lv_iconst (v := (1 : Int32)) hx hb dX8_join_184 (by decide) ?_
                refine lv_iadd hx hb dX8_join_185 ?_
                refine k_put hx hb hts in_X8 tyX8 tyX8_ok nmX8 hown S m_xb e_xb (C := RX8) (T := TX8) (N := 8) rfl 7 (by decide) (hts (.fieldLink RX8 84 "SieveCabinet" "made" "I") (by decide +kernel)) rfl rfl rfl (Nat.le_of_ble_eq_true rfl) dX8_join_186 (fun f76 ef76 H locs S => ?_)
                have e_xb : f76 xb = .inr (6, [.ref wo, .ref Sl, .ref dr, .ref ri, .ref th, .ref so, .ref ch, .int (md + (1 : Int32))]) := up_self ef76
                have fr : ∀ b, b ∈ L → b ≠ xb → b ≠ Sl → f76 b = f b := fun b mb nb0 nb1 => (up_ne ef76 nb0 rfl).trans (fr b mb nb0 nb1)
                have e_Sl := (up_ne ef76 n_Sl_xb ((fv175 Sl m_Sl n_Sl_co n_Sl_cr).trans ((fv131 Sl m_Sl n_Sl_ce).trans ((fv120 Sl m_Sl n_Sl_q38 n_Sl_ce n_Sl_co).trans e_Sl))))
                have e_q38 := (up_ne ef76 n_q38_xb ((fv175 q38 m_q38 n_q38_co n_q38_cr).trans e_q38))
                have e_ce := (up_ne ef76 n_ce_xb ((fv175 ce m_ce n_ce_co n_ce_cr).trans e_ce))
                have e_co := (up_ne ef76 n_co_xb e_co)
                have e_cr := (up_ne ef76 n_cr_xb e_cr)
                subst hQQ
                exact q_reti (post := fun x L1 f1 => ∃ q38 : Nat, ∃ ce : Nat, ∃ co : Nat, ∃ cr : Nat, x = z.1 ∧ (∀ b, b ∈ L → b ∈ L1) ∧ (∀ b, b ∈ L → b ≠ xb → b ≠ Sl → f1 b = f b) ∧ f1 xb = .inr (6, [.ref wo, .ref Sl, .ref dr, .ref ri, .ref th, .ref so, .ref ch, .int z.2.1]) ∧ f1 Sl = .inl (g 5, 30, .inr (.inr (.inr (.inr (va_up sf (Int32.toNatClampNeg md) (some q38)))))) ∧ (q38 ∉ L ∧ q38 ∈ L1 ∧ f1 q38 = .inr (4, [.ref ce, .ref co, .null, .int z.2.2.1, .int z.2.2.2.1, .int z.2.2.2.2.1, .int z.2.2.2.2.2.1])) ∧ (ce ∉ L ∧ ce ∈ L1 ∧ f1 ce = .inl (g 0, 4096, .inl z.2.2.2.2.2.2.1)) ∧ (co ∉ L ∧ co ∈ L1 ∧ f1 co = .inr (0, [.ref cr, .int z.2.2.2.2.2.2.2.1])) ∧ (cr ∉ L ∧ cr ∈ L1 ∧ f1 cr = .inl (g 1, 1000, .inr (.inl z.2.2.2.2.2.2.2.2)))) hx hb hr hlk S dX8_join_189 (by decide) (by decide) (by have hz := Option.some.inj hM; subst hz; exact ⟨q38, ce, co, cr, rfl, mono, fr, e_xb, e_Sl, ⟨nz_q38, m_q38, e_q38⟩, ⟨nz_ce, m_ce, e_ce⟩, ⟨nz_co, m_co, e_co⟩, ⟨nz_cr, m_cr, e_cr⟩⟩)
              · have hM := itF b136 hM
                refine lv_aload hx hb dX8_join_139 (lv_at hl 1 rfl) ?_
                have e_q38 := ((fv131 q38 m_q38 n_q38_ce).trans e_q38)
                refine q_getN hx hb hts in_X6 hown S m_q38 e_q38 (C := RX6) (T := TX6) (N := 7) rfl 1 (by decide) rfl (by decide) dX8_join_141 ?_
                refine lv_aload hx hb dX8_join_144 (lv_at hl 3 rfl) ?_
                have e_ah := ((fv131 ah m_ah n_ah_ce).trans e_ah)
                refine q_getN hx hb hts in_X6 hown S m_ah e_ah (C := RX6) (T := TX6) (N := 7) rfl 1 (by decide) rfl (by decide) dX8_join_146 ?_
                refine lv_aload hx hb dX8_join_149 (lv_at hl 2 rfl) ?_
                have e_bh := ((fv131 bh m_bh n_bh_ce).trans e_bh)
                refine q_getN hx hb hts in_X6 hown S m_bh e_bh (C := RX6) (T := TX6) (N := 7) rfl 1 (by decide) rfl (by decide) dX8_join_151 ?_
                obtain ⟨z154, hz154, hM⟩ := bind_some hM
                have e_co := ((fv131 co m_co n_co_ce).trans e_co)
                have e_cr := ((fv131 cr m_cr n_cr_ce).trans e_cr)
                have e_aco := ((fv131 aco m_aco n_aco_ce).trans e_aco)
                have e_acr := ((fv131 acr m_acr n_acr_ce).trans e_acr)
                have e_bco := ((fv131 bco m_bco n_bco_ce).trans e_bco)
                have e_bcr := ((fv131 bcr m_bcr n_bcr_ce).trans e_bcr)
                refine q_vv (As := [.ref aco, .ref bco]) (rest := []) ⟨hx, hb, hml, hown, hts⟩ (k_X0_becomeShared l D g m_co e_co m_cr e_cr m_aco e_aco m_acr e_acr m_bco e_bco m_bcr e_bcr n_aco_co n_bco_co n_acr_cr n_bcr_cr hz154) (cwV 2 hts gX8_join_X0_becomeShared rfl rfl rfl (by decide +kernel) ⟨Nat.le_of_ble_eq_true rfl, Nat.le_of_ble_eq_true rfl⟩) S m_co e_co (T := TX0) (N := 2) rfl rfl hl.1 rfl (Nat.le_of_ble_eq_true rfl) dX8_join_154 ⟨Nat.le_of_ble_eq_true rfl, Nat.le_of_ble_eq_true rfl⟩ (fun L77 f78 H locs S w154 => ?_)
                obtain ⟨eL, fv154, E_co, E_cr⟩ := w154
                rw [eL] at S
                have fr : ∀ b, b ∈ L → b ≠ xb → b ≠ Sl → f78 b = f b := fun b mb nb0 nb1 => (fv154 b (mono b mb) (fun h_ => nz_co (h_ ▸ mb)) (fun h_ => nz_cr (h_ ▸ mb))).trans (fr b mb nb0 nb1)
                have e_co : f78 co = .inr (0, [.ref cr, .int z154.1]) := E_co
                have e_cr : f78 cr = .inl (g 1, 1000, .inr (.inl z154.2)) := E_cr
                refine lv_goto (tgt := 178) hx hb dX8_join_157 (by decide) ?_
                refine lv_aload_n hx hb dX8_join_178 rfl (lv_at hl 4 rfl) ?_
                refine lv_dup hx hb dX8_join_179 rfl ?_
                have e_xb := ((fv154 xb m_xb n_xb_co n_xb_cr).trans ((fv131 xb m_xb n_xb_ce).trans ((fv120 xb m_xb n_xb_q38 n_xb_ce n_xb_co).trans e_xb)))
                refine q_get hx hb hts in_X8 hown S m_xb e_xb (C := RX8) (T := TX8) (N := 8) rfl 7 (by decide) rfl (hts (.fieldLink RX8 84 "SieveCabinet" "made" "I") (by decide +kernel)) dX8_join_180 ?_
                refine lv_dup_x1 hx hb dX8_join_183 rfl rfl ?_
                refine lv_iconst (v := (1 : Int32)) hx hb dX8_join_184 (by decide) ?_
                refine lv_iadd hx hb dX8_join_185 ?_
                refine k_put hx hb hts in_X8 tyX8 tyX8_ok nmX8 hown S m_xb e_xb (C := RX8) (T := TX8) (N := 8) rfl 7 (by decide) (hts (.fieldLink RX8 84 "SieveCabinet" "made" "I") (by decide +kernel)) rfl rfl rfl (Nat.le_of_ble_eq_true rfl) dX8_join_186 (fun f80 ef80 H locs S => ?_)
                have e_xb : f80 xb = .inr (6, [.ref wo, .ref Sl, .ref dr, .ref ri, .ref th, .ref so, .ref ch, .int (md + (1 : Int32))]) := up_self ef80
                have fr : ∀ b, b ∈ L → b ≠ xb → b ≠ Sl → f80 b = f b := fun b mb nb0 nb1 => (up_ne ef80 nb0 rfl).trans (fr b mb nb0 nb1)
                have e_Sl := (up_ne ef80 n_Sl_xb ((fv154 Sl m_Sl n_Sl_co n_Sl_cr).trans ((fv131 Sl m_Sl n_Sl_ce).trans ((fv120 Sl m_Sl n_Sl_q38 n_Sl_ce n_Sl_co).trans e_Sl))))
                have e_q38 := (up_ne ef80 n_q38_xb ((fv154 q38 m_q38 n_q38_co n_q38_cr).trans e_q38))
                have e_ce := (up_ne ef80 n_ce_xb ((fv154 ce m_ce n_ce_co n_ce_cr).trans e_ce))
                have e_co := (up_ne ef80 n_co_xb e_co)
                have e_cr := (up_ne ef80 n_cr_xb e_cr)
                subst hQQ
                exact q_reti (post := fun x L1 f1 => ∃ q38 : Nat, ∃ ce : Nat, ∃ co : Nat, ∃ cr : Nat, x = z.1 ∧ (∀ b, b ∈ L → b ∈ L1) ∧ (∀ b, b ∈ L → b ≠ xb → b ≠ Sl → f1 b = f b) ∧ f1 xb = .inr (6, [.ref wo, .ref Sl, .ref dr, .ref ri, .ref th, .ref so, .ref ch, .int z.2.1]) ∧ f1 Sl = .inl (g 5, 30, .inr (.inr (.inr (.inr (va_up sf (Int32.toNatClampNeg md) (some q38)))))) ∧ (q38 ∉ L ∧ q38 ∈ L1 ∧ f1 q38 = .inr (4, [.ref ce, .ref co, .null, .int z.2.2.1, .int z.2.2.2.1, .int z.2.2.2.2.1, .int z.2.2.2.2.2.1])) ∧ (ce ∉ L ∧ ce ∈ L1 ∧ f1 ce = .inl (g 0, 4096, .inl z.2.2.2.2.2.2.1)) ∧ (co ∉ L ∧ co ∈ L1 ∧ f1 co = .inr (0, [.ref cr, .int z.2.2.2.2.2.2.2.1])) ∧ (cr ∉ L ∧ cr ∈ L1 ∧ f1 cr = .inl (g 1, 1000, .inr (.inl z.2.2.2.2.2.2.2.2)))) hx hb hr hlk S dX8_join_189 (by decide) (by decide) (by have hz := Option.some.inj hM; subst hz; exact ⟨q38, ce, co, cr, rfl, mono, fr, e_xb, e_Sl, ⟨nz_q38, m_q38, e_q38⟩, ⟨nz_ce, m_ce, e_ce⟩, ⟨nz_co, m_co, e_co⟩, ⟨nz_cr, m_cr, e_cr⟩⟩)
            · have hM := itF b96 hM
              refine lv_bipush (v := (-4 : Int32)) hx hb dX8_join_99 (by decide) ?_
              subst hQQ
              exact q_reti (post := fun x L1 f1 => ∃ q38 : Nat, ∃ ce : Nat, ∃ co : Nat, ∃ cr : Nat, x = z.1 ∧ (∀ b, b ∈ L → b ∈ L1) ∧ (∀ b, b ∈ L → b ≠ xb → b ≠ Sl → f1 b = f b) ∧ f1 xb = .inr (6, [.ref wo, .ref Sl, .ref dr, .ref ri, .ref th, .ref so, .ref ch, .int z.2.1]) ∧ f1 Sl = .inl (g 5, 30, .inr (.inr (.inr (.inr (va_up sf (Int32.toNatClampNeg md) (some q38)))))) ∧ (q38 ∉ L ∧ q38 ∈ L1 ∧ f1 q38 = .inr (4, [.ref ce, .ref co, .null, .int z.2.2.1, .int z.2.2.2.1, .int z.2.2.2.2.1, .int z.2.2.2.2.2.1])) ∧ (ce ∉ L ∧ ce ∈ L1 ∧ f1 ce = .inl (g 0, 4096, .inl z.2.2.2.2.2.2.1)) ∧ (co ∉ L ∧ co ∈ L1 ∧ f1 co = .inr (0, [.ref cr, .int z.2.2.2.2.2.2.2.1])) ∧ (cr ∉ L ∧ cr ∈ L1 ∧ f1 cr = .inl (g 1, 1000, .inr (.inl z.2.2.2.2.2.2.2.2)))) hx hb hr hlk S dX8_join_101 (by decide) (by decide) (by have hz := Option.some.inj hM; subst hz; exact ⟨q38, ce, co, cr, rfl, mono, fr, e_xb, e_Sl, ⟨nz_q38, m_q38, e_q38⟩, ⟨nz_ce, m_ce, e_ce⟩, ⟨nz_co, m_co, e_co⟩, ⟨nz_cr, m_cr, e_cr⟩⟩)
      · have hM := itT b42 hM
        refine lv_bipush (v := (-2 : Int32)) hx hb dX8_join_45 (by decide) ?_
        exact no_some hM
    · have hM := itF b30 hM
      refine lv_iconst (v := (-1 : Int32)) hx hb dX8_join_33 (by decide) ?_
      exact no_some hM

def mX8_foldF (md : Int32) (akd : Int32) (asz : Int32) (amk : Int32) (asd : Int32) (akc : Nat → Int32) (an : Int32) (av : Nat → Int64) : Option (Int32 × Int32 × Int32 × Int32 × Int32 × Int32 × (Nat → Int32) × Int32 × (Nat → Int64)) := if akd = 0 then (if (8 : Int32) < asz then ((mX8_nextSlotF md).bind fun z32 => (mX6_begin z32.2.2.2.2.1 (0 : Int32) (asz / (2 : Int32)) amk asd).bind fun z59 => (mX6_foldBits z59.2.1 z59.2.2.2.2.1 akc).bind fun z64 => (mX0_copyFrom z32.2.2.2.2.2.2 an av).bind fun z75 => some (md, (md + (1 : Int32)), z59.1, z59.2.1, z59.2.2.1, z59.2.2.2.1, z64, z75.1, z75.2)) else none) else none
set_option maxHeartbeats 4000000 in
set_option maxRecDepth 100000 in
theorem k_X8_foldF (l : Launch) (D : va_G) (g : Nat → ClassId) {L : List Nat} {f : Nat → va_E} {Sl ace aco acr ah ch dr ri so th wo xb : Nat} {md : Int32} {sf : Nat → Option Nat} {aq : Int32} {alay : Value} {akd : Int32} {asz : Int32} {amk : Int32} {asd : Int32} {akc : Nat → Int32} {an : Int32} {av : Nat → Int64} {z : Int32 × Int32 × Int32 × Int32 × Int32 × Int32 × (Nat → Int32) × Int32 × (Nat → Int64)} (m_xb : xb ∈ L) (e_xb : f xb = .inr (6, [.ref wo, .ref Sl, .ref dr, .ref ri, .ref th, .ref so, .ref ch, .int md])) (m_Sl : Sl ∈ L) (e_Sl : f Sl = .inl (g 5, 30, .inr (.inr (.inr (.inr sf))))) (m_ah : ah ∈ L) (e_ah : f ah = .inr (4, [.ref ace, .ref aco, alay, .int akd, .int asz, .int amk, .int asd])) (m_ace : ace ∈ L) (e_ace : f ace = .inl (g 0, 4096, .inl akc)) (m_aco : aco ∈ L) (e_aco : f aco = .inr (0, [.ref acr, .int an])) (m_acr : acr ∈ L) (e_acr : f acr = .inl (g 1, 1000, .inr (.inl av)))   (hF0 : sf (Int32.toNatClampNeg md) = none) (hs2 : mX8_sieveAt md sf aq = some (some ah)) (hM : mX8_foldF md akd asz amk asd akc an av = some z) : cI l yX8_fold wsX8_fold { frames := 4, cells := 4, slots := 5105, locals := 72 } D g [.ref xb, .int aq] L f 4 5105 (fun x L1 f1 => ∃ q38 : Nat, ∃ ce : Nat, ∃ co : Nat, ∃ cr : Nat, x = z.1 ∧ (∀ b, b ∈ L → b ∈ L1) ∧ (∀ b, b ∈ L → b ≠ xb → b ≠ Sl → f1 b = f b) ∧ f1 xb = .inr (6, [.ref wo, .ref Sl, .ref dr, .ref ri, .ref th, .ref so, .ref ch, .int z.2.1]) ∧ f1 Sl = .inl (g 5, 30, .inr (.inr (.inr (.inr (va_up sf (Int32.toNatClampNeg md) (some q38)))))) ∧ (q38 ∉ L ∧ q38 ∈ L1 ∧ f1 q38 = .inr (4, [.ref ce, .ref co, .null, .int z.2.2.1, .int z.2.2.2.1, .int z.2.2.2.2.1, .int z.2.2.2.2.2.1])) ∧ (ce ∉ L ∧ ce ∈ L1 ∧ f1 ce = .inl (g 0, 4096, .inl z.2.2.2.2.2.2.1)) ∧ (co ∉ L ∧ co ∈ L1 ∧ f1 co = .inr (0, [.ref cr, .int z.2.2.2.2.2.2.2.1])) ∧ (cr ∉ L ∧ cr ∈ L1 ∧ f1 cr = .inl (g 1, 1000, .inr (.inl z.2.2.2.2.2.2.2.2)))) := by
  refine cI_of (cc := cX8_fold) (maxL := 4) (ret := (some .int)) (by decide) rfl (Nat.le_of_ble_eq_true rfl) ?_
  intro szz p e s m below meth c hx hb hr hml hts hown hlk hnm S ls hl
  have hl : lv_has ls 4 [(0, .ref xb), (1, .int aq)] := hl
  have in_X6 : ∀ w ∈ wsX60, w ∈ wsX8_fold := by decide +kernel
  have in_X8 : ∀ w ∈ wsX80, w ∈ wsX8_fold := by decide +kernel
  have n_xb_Sl : xb ≠ Sl := ne_ir e_Sl e_xb
  have n_ah_Sl : ah ≠ Sl := ne_ir e_Sl e_ah
  have n_ace_Sl : ace ≠ Sl := ne_len e_Sl e_ace (by decide)
  have n_aco_Sl : aco ≠ Sl := ne_ir e_Sl e_aco
  have n_acr_Sl : acr ≠ Sl := ne_len e_Sl e_acr (by decide)
  have n_Sl_xb : Sl ≠ xb := ne_ri e_xb e_Sl
  have fr : ∀ b, b ∈ L → b ≠ xb → b ≠ Sl → f b = f b := fun _ _ _ _ => rfl
  have mono : ∀ b, b ∈ L → b ∈ L := fun _ h => h
  unfold mX8_foldF at hM
  refine W_gen (fun QQ hQQ => ?_)
  refine lv_aload_n hx hb dX8_fold_0 rfl (lv_at hl 0 rfl) ?_
  refine lv_iload_n hx hb dX8_fold_1 rfl (lv_at hl 1 rfl) ?_
  refine q_vq (As := [.int aq]) (rest := []) ⟨hx, hb, hml, hown, hts⟩ (k_X8_sieveAt l D g m_xb e_xb m_Sl e_Sl hs2) (cwV 1 hts gX8_fold_X8_sieveAt rfl rfl rfl (by decide +kernel) ⟨Nat.le_of_ble_eq_true rfl, Nat.le_of_ble_eq_true rfl⟩) S m_xb e_xb (T := TX8) (N := 8) rfl rfl hl.1 rfl (Nat.le_of_ble_eq_true rfl) dX8_fold_2 ⟨Nat.le_of_ble_eq_true rfl, Nat.le_of_ble_eq_true rfl⟩ (fun r3 L1 f2 H locs S w2 => ?_)
  obtain ⟨ex, eL, ef⟩ := w2
  rw [eL, ef] at S
  replace ex := ex.symm
  subst ex
  refine W.eq (g2 := F0 m 5 ls [.ref ah]) rfl ?_
  refine lv_astore_n (lv' := [(2, .ref ah), (0, .ref xb), (1, .int aq)]) hx hb dX8_fold_5 rfl hl (by decide) rfl (fun ls hl => ?_)
  refine lv_aload_n hx hb dX8_fold_6 rfl (lv_at hl 0 rfl) ?_
  refine lv_ifnonnull (tgt := 12) hx hb dX8_fold_7 (by decide) ?_
  refine lv_aload_n hx hb dX8_fold_12 rfl (lv_at hl 0 rfl) ?_
  refine q_getN hx hb hts in_X6 hown S m_ah e_ah (C := RX6) (T := TX6) (N := 7) rfl 3 (by decide) rfl (by decide) dX8_fold_13 ?_
  refine lv_if_ne (tgt := 28) hx hb dX8_fold_16 (by decide) (fun b16 => ?_) (fun b16 => ?_)
  · have hM := itF b16 hM
    refine lv_bipush (v := (-2 : Int32)) hx hb dX8_fold_28 (by decide) ?_
    exact no_some hM
  · have hM := itT b16 hM
    refine lv_aload_n hx hb dX8_fold_19 rfl (lv_at hl 0 rfl) ?_
    refine q_getN hx hb hts in_X6 hown S m_ah e_ah (C := RX6) (T := TX6) (N := 7) rfl 4 (by decide) rfl (by decide) dX8_fold_20 ?_
    refine lv_bipush (v := (8 : Int32)) hx hb dX8_fold_23 (by decide) ?_
    refine lv_icmp_gt (tgt := 31) hx hb dX8_fold_25 (by decide) (fun b25 => ?_) (fun b25 => ?_)
    · have hM := itT b25 hM
      refine lv_aload_n hx hb dX8_fold_31 rfl (lv_at hl 1 rfl) ?_
      obtain ⟨z32, hz32, hM⟩ := bind_some hM
      refine q_vq (As := []) (rest := []) ⟨hx, hb, hml, hown, hts⟩ (k_X8_nextSlotF l D g m_xb e_xb m_Sl e_Sl hF0 hz32) (cwV 0 hts gX8_fold_X8_nextSlot rfl rfl rfl (by decide +kernel) ⟨Nat.le_of_ble_eq_true rfl, Nat.le_of_ble_eq_true rfl⟩) S m_xb e_xb (T := TX8) (N := 8) rfl rfl hl.1 rfl (Nat.le_of_ble_eq_true rfl) dX8_fold_32 ⟨Nat.le_of_ble_eq_true rfl, Nat.le_of_ble_eq_true rfl⟩ (fun r6 L4 f5 H locs S w32 => ?_)
      refine W.widen (k := 4) (n := 5105) (by decide) (by decide) ?_
      obtain ⟨q38, ce, co, cr, ex32, mo, fv, E_Sl, ⟨nq_q38, mq_q38, E_q38⟩, ⟨nq_ce, mq_ce, E_ce⟩, ⟨nq_co, mq_co, E_co⟩, ⟨nq_cr, mq_cr, E_cr⟩⟩ := w32
      have mono0 := mono
      have e_xb := (fv xb m_xb n_xb_Sl).trans e_xb
      have e_ah := (fv ah m_ah n_ah_Sl).trans e_ah
      have e_ace := (fv ace m_ace n_ace_Sl).trans e_ace
      have e_aco := (fv aco m_aco n_aco_Sl).trans e_aco
      have e_acr := (fv acr m_acr n_acr_Sl).trans e_acr
      have fr : ∀ b, b ∈ L → b ≠ xb → b ≠ Sl → f5 b = f b := fun b mb nb0 nb1 => (fv b (mono0 b mb) nb1).trans (fr b mb nb0 nb1)
      have n_xb_q38 : xb ≠ q38 := fun h => nq_q38 (h ▸ m_xb)
      have n_q38_xb : q38 ≠ xb := Ne.symm n_xb_q38
      have n_xb_ce : xb ≠ ce := fun h => nq_ce (h ▸ m_xb)
      have n_ce_xb : ce ≠ xb := Ne.symm n_xb_ce
      have n_xb_co : xb ≠ co := fun h => nq_co (h ▸ m_xb)
      have n_co_xb : co ≠ xb := Ne.symm n_xb_co
      have n_xb_cr : xb ≠ cr := fun h => nq_cr (h ▸ m_xb)
      have n_cr_xb : cr ≠ xb := Ne.symm n_xb_cr
      have n_Sl_q38 : Sl ≠ q38 := fun h => nq_q38 (h ▸ m_Sl)
      have n_q38_Sl : q38 ≠ Sl := Ne.symm n_Sl_q38
      have n_Sl_ce : Sl ≠ ce := fun h => nq_ce (h ▸ m_Sl)
      have n_ce_Sl : ce ≠ Sl := Ne.symm n_Sl_ce
      have n_Sl_co : Sl ≠ co := fun h => nq_co (h ▸ m_Sl)
      have n_co_Sl : co ≠ Sl := Ne.symm n_Sl_co
      have n_Sl_cr : Sl ≠ cr := fun h => nq_cr (h ▸ m_Sl)
      have n_cr_Sl : cr ≠ Sl := Ne.symm n_Sl_cr
      have n_ah_q38 : ah ≠ q38 := fun h => nq_q38 (h ▸ m_ah)
      have n_q38_ah : q38 ≠ ah := Ne.symm n_ah_q38
      have n_ah_ce : ah ≠ ce := fun h => nq_ce (h ▸ m_ah)
      have n_ce_ah : ce ≠ ah := Ne.symm n_ah_ce
      have n_ah_co : ah ≠ co := fun h => nq_co (h ▸ m_ah)
      have n_co_ah : co ≠ ah := Ne.symm n_ah_co
      have n_ah_cr : ah ≠ cr := fun h => nq_cr (h ▸ m_ah)
      have n_cr_ah : cr ≠ ah := Ne.symm n_ah_cr
      have n_ace_q38 : ace ≠ q38 := fun h => nq_q38 (h ▸ m_ace)
      have n_q38_ace : q38 ≠ ace := Ne.symm n_ace_q38
      have n_ace_ce : ace ≠ ce := fun h => nq_ce (h ▸ m_ace)
      have n_ce_ace : ce ≠ ace := Ne.symm n_ace_ce
      have n_ace_co : ace ≠ co := fun h => nq_co (h ▸ m_ace)
      have n_co_ace : co ≠ ace := Ne.symm n_ace_co
      have n_ace_cr : ace ≠ cr := fun h => nq_cr (h ▸ m_ace)
      have n_cr_ace : cr ≠ ace := Ne.symm n_ace_cr
      have n_aco_q38 : aco ≠ q38 := fun h => nq_q38 (h ▸ m_aco)
      have n_q38_aco : q38 ≠ aco := Ne.symm n_aco_q38
      have n_aco_ce : aco ≠ ce := fun h => nq_ce (h ▸ m_aco)
      have n_ce_aco : ce ≠ aco := Ne.symm n_aco_ce
      have n_aco_co : aco ≠ co := fun h => nq_co (h ▸ m_aco)
      have n_co_aco : co ≠ aco := Ne.symm n_aco_co
      have n_aco_cr : aco ≠ cr := fun h => nq_cr (h ▸ m_aco)
      have n_cr_aco : cr ≠ aco := Ne.symm n_aco_cr
      have n_acr_q38 : acr ≠ q38 := fun h => nq_q38 (h ▸ m_acr)
      have n_q38_acr : q38 ≠ acr := Ne.symm n_acr_q38
      have n_acr_ce : acr ≠ ce := fun h => nq_ce (h ▸ m_acr)
      have n_ce_acr : ce ≠ acr := Ne.symm n_acr_ce
      have n_acr_co : acr ≠ co := fun h => nq_co (h ▸ m_acr)
      have n_co_acr : co ≠ acr := Ne.symm n_acr_co
      have n_acr_cr : acr ≠ cr := fun h => nq_cr (h ▸ m_acr)
      have n_cr_acr : cr ≠ acr := Ne.symm n_acr_cr
      have m_xb : xb ∈ L4 := mo xb m_xb
      have m_Sl : Sl ∈ L4 := mo Sl m_Sl
      have m_ah : ah ∈ L4 := mo ah m_ah
      have m_ace : ace ∈ L4 := mo ace m_ace
      have m_aco : aco ∈ L4 := mo aco m_aco
      have m_acr : acr ∈ L4 := mo acr m_acr
      have nz_q38 : q38 ∉ L := nq_q38
      have nz_ce : ce ∉ L := nq_ce
      have nz_co : co ∉ L := nq_co
      have nz_cr : cr ∉ L := nq_cr
      have mono : ∀ b, b ∈ L → b ∈ L4 := fun b h => mo b (mono0 b h)
      have m_q38 := mq_q38
      have m_ce := mq_ce
      have m_co := mq_co
      have m_cr := mq_cr
      have e_Sl : f5 Sl = .inl (g 5, 30, .inr (.inr (.inr (.inr (va_up sf (Int32.toNatClampNeg md) (some q38)))))) := E_Sl
      have e_q38 : f5 q38 = .inr (4, [.ref ce, .ref co, .null, .int z32.1, .int z32.2.1, .int z32.2.2.1, .int z32.2.2.2.1]) := E_q38
      have e_ce : f5 ce = .inl (g 0, 4096, .inl z32.2.2.2.2.1) := E_ce
      have e_co : f5 co = .inr (0, [.ref cr, .int z32.2.2.2.2.2.1]) := E_co
      have e_cr : f5 cr = .inl (g 1, 1000, .inr (.inl z32.2.2.2.2.2.2)) := E_cr
      have n_ce_q38 : ce ≠ q38 := ne_ri e_q38 e_ce
      have n_co_q38 : co ≠ q38 := ne_rr e_q38 e_co (by decide)
      have n_cr_q38 : cr ≠ q38 := ne_ri e_q38 e_cr
      have n_q38_ce : q38 ≠ ce := ne_ir e_ce e_q38
      have n_co_ce : co ≠ ce := ne_ir e_ce e_co
      have n_cr_ce : cr ≠ ce := ne_len e_ce e_cr (by decide)
      have n_q38_co : q38 ≠ co := ne_rr e_co e_q38 (by decide)
      have n_ce_co : ce ≠ co := ne_ri e_co e_ce
      have n_cr_co : cr ≠ co := ne_ri e_co e_cr
      have n_q38_cr : q38 ≠ cr := ne_ir e_cr e_q38
      have n_ce_cr : ce ≠ cr := ne_len e_cr e_ce (by decide)
      have n_co_cr : co ≠ cr := ne_ir e_cr e_co
      replace ex32 := ex32.symm
      subst ex32
      refine W.eq (g2 := F0 m 35 ls [.ref q38]) rfl ?_
      refine lv_astore_n (lv' := [(3, .ref q38), (2, .ref ah), (0, .ref xb), (1, .int aq)]) hx hb dX8_fold_35 rfl hl (by decide) rfl (fun ls hl => ?_)
      refine lv_aload_n hx hb dX8_fold_36 rfl (lv_at hl 0 rfl) ?_
      refine lv_ifnonnull (tgt := 43) hx hb dX8_fold_37 (by decide) ?_
      refine lv_aload_n hx hb dX8_fold_43 rfl (lv_at hl 0 rfl) ?_
      refine lv_iconst (v := (0 : Int32)) hx hb dX8_fold_44 (by decide) ?_
      refine lv_aload_n hx hb dX8_fold_45 rfl (lv_at hl 1 rfl) ?_
      refine q_getN hx hb hts in_X6 hown S m_ah e_ah (C := RX6) (T := TX6) (N := 7) rfl 4 (by decide) rfl (by decide) dX8_fold_46 ?_
      refine lv_iconst (v := (2 : Int32)) hx hb dX8_fold_49 (by decide) ?_
      refine lv_idiv hx hb dX8_fold_50 (by decide) ?_
      refine lv_aload_n hx hb dX8_fold_51 rfl (lv_at hl 1 rfl) ?_
      refine q_getN hx hb hts in_X6 hown S m_ah e_ah (C := RX6) (T := TX6) (N := 7) rfl 5 (by decide) rfl (by decide) dX8_fold_52 ?_
      refine lv_aload_n hx hb dX8_fold_55 rfl (lv_at hl 1 rfl) ?_
      refine q_getN hx hb hts in_X6 hown S m_ah e_ah (C := RX6) (T := TX6) (N := 7) rfl 6 (by decide) rfl (by decide) dX8_fold_56 ?_
      obtain ⟨z59, hz59, hM⟩ := bind_some hM
      refine q_vv (As := [.int (0 : Int32), .int (asz / (2 : Int32)), .int amk, .int asd]) (rest := []) ⟨hx, hb, hml, hown, hts⟩ (k_X6_begin l D g m_q38 e_q38 m_ce e_ce m_co e_co hz59) (cwV 4 hts gX8_fold_X6_begin rfl rfl rfl (by decide +kernel) ⟨Nat.le_of_ble_eq_true rfl, Nat.le_of_ble_eq_true rfl⟩) S m_q38 e_q38 (T := TX6) (N := 7) rfl rfl hl.1 rfl (Nat.le_of_ble_eq_true rfl) dX8_fold_59 ⟨Nat.le_of_ble_eq_true rfl, Nat.le_of_ble_eq_true rfl⟩ (fun L7 f8 H locs S w59 => ?_)
      obtain ⟨eL, fv59, E_q38, E_ce, E_co⟩ := w59
      rw [eL] at S
      have fr : ∀ b, b ∈ L → b ≠ xb → b ≠ Sl → f8 b = f b := fun b mb nb0 nb1 => (fv59 b (mono b mb) (fun h_ => nz_q38 (h_ ▸ mb)) (fun h_ => nz_ce (h_ ▸ mb)) (fun h_ => nz_co (h_ ▸ mb))).trans (fr b mb nb0 nb1)
      have e_q38 : f8 q38 = .inr (4, [.ref ce, .ref co, .null, .int z59.1, .int z59.2.1, .int z59.2.2.1, .int z59.2.2.2.1]) := E_q38
      have e_ce : f8 ce = .inl (g 0, 4096, .inl z59.2.2.2.2.1) := E_ce
      have e_co : f8 co = .inr (0, [.ref cr, .int z59.2.2.2.2.2]) := E_co
      refine lv_aload_n hx hb dX8_fold_62 rfl (lv_at hl 0 rfl) ?_
      refine lv_aload_n hx hb dX8_fold_63 rfl (lv_at hl 1 rfl) ?_
      obtain ⟨z64, hz64, hM⟩ := bind_some hM
      have e_cr := ((fv59 cr m_cr n_cr_q38 n_cr_ce n_cr_co).trans e_cr)
      have e_ah := ((fv59 ah m_ah n_ah_q38 n_ah_ce n_ah_co).trans e_ah)
      have e_ace := ((fv59 ace m_ace n_ace_q38 n_ace_ce n_ace_co).trans e_ace)
      have e_aco := ((fv59 aco m_aco n_aco_q38 n_aco_ce n_aco_co).trans e_aco)
      have e_acr := ((fv59 acr m_acr n_acr_q38 n_acr_ce n_acr_co).trans e_acr)
      refine q_vv (As := [.ref ah]) (rest := []) ⟨hx, hb, hml, hown, hts⟩ (k_X6_foldBits l D g m_q38 e_q38 m_ce e_ce m_co e_co m_cr e_cr m_ah e_ah m_ace e_ace m_aco e_aco m_acr e_acr n_ace_ce hz64) (cwV 1 hts gX8_fold_X6_foldBits rfl rfl rfl (by decide +kernel) ⟨Nat.le_of_ble_eq_true rfl, Nat.le_of_ble_eq_true rfl⟩) S m_q38 e_q38 (T := TX6) (N := 7) rfl rfl hl.1 rfl (Nat.le_of_ble_eq_true rfl) dX8_fold_64 ⟨Nat.le_of_ble_eq_true rfl, Nat.le_of_ble_eq_true rfl⟩ (fun L10 f11 H locs S w64 => ?_)
      obtain ⟨eL, fv64, E_ce⟩ := w64
      rw [eL] at S
      have fr : ∀ b, b ∈ L → b ≠ xb → b ≠ Sl → f11 b = f b := fun b mb nb0 nb1 => (fv64 b (mono b mb) (fun h_ => nz_ce (h_ ▸ mb))).trans (fr b mb nb0 nb1)
      have e_ce : f11 ce = .inl (g 0, 4096, .inl z64) := E_ce
      refine lv_aload_n hx hb dX8_fold_67 rfl (lv_at hl 0 rfl) ?_
      have e_q38 := ((fv64 q38 m_q38 n_q38_ce).trans e_q38)
      refine q_getN hx hb hts in_X6 hown S m_q38 e_q38 (C := RX6) (T := TX6) (N := 7) rfl 1 (by decide) rfl (by decide) dX8_fold_68 ?_
      refine lv_aload_n hx hb dX8_fold_71 rfl (lv_at hl 1 rfl) ?_
      have e_ah := ((fv64 ah m_ah n_ah_ce).trans e_ah)
      refine q_getN hx hb hts in_X6 hown S m_ah e_ah (C := RX6) (T := TX6) (N := 7) rfl 1 (by decide) rfl (by decide) dX8_fold_72 ?_
      obtain ⟨z75, hz75, hM⟩ := bind_some hM
      have e_co := ((fv64 co m_co n_co_ce).trans e_co)
      have e_cr := ((fv64 cr m_cr n_cr_ce).trans e_cr)
      have e_aco := ((fv64 aco m_aco n_aco_ce).trans e_aco)
      have e_acr := ((fv64 acr m_acr n_acr_ce).trans e_acr)
      refine q_vv (As := [.ref aco]) (rest := []) ⟨hx, hb, hml, hown, hts⟩ (k_X0_copyFrom l D g m_co e_co m_cr e_cr m_aco e_aco m_acr e_acr hz75) (cwV 1 hts gX8_fold_X0_copyFrom rfl rfl rfl (by decide +kernel) ⟨Nat.le_of_ble_eq_true rfl, Nat.le_of_ble_eq_true rfl⟩) S m_co e_co (T := TX0) (N := 2) rfl rfl hl.1 rfl (Nat.le_of_ble_eq_true rfl) dX8_fold_75 ⟨Nat.le_of_ble_eq_true rfl, Nat.le_of_ble_eq_true rfl⟩ (fun L13 f14 H locs S w75 => ?_)
      obtain ⟨eL, fv75, E_co, E_cr⟩ := w75
      rw [eL] at S
      have fr : ∀ b, b ∈ L → b ≠ xb → b ≠ Sl → f14 b = f b := fun b mb nb0 nb1 => (fv75 b (mono b mb) (fun h_ => nz_co (h_ ▸ mb)) (fun h_ => nz_cr (h_ ▸ mb))).trans (fr b mb nb0 nb1)
      have e_co : f14 co = .inr (0, [.ref cr, .int z75.1]) := E_co
      have e_cr : f14 cr = .inl (g 1, 1000, .inr (.inl z75.2)) := E_cr
      refine lv_aload_n hx hb dX8_fold_78 rfl (lv_at hl 2 rfl) ?_
      refine lv_dup hx hb dX8_fold_79 rfl ?_
      have e_xb := ((fv75 xb m_xb n_xb_co n_xb_cr).trans ((fv64 xb m_xb n_xb_ce).trans ((fv59 xb m_xb n_xb_q38 n_xb_ce n_xb_co).trans e_xb)))
      refine q_get hx hb hts in_X8 hown S m_xb e_xb (C := RX8) (T := TX8) (N := 8) rfl 7 (by decide) rfl (hts (.fieldLink RX8 84 "SieveCabinet" "made" "I") (by decide +kernel)) dX8_fold_80 ?_
      refine lv_dup_x1 hx hb dX8_fold_83 rfl rfl ?_
      refine lv_iconst (v := (1 : Int32)) hx hb dX8_fold_84 (by decide) ?_
      refine lv_iadd hx hb dX8_fold_85 ?_
      refine k_put hx hb hts in_X8 tyX8 tyX8_ok nmX8 hown S m_xb e_xb (C := RX8) (T := TX8) (N := 8) rfl 7 (by decide) (hts (.fieldLink RX8 84 "SieveCabinet" "made" "I") (by decide +kernel)) rfl rfl rfl (Nat.le_of_ble_eq_true rfl) dX8_fold_86 (fun f16 ef16 H locs S => ?_)
      have e_xb : f16 xb = .inr (6, [.ref wo, .ref Sl, .ref dr, .ref ri, .ref th, .ref so, .ref ch, .int (md + (1 : Int32))]) := up_self ef16
      have fr : ∀ b, b ∈ L → b ≠ xb → b ≠ Sl → f16 b = f b := fun b mb nb0 nb1 => (up_ne ef16 nb0 rfl).trans (fr b mb nb0 nb1)
      have e_Sl := (up_ne ef16 n_Sl_xb ((fv75 Sl m_Sl n_Sl_co n_Sl_cr).trans ((fv64 Sl m_Sl n_Sl_ce).trans ((fv59 Sl m_Sl n_Sl_q38 n_Sl_ce n_Sl_co).trans e_Sl))))
      have e_q38 := (up_ne ef16 n_q38_xb ((fv75 q38 m_q38 n_q38_co n_q38_cr).trans e_q38))
      have e_ce := (up_ne ef16 n_ce_xb ((fv75 ce m_ce n_ce_co n_ce_cr).trans e_ce))
      have e_co := (up_ne ef16 n_co_xb e_co)
      have e_cr := (up_ne ef16 n_cr_xb e_cr)
      subst hQQ
      exact q_reti (post := fun x L1 f1 => ∃ q38 : Nat, ∃ ce : Nat, ∃ co : Nat, ∃ cr : Nat, x = z.1 ∧ (∀ b, b ∈ L → b ∈ L1) ∧ (∀ b, b ∈ L → b ≠ xb → b ≠ Sl → f1 b = f b) ∧ f1 xb = .inr (6, [.ref wo, .ref Sl, .ref dr, .ref ri, .ref th, .ref so, .ref ch, .int z.2.1]) ∧ f1 Sl = .inl (g 5, 30, .inr (.inr (.inr (.inr (va_up sf (Int32.toNatClampNeg md) (some q38)))))) ∧ (q38 ∉ L ∧ q38 ∈ L1 ∧ f1 q38 = .inr (4, [.ref ce, .ref co, .null, .int z.2.2.1, .int z.2.2.2.1, .int z.2.2.2.2.1, .int z.2.2.2.2.2.1])) ∧ (ce ∉ L ∧ ce ∈ L1 ∧ f1 ce = .inl (g 0, 4096, .inl z.2.2.2.2.2.2.1)) ∧ (co ∉ L ∧ co ∈ L1 ∧ f1 co = .inr (0, [.ref cr, .int z.2.2.2.2.2.2.2.1])) ∧ (cr ∉ L ∧ cr ∈ L1 ∧ f1 cr = .inl (g 1, 1000, .inr (.inl z.2.2.2.2.2.2.2.2)))) hx hb hr hlk S dX8_fold_89 (by decide) (by decide) (by have hz := Option.some.inj hM; subst hz; exact ⟨q38, ce, co, cr, rfl, mono, fr, e_xb, e_Sl, ⟨nz_q38, m_q38, e_q38⟩, ⟨nz_ce, m_ce, e_ce⟩, ⟨nz_co, m_co, e_co⟩, ⟨nz_cr, m_cr, e_cr⟩⟩)
    · have hM := itF b25 hM
      refine lv_bipush (v := (-2 : Int32)) hx hb dX8_fold_28 (by decide) ?_
      exact no_some hM

def mX8_joinNB  : Option (Int32) := some (-1 : Int32)
set_option maxHeartbeats 4000000 in
set_option maxRecDepth 100000 in
theorem k_X8_joinNB (l : Launch) (D : va_G) (g : Nat → ClassId) {L : List Nat} {f : Nat → va_E} {Sl bh ch dr ri so th wo xb : Nat} {md : Int32} {sf : Nat → Option Nat} {ho : Int32} {aq : Int32} {bq : Int32} {z : Int32} (m_xb : xb ∈ L) (e_xb : f xb = .inr (6, [.ref wo, .ref Sl, .ref dr, .ref ri, .ref th, .ref so, .ref ch, .int md])) (m_Sl : Sl ∈ L) (e_Sl : f Sl = .inl (g 5, 30, .inr (.inr (.inr (.inr sf)))))   (hs2 : mX8_sieveAt md sf aq = some none) (hs9 : mX8_sieveAt md sf bq = some (some bh)) (hM : mX8_joinNB = some z) : cI l yX8_join wsX8_join { frames := 1, cells := 0, slots := 0, locals := 21 } D g [.ref xb, .int ho, .int aq, .int bq] L f 0 0 (fun x L1 f1 => x = z ∧ L1 = L ∧ f1 = f) := by
  refine cI_of (cc := cX8_join) (maxL := 8) (ret := (some .int)) (by decide) rfl (Nat.le_of_ble_eq_true rfl) ?_
  intro szz p e s m below meth c hx hb hr hml hts hown hlk hnm S ls hl
  have hl : lv_has ls 8 [(0, .ref xb), (1, .int ho), (2, .int aq), (3, .int bq)] := hl
  unfold mX8_joinNB at hM
  refine W_gen (fun QQ hQQ => ?_)
  refine lv_aload_n hx hb dX8_join_0 rfl (lv_at hl 0 rfl) ?_
  refine lv_iload_n hx hb dX8_join_1 rfl (lv_at hl 2 rfl) ?_
  refine q_vq (As := [.int aq]) (rest := []) ⟨hx, hb, hml, hown, hts⟩ (k_X8_sieveAt l D g m_xb e_xb m_Sl e_Sl hs2) (cwV 1 hts gX8_join_X8_sieveAt rfl rfl rfl (by decide +kernel) ⟨Nat.le_of_ble_eq_true rfl, Nat.le_of_ble_eq_true rfl⟩) S m_xb e_xb (T := TX8) (N := 8) rfl rfl hl.1 rfl (Nat.le_of_ble_eq_true rfl) dX8_join_2 ⟨Nat.le_of_ble_eq_true rfl, Nat.le_of_ble_eq_true rfl⟩ (fun r3 L1 f2 H locs S w2 => ?_)
  obtain ⟨ex, eL, ef⟩ := w2
  rw [eL, ef] at S
  replace ex := ex.symm
  subst ex
  refine W.eq (g2 := F0 m 5 ls [.null]) rfl ?_
  refine lv_astoreN (lv' := [(4, .null), (0, .ref xb), (1, .int ho), (2, .int aq), (3, .int bq)]) hx hb dX8_join_5 hl (by decide) rfl (fun ls hl => ?_)
  refine lv_aload_n hx hb dX8_join_7 rfl (lv_at hl 1 rfl) ?_
  refine lv_iload_n hx hb dX8_join_8 rfl (lv_at hl 4 rfl) ?_
  refine q_vq (As := [.int bq]) (rest := []) ⟨hx, hb, hml, hown, hts⟩ (k_X8_sieveAt l D g m_xb e_xb m_Sl e_Sl hs9) (cwV 1 hts gX8_join_X8_sieveAt rfl rfl rfl (by decide +kernel) ⟨Nat.le_of_ble_eq_true rfl, Nat.le_of_ble_eq_true rfl⟩) S m_xb e_xb (T := TX8) (N := 8) rfl rfl hl.1 rfl (Nat.le_of_ble_eq_true rfl) dX8_join_9 ⟨Nat.le_of_ble_eq_true rfl, Nat.le_of_ble_eq_true rfl⟩ (fun r6 L4 f5 H locs S w9 => ?_)
  obtain ⟨ex, eL, ef⟩ := w9
  rw [eL, ef] at S
  replace ex := ex.symm
  subst ex
  refine W.eq (g2 := F0 m 12 ls [.ref bh]) rfl ?_
  refine lv_astore (lv' := [(5, .ref bh), (4, .null), (0, .ref xb), (1, .int ho), (2, .int aq), (3, .int bq)]) hx hb dX8_join_12 hl (by decide) rfl (fun ls hl => ?_)
  refine lv_aloadN hx hb dX8_join_14 (lv_at hl 1 rfl) ?_
  refine lv_ifnullN (tgt := 33) hx hb dX8_join_16 (by decide) ?_
  refine lv_iconst (v := (-1 : Int32)) hx hb dX8_join_33 (by decide) ?_
  subst hQQ
  exact q_reti (post := fun x L1 f1 => x = z ∧ L1 = L ∧ f1 = f) hx hb hr hlk S dX8_join_34 (by decide) (by decide) (by have hz := Option.some.inj hM; subst hz; exact ⟨rfl, rfl, rfl⟩)

def mX8_joinAN  : Option (Int32) := some (-1 : Int32)
set_option maxHeartbeats 4000000 in
set_option maxRecDepth 100000 in
theorem k_X8_joinAN (l : Launch) (D : va_G) (g : Nat → ClassId) {L : List Nat} {f : Nat → va_E} {Sl ah ch dr ri so th wo xb : Nat} {md : Int32} {sf : Nat → Option Nat} {ho : Int32} {aq : Int32} {bq : Int32} {z : Int32} (m_xb : xb ∈ L) (e_xb : f xb = .inr (6, [.ref wo, .ref Sl, .ref dr, .ref ri, .ref th, .ref so, .ref ch, .int md])) (m_Sl : Sl ∈ L) (e_Sl : f Sl = .inl (g 5, 30, .inr (.inr (.inr (.inr sf)))))   (hs2 : mX8_sieveAt md sf aq = some (some ah)) (hs9 : mX8_sieveAt md sf bq = some none) (hM : mX8_joinAN = some z) : cI l yX8_join wsX8_join { frames := 1, cells := 0, slots := 0, locals := 21 } D g [.ref xb, .int ho, .int aq, .int bq] L f 0 0 (fun x L1 f1 => x = z ∧ L1 = L ∧ f1 = f) := by
  refine cI_of (cc := cX8_join) (maxL := 8) (ret := (some .int)) (by decide) rfl (Nat.le_of_ble_eq_true rfl) ?_
  intro szz p e s m below meth c hx hb hr hml hts hown hlk hnm S ls hl
  have hl : lv_has ls 8 [(0, .ref xb), (1, .int ho), (2, .int aq), (3, .int bq)] := hl
  unfold mX8_joinAN at hM
  refine W_gen (fun QQ hQQ => ?_)
  refine lv_aload_n hx hb dX8_join_0 rfl (lv_at hl 0 rfl) ?_
  refine lv_iload_n hx hb dX8_join_1 rfl (lv_at hl 2 rfl) ?_
  refine q_vq (As := [.int aq]) (rest := []) ⟨hx, hb, hml, hown, hts⟩ (k_X8_sieveAt l D g m_xb e_xb m_Sl e_Sl hs2) (cwV 1 hts gX8_join_X8_sieveAt rfl rfl rfl (by decide +kernel) ⟨Nat.le_of_ble_eq_true rfl, Nat.le_of_ble_eq_true rfl⟩) S m_xb e_xb (T := TX8) (N := 8) rfl rfl hl.1 rfl (Nat.le_of_ble_eq_true rfl) dX8_join_2 ⟨Nat.le_of_ble_eq_true rfl, Nat.le_of_ble_eq_true rfl⟩ (fun r3 L1 f2 H locs S w2 => ?_)
  obtain ⟨ex, eL, ef⟩ := w2
  rw [eL, ef] at S
  replace ex := ex.symm
  subst ex
  refine W.eq (g2 := F0 m 5 ls [.ref ah]) rfl ?_
  refine lv_astore (lv' := [(4, .ref ah), (0, .ref xb), (1, .int ho), (2, .int aq), (3, .int bq)]) hx hb dX8_join_5 hl (by decide) rfl (fun ls hl => ?_)
  refine lv_aload_n hx hb dX8_join_7 rfl (lv_at hl 1 rfl) ?_
  refine lv_iload_n hx hb dX8_join_8 rfl (lv_at hl 4 rfl) ?_
  refine q_vq (As := [.int bq]) (rest := []) ⟨hx, hb, hml, hown, hts⟩ (k_X8_sieveAt l D g m_xb e_xb m_Sl e_Sl hs9) (cwV 1 hts gX8_join_X8_sieveAt rfl rfl rfl (by decide +kernel) ⟨Nat.le_of_ble_eq_true rfl, Nat.le_of_ble_eq_true rfl⟩) S m_xb e_xb (T := TX8) (N := 8) rfl rfl hl.1 rfl (Nat.le_of_ble_eq_true rfl) dX8_join_9 ⟨Nat.le_of_ble_eq_true rfl, Nat.le_of_ble_eq_true rfl⟩ (fun r6 L4 f5 H locs S w9 => ?_)
  obtain ⟨ex, eL, ef⟩ := w9
  rw [eL, ef] at S
  replace ex := ex.symm
  subst ex
  refine W.eq (g2 := F0 m 12 ls [.null]) rfl ?_
  refine lv_astoreN (lv' := [(5, .null), (4, .ref ah), (0, .ref xb), (1, .int ho), (2, .int aq), (3, .int bq)]) hx hb dX8_join_12 hl (by decide) rfl (fun ls hl => ?_)
  refine lv_aload hx hb dX8_join_14 (lv_at hl 1 rfl) ?_
  refine lv_ifnull hx hb dX8_join_16 ?_
  refine lv_aloadN hx hb dX8_join_19 (lv_at hl 0 rfl) ?_
  refine lv_ifnullN (tgt := 33) hx hb dX8_join_21 (by decide) ?_
  refine lv_iconst (v := (-1 : Int32)) hx hb dX8_join_33 (by decide) ?_
  subst hQQ
  exact q_reti (post := fun x L1 f1 => x = z ∧ L1 = L ∧ f1 = f) hx hb hr hlk S dX8_join_34 (by decide) (by decide) (by have hz := Option.some.inj hM; subst hz; exact ⟨rfl, rfl, rfl⟩)

def mX8_joinNN  : Option (Int32) := some (-1 : Int32)
set_option maxHeartbeats 4000000 in
set_option maxRecDepth 100000 in
theorem k_X8_joinNN (l : Launch) (D : va_G) (g : Nat → ClassId) {L : List Nat} {f : Nat → va_E} {Sl ch dr ri so th wo xb : Nat} {md : Int32} {sf : Nat → Option Nat} {ho : Int32} {aq : Int32} {bq : Int32} {z : Int32} (m_xb : xb ∈ L) (e_xb : f xb = .inr (6, [.ref wo, .ref Sl, .ref dr, .ref ri, .ref th, .ref so, .ref ch, .int md])) (m_Sl : Sl ∈ L) (e_Sl : f Sl = .inl (g 5, 30, .inr (.inr (.inr (.inr sf)))))   (hs2 : mX8_sieveAt md sf aq = some none) (hs9 : mX8_sieveAt md sf bq = some none) (hM : mX8_joinNN = some z) : cI l yX8_join wsX8_join { frames := 1, cells := 0, slots := 0, locals := 21 } D g [.ref xb, .int ho, .int aq, .int bq] L f 0 0 (fun x L1 f1 => x = z ∧ L1 = L ∧ f1 = f) := by
  refine cI_of (cc := cX8_join) (maxL := 8) (ret := (some .int)) (by decide) rfl (Nat.le_of_ble_eq_true rfl) ?_
  intro szz p e s m below meth c hx hb hr hml hts hown hlk hnm S ls hl
  have hl : lv_has ls 8 [(0, .ref xb), (1, .int ho), (2, .int aq), (3, .int bq)] := hl
  unfold mX8_joinNN at hM
  refine W_gen (fun QQ hQQ => ?_)
  refine lv_aload_n hx hb dX8_join_0 rfl (lv_at hl 0 rfl) ?_
  refine lv_iload_n hx hb dX8_join_1 rfl (lv_at hl 2 rfl) ?_
  refine q_vq (As := [.int aq]) (rest := []) ⟨hx, hb, hml, hown, hts⟩ (k_X8_sieveAt l D g m_xb e_xb m_Sl e_Sl hs2) (cwV 1 hts gX8_join_X8_sieveAt rfl rfl rfl (by decide +kernel) ⟨Nat.le_of_ble_eq_true rfl, Nat.le_of_ble_eq_true rfl⟩) S m_xb e_xb (T := TX8) (N := 8) rfl rfl hl.1 rfl (Nat.le_of_ble_eq_true rfl) dX8_join_2 ⟨Nat.le_of_ble_eq_true rfl, Nat.le_of_ble_eq_true rfl⟩ (fun r3 L1 f2 H locs S w2 => ?_)
  obtain ⟨ex, eL, ef⟩ := w2
  rw [eL, ef] at S
  replace ex := ex.symm
  subst ex
  refine W.eq (g2 := F0 m 5 ls [.null]) rfl ?_
  refine lv_astoreN (lv' := [(4, .null), (0, .ref xb), (1, .int ho), (2, .int aq), (3, .int bq)]) hx hb dX8_join_5 hl (by decide) rfl (fun ls hl => ?_)
  refine lv_aload_n hx hb dX8_join_7 rfl (lv_at hl 1 rfl) ?_
  refine lv_iload_n hx hb dX8_join_8 rfl (lv_at hl 4 rfl) ?_
  refine q_vq (As := [.int bq]) (rest := []) ⟨hx, hb, hml, hown, hts⟩ (k_X8_sieveAt l D g m_xb e_xb m_Sl e_Sl hs9) (cwV 1 hts gX8_join_X8_sieveAt rfl rfl rfl (by decide +kernel) ⟨Nat.le_of_ble_eq_true rfl, Nat.le_of_ble_eq_true rfl⟩) S m_xb e_xb (T := TX8) (N := 8) rfl rfl hl.1 rfl (Nat.le_of_ble_eq_true rfl) dX8_join_9 ⟨Nat.le_of_ble_eq_true rfl, Nat.le_of_ble_eq_true rfl⟩ (fun r6 L4 f5 H locs S w9 => ?_)
  obtain ⟨ex, eL, ef⟩ := w9
  rw [eL, ef] at S
  replace ex := ex.symm
  subst ex
  refine W.eq (g2 := F0 m 12 ls [.null]) rfl ?_
  refine lv_astoreN (lv' := [(5, .null), (4, .null), (0, .ref xb), (1, .int ho), (2, .int aq), (3, .int bq)]) hx hb dX8_join_12 hl (by decide) rfl (fun ls hl => ?_)
  refine lv_aloadN hx hb dX8_join_14 (lv_at hl 1 rfl) ?_
  refine lv_ifnullN (tgt := 33) hx hb dX8_join_16 (by decide) ?_
  refine lv_iconst (v := (-1 : Int32)) hx hb dX8_join_33 (by decide) ?_
  subst hQQ
  exact q_reti (post := fun x L1 f1 => x = z ∧ L1 = L ∧ f1 = f) hx hb hr hlk S dX8_join_34 (by decide) (by decide) (by have hz := Option.some.inj hM; subst hz; exact ⟨rfl, rfl, rfl⟩)

def mX8_foldN  : Option (Int32) := some (-1 : Int32)
set_option maxHeartbeats 4000000 in
set_option maxRecDepth 100000 in
theorem k_X8_foldN (l : Launch) (D : va_G) (g : Nat → ClassId) {L : List Nat} {f : Nat → va_E} {Sl ch dr ri so th wo xb : Nat} {md : Int32} {sf : Nat → Option Nat} {aq : Int32} {z : Int32} (m_xb : xb ∈ L) (e_xb : f xb = .inr (6, [.ref wo, .ref Sl, .ref dr, .ref ri, .ref th, .ref so, .ref ch, .int md])) (m_Sl : Sl ∈ L) (e_Sl : f Sl = .inl (g 5, 30, .inr (.inr (.inr (.inr sf)))))   (hs2 : mX8_sieveAt md sf aq = some none) (hM : mX8_foldN = some z) : cI l yX8_fold wsX8_fold { frames := 1, cells := 0, slots := 0, locals := 21 } D g [.ref xb, .int aq] L f 0 0 (fun x L1 f1 => x = z ∧ L1 = L ∧ f1 = f) := by
  refine cI_of (cc := cX8_fold) (maxL := 4) (ret := (some .int)) (by decide) rfl (Nat.le_of_ble_eq_true rfl) ?_
  intro szz p e s m below meth c hx hb hr hml hts hown hlk hnm S ls hl
  have hl : lv_has ls 4 [(0, .ref xb), (1, .int aq)] := hl
  unfold mX8_foldN at hM
  refine W_gen (fun QQ hQQ => ?_)
  refine lv_aload_n hx hb dX8_fold_0 rfl (lv_at hl 0 rfl) ?_
  refine lv_iload_n hx hb dX8_fold_1 rfl (lv_at hl 1 rfl) ?_
  refine q_vq (As := [.int aq]) (rest := []) ⟨hx, hb, hml, hown, hts⟩ (k_X8_sieveAt l D g m_xb e_xb m_Sl e_Sl hs2) (cwV 1 hts gX8_fold_X8_sieveAt rfl rfl rfl (by decide +kernel) ⟨Nat.le_of_ble_eq_true rfl, Nat.le_of_ble_eq_true rfl⟩) S m_xb e_xb (T := TX8) (N := 8) rfl rfl hl.1 rfl (Nat.le_of_ble_eq_true rfl) dX8_fold_2 ⟨Nat.le_of_ble_eq_true rfl, Nat.le_of_ble_eq_true rfl⟩ (fun r3 L1 f2 H locs S w2 => ?_)
  obtain ⟨ex, eL, ef⟩ := w2
  rw [eL, ef] at S
  replace ex := ex.symm
  subst ex
  refine W.eq (g2 := F0 m 5 ls [.null]) rfl ?_
  refine lv_astore_nN (lv' := [(2, .null), (0, .ref xb), (1, .int aq)]) hx hb dX8_fold_5 rfl hl (by decide) rfl (fun ls hl => ?_)
  refine lv_aload_nN hx hb dX8_fold_6 rfl (lv_at hl 0 rfl) ?_
  refine lv_ifnonnullN hx hb dX8_fold_7 ?_
  refine lv_iconst (v := (-1 : Int32)) hx hb dX8_fold_10 (by decide) ?_
  subst hQQ
  exact q_reti (post := fun x L1 f1 => x = z ∧ L1 = L ∧ f1 = f) hx hb hr hlk S dX8_fold_11 (by decide) (by decide) (by have hz := Option.some.inj hM; subst hz; exact ⟨rfl, rfl, rfl⟩)
