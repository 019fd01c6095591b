def mX4_of (t : Int64) (sd : Int32) : Option (Int64) := lt_ (t + ((Int32.toInt64 sd) * (-7046029254386353131 : Int64))) fun y8 => lt_ ((y8 ^^^ (lush_ y8 (30 : Int32))) * (-4658895280553007687 : Int64)) fun y19 => lt_ ((y19 ^^^ (lush_ y19 (27 : Int32))) * (-7723592293110705685 : Int64)) fun y30 => some (y30 ^^^ (lush_ y30 (31 : Int32)))
set_option maxHeartbeats 4000000 in
set_option maxRecDepth 100000 in
theorem k_X4_of (l : Launch) (D : va_G) (g : Nat → ClassId) {L : List Nat} {f : Nat → va_E} {t : Int64} {sd : Int32} {z : Int64}     (hM : mX4_of t sd = some z) : cL l yX4_of wsX4_of { frames := 0, cells := 0, slots := 0, locals := 0 } D g [.long t, .int sd] L f 0 0 (fun x L1 f1 => x = z ∧ L1 = L ∧ f1 = f) := by
  refine cL_of (cc := cX4_of) (maxL := 5) (ret := (some .long)) (by decide) rfl (Nat.le_of_ble_eq_true rfl) ?_
  intro szz p e s m below meth c hx hb hr hml hts hown hlk hnm S ls hl
  have hl : lv_has ls 5 [(0, .long t), (2, .int sd)] := hl
  unfold mX4_of at hM
  refine W_gen (fun QQ hQQ => ?_)
  refine lv_lload_n hx hb dX4_of_0 rfl (lv_at hl 0 rfl) ?_
  refine lv_iload_n hx hb dX4_of_1 rfl (lv_at hl 1 rfl) ?_
  refine lv_i2l (v := (Int32.toInt64 sd)) hx hb dX4_of_2 rfl ?_
  refine lv_ldc2 (v := (-7046029254386353131 : Int64)) hx hb hown (hts (.constantLong RX4 7 (-7046029254386353131)) (by decide +kernel)) dX4_of_3 ?_
  refine lv_lmul hx hb dX4_of_6 ?_
  refine lv_ladd hx hb dX4_of_7 ?_
  refine lv_topl (fun y8 ey8 => ?_)
  have hM := lt_some hM ey8
  refine lv_lstore_n (lv' := [(3, .long y8), (0, .long t), (2, .int sd)]) hx hb dX4_of_8 rfl hl (by decide) rfl (fun ls hl => ?_)
  refine lv_lload_n hx hb dX4_of_9 rfl (lv_at hl 0 rfl) ?_
  refine lv_lload_n hx hb dX4_of_10 rfl (lv_at hl 0 rfl) ?_
  refine lv_bipush (v := (30 : Int32)) hx hb dX4_of_11 (by decide) ?_
  refine lv_lushr (v := (lush_ y8 (30 : Int32))) hx hb dX4_of_13 rfl ?_
  refine lv_lxor hx hb dX4_of_14 ?_
  refine lv_ldc2 (v := (-4658895280553007687 : Int64)) hx hb hown (hts (.constantLong RX4 9 (-4658895280553007687)) (by decide +kernel)) dX4_of_15 ?_
  refine lv_lmul hx hb dX4_of_18 ?_
  refine lv_topl (fun y19 ey19 => ?_)
  have hM := lt_some hM ey19
  refine lv_lstore_n (lv' := [(3, .long y19), (0, .long t), (2, .int sd)]) hx hb dX4_of_19 rfl hl (by decide) rfl (fun ls hl => ?_)
  refine lv_lload_n hx hb dX4_of_20 rfl (lv_at hl 0 rfl) ?_
  refine lv_lload_n hx hb dX4_of_21 rfl (lv_at hl 0 rfl) ?_
  refine lv_bipush (v := (27 : Int32)) hx hb dX4_of_22 (by decide) ?_
  refine lv_lushr (v := (lush_ y19 (27 : Int32))) hx hb dX4_of_24 rfl ?_
  refine lv_lxor hx hb dX4_of_25 ?_
  refine lv_ldc2 (v := (-7723592293110705685 : Int64)) hx hb hown (hts (.constantLong RX4 11 (-7723592293110705685)) (by decide +kernel)) dX4_of_26 ?_
  refine lv_lmul hx hb dX4_of_29 ?_
  refine lv_topl (fun y30 ey30 => ?_)
  have hM := lt_some hM ey30
  refine lv_lstore_n (lv' := [(3, .long y30), (0, .long t), (2, .int sd)]) hx hb dX4_of_30 rfl hl (by decide) rfl (fun ls hl => ?_)
  refine lv_lload_n hx hb dX4_of_31 rfl (lv_at hl 0 rfl) ?_
  refine lv_lload_n hx hb dX4_of_32 rfl (lv_at hl 0 rfl) ?_
  refine lv_bipush (v := (31 : Int32)) hx hb dX4_of_33 (by decide) ?_
  refine lv_lushr (v := (lush_ y30 (31 : Int32))) hx hb dX4_of_35 rfl ?_
  refine lv_lxor hx hb dX4_of_36 ?_
  subst hQQ
  exact q_retl (post := fun x L1 f1 => x = z ∧ L1 = L ∧ f1 = f) hx hb hr hlk S dX4_of_37 (by decide) (by decide) (by have hz := Option.some.inj hM; subst hz; exact ⟨rfl, rfl, rfl⟩)

def mX4_rest (a : Int64) (q : Int32) : Option (Int32) := if 0 < q then (if ¬ (Int32.toInt64 q) = 0 then (some (Int64.toInt32 (lrm a (Int32.toInt64 q)))) else none) else (some (0 : Int32))
set_option maxHeartbeats 4000000 in
set_option maxRecDepth 100000 in
theorem k_X4_rest (l : Launch) (D : va_G) (g : Nat → ClassId) {L : List Nat} {f : Nat → va_E} {a : Int64} {q : Int32} {z : Int32}     (hM : mX4_rest a q = some z) : cI l yX4_rest wsX4_rest { frames := 0, cells := 0, slots := 0, locals := 0 } D g [.long a, .int q] L f 0 0 (fun x L1 f1 => x = z ∧ L1 = L ∧ f1 = f) := by
  refine cI_of (cc := cX4_rest) (maxL := 3) (ret := (some .int)) (by decide) rfl (Nat.le_of_ble_eq_true rfl) ?_
  intro szz p e s m below meth c hx hb hr hml hts hown hlk hnm S ls hl
  have hl : lv_has ls 3 [(0, .long a), (2, .int q)] := hl
  unfold mX4_rest at hM
  refine W_gen (fun QQ hQQ => ?_)
  refine lv_iload_n hx hb dX4_rest_0 rfl (lv_at hl 1 rfl) ?_
  refine lv_if_gt (tgt := 8) hx hb dX4_rest_1 (by decide) (fun b1 => ?_) (fun b1 => ?_)
  · have hM := itT b1 hM
    refine lv_lload_n hx hb dX4_rest_8 rfl (lv_at hl 0 rfl) ?_
    refine lv_iload_n hx hb dX4_rest_9 rfl (lv_at hl 1 rfl) ?_
    refine lv_i2l (v := (Int32.toInt64 q)) hx hb dX4_rest_10 rfl ?_
    obtain ⟨hq11, hM⟩ := ck hM
    refine lv_lrem hx hb dX4_rest_11 (hq11) ?_
    refine W.eq (g2 := F0 m 12 ls [.long (lrm a (Int32.toInt64 q))]) rfl ?_
    refine lv_l2i (v := (Int64.toInt32 (lrm a (Int32.toInt64 q)))) hx hb dX4_rest_12 rfl ?_
    subst hQQ
    exact q_reti (post := fun x L1 f1 => x = z ∧ L1 = L ∧ f1 = f) hx hb hr hlk S dX4_rest_13 (by decide) (by decide) (by have hz := Option.some.inj hM; subst hz; exact ⟨rfl, rfl, rfl⟩)
  · have hM := itF b1 hM
    refine lv_iconst (v := (0 : Int32)) hx hb dX4_rest_4 (by decide) ?_
    refine lv_goto (tgt := 13) hx hb dX4_rest_5 (by decide) ?_
    subst hQQ
    exact q_reti (post := fun x L1 f1 => x = z ∧ L1 = L ∧ f1 = f) hx hb hr hlk S dX4_rest_13 (by decide) (by decide) (by have hz := Option.some.inj hM; subst hz; exact ⟨rfl, rfl, rfl⟩)

def mX4_markPlace (mx : Int64) (j : Int32) (w : Int32) : Option (Int32) := some (Int64.toInt32 (((mx &&& (4294967295 : Int64)) + ((Int32.toInt64 j) * ((lush_ mx (32 : Int32)) ||| (1 : Int64)))) &&& (Int32.toInt64 (w - (1 : Int32)))))
set_option maxHeartbeats 4000000 in
set_option maxRecDepth 100000 in
theorem k_X4_markPlace (l : Launch) (D : va_G) (g : Nat → ClassId) {L : List Nat} {f : Nat → va_E} {mx : Int64} {j : Int32} {w : Int32} {z : Int32}     (hM : mX4_markPlace mx j w = some z) : cI l yX4_markPlace wsX4_markPlace { frames := 0, cells := 0, slots := 0, locals := 0 } D g [.long mx, .int j, .int w] L f 0 0 (fun x L1 f1 => x = z ∧ L1 = L ∧ f1 = f) := by
  refine cI_of (cc := cX4_markPlace) (maxL := 8) (ret := (some .int)) (by decide) rfl (Nat.le_of_ble_eq_true rfl) ?_
  intro szz p e s m below meth c hx hb hr hml hts hown hlk hnm S ls hl
  have hl : lv_has ls 8 [(0, .long mx), (2, .int j), (3, .int w)] := hl
  unfold mX4_markPlace at hM
  refine W_gen (fun QQ hQQ => ?_)
  refine lv_lload_n hx hb dX4_markPlace_0 rfl (lv_at hl 0 rfl) ?_
  refine lv_ldc2 (v := (4294967295 : Int64)) hx hb hown (hts (.constantLong RX4 15 (4294967295)) (by decide +kernel)) dX4_markPlace_1 ?_
  refine lv_land hx hb dX4_markPlace_4 ?_
  refine lv_lstore (lv' := [(4, .long (mx &&& (4294967295 : Int64))), (0, .long mx), (2, .int j), (3, .int w)]) hx hb dX4_markPlace_5 hl (by decide) rfl (fun ls hl => ?_)
  refine lv_lload_n hx hb dX4_markPlace_7 rfl (lv_at hl 1 rfl) ?_
  refine lv_bipush (v := (32 : Int32)) hx hb dX4_markPlace_8 (by decide) ?_
  refine lv_lushr (v := (lush_ mx (32 : Int32))) hx hb dX4_markPlace_10 rfl ?_
  refine lv_lconst (v := (1 : Int64)) hx hb dX4_markPlace_11 (by decide) ?_
  refine lv_lor hx hb dX4_markPlace_12 ?_
  refine lv_lstore (lv' := [(6, .long ((lush_ mx (32 : Int32)) ||| (1 : Int64))), (4, .long (mx &&& (4294967295 : Int64))), (0, .long mx), (2, .int j), (3, .int w)]) hx hb dX4_markPlace_13 hl (by decide) rfl (fun ls hl => ?_)
  refine lv_lload hx hb dX4_markPlace_15 (lv_at hl 1 rfl) ?_
  refine lv_iload_n hx hb dX4_markPlace_17 rfl (lv_at hl 3 rfl) ?_
  refine lv_i2l (v := (Int32.toInt64 j)) hx hb dX4_markPlace_18 rfl ?_
  refine lv_lload hx hb dX4_markPlace_19 (lv_at hl 0 rfl) ?_
  refine lv_lmul hx hb dX4_markPlace_21 ?_
  refine lv_ladd hx hb dX4_markPlace_22 ?_
  refine lv_iload_n hx hb dX4_markPlace_23 rfl (lv_at hl 4 rfl) ?_
  refine lv_iconst (v := (1 : Int32)) hx hb dX4_markPlace_24 (by decide) ?_
  refine lv_isub hx hb dX4_markPlace_25 ?_
  refine lv_i2l (v := (Int32.toInt64 (w - (1 : Int32)))) hx hb dX4_markPlace_26 rfl ?_
  refine lv_land hx hb dX4_markPlace_27 ?_
  refine lv_l2i (v := (Int64.toInt32 (((mx &&& (4294967295 : Int64)) + ((Int32.toInt64 j) * ((lush_ mx (32 : Int32)) ||| (1 : Int64)))) &&& (Int32.toInt64 (w - (1 : Int32)))))) hx hb dX4_markPlace_28 rfl ?_
  subst hQQ
  exact q_reti (post := fun x L1 f1 => x = z ∧ L1 = L ∧ f1 = f) hx hb hr hlk S dX4_markPlace_29 (by decide) (by decide) (by have hz := Option.some.inj hM; subst hz; exact ⟨rfl, rfl, rfl⟩)

def mX4_nestTag (mx : Int64) : Option (Int32) := (mX4_rest (lush_ mx (56 : Int32)) (255 : Int32)).bind fun z8 => some ((1 : Int32) + z8)
set_option maxHeartbeats 4000000 in
set_option maxRecDepth 100000 in
theorem k_X4_nestTag (l : Launch) (D : va_G) (g : Nat → ClassId) {L : List Nat} {f : Nat → va_E} {mx : Int64} {z : Int32}     (hM : mX4_nestTag mx = some z) : cI l yX4_nestTag wsX4_nestTag { frames := 1, cells := 0, slots := 0, locals := 22 } D g [.long mx] L f 0 0 (fun x L1 f1 => x = z ∧ L1 = L ∧ f1 = f) := by
  refine cI_of (cc := cX4_nestTag) (maxL := 2) (ret := (some .int)) (by decide) rfl (Nat.le_of_ble_eq_true rfl) ?_
  intro szz p e s m below meth c hx hb hr hml hts hown hlk hnm S ls hl
  have hl : lv_has ls 2 [(0, .long mx)] := hl
  unfold mX4_nestTag at hM
  refine W_gen (fun QQ hQQ => ?_)
  refine lv_iconst (v := (1 : Int32)) hx hb dX4_nestTag_0 (by decide) ?_
  refine lv_lload_n hx hb dX4_nestTag_1 rfl (lv_at hl 0 rfl) ?_
  refine lv_bipush (v := (56 : Int32)) hx hb dX4_nestTag_2 (by decide) ?_
  refine lv_lushr (v := (lush_ mx (56 : Int32))) hx hb dX4_nestTag_4 rfl ?_
  refine lv_sipush (v := (255 : Int32)) hx hb dX4_nestTag_5 (by decide) ?_
  obtain ⟨z8, hz8, hM⟩ := bind_some hM
  refine q_si (As := [.long (lush_ mx (56 : Int32)), .int (255 : Int32)]) (rest := [.int (1 : Int32)]) ⟨hx, hb, hml, hown, hts⟩ (k_X4_rest l D g hz8) (va_cwS 2 hts gX4_nestTag_X4_rest rfl rfl rfl (by decide +kernel) ⟨Nat.le_of_ble_eq_true rfl, Nat.le_of_ble_eq_true rfl⟩) S rfl hl.1 rfl (Nat.le_of_ble_eq_true rfl) dX4_nestTag_8 ⟨Nat.le_of_ble_eq_true rfl, Nat.le_of_ble_eq_true rfl⟩ (fun r3 L1 f2 H locs S w8 => ?_)
  obtain ⟨ex8, eL, ef⟩ := w8
  rw [eL, ef] at S
  replace ex8 := ex8.symm
  subst ex8
  refine lv_iadd hx hb dX4_nestTag_11 ?_
  subst hQQ
  exact q_reti (post := fun x L1 f1 => x = z ∧ L1 = L ∧ f1 = f) hx hb hr hlk S dX4_nestTag_12 (by decide) (by decide) (by have hz := Option.some.inj hM; subst hz; exact ⟨rfl, rfl, rfl⟩)

def mX4_firstNest (mx : Int64) (w : Int32) : Option (Int32) := (mX4_rest (mx &&& (4294967295 : Int64)) w).bind fun z6 => some z6
set_option maxHeartbeats 4000000 in
set_option maxRecDepth 100000 in
theorem k_X4_firstNest (l : Launch) (D : va_G) (g : Nat → ClassId) {L : List Nat} {f : Nat → va_E} {mx : Int64} {w : Int32} {z : Int32}     (hM : mX4_firstNest mx w = some z) : cI l yX4_firstNest wsX4_firstNest { frames := 1, cells := 0, slots := 0, locals := 22 } D g [.long mx, .int w] L f 0 0 (fun x L1 f1 => x = z ∧ L1 = L ∧ f1 = f) := by
  refine cI_of (cc := cX4_firstNest) (maxL := 3) (ret := (some .int)) (by decide) rfl (Nat.le_of_ble_eq_true rfl) ?_
  intro szz p e s m below meth c hx hb hr hml hts hown hlk hnm S ls hl
  have hl : lv_has ls 3 [(0, .long mx), (2, .int w)] := hl
  unfold mX4_firstNest at hM
  refine W_gen (fun QQ hQQ => ?_)
  refine lv_lload_n hx hb dX4_firstNest_0 rfl (lv_at hl 0 rfl) ?_
  refine lv_ldc2 (v := (4294967295 : Int64)) hx hb hown (hts (.constantLong RX4 15 (4294967295)) (by decide +kernel)) dX4_firstNest_1 ?_
  refine lv_land hx hb dX4_firstNest_4 ?_
  refine lv_iload_n hx hb dX4_firstNest_5 rfl (lv_at hl 1 rfl) ?_
  obtain ⟨z6, hz6, hM⟩ := bind_some hM
  refine q_si (As := [.long (mx &&& (4294967295 : Int64)), .int w]) (rest := []) ⟨hx, hb, hml, hown, hts⟩ (k_X4_rest l D g hz6) (va_cwS 2 hts gX4_firstNest_X4_rest rfl rfl rfl (by decide +kernel) ⟨Nat.le_of_ble_eq_true rfl, Nat.le_of_ble_eq_true rfl⟩) S rfl hl.1 rfl (Nat.le_of_ble_eq_true rfl) dX4_firstNest_6 ⟨Nat.le_of_ble_eq_true rfl, Nat.le_of_ble_eq_true rfl⟩ (fun r3 L1 f2 H locs S w6 => ?_)
  obtain ⟨ex6, eL, ef⟩ := w6
  rw [eL, ef] at S
  replace ex6 := ex6.symm
  subst ex6
  subst hQQ
  exact q_reti (post := fun x L1 f1 => x = z ∧ L1 = L ∧ f1 = f) hx hb hr hlk S dX4_firstNest_9 (by decide) (by decide) (by have hz := Option.some.inj hM; subst hz; exact ⟨rfl, rfl, rfl⟩)

def mX4_otherNest (nt : Int32) (tg : Int32) (w : Int32) : Option (Int32) := (mX4_rest (lush_ ((Int32.toInt64 tg) * (2654435761 : Int64)) (8 : Int32)) w).bind fun z11 => some (nt ^^^ z11)
set_option maxHeartbeats 4000000 in
set_option maxRecDepth 100000 in
theorem k_X4_otherNest (l : Launch) (D : va_G) (g : Nat → ClassId) {L : List Nat} {f : Nat → va_E} {nt : Int32} {tg : Int32} {w : Int32} {z : Int32}     (hM : mX4_otherNest nt tg w = some z) : cI l yX4_otherNest wsX4_otherNest { frames := 1, cells := 0, slots := 0, locals := 22 } D g [.int nt, .int tg, .int w] L f 0 0 (fun x L1 f1 => x = z ∧ L1 = L ∧ f1 = f) := by
  refine cI_of (cc := cX4_otherNest) (maxL := 3) (ret := (some .int)) (by decide) rfl (Nat.le_of_ble_eq_true rfl) ?_
  intro szz p e s m below meth c hx hb hr hml hts hown hlk hnm S ls hl
  have hl : lv_has ls 3 [(0, .int nt), (1, .int tg), (2, .int w)] := hl
  unfold mX4_otherNest at hM
  refine W_gen (fun QQ hQQ => ?_)
  refine lv_iload_n hx hb dX4_otherNest_0 rfl (lv_at hl 0 rfl) ?_
  refine lv_iload_n hx hb dX4_otherNest_1 rfl (lv_at hl 1 rfl) ?_
  refine lv_i2l (v := (Int32.toInt64 tg)) hx hb dX4_otherNest_2 rfl ?_
  refine lv_ldc2 (v := (2654435761 : Int64)) hx hb hown (hts (.constantLong RX4 21 (2654435761)) (by decide +kernel)) dX4_otherNest_3 ?_
  refine lv_lmul hx hb dX4_otherNest_6 ?_
  refine lv_bipush (v := (8 : Int32)) hx hb dX4_otherNest_7 (by decide) ?_
  refine lv_lushr (v := (lush_ ((Int32.toInt64 tg) * (2654435761 : Int64)) (8 : Int32))) hx hb dX4_otherNest_9 rfl ?_
  refine lv_iload_n hx hb dX4_otherNest_10 rfl (lv_at hl 2 rfl) ?_
  obtain ⟨z11, hz11, hM⟩ := bind_some hM
  refine q_si (As := [.long (lush_ ((Int32.toInt64 tg) * (2654435761 : Int64)) (8 : Int32)), .int w]) (rest := [.int nt]) ⟨hx, hb, hml, hown, hts⟩ (k_X4_rest l D g hz11) (va_cwS 2 hts gX4_otherNest_X4_rest rfl rfl rfl (by decide +kernel) ⟨Nat.le_of_ble_eq_true rfl, Nat.le_of_ble_eq_true rfl⟩) S rfl hl.1 rfl (Nat.le_of_ble_eq_true rfl) dX4_otherNest_11 ⟨Nat.le_of_ble_eq_true rfl, Nat.le_of_ble_eq_true rfl⟩ (fun r3 L1 f2 H locs S w11 => ?_)
  obtain ⟨ex11, eL, ef⟩ := w11
  rw [eL, ef] at S
  replace ex11 := ex11.symm
  subst ex11
  refine lv_ixor hx hb dX4_otherNest_14 ?_
  subst hQQ
  exact q_reti (post := fun x L1 f1 => x = z ∧ L1 = L ∧ f1 = f) hx hb hr hlk S dX4_otherNest_15 (by decide) (by decide) (by have hz := Option.some.inj hM; subst hz; exact ⟨rfl, rfl, rfl⟩)

def mX4_solvedPlace (mx : Int64) (i : Int32) (w : Int32) : Option (Int32) := (mX4_rest ((lush_ mx ((20 : Int32) * i)) &&& (1048575 : Int64)) w).bind fun z14 => some ((i * w) + z14)
set_option maxHeartbeats 4000000 in
set_option maxRecDepth 100000 in
theorem k_X4_solvedPlace (l : Launch) (D : va_G) (g : Nat → ClassId) {L : List Nat} {f : Nat → va_E} {mx : Int64} {i : Int32} {w : Int32} {z : Int32}     (hM : mX4_solvedPlace mx i w = some z) : cI l yX4_solvedPlace wsX4_solvedPlace { frames := 1, cells := 0, slots := 0, locals := 22 } D g [.long mx, .int i, .int w] L f 0 0 (fun x L1 f1 => x = z ∧ L1 = L ∧ f1 = f) := by
  refine cI_of (cc := cX4_solvedPlace) (maxL := 4) (ret := (some .int)) (by decide) rfl (Nat.le_of_ble_eq_true rfl) ?_
  intro szz p e s m below meth c hx hb hr hml hts hown hlk hnm S ls hl
  have hl : lv_has ls 4 [(0, .long mx), (2, .int i), (3, .int w)] := hl
  unfold mX4_solvedPlace at hM
  refine W_gen (fun QQ hQQ => ?_)
  refine lv_iload_n hx hb dX4_solvedPlace_0 rfl (lv_at hl 1 rfl) ?_
  refine lv_iload_n hx hb dX4_solvedPlace_1 rfl (lv_at hl 2 rfl) ?_
  refine lv_imul hx hb dX4_solvedPlace_2 ?_
  refine lv_lload_n hx hb dX4_solvedPlace_3 rfl (lv_at hl 0 rfl) ?_
  refine lv_bipush (v := (20 : Int32)) hx hb dX4_solvedPlace_4 (by decide) ?_
  refine lv_iload_n hx hb dX4_solvedPlace_6 rfl (lv_at hl 1 rfl) ?_
  refine lv_imul hx hb dX4_solvedPlace_7 ?_
  refine lv_lushr (v := (lush_ mx ((20 : Int32) * i))) hx hb dX4_solvedPlace_8 rfl ?_
  refine lv_ldc2 (v := (1048575 : Int64)) hx hb hown (hts (.constantLong RX4 23 (1048575)) (by decide +kernel)) dX4_solvedPlace_9 ?_
  refine lv_land hx hb dX4_solvedPlace_12 ?_
  refine lv_iload_n hx hb dX4_solvedPlace_13 rfl (lv_at hl 2 rfl) ?_
  obtain ⟨z14, hz14, hM⟩ := bind_some hM
  refine q_si (As := [.long ((lush_ mx ((20 : Int32) * i)) &&& (1048575 : Int64)), .int w]) (rest := [.int (i * w)]) ⟨hx, hb, hml, hown, hts⟩ (k_X4_rest l D g hz14) (va_cwS 2 hts gX4_solvedPlace_X4_rest rfl rfl rfl (by decide +kernel) ⟨Nat.le_of_ble_eq_true rfl, Nat.le_of_ble_eq_true rfl⟩) S rfl hl.1 rfl (Nat.le_of_ble_eq_true rfl) dX4_solvedPlace_14 ⟨Nat.le_of_ble_eq_true rfl, Nat.le_of_ble_eq_true rfl⟩ (fun r3 L1 f2 H locs S w14 => ?_)
  obtain ⟨ex14, eL, ef⟩ := w14
  rw [eL, ef] at S
  replace ex14 := ex14.symm
  subst ex14
  refine lv_iadd hx hb dX4_solvedPlace_17 ?_
  subst hQQ
  exact q_reti (post := fun x L1 f1 => x = z ∧ L1 = L ∧ f1 = f) hx hb hr hlk S dX4_solvedPlace_18 (by decide) (by decide) (by have hz := Option.some.inj hM; subst hz; exact ⟨rfl, rfl, rfl⟩)

def mX4_solvedTag (mx : Int64) : Option (Int32) := some (Int64.toInt32 (((16 : Int64) * (lush_ mx (60 : Int32))) + (mx &&& (15 : Int64))))
set_option maxHeartbeats 4000000 in
set_option maxRecDepth 100000 in
theorem k_X4_solvedTag (l : Launch) (D : va_G) (g : Nat → ClassId) {L : List Nat} {f : Nat → va_E} {mx : Int64} {z : Int32}     (hM : mX4_solvedTag mx = some z) : cI l yX4_solvedTag wsX4_solvedTag { frames := 0, cells := 0, slots := 0, locals := 0 } D g [.long mx] L f 0 0 (fun x L1 f1 => x = z ∧ L1 = L ∧ f1 = f) := by
  refine cI_of (cc := cX4_solvedTag) (maxL := 2) (ret := (some .int)) (by decide) rfl (Nat.le_of_ble_eq_true rfl) ?_
  intro szz p e s m below meth c hx hb hr hml hts hown hlk hnm S ls hl
  have hl : lv_has ls 2 [(0, .long mx)] := hl
  unfold mX4_solvedTag at hM
  refine W_gen (fun QQ hQQ => ?_)
  refine lv_ldc2 (v := (16 : Int64)) hx hb hown (hts (.constantLong RX4 25 (16)) (by decide +kernel)) dX4_solvedTag_0 ?_
  refine lv_lload_n hx hb dX4_solvedTag_3 rfl (lv_at hl 0 rfl) ?_
  refine lv_bipush (v := (60 : Int32)) hx hb dX4_solvedTag_4 (by decide) ?_
  refine lv_lushr (v := (lush_ mx (60 : Int32))) hx hb dX4_solvedTag_6 rfl ?_
  refine lv_lmul hx hb dX4_solvedTag_7 ?_
  refine lv_lload_n hx hb dX4_solvedTag_8 rfl (lv_at hl 0 rfl) ?_
  refine lv_ldc2 (v := (15 : Int64)) hx hb hown (hts (.constantLong RX4 27 (15)) (by decide +kernel)) dX4_solvedTag_9 ?_
  refine lv_land hx hb dX4_solvedTag_12 ?_
  refine lv_ladd hx hb dX4_solvedTag_13 ?_
  refine lv_l2i (v := (Int64.toInt32 (((16 : Int64) * (lush_ mx (60 : Int32))) + (mx &&& (15 : Int64))))) hx hb dX4_solvedTag_14 rfl ?_
  subst hQQ
  exact q_reti (post := fun x L1 f1 => x = z ∧ L1 = L ∧ f1 = f) hx hb hr hlk S dX4_solvedTag_15 (by decide) (by decide) (by have hz := Option.some.inj hM; subst hz; exact ⟨rfl, rfl, rfl⟩)

def mJ7_fill_53178_L5 (n : Nat) (x : Int32) : Nat → Int32 → (Nat → Int32) → Option (Int32 × (Nat → Int32))
  | 0, _, _ => none
  | fu + 1, x2_5, ca_5 => if (nI n) ≤ x2_5 then (some (x2_5, ca_5)) else (if ix x2_5 n = true then (mJ7_fill_53178_L5 n x fu (x2_5 + 1) (upd ca_5 (Int32.toNatClampNeg x2_5) x)) else none)
def mJ7_fill_53178 (n : Nat) (v : Nat → Int32) (x : Int32) : Option ((Nat → Int32)) := (mJ7_fill_53178_L5 n x FU (0 : Int32) v).bind fun o5 => some o5.2
set_option maxHeartbeats 4000000 in
set_option maxRecDepth 100000 in
theorem k_J7_fill_53178 (l : Launch) (D : va_G) (g : Nat → ClassId) {L : List Nat} {f : Nat → va_E} {a : Nat} {n : Nat} {v : Nat → Int32} {x : Int32} {z : (Nat → Int32)} (m_a : a ∈ L) (e_a : f a = .inl (g 0, n, .inl v))    (hM : mJ7_fill_53178 n v x = some z) : cV l yJ7_fill_53178 wsJ7_fill_53178 { frames := 0, cells := 0, slots := 0, locals := 0 } D g [.ref a, .int x] L f 0 0 (fun L1 f1 => L1 = L ∧ (∀ b, b ∈ L → b ≠ a → f1 b = f b) ∧ f1 a = .inl (g 0, n, .inl z)) := by
  refine cV_of (cc := cJ7_fill_53178) (maxL := 4) (ret := none) (by decide) rfl (Nat.le_of_ble_eq_true rfl) ?_
  intro szz p e s m below meth c hx hb hr hml hts hown hlk hnm S ls hl
  have hl : lv_has ls 4 [(0, .ref a), (1, .int x)] := hl
  have fr : ∀ b, b ∈ L → b ≠ a → f b = f b := fun _ _ _ => rfl
  unfold mJ7_fill_53178 at hM
  refine W_gen (fun QQ hQQ => ?_)
  refine lv_iconst (v := (0 : Int32)) hx hb dJ7_fill_53178_0 (by decide) ?_
  refine lv_istore_n (lv' := [(2, .int (0 : Int32)), (0, .ref a), (1, .int x)]) hx hb dJ7_fill_53178_1 rfl hl (by decide) rfl (fun ls hl => ?_)
  refine lv_aload_n hx hb dJ7_fill_53178_2 rfl (lv_at hl 1 rfl) ?_
  refine q_alen hx hb S m_a 0 rfl e_a (v := (nI n)) rfl dJ7_fill_53178_3 ?_
  refine lv_istore_n (lv' := [(3, .int (nI n)), (2, .int (0 : Int32)), (0, .ref a), (1, .int x)]) hx hb dJ7_fill_53178_4 rfl hl (by decide) rfl (fun ls hl => ?_)
  obtain ⟨o5, ho5, hM⟩ := bind_some hM
  have EX5 : ∀ (fl5 : Nat → va_E) (H : Heap) (locs : List Loc) (ls : Array Slot), PS D g (va_A (va_pl L f) szz) s.heap s L fl5 H locs → fl5 a = .inl (g 0, n, .inl o5.2) → (∀ b, b ∈ L → b ≠ a → fl5 b = f b) → lv_has ls 4 [] → W p l e { frames := 0, cells := 0, slots := 0, locals := 0 } s m [.ref a, .int x].toArray below meth c H locs 0 0 QQ (F0 m 20 ls []) := by
    intro fl5 H locs ls S e_a fr hl
    subst hQQ
    exact q_retv (post := fun L1 f1 => L1 = L ∧ (∀ b, b ∈ L → b ≠ a → f1 b = f b) ∧ f1 a = .inl (g 0, n, .inl z)) hx hb hr hlk S dJ7_fill_53178_20 (by decide) (by decide) (by have hz := Option.some.inj hM; subst hz; exact ⟨rfl, fr, e_a⟩)
  have LP5 : ∀ (fu : Nat) (x2_5 : Int32) (ca_5 : Nat → Int32) (fl5 : Nat → va_E) (H : Heap) (locs : List Loc) (ls : Array Slot), (mJ7_fill_53178_L5 n x) fu x2_5 ca_5 = some o5 → PS D g (va_A (va_pl L f) szz) s.heap s L fl5 H locs → fl5 a = .inl (g 0, n, .inl ca_5) → (∀ b, b ∈ L → b ≠ a → fl5 b = f b) → lv_has ls 4 [(3, .int (nI n)), (2, .int x2_5), (0, .ref a), (1, .int x)] → W p l e { frames := 0, cells := 0, slots := 0, locals := 0 } s m [.ref a, .int x].toArray below meth c H locs 0 0 QQ (F0 m 5 ls []) := by
    intro fu
    induction fu with
    | zero => intro x2_5 ca_5 fl5 H locs ls ho5 S e_a fr hl; exact no_some ho5
    | succ fu ih5 =>
      intro x2_5 ca_5 fl5 H locs ls ho5 S e_a fr hl
      rw [mJ7_fill_53178_L5] at ho5
      refine lv_iload_n hx hb dJ7_fill_53178_5 rfl (lv_at hl 1 rfl) ?_
      refine lv_iload_n hx hb dJ7_fill_53178_6 rfl (lv_at hl 0 rfl) ?_
      refine lv_icmp_ge (tgt := 20) hx hb dJ7_fill_53178_7 (by decide) (fun b7 => ?_) (fun b7 => ?_)
      · have ho5 := itT b7 ho5
        obtain rfl := Option.some.inj ho5
        exact EX5 fl5 _ _ _ S e_a fr (lv_sub hl [] rfl)
      · have ho5 := itF b7 ho5
        refine lv_aload_n hx hb dJ7_fill_53178_10 rfl (lv_at hl 2 rfl) ?_
        refine lv_iload_n hx hb dJ7_fill_53178_11 rfl (lv_at hl 1 rfl) ?_
        refine lv_iload_n hx hb dJ7_fill_53178_12 rfl (lv_at hl 3 rfl) ?_
        obtain ⟨hi13, ho5⟩ := ckx ho5
        refine k_iast hx hb S m_a e_a hi13 dJ7_fill_53178_13 (fun f1 ef1 H locs S => ?_)
        have e_a := up_self ef1
        have fr : ∀ b, b ∈ L → b ≠ a → f1 b = f b := fun b mb nb0 => (up_ne ef1 nb0 rfl).trans (fr b mb nb0)
        refine lv_iinc (v := (x2_5 + 1)) (lv' := [(2, .int (x2_5 + 1)), (3, .int (nI n)), (0, .ref a), (1, .int x)]) hx hb dJ7_fill_53178_14 hl (k := 1) rfl rfl (by decide) rfl (fun ls hl => ?_)
        refine lv_goto (tgt := 5) hx hb dJ7_fill_53178_17 (by decide) ?_
        exact ih5 (x2_5 + 1) (upd ca_5 (Int32.toNatClampNeg x2_5) x) f1 _ _ _ ho5 S e_a fr (lv_sub hl [1, 0, 2, 3] rfl)
  exact LP5 FU (0 : Int32) v f _ _ _ ho5 S e_a fr (lv_sub hl [0, 1, 2, 3] rfl)

def mJ7_fill_d0a16_L6 (n : Nat) (x : Int64) : Nat → Int32 → (Nat → Int64) → Option (Int32 × (Nat → Int64))
  | 0, _, _ => none
  | fu + 1, x3_6, ca_6 => if (nI n) ≤ x3_6 then (some (x3_6, ca_6)) else (if ix x3_6 n = true then (mJ7_fill_d0a16_L6 n x fu (x3_6 + 1) (vp_updL ca_6 (Int32.toNatClampNeg x3_6) x)) else none)
def mJ7_fill_d0a16 (n : Nat) (v : Nat → Int64) (x : Int64) : Option ((Nat → Int64)) := (mJ7_fill_d0a16_L6 n x FU (0 : Int32) v).bind fun o6 => some o6.2
set_option maxHeartbeats 4000000 in
set_option maxRecDepth 100000 in
theorem k_J7_fill_d0a16 (l : Launch) (D : va_G) (g : Nat → ClassId) {L : List Nat} {f : Nat → va_E} {a : Nat} {n : Nat} {v : Nat → Int64} {x : Int64} {z : (Nat → Int64)} (m_a : a ∈ L) (e_a : f a = .inl (g 1, n, .inr (.inl v)))    (hM : mJ7_fill_d0a16 n v x = some z) : cV l yJ7_fill_d0a16 wsJ7_fill_d0a16 { frames := 0, cells := 0, slots := 0, locals := 0 } D g [.ref a, .long x] L f 0 0 (fun L1 f1 => L1 = L ∧ (∀ b, b ∈ L → b ≠ a → f1 b = f b) ∧ f1 a = .inl (g 1, n, .inr (.inl z))) := by
  refine cV_of (cc := cJ7_fill_d0a16) (maxL := 5) (ret := none) (by decide) rfl (Nat.le_of_ble_eq_true rfl) ?_
  intro szz p e s m below meth c hx hb hr hml hts hown hlk hnm S ls hl
  have hl : lv_has ls 5 [(0, .ref a), (1, .long x)] := hl
  have fr : ∀ b, b ∈ L → b ≠ a → f b = f b := fun _ _ _ => rfl
  unfold mJ7_fill_d0a16 at hM
  refine W_gen (fun QQ hQQ => ?_)
  refine lv_iconst (v := (0 : Int32)) hx hb dJ7_fill_d0a16_0 (by decide) ?_
  refine lv_istore_n (lv' := [(3, .int (0 : Int32)), (0, .ref a), (1, .long x)]) hx hb dJ7_fill_d0a16_1 rfl hl (by decide) rfl (fun ls hl => ?_)
  refine lv_aload_n hx hb dJ7_fill_d0a16_2 rfl (lv_at hl 1 rfl) ?_
  refine q_alen hx hb S m_a 1 rfl e_a (v := (nI n)) rfl dJ7_fill_d0a16_3 ?_
  refine lv_istore (lv' := [(4, .int (nI n)), (3, .int (0 : Int32)), (0, .ref a), (1, .long x)]) hx hb dJ7_fill_d0a16_4 hl (by decide) rfl (fun ls hl => ?_)
  obtain ⟨o6, ho6, hM⟩ := bind_some hM
  have EX6 : ∀ (fl6 : Nat → va_E) (H : Heap) (locs : List Loc) (ls : Array Slot), PS D g (va_A (va_pl L f) szz) s.heap s L fl6 H locs → fl6 a = .inl (g 1, n, .inr (.inl o6.2)) → (∀ b, b ∈ L → b ≠ a → fl6 b = f b) → lv_has ls 5 [] → W p l e { frames := 0, cells := 0, slots := 0, locals := 0 } s m [.ref a, .long x].toArray below meth c H locs 0 0 QQ (F0 m 22 ls []) := by
    intro fl6 H locs ls S e_a fr hl
    subst hQQ
    exact q_retv (post := fun L1 f1 => L1 = L ∧ (∀ b, b ∈ L → b ≠ a → f1 b = f b) ∧ f1 a = .inl (g 1, n, .inr (.inl z))) hx hb hr hlk S dJ7_fill_d0a16_22 (by decide) (by decide) (by have hz := Option.some.inj hM; subst hz; exact ⟨rfl, fr, e_a⟩)
  have LP6 : ∀ (fu : Nat) (x3_6 : Int32) (ca_6 : Nat → Int64) (fl6 : Nat → va_E) (H : Heap) (locs : List Loc) (ls : Array Slot), (mJ7_fill_d0a16_L6 n x) fu x3_6 ca_6 = some o6 → PS D g (va_A (va_pl L f) szz) s.heap s L fl6 H locs → fl6 a = .inl (g 1, n, .inr (.inl ca_6)) → (∀ b, b ∈ L → b ≠ a → fl6 b = f b) → lv_has ls 5 [(4, .int (nI n)), (3, .int x3_6), (0, .ref a), (1, .long x)] → W p l e { frames := 0, cells := 0, slots := 0, locals := 0 } s m [.ref a, .long x].toArray below meth c H locs 0 0 QQ (F0 m 6 ls []) := by
    intro fu
    induction fu with
    | zero => intro x3_6 ca_6 fl6 H locs ls ho6 S e_a fr hl; exact no_some ho6
    | succ fu ih6 =>
      intro x3_6 ca_6 fl6 H locs ls ho6 S e_a fr hl
      rw [mJ7_fill_d0a16_L6] at ho6
      refine lv_iload_n hx hb dJ7_fill_d0a16_6 rfl (lv_at hl 1 rfl) ?_
      refine lv_iload hx hb dJ7_fill_d0a16_7 (lv_at hl 0 rfl) ?_
      refine lv_icmp_ge (tgt := 22) hx hb dJ7_fill_d0a16_9 (by decide) (fun b9 => ?_) (fun b9 => ?_)
      · have ho6 := itT b9 ho6
        obtain rfl := Option.some.inj ho6
        exact EX6 fl6 _ _ _ S e_a fr (lv_sub hl [] rfl)
      · have ho6 := itF b9 ho6
        refine lv_aload_n hx hb dJ7_fill_d0a16_12 rfl (lv_at hl 2 rfl) ?_
        refine lv_iload_n hx hb dJ7_fill_d0a16_13 rfl (lv_at hl 1 rfl) ?_
        refine lv_lload_n hx hb dJ7_fill_d0a16_14 rfl (lv_at hl 3 rfl) ?_
        obtain ⟨hi15, ho6⟩ := ckx ho6
        refine k_last hx hb S m_a e_a hi15 dJ7_fill_d0a16_15 (fun f1 ef1 H locs S => ?_)
        have e_a := up_self ef1
        have fr : ∀ b, b ∈ L → b ≠ a → f1 b = f b := fun b mb nb0 => (up_ne ef1 nb0 rfl).trans (fr b mb nb0)
        refine lv_iinc (v := (x3_6 + 1)) (lv' := [(3, .int (x3_6 + 1)), (4, .int (nI n)), (0, .ref a), (1, .long x)]) hx hb dJ7_fill_d0a16_16 hl (k := 1) rfl rfl (by decide) rfl (fun ls hl => ?_)
        refine lv_goto (tgt := 6) hx hb dJ7_fill_d0a16_19 (by decide) ?_
        exact ih6 (x3_6 + 1) (vp_updL ca_6 (Int32.toNatClampNeg x3_6) x) f1 _ _ _ ho6 S e_a fr (lv_sub hl [1, 0, 2, 3] rfl)
  exact LP6 FU (0 : Int32) v f _ _ _ ho6 S e_a fr (lv_sub hl [0, 1, 2, 3] rfl)

def mJ13_bitCount_95d88 (x : Int64) : Option (Int32) := lt_ (x - ((lush_ x (1 : Int32)) &&& (6148914691236517205 : Int64))) fun y9 => lt_ ((y9 &&& (3689348814741910323 : Int64)) + ((lush_ y9 (2 : Int32)) &&& (3689348814741910323 : Int64))) fun y23 => lt_ ((y23 + (lush_ y23 (4 : Int32))) &&& (1085102592571150095 : Int64)) fun y33 => lt_ ((y33 + (lush_ y33 (8 : Int32))) + (lush_ (y33 + (lush_ y33 (8 : Int32))) (16 : Int32))) fun y47 => some ((Int64.toInt32 (y47 + (lush_ y47 (32 : Int32)))) &&& (127 : Int32))
set_option maxHeartbeats 4000000 in
set_option maxRecDepth 100000 in
theorem k_J13_bitCount_95d88 (l : Launch) (D : va_G) (g : Nat → ClassId) {L : List Nat} {f : Nat → va_E} {x : Int64} {z : Int32}     (hM : mJ13_bitCount_95d88 x = some z) : cI l yJ13_bitCount_95d88 wsJ13_bitCount_95d88 { frames := 0, cells := 0, slots := 0, locals := 0 } D g [.long x] L f 0 0 (fun x L1 f1 => x = z ∧ L1 = L ∧ f1 = f) := by
  refine cI_of (cc := cJ13_bitCount_95d88) (maxL := 2) (ret := (some .int)) (by decide) rfl (Nat.le_of_ble_eq_true rfl) ?_
  intro szz p e s m below meth c hx hb hr hml hts hown hlk hnm S ls hl
  have hl : lv_has ls 2 [(0, .long x)] := hl
  unfold mJ13_bitCount_95d88 at hM
  refine W_gen (fun QQ hQQ => ?_)
  refine lv_lload_n hx hb dJ13_bitCount_95d88_0 rfl (lv_at hl 0 rfl) ?_
  refine lv_lload_n hx hb dJ13_bitCount_95d88_1 rfl (lv_at hl 0 rfl) ?_
  refine lv_iconst (v := (1 : Int32)) hx hb dJ13_bitCount_95d88_2 (by decide) ?_
  refine lv_lushr (v := (lush_ x (1 : Int32))) hx hb dJ13_bitCount_95d88_3 rfl ?_
  refine lv_ldc2 (v := (6148914691236517205 : Int64)) hx hb hown (hts (.constantLong RJ13 314 (6148914691236517205)) (by decide +kernel)) dJ13_bitCount_95d88_4 ?_
  refine lv_land hx hb dJ13_bitCount_95d88_7 ?_
  refine lv_lsub hx hb dJ13_bitCount_95d88_8 ?_
  refine lv_topl (fun y9 ey9 => ?_)
  have hM := lt_some hM ey9
  refine lv_lstore_n (lv' := [(0, .long y9)]) hx hb dJ13_bitCount_95d88_9 rfl hl (by decide) rfl (fun ls hl => ?_)
  refine lv_lload_n hx hb dJ13_bitCount_95d88_10 rfl (lv_at hl 0 rfl) ?_
  refine lv_ldc2 (v := (3689348814741910323 : Int64)) hx hb hown (hts (.constantLong RJ13 316 (3689348814741910323)) (by decide +kernel)) dJ13_bitCount_95d88_11 ?_
  refine lv_land hx hb dJ13_bitCount_95d88_14 ?_
  refine lv_lload_n hx hb dJ13_bitCount_95d88_15 rfl (lv_at hl 0 rfl) ?_
  refine lv_iconst (v := (2 : Int32)) hx hb dJ13_bitCount_95d88_16 (by decide) ?_
  refine lv_lushr (v := (lush_ y9 (2 : Int32))) hx hb dJ13_bitCount_95d88_17 rfl ?_
  refine lv_ldc2 (v := (3689348814741910323 : Int64)) hx hb hown (hts (.constantLong RJ13 316 (3689348814741910323)) (by decide +kernel)) dJ13_bitCount_95d88_18 ?_
  refine lv_land hx hb dJ13_bitCount_95d88_21 ?_
  refine lv_ladd hx hb dJ13_bitCount_95d88_22 ?_
  refine lv_topl (fun y23 ey23 => ?_)
  have hM := lt_some hM ey23
  refine lv_lstore_n (lv' := [(0, .long y23)]) hx hb dJ13_bitCount_95d88_23 rfl hl (by decide) rfl (fun ls hl => ?_)
  refine lv_lload_n hx hb dJ13_bitCount_95d88_24 rfl (lv_at hl 0 rfl) ?_
  refine lv_lload_n hx hb dJ13_bitCount_95d88_25 rfl (lv_at hl 0 rfl) ?_
  refine lv_iconst (v := (4 : Int32)) hx hb dJ13_bitCount_95d88_26 (by decide) ?_
  refine lv_lushr (v := (lush_ y23 (4 : Int32))) hx hb dJ13_bitCount_95d88_27 rfl ?_
  refine lv_ladd hx hb dJ13_bitCount_95d88_28 ?_
  refine lv_ldc2 (v := (1085102592571150095 : Int64)) hx hb hown (hts (.constantLong RJ13 318 (1085102592571150095)) (by decide +kernel)) dJ13_bitCount_95d88_29 ?_
  refine lv_land hx hb dJ13_bitCount_95d88_32 ?_
  refine lv_topl (fun y33 ey33 => ?_)
  have hM := lt_some hM ey33
  refine lv_lstore_n (lv' := [(0, .long y33)]) hx hb dJ13_bitCount_95d88_33 rfl hl (by decide) rfl (fun ls hl => ?_)
  refine lv_lload_n hx hb dJ13_bitCount_95d88_34 rfl (lv_at hl 0 rfl) ?_
  refine lv_lload_n hx hb dJ13_bitCount_95d88_35 rfl (lv_at hl 0 rfl) ?_
  refine lv_bipush (v := (8 : Int32)) hx hb dJ13_bitCount_95d88_36 (by decide) ?_
  refine lv_lushr (v := (lush_ y33 (8 : Int32))) hx hb dJ13_bitCount_95d88_38 rfl ?_
  refine lv_ladd hx hb dJ13_bitCount_95d88_39 ?_
  refine lv_lstore_n (lv' := [(0, .long (y33 + (lush_ y33 (8 : Int32))))]) hx hb dJ13_bitCount_95d88_40 rfl hl (by decide) rfl (fun ls hl => ?_)
  refine lv_lload_n hx hb dJ13_bitCount_95d88_41 rfl (lv_at hl 0 rfl) ?_
  refine lv_lload_n hx hb dJ13_bitCount_95d88_42 rfl (lv_at hl 0 rfl) ?_
  refine lv_bipush (v := (16 : Int32)) hx hb dJ13_bitCount_95d88_43 (by decide) ?_
  refine lv_lushr (v := (lush_ (y33 + (lush_ y33 (8 : Int32))) (16 : Int32))) hx hb dJ13_bitCount_95d88_45 rfl ?_
  refine lv_ladd hx hb dJ13_bitCount_95d88_46 ?_
  refine lv_topl (fun y47 ey47 => ?_)
  have hM := lt_some hM ey47
  refine lv_lstore_n (lv' := [(0, .long y47)]) hx hb dJ13_bitCount_95d88_47 rfl hl (by decide) rfl (fun ls hl => ?_)
  refine lv_lload_n hx hb dJ13_bitCount_95d88_48 rfl (lv_at hl 0 rfl) ?_
  refine lv_lload_n hx hb dJ13_bitCount_95d88_49 rfl (lv_at hl 0 rfl) ?_
  refine lv_bipush (v := (32 : Int32)) hx hb dJ13_bitCount_95d88_50 (by decide) ?_
  refine lv_lushr (v := (lush_ y47 (32 : Int32))) hx hb dJ13_bitCount_95d88_52 rfl ?_
  refine lv_ladd hx hb dJ13_bitCount_95d88_53 ?_
  refine lv_lstore_n (lv' := [(0, .long (y47 + (lush_ y47 (32 : Int32))))]) hx hb dJ13_bitCount_95d88_54 rfl hl (by decide) rfl (fun ls hl => ?_)
  refine lv_lload_n hx hb dJ13_bitCount_95d88_55 rfl (lv_at hl 0 rfl) ?_
  refine lv_l2i (v := (Int64.toInt32 (y47 + (lush_ y47 (32 : Int32))))) hx hb dJ13_bitCount_95d88_56 rfl ?_
  refine lv_bipush (v := (127 : Int32)) hx hb dJ13_bitCount_95d88_57 (by decide) ?_
  refine lv_iand hx hb dJ13_bitCount_95d88_59 ?_
  subst hQQ
  exact q_reti (post := fun x L1 f1 => x = z ∧ L1 = L ∧ f1 = f) hx hb hr hlk S dJ13_bitCount_95d88_60 (by decide) (by decide) (by have hz := Option.some.inj hM; subst hz; exact ⟨rfl, rfl, rfl⟩)

def mJ6_numberOfTrailingZeros_0f7a4 (x : Int32) : Option (Int32) := if 0 < ((x ^^^ (-1 : Int32)) &&& (x - (1 : Int32))) then (if ((x ^^^ (-1 : Int32)) &&& (x - (1 : Int32))) ≤ (65536 : Int32) then (if ((x ^^^ (-1 : Int32)) &&& (x - (1 : Int32))) ≤ (256 : Int32) then (if ((x ^^^ (-1 : Int32)) &&& (x - (1 : Int32))) ≤ (16 : Int32) then (if ((x ^^^ (-1 : Int32)) &&& (x - (1 : Int32))) ≤ (4 : Int32) then (some ((1 : Int32) + (iush_ ((x ^^^ (-1 : Int32)) &&& (x - (1 : Int32))) (1 : Int32)))) else (lt_ (iush_ ((x ^^^ (-1 : Int32)) &&& (x - (1 : Int32))) (2 : Int32)) fun y73 => some (((1 : Int32) + 2) + (iush_ y73 (1 : Int32))))) else (lt_ (iush_ ((x ^^^ (-1 : Int32)) &&& (x - (1 : Int32))) (4 : Int32)) fun y61 => if y61 ≤ (4 : Int32) then (some (((1 : Int32) + 4) + (iush_ y61 (1 : Int32)))) else (some ((((1 : Int32) + 4) + 2) + (iush_ (iush_ y61 (2 : Int32)) (1 : Int32)))))) else (lt_ (iush_ ((x ^^^ (-1 : Int32)) &&& (x - (1 : Int32))) (8 : Int32)) fun y48 => if y48 ≤ (16 : Int32) then (if y48 ≤ (4 : Int32) then (some (((1 : Int32) + 8) + (iush_ y48 (1 : Int32)))) else (some ((((1 : Int32) + 8) + 2) + (iush_ (iush_ y48 (2 : Int32)) (1 : Int32))))) else (if (iush_ y48 (4 : Int32)) ≤ (4 : Int32) then (some ((((1 : Int32) + 8) + 4) + (iush_ (iush_ y48 (4 : Int32)) (1 : Int32)))) else (some (((((1 : Int32) + 8) + 4) + 2) + (iush_ (iush_ (iush_ y48 (4 : Int32)) (2 : Int32)) (1 : Int32))))))) else (lt_ (iush_ ((x ^^^ (-1 : Int32)) &&& (x - (1 : Int32))) (16 : Int32)) fun y33 => if y33 ≤ (256 : Int32) then (if y33 ≤ (16 : Int32) then (if y33 ≤ (4 : Int32) then (some (((1 : Int32) + 16) + (iush_ y33 (1 : Int32)))) else (some ((((1 : Int32) + 16) + 2) + (iush_ (iush_ y33 (2 : Int32)) (1 : Int32))))) else (if (iush_ y33 (4 : Int32)) ≤ (4 : Int32) then (some ((((1 : Int32) + 16) + 4) + (iush_ (iush_ y33 (4 : Int32)) (1 : Int32)))) else (some (((((1 : Int32) + 16) + 4) + 2) + (iush_ (iush_ (iush_ y33 (4 : Int32)) (2 : Int32)) (1 : Int32)))))) else (if (iush_ y33 (8 : Int32)) ≤ (16 : Int32) then (if (iush_ y33 (8 : Int32)) ≤ (4 : Int32) then (some ((((1 : Int32) + 16) + 8) + (iush_ (iush_ y33 (8 : Int32)) (1 : Int32)))) else (some (((((1 : Int32) + 16) + 8) + 2) + (iush_ (iush_ (iush_ y33 (8 : Int32)) (2 : Int32)) (1 : Int32))))) else (if (iush_ (iush_ y33 (8 : Int32)) (4 : Int32)) ≤ (4 : Int32) then (some (((((1 : Int32) + 16) + 8) + 4) + (iush_ (iush_ (iush_ y33 (8 : Int32)) (4 : Int32)) (1 : Int32)))) else (lt_ (iush_ (iush_ (iush_ y33 (8 : Int32)) (4 : Int32)) (2 : Int32)) fun y73 => some ((((((1 : Int32) + 16) + 8) + 4) + 2) + (iush_ y73 (1 : Int32)))))))) else (some (((x ^^^ (-1 : Int32)) &&& (x - (1 : Int32))) &&& (32 : Int32)))
set_option maxHeartbeats 4000000 in
set_option maxRecDepth 100000 in
theorem k_J6_numberOfTrailingZeros_0f7a4 (l : Launch) (D : va_G) (g : Nat → ClassId) {L : List Nat} {f : Nat → va_E} {x : Int32} {z : Int32}     (hM : mJ6_numberOfTrailingZeros_0f7a4 x = some z) : cI l yJ6_numberOfTrailingZeros_0f7a4 wsJ6_numberOfTrailingZeros_0f7a4 { frames := 0, cells := 0, slots := 0, locals := 0 } D g [.int x] L f 0 0 (fun x L1 f1 => x = z ∧ L1 = L ∧ f1 = f) := by
  refine cI_of (cc := cJ6_numberOfTrailingZeros_0f7a4) (maxL := 2) (ret := (some .int)) (by decide) rfl (Nat.le_of_ble_eq_true rfl) ?_
  intro szz p e s m below meth c hx hb hr hml hts hown hlk hnm S ls hl
  have hl : lv_has ls 2 [(0, .int x)] := hl
  unfold mJ6_numberOfTrailingZeros_0f7a4 at hM
  refine W_gen (fun QQ hQQ => ?_)
  refine lv_iload_n hx hb dJ6_numberOfTrailingZeros_0f7a4_0 rfl (lv_at hl 0 rfl) ?_
  refine lv_iconst (v := (-1 : Int32)) hx hb dJ6_numberOfTrailingZeros_0f7a4_1 (by decide) ?_
  refine lv_ixor hx hb dJ6_numberOfTrailingZeros_0f7a4_2 ?_
  refine lv_iload_n hx hb dJ6_numberOfTrailingZeros_0f7a4_3 rfl (lv_at hl 0 rfl) ?_
  refine lv_iconst (v := (1 : Int32)) hx hb dJ6_numberOfTrailingZeros_0f7a4_4 (by decide) ?_
  refine lv_isub hx hb dJ6_numberOfTrailingZeros_0f7a4_5 ?_
  refine lv_iand hx hb dJ6_numberOfTrailingZeros_0f7a4_6 ?_
  refine lv_istore_n (lv' := [(0, .int ((x ^^^ (-1 : Int32)) &&& (x - (1 : Int32))))]) hx hb dJ6_numberOfTrailingZeros_0f7a4_7 rfl hl (by decide) rfl (fun ls hl => ?_)
  refine lv_iload_n hx hb dJ6_numberOfTrailingZeros_0f7a4_8 rfl (lv_at hl 0 rfl) ?_
  refine lv_if_gt (tgt := 17) hx hb dJ6_numberOfTrailingZeros_0f7a4_9 (by decide) (fun b9 => ?_) (fun b9 => ?_)
  · have hM := itT b9 hM
    refine lv_iconst (v := (1 : Int32)) hx hb dJ6_numberOfTrailingZeros_0f7a4_17 (by decide) ?_
    refine lv_istore_n (lv' := [(1, .int (1 : Int32)), (0, .int ((x ^^^ (-1 : Int32)) &&& (x - (1 : Int32))))]) hx hb dJ6_numberOfTrailingZeros_0f7a4_18 rfl hl (by decide) rfl (fun ls hl => ?_)
    refine lv_iload_n hx hb dJ6_numberOfTrailingZeros_0f7a4_19 rfl (lv_at hl 1 rfl) ?_
    refine lv_ldcw (v := (65536 : Int32)) hx hb hown (hts (.constant RJ6 264 65536) (by decide +kernel)) dJ6_numberOfTrailingZeros_0f7a4_20 ?_
    refine lv_icmp_le (tgt := 34) hx hb dJ6_numberOfTrailingZeros_0f7a4_23 (by decide) (fun b23 => ?_) (fun b23 => ?_)
    · have hM := itT b23 hM
      refine lv_iload_n hx hb dJ6_numberOfTrailingZeros_0f7a4_34 rfl (lv_at hl 1 rfl) ?_
      refine lv_sipush (v := (256 : Int32)) hx hb dJ6_numberOfTrailingZeros_0f7a4_35 (by decide) ?_
      refine lv_icmp_le (tgt := 49) hx hb dJ6_numberOfTrailingZeros_0f7a4_38 (by decide) (fun b38 => ?_) (fun b38 => ?_)
      · have hM := itT b38 hM
        refine lv_iload_n hx hb dJ6_numberOfTrailingZeros_0f7a4_49 rfl (lv_at hl 1 rfl) ?_
        refine lv_bipush (v := (16 : Int32)) hx hb dJ6_numberOfTrailingZeros_0f7a4_50 (by decide) ?_
        refine lv_icmp_le (tgt := 62) hx hb dJ6_numberOfTrailingZeros_0f7a4_52 (by decide) (fun b52 => ?_) (fun b52 => ?_)
        · have hM := itT b52 hM
          refine lv_iload_n hx hb dJ6_numberOfTrailingZeros_0f7a4_62 rfl (lv_at hl 1 rfl) ?_
          refine lv_iconst (v := (4 : Int32)) hx hb dJ6_numberOfTrailingZeros_0f7a4_63 (by decide) ?_
          refine lv_icmp_le (tgt := 74) hx hb dJ6_numberOfTrailingZeros_0f7a4_64 (by decide) (fun b64 => ?_) (fun b64 => ?_)
          · have hM := itT b64 hM
            refine lv_iload_n hx hb dJ6_numberOfTrailingZeros_0f7a4_74 rfl (lv_at hl 0 rfl) ?_
            refine lv_iload_n hx hb dJ6_numberOfTrailingZeros_0f7a4_75 rfl (lv_at hl 1 rfl) ?_
            refine lv_iconst (v := (1 : Int32)) hx hb dJ6_numberOfTrailingZeros_0f7a4_76 (by decide) ?_
            refine lv_iushr (v := (iush_ ((x ^^^ (-1 : Int32)) &&& (x - (1 : Int32))) (1 : Int32))) hx hb dJ6_numberOfTrailingZeros_0f7a4_77 rfl ?_
            refine lv_iadd hx hb dJ6_numberOfTrailingZeros_0f7a4_78 ?_
            subst hQQ
            exact q_reti (post := fun x L1 f1 => x = z ∧ L1 = L ∧ f1 = f) hx hb hr hlk S dJ6_numberOfTrailingZeros_0f7a4_79 (by decide) (by decide) (by have hz := Option.some.inj hM; subst hz; exact ⟨rfl, rfl, rfl⟩)
          · have hM := itF b64 hM
            refine lv_iinc (v := ((1 : Int32) + 2)) (lv' := [(1, .int ((1 : Int32) + 2)), (0, .int ((x ^^^ (-1 : Int32)) &&& (x - (1 : Int32))))]) hx hb dJ6_numberOfTrailingZeros_0f7a4_67 hl (k := 0) rfl rfl (by decide) rfl (fun ls hl => ?_)
            refine lv_iload_n hx hb dJ6_numberOfTrailingZeros_0f7a4_70 rfl (lv_at hl 1 rfl) ?_
            refine lv_iconst (v := (2 : Int32)) hx hb dJ6_numberOfTrailingZeros_0f7a4_71 (by decide) ?_
            refine lv_iushr (v := (iush_ ((x ^^^ (-1 : Int32)) &&& (x - (1 : Int32))) (2 : Int32))) hx hb dJ6_numberOfTrailingZeros_0f7a4_72 rfl ?_
            refine lv_topi (fun y73 ey73 => ?_)
            have hM := lt_some hM ey73
            refine lv_istore_n (lv' := [(0, .int y73), (1, .int ((1 : Int32) + 2))]) hx hb dJ6_numberOfTrailingZeros_0f7a4_73 rfl hl (by decide) rfl (fun ls hl => ?_)
            refine lv_iload_n hx hb dJ6_numberOfTrailingZeros_0f7a4_74 rfl (lv_at hl 1 rfl) ?_
            refine lv_iload_n hx hb dJ6_numberOfTrailingZeros_0f7a4_75 rfl (lv_at hl 0 rfl) ?_
            refine lv_iconst (v := (1 : Int32)) hx hb dJ6_numberOfTrailingZeros_0f7a4_76 (by decide) ?_
            refine lv_iushr (v := (iush_ y73 (1 : Int32))) hx hb dJ6_numberOfTrailingZeros_0f7a4_77 rfl ?_
            refine lv_iadd hx hb dJ6_numberOfTrailingZeros_0f7a4_78 ?_
            subst hQQ
            exact q_reti (post := fun x L1 f1 => x = z ∧ L1 = L ∧ f1 = f) hx hb hr hlk S dJ6_numberOfTrailingZeros_0f7a4_79 (by decide) (by decide) (by have hz := Option.some.inj hM; subst hz; exact ⟨rfl, rfl, rfl⟩)
        · have hM := itF b52 hM
          refine lv_iinc (v := ((1 : Int32) + 4)) (lv' := [(1, .int ((1 : Int32) + 4)), (0, .int ((x ^^^ (-1 : Int32)) &&& (x - (1 : Int32))))]) hx hb dJ6_numberOfTrailingZeros_0f7a4_55 hl (k := 0) rfl rfl (by decide) rfl (fun ls hl => ?_)
          refine lv_iload_n hx hb dJ6_numberOfTrailingZeros_0f7a4_58 rfl (lv_at hl 1 rfl) ?_
          refine lv_iconst (v := (4 : Int32)) hx hb dJ6_numberOfTrailingZeros_0f7a4_59 (by decide) ?_
          refine lv_iushr (v := (iush_ ((x ^^^ (-1 : Int32)) &&& (x - (1 : Int32))) (4 : Int32))) hx hb dJ6_numberOfTrailingZeros_0f7a4_60 rfl ?_
          refine lv_topi (fun y61 ey61 => ?_)
          have hM := lt_some hM ey61
          refine lv_istore_n (lv' := [(0, .int y61), (1, .int ((1 : Int32) + 4))]) hx hb dJ6_numberOfTrailingZeros_0f7a4_61 rfl hl (by decide) rfl (fun ls hl => ?_)
          refine lv_iload_n hx hb dJ6_numberOfTrailingZeros_0f7a4_62 rfl (lv_at hl 0 rfl) ?_
          refine lv_iconst (v := (4 : Int32)) hx hb dJ6_numberOfTrailingZeros_0f7a4_63 (by decide) ?_
          refine lv_icmp_le (tgt := 74) hx hb dJ6_numberOfTrailingZeros_0f7a4_64 (by decide) (fun b64 => ?_) (fun b64 => ?_)
          · have hM := itT b64 hM
            refine lv_iload_n hx hb dJ6_numberOfTrailingZeros_0f7a4_74 rfl (lv_at hl 1 rfl) ?_
            refine lv_iload_n hx hb dJ6_numberOfTrailingZeros_0f7a4_75 rfl (lv_at hl 0 rfl) ?_
            refine lv_iconst (v := (1 : Int32)) hx hb dJ6_numberOfTrailingZeros_0f7a4_76 (by decide) ?_
            refine lv_iushr (v := (iush_ y61 (1 : Int32))) hx hb dJ6_numberOfTrailingZeros_0f7a4_77 rfl ?_
            refine lv_iadd hx hb dJ6_numberOfTrailingZeros_0f7a4_78 ?_
            subst hQQ
            exact q_reti (post := fun x L1 f1 => x = z ∧ L1 = L ∧ f1 = f) hx hb hr hlk S dJ6_numberOfTrailingZeros_0f7a4_79 (by decide) (by decide) (by have hz := Option.some.inj hM; subst hz; exact ⟨rfl, rfl, rfl⟩)
          · have hM := itF b64 hM
            refine lv_iinc (v := (((1 : Int32) + 4) + 2)) (lv' := [(1, .int (((1 : Int32) + 4) + 2)), (0, .int y61)]) hx hb dJ6_numberOfTrailingZeros_0f7a4_67 hl (k := 1) rfl rfl (by decide) rfl (fun ls hl => ?_)
            refine lv_iload_n hx hb dJ6_numberOfTrailingZeros_0f7a4_70 rfl (lv_at hl 1 rfl) ?_
            refine lv_iconst (v := (2 : Int32)) hx hb dJ6_numberOfTrailingZeros_0f7a4_71 (by decide) ?_
            refine lv_iushr (v := (iush_ y61 (2 : Int32))) hx hb dJ6_numberOfTrailingZeros_0f7a4_72 rfl ?_
            refine lv_istore_n (lv' := [(0, .int (iush_ y61 (2 : Int32))), (1, .int (((1 : Int32) + 4) + 2))]) hx hb dJ6_numberOfTrailingZeros_0f7a4_73 rfl hl (by decide) rfl (fun ls hl => ?_)
            refine lv_iload_n hx hb dJ6_numberOfTrailingZeros_0f7a4_74 rfl (lv_at hl 1 rfl) ?_
            refine lv_iload_n hx hb dJ6_numberOfTrailingZeros_0f7a4_75 rfl (lv_at hl 0 rfl) ?_
            refine lv_iconst (v := (1 : Int32)) hx hb dJ6_numberOfTrailingZeros_0f7a4_76 (by decide) ?_
            refine lv_iushr (v := (iush_ (iush_ y61 (2 : Int32)) (1 : Int32))) hx hb dJ6_numberOfTrailingZeros_0f7a4_77 rfl ?_
            refine lv_iadd hx hb dJ6_numberOfTrailingZeros_0f7a4_78 ?_
            subst hQQ
            exact q_reti (post := fun x L1 f1 => x = z ∧ L1 = L ∧ f1 = f) hx hb hr hlk S dJ6_numberOfTrailingZeros_0f7a4_79 (by decide) (by decide) (by have hz := Option.some.inj hM; subst hz; exact ⟨rfl, rfl, rfl⟩)
      · have hM := itF b38 hM
        refine lv_iinc (v := ((1 : Int32) + 8)) (lv' := [(1, .int ((1 : Int32) + 8)), (0, .int ((x ^^^ (-1 : Int32)) &&& (x - (1 : Int32))))]) hx hb dJ6_numberOfTrailingZeros_0f7a4_41 hl (k := 0) rfl rfl (by decide) rfl (fun ls hl => ?_)
        refine lv_iload_n hx hb dJ6_numberOfTrailingZeros_0f7a4_44 rfl (lv_at hl 1 rfl) ?_
        refine lv_bipush (v := (8 : Int32)) hx hb dJ6_numberOfTrailingZeros_0f7a4_45 (by decide) ?_
        refine lv_iushr (v := (iush_ ((x ^^^ (-1 : Int32)) &&& (x - (1 : Int32))) (8 : Int32))) hx hb dJ6_numberOfTrailingZeros_0f7a4_47 rfl ?_
        refine lv_topi (fun y48 ey48 => ?_)
        have hM := lt_some hM ey48
        refine lv_istore_n (lv' := [(0, .int y48), (1, .int ((1 : Int32) + 8))]) hx hb dJ6_numberOfTrailingZeros_0f7a4_48 rfl hl (by decide) rfl (fun ls hl => ?_)
        refine lv_iload_n hx hb dJ6_numberOfTrailingZeros_0f7a4_49 rfl (lv_at hl 0 rfl) ?_
        refine lv_bipush (v := (16 : Int32)) hx hb dJ6_numberOfTrailingZeros_0f7a4_50 (by decide) ?_
        refine lv_icmp_le (tgt := 62) hx hb dJ6_numberOfTrailingZeros_0f7a4_52 (by decide) (fun b52 => ?_) (fun b52 => ?_)
        · have hM := itT b52 hM
          refine lv_iload_n hx hb dJ6_numberOfTrailingZeros_0f7a4_62 rfl (lv_at hl 0 rfl) ?_
          refine lv_iconst (v := (4 : Int32)) hx hb dJ6_numberOfTrailingZeros_0f7a4_63 (by decide) ?_
          refine lv_icmp_le (tgt := 74) hx hb dJ6_numberOfTrailingZeros_0f7a4_64 (by decide) (fun b64 => ?_) (fun b64 => ?_)
          · have hM := itT b64 hM
            refine lv_iload_n hx hb dJ6_numberOfTrailingZeros_0f7a4_74 rfl (lv_at hl 1 rfl) ?_
            refine lv_iload_n hx hb dJ6_numberOfTrailingZeros_0f7a4_75 rfl (lv_at hl 0 rfl) ?_
            refine lv_iconst (v := (1 : Int32)) hx hb dJ6_numberOfTrailingZeros_0f7a4_76 (by decide) ?_
            refine lv_iushr (v := (iush_ y48 (1 : Int32))) hx hb dJ6_numberOfTrailingZeros_0f7a4_77 rfl ?_
            refine lv_iadd hx hb dJ6_numberOfTrailingZeros_0f7a4_78 ?_
            subst hQQ
            exact q_reti (post := fun x L1 f1 => x = z ∧ L1 = L ∧ f1 = f) hx hb hr hlk S dJ6_numberOfTrailingZeros_0f7a4_79 (by decide) (by decide) (by have hz := Option.some.inj hM; subst hz; exact ⟨rfl, rfl, rfl⟩)
          · have hM := itF b64 hM
            refine lv_iinc (v := (((1 : Int32) + 8) + 2)) (lv' := [(1, .int (((1 : Int32) + 8) + 2)), (0, .int y48)]) hx hb dJ6_numberOfTrailingZeros_0f7a4_67 hl (k := 1) rfl rfl (by decide) rfl (fun ls hl => ?_)
            refine lv_iload_n hx hb dJ6_numberOfTrailingZeros_0f7a4_70 rfl (lv_at hl 1 rfl) ?_
            refine lv_iconst (v := (2 : Int32)) hx hb dJ6_numberOfTrailingZeros_0f7a4_71 (by decide) ?_
            refine lv_iushr (v := (iush_ y48 (2 : Int32))) hx hb dJ6_numberOfTrailingZeros_0f7a4_72 rfl ?_
            refine lv_istore_n (lv' := [(0, .int (iush_ y48 (2 : Int32))), (1, .int (((1 : Int32) + 8) + 2))]) hx hb dJ6_numberOfTrailingZeros_0f7a4_73 rfl hl (by decide) rfl (fun ls hl => ?_)
            refine lv_iload_n hx hb dJ6_numberOfTrailingZeros_0f7a4_74 rfl (lv_at hl 1 rfl) ?_
            refine lv_iload_n hx hb dJ6_numberOfTrailingZeros_0f7a4_75 rfl (lv_at hl 0 rfl) ?_
            refine lv_iconst (v := (1 : Int32)) hx hb dJ6_numberOfTrailingZeros_0f7a4_76 (by decide) ?_
            refine lv_iushr (v := (iush_ (iush_ y48 (2 : Int32)) (1 : Int32))) hx hb dJ6_numberOfTrailingZeros_0f7a4_77 rfl ?_
            refine lv_iadd hx hb dJ6_numberOfTrailingZeros_0f7a4_78 ?_
            subst hQQ
            exact q_reti (post := fun x L1 f1 => x = z ∧ L1 = L ∧ f1 = f) hx hb hr hlk S dJ6_numberOfTrailingZeros_0f7a4_79 (by decide) (by decide) (by have hz := Option.some.inj hM; subst hz; exact ⟨rfl, rfl, rfl⟩)
        · have hM := itF b52 hM
          refine lv_iinc (v := (((1 : Int32) + 8) + 4)) (lv' := [(1, .int (((1 : Int32) + 8) + 4)), (0, .int y48)]) hx hb dJ6_numberOfTrailingZeros_0f7a4_55 hl (k := 1) rfl rfl (by decide) rfl (fun ls hl => ?_)
          refine lv_iload_n hx hb dJ6_numberOfTrailingZeros_0f7a4_58 rfl (lv_at hl 1 rfl) ?_
          refine lv_iconst (v := (4 : Int32)) hx hb dJ6_numberOfTrailingZeros_0f7a4_59 (by decide) ?_
          refine lv_iushr (v := (iush_ y48 (4 : Int32))) hx hb dJ6_numberOfTrailingZeros_0f7a4_60 rfl ?_
          refine lv_istore_n (lv' := [(0, .int (iush_ y48 (4 : Int32))), (1, .int (((1 : Int32) + 8) + 4))]) hx hb dJ6_numberOfTrailingZeros_0f7a4_61 rfl hl (by decide) rfl (fun ls hl => ?_)
          refine lv_iload_n hx hb dJ6_numberOfTrailingZeros_0f7a4_62 rfl (lv_at hl 0 rfl) ?_
          refine lv_iconst (v := (4 : Int32)) hx hb dJ6_numberOfTrailingZeros_0f7a4_63 (by decide) ?_
          refine lv_icmp_le (tgt := 74) hx hb dJ6_numberOfTrailingZeros_0f7a4_64 (by decide) (fun b64 => ?_) (fun b64 => ?_)
          · have hM := itT b64 hM
            refine lv_iload_n hx hb dJ6_numberOfTrailingZeros_0f7a4_74 rfl (lv_at hl 1 rfl) ?_
            refine lv_iload_n hx hb dJ6_numberOfTrailingZeros_0f7a4_75 rfl (lv_at hl 0 rfl) ?_
            refine lv_iconst (v := (1 : Int32)) hx hb dJ6_numberOfTrailingZeros_0f7a4_76 (by decide) ?_
            refine lv_iushr (v := (iush_ (iush_ y48 (4 : Int32)) (1 : Int32))) hx hb dJ6_numberOfTrailingZeros_0f7a4_77 rfl ?_
            refine lv_iadd hx hb dJ6_numberOfTrailingZeros_0f7a4_78 ?_
            subst hQQ
            exact q_reti (post := fun x L1 f1 => x = z ∧ L1 = L ∧ f1 = f) hx hb hr hlk S dJ6_numberOfTrailingZeros_0f7a4_79 (by decide) (by decide) (by have hz := Option.some.inj hM; subst hz; exact ⟨rfl, rfl, rfl⟩)
          · have hM := itF b64 hM
            refine lv_iinc (v := ((((1 : Int32) + 8) + 4) + 2)) (lv' := [(1, .int ((((1 : Int32) + 8) + 4) + 2)), (0, .int (iush_ y48 (4 : Int32)))]) hx hb dJ6_numberOfTrailingZeros_0f7a4_67 hl (k := 1) rfl rfl (by decide) rfl (fun ls hl => ?_)
            refine lv_iload_n hx hb dJ6_numberOfTrailingZeros_0f7a4_70 rfl (lv_at hl 1 rfl) ?_
            refine lv_iconst (v := (2 : Int32)) hx hb dJ6_numberOfTrailingZeros_0f7a4_71 (by decide) ?_
            refine lv_iushr (v := (iush_ (iush_ y48 (4 : Int32)) (2 : Int32))) hx hb dJ6_numberOfTrailingZeros_0f7a4_72 rfl ?_
            refine lv_istore_n (lv' := [(0, .int (iush_ (iush_ y48 (4 : Int32)) (2 : Int32))), (1, .int ((((1 : Int32) + 8) + 4) + 2))]) hx hb dJ6_numberOfTrailingZeros_0f7a4_73 rfl hl (by decide) rfl (fun ls hl => ?_)
            refine lv_iload_n hx hb dJ6_numberOfTrailingZeros_0f7a4_74 rfl (lv_at hl 1 rfl) ?_
            refine lv_iload_n hx hb dJ6_numberOfTrailingZeros_0f7a4_75 rfl (lv_at hl 0 rfl) ?_
            refine lv_iconst (v := (1 : Int32)) hx hb dJ6_numberOfTrailingZeros_0f7a4_76 (by decide) ?_
            refine lv_iushr (v := (iush_ (iush_ (iush_ y48 (4 : Int32)) (2 : Int32)) (1 : Int32))) hx hb dJ6_numberOfTrailingZeros_0f7a4_77 rfl ?_
            refine lv_iadd hx hb dJ6_numberOfTrailingZeros_0f7a4_78 ?_
            subst hQQ
            exact q_reti (post := fun x L1 f1 => x = z ∧ L1 = L ∧ f1 = f) hx hb hr hlk S dJ6_numberOfTrailingZeros_0f7a4_79 (by decide) (by decide) (by have hz := Option.some.inj hM; subst hz; exact ⟨rfl, rfl, rfl⟩)
    · have hM := itF b23 hM
      refine lv_iinc (v := ((1 : Int32) + 16)) (lv' := [(1, .int ((1 : Int32) + 16)), (0, .int ((x ^^^ (-1 : Int32)) &&& (x - (1 : Int32))))]) hx hb dJ6_numberOfTrailingZeros_0f7a4_26 hl (k := 0) rfl rfl (by decide) rfl (fun ls hl => ?_)
      refine lv_iload_n hx hb dJ6_numberOfTrailingZeros_0f7a4_29 rfl (lv_at hl 1 rfl) ?_
      refine lv_bipush (v := (16 : Int32)) hx hb dJ6_numberOfTrailingZeros_0f7a4_30 (by decide) ?_
      refine lv_iushr (v := (iush_ ((x ^^^ (-1 : Int32)) &&& (x - (1 : Int32))) (16 : Int32))) hx hb dJ6_numberOfTrailingZeros_0f7a4_32 rfl ?_
      refine lv_topi (fun y33 ey33 => ?_)
      have hM := lt_some hM ey33
      refine lv_istore_n (lv' := [(0, .int y33), (1, .int ((1 : Int32) + 16))]) hx hb dJ6_numberOfTrailingZeros_0f7a4_33 rfl hl (by decide) rfl (fun ls hl => ?_)
      refine lv_iload_n hx hb dJ6_numberOfTrailingZeros_0f7a4_34 rfl (lv_at hl 0 rfl) ?_
      refine lv_sipush (v := (256 : Int32)) hx hb dJ6_numberOfTrailingZeros_0f7a4_35 (by decide) ?_
      refine lv_icmp_le (tgt := 49) hx hb dJ6_numberOfTrailingZeros_0f7a4_38 (by decide) (fun b38 => ?_) (fun b38 => ?_)
      · have hM := itT b38 hM
        refine lv_iload_n hx hb dJ6_numberOfTrailingZeros_0f7a4_49 rfl (lv_at hl 0 rfl) ?_
        refine lv_bipush (v := (16 : Int32)) hx hb dJ6_numberOfTrailingZeros_0f7a4_50 (by decide) ?_
        refine lv_icmp_le (tgt := 62) hx hb dJ6_numberOfTrailingZeros_0f7a4_52 (by decide) (fun b52 => ?_) (fun b52 => ?_)
        · have hM := itT b52 hM
          refine lv_iload_n hx hb dJ6_numberOfTrailingZeros_0f7a4_62 rfl (lv_at hl 0 rfl) ?_
          refine lv_iconst (v := (4 : Int32)) hx hb dJ6_numberOfTrailingZeros_0f7a4_63 (by decide) ?_
          refine lv_icmp_le (tgt := 74) hx hb dJ6_numberOfTrailingZeros_0f7a4_64 (by decide) (fun b64 => ?_) (fun b64 => ?_)
          · have hM := itT b64 hM
            refine lv_iload_n hx hb dJ6_numberOfTrailingZeros_0f7a4_74 rfl (lv_at hl 1 rfl) ?_
            refine lv_iload_n hx hb dJ6_numberOfTrailingZeros_0f7a4_75 rfl (lv_at hl 0 rfl) ?_
            refine lv_iconst (v := (1 : Int32)) hx hb dJ6_numberOfTrailingZeros_0f7a4_76 (by decide) ?_
            refine lv_iushr (v := (iush_ y33 (1 : Int32))) hx hb dJ6_numberOfTrailingZeros_0f7a4_77 rfl ?_
            refine lv_iadd hx hb dJ6_numberOfTrailingZeros_0f7a4_78 ?_
            subst hQQ
            exact q_reti (post := fun x L1 f1 => x = z ∧ L1 = L ∧ f1 = f) hx hb hr hlk S dJ6_numberOfTrailingZeros_0f7a4_79 (by decide) (by decide) (by have hz := Option.some.inj hM; subst hz; exact ⟨rfl, rfl, rfl⟩)
          · have hM := itF b64 hM
            refine lv_iinc (v := (((1 : Int32) + 16) + 2)) (lv' := [(1, .int (((1 : Int32) + 16) + 2)), (0, .int y33)]) hx hb dJ6_numberOfTrailingZeros_0f7a4_67 hl (k := 1) rfl rfl (by decide) rfl (fun ls hl => ?_)
            refine lv_iload_n hx hb dJ6_numberOfTrailingZeros_0f7a4_70 rfl (lv_at hl 1 rfl) ?_
            refine lv_iconst (v := (2 : Int32)) hx hb dJ6_numberOfTrailingZeros_0f7a4_71 (by decide) ?_
            refine lv_iushr (v := (iush_ y33 (2 : Int32))) hx hb dJ6_numberOfTrailingZeros_0f7a4_72 rfl ?_
            refine lv_istore_n (lv' := [(0, .int (iush_ y33 (2 : Int32))), (1, .int (((1 : Int32) + 16) + 2))]) hx hb dJ6_numberOfTrailingZeros_0f7a4_73 rfl hl (by decide) rfl (fun ls hl => ?_)
            refine lv_iload_n hx hb dJ6_numberOfTrailingZeros_0f7a4_74 rfl (lv_at hl 1 rfl) ?_
            refine lv_iload_n hx hb dJ6_numberOfTrailingZeros_0f7a4_75 rfl (lv_at hl 0 rfl) ?_
            refine lv_iconst (v := (1 : Int32)) hx hb dJ6_numberOfTrailingZeros_0f7a4_76 (by decide) ?_
            refine lv_iushr (v := (iush_ (iush_ y33 (2 : Int32)) (1 : Int32))) hx hb dJ6_numberOfTrailingZeros_0f7a4_77 rfl ?_
            refine lv_iadd hx hb dJ6_numberOfTrailingZeros_0f7a4_78 ?_
            subst hQQ
            exact q_reti (post := fun x L1 f1 => x = z ∧ L1 = L ∧ f1 = f) hx hb hr hlk S dJ6_numberOfTrailingZeros_0f7a4_79 (by decide) (by decide) (by have hz := Option.some.inj hM; subst hz; exact ⟨rfl, rfl, rfl⟩)
        · have hM := itF b52 hM
          refine lv_iinc (v := (((1 : Int32) + 16) + 4)) (lv' := [(1, .int (((1 : Int32) + 16) + 4)), (0, .int y33)]) hx hb dJ6_numberOfTrailingZeros_0f7a4_55 hl (k := 1) rfl rfl (by decide) rfl (fun ls hl => ?_)
          refine lv_iload_n hx hb dJ6_numberOfTrailingZeros_0f7a4_58 rfl (lv_at hl 1 rfl) ?_
          refine lv_iconst (v := (4 : Int32)) hx hb dJ6_numberOfTrailingZeros_0f7a4_59 (by decide) ?_
          refine lv_iushr (v := (iush_ y33 (4 : Int32))) hx hb dJ6_numberOfTrailingZeros_0f7a4_60 rfl ?_
          refine lv_istore_n (lv' := [(0, .int (iush_ y33 (4 : Int32))), (1, .int (((1 : Int32) + 16) + 4))]) hx hb dJ6_numberOfTrailingZeros_0f7a4_61 rfl hl (by decide) rfl (fun ls hl => ?_)
          refine lv_iload_n hx hb dJ6_numberOfTrailingZeros_0f7a4_62 rfl (lv_at hl 0 rfl) ?_
          refine lv_iconst (v := (4 : Int32)) hx hb dJ6_numberOfTrailingZeros_0f7a4_63 (by decide) ?_
          refine lv_icmp_le (tgt := 74) hx hb dJ6_numberOfTrailingZeros_0f7a4_64 (by decide) (fun b64 => ?_) (fun b64 => ?_)
          · have hM := itT b64 hM
            refine lv_iload_n hx hb dJ6_numberOfTrailingZeros_0f7a4_74 rfl (lv_at hl 1 rfl) ?_
            refine lv_iload_n hx hb dJ6_numberOfTrailingZeros_0f7a4_75 rfl (lv_at hl 0 rfl) ?_
            refine lv_iconst (v := (1 : Int32)) hx hb dJ6_numberOfTrailingZeros_0f7a4_76 (by decide) ?_
            refine lv_iushr (v := (iush_ (iush_ y33 (4 : Int32)) (1 : Int32))) hx hb dJ6_numberOfTrailingZeros_0f7a4_77 rfl ?_
            refine lv_iadd hx hb dJ6_numberOfTrailingZeros_0f7a4_78 ?_
            subst hQQ
            exact q_reti (post := fun x L1 f1 => x = z ∧ L1 = L ∧ f1 = f) hx hb hr hlk S dJ6_numberOfTrailingZeros_0f7a4_79 (by decide) (by decide) (by have hz := Option.some.inj hM; subst hz; exact ⟨rfl, rfl, rfl⟩)
          · have hM := itF b64 hM
            refine lv_iinc (v := ((((1 : Int32) + 16) + 4) + 2)) (lv' := [(1, .int ((((1 : Int32) + 16) + 4) + 2)), (0, .int (iush_ y33 (4 : Int32)))]) hx hb dJ6_numberOfTrailingZeros_0f7a4_67 hl (k := 1) rfl rfl (by decide) rfl (fun ls hl => ?_)
            refine lv_iload_n hx hb dJ6_numberOfTrailingZeros_0f7a4_70 rfl (lv_at hl 1 rfl) ?_
            refine lv_iconst (v := (2 : Int32)) hx hb dJ6_numberOfTrailingZeros_0f7a4_71 (by decide) ?_
            refine lv_iushr (v := (iush_ (iush_ y33 (4 : Int32)) (2 : Int32))) hx hb dJ6_numberOfTrailingZeros_0f7a4_72 rfl ?_
            refine lv_istore_n (lv' := [(0, .int (iush_ (iush_ y33 (4 : Int32)) (2 : Int32))), (1, .int ((((1 : Int32) + 16) + 4) + 2))]) hx hb dJ6_numberOfTrailingZeros_0f7a4_73 rfl hl (by decide) rfl (fun ls hl => ?_)
            refine lv_iload_n hx hb dJ6_numberOfTrailingZeros_0f7a4_74 rfl (lv_at hl 1 rfl) ?_
            refine lv_iload_n hx hb dJ6_numberOfTrailingZeros_0f7a4_75 rfl (lv_at hl 0 rfl) ?_
            refine lv_iconst (v := (1 : Int32)) hx hb dJ6_numberOfTrailingZeros_0f7a4_76 (by decide) ?_
            refine lv_iushr (v := (iush_ (iush_ (iush_ y33 (4 : Int32)) (2 : Int32)) (1 : Int32))) hx hb dJ6_numberOfTrailingZeros_0f7a4_77 rfl ?_
            refine lv_iadd hx hb dJ6_numberOfTrailingZeros_0f7a4_78 ?_
            subst hQQ
            exact q_reti (post := fun x L1 f1 => x = z ∧ L1 = L ∧ f1 = f) hx hb hr hlk S dJ6_numberOfTrailingZeros_0f7a4_79 (by decide) (by decide) (by have hz := Option.some.inj hM; subst hz; exact ⟨rfl, rfl, rfl⟩)
      · have hM := itF b38 hM
        refine lv_iinc (v := (((1 : Int32) + 16) + 8)) (lv' := [(1, .int (((1 : Int32) + 16) + 8)), (0, .int y33)]) hx hb dJ6_numberOfTrailingZeros_0f7a4_41 hl (k := 1) rfl rfl (by decide) rfl (fun ls hl => ?_)
        refine lv_iload_n hx hb dJ6_numberOfTrailingZeros_0f7a4_44 rfl (lv_at hl 1 rfl) ?_
        refine lv_bipush (v := (8 : Int32)) hx hb dJ6_numberOfTrailingZeros_0f7a4_45 (by decide) ?_
        refine lv_iushr (v := (iush_ y33 (8 : Int32))) hx hb dJ6_numberOfTrailingZeros_0f7a4_47 rfl ?_
        refine lv_istore_n (lv' := [(0, .int (iush_ y33 (8 : Int32))), (1, .int (((1 : Int32) + 16) + 8))]) hx hb dJ6_numberOfTrailingZeros_0f7a4_48 rfl hl (by decide) rfl (fun ls hl => ?_)
        refine lv_iload_n hx hb dJ6_numberOfTrailingZeros_0f7a4_49 rfl (lv_at hl 0 rfl) ?_
        refine lv_bipush (v := (16 : Int32)) hx hb dJ6_numberOfTrailingZeros_0f7a4_50 (by decide) ?_
        refine lv_icmp_le (tgt := 62) hx hb dJ6_numberOfTrailingZeros_0f7a4_52 (by decide) (fun b52 => ?_) (fun b52 => ?_)
        · have hM := itT b52 hM
          refine lv_iload_n hx hb dJ6_numberOfTrailingZeros_0f7a4_62 rfl (lv_at hl 0 rfl) ?_
          refine lv_iconst (v := (4 : Int32)) hx hb dJ6_numberOfTrailingZeros_0f7a4_63 (by decide) ?_
          refine lv_icmp_le (tgt := 74) hx hb dJ6_numberOfTrailingZeros_0f7a4_64 (by decide) (fun b64 => ?_) (fun b64 => ?_)
          · have hM := itT b64 hM
            refine lv_iload_n hx hb dJ6_numberOfTrailingZeros_0f7a4_74 rfl (lv_at hl 1 rfl) ?_
            refine lv_iload_n hx hb dJ6_numberOfTrailingZeros_0f7a4_75 rfl (lv_at hl 0 rfl) ?_
            refine lv_iconst (v := (1 : Int32)) hx hb dJ6_numberOfTrailingZeros_0f7a4_76 (by decide) ?_
            refine lv_iushr (v := (iush_ (iush_ y33 (8 : Int32)) (1 : Int32))) hx hb dJ6_numberOfTrailingZeros_0f7a4_77 rfl ?_
            refine lv_iadd hx hb dJ6_numberOfTrailingZeros_0f7a4_78 ?_
            subst hQQ
            exact q_reti (post := fun x L1 f1 => x = z ∧ L1 = L ∧ f1 = f) hx hb hr hlk S dJ6_numberOfTrailingZeros_0f7a4_79 (by decide) (by decide) (by have hz := Option.some.inj hM; subst hz; exact ⟨rfl, rfl, rfl⟩)
          · have hM := itF b64 hM
            refine lv_iinc (v := ((((1 : Int32) + 16) + 8) + 2)) (lv' := [(1, .int ((((1 : Int32) + 16) + 8) + 2)), (0, .int (iush_ y33 (8 : Int32)))]) hx hb dJ6_numberOfTrailingZeros_0f7a4_67 hl (k := 1) rfl rfl (by decide) rfl (fun ls hl => ?_)
            refine lv_iload_n hx hb dJ6_numberOfTrailingZeros_0f7a4_70 rfl (lv_at hl 1 rfl) ?_
            refine lv_iconst (v := (2 : Int32)) hx hb dJ6_numberOfTrailingZeros_0f7a4_71 (by decide) ?_
            refine lv_iushr (v := (iush_ (iush_ y33 (8 : Int32)) (2 : Int32))) hx hb dJ6_numberOfTrailingZeros_0f7a4_72 rfl ?_
            refine lv_istore_n (lv' := [(0, .int (iush_ (iush_ y33 (8 : Int32)) (2 : Int32))), (1, .int ((((1 : Int32) + 16) + 8) + 2))]) hx hb dJ6_numberOfTrailingZeros_0f7a4_73 rfl hl (by decide) rfl (fun ls hl => ?_)
            refine lv_iload_n hx hb dJ6_numberOfTrailingZeros_0f7a4_74 rfl (lv_at hl 1 rfl) ?_
            refine lv_iload_n hx hb dJ6_numberOfTrailingZeros_0f7a4_75 rfl (lv_at hl 0 rfl) ?_
            refine lv_iconst (v := (1 : Int32)) hx hb dJ6_numberOfTrailingZeros_0f7a4_76 (by decide) ?_
            refine lv_iushr (v := (iush_ (iush_ (iush_ y33 (8 : Int32)) (2 : Int32)) (1 : Int32))) hx hb dJ6_numberOfTrailingZeros_0f7a4_77 rfl ?_
            refine lv_iadd hx hb dJ6_numberOfTrailingZeros_0f7a4_78 ?_
            subst hQQ
            exact q_reti (post := fun x L1 f1 => x = z ∧ L1 = L ∧ f1 = f) hx hb hr hlk S dJ6_numberOfTrailingZeros_0f7a4_79 (by decide) (by decide) (by have hz := Option.some.inj hM; subst hz; exact ⟨rfl, rfl, rfl⟩)
        · have hM := itF b52 hM
          refine lv_iinc (v := ((((1 : Int32) + 16) + 8) + 4)) (lv' := [(1, .int ((((1 : Int32) + 16) + 8) + 4)), (0, .int (iush_ y33 (8 : Int32)))]) hx hb dJ6_numberOfTrailingZeros_0f7a4_55 hl (k := 1) rfl rfl (by decide) rfl (fun ls hl => ?_)
          refine lv_iload_n hx hb dJ6_numberOfTrailingZeros_0f7a4_58 rfl (lv_at hl 1 rfl) ?_
          refine lv_iconst (v := (4 : Int32)) hx hb dJ6_numberOfTrailingZeros_0f7a4_59 (by decide) ?_
          refine lv_iushr (v := (iush_ (iush_ y33 (8 : Int32)) (4 : Int32))) hx hb dJ6_numberOfTrailingZeros_0f7a4_60 rfl ?_
          refine lv_istore_n (lv' := [(0, .int (iush_ (iush_ y33 (8 : Int32)) (4 : Int32))), (1, .int ((((1 : Int32) + 16) + 8) + 4))]) hx hb dJ6_numberOfTrailingZeros_0f7a4_61 rfl hl (by decide) rfl (fun ls hl => ?_)
          refine lv_iload_n hx hb dJ6_numberOfTrailingZeros_0f7a4_62 rfl (lv_at hl 0 rfl) ?_
          refine lv_iconst (v := (4 : Int32)) hx hb dJ6_numberOfTrailingZeros_0f7a4_63 (by decide) ?_
          refine lv_icmp_le (tgt := 74) hx hb dJ6_numberOfTrailingZeros_0f7a4_64 (by decide) (fun b64 => ?_) (fun b64 => ?_)
          · have hM := itT b64 hM
            refine lv_iload_n hx hb dJ6_numberOfTrailingZeros_0f7a4_74 rfl (lv_at hl 1 rfl) ?_
            refine lv_iload_n hx hb dJ6_numberOfTrailingZeros_0f7a4_75 rfl (lv_at hl 0 rfl) ?_
            refine lv_iconst (v := (1 : Int32)) hx hb dJ6_numberOfTrailingZeros_0f7a4_76 (by decide) ?_
            refine lv_iushr (v := (iush_ (iush_ (iush_ y33 (8 : Int32)) (4 : Int32)) (1 : Int32))) hx hb dJ6_numberOfTrailingZeros_0f7a4_77 rfl ?_
            refine lv_iadd hx hb dJ6_numberOfTrailingZeros_0f7a4_78 ?_
            subst hQQ
            exact q_reti (post := fun x L1 f1 => x = z ∧ L1 = L ∧ f1 = f) hx hb hr hlk S dJ6_numberOfTrailingZeros_0f7a4_79 (by decide) (by decide) (by have hz := Option.some.inj hM; subst hz; exact ⟨rfl, rfl, rfl⟩)
          · have hM := itF b64 hM
            refine lv_iinc (v := (((((1 : Int32) + 16) + 8) + 4) + 2)) (lv' := [(1, .int (((((1 : Int32) + 16) + 8) + 4) + 2)), (0, .int (iush_ (iush_ y33 (8 : Int32)) (4 : Int32)))]) hx hb dJ6_numberOfTrailingZeros_0f7a4_67 hl (k := 1) rfl rfl (by decide) rfl (fun ls hl => ?_)
            refine lv_iload_n hx hb dJ6_numberOfTrailingZeros_0f7a4_70 rfl (lv_at hl 1 rfl) ?_
            refine lv_iconst (v := (2 : Int32)) hx hb dJ6_numberOfTrailingZeros_0f7a4_71 (by decide) ?_
            refine lv_iushr (v := (iush_ (iush_ (iush_ y33 (8 : Int32)) (4 : Int32)) (2 : Int32))) hx hb dJ6_numberOfTrailingZeros_0f7a4_72 rfl ?_
            refine lv_topi (fun y73 ey73 => ?_)
            have hM := lt_some hM ey73
            refine lv_istore_n (lv' := [(0, .int y73), (1, .int (((((1 : Int32) + 16) + 8) + 4) + 2))]) hx hb dJ6_numberOfTrailingZeros_0f7a4_73 rfl hl (by decide) rfl (fun ls hl => ?_)
            refine lv_iload_n hx hb dJ6_numberOfTrailingZeros_0f7a4_74 rfl (lv_at hl 1 rfl) ?_
            refine lv_iload_n hx hb dJ6_numberOfTrailingZeros_0f7a4_75 rfl (lv_at hl 0 rfl) ?_
            refine lv_iconst (v := (1 : Int32)) hx hb dJ6_numberOfTrailingZeros_0f7a4_76 (by decide) ?_
            refine lv_iushr (v := (iush_ y73 (1 : Int32))) hx hb dJ6_numberOfTrailingZeros_0f7a4_77 rfl ?_
            refine lv_iadd hx hb dJ6_numberOfTrailingZeros_0f7a4_78 ?_
            subst hQQ
            exact q_reti (post := fun x L1 f1 => x = z ∧ L1 = L ∧ f1 = f) hx hb hr hlk S dJ6_numberOfTrailingZeros_0f7a4_79 (by decide) (by decide) (by have hz := Option.some.inj hM; subst hz; exact ⟨rfl, rfl, rfl⟩)
  · have hM := itF b9 hM
    refine lv_iload_n hx hb dJ6_numberOfTrailingZeros_0f7a4_12 rfl (lv_at hl 0 rfl) ?_
    refine lv_bipush (v := (32 : Int32)) hx hb dJ6_numberOfTrailingZeros_0f7a4_13 (by decide) ?_
    refine lv_iand hx hb dJ6_numberOfTrailingZeros_0f7a4_15 ?_
    subst hQQ
    exact q_reti (post := fun x L1 f1 => x = z ∧ L1 = L ∧ f1 = f) hx hb hr hlk S dJ6_numberOfTrailingZeros_0f7a4_16 (by decide) (by decide) (by have hz := Option.some.inj hM; subst hz; exact ⟨rfl, rfl, rfl⟩)

def mJ13_numberOfTrailingZeros_95d88 (x : Int64) : Option (Int32) := if (Int64.toInt32 x) = 0 then ((mJ6_numberOfTrailingZeros_0f7a4 (Int64.toInt32 (lush_ x (32 : Int32)))).bind fun z14 => some ((32 : Int32) + z14)) else ((mJ6_numberOfTrailingZeros_0f7a4 (Int64.toInt32 x)).bind fun z22 => some z22)
set_option maxHeartbeats 4000000 in
set_option maxRecDepth 100000 in
theorem k_J13_numberOfTrailingZeros_95d88 (l : Launch) (D : va_G) (g : Nat → ClassId) {L : List Nat} {f : Nat → va_E} {x : Int64} {z : Int32}     (hM : mJ13_numberOfTrailingZeros_95d88 x = some z) : cI l yJ13_numberOfTrailingZeros_95d88 wsJ13_numberOfTrailingZeros_95d88 { frames := 1, cells := 0, slots := 0, locals := 21 } D g [.long x] L f 0 0 (fun x L1 f1 => x = z ∧ L1 = L ∧ f1 = f) := by
  refine cI_of (cc := cJ13_numberOfTrailingZeros_95d88) (maxL := 3) (ret := (some .int)) (by decide) rfl (Nat.le_of_ble_eq_true rfl) ?_
  intro szz p e s m below meth c hx hb hr hml hts hown hlk hnm S ls hl
  have hl : lv_has ls 3 [(0, .long x)] := hl
  unfold mJ13_numberOfTrailingZeros_95d88 at hM
  refine W_gen (fun QQ hQQ => ?_)
  refine lv_lload_n hx hb dJ13_numberOfTrailingZeros_95d88_0 rfl (lv_at hl 0 rfl) ?_
  refine lv_l2i (v := (Int64.toInt32 x)) hx hb dJ13_numberOfTrailingZeros_95d88_1 rfl ?_
  refine lv_istore_n (lv' := [(2, .int (Int64.toInt32 x)), (0, .long x)]) hx hb dJ13_numberOfTrailingZeros_95d88_2 rfl hl (by decide) rfl (fun ls hl => ?_)
  refine lv_iload_n hx hb dJ13_numberOfTrailingZeros_95d88_3 rfl (lv_at hl 0 rfl) ?_
  refine lv_if_ne (tgt := 21) hx hb dJ13_numberOfTrailingZeros_95d88_4 (by decide) (fun b4 => ?_) (fun b4 => ?_)
  · have hM := itF b4 hM
    refine lv_iload_n hx hb dJ13_numberOfTrailingZeros_95d88_21 rfl (lv_at hl 0 rfl) ?_
    obtain ⟨z22, hz22, hM⟩ := bind_some hM
    refine q_si (As := [.int (Int64.toInt32 x)]) (rest := []) ⟨hx, hb, hml, hown, hts⟩ (k_J6_numberOfTrailingZeros_0f7a4 l D g hz22) (va_cwS 1 hts gJ13_numberOfTrailingZeros_95d88_J6_numberOfTrailingZeros_0f7a4 rfl rfl rfl (by decide +kernel) ⟨Nat.le_of_ble_eq_true rfl, Nat.le_of_ble_eq_true rfl⟩) S rfl hl.1 rfl (Nat.le_of_ble_eq_true rfl) dJ13_numberOfTrailingZeros_95d88_22 ⟨Nat.le_of_ble_eq_true rfl, Nat.le_of_ble_eq_true rfl⟩ (fun r3 L1 f2 H locs S w22 => ?_)
    obtain ⟨ex22, eL, ef⟩ := w22
    rw [eL, ef] at S
    replace ex22 := ex22.symm
    subst ex22
    subst hQQ
    exact q_reti (post := fun x L1 f1 => x = z ∧ L1 = L ∧ f1 = f) hx hb hr hlk S dJ13_numberOfTrailingZeros_95d88_25 (by decide) (by decide) (by have hz := Option.some.inj hM; subst hz; exact ⟨rfl, rfl, rfl⟩)
  · have hM := itT b4 hM
    refine lv_bipush (v := (32 : Int32)) hx hb dJ13_numberOfTrailingZeros_95d88_7 (by decide) ?_
    refine lv_lload_n hx hb dJ13_numberOfTrailingZeros_95d88_9 rfl (lv_at hl 1 rfl) ?_
    refine lv_bipush (v := (32 : Int32)) hx hb dJ13_numberOfTrailingZeros_95d88_10 (by decide) ?_
    refine lv_lushr (v := (lush_ x (32 : Int32))) hx hb dJ13_numberOfTrailingZeros_95d88_12 rfl ?_
    refine lv_l2i (v := (Int64.toInt32 (lush_ x (32 : Int32)))) hx hb dJ13_numberOfTrailingZeros_95d88_13 rfl ?_
    obtain ⟨z14, hz14, hM⟩ := bind_some hM
    refine q_si (As := [.int (Int64.toInt32 (lush_ x (32 : Int32)))]) (rest := [.int (32 : Int32)]) ⟨hx, hb, hml, hown, hts⟩ (k_J6_numberOfTrailingZeros_0f7a4 l D g hz14) (va_cwS 1 hts gJ13_numberOfTrailingZeros_95d88_J6_numberOfTrailingZeros_0f7a4 rfl rfl rfl (by decide +kernel) ⟨Nat.le_of_ble_eq_true rfl, Nat.le_of_ble_eq_true rfl⟩) S rfl hl.1 rfl (Nat.le_of_ble_eq_true rfl) dJ13_numberOfTrailingZeros_95d88_14 ⟨Nat.le_of_ble_eq_true rfl, Nat.le_of_ble_eq_true rfl⟩ (fun r6 L4 f5 H locs S w14 => ?_)
    obtain ⟨ex14, eL, ef⟩ := w14
    rw [eL, ef] at S
    replace ex14 := ex14.symm
    subst ex14
    refine lv_iadd hx hb dJ13_numberOfTrailingZeros_95d88_17 ?_
    refine lv_goto (tgt := 25) hx hb dJ13_numberOfTrailingZeros_95d88_18 (by decide) ?_
    subst hQQ
    exact q_reti (post := fun x L1 f1 => x = z ∧ L1 = L ∧ f1 = f) hx hb hr hlk S dJ13_numberOfTrailingZeros_95d88_25 (by decide) (by decide) (by have hz := Option.some.inj hM; subst hz; exact ⟨rfl, rfl, rfl⟩)
