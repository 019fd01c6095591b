def mX9_mix (t : Int64) (sd : Int32) : Option (Int64) := lt_ (t + ((Int32.toInt64 sd) * (-7046029254386353131 : Int64))) fun y8 => lt_ ((y8 ^^^ (lush_ y8 (30 : Int32))) * (-4658895280553007687 : Int64)) fun y19 => lt_ ((y19 ^^^ (lush_ y19 (27 : Int32))) * (-7723592293110705685 : Int64)) fun y30 => some (y30 ^^^ (lush_ y30 (31 : Int32)))
set_option maxHeartbeats 4000000 in
set_option maxRecDepth 100000 in
theorem k_X9_mix (l : Launch) (D : va_G) (g : Nat → ClassId) {L : List Nat} {f : Nat → va_E} {t : Int64} {sd : Int32} {z : Int64}     (hM : mX9_mix t sd = some z) : cL l yX9_mix wsX9_mix { frames := 0, cells := 0, slots := 0, locals := 0 } D g [.long t, .int sd] L f 0 0 (fun x L1 f1 => x = z ∧ L1 = L ∧ f1 = f) := by
  refine cL_of (cc := cX9_mix) (maxL := 5) (ret := (some .long)) (by decide) rfl (Nat.le_of_ble_eq_true rfl) ?_
  intro szz p e s m below meth c hx hb hr hml hts hown hlk hnm S ls hl
  have hl : lv_has ls 5 [(0, .long t), (2, .int sd)] := hl
  unfold mX9_mix at hM
  refine W_gen (fun QQ hQQ => ?_)
  refine lv_lload_n hx hb dX9_mix_0 rfl (lv_at hl 0 rfl) ?_
  refine lv_iload_n hx hb dX9_mix_1 rfl (lv_at hl 1 rfl) ?_
  refine lv_i2l (v := (Int32.toInt64 sd)) hx hb dX9_mix_2 rfl ?_
  refine lv_ldc2 (v := (-7046029254386353131 : Int64)) hx hb hown (hts (.constantLong RX9 80 (-7046029254386353131)) (by decide +kernel)) dX9_mix_3 ?_
  refine lv_lmul hx hb dX9_mix_6 ?_
  refine lv_ladd hx hb dX9_mix_7 ?_
  refine lv_topl (fun y8 ey8 => ?_)
  have hM := lt_some hM ey8
  refine lv_lstore_n (lv' := [(3, .long y8), (0, .long t), (2, .int sd)]) hx hb dX9_mix_8 rfl hl (by decide) rfl (fun ls hl => ?_)
  refine lv_lload_n hx hb dX9_mix_9 rfl (lv_at hl 0 rfl) ?_
  refine lv_lload_n hx hb dX9_mix_10 rfl (lv_at hl 0 rfl) ?_
  refine lv_bipush (v := (30 : Int32)) hx hb dX9_mix_11 (by decide) ?_
  refine lv_lushr (v := (lush_ y8 (30 : Int32))) hx hb dX9_mix_13 rfl ?_
  refine lv_lxor hx hb dX9_mix_14 ?_
  refine lv_ldc2 (v := (-4658895280553007687 : Int64)) hx hb hown (hts (.constantLong RX9 82 (-4658895280553007687)) (by decide +kernel)) dX9_mix_15 ?_
  refine lv_lmul hx hb dX9_mix_18 ?_
  refine lv_topl (fun y19 ey19 => ?_)
  have hM := lt_some hM ey19
  refine lv_lstore_n (lv' := [(3, .long y19), (0, .long t), (2, .int sd)]) hx hb dX9_mix_19 rfl hl (by decide) rfl (fun ls hl => ?_)
  refine lv_lload_n hx hb dX9_mix_20 rfl (lv_at hl 0 rfl) ?_
  refine lv_lload_n hx hb dX9_mix_21 rfl (lv_at hl 0 rfl) ?_
  refine lv_bipush (v := (27 : Int32)) hx hb dX9_mix_22 (by decide) ?_
  refine lv_lushr (v := (lush_ y19 (27 : Int32))) hx hb dX9_mix_24 rfl ?_
  refine lv_lxor hx hb dX9_mix_25 ?_
  refine lv_ldc2 (v := (-7723592293110705685 : Int64)) hx hb hown (hts (.constantLong RX9 84 (-7723592293110705685)) (by decide +kernel)) dX9_mix_26 ?_
  refine lv_lmul hx hb dX9_mix_29 ?_
  refine lv_topl (fun y30 ey30 => ?_)
  have hM := lt_some hM ey30
  refine lv_lstore_n (lv' := [(3, .long y30), (0, .long t), (2, .int sd)]) hx hb dX9_mix_30 rfl hl (by decide) rfl (fun ls hl => ?_)
  refine lv_lload_n hx hb dX9_mix_31 rfl (lv_at hl 0 rfl) ?_
  refine lv_lload_n hx hb dX9_mix_32 rfl (lv_at hl 0 rfl) ?_
  refine lv_bipush (v := (31 : Int32)) hx hb dX9_mix_33 (by decide) ?_
  refine lv_lushr (v := (lush_ y30 (31 : Int32))) hx hb dX9_mix_35 rfl ?_
  refine lv_lxor hx hb dX9_mix_36 ?_
  subst hQQ
  exact q_retl (post := fun x L1 f1 => x = z ∧ L1 = L ∧ f1 = f) hx hb hr hlk S dX9_mix_37 (by decide) (by decide) (by have hz := Option.some.inj hM; subst hz; exact ⟨rfl, rfl, rfl⟩)

def mX9_markOf (mx : Int64) (j : Int32) (w : Int32) : Option (Int32) := if ¬ (Int32.toInt64 w) = 0 then (some (Int64.toInt32 (lrm ((mx &&& (4294967295 : Int64)) + ((Int32.toInt64 j) * ((lush_ mx (32 : Int32)) ||| (1 : Int64)))) (Int32.toInt64 w)))) else none
set_option maxHeartbeats 4000000 in
set_option maxRecDepth 100000 in
theorem k_X9_markOf (l : Launch) (D : va_G) (g : Nat → ClassId) {L : List Nat} {f : Nat → va_E} {mx : Int64} {j : Int32} {w : Int32} {z : Int32}     (hM : mX9_markOf mx j w = some z) : cI l yX9_markOf wsX9_markOf { frames := 0, cells := 0, slots := 0, locals := 0 } D g [.long mx, .int j, .int w] L f 0 0 (fun x L1 f1 => x = z ∧ L1 = L ∧ f1 = f) := by
  refine cI_of (cc := cX9_markOf) (maxL := 8) (ret := (some .int)) (by decide) rfl (Nat.le_of_ble_eq_true rfl) ?_
  intro szz p e s m below meth c hx hb hr hml hts hown hlk hnm S ls hl
  have hl : lv_has ls 8 [(0, .long mx), (2, .int j), (3, .int w)] := hl
  unfold mX9_markOf at hM
  refine W_gen (fun QQ hQQ => ?_)
  refine lv_lload_n hx hb dX9_markOf_0 rfl (lv_at hl 0 rfl) ?_
  refine lv_ldc2 (v := (4294967295 : Int64)) hx hb hown (hts (.constantLong RX9 86 (4294967295)) (by decide +kernel)) dX9_markOf_1 ?_
  refine lv_land hx hb dX9_markOf_4 ?_
  refine lv_lstore (lv' := [(4, .long (mx &&& (4294967295 : Int64))), (0, .long mx), (2, .int j), (3, .int w)]) hx hb dX9_markOf_5 hl (by decide) rfl (fun ls hl => ?_)
  refine lv_lload_n hx hb dX9_markOf_7 rfl (lv_at hl 1 rfl) ?_
  refine lv_bipush (v := (32 : Int32)) hx hb dX9_markOf_8 (by decide) ?_
  refine lv_lushr (v := (lush_ mx (32 : Int32))) hx hb dX9_markOf_10 rfl ?_
  refine lv_lconst (v := (1 : Int64)) hx hb dX9_markOf_11 (by decide) ?_
  refine lv_lor hx hb dX9_markOf_12 ?_
  refine lv_lstore (lv' := [(6, .long ((lush_ mx (32 : Int32)) ||| (1 : Int64))), (4, .long (mx &&& (4294967295 : Int64))), (0, .long mx), (2, .int j), (3, .int w)]) hx hb dX9_markOf_13 hl (by decide) rfl (fun ls hl => ?_)
  refine lv_lload hx hb dX9_markOf_15 (lv_at hl 1 rfl) ?_
  refine lv_iload_n hx hb dX9_markOf_17 rfl (lv_at hl 3 rfl) ?_
  refine lv_i2l (v := (Int32.toInt64 j)) hx hb dX9_markOf_18 rfl ?_
  refine lv_lload hx hb dX9_markOf_19 (lv_at hl 0 rfl) ?_
  refine lv_lmul hx hb dX9_markOf_21 ?_
  refine lv_ladd hx hb dX9_markOf_22 ?_
  refine lv_iload_n hx hb dX9_markOf_23 rfl (lv_at hl 4 rfl) ?_
  refine lv_i2l (v := (Int32.toInt64 w)) hx hb dX9_markOf_24 rfl ?_
  obtain ⟨hq25, hM⟩ := ck hM
  refine lv_lrem hx hb dX9_markOf_25 (hq25) ?_
  refine W.eq (g2 := F0 m 26 ls [.long (lrm ((mx &&& (4294967295 : Int64)) + ((Int32.toInt64 j) * ((lush_ mx (32 : Int32)) ||| (1 : Int64)))) (Int32.toInt64 w))]) rfl ?_
  refine lv_l2i (v := (Int64.toInt32 (lrm ((mx &&& (4294967295 : Int64)) + ((Int32.toInt64 j) * ((lush_ mx (32 : Int32)) ||| (1 : Int64)))) (Int32.toInt64 w)))) hx hb dX9_markOf_26 rfl ?_
  subst hQQ
  exact q_reti (post := fun x L1 f1 => x = z ∧ L1 = L ∧ f1 = f) hx hb hr hlk S dX9_markOf_27 (by decide) (by decide) (by have hz := Option.some.inj hM; subst hz; exact ⟨rfl, rfl, rfl⟩)

def mX9_isWorld (wi : Int32) : Option (Int32) := if wi < 0 then (some (0 : Int32)) else (if (8 : Int32) ≤ wi then (some (0 : Int32)) else (some (1 : Int32)))
set_option maxHeartbeats 4000000 in
set_option maxRecDepth 100000 in
theorem k_X9_isWorld (l : Launch) (D : va_G) (g : Nat → ClassId) {L : List Nat} {f : Nat → va_E} {wi : Int32} {z : Int32}     (hM : mX9_isWorld wi = some z) : cI l yX9_isWorld wsX9_isWorld { frames := 0, cells := 0, slots := 0, locals := 0 } D g [.int wi] L f 0 0 (fun x L1 f1 => x = z ∧ L1 = L ∧ f1 = f) := by
  refine cI_of (cc := cX9_isWorld) (maxL := 1) (ret := (some .boolean)) (by decide) rfl (Nat.le_of_ble_eq_true rfl) ?_
  intro szz p e s m below meth c hx hb hr hml hts hown hlk hnm S ls hl
  have hl : lv_has ls 1 [(0, .int wi)] := hl
  unfold mX9_isWorld at hM
  refine W_gen (fun QQ hQQ => ?_)
  refine lv_iload_n hx hb dX9_isWorld_0 rfl (lv_at hl 0 rfl) ?_
  refine lv_if_lt (tgt := 14) hx hb dX9_isWorld_1 (by decide) (fun b1 => ?_) (fun b1 => ?_)
  · have hM := itT b1 hM
    refine lv_iconst (v := (0 : Int32)) hx hb dX9_isWorld_14 (by decide) ?_
    subst hQQ
    exact q_retz (post := fun x L1 f1 => x = z ∧ L1 = L ∧ f1 = f) hx hb hr hlk S dX9_isWorld_15 (by decide) (by decide) (by decide) (by have hz := Option.some.inj hM; subst hz; exact ⟨rfl, rfl, rfl⟩)
  · have hM := itF b1 hM
    refine lv_iload_n hx hb dX9_isWorld_4 rfl (lv_at hl 0 rfl) ?_
    refine lv_bipush (v := (8 : Int32)) hx hb dX9_isWorld_5 (by decide) ?_
    refine lv_icmp_ge (tgt := 14) hx hb dX9_isWorld_7 (by decide) (fun b7 => ?_) (fun b7 => ?_)
    · have hM := itT b7 hM
      refine lv_iconst (v := (0 : Int32)) hx hb dX9_isWorld_14 (by decide) ?_
      subst hQQ
      exact q_retz (post := fun x L1 f1 => x = z ∧ L1 = L ∧ f1 = f) hx hb hr hlk S dX9_isWorld_15 (by decide) (by decide) (by decide) (by have hz := Option.some.inj hM; subst hz; exact ⟨rfl, rfl, rfl⟩)
    · have hM := itF b7 hM
      refine lv_iconst (v := (1 : Int32)) hx hb dX9_isWorld_10 (by decide) ?_
      refine lv_goto (tgt := 15) hx hb dX9_isWorld_11 (by decide) ?_
      subst hQQ
      exact q_retz (post := fun x L1 f1 => x = z ∧ L1 = L ∧ f1 = f) hx hb hr hlk S dX9_isWorld_15 (by decide) (by decide) (by decide) (by have hz := Option.some.inj hM; subst hz; exact ⟨rfl, rfl, rfl⟩)

def mX9_is (many : Int32) (si_ : Int32) : Option (Int32) := if si_ < 0 then (some (0 : Int32)) else (if many ≤ si_ then (some (0 : Int32)) else (some (1 : Int32)))
set_option maxHeartbeats 4000000 in
set_option maxRecDepth 100000 in
theorem k_X9_is (l : Launch) (D : va_G) (g : Nat → ClassId) {L : List Nat} {f : Nat → va_E} {aAlone aBits aCome aContentMany aContents aGone aInWorld aIsOff aKept aKind aLayerCame aLayerSize aMarks aOffAt aOrder aRest aRestMany aRivals aRow aSeed aSize aWorlds y : Nat} {many : Int32} {si_ : Int32} {z : Int32} (m_y : y ∈ L) (e_y : f y = .inr (7, [.ref aWorlds, .ref aInWorld, .ref aKind, .ref aSize, .ref aMarks, .ref aSeed, .ref aContents, .ref aContentMany, .ref aRow, .ref aBits, .ref aLayerSize, .ref aLayerCame, .ref aRest, .ref aRestMany, .int many, .ref aCome, .ref aRivals, .ref aGone, .ref aOrder, .ref aOffAt, .ref aIsOff, .ref aAlone, .ref aKept]))    (hM : mX9_is many si_ = some z) : cI l yX9_is wsX9_is { frames := 0, cells := 0, slots := 0, locals := 0 } D g [.ref y, .int si_] L f 0 0 (fun x L1 f1 => x = z ∧ L1 = L ∧ f1 = f) := by
  refine cI_of (cc := cX9_is) (maxL := 2) (ret := (some .boolean)) (by decide) rfl (Nat.le_of_ble_eq_true rfl) ?_
  intro szz p e s m below meth c hx hb hr hml hts hown hlk hnm S ls hl
  have hl : lv_has ls 2 [(0, .ref y), (1, .int si_)] := hl
  have in_X9 : ∀ w ∈ wsX90, w ∈ wsX9_is := by decide +kernel
  unfold mX9_is at hM
  refine W_gen (fun QQ hQQ => ?_)
  refine lv_iload_n hx hb dX9_is_0 rfl (lv_at hl 1 rfl) ?_
  refine lv_if_lt (tgt := 16) hx hb dX9_is_1 (by decide) (fun b1 => ?_) (fun b1 => ?_)
  · have hM := itT b1 hM
    refine lv_iconst (v := (0 : Int32)) hx hb dX9_is_16 (by decide) ?_
    subst hQQ
    exact q_retz (post := fun x L1 f1 => x = z ∧ L1 = L ∧ f1 = f) hx hb hr hlk S dX9_is_17 (by decide) (by decide) (by decide) (by have hz := Option.some.inj hM; subst hz; exact ⟨rfl, rfl, rfl⟩)
  · have hM := itF b1 hM
    refine lv_iload_n hx hb dX9_is_4 rfl (lv_at hl 1 rfl) ?_
    refine lv_aload_n hx hb dX9_is_5 rfl (lv_at hl 0 rfl) ?_
    refine q_get hx hb hts in_X9 hown S m_y e_y (C := RX9) (T := TX9) (N := 23) rfl 14 (by decide) rfl (hts (.fieldLink RX9 88 "SieveCabinetModel" "many" "I") (by decide +kernel)) dX9_is_6 ?_
    refine lv_icmp_ge (tgt := 16) hx hb dX9_is_9 (by decide) (fun b9 => ?_) (fun b9 => ?_)
    · have hM := itT b9 hM
      refine lv_iconst (v := (0 : Int32)) hx hb dX9_is_16 (by decide) ?_
      subst hQQ
      exact q_retz (post := fun x L1 f1 => x = z ∧ L1 = L ∧ f1 = f) hx hb hr hlk S dX9_is_17 (by decide) (by decide) (by decide) (by have hz := Option.some.inj hM; subst hz; exact ⟨rfl, rfl, rfl⟩)
    · have hM := itF b9 hM
      refine lv_iconst (v := (1 : Int32)) hx hb dX9_is_12 (by decide) ?_
      refine lv_goto (tgt := 17) hx hb dX9_is_13 (by decide) ?_
      subst hQQ
      exact q_retz (post := fun x L1 f1 => x = z ∧ L1 = L ∧ f1 = f) hx hb hr hlk S dX9_is_17 (by decide) (by decide) (by decide) (by have hz := Option.some.inj hM; subst hz; exact ⟨rfl, rfl, rfl⟩)

def mX9_placeOf_L3 (vWorlds : Nat → Int64) (vInWorld : Nat → Int32) (wi : Int32) (t : Int64) : Nat → Int32 → Option ((Int32) ⊕ Int32)
  | 0, _ => none
  | fu + 1, x4_3 => if ix wi 8 = true then (if (vInWorld (Int32.toNatClampNeg wi)) ≤ x4_3 then (some (.inr x4_3)) else (if ix ((wi * (1000 : Int32)) + x4_3) 8000 = true then (if (lg_cmp (vWorlds (Int32.toNatClampNeg ((wi * (1000 : Int32)) + x4_3))) t) = 0 then (some (.inl x4_3)) else (mX9_placeOf_L3 vWorlds vInWorld wi t fu (x4_3 + 1))) else none)) else none
def mX9_placeOf (vWorlds : Nat → Int64) (vInWorld : Nat → Int32) (wi : Int32) (t : Int64) : Option (Int32) := (mX9_placeOf_L3 vWorlds vInWorld wi t FU (0 : Int32)).bind fun o3 => Sum.elim (fun r_ => some r_) (fun s3 => some (-1 : Int32)) o3
set_option maxHeartbeats 4000000 in
set_option maxRecDepth 100000 in
theorem k_X9_placeOf (l : Launch) (D : va_G) (g : Nat → ClassId) {L : List Nat} {f : Nat → va_E} {aAlone aBits aCome aContentMany aContents aGone aInWorld aIsOff aKept aKind aLayerCame aLayerSize aMarks aOffAt aOrder aRest aRestMany aRivals aRow aSeed aSize aWorlds y : Nat} {many : Int32} {vWorlds : Nat → Int64} {vInWorld : Nat → Int32} {wi : Int32} {t : Int64} {z : Int32} (m_y : y ∈ L) (e_y : f y = .inr (7, [.ref aWorlds, .ref aInWorld, .ref aKind, .ref aSize, .ref aMarks, .ref aSeed, .ref aContents, .ref aContentMany, .ref aRow, .ref aBits, .ref aLayerSize, .ref aLayerCame, .ref aRest, .ref aRestMany, .int many, .ref aCome, .ref aRivals, .ref aGone, .ref aOrder, .ref aOffAt, .ref aIsOff, .ref aAlone, .ref aKept])) (m_aWorlds : aWorlds ∈ L) (e_aWorlds : f aWorlds = .inl (g 1, 8000, .inr (.inl vWorlds))) (m_aInWorld : aInWorld ∈ L) (e_aInWorld : f aInWorld = .inl (g 0, 8, .inl vInWorld))    (hM : mX9_placeOf vWorlds vInWorld wi t = some z) : cI l yX9_placeOf wsX9_placeOf { frames := 0, cells := 0, slots := 0, locals := 0 } D g [.ref y, .int wi, .long t] L f 0 0 (fun x L1 f1 => x = z ∧ L1 = L ∧ f1 = f) := by
  refine cI_of (cc := cX9_placeOf) (maxL := 5) (ret := (some .int)) (by decide) rfl (Nat.le_of_ble_eq_true rfl) ?_
  intro szz p e s m below meth c hx hb hr hml hts hown hlk hnm S ls hl
  have hl : lv_has ls 5 [(0, .ref y), (1, .int wi), (2, .long t)] := hl
  have in_X9 : ∀ w ∈ wsX90, w ∈ wsX9_placeOf := by decide +kernel
  unfold mX9_placeOf at hM
  refine W_gen (fun QQ hQQ => ?_)
  refine lv_iconst (v := (0 : Int32)) hx hb dX9_placeOf_0 (by decide) ?_
  refine lv_istore (lv' := [(4, .int (0 : Int32)), (0, .ref y), (1, .int wi), (2, .long t)]) hx hb dX9_placeOf_1 hl (by decide) rfl (fun ls hl => ?_)
  obtain ⟨o3, ho3, hM⟩ := bind_some hM
  have EX3 : ∀ (s3 : Int32), o3 = .inr s3 → ∀ (H : Heap) (locs : List Loc) (ls : Array Slot), PS D g (va_A (va_pl L f) szz) s.heap s L f H locs → lv_has ls 5 [] → W p l e { frames := 0, cells := 0, slots := 0, locals := 0 } s m [.ref y, .int wi, .long t].toArray below meth c H locs 0 0 QQ (F0 m 41 ls []) := by
    intro s3 eo3
    rw [eo3] at hM
    simp only [Sum.elim_inr] at hM
    intro H locs ls S hl
    refine lv_iconst (v := (-1 : Int32)) hx hb dX9_placeOf_41 (by decide) ?_
    subst hQQ
    exact q_reti (post := fun x L1 f1 => x = z ∧ L1 = L ∧ f1 = f) hx hb hr hlk S dX9_placeOf_42 (by decide) (by decide) (by have hz := Option.some.inj hM; subst hz; exact ⟨rfl, rfl, rfl⟩)
  have LP3 : ∀ (fu : Nat) (x4_3 : Int32) (H : Heap) (locs : List Loc) (ls : Array Slot), (mX9_placeOf_L3 vWorlds vInWorld wi t) fu x4_3 = some o3 → PS D g (va_A (va_pl L f) szz) s.heap s L f H locs → lv_has ls 5 [(4, .int x4_3), (0, .ref y), (1, .int wi), (2, .long t)] → W p l e { frames := 0, cells := 0, slots := 0, locals := 0 } s m [.ref y, .int wi, .long t].toArray below meth c H locs 0 0 QQ (F0 m 3 ls []) := by
    intro fu
    induction fu with
    | zero => intro x4_3 H locs ls ho3 S hl; exact no_some ho3
    | succ fu ih3 =>
      intro x4_3 H locs ls ho3 S hl
      rw [mX9_placeOf_L3] at ho3
      refine lv_iload hx hb dX9_placeOf_3 (lv_at hl 0 rfl) ?_
      refine lv_aload_n hx hb dX9_placeOf_5 rfl (lv_at hl 1 rfl) ?_
      refine q_get hx hb hts in_X9 hown S m_y e_y (C := RX9) (T := TX9) (N := 23) rfl 1 (by decide) rfl (hts (.fieldLink RX9 13 "SieveCabinetModel" "inWorld" "[I") (by decide +kernel)) dX9_placeOf_6 ?_
      refine lv_iload_n hx hb dX9_placeOf_9 rfl (lv_at hl 2 rfl) ?_
      obtain ⟨hi10, ho3⟩ := ckx ho3
      refine q_iald hx hb S m_aInWorld e_aInWorld hi10 dX9_placeOf_10 ?_
      refine lv_icmp_ge (tgt := 41) hx hb dX9_placeOf_11 (by decide) (fun b11 => ?_) (fun b11 => ?_)
      · have ho3 := itT b11 ho3
        obtain rfl := Option.some.inj ho3
        exact EX3 _ rfl _ _ _ S (lv_sub hl [] rfl)
      · have ho3 := itF b11 ho3
        refine lv_aload_n hx hb dX9_placeOf_14 rfl (lv_at hl 1 rfl) ?_
        refine q_get hx hb hts in_X9 hown S m_y e_y (C := RX9) (T := TX9) (N := 23) rfl 0 (by decide) rfl (hts (.fieldLink RX9 9 "SieveCabinetModel" "worlds" "[J") (by decide +kernel)) dX9_placeOf_15 ?_
        refine lv_iload_n hx hb dX9_placeOf_18 rfl (lv_at hl 2 rfl) ?_
        refine lv_sipush (v := (1000 : Int32)) hx hb dX9_placeOf_19 (by decide) ?_
        refine lv_imul hx hb dX9_placeOf_22 ?_
        refine lv_iload hx hb dX9_placeOf_23 (lv_at hl 0 rfl) ?_
        refine lv_iadd hx hb dX9_placeOf_25 ?_
        obtain ⟨hi26, ho3⟩ := ckx ho3
        refine q_lald hx hb S m_aWorlds e_aWorlds hi26 dX9_placeOf_26 ?_
        refine lv_lload_n hx hb dX9_placeOf_27 rfl (lv_at hl 3 rfl) ?_
        refine W.lcmp hx hb dX9_placeOf_28 ?_
        refine lv_if_ne (tgt := 35) hx hb dX9_placeOf_29 (by decide) (fun b29 => ?_) (fun b29 => ?_)
        · have ho3 := itF b29 ho3
          refine lv_iinc (v := (x4_3 + 1)) (lv' := [(4, .int (x4_3 + 1)), (0, .ref y), (1, .int wi), (2, .long t)]) hx hb dX9_placeOf_35 hl (k := 0) rfl rfl (by decide) rfl (fun ls hl => ?_)
          refine lv_goto (tgt := 3) hx hb dX9_placeOf_38 (by decide) ?_
          exact ih3 (x4_3 + 1) _ _ _ ho3 S (lv_sub hl [0, 1, 2, 3] rfl)
        · have ho3 := itT b29 ho3
          refine lv_iload hx hb dX9_placeOf_32 (lv_at hl 0 rfl) ?_
          obtain rfl := Option.some.inj ho3
          simp only [Sum.elim_inl] at hM
          subst hQQ
          exact q_reti (post := fun x L1 f1 => x = z ∧ L1 = L ∧ f1 = f) hx hb hr hlk S dX9_placeOf_34 (by decide) (by decide) (by have hz := Option.some.inj hM; subst hz; exact ⟨rfl, rfl, rfl⟩)
  exact LP3 FU (0 : Int32) _ _ _ ho3 S (lv_sub hl [0, 1, 2, 3] rfl)

def mX9_enter_L8 (wi : Int32) (t : Int64) : Nat → Int32 → (Nat → Int64) → Option (Int32 × (Nat → Int64))
  | 0, _, _ => none
  | fu + 1, x4_8, caWorlds_8 => if x4_8 ≤ 0 then (some (x4_8, caWorlds_8)) else (if ix (((wi * (1000 : Int32)) + x4_8) - (1 : Int32)) 8000 = true then (if (lg_cmp (caWorlds_8 (Int32.toNatClampNeg (((wi * (1000 : Int32)) + x4_8) - (1 : Int32)))) t) ≤ 0 then (some (x4_8, caWorlds_8)) else (if ix (((wi * (1000 : Int32)) + x4_8) - (1 : Int32)) 8000 = true then (if ix ((wi * (1000 : Int32)) + x4_8) 8000 = true then (mX9_enter_L8 wi t fu (x4_8 + (-1)) (vp_updL caWorlds_8 (Int32.toNatClampNeg ((wi * (1000 : Int32)) + x4_8)) (caWorlds_8 (Int32.toNatClampNeg (((wi * (1000 : Int32)) + x4_8) - (1 : Int32)))))) else none) else none)) else none)
def mX9_enter (vWorlds : Nat → Int64) (vInWorld : Nat → Int32) (wi : Int32) (t : Int64) : Option ((Nat → Int64) × (Nat → Int32)) := if ix wi 8 = true then ((mX9_enter_L8 wi t FU (vInWorld (Int32.toNatClampNeg wi)) vWorlds).bind fun o8 => if ix ((wi * (1000 : Int32)) + o8.1) 8000 = true then (if ix wi 8 = true then (if ix wi 8 = true then (some ((vp_updL o8.2 (Int32.toNatClampNeg ((wi * (1000 : Int32)) + o8.1)) t), (upd vInWorld (Int32.toNatClampNeg wi) ((vInWorld (Int32.toNatClampNeg wi)) + (1 : Int32))))) else none) else none) else none) else none
set_option maxHeartbeats 4000000 in
set_option maxRecDepth 100000 in
theorem k_X9_enter (l : Launch) (D : va_G) (g : Nat → ClassId) {L : List Nat} {f : Nat → va_E} {aAlone aBits aCome aContentMany aContents aGone aInWorld aIsOff aKept aKind aLayerCame aLayerSize aMarks aOffAt aOrder aRest aRestMany aRivals aRow aSeed aSize aWorlds y : Nat} {many : Int32} {vWorlds : Nat → Int64} {vInWorld : Nat → Int32} {vKind : Nat → Int32} {vSize : Nat → Int32} {vMarks : Nat → Int32} {vSeed : Nat → Int32} {vContents : Nat → Int64} {vContentMany : Nat → Int32} {vRow : Nat → Int32} {vBits : Nat → Int32} {vLayerSize : Nat → Int32} {vLayerCame : Nat → Int32} {vRest : Nat → Int64} {vRestMany : Nat → Int32} {vCome : Nat → Int64} {vRivals : Nat → Int64} {vGone : Nat → Int64} {vOrder : Nat → Int32} {vOffAt : Nat → Int32} {vIsOff : Nat → Int32} {vAlone : Nat → Int32} {vKept : Nat → Int32} {wi : Int32} {t : Int64} {z : (Nat → Int64) × (Nat → Int32)} (m_y : y ∈ L) (e_y : f y = .inr (7, [.ref aWorlds, .ref aInWorld, .ref aKind, .ref aSize, .ref aMarks, .ref aSeed, .ref aContents, .ref aContentMany, .ref aRow, .ref aBits, .ref aLayerSize, .ref aLayerCame, .ref aRest, .ref aRestMany, .int many, .ref aCome, .ref aRivals, .ref aGone, .ref aOrder, .ref aOffAt, .ref aIsOff, .ref aAlone, .ref aKept])) (m_aWorlds : aWorlds ∈ L) (e_aWorlds : f aWorlds = .inl (g 1, 8000, .inr (.inl vWorlds))) (m_aInWorld : aInWorld ∈ L) (e_aInWorld : f aInWorld = .inl (g 0, 8, .inl vInWorld)) (m_aKind : aKind ∈ L) (e_aKind : f aKind = .inl (g 0, 30, .inl vKind)) (m_aSize : aSize ∈ L) (e_aSize : f aSize = .inl (g 0, 30, .inl vSize)) (m_aMarks : aMarks ∈ L) (e_aMarks : f aMarks = .inl (g 0, 30, .inl vMarks)) (m_aSeed : aSeed ∈ L) (e_aSeed : f aSeed = .inl (g 0, 30, .inl vSeed)) (m_aContents : aContents ∈ L) (e_aContents : f aContents = .inl (g 1, 30000, .inr (.inl vContents))) (m_aContentMany : aContentMany ∈ L) (e_aContentMany : f aContentMany = .inl (g 0, 30, .inl vContentMany)) (m_aRow : aRow ∈ L) (e_aRow : f aRow = .inl (g 0, 122880, .inl vRow)) (m_aBits : aBits ∈ L) (e_aBits : f aBits = .inl (g 0, 76800, .inl vBits)) (m_aLayerSize : aLayerSize ∈ L) (e_aLayerSize : f aLayerSize = .inl (g 0, 600, .inl vLayerSize)) (m_aLayerCame : aLayerCame ∈ L) (e_aLayerCame : f aLayerCame = .inl (g 0, 600, .inl vLayerCame)) (m_aRest : aRest ∈ L) (e_aRest : f aRest = .inl (g 1, 30000, .inr (.inl vRest))) (m_aRestMany : aRestMany ∈ L) (e_aRestMany : f aRestMany = .inl (g 0, 30, .inl vRestMany)) (m_aCome : aCome ∈ L) (e_aCome : f aCome = .inl (g 1, 1000, .inr (.inl vCome))) (m_aRivals : aRivals ∈ L) (e_aRivals : f aRivals = .inl (g 1, 1000, .inr (.inl vRivals))) (m_aGone : aGone ∈ L) (e_aGone : f aGone = .inl (g 1, 1000, .inr (.inl vGone))) (m_aOrder : aOrder ∈ L) (e_aOrder : f aOrder = .inl (g 0, 1000, .inl vOrder)) (m_aOffAt : aOffAt ∈ L) (e_aOffAt : f aOffAt = .inl (g 0, 1000, .inl vOffAt)) (m_aIsOff : aIsOff ∈ L) (e_aIsOff : f aIsOff = .inl (g 2, 1000, .inl vIsOff)) (m_aAlone : aAlone ∈ L) (e_aAlone : f aAlone = .inl (g 0, 4096, .inl vAlone)) (m_aKept : aKept ∈ L) (e_aKept : f aKept = .inl (g 0, 4096, .inl vKept))    (hM : mX9_enter vWorlds vInWorld wi t = some z) : cV l yX9_enter wsX9_enter { frames := 0, cells := 0, slots := 0, locals := 0 } D g [.ref y, .int wi, .long t] L f 0 0 (fun L1 f1 => L1 = L ∧ (∀ b, b ∈ L → b ≠ aWorlds → b ≠ aInWorld → f1 b = f b) ∧ f1 aWorlds = .inl (g 1, 8000, .inr (.inl z.1)) ∧ f1 aInWorld = .inl (g 0, 8, .inl z.2)) := by
  refine cV_of (cc := cX9_enter) (maxL := 5) (ret := none) (by decide) rfl (Nat.le_of_ble_eq_true rfl) ?_
  intro szz p e s m below meth c hx hb hr hml hts hown hlk hnm S ls hl
  have hl : lv_has ls 5 [(0, .ref y), (1, .int wi), (2, .long t)] := hl
  have in_X9 : ∀ w ∈ wsX90, w ∈ wsX9_enter := by decide +kernel
  have n_y_aWorlds : y ≠ aWorlds := ne_ir e_aWorlds e_y
  have n_aInWorld_aWorlds : aInWorld ≠ aWorlds := ne_len e_aWorlds e_aInWorld (by decide)
  have n_aWorlds_aInWorld : aWorlds ≠ aInWorld := ne_len e_aInWorld e_aWorlds (by decide)
  have n_aKind_aWorlds : aKind ≠ aWorlds := ne_len e_aWorlds e_aKind (by decide)
  have n_aSize_aWorlds : aSize ≠ aWorlds := ne_len e_aWorlds e_aSize (by decide)
  have n_aMarks_aWorlds : aMarks ≠ aWorlds := ne_len e_aWorlds e_aMarks (by decide)
  have n_aSeed_aWorlds : aSeed ≠ aWorlds := ne_len e_aWorlds e_aSeed (by decide)
  have n_aContents_aWorlds : aContents ≠ aWorlds := ne_len e_aWorlds e_aContents (by decide)
  have n_aContentMany_aWorlds : aContentMany ≠ aWorlds := ne_len e_aWorlds e_aContentMany (by decide)
  have n_aRow_aWorlds : aRow ≠ aWorlds := ne_len e_aWorlds e_aRow (by decide)
  have n_aBits_aWorlds : aBits ≠ aWorlds := ne_len e_aWorlds e_aBits (by decide)
  have n_aLayerSize_aWorlds : aLayerSize ≠ aWorlds := ne_len e_aWorlds e_aLayerSize (by decide)
  have n_aLayerCame_aWorlds : aLayerCame ≠ aWorlds := ne_len e_aWorlds e_aLayerCame (by decide)
  have n_aRest_aWorlds : aRest ≠ aWorlds := ne_len e_aWorlds e_aRest (by decide)
  have n_aRestMany_aWorlds : aRestMany ≠ aWorlds := ne_len e_aWorlds e_aRestMany (by decide)
  have n_aCome_aWorlds : aCome ≠ aWorlds := ne_len e_aWorlds e_aCome (by decide)
  have n_aRivals_aWorlds : aRivals ≠ aWorlds := ne_len e_aWorlds e_aRivals (by decide)
  have n_aGone_aWorlds : aGone ≠ aWorlds := ne_len e_aWorlds e_aGone (by decide)
  have n_aOrder_aWorlds : aOrder ≠ aWorlds := ne_len e_aWorlds e_aOrder (by decide)
  have n_aOffAt_aWorlds : aOffAt ≠ aWorlds := ne_len e_aWorlds e_aOffAt (by decide)
  have n_aIsOff_aWorlds : aIsOff ≠ aWorlds := ne_len e_aWorlds e_aIsOff (by decide)
  have n_aAlone_aWorlds : aAlone ≠ aWorlds := ne_len e_aWorlds e_aAlone (by decide)
  have n_aKept_aWorlds : aKept ≠ aWorlds := ne_len e_aWorlds e_aKept (by decide)
  have fr : ∀ b, b ∈ L → b ≠ aWorlds → b ≠ aInWorld → f b = f b := fun _ _ _ _ => rfl
  unfold mX9_enter at hM
  refine W_gen (fun QQ hQQ => ?_)
  refine lv_aload_n hx hb dX9_enter_0 rfl (lv_at hl 0 rfl) ?_
  refine q_get hx hb hts in_X9 hown S m_y e_y (C := RX9) (T := TX9) (N := 23) rfl 1 (by decide) rfl (hts (.fieldLink RX9 13 "SieveCabinetModel" "inWorld" "[I") (by decide +kernel)) dX9_enter_1 ?_
  refine lv_iload_n hx hb dX9_enter_4 rfl (lv_at hl 1 rfl) ?_
  obtain ⟨hi5, hM⟩ := ckx hM
  refine q_iald hx hb S m_aInWorld e_aInWorld hi5 dX9_enter_5 ?_
  refine lv_istore (lv' := [(4, .int (vInWorld (Int32.toNatClampNeg wi))), (0, .ref y), (1, .int wi), (2, .long t)]) hx hb dX9_enter_6 hl (by decide) rfl (fun ls hl => ?_)
  obtain ⟨o8, ho8, hM⟩ := bind_some hM
  have EX8 : ∀ (fl8 : Nat → va_E) (H : Heap) (locs : List Loc) (ls : Array Slot), PS D g (va_A (va_pl L f) szz) s.heap s L fl8 H locs → fl8 y = .inr (7, [.ref aWorlds, .ref aInWorld, .ref aKind, .ref aSize, .ref aMarks, .ref aSeed, .ref aContents, .ref aContentMany, .ref aRow, .ref aBits, .ref aLayerSize, .ref aLayerCame, .ref aRest, .ref aRestMany, .int many, .ref aCome, .ref aRivals, .ref aGone, .ref aOrder, .ref aOffAt, .ref aIsOff, .ref aAlone, .ref aKept]) → fl8 aWorlds = .inl (g 1, 8000, .inr (.inl o8.2)) → fl8 aInWorld = .inl (g 0, 8, .inl vInWorld) → fl8 aKind = .inl (g 0, 30, .inl vKind) → fl8 aSize = .inl (g 0, 30, .inl vSize) → fl8 aMarks = .inl (g 0, 30, .inl vMarks) → fl8 aSeed = .inl (g 0, 30, .inl vSeed) → fl8 aContents = .inl (g 1, 30000, .inr (.inl vContents)) → fl8 aContentMany = .inl (g 0, 30, .inl vContentMany) → fl8 aRow = .inl (g 0, 122880, .inl vRow) → fl8 aBits = .inl (g 0, 76800, .inl vBits) → fl8 aLayerSize = .inl (g 0, 600, .inl vLayerSize) → fl8 aLayerCame = .inl (g 0, 600, .inl vLayerCame) → fl8 aRest = .inl (g 1, 30000, .inr (.inl vRest)) → fl8 aRestMany = .inl (g 0, 30, .inl vRestMany) → fl8 aCome = .inl (g 1, 1000, .inr (.inl vCome)) → fl8 aRivals = .inl (g 1, 1000, .inr (.inl vRivals)) → fl8 aGone = .inl (g 1, 1000, .inr (.inl vGone)) → fl8 aOrder = .inl (g 0, 1000, .inl vOrder) → fl8 aOffAt = .inl (g 0, 1000, .inl vOffAt) → fl8 aIsOff = .inl (g 2, 1000, .inl vIsOff) → fl8 aAlone = .inl (g 0, 4096, .inl vAlone) → fl8 aKept = .inl (g 0, 4096, .inl vKept) → (∀ b, b ∈ L → b ≠ aWorlds → b ≠ aInWorld → fl8 b = f b) → lv_has ls 5 [(4, .int o8.1), (0, .ref y), (1, .int wi), (2, .long t)] → W p l e { frames := 0, cells := 0, slots := 0, locals := 0 } s m [.ref y, .int wi, .long t].toArray below meth c H locs 0 0 QQ (F0 m 67 ls []) := by
    intro fl8 H locs ls S e_y e_aWorlds e_aInWorld e_aKind e_aSize e_aMarks e_aSeed e_aContents e_aContentMany e_aRow e_aBits e_aLayerSize e_aLayerCame e_aRest e_aRestMany e_aCome e_aRivals e_aGone e_aOrder e_aOffAt e_aIsOff e_aAlone e_aKept fr hl
    refine lv_aload_n hx hb dX9_enter_67 rfl (lv_at hl 1 rfl) ?_
    refine q_get hx hb hts in_X9 hown S m_y e_y (C := RX9) (T := TX9) (N := 23) rfl 0 (by decide) rfl (hts (.fieldLink RX9 9 "SieveCabinetModel" "worlds" "[J") (by decide +kernel)) dX9_enter_68 ?_
    refine lv_iload_n hx hb dX9_enter_71 rfl (lv_at hl 2 rfl) ?_
    refine lv_sipush (v := (1000 : Int32)) hx hb dX9_enter_72 (by decide) ?_
    refine lv_imul hx hb dX9_enter_75 ?_
    refine lv_iload hx hb dX9_enter_76 (lv_at hl 0 rfl) ?_
    refine lv_iadd hx hb dX9_enter_78 ?_
    refine lv_lload_n hx hb dX9_enter_79 rfl (lv_at hl 3 rfl) ?_
    obtain ⟨hi80, hM⟩ := ckx hM
    refine k_last hx hb S m_aWorlds e_aWorlds hi80 dX9_enter_80 (fun f1 ef1 H locs S => ?_)
    have e_aWorlds := up_self ef1
    have fr : ∀ b, b ∈ L → b ≠ aWorlds → b ≠ aInWorld → f1 b = f b := fun b mb nb0 nb1 => (up_ne ef1 nb0 rfl).trans (fr b mb nb0 nb1)
    refine lv_aload_n hx hb dX9_enter_81 rfl (lv_at hl 1 rfl) ?_
    have e_y := (up_ne ef1 n_y_aWorlds e_y)
    refine q_get hx hb hts in_X9 hown S m_y e_y (C := RX9) (T := TX9) (N := 23) rfl 1 (by decide) rfl (hts (.fieldLink RX9 13 "SieveCabinetModel" "inWorld" "[I") (by decide +kernel)) dX9_enter_82 ?_
    refine lv_iload_n hx hb dX9_enter_85 rfl (lv_at hl 2 rfl) ?_
    refine lv_dup2_11 hx hb dX9_enter_86 rfl rfl ?_
    obtain ⟨hi87, hM⟩ := ckx hM
    have e_aInWorld := (up_ne ef1 n_aInWorld_aWorlds e_aInWorld)
    refine q_iald hx hb S m_aInWorld e_aInWorld hi87 dX9_enter_87 ?_
    refine lv_iconst (v := (1 : Int32)) hx hb dX9_enter_88 (by decide) ?_
    refine lv_iadd hx hb dX9_enter_89 ?_
    obtain ⟨hi90, hM⟩ := ckx hM
    refine k_iast hx hb S m_aInWorld e_aInWorld hi90 dX9_enter_90 (fun f2 ef2 H locs S => ?_)
    have e_aInWorld := up_self ef2
    have fr : ∀ b, b ∈ L → b ≠ aWorlds → b ≠ aInWorld → f2 b = f b := fun b mb nb0 nb1 => (up_ne ef2 nb1 rfl).trans (fr b mb nb0 nb1)
    have e_aWorlds := (up_ne ef2 n_aWorlds_aInWorld e_aWorlds)
    subst hQQ
    exact q_retv (post := fun L1 f1 => L1 = L ∧ (∀ b, b ∈ L → b ≠ aWorlds → b ≠ aInWorld → f1 b = f b) ∧ f1 aWorlds = .inl (g 1, 8000, .inr (.inl z.1)) ∧ f1 aInWorld = .inl (g 0, 8, .inl z.2)) hx hb hr hlk S dX9_enter_91 (by decide) (by decide) (by have hz := Option.some.inj hM; subst hz; exact ⟨rfl, fr, e_aWorlds, e_aInWorld⟩)
  have LP8 : ∀ (fu : Nat) (x4_8 : Int32) (caWorlds_8 : Nat → Int64) (fl8 : Nat → va_E) (H : Heap) (locs : List Loc) (ls : Array Slot), (mX9_enter_L8 wi t) fu x4_8 caWorlds_8 = some o8 → PS D g (va_A (va_pl L f) szz) s.heap s L fl8 H locs → fl8 y = .inr (7, [.ref aWorlds, .ref aInWorld, .ref aKind, .ref aSize, .ref aMarks, .ref aSeed, .ref aContents, .ref aContentMany, .ref aRow, .ref aBits, .ref aLayerSize, .ref aLayerCame, .ref aRest, .ref aRestMany, .int many, .ref aCome, .ref aRivals, .ref aGone, .ref aOrder, .ref aOffAt, .ref aIsOff, .ref aAlone, .ref aKept]) → fl8 aWorlds = .inl (g 1, 8000, .inr (.inl caWorlds_8)) → fl8 aInWorld = .inl (g 0, 8, .inl vInWorld) → fl8 aKind = .inl (g 0, 30, .inl vKind) → fl8 aSize = .inl (g 0, 30, .inl vSize) → fl8 aMarks = .inl (g 0, 30, .inl vMarks) → fl8 aSeed = .inl (g 0, 30, .inl vSeed) → fl8 aContents = .inl (g 1, 30000, .inr (.inl vContents)) → fl8 aContentMany = .inl (g 0, 30, .inl vContentMany) → fl8 aRow = .inl (g 0, 122880, .inl vRow) → fl8 aBits = .inl (g 0, 76800, .inl vBits) → fl8 aLayerSize = .inl (g 0, 600, .inl vLayerSize) → fl8 aLayerCame = .inl (g 0, 600, .inl vLayerCame) → fl8 aRest = .inl (g 1, 30000, .inr (.inl vRest)) → fl8 aRestMany = .inl (g 0, 30, .inl vRestMany) → fl8 aCome = .inl (g 1, 1000, .inr (.inl vCome)) → fl8 aRivals = .inl (g 1, 1000, .inr (.inl vRivals)) → fl8 aGone = .inl (g 1, 1000, .inr (.inl vGone)) → fl8 aOrder = .inl (g 0, 1000, .inl vOrder) → fl8 aOffAt = .inl (g 0, 1000, .inl vOffAt) → fl8 aIsOff = .inl (g 2, 1000, .inl vIsOff) → fl8 aAlone = .inl (g 0, 4096, .inl vAlone) → fl8 aKept = .inl (g 0, 4096, .inl vKept) → (∀ b, b ∈ L → b ≠ aWorlds → b ≠ aInWorld → fl8 b = f b) → lv_has ls 5 [(4, .int x4_8), (0, .ref y), (1, .int wi), (2, .long t)] → W p l e { frames := 0, cells := 0, slots := 0, locals := 0 } s m [.ref y, .int wi, .long t].toArray below meth c H locs 0 0 QQ (F0 m 8 ls []) := by
    intro fu
    induction fu with
    | zero => intro x4_8 caWorlds_8 fl8 H locs ls ho8 S e_y e_aWorlds e_aInWorld e_aKind e_aSize e_aMarks e_aSeed e_aContents e_aContentMany e_aRow e_aBits e_aLayerSize e_aLayerCame e_aRest e_aRestMany e_aCome e_aRivals e_aGone e_aOrder e_aOffAt e_aIsOff e_aAlone e_aKept fr hl; exact no_some ho8
    | succ fu ih8 =>
      intro x4_8 caWorlds_8 fl8 H locs ls ho8 S e_y e_aWorlds e_aInWorld e_aKind e_aSize e_aMarks e_aSeed e_aContents e_aContentMany e_aRow e_aBits e_aLayerSize e_aLayerCame e_aRest e_aRestMany e_aCome e_aRivals e_aGone e_aOrder e_aOffAt e_aIsOff e_aAlone e_aKept fr hl
      rw [mX9_enter_L8] at ho8
      refine lv_iload hx hb dX9_enter_8 (lv_at hl 0 rfl) ?_
      refine lv_if_le (tgt := 67) hx hb dX9_enter_10 (by decide) (fun b10 => ?_) (fun b10 => ?_)
      · have ho8 := itT b10 ho8
        obtain rfl := Option.some.inj ho8
        exact EX8 fl8 _ _ _ S e_y e_aWorlds e_aInWorld e_aKind e_aSize e_aMarks e_aSeed e_aContents e_aContentMany e_aRow e_aBits e_aLayerSize e_aLayerCame e_aRest e_aRestMany e_aCome e_aRivals e_aGone e_aOrder e_aOffAt e_aIsOff e_aAlone e_aKept fr (lv_sub hl [0, 1, 2, 3] rfl)
      · have ho8 := itF b10 ho8
        refine lv_aload_n hx hb dX9_enter_13 rfl (lv_at hl 1 rfl) ?_
        refine q_get hx hb hts in_X9 hown S m_y e_y (C := RX9) (T := TX9) (N := 23) rfl 0 (by decide) rfl (hts (.fieldLink RX9 9 "SieveCabinetModel" "worlds" "[J") (by decide +kernel)) dX9_enter_14 ?_
        refine lv_iload_n hx hb dX9_enter_17 rfl (lv_at hl 2 rfl) ?_
        refine lv_sipush (v := (1000 : Int32)) hx hb dX9_enter_18 (by decide) ?_
        refine lv_imul hx hb dX9_enter_21 ?_
        refine lv_iload hx hb dX9_enter_22 (lv_at hl 0 rfl) ?_
        refine lv_iadd hx hb dX9_enter_24 ?_
        refine lv_iconst (v := (1 : Int32)) hx hb dX9_enter_25 (by decide) ?_
        refine lv_isub hx hb dX9_enter_26 ?_
        obtain ⟨hi27, ho8⟩ := ckx ho8
        refine q_lald hx hb S m_aWorlds e_aWorlds hi27 dX9_enter_27 ?_
        refine lv_lload_n hx hb dX9_enter_28 rfl (lv_at hl 3 rfl) ?_
        refine W.lcmp hx hb dX9_enter_29 ?_
        refine lv_if_le (tgt := 67) hx hb dX9_enter_30 (by decide) (fun b30 => ?_) (fun b30 => ?_)
        · have ho8 := itT b30 ho8
          obtain rfl := Option.some.inj ho8
          exact EX8 fl8 _ _ _ S e_y e_aWorlds e_aInWorld e_aKind e_aSize e_aMarks e_aSeed e_aContents e_aContentMany e_aRow e_aBits e_aLayerSize e_aLayerCame e_aRest e_aRestMany e_aCome e_aRivals e_aGone e_aOrder e_aOffAt e_aIsOff e_aAlone e_aKept fr (lv_sub hl [0, 1, 2, 3] rfl)
        · have ho8 := itF b30 ho8
          refine lv_aload_n hx hb dX9_enter_33 rfl (lv_at hl 1 rfl) ?_
          refine q_get hx hb hts in_X9 hown S m_y e_y (C := RX9) (T := TX9) (N := 23) rfl 0 (by decide) rfl (hts (.fieldLink RX9 9 "SieveCabinetModel" "worlds" "[J") (by decide +kernel)) dX9_enter_34 ?_
          refine lv_iload_n hx hb dX9_enter_37 rfl (lv_at hl 2 rfl) ?_
          refine lv_sipush (v := (1000 : Int32)) hx hb dX9_enter_38 (by decide) ?_
          refine lv_imul hx hb dX9_enter_41 ?_
          refine lv_iload hx hb dX9_enter_42 (lv_at hl 0 rfl) ?_
          refine lv_iadd hx hb dX9_enter_44 ?_
          refine lv_aload_n hx hb dX9_enter_45 rfl (lv_at hl 1 rfl) ?_
          refine q_get hx hb hts in_X9 hown S m_y e_y (C := RX9) (T := TX9) (N := 23) rfl 0 (by decide) rfl (hts (.fieldLink RX9 9 "SieveCabinetModel" "worlds" "[J") (by decide +kernel)) dX9_enter_46 ?_
          refine lv_iload_n hx hb dX9_enter_49 rfl (lv_at hl 2 rfl) ?_
          refine lv_sipush (v := (1000 : Int32)) hx hb dX9_enter_50 (by decide) ?_
          refine lv_imul hx hb dX9_enter_53 ?_
          refine lv_iload hx hb dX9_enter_54 (lv_at hl 0 rfl) ?_
          refine lv_iadd hx hb dX9_enter_56 ?_
          refine lv_iconst (v := (1 : Int32)) hx hb dX9_enter_57 (by decide) ?_
          refine lv_isub hx hb dX9_enter_58 ?_
          obtain ⟨hi59, ho8⟩ := ckx ho8
          refine q_lald hx hb S m_aWorlds e_aWorlds hi59 dX9_enter_59 ?_
          obtain ⟨hi60, ho8⟩ := ckx ho8
          refine k_last hx hb S m_aWorlds e_aWorlds hi60 dX9_enter_60 (fun f3 ef3 H locs S => ?_)
          have e_aWorlds := up_self ef3
          have fr : ∀ b, b ∈ L → b ≠ aWorlds → b ≠ aInWorld → f3 b = f b := fun b mb nb0 nb1 => (up_ne ef3 nb0 rfl).trans (fr b mb nb0 nb1)
          refine lv_iinc (v := (x4_8 + (-1))) (lv' := [(4, .int (x4_8 + (-1))), (0, .ref y), (1, .int wi), (2, .long t)]) hx hb dX9_enter_61 hl (k := 0) rfl rfl (by decide) rfl (fun ls hl => ?_)
          refine lv_goto (tgt := 8) hx hb dX9_enter_64 (by decide) ?_
          have e_y := (up_ne ef3 n_y_aWorlds e_y)
          have e_aInWorld := (up_ne ef3 n_aInWorld_aWorlds e_aInWorld)
          have e_aKind := (up_ne ef3 n_aKind_aWorlds e_aKind)
          have e_aSize := (up_ne ef3 n_aSize_aWorlds e_aSize)
          have e_aMarks := (up_ne ef3 n_aMarks_aWorlds e_aMarks)
          have e_aSeed := (up_ne ef3 n_aSeed_aWorlds e_aSeed)
          have e_aContents := (up_ne ef3 n_aContents_aWorlds e_aContents)
          have e_aContentMany := (up_ne ef3 n_aContentMany_aWorlds e_aContentMany)
          have e_aRow := (up_ne ef3 n_aRow_aWorlds e_aRow)
          have e_aBits := (up_ne ef3 n_aBits_aWorlds e_aBits)
          have e_aLayerSize := (up_ne ef3 n_aLayerSize_aWorlds e_aLayerSize)
          have e_aLayerCame := (up_ne ef3 n_aLayerCame_aWorlds e_aLayerCame)
          have e_aRest := (up_ne ef3 n_aRest_aWorlds e_aRest)
          have e_aRestMany := (up_ne ef3 n_aRestMany_aWorlds e_aRestMany)
          have e_aCome := (up_ne ef3 n_aCome_aWorlds e_aCome)
          have e_aRivals := (up_ne ef3 n_aRivals_aWorlds e_aRivals)
          have e_aGone := (up_ne ef3 n_aGone_aWorlds e_aGone)
          have e_aOrder := (up_ne ef3 n_aOrder_aWorlds e_aOrder)
          have e_aOffAt := (up_ne ef3 n_aOffAt_aWorlds e_aOffAt)
          have e_aIsOff := (up_ne ef3 n_aIsOff_aWorlds e_aIsOff)
          have e_aAlone := (up_ne ef3 n_aAlone_aWorlds e_aAlone)
          have e_aKept := (up_ne ef3 n_aKept_aWorlds e_aKept)
          exact ih8 (x4_8 + (-1)) (vp_updL caWorlds_8 (Int32.toNatClampNeg ((wi * (1000 : Int32)) + x4_8)) (caWorlds_8 (Int32.toNatClampNeg (((wi * (1000 : Int32)) + x4_8) - (1 : Int32))))) f3 _ _ _ ho8 S e_y e_aWorlds e_aInWorld e_aKind e_aSize e_aMarks e_aSeed e_aContents e_aContentMany e_aRow e_aBits e_aLayerSize e_aLayerCame e_aRest e_aRestMany e_aCome e_aRivals e_aGone e_aOrder e_aOffAt e_aIsOff e_aAlone e_aKept fr (lv_sub hl [0, 1, 2, 3] rfl)
  exact LP8 FU (vInWorld (Int32.toNatClampNeg wi)) vWorlds f _ _ _ ho8 S e_y e_aWorlds e_aInWorld e_aKind e_aSize e_aMarks e_aSeed e_aContents e_aContentMany e_aRow e_aBits e_aLayerSize e_aLayerCame e_aRest e_aRestMany e_aCome e_aRivals e_aGone e_aOrder e_aOffAt e_aIsOff e_aAlone e_aKept fr (lv_sub hl [0, 1, 2, 3] rfl)

def mX9_tagOf (mx : Int64) : Option (Int32) := some ((1 : Int32) + (Int64.toInt32 (lrm (lush_ mx (56 : Int32)) (255 : Int64))))
set_option maxHeartbeats 4000000 in
set_option maxRecDepth 100000 in
theorem k_X9_tagOf (l : Launch) (D : va_G) (g : Nat → ClassId) {L : List Nat} {f : Nat → va_E} {mx : Int64} {z : Int32}     (hM : mX9_tagOf mx = some z) : cI l yX9_tagOf wsX9_tagOf { frames := 0, cells := 0, slots := 0, locals := 0 } D g [.long mx] L f 0 0 (fun x L1 f1 => x = z ∧ L1 = L ∧ f1 = f) := by
  refine cI_of (cc := cX9_tagOf) (maxL := 2) (ret := (some .int)) (by decide) rfl (Nat.le_of_ble_eq_true rfl) ?_
  intro szz p e s m below meth c hx hb hr hml hts hown hlk hnm S ls hl
  have hl : lv_has ls 2 [(0, .long mx)] := hl
  unfold mX9_tagOf at hM
  refine W_gen (fun QQ hQQ => ?_)
  refine lv_iconst (v := (1 : Int32)) hx hb dX9_tagOf_0 (by decide) ?_
  refine lv_lload_n hx hb dX9_tagOf_1 rfl (lv_at hl 0 rfl) ?_
  refine lv_bipush (v := (56 : Int32)) hx hb dX9_tagOf_2 (by decide) ?_
  refine lv_lushr (v := (lush_ mx (56 : Int32))) hx hb dX9_tagOf_4 rfl ?_
  refine lv_ldc2 (v := (255 : Int64)) hx hb hown (hts (.constantLong RX9 104 (255)) (by decide +kernel)) dX9_tagOf_5 ?_
  refine lv_lrem hx hb dX9_tagOf_8 (by decide) ?_
  refine W.eq (g2 := F0 m 9 ls [.long (lrm (lush_ mx (56 : Int32)) (255 : Int64)), .int (1 : Int32)]) rfl ?_
  refine lv_l2i (v := (Int64.toInt32 (lrm (lush_ mx (56 : Int32)) (255 : Int64)))) hx hb dX9_tagOf_9 rfl ?_
  refine lv_iadd hx hb dX9_tagOf_10 ?_
  subst hQQ
  exact q_reti (post := fun x L1 f1 => x = z ∧ L1 = L ∧ f1 = f) hx hb hr hlk S dX9_tagOf_11 (by decide) (by decide) (by have hz := Option.some.inj hM; subst hz; exact ⟨rfl, rfl, rfl⟩)

def mX9_otherNest (nt : Int32) (tg : Int32) (w : Int32) : Option (Int32) := if ¬ (Int32.toInt64 w) = 0 then (some (nt ^^^ (Int64.toInt32 (lrm (lush_ ((Int32.toInt64 tg) * (2654435761 : Int64)) (8 : Int32)) (Int32.toInt64 w))))) else none
set_option maxHeartbeats 4000000 in
set_option maxRecDepth 100000 in
theorem k_X9_otherNest (l : Launch) (D : va_G) (g : Nat → ClassId) {L : List Nat} {f : Nat → va_E} {nt : Int32} {tg : Int32} {w : Int32} {z : Int32}     (hM : mX9_otherNest nt tg w = some z) : cI l yX9_otherNest wsX9_otherNest { frames := 0, cells := 0, slots := 0, locals := 0 } D g [.int nt, .int tg, .int w] L f 0 0 (fun x L1 f1 => x = z ∧ L1 = L ∧ f1 = f) := by
  refine cI_of (cc := cX9_otherNest) (maxL := 3) (ret := (some .int)) (by decide) rfl (Nat.le_of_ble_eq_true rfl) ?_
  intro szz p e s m below meth c hx hb hr hml hts hown hlk hnm S ls hl
  have hl : lv_has ls 3 [(0, .int nt), (1, .int tg), (2, .int w)] := hl
  unfold mX9_otherNest at hM
  refine W_gen (fun QQ hQQ => ?_)
  refine lv_iload_n hx hb dX9_otherNest_0 rfl (lv_at hl 0 rfl) ?_
  refine lv_iload_n hx hb dX9_otherNest_1 rfl (lv_at hl 1 rfl) ?_
  refine lv_i2l (v := (Int32.toInt64 tg)) hx hb dX9_otherNest_2 rfl ?_
  refine lv_ldc2 (v := (2654435761 : Int64)) hx hb hown (hts (.constantLong RX9 106 (2654435761)) (by decide +kernel)) dX9_otherNest_3 ?_
  refine lv_lmul hx hb dX9_otherNest_6 ?_
  refine lv_bipush (v := (8 : Int32)) hx hb dX9_otherNest_7 (by decide) ?_
  refine lv_lushr (v := (lush_ ((Int32.toInt64 tg) * (2654435761 : Int64)) (8 : Int32))) hx hb dX9_otherNest_9 rfl ?_
  refine lv_iload_n hx hb dX9_otherNest_10 rfl (lv_at hl 2 rfl) ?_
  refine lv_i2l (v := (Int32.toInt64 w)) hx hb dX9_otherNest_11 rfl ?_
  obtain ⟨hq12, hM⟩ := ck hM
  refine lv_lrem hx hb dX9_otherNest_12 (hq12) ?_
  refine W.eq (g2 := F0 m 13 ls [.long (lrm (lush_ ((Int32.toInt64 tg) * (2654435761 : Int64)) (8 : Int32)) (Int32.toInt64 w)), .int nt]) rfl ?_
  refine lv_l2i (v := (Int64.toInt32 (lrm (lush_ ((Int32.toInt64 tg) * (2654435761 : Int64)) (8 : Int32)) (Int32.toInt64 w)))) hx hb dX9_otherNest_13 rfl ?_
  refine lv_ixor hx hb dX9_otherNest_14 ?_
  subst hQQ
  exact q_reti (post := fun x L1 f1 => x = z ∧ L1 = L ∧ f1 = f) hx hb hr hlk S dX9_otherNest_15 (by decide) (by decide) (by have hz := Option.some.inj hM; subst hz; exact ⟨rfl, rfl, rfl⟩)

def mX9_nestOf (vSize : Nat → Int32) (vSeed : Nat → Int32) (sq : Int32) (t : Int64) (wh : Int32) : Option (Int32) := if ix sq 30 = true then ((mX9_mix t (vSeed (Int32.toNatClampNeg sq))).bind fun z7 => if ix sq 30 = true then (if ¬ (Int32.toInt64 (vSize (Int32.toNatClampNeg sq))) = 0 then (lt_ (Int64.toInt32 (lrm (z7 &&& (4294967295 : Int64)) (Int32.toInt64 (vSize (Int32.toNatClampNeg sq))))) fun y27 => if wh = 0 then (some y27) else ((mX9_tagOf z7).bind fun z43 => if ix sq 30 = true then ((mX9_otherNest y27 z43 (vSize (Int32.toNatClampNeg sq))).bind fun z52 => some z52) else none)) else none) else none) else none
set_option maxHeartbeats 4000000 in
set_option maxRecDepth 100000 in
theorem k_X9_nestOf (l : Launch) (D : va_G) (g : Nat → ClassId) {L : List Nat} {f : Nat → va_E} {aAlone aBits aCome aContentMany aContents aGone aInWorld aIsOff aKept aKind aLayerCame aLayerSize aMarks aOffAt aOrder aRest aRestMany aRivals aRow aSeed aSize aWorlds y : Nat} {many : Int32} {vSize : Nat → Int32} {vSeed : Nat → Int32} {sq : Int32} {t : Int64} {wh : Int32} {z : Int32} (m_y : y ∈ L) (e_y : f y = .inr (7, [.ref aWorlds, .ref aInWorld, .ref aKind, .ref aSize, .ref aMarks, .ref aSeed, .ref aContents, .ref aContentMany, .ref aRow, .ref aBits, .ref aLayerSize, .ref aLayerCame, .ref aRest, .ref aRestMany, .int many, .ref aCome, .ref aRivals, .ref aGone, .ref aOrder, .ref aOffAt, .ref aIsOff, .ref aAlone, .ref aKept])) (m_aSize : aSize ∈ L) (e_aSize : f aSize = .inl (g 0, 30, .inl vSize)) (m_aSeed : aSeed ∈ L) (e_aSeed : f aSeed = .inl (g 0, 30, .inl vSeed))    (hM : mX9_nestOf vSize vSeed sq t wh = some z) : cI l yX9_nestOf wsX9_nestOf { frames := 1, cells := 0, slots := 0, locals := 24 } D g [.ref y, .int sq, .long t, .int wh] L f 0 0 (fun x L1 f1 => x = z ∧ L1 = L ∧ f1 = f) := by
  refine cI_of (cc := cX9_nestOf) (maxL := 8) (ret := (some .int)) (by decide) rfl (Nat.le_of_ble_eq_true rfl) ?_
  intro szz p e s m below meth c hx hb hr hml hts hown hlk hnm S ls hl
  have hl : lv_has ls 8 [(0, .ref y), (1, .int sq), (2, .long t), (4, .int wh)] := hl
  have in_X9 : ∀ w ∈ wsX90, w ∈ wsX9_nestOf := by decide +kernel
  unfold mX9_nestOf at hM
  refine W_gen (fun QQ hQQ => ?_)
  refine lv_lload_n hx hb dX9_nestOf_0 rfl (lv_at hl 2 rfl) ?_
  refine lv_aload_n hx hb dX9_nestOf_1 rfl (lv_at hl 0 rfl) ?_
  refine q_get hx hb hts in_X9 hown S m_y e_y (C := RX9) (T := TX9) (N := 23) rfl 5 (by decide) rfl (hts (.fieldLink RX9 26 "SieveCabinetModel" "seed" "[I") (by decide +kernel)) dX9_nestOf_2 ?_
  refine lv_iload_n hx hb dX9_nestOf_5 rfl (lv_at hl 1 rfl) ?_
  obtain ⟨hi6, hM⟩ := ckx hM
  refine q_iald hx hb S m_aSeed e_aSeed hi6 dX9_nestOf_6 ?_
  obtain ⟨z7, hz7, hM⟩ := bind_some hM
  refine q_sl (As := [.long t, .int (vSeed (Int32.toNatClampNeg sq))]) (rest := []) ⟨hx, hb, hml, hown, hts⟩ (k_X9_mix l D g hz7) (va_cwS 2 hts gX9_nestOf_X9_mix rfl rfl rfl (by decide +kernel) ⟨Nat.le_of_ble_eq_true rfl, Nat.le_of_ble_eq_true rfl⟩) S rfl hl.1 rfl (Nat.le_of_ble_eq_true rfl) dX9_nestOf_7 ⟨Nat.le_of_ble_eq_true rfl, Nat.le_of_ble_eq_true rfl⟩ (fun r3 L1 f2 H locs S w7 => ?_)
  obtain ⟨ex7, eL, ef⟩ := w7
  rw [eL, ef] at S
  replace ex7 := ex7.symm
  subst ex7
  refine lv_lstore (lv' := [(5, .long z7), (0, .ref y), (1, .int sq), (2, .long t), (4, .int wh)]) hx hb dX9_nestOf_10 hl (by decide) rfl (fun ls hl => ?_)
  refine lv_lload hx hb dX9_nestOf_12 (lv_at hl 0 rfl) ?_
  refine lv_ldc2 (v := (4294967295 : Int64)) hx hb hown (hts (.constantLong RX9 86 (4294967295)) (by decide +kernel)) dX9_nestOf_14 ?_
  refine lv_land hx hb dX9_nestOf_17 ?_
  refine lv_aload_n hx hb dX9_nestOf_18 rfl (lv_at hl 1 rfl) ?_
  refine q_get hx hb hts in_X9 hown S m_y e_y (C := RX9) (T := TX9) (N := 23) rfl 3 (by decide) rfl (hts (.fieldLink RX9 20 "SieveCabinetModel" "size" "[I") (by decide +kernel)) dX9_nestOf_19 ?_
  refine lv_iload_n hx hb dX9_nestOf_22 rfl (lv_at hl 2 rfl) ?_
  obtain ⟨hi23, hM⟩ := ckx hM
  refine q_iald hx hb S m_aSize e_aSize hi23 dX9_nestOf_23 ?_
  refine lv_i2l (v := (Int32.toInt64 (vSize (Int32.toNatClampNeg sq)))) hx hb dX9_nestOf_24 rfl ?_
  obtain ⟨hq25, hM⟩ := ck hM
  refine lv_lrem hx hb dX9_nestOf_25 (hq25) ?_
  refine W.eq (g2 := F0 m 26 ls [.long (lrm (z7 &&& (4294967295 : Int64)) (Int32.toInt64 (vSize (Int32.toNatClampNeg sq))))]) rfl ?_
  refine lv_l2i (v := (Int64.toInt32 (lrm (z7 &&& (4294967295 : Int64)) (Int32.toInt64 (vSize (Int32.toNatClampNeg sq)))))) hx hb dX9_nestOf_26 rfl ?_
  refine lv_topi (fun y27 ey27 => ?_)
  have hM := lt_some hM ey27
  refine lv_istore (lv' := [(7, .int y27), (5, .long z7), (0, .ref y), (1, .int sq), (2, .long t), (4, .int wh)]) hx hb dX9_nestOf_27 hl (by decide) rfl (fun ls hl => ?_)
  refine lv_iload hx hb dX9_nestOf_29 (lv_at hl 5 rfl) ?_
  refine lv_if_ne (tgt := 39) hx hb dX9_nestOf_31 (by decide) (fun b31 => ?_) (fun b31 => ?_)
  · have hM := itF b31 hM
    refine lv_iload hx hb dX9_nestOf_39 (lv_at hl 0 rfl) ?_
    refine lv_lload hx hb dX9_nestOf_41 (lv_at hl 1 rfl) ?_
    obtain ⟨z43, hz43, hM⟩ := bind_some hM
    refine q_si (As := [.long z7]) (rest := [.int y27]) ⟨hx, hb, hml, hown, hts⟩ (k_X9_tagOf l D g hz43) (va_cwS 1 hts gX9_nestOf_X9_tagOf rfl rfl rfl (by decide +kernel) ⟨Nat.le_of_ble_eq_true rfl, Nat.le_of_ble_eq_true rfl⟩) S rfl hl.1 rfl (Nat.le_of_ble_eq_true rfl) dX9_nestOf_43 ⟨Nat.le_of_ble_eq_true rfl, Nat.le_of_ble_eq_true rfl⟩ (fun r6 L4 f5 H locs S w43 => ?_)
    obtain ⟨ex43, eL, ef⟩ := w43
    rw [eL, ef] at S
    replace ex43 := ex43.symm
    subst ex43
    refine lv_aload_n hx hb dX9_nestOf_46 rfl (lv_at hl 2 rfl) ?_
    refine q_get hx hb hts in_X9 hown S m_y e_y (C := RX9) (T := TX9) (N := 23) rfl 3 (by decide) rfl (hts (.fieldLink RX9 20 "SieveCabinetModel" "size" "[I") (by decide +kernel)) dX9_nestOf_47 ?_
    refine lv_iload_n hx hb dX9_nestOf_50 rfl (lv_at hl 3 rfl) ?_
    obtain ⟨hi51, hM⟩ := ckx hM
    refine q_iald hx hb S m_aSize e_aSize hi51 dX9_nestOf_51 ?_
    obtain ⟨z52, hz52, hM⟩ := bind_some hM
    refine q_si (As := [.int y27, .int z43, .int (vSize (Int32.toNatClampNeg sq))]) (rest := []) ⟨hx, hb, hml, hown, hts⟩ (k_X9_otherNest l D g hz52) (va_cwS 3 hts gX9_nestOf_X9_otherNest rfl rfl rfl (by decide +kernel) ⟨Nat.le_of_ble_eq_true rfl, Nat.le_of_ble_eq_true rfl⟩) S rfl hl.1 rfl (Nat.le_of_ble_eq_true rfl) dX9_nestOf_52 ⟨Nat.le_of_ble_eq_true rfl, Nat.le_of_ble_eq_true rfl⟩ (fun r9 L7 f8 H locs S w52 => ?_)
    obtain ⟨ex52, eL, ef⟩ := w52
    rw [eL, ef] at S
    replace ex52 := ex52.symm
    subst ex52
    subst hQQ
    exact q_reti (post := fun x L1 f1 => x = z ∧ L1 = L ∧ f1 = f) hx hb hr hlk S dX9_nestOf_55 (by decide) (by decide) (by have hz := Option.some.inj hM; subst hz; exact ⟨rfl, rfl, rfl⟩)
  · have hM := itT b31 hM
    refine lv_iload hx hb dX9_nestOf_34 (lv_at hl 0 rfl) ?_
    refine lv_goto (tgt := 55) hx hb dX9_nestOf_36 (by decide) ?_
    subst hQQ
    exact q_reti (post := fun x L1 f1 => x = z ∧ L1 = L ∧ f1 = f) hx hb hr hlk S dX9_nestOf_55 (by decide) (by decide) (by have hz := Option.some.inj hM; subst hz; exact ⟨rfl, rfl, rfl⟩)

def mX9_solvedPlace (mx : Int64) (i : Int32) (w : Int32) : Option (Int32) := if ¬ (Int32.toInt64 w) = 0 then (some ((i * w) + (Int64.toInt32 (lrm ((lush_ mx ((20 : Int32) * i)) &&& (1048575 : Int64)) (Int32.toInt64 w))))) else none
set_option maxHeartbeats 4000000 in
set_option maxRecDepth 100000 in
theorem k_X9_solvedPlace (l : Launch) (D : va_G) (g : Nat → ClassId) {L : List Nat} {f : Nat → va_E} {mx : Int64} {i : Int32} {w : Int32} {z : Int32}     (hM : mX9_solvedPlace mx i w = some z) : cI l yX9_solvedPlace wsX9_solvedPlace { frames := 0, cells := 0, slots := 0, locals := 0 } D g [.long mx, .int i, .int w] L f 0 0 (fun x L1 f1 => x = z ∧ L1 = L ∧ f1 = f) := by
  refine cI_of (cc := cX9_solvedPlace) (maxL := 4) (ret := (some .int)) (by decide) rfl (Nat.le_of_ble_eq_true rfl) ?_
  intro szz p e s m below meth c hx hb hr hml hts hown hlk hnm S ls hl
  have hl : lv_has ls 4 [(0, .long mx), (2, .int i), (3, .int w)] := hl
  unfold mX9_solvedPlace at hM
  refine W_gen (fun QQ hQQ => ?_)
  refine lv_iload_n hx hb dX9_solvedPlace_0 rfl (lv_at hl 1 rfl) ?_
  refine lv_iload_n hx hb dX9_solvedPlace_1 rfl (lv_at hl 2 rfl) ?_
  refine lv_imul hx hb dX9_solvedPlace_2 ?_
  refine lv_lload_n hx hb dX9_solvedPlace_3 rfl (lv_at hl 0 rfl) ?_
  refine lv_bipush (v := (20 : Int32)) hx hb dX9_solvedPlace_4 (by decide) ?_
  refine lv_iload_n hx hb dX9_solvedPlace_6 rfl (lv_at hl 1 rfl) ?_
  refine lv_imul hx hb dX9_solvedPlace_7 ?_
  refine lv_lushr (v := (lush_ mx ((20 : Int32) * i))) hx hb dX9_solvedPlace_8 rfl ?_
  refine lv_ldc2 (v := (1048575 : Int64)) hx hb hown (hts (.constantLong RX9 120 (1048575)) (by decide +kernel)) dX9_solvedPlace_9 ?_
  refine lv_land hx hb dX9_solvedPlace_12 ?_
  refine lv_iload_n hx hb dX9_solvedPlace_13 rfl (lv_at hl 2 rfl) ?_
  refine lv_i2l (v := (Int32.toInt64 w)) hx hb dX9_solvedPlace_14 rfl ?_
  obtain ⟨hq15, hM⟩ := ck hM
  refine lv_lrem hx hb dX9_solvedPlace_15 (hq15) ?_
  refine W.eq (g2 := F0 m 16 ls [.long (lrm ((lush_ mx ((20 : Int32) * i)) &&& (1048575 : Int64)) (Int32.toInt64 w)), .int (i * w)]) rfl ?_
  refine lv_l2i (v := (Int64.toInt32 (lrm ((lush_ mx ((20 : Int32) * i)) &&& (1048575 : Int64)) (Int32.toInt64 w)))) hx hb dX9_solvedPlace_16 rfl ?_
  refine lv_iadd hx hb dX9_solvedPlace_17 ?_
  subst hQQ
  exact q_reti (post := fun x L1 f1 => x = z ∧ L1 = L ∧ f1 = f) hx hb hr hlk S dX9_solvedPlace_18 (by decide) (by decide) (by have hz := Option.some.inj hM; subst hz; exact ⟨rfl, rfl, rfl⟩)

def mX9_solvedTag (mx : Int64) : Option (Int32) := some (((Int64.toInt32 (lush_ mx (60 : Int32))) * (16 : Int32)) + (Int64.toInt32 (mx &&& (15 : Int64))))
set_option maxHeartbeats 4000000 in
set_option maxRecDepth 100000 in
theorem k_X9_solvedTag (l : Launch) (D : va_G) (g : Nat → ClassId) {L : List Nat} {f : Nat → va_E} {mx : Int64} {z : Int32}     (hM : mX9_solvedTag mx = some z) : cI l yX9_solvedTag wsX9_solvedTag { frames := 0, cells := 0, slots := 0, locals := 0 } D g [.long mx] L f 0 0 (fun x L1 f1 => x = z ∧ L1 = L ∧ f1 = f) := by
  refine cI_of (cc := cX9_solvedTag) (maxL := 2) (ret := (some .int)) (by decide) rfl (Nat.le_of_ble_eq_true rfl) ?_
  intro szz p e s m below meth c hx hb hr hml hts hown hlk hnm S ls hl
  have hl : lv_has ls 2 [(0, .long mx)] := hl
  unfold mX9_solvedTag at hM
  refine W_gen (fun QQ hQQ => ?_)
  refine lv_lload_n hx hb dX9_solvedTag_0 rfl (lv_at hl 0 rfl) ?_
  refine lv_bipush (v := (60 : Int32)) hx hb dX9_solvedTag_1 (by decide) ?_
  refine lv_lushr (v := (lush_ mx (60 : Int32))) hx hb dX9_solvedTag_3 rfl ?_
  refine lv_l2i (v := (Int64.toInt32 (lush_ mx (60 : Int32)))) hx hb dX9_solvedTag_4 rfl ?_
  refine lv_bipush (v := (16 : Int32)) hx hb dX9_solvedTag_5 (by decide) ?_
  refine lv_imul hx hb dX9_solvedTag_7 ?_
  refine lv_lload_n hx hb dX9_solvedTag_8 rfl (lv_at hl 0 rfl) ?_
  refine lv_ldc2 (v := (15 : Int64)) hx hb hown (hts (.constantLong RX9 122 (15)) (by decide +kernel)) dX9_solvedTag_9 ?_
  refine lv_land hx hb dX9_solvedTag_12 ?_
  refine lv_l2i (v := (Int64.toInt32 (mx &&& (15 : Int64)))) hx hb dX9_solvedTag_13 rfl ?_
  refine lv_iadd hx hb dX9_solvedTag_14 ?_
  subst hQQ
  exact q_reti (post := fun x L1 f1 => x = z ∧ L1 = L ∧ f1 = f) hx hb hr hlk S dX9_solvedTag_15 (by decide) (by decide) (by have hz := Option.some.inj hM; subst hz; exact ⟨rfl, rfl, rfl⟩)

def mX9_layerLets_L20 (vBits : Nat → Int32) (vLayerSize : Nat → Int32) (sq : Int32) (i : Int32) (z9 : Int64) : Nat → Int32 → Int32 → Option (Int32 × Int32)
  | 0, _, _ => none
  | fu + 1, x8_20, x7_20 => if (3 : Int32) ≤ x8_20 then (some (x8_20, x7_20)) else (if ix ((sq * (20 : Int32)) + i) 600 = true then ((mX9_markOf z9 x8_20 (vLayerSize (Int32.toNatClampNeg ((sq * (20 : Int32)) + i)))).bind fun z41 => if x7_20 = 0 then (mX9_layerLets_L20 vBits vLayerSize sq i z9 fu (x8_20 + 1) (0 : Int32)) else (if ix ((((sq * (20 : Int32)) + i) * (128 : Int32)) + (z41 / (32 : Int32))) 76800 = true then (if (((vBits (Int32.toNatClampNeg ((((sq * (20 : Int32)) + i) * (128 : Int32)) + (z41 / (32 : Int32))))) >>> ((irm z41 (32 : Int32)) &&& 31)) &&& (1 : Int32)) = (1 : Int32) then (mX9_layerLets_L20 vBits vLayerSize sq i z9 fu (x8_20 + 1) (1 : Int32)) else (mX9_layerLets_L20 vBits vLayerSize sq i z9 fu (x8_20 + 1) (0 : Int32))) else none)) else none)
def mX9_layerLets (vSeed : Nat → Int32) (vBits : Nat → Int32) (vLayerSize : Nat → Int32) (sq : Int32) (i : Int32) (t : Int64) : Option (Int32) := if ix sq 30 = true then ((mX9_mix t ((vSeed (Int32.toNatClampNeg sq)) + i)).bind fun z9 => (mX9_layerLets_L20 vBits vLayerSize sq i z9 FU (0 : Int32) (1 : Int32)).bind fun o20 => if o20.2 = 0 ∨ o20.2 = 1 then (some o20.2) else none) else none
set_option maxHeartbeats 4000000 in
set_option maxRecDepth 100000 in
theorem k_X9_layerLets (l : Launch) (D : va_G) (g : Nat → ClassId) {L : List Nat} {f : Nat → va_E} {aAlone aBits aCome aContentMany aContents aGone aInWorld aIsOff aKept aKind aLayerCame aLayerSize aMarks aOffAt aOrder aRest aRestMany aRivals aRow aSeed aSize aWorlds y : Nat} {many : Int32} {vSeed : Nat → Int32} {vBits : Nat → Int32} {vLayerSize : Nat → Int32} {sq : Int32} {i : Int32} {t : Int64} {z : Int32} (m_y : y ∈ L) (e_y : f y = .inr (7, [.ref aWorlds, .ref aInWorld, .ref aKind, .ref aSize, .ref aMarks, .ref aSeed, .ref aContents, .ref aContentMany, .ref aRow, .ref aBits, .ref aLayerSize, .ref aLayerCame, .ref aRest, .ref aRestMany, .int many, .ref aCome, .ref aRivals, .ref aGone, .ref aOrder, .ref aOffAt, .ref aIsOff, .ref aAlone, .ref aKept])) (m_aSeed : aSeed ∈ L) (e_aSeed : f aSeed = .inl (g 0, 30, .inl vSeed)) (m_aBits : aBits ∈ L) (e_aBits : f aBits = .inl (g 0, 76800, .inl vBits)) (m_aLayerSize : aLayerSize ∈ L) (e_aLayerSize : f aLayerSize = .inl (g 0, 600, .inl vLayerSize))    (hM : mX9_layerLets vSeed vBits vLayerSize sq i t = some z) : cI l yX9_layerLets wsX9_layerLets { frames := 1, cells := 0, slots := 0, locals := 27 } D g [.ref y, .int sq, .int i, .long t] L f 0 0 (fun x L1 f1 => x = z ∧ L1 = L ∧ f1 = f) := by
  refine cI_of (cc := cX9_layerLets) (maxL := 10) (ret := (some .boolean)) (by decide) rfl (Nat.le_of_ble_eq_true rfl) ?_
  intro szz p e s m below meth c hx hb hr hml hts hown hlk hnm S ls hl
  have hl : lv_has ls 10 [(0, .ref y), (1, .int sq), (2, .int i), (3, .long t)] := hl
  have in_X9 : ∀ w ∈ wsX90, w ∈ wsX9_layerLets := by decide +kernel
  unfold mX9_layerLets at hM
  refine W_gen (fun QQ hQQ => ?_)
  refine lv_lload_n hx hb dX9_layerLets_0 rfl (lv_at hl 3 rfl) ?_
  refine lv_aload_n hx hb dX9_layerLets_1 rfl (lv_at hl 0 rfl) ?_
  refine q_get hx hb hts in_X9 hown S m_y e_y (C := RX9) (T := TX9) (N := 23) rfl 5 (by decide) rfl (hts (.fieldLink RX9 26 "SieveCabinetModel" "seed" "[I") (by decide +kernel)) dX9_layerLets_2 ?_
  refine lv_iload_n hx hb dX9_layerLets_5 rfl (lv_at hl 1 rfl) ?_
  obtain ⟨hi6, hM⟩ := ckx hM
  refine q_iald hx hb S m_aSeed e_aSeed hi6 dX9_layerLets_6 ?_
  refine lv_iload_n hx hb dX9_layerLets_7 rfl (lv_at hl 2 rfl) ?_
  refine lv_iadd hx hb dX9_layerLets_8 ?_
  obtain ⟨z9, hz9, hM⟩ := bind_some hM
  refine q_sl (As := [.long t, .int ((vSeed (Int32.toNatClampNeg sq)) + i)]) (rest := []) ⟨hx, hb, hml, hown, hts⟩ (k_X9_mix l D g hz9) (va_cwS 2 hts gX9_layerLets_X9_mix rfl rfl rfl (by decide +kernel) ⟨Nat.le_of_ble_eq_true rfl, Nat.le_of_ble_eq_true rfl⟩) S rfl hl.1 rfl (Nat.le_of_ble_eq_true rfl) dX9_layerLets_9 ⟨Nat.le_of_ble_eq_true rfl, Nat.le_of_ble_eq_true rfl⟩ (fun r3 L1 f2 H locs S w9 => ?_)
  obtain ⟨ex9, eL, ef⟩ := w9
  rw [eL, ef] at S
  replace ex9 := ex9.symm
  subst ex9
  refine lv_lstore (lv' := [(5, .long z9), (0, .ref y), (1, .int sq), (2, .int i), (3, .long t)]) hx hb dX9_layerLets_12 hl (by decide) rfl (fun ls hl => ?_)
  refine lv_iconst (v := (1 : Int32)) hx hb dX9_layerLets_14 (by decide) ?_
  refine lv_istore (lv' := [(7, .int (1 : Int32)), (5, .long z9), (0, .ref y), (1, .int sq), (2, .int i), (3, .long t)]) hx hb dX9_layerLets_15 hl (by decide) rfl (fun ls hl => ?_)
  refine lv_iconst (v := (0 : Int32)) hx hb dX9_layerLets_17 (by decide) ?_
  refine lv_istore (lv' := [(8, .int (0 : Int32)), (7, .int (1 : Int32)), (5, .long z9), (0, .ref y), (1, .int sq), (2, .int i), (3, .long t)]) hx hb dX9_layerLets_18 hl (by decide) rfl (fun ls hl => ?_)
  obtain ⟨o20, ho20, hM⟩ := bind_some hM
  have EX20 : ∀ (H : Heap) (locs : List Loc) (ls : Array Slot), PS D g (va_A (va_pl L f) szz) s.heap s L f H locs → lv_has ls 10 [(7, .int o20.2)] → W p l e { frames := 1, cells := 0, slots := 0, locals := 27 } s m [.ref y, .int sq, .int i, .long t].toArray below meth c H locs 0 0 QQ (F0 m 97 ls []) := by
    intro H locs ls S hl
    refine lv_iload hx hb dX9_layerLets_97 (lv_at hl 0 rfl) ?_
    obtain ⟨hbz, hM⟩ := ck hM
    subst hQQ
    exact q_retz (post := fun x L1 f1 => x = z ∧ L1 = L ∧ f1 = f) hx hb hr hlk S dX9_layerLets_99 hbz (by decide) (by decide) (by have hz := Option.some.inj hM; subst hz; exact ⟨rfl, rfl, rfl⟩)
  have LP20 : ∀ (fu : Nat) (x8_20 : Int32) (x7_20 : Int32) (H : Heap) (locs : List Loc) (ls : Array Slot), (mX9_layerLets_L20 vBits vLayerSize sq i z9) fu x8_20 x7_20 = some o20 → PS D g (va_A (va_pl L f) szz) s.heap s L f H locs → lv_has ls 10 [(8, .int x8_20), (7, .int x7_20), (5, .long z9), (0, .ref y), (1, .int sq), (2, .int i)] → W p l e { frames := 1, cells := 0, slots := 0, locals := 27 } s m [.ref y, .int sq, .int i, .long t].toArray below meth c H locs 0 0 QQ (F0 m 20 ls []) := by
    intro fu
    induction fu with
    | zero => intro x8_20 x7_20 H locs ls ho20 S hl; exact no_some ho20
    | succ fu ih20 =>
      intro x8_20 x7_20 H locs ls ho20 S hl
      rw [mX9_layerLets_L20] at ho20
      refine lv_iload hx hb dX9_layerLets_20 (lv_at hl 0 rfl) ?_
      refine lv_iconst (v := (3 : Int32)) hx hb dX9_layerLets_22 (by decide) ?_
      refine lv_icmp_ge (tgt := 97) hx hb dX9_layerLets_23 (by decide) (fun b23 => ?_) (fun b23 => ?_)
      · have ho20 := itT b23 ho20
        obtain rfl := Option.some.inj ho20
        exact EX20 _ _ _ S (lv_sub hl [1] rfl)
      · have ho20 := itF b23 ho20
        refine lv_lload hx hb dX9_layerLets_26 (lv_at hl 2 rfl) ?_
        refine lv_iload hx hb dX9_layerLets_28 (lv_at hl 0 rfl) ?_
        refine lv_aload_n hx hb dX9_layerLets_30 rfl (lv_at hl 3 rfl) ?_
        refine q_get hx hb hts in_X9 hown S m_y e_y (C := RX9) (T := TX9) (N := 23) rfl 10 (by decide) rfl (hts (.fieldLink RX9 43 "SieveCabinetModel" "layerSize" "[I") (by decide +kernel)) dX9_layerLets_31 ?_
        refine lv_iload_n hx hb dX9_layerLets_34 rfl (lv_at hl 4 rfl) ?_
        refine lv_bipush (v := (20 : Int32)) hx hb dX9_layerLets_35 (by decide) ?_
        refine lv_imul hx hb dX9_layerLets_37 ?_
        refine lv_iload_n hx hb dX9_layerLets_38 rfl (lv_at hl 5 rfl) ?_
        refine lv_iadd hx hb dX9_layerLets_39 ?_
        obtain ⟨hi40, ho20⟩ := ckx ho20
        refine q_iald hx hb S m_aLayerSize e_aLayerSize hi40 dX9_layerLets_40 ?_
        obtain ⟨z41, hz41, ho20⟩ := bind_some ho20
        refine q_si (As := [.long z9, .int x8_20, .int (vLayerSize (Int32.toNatClampNeg ((sq * (20 : Int32)) + i)))]) (rest := []) ⟨hx, hb, hml, hown, hts⟩ (k_X9_markOf l D g hz41) (va_cwS 3 hts gX9_layerLets_X9_markOf rfl rfl rfl (by decide +kernel) ⟨Nat.le_of_ble_eq_true rfl, Nat.le_of_ble_eq_true rfl⟩) S rfl hl.1 rfl (Nat.le_of_ble_eq_true rfl) dX9_layerLets_41 ⟨Nat.le_of_ble_eq_true rfl, Nat.le_of_ble_eq_true rfl⟩ (fun r6 L4 f5 H locs S w41 => ?_)
        obtain ⟨ex41, eL, ef⟩ := w41
        rw [eL, ef] at S
        replace ex41 := ex41.symm
        subst ex41
        refine lv_istore (lv' := [(9, .int z41), (8, .int x8_20), (7, .int x7_20), (5, .long z9), (0, .ref y), (1, .int sq), (2, .int i)]) hx hb dX9_layerLets_44 hl (by decide) rfl (fun ls hl => ?_)
        refine lv_iload hx hb dX9_layerLets_46 (lv_at hl 2 rfl) ?_
        refine lv_if_eq (tgt := 88) hx hb dX9_layerLets_48 (by decide) (fun b48 => ?_) (fun b48 => ?_)
        · have ho20 := itT b48 ho20
          refine lv_iconst (v := (0 : Int32)) hx hb dX9_layerLets_88 (by decide) ?_
          refine lv_istore (lv' := [(7, .int (0 : Int32)), (9, .int z41), (8, .int x8_20), (5, .long z9), (0, .ref y), (1, .int sq), (2, .int i)]) hx hb dX9_layerLets_89 hl (by decide) rfl (fun ls hl => ?_)
          refine lv_iinc (v := (x8_20 + 1)) (lv' := [(8, .int (x8_20 + 1)), (7, .int (0 : Int32)), (9, .int z41), (5, .long z9), (0, .ref y), (1, .int sq), (2, .int i)]) hx hb dX9_layerLets_91 hl (k := 2) rfl rfl (by decide) rfl (fun ls hl => ?_)
          refine lv_goto (tgt := 20) hx hb dX9_layerLets_94 (by decide) ?_
          exact ih20 (x8_20 + 1) (0 : Int32) _ _ _ ho20 S (lv_sub hl [0, 1, 3, 4, 5, 6] rfl)
        · have ho20 := itF b48 ho20
          refine lv_aload_n hx hb dX9_layerLets_51 rfl (lv_at hl 4 rfl) ?_
          refine q_get hx hb hts in_X9 hown S m_y e_y (C := RX9) (T := TX9) (N := 23) rfl 9 (by decide) rfl (hts (.fieldLink RX9 40 "SieveCabinetModel" "bits" "[I") (by decide +kernel)) dX9_layerLets_52 ?_
          refine lv_iload_n hx hb dX9_layerLets_55 rfl (lv_at hl 5 rfl) ?_
          refine lv_bipush (v := (20 : Int32)) hx hb dX9_layerLets_56 (by decide) ?_
          refine lv_imul hx hb dX9_layerLets_58 ?_
          refine lv_iload_n hx hb dX9_layerLets_59 rfl (lv_at hl 6 rfl) ?_
          refine lv_iadd hx hb dX9_layerLets_60 ?_
          refine lv_sipush (v := (128 : Int32)) hx hb dX9_layerLets_61 (by decide) ?_
          refine lv_imul hx hb dX9_layerLets_64 ?_
          refine lv_iload hx hb dX9_layerLets_65 (lv_at hl 0 rfl) ?_
          refine lv_bipush (v := (32 : Int32)) hx hb dX9_layerLets_67 (by decide) ?_
          refine lv_idiv hx hb dX9_layerLets_69 (by decide) ?_
          refine lv_iadd hx hb dX9_layerLets_70 ?_
          obtain ⟨hi71, ho20⟩ := ckx ho20
          refine q_iald hx hb S m_aBits e_aBits hi71 dX9_layerLets_71 ?_
          refine lv_iload hx hb dX9_layerLets_72 (lv_at hl 0 rfl) ?_
          refine lv_bipush (v := (32 : Int32)) hx hb dX9_layerLets_74 (by decide) ?_
          refine lv_irem hx hb dX9_layerLets_76 (by decide) ?_
          refine W.eq (g2 := F0 m 77 ls [.int (irm z41 (32 : Int32)), .int (vBits (Int32.toNatClampNeg ((((sq * (20 : Int32)) + i) * (128 : Int32)) + (z41 / (32 : Int32)))))]) rfl ?_
          refine lv_ishr hx hb dX9_layerLets_77 ?_
          refine lv_iconst (v := (1 : Int32)) hx hb dX9_layerLets_78 (by decide) ?_
          refine lv_iand hx hb dX9_layerLets_79 ?_
          refine lv_iconst (v := (1 : Int32)) hx hb dX9_layerLets_80 (by decide) ?_
          refine lv_icmp_ne (tgt := 88) hx hb dX9_layerLets_81 (by decide) (fun b81 => ?_) (fun b81 => ?_)
          · have ho20 := itF b81 ho20
            refine lv_iconst (v := (0 : Int32)) hx hb dX9_layerLets_88 (by decide) ?_
            refine lv_istore (lv' := [(7, .int (0 : Int32)), (9, .int z41), (8, .int x8_20), (5, .long z9), (0, .ref y), (1, .int sq), (2, .int i)]) hx hb dX9_layerLets_89 hl (by decide) rfl (fun ls hl => ?_)
            refine lv_iinc (v := (x8_20 + 1)) (lv' := [(8, .int (x8_20 + 1)), (7, .int (0 : Int32)), (9, .int z41), (5, .long z9), (0, .ref y), (1, .int sq), (2, .int i)]) hx hb dX9_layerLets_91 hl (k := 2) rfl rfl (by decide) rfl (fun ls hl => ?_)
            refine lv_goto (tgt := 20) hx hb dX9_layerLets_94 (by decide) ?_
            exact ih20 (x8_20 + 1) (0 : Int32) _ _ _ ho20 S (lv_sub hl [0, 1, 3, 4, 5, 6] rfl)
          · have ho20 := itT b81 ho20
            refine lv_iconst (v := (1 : Int32)) hx hb dX9_layerLets_84 (by decide) ?_
            refine lv_goto (tgt := 89) hx hb dX9_layerLets_85 (by decide) ?_
            refine lv_istore (lv' := [(7, .int (1 : Int32)), (9, .int z41), (8, .int x8_20), (5, .long z9), (0, .ref y), (1, .int sq), (2, .int i)]) hx hb dX9_layerLets_89 hl (by decide) rfl (fun ls hl => ?_)
            refine lv_iinc (v := (x8_20 + 1)) (lv' := [(8, .int (x8_20 + 1)), (7, .int (1 : Int32)), (9, .int z41), (5, .long z9), (0, .ref y), (1, .int sq), (2, .int i)]) hx hb dX9_layerLets_91 hl (k := 2) rfl rfl (by decide) rfl (fun ls hl => ?_)
            refine lv_goto (tgt := 20) hx hb dX9_layerLets_94 (by decide) ?_
            exact ih20 (x8_20 + 1) (1 : Int32) _ _ _ ho20 S (lv_sub hl [0, 1, 3, 4, 5, 6] rfl)
  exact LP20 FU (0 : Int32) (1 : Int32) _ _ _ ho20 S (lv_sub hl [0, 1, 2, 3, 4, 5] rfl)

def mX9_layeredLets_L82 (vRest : Nat → Int64) (vRestMany : Nat → Int32) (sq : Int32) (t : Int64) : Nat → Int32 → Int32 → Option (Int32 × Int32)
  | 0, _, _ => none
  | fu + 1, x6_82, x5_82 => if ix sq 30 = true then (if (vRestMany (Int32.toNatClampNeg sq)) ≤ x6_82 then (some (x6_82, x5_82)) else (if x5_82 = 0 then (if ix ((sq * (1000 : Int32)) + x6_82) 30000 = true then (if (lg_cmp (vRest (Int32.toNatClampNeg ((sq * (1000 : Int32)) + x6_82))) t) = 0 then (mX9_layeredLets_L82 vRest vRestMany sq t fu (x6_82 + 1) (1 : Int32)) else (mX9_layeredLets_L82 vRest vRestMany sq t fu (x6_82 + 1) (0 : Int32))) else none) else (mX9_layeredLets_L82 vRest vRestMany sq t fu (x6_82 + 1) (1 : Int32)))) else none
def mX9_layeredLets_L3 (vSize : Nat → Int32) (vSeed : Nat → Int32) (vBits : Nat → Int32) (vLayerSize : Nat → Int32) (sq : Int32) (t : Int64) : Nat → Int32 → Option ((Int32) ⊕ Int32)
  | 0, _ => none
  | fu + 1, x4_3 => if ix sq 30 = true then (if (vSize (Int32.toNatClampNeg sq)) ≤ x4_3 then (some (.inr x4_3)) else ((mX9_layerLets vSeed vBits vLayerSize sq x4_3 t).bind fun z19 => if z19 = 0 then (if (irm x4_3 (2 : Int32)) = (1 : Int32) then (some (.inl (1 : Int32))) else (some (.inl (0 : Int32)))) else (mX9_layeredLets_L3 vSize vSeed vBits vLayerSize sq t fu (x4_3 + 1)))) else none
def mX9_layeredLets (vSize : Nat → Int32) (vSeed : Nat → Int32) (vBits : Nat → Int32) (vLayerSize : Nat → Int32) (vRest : Nat → Int64) (vRestMany : Nat → Int32) (sq : Int32) (t : Int64) : Option (Int32) := (mX9_layeredLets_L3 vSize vSeed vBits vLayerSize sq t FU (0 : Int32)).bind fun o3 => Sum.elim (fun r_ => some r_) (fun s3 => if ix sq 30 = true then (if (irm (vSize (Int32.toNatClampNeg sq)) (2 : Int32)) = (1 : Int32) then (if ix sq 30 = true then (if (vRestMany (Int32.toNatClampNeg sq)) = 0 then (some (1 : Int32)) else ((mX9_layeredLets_L82 vRest vRestMany sq t FU (0 : Int32) (0 : Int32)).bind fun o82 => if (1 : Int32) = o82.2 then (some (0 : Int32)) else (some (1 : Int32)))) else none) else (if ix sq 30 = true then (if (vRestMany (Int32.toNatClampNeg sq)) = 0 then (some (0 : Int32)) else ((mX9_layeredLets_L82 vRest vRestMany sq t FU (0 : Int32) (0 : Int32)).bind fun o82 => if (0 : Int32) = o82.2 then (some (0 : Int32)) else (some (1 : Int32)))) else none)) else none) o3
set_option maxHeartbeats 4000000 in
set_option maxRecDepth 100000 in
theorem k_X9_layeredLets (l : Launch) (D : va_G) (g : Nat → ClassId) {L : List Nat} {f : Nat → va_E} {aAlone aBits aCome aContentMany aContents aGone aInWorld aIsOff aKept aKind aLayerCame aLayerSize aMarks aOffAt aOrder aRest aRestMany aRivals aRow aSeed aSize aWorlds y : Nat} {many : Int32} {vSize : Nat → Int32} {vSeed : Nat → Int32} {vBits : Nat → Int32} {vLayerSize : Nat → Int32} {vRest : Nat → Int64} {vRestMany : Nat → Int32} {sq : Int32} {t : Int64} {z : Int32} (m_y : y ∈ L) (e_y : f y = .inr (7, [.ref aWorlds, .ref aInWorld, .ref aKind, .ref aSize, .ref aMarks, .ref aSeed, .ref aContents, .ref aContentMany, .ref aRow, .ref aBits, .ref aLayerSize, .ref aLayerCame, .ref aRest, .ref aRestMany, .int many, .ref aCome, .ref aRivals, .ref aGone, .ref aOrder, .ref aOffAt, .ref aIsOff, .ref aAlone, .ref aKept])) (m_aSize : aSize ∈ L) (e_aSize : f aSize = .inl (g 0, 30, .inl vSize)) (m_aSeed : aSeed ∈ L) (e_aSeed : f aSeed = .inl (g 0, 30, .inl vSeed)) (m_aBits : aBits ∈ L) (e_aBits : f aBits = .inl (g 0, 76800, .inl vBits)) (m_aLayerSize : aLayerSize ∈ L) (e_aLayerSize : f aLayerSize = .inl (g 0, 600, .inl vLayerSize)) (m_aRest : aRest ∈ L) (e_aRest : f aRest = .inl (g 1, 30000, .inr (.inl vRest))) (m_aRestMany : aRestMany ∈ L) (e_aRestMany : f aRestMany = .inl (g 0, 30, .inl vRestMany))    (hM : mX9_layeredLets vSize vSeed vBits vLayerSize vRest vRestMany sq t = some z) : cI l yX9_layeredLets wsX9_layeredLets { frames := 2, cells := 0, slots := 0, locals := 56 } D g [.ref y, .int sq, .long t] L f 0 0 (fun x L1 f1 => x = z ∧ L1 = L ∧ f1 = f) := by
  refine cI_of (cc := cX9_layeredLets) (maxL := 7) (ret := (some .boolean)) (by decide) rfl (Nat.le_of_ble_eq_true rfl) ?_
  intro szz p e s m below meth c hx hb hr hml hts hown hlk hnm S ls hl
  have hl : lv_has ls 7 [(0, .ref y), (1, .int sq), (2, .long t)] := hl
  have in_X9 : ∀ w ∈ wsX90, w ∈ wsX9_layeredLets := by decide +kernel
  unfold mX9_layeredLets at hM
  refine W_gen (fun QQ hQQ => ?_)
  refine lv_iconst (v := (0 : Int32)) hx hb dX9_layeredLets_0 (by decide) ?_
  refine lv_istore (lv' := [(4, .int (0 : Int32)), (0, .ref y), (1, .int sq), (2, .long t)]) hx hb dX9_layeredLets_1 hl (by decide) rfl (fun ls hl => ?_)
  obtain ⟨o3, ho3, hM⟩ := bind_some hM
  have EX3 : ∀ (s3 : Int32), o3 = .inr s3 → ∀ (H : Heap) (locs : List Loc) (ls : Array Slot), PS D g (va_A (va_pl L f) szz) s.heap s L f H locs → lv_has ls 7 [(0, .ref y), (1, .int sq), (2, .long t)] → W p l e { frames := 2, cells := 0, slots := 0, locals := 56 } s m [.ref y, .int sq, .long t].toArray below meth c H locs 0 0 QQ (F0 m 45 ls []) := by
    intro s3 eo3
    rw [eo3] at hM
    simp only [Sum.elim_inr] at hM
    intro H locs ls S hl
    refine lv_aload_n hx hb dX9_layeredLets_45 rfl (lv_at hl 0 rfl) ?_
    refine q_get hx hb hts in_X9 hown S m_y e_y (C := RX9) (T := TX9) (N := 23) rfl 3 (by decide) rfl (hts (.fieldLink RX9 20 "SieveCabinetModel" "size" "[I") (by decide +kernel)) dX9_layeredLets_46 ?_
    refine lv_iload_n hx hb dX9_layeredLets_49 rfl (lv_at hl 1 rfl) ?_
    obtain ⟨hi50, hM⟩ := ckx hM
    refine q_iald hx hb S m_aSize e_aSize hi50 dX9_layeredLets_50 ?_
    refine lv_iconst (v := (2 : Int32)) hx hb dX9_layeredLets_51 (by decide) ?_
    refine lv_irem hx hb dX9_layeredLets_52 (by decide) ?_
    refine W.eq (g2 := F0 m 53 ls [.int (irm (vSize (Int32.toNatClampNeg sq)) (2 : Int32))]) rfl ?_
    refine lv_iconst (v := (1 : Int32)) hx hb dX9_layeredLets_53 (by decide) ?_
    refine lv_icmp_ne (tgt := 61) hx hb dX9_layeredLets_54 (by decide) (fun b54 => ?_) (fun b54 => ?_)
    · have hM := itF b54 hM
      refine lv_iconst (v := (0 : Int32)) hx hb dX9_layeredLets_61 (by decide) ?_
      refine lv_istore (lv' := [(4, .int (0 : Int32)), (0, .ref y), (1, .int sq), (2, .long t)]) hx hb dX9_layeredLets_62 hl (by decide) rfl (fun ls hl => ?_)
      refine lv_aload_n hx hb dX9_layeredLets_64 rfl (lv_at hl 1 rfl) ?_
      refine q_get hx hb hts in_X9 hown S m_y e_y (C := RX9) (T := TX9) (N := 23) rfl 13 (by decide) rfl (hts (.fieldLink RX9 52 "SieveCabinetModel" "restMany" "[I") (by decide +kernel)) dX9_layeredLets_65 ?_
      refine lv_iload_n hx hb dX9_layeredLets_68 rfl (lv_at hl 2 rfl) ?_
      obtain ⟨hi69, hM⟩ := ckx hM
      refine q_iald hx hb S m_aRestMany e_aRestMany hi69 dX9_layeredLets_69 ?_
      refine lv_if_ne (tgt := 76) hx hb dX9_layeredLets_70 (by decide) (fun b70 => ?_) (fun b70 => ?_)
      · have hM := itF b70 hM
        refine lv_iconst (v := (0 : Int32)) hx hb dX9_layeredLets_76 (by decide) ?_
        refine lv_istore (lv' := [(5, .int (0 : Int32)), (4, .int (0 : Int32)), (0, .ref y), (1, .int sq), (2, .long t)]) hx hb dX9_layeredLets_77 hl (by decide) rfl (fun ls hl => ?_)
        refine lv_iconst (v := (0 : Int32)) hx hb dX9_layeredLets_79 (by decide) ?_
        refine lv_istore (lv' := [(6, .int (0 : Int32)), (5, .int (0 : Int32)), (4, .int (0 : Int32)), (0, .ref y), (1, .int sq), (2, .long t)]) hx hb dX9_layeredLets_80 hl (by decide) rfl (fun ls hl => ?_)
        obtain ⟨o82, ho82, hM⟩ := bind_some hM
        have EX82 : ∀ (H : Heap) (locs : List Loc) (ls : Array Slot), PS D g (va_A (va_pl L f) szz) s.heap s L f H locs → lv_has ls 7 [(5, .int o82.2), (4, .int (0 : Int32))] → W p l e { frames := 2, cells := 0, slots := 0, locals := 56 } s m [.ref y, .int sq, .long t].toArray below meth c H locs 0 0 QQ (F0 m 129 ls []) := by
          intro H locs ls S hl
          refine lv_iload hx hb dX9_layeredLets_129 (lv_at hl 1 rfl) ?_
          refine lv_iload hx hb dX9_layeredLets_131 (lv_at hl 0 rfl) ?_
          refine lv_icmp_eq (tgt := 140) hx hb dX9_layeredLets_133 (by decide) (fun b133 => ?_) (fun b133 => ?_)
          · have hM := itT b133 hM
            refine lv_iconst (v := (0 : Int32)) hx hb dX9_layeredLets_140 (by decide) ?_
            subst hQQ
            exact q_retz (post := fun x L1 f1 => x = z ∧ L1 = L ∧ f1 = f) hx hb hr hlk S dX9_layeredLets_141 (by decide) (by decide) (by decide) (by have hz := Option.some.inj hM; subst hz; exact ⟨rfl, rfl, rfl⟩)
          · have hM := itF b133 hM
            refine lv_iconst (v := (1 : Int32)) hx hb dX9_layeredLets_136 (by decide) ?_
            refine lv_goto (tgt := 141) hx hb dX9_layeredLets_137 (by decide) ?_
            subst hQQ
            exact q_retz (post := fun x L1 f1 => x = z ∧ L1 = L ∧ f1 = f) hx hb hr hlk S dX9_layeredLets_141 (by decide) (by decide) (by decide) (by have hz := Option.some.inj hM; subst hz; exact ⟨rfl, rfl, rfl⟩)
        have LP82 : ∀ (fu : Nat) (x6_82 : Int32) (x5_82 : Int32) (H : Heap) (locs : List Loc) (ls : Array Slot), (mX9_layeredLets_L82 vRest vRestMany sq t) fu x6_82 x5_82 = some o82 → PS D g (va_A (va_pl L f) szz) s.heap s L f H locs → lv_has ls 7 [(6, .int x6_82), (5, .int x5_82), (4, .int (0 : Int32)), (0, .ref y), (1, .int sq), (2, .long t)] → W p l e { frames := 2, cells := 0, slots := 0, locals := 56 } s m [.ref y, .int sq, .long t].toArray below meth c H locs 0 0 QQ (F0 m 82 ls []) := by
          intro fu
          induction fu with
          | zero => intro x6_82 x5_82 H locs ls ho82 S hl; exact no_some ho82
          | succ fu ih82 =>
            intro x6_82 x5_82 H locs ls ho82 S hl
            rw [mX9_layeredLets_L82] at ho82
            refine lv_iload hx hb dX9_layeredLets_82 (lv_at hl 0 rfl) ?_
            refine lv_aload_n hx hb dX9_layeredLets_84 rfl (lv_at hl 3 rfl) ?_
            refine q_get hx hb hts in_X9 hown S m_y e_y (C := RX9) (T := TX9) (N := 23) rfl 13 (by decide) rfl (hts (.fieldLink RX9 52 "SieveCabinetModel" "restMany" "[I") (by decide +kernel)) dX9_layeredLets_85 ?_
            refine lv_iload_n hx hb dX9_layeredLets_88 rfl (lv_at hl 4 rfl) ?_
            obtain ⟨hi89, ho82⟩ := ckx ho82
            refine q_iald hx hb S m_aRestMany e_aRestMany hi89 dX9_layeredLets_89 ?_
            refine lv_icmp_ge (tgt := 129) hx hb dX9_layeredLets_90 (by decide) (fun b90 => ?_) (fun b90 => ?_)
            · have ho82 := itT b90 ho82
              obtain rfl := Option.some.inj ho82
              exact EX82 _ _ _ S (lv_sub hl [1, 2] rfl)
            · have ho82 := itF b90 ho82
              refine lv_iload hx hb dX9_layeredLets_93 (lv_at hl 1 rfl) ?_
              refine lv_if_ne (tgt := 116) hx hb dX9_layeredLets_95 (by decide) (fun b95 => ?_) (fun b95 => ?_)
              · have ho82 := itF b95 ho82
                refine lv_iconst (v := (1 : Int32)) hx hb dX9_layeredLets_116 (by decide) ?_
                refine lv_goto (tgt := 121) hx hb dX9_layeredLets_117 (by decide) ?_
                refine lv_istore (lv' := [(5, .int (1 : Int32)), (6, .int x6_82), (4, .int (0 : Int32)), (0, .ref y), (1, .int sq), (2, .long t)]) hx hb dX9_layeredLets_121 hl (by decide) rfl (fun ls hl => ?_)
                refine lv_iinc (v := (x6_82 + 1)) (lv' := [(6, .int (x6_82 + 1)), (5, .int (1 : Int32)), (4, .int (0 : Int32)), (0, .ref y), (1, .int sq), (2, .long t)]) hx hb dX9_layeredLets_123 hl (k := 1) rfl rfl (by decide) rfl (fun ls hl => ?_)
                refine lv_goto (tgt := 82) hx hb dX9_layeredLets_126 (by decide) ?_
                exact ih82 (x6_82 + 1) (1 : Int32) _ _ _ ho82 S (lv_sub hl [0, 1, 2, 3, 4, 5] rfl)
              · have ho82 := itT b95 ho82
                refine lv_aload_n hx hb dX9_layeredLets_98 rfl (lv_at hl 3 rfl) ?_
                refine q_get hx hb hts in_X9 hown S m_y e_y (C := RX9) (T := TX9) (N := 23) rfl 12 (by decide) rfl (hts (.fieldLink RX9 49 "SieveCabinetModel" "rest" "[J") (by decide +kernel)) dX9_layeredLets_99 ?_
                refine lv_iload_n hx hb dX9_layeredLets_102 rfl (lv_at hl 4 rfl) ?_
                refine lv_sipush (v := (1000 : Int32)) hx hb dX9_layeredLets_103 (by decide) ?_
                refine lv_imul hx hb dX9_layeredLets_106 ?_
                refine lv_iload hx hb dX9_layeredLets_107 (lv_at hl 0 rfl) ?_
                refine lv_iadd hx hb dX9_layeredLets_109 ?_
                obtain ⟨hi110, ho82⟩ := ckx ho82
                refine q_lald hx hb S m_aRest e_aRest hi110 dX9_layeredLets_110 ?_
                refine lv_lload_n hx hb dX9_layeredLets_111 rfl (lv_at hl 5 rfl) ?_
                refine W.lcmp hx hb dX9_layeredLets_112 ?_
                refine lv_if_ne (tgt := 120) hx hb dX9_layeredLets_113 (by decide) (fun b113 => ?_) (fun b113 => ?_)
                · have ho82 := itF b113 ho82
                  refine lv_iconst (v := (0 : Int32)) hx hb dX9_layeredLets_120 (by decide) ?_
                  refine lv_istore (lv' := [(5, .int (0 : Int32)), (6, .int x6_82), (4, .int (0 : Int32)), (0, .ref y), (1, .int sq), (2, .long t)]) hx hb dX9_layeredLets_121 hl (by decide) rfl (fun ls hl => ?_)
                  refine lv_iinc (v := (x6_82 + 1)) (lv' := [(6, .int (x6_82 + 1)), (5, .int (0 : Int32)), (4, .int (0 : Int32)), (0, .ref y), (1, .int sq), (2, .long t)]) hx hb dX9_layeredLets_123 hl (k := 1) rfl rfl (by decide) rfl (fun ls hl => ?_)
                  refine lv_goto (tgt := 82) hx hb dX9_layeredLets_126 (by decide) ?_
                  exact ih82 (x6_82 + 1) (0 : Int32) _ _ _ ho82 S (lv_sub hl [0, 1, 2, 3, 4, 5] rfl)
                · have ho82 := itT b113 ho82
                  refine lv_iconst (v := (1 : Int32)) hx hb dX9_layeredLets_116 (by decide) ?_
                  refine lv_goto (tgt := 121) hx hb dX9_layeredLets_117 (by decide) ?_
                  refine lv_istore (lv' := [(5, .int (1 : Int32)), (6, .int x6_82), (4, .int (0 : Int32)), (0, .ref y), (1, .int sq), (2, .long t)]) hx hb dX9_layeredLets_121 hl (by decide) rfl (fun ls hl => ?_)
                  refine lv_iinc (v := (x6_82 + 1)) (lv' := [(6, .int (x6_82 + 1)), (5, .int (1 : Int32)), (4, .int (0 : Int32)), (0, .ref y), (1, .int sq), (2, .long t)]) hx hb dX9_layeredLets_123 hl (k := 1) rfl rfl (by decide) rfl (fun ls hl => ?_)
                  refine lv_goto (tgt := 82) hx hb dX9_layeredLets_126 (by decide) ?_
                  exact ih82 (x6_82 + 1) (1 : Int32) _ _ _ ho82 S (lv_sub hl [0, 1, 2, 3, 4, 5] rfl)
        exact LP82 FU (0 : Int32) (0 : Int32) _ _ _ ho82 S (lv_sub hl [0, 1, 2, 3, 4, 5] rfl)
      · have hM := itT b70 hM
        refine lv_iload hx hb dX9_layeredLets_73 (lv_at hl 0 rfl) ?_
        subst hQQ
        exact q_retz (post := fun x L1 f1 => x = z ∧ L1 = L ∧ f1 = f) hx hb hr hlk S dX9_layeredLets_75 (by decide) (by decide) (by decide) (by have hz := Option.some.inj hM; subst hz; exact ⟨rfl, rfl, rfl⟩)
    · have hM := itT b54 hM
      refine lv_iconst (v := (1 : Int32)) hx hb dX9_layeredLets_57 (by decide) ?_
      refine lv_goto (tgt := 62) hx hb dX9_layeredLets_58 (by decide) ?_
      refine lv_istore (lv' := [(4, .int (1 : Int32)), (0, .ref y), (1, .int sq), (2, .long t)]) hx hb dX9_layeredLets_62 hl (by decide) rfl (fun ls hl => ?_)
      refine lv_aload_n hx hb dX9_layeredLets_64 rfl (lv_at hl 1 rfl) ?_
      refine q_get hx hb hts in_X9 hown S m_y e_y (C := RX9) (T := TX9) (N := 23) rfl 13 (by decide) rfl (hts (.fieldLink RX9 52 "SieveCabinetModel" "restMany" "[I") (by decide +kernel)) dX9_layeredLets_65 ?_
      refine lv_iload_n hx hb dX9_layeredLets_68 rfl (lv_at hl 2 rfl) ?_
      obtain ⟨hi69, hM⟩ := ckx hM
      refine q_iald hx hb S m_aRestMany e_aRestMany hi69 dX9_layeredLets_69 ?_
      refine lv_if_ne (tgt := 76) hx hb dX9_layeredLets_70 (by decide) (fun b70 => ?_) (fun b70 => ?_)
      · have hM := itF b70 hM
        refine lv_iconst (v := (0 : Int32)) hx hb dX9_layeredLets_76 (by decide) ?_
        refine lv_istore (lv' := [(5, .int (0 : Int32)), (4, .int (1 : Int32)), (0, .ref y), (1, .int sq), (2, .long t)]) hx hb dX9_layeredLets_77 hl (by decide) rfl (fun ls hl => ?_)
        refine lv_iconst (v := (0 : Int32)) hx hb dX9_layeredLets_79 (by decide) ?_
        refine lv_istore (lv' := [(6, .int (0 : Int32)), (5, .int (0 : Int32)), (4, .int (1 : Int32)), (0, .ref y), (1, .int sq), (2, .long t)]) hx hb dX9_layeredLets_80 hl (by decide) rfl (fun ls hl => ?_)
        obtain ⟨o82, ho82, hM⟩ := bind_some hM
        have EX82 : ∀ (H : Heap) (locs : List Loc) (ls : Array Slot), PS D g (va_A (va_pl L f) szz) s.heap s L f H locs → lv_has ls 7 [(5, .int o82.2), (4, .int (1 : Int32))] → W p l e { frames := 2, cells := 0, slots := 0, locals := 56 } s m [.ref y, .int sq, .long t].toArray below meth c H locs 0 0 QQ (F0 m 129 ls []) := by
          intro H locs ls S hl
          refine lv_iload hx hb dX9_layeredLets_129 (lv_at hl 1 rfl) ?_
          refine lv_iload hx hb dX9_layeredLets_131 (lv_at hl 0 rfl) ?_
          refine lv_icmp_eq (tgt := 140) hx hb dX9_layeredLets_133 (by decide) (fun b133 => ?_) (fun b133 => ?_)
          · have hM := itT b133 hM
            refine lv_iconst (v := (0 : Int32)) hx hb dX9_layeredLets_140 (by decide) ?_
            subst hQQ
            exact q_retz (post := fun x L1 f1 => x = z ∧ L1 = L ∧ f1 = f) hx hb hr hlk S dX9_layeredLets_141 (by decide) (by decide) (by decide) (by have hz := Option.some.inj hM; subst hz; exact ⟨rfl, rfl, rfl⟩)
          · have hM := itF b133 hM
            refine lv_iconst (v := (1 : Int32)) hx hb dX9_layeredLets_136 (by decide) ?_
            refine lv_goto (tgt := 141) hx hb dX9_layeredLets_137 (by decide) ?_
            subst hQQ
            exact q_retz (post := fun x L1 f1 => x = z ∧ L1 = L ∧ f1 = f) hx hb hr hlk S dX9_layeredLets_141 (by decide) (by decide) (by decide) (by have hz := Option.some.inj hM; subst hz; exact ⟨rfl, rfl, rfl⟩)
        have LP82 : ∀ (fu : Nat) (x6_82 : Int32) (x5_82 : Int32) (H : Heap) (locs : List Loc) (ls : Array Slot), (mX9_layeredLets_L82 vRest vRestMany sq t) fu x6_82 x5_82 = some o82 → PS D g (va_A (va_pl L f) szz) s.heap s L f H locs → lv_has ls 7 [(6, .int x6_82), (5, .int x5_82), (4, .int (1 : Int32)), (0, .ref y), (1, .int sq), (2, .long t)] → W p l e { frames := 2, cells := 0, slots := 0, locals := 56 } s m [.ref y, .int sq, .long t].toArray below meth c H locs 0 0 QQ (F0 m 82 ls []) := by
          intro fu
          induction fu with
          | zero => intro x6_82 x5_82 H locs ls ho82 S hl; exact no_some ho82
          | succ fu ih82 =>
            intro x6_82 x5_82 H locs ls ho82 S hl
            rw [mX9_layeredLets_L82] at ho82
            refine lv_iload hx hb dX9_layeredLets_82 (lv_at hl 0 rfl) ?_
            refine lv_aload_n hx hb dX9_layeredLets_84 rfl (lv_at hl 3 rfl) ?_
            refine q_get hx hb hts in_X9 hown S m_y e_y (C := RX9) (T := TX9) (N := 23) rfl 13 (by decide) rfl (hts (.fieldLink RX9 52 "SieveCabinetModel" "restMany" "[I") (by decide +kernel)) dX9_layeredLets_85 ?_
            refine lv_iload_n hx hb dX9_layeredLets_88 rfl (lv_at hl 4 rfl) ?_
            obtain ⟨hi89, ho82⟩ := ckx ho82
            refine q_iald hx hb S m_aRestMany e_aRestMany hi89 dX9_layeredLets_89 ?_
            refine lv_icmp_ge (tgt := 129) hx hb dX9_layeredLets_90 (by decide) (fun b90 => ?_) (fun b90 => ?_)
            · have ho82 := itT b90 ho82
              obtain rfl := Option.some.inj ho82
              exact EX82 _ _ _ S (lv_sub hl [1, 2] rfl)
            · have ho82 := itF b90 ho82
              refine lv_iload hx hb dX9_layeredLets_93 (lv_at hl 1 rfl) ?_
              refine lv_if_ne (tgt := 116) hx hb dX9_layeredLets_95 (by decide) (fun b95 => ?_) (fun b95 => ?_)
              · have ho82 := itF b95 ho82
                refine lv_iconst (v := (1 : Int32)) hx hb dX9_layeredLets_116 (by decide) ?_
                refine lv_goto (tgt := 121) hx hb dX9_layeredLets_117 (by decide) ?_
                refine lv_istore (lv' := [(5, .int (1 : Int32)), (6, .int x6_82), (4, .int (1 : Int32)), (0, .ref y), (1, .int sq), (2, .long t)]) hx hb dX9_layeredLets_121 hl (by decide) rfl (fun ls hl => ?_)
                refine lv_iinc (v := (x6_82 + 1)) (lv' := [(6, .int (x6_82 + 1)), (5, .int (1 : Int32)), (4, .int (1 : Int32)), (0, .ref y), (1, .int sq), (2, .long t)]) hx hb dX9_layeredLets_123 hl (k := 1) rfl rfl (by decide) rfl (fun ls hl => ?_)
                refine lv_goto (tgt := 82) hx hb dX9_layeredLets_126 (by decide) ?_
                exact ih82 (x6_82 + 1) (1 : Int32) _ _ _ ho82 S (lv_sub hl [0, 1, 2, 3, 4, 5] rfl)
              · have ho82 := itT b95 ho82
                refine lv_aload_n hx hb dX9_layeredLets_98 rfl (lv_at hl 3 rfl) ?_
                refine q_get hx hb hts in_X9 hown S m_y e_y (C := RX9) (T := TX9) (N := 23) rfl 12 (by decide) rfl (hts (.fieldLink RX9 49 "SieveCabinetModel" "rest" "[J") (by decide +kernel)) dX9_layeredLets_99 ?_
                refine lv_iload_n hx hb dX9_layeredLets_102 rfl (lv_at hl 4 rfl) ?_
                refine lv_sipush (v := (1000 : Int32)) hx hb dX9_layeredLets_103 (by decide) ?_
                refine lv_imul hx hb dX9_layeredLets_106 ?_
                refine lv_iload hx hb dX9_layeredLets_107 (lv_at hl 0 rfl) ?_
                refine lv_iadd hx hb dX9_layeredLets_109 ?_
                obtain ⟨hi110, ho82⟩ := ckx ho82
                refine q_lald hx hb S m_aRest e_aRest hi110 dX9_layeredLets_110 ?_
                refine lv_lload_n hx hb dX9_layeredLets_111 rfl (lv_at hl 5 rfl) ?_
                refine W.lcmp hx hb dX9_layeredLets_112 ?_
                refine lv_if_ne (tgt := 120) hx hb dX9_layeredLets_113 (by decide) (fun b113 => ?_) (fun b113 => ?_)
                · have ho82 := itF b113 ho82
                  refine lv_iconst (v := (0 : Int32)) hx hb dX9_layeredLets_120 (by decide) ?_
                  refine lv_istore (lv' := [(5, .int (0 : Int32)), (6, .int x6_82), (4, .int (1 : Int32)), (0, .ref y), (1, .int sq), (2, .long t)]) hx hb dX9_layeredLets_121 hl (by decide) rfl (fun ls hl => ?_)
                  refine lv_iinc (v := (x6_82 + 1)) (lv' := [(6, .int (x6_82 + 1)), (5, .int (0 : Int32)), (4, .int (1 : Int32)), (0, .ref y), (1, .int sq), (2, .long t)]) hx hb dX9_layeredLets_123 hl (k := 1) rfl rfl (by decide) rfl (fun ls hl => ?_)
                  refine lv_goto (tgt := 82) hx hb dX9_layeredLets_126 (by decide) ?_
                  exact ih82 (x6_82 + 1) (0 : Int32) _ _ _ ho82 S (lv_sub hl [0, 1, 2, 3, 4, 5] rfl)
                · have ho82 := itT b113 ho82
                  refine lv_iconst (v := (1 : Int32)) hx hb dX9_layeredLets_116 (by decide) ?_
                  refine lv_goto (tgt := 121) hx hb dX9_layeredLets_117 (by decide) ?_
                  refine lv_istore (lv' := [(5, .int (1 : Int32)), (6, .int x6_82), (4, .int (1 : Int32)), (0, .ref y), (1, .int sq), (2, .long t)]) hx hb dX9_layeredLets_121 hl (by decide) rfl (fun ls hl => ?_)
                  refine lv_iinc (v := (x6_82 + 1)) (lv' := [(6, .int (x6_82 + 1)), (5, .int (1 : Int32)), (4, .int (1 : Int32)), (0, .ref y), (1, .int sq), (2, .long t)]) hx hb dX9_layeredLets_123 hl (k := 1) rfl rfl (by decide) rfl (fun ls hl => ?_)
                  refine lv_goto (tgt := 82) hx hb dX9_layeredLets_126 (by decide) ?_
                  exact ih82 (x6_82 + 1) (1 : Int32) _ _ _ ho82 S (lv_sub hl [0, 1, 2, 3, 4, 5] rfl)
        exact LP82 FU (0 : Int32) (0 : Int32) _ _ _ ho82 S (lv_sub hl [0, 1, 2, 3, 4, 5] rfl)
      · have hM := itT b70 hM
        refine lv_iload hx hb dX9_layeredLets_73 (lv_at hl 0 rfl) ?_
        subst hQQ
        exact q_retz (post := fun x L1 f1 => x = z ∧ L1 = L ∧ f1 = f) hx hb hr hlk S dX9_layeredLets_75 (by decide) (by decide) (by decide) (by have hz := Option.some.inj hM; subst hz; exact ⟨rfl, rfl, rfl⟩)
  have LP3 : ∀ (fu : Nat) (x4_3 : Int32) (H : Heap) (locs : List Loc) (ls : Array Slot), (mX9_layeredLets_L3 vSize vSeed vBits vLayerSize sq t) fu x4_3 = some o3 → PS D g (va_A (va_pl L f) szz) s.heap s L f H locs → lv_has ls 7 [(4, .int x4_3), (0, .ref y), (1, .int sq), (2, .long t)] → W p l e { frames := 2, cells := 0, slots := 0, locals := 56 } s m [.ref y, .int sq, .long t].toArray below meth c H locs 0 0 QQ (F0 m 3 ls []) := by
    intro fu
    induction fu with
    | zero => intro x4_3 H locs ls ho3 S hl; exact no_some ho3
    | succ fu ih3 =>
      intro x4_3 H locs ls ho3 S hl
      rw [mX9_layeredLets_L3] at ho3
      refine lv_iload hx hb dX9_layeredLets_3 (lv_at hl 0 rfl) ?_
      refine lv_aload_n hx hb dX9_layeredLets_5 rfl (lv_at hl 1 rfl) ?_
      refine q_get hx hb hts in_X9 hown S m_y e_y (C := RX9) (T := TX9) (N := 23) rfl 3 (by decide) rfl (hts (.fieldLink RX9 20 "SieveCabinetModel" "size" "[I") (by decide +kernel)) dX9_layeredLets_6 ?_
      refine lv_iload_n hx hb dX9_layeredLets_9 rfl (lv_at hl 2 rfl) ?_
      obtain ⟨hi10, ho3⟩ := ckx ho3
      refine q_iald hx hb S m_aSize e_aSize hi10 dX9_layeredLets_10 ?_
      refine lv_icmp_ge (tgt := 45) hx hb dX9_layeredLets_11 (by decide) (fun b11 => ?_) (fun b11 => ?_)
      · have ho3 := itT b11 ho3
        obtain rfl := Option.some.inj ho3
        exact EX3 _ rfl _ _ _ S (lv_sub hl [1, 2, 3] rfl)
      · have ho3 := itF b11 ho3
        refine lv_aload_n hx hb dX9_layeredLets_14 rfl (lv_at hl 1 rfl) ?_
        refine lv_iload_n hx hb dX9_layeredLets_15 rfl (lv_at hl 2 rfl) ?_
        refine lv_iload hx hb dX9_layeredLets_16 (lv_at hl 0 rfl) ?_
        refine lv_lload_n hx hb dX9_layeredLets_18 rfl (lv_at hl 3 rfl) ?_
        obtain ⟨z19, hz19, ho3⟩ := bind_some ho3
        refine q_vi (As := [.int sq, .int x4_3, .long t]) (rest := []) ⟨hx, hb, hml, hown, hts⟩ (k_X9_layerLets l D g m_y e_y m_aSeed e_aSeed m_aBits e_aBits m_aLayerSize e_aLayerSize hz19) (cwV 3 hts gX9_layeredLets_X9_layerLets rfl rfl rfl (by decide +kernel) ⟨Nat.le_of_ble_eq_true rfl, Nat.le_of_ble_eq_true rfl⟩) S m_y e_y (T := TX9) (N := 23) rfl rfl hl.1 rfl (Nat.le_of_ble_eq_true rfl) dX9_layeredLets_19 ⟨Nat.le_of_ble_eq_true rfl, Nat.le_of_ble_eq_true rfl⟩ (fun r3 L1 f2 H locs S w19 => ?_)
        obtain ⟨ex19, eL, ef⟩ := w19
        rw [eL, ef] at S
        replace ex19 := ex19.symm
        subst ex19
        refine lv_if_ne (tgt := 39) hx hb dX9_layeredLets_22 (by decide) (fun b22 => ?_) (fun b22 => ?_)
        · have ho3 := itF b22 ho3
          refine lv_iinc (v := (x4_3 + 1)) (lv' := [(4, .int (x4_3 + 1)), (0, .ref y), (1, .int sq), (2, .long t)]) hx hb dX9_layeredLets_39 hl (k := 0) rfl rfl (by decide) rfl (fun ls hl => ?_)
          refine lv_goto (tgt := 3) hx hb dX9_layeredLets_42 (by decide) ?_
          exact ih3 (x4_3 + 1) _ _ _ ho3 S (lv_sub hl [0, 1, 2, 3] rfl)
        · have ho3 := itT b22 ho3
          refine lv_iload hx hb dX9_layeredLets_25 (lv_at hl 0 rfl) ?_
          refine lv_iconst (v := (2 : Int32)) hx hb dX9_layeredLets_27 (by decide) ?_
          refine lv_irem hx hb dX9_layeredLets_28 (by decide) ?_
          refine W.eq (g2 := F0 m 29 ls [.int (irm x4_3 (2 : Int32))]) rfl ?_
          refine lv_iconst (v := (1 : Int32)) hx hb dX9_layeredLets_29 (by decide) ?_
          refine lv_icmp_ne (tgt := 37) hx hb dX9_layeredLets_30 (by decide) (fun b30 => ?_) (fun b30 => ?_)
          · have ho3 := itF b30 ho3
            refine lv_iconst (v := (0 : Int32)) hx hb dX9_layeredLets_37 (by decide) ?_
            obtain rfl := Option.some.inj ho3
            simp only [Sum.elim_inl] at hM
            subst hQQ
            exact q_retz (post := fun x L1 f1 => x = z ∧ L1 = L ∧ f1 = f) hx hb hr hlk S dX9_layeredLets_38 (by decide) (by decide) (by decide) (by have hz := Option.some.inj hM; subst hz; exact ⟨rfl, rfl, rfl⟩)
          · have ho3 := itT b30 ho3
            refine lv_iconst (v := (1 : Int32)) hx hb dX9_layeredLets_33 (by decide) ?_
            refine lv_goto (tgt := 38) hx hb dX9_layeredLets_34 (by decide) ?_
            obtain rfl := Option.some.inj ho3
            simp only [Sum.elim_inl] at hM
            subst hQQ
            exact q_retz (post := fun x L1 f1 => x = z ∧ L1 = L ∧ f1 = f) hx hb hr hlk S dX9_layeredLets_38 (by decide) (by decide) (by decide) (by have hz := Option.some.inj hM; subst hz; exact ⟨rfl, rfl, rfl⟩)
  exact LP3 FU (0 : Int32) _ _ _ ho3 S (lv_sub hl [0, 1, 2, 3] rfl)

def mX9_letsThrough_L188 (vSize : Nat → Int32) (vMarks : Nat → Int32) (vRow : Nat → Int32) (sq : Int32) (z7 : Int64) : Nat → Int32 → Int32 → Option (Int32 × Int32)
  | 0, _, _ => none
  | fu + 1, x8_188, x7_188 => if ix sq 30 = true then (if (vMarks (Int32.toNatClampNeg sq)) ≤ x8_188 then (some (x8_188, x7_188)) else (if x7_188 = 0 then (mX9_letsThrough_L188 vSize vMarks vRow sq z7 fu (x8_188 + 1) (0 : Int32)) else (if ix sq 30 = true then ((mX9_markOf z7 x8_188 (vSize (Int32.toNatClampNeg sq))).bind fun z220 => if ix ((sq * (4096 : Int32)) + z220) 122880 = true then (if (vRow (Int32.toNatClampNeg ((sq * (4096 : Int32)) + z220))) ≤ 0 then (mX9_letsThrough_L188 vSize vMarks vRow sq z7 fu (x8_188 + 1) (0 : Int32)) else (mX9_letsThrough_L188 vSize vMarks vRow sq z7 fu (x8_188 + 1) (1 : Int32))) else none) else none))) else none
def mX9_letsThrough_L121 (vSize : Nat → Int32) (vSeed : Nat → Int32) (vRow : Nat → Int32) (sq : Int32) (t : Int64) (z7 : Int64) : Nat → Int32 → Int32 → Option (Int32 × Int32)
  | 0, _, _ => none
  | fu + 1, x8_121, x7_121 => if (8 : Int32) ≤ x8_121 then (some (x8_121, x7_121)) else (if x7_121 = 0 then ((mX9_nestOf vSize vSeed sq t (x8_121 / (4 : Int32))).bind fun z147 => if ix (((sq * (4096 : Int32)) + ((4 : Int32) * z147)) + (irm x8_121 (4 : Int32))) 122880 = true then ((mX9_tagOf z7).bind fun z160 => if (vRow (Int32.toNatClampNeg (((sq * (4096 : Int32)) + ((4 : Int32) * z147)) + (irm x8_121 (4 : Int32))))) = z160 then (mX9_letsThrough_L121 vSize vSeed vRow sq t z7 fu (x8_121 + 1) (1 : Int32)) else (mX9_letsThrough_L121 vSize vSeed vRow sq t z7 fu (x8_121 + 1) (0 : Int32))) else none) else (mX9_letsThrough_L121 vSize vSeed vRow sq t z7 fu (x8_121 + 1) (1 : Int32)))
def mX9_letsThrough_L56 (vSize : Nat → Int32) (vRow : Nat → Int32) (sq : Int32) (z7 : Int64) : Nat → Int32 → Int32 → Option (Int32 × Int32)
  | 0, _, _ => none
  | fu + 1, x8_56, x7_56 => if (3 : Int32) ≤ x8_56 then (some (x8_56, x7_56)) else (if ix sq 30 = true then ((mX9_solvedPlace z7 x8_56 (vSize (Int32.toNatClampNeg sq))).bind fun z80 => if ix ((sq * (4096 : Int32)) + z80) 122880 = true then (lt_ (x7_56 ^^^ (vRow (Int32.toNatClampNeg ((sq * (4096 : Int32)) + z80)))) fun y86 => mX9_letsThrough_L56 vSize vRow sq z7 fu (x8_56 + 1) y86) else none) else none)
def mX9_letsThrough (vKind : Nat → Int32) (vSize : Nat → Int32) (vMarks : Nat → Int32) (vSeed : Nat → Int32) (vRow : Nat → Int32) (vBits : Nat → Int32) (vLayerSize : Nat → Int32) (vRest : Nat → Int64) (vRestMany : Nat → Int32) (sq : Int32) (t : Int64) : Option (Int32) := if ix sq 30 = true then ((mX9_mix t (vSeed (Int32.toNatClampNeg sq))).bind fun z7 => if ix sq 30 = true then (if (vKind (Int32.toNatClampNeg sq)) = (4 : Int32) then ((mX9_layeredLets vSize vSeed vBits vLayerSize vRest vRestMany sq t).bind fun z32 => if z32 = 0 ∨ z32 = 1 then (some z32) else none) else (if ix sq 30 = true then (if (vKind (Int32.toNatClampNeg sq)) = (3 : Int32) then ((mX9_solvedTag z7).bind fun z48 => (mX9_letsThrough_L56 vSize vRow sq z7 FU (0 : Int32) z48).bind fun o56 => if o56.2 = 0 then (some (1 : Int32)) else (some (0 : Int32))) else (if ix sq 30 = true then (if (vKind (Int32.toNatClampNeg sq)) = (2 : Int32) then ((mX9_letsThrough_L121 vSize vSeed vRow sq t z7 FU (0 : Int32) (0 : Int32)).bind fun o121 => if o121.2 = 0 ∨ o121.2 = 1 then (some o121.2) else none) else ((mX9_letsThrough_L188 vSize vMarks vRow sq z7 FU (0 : Int32) (1 : Int32)).bind fun o188 => if o188.2 = 0 ∨ o188.2 = 1 then (some o188.2) else none)) else none)) else none)) else none) else none
set_option maxHeartbeats 4000000 in
set_option maxRecDepth 100000 in
theorem k_X9_letsThrough (l : Launch) (D : va_G) (g : Nat → ClassId) {L : List Nat} {f : Nat → va_E} {aAlone aBits aCome aContentMany aContents aGone aInWorld aIsOff aKept aKind aLayerCame aLayerSize aMarks aOffAt aOrder aRest aRestMany aRivals aRow aSeed aSize aWorlds y : Nat} {many : Int32} {vKind : Nat → Int32} {vSize : Nat → Int32} {vMarks : Nat → Int32} {vSeed : Nat → Int32} {vRow : Nat → Int32} {vBits : Nat → Int32} {vLayerSize : Nat → Int32} {vRest : Nat → Int64} {vRestMany : Nat → Int32} {sq : Int32} {t : Int64} {z : Int32} (m_y : y ∈ L) (e_y : f y = .inr (7, [.ref aWorlds, .ref aInWorld, .ref aKind, .ref aSize, .ref aMarks, .ref aSeed, .ref aContents, .ref aContentMany, .ref aRow, .ref aBits, .ref aLayerSize, .ref aLayerCame, .ref aRest, .ref aRestMany, .int many, .ref aCome, .ref aRivals, .ref aGone, .ref aOrder, .ref aOffAt, .ref aIsOff, .ref aAlone, .ref aKept])) (m_aKind : aKind ∈ L) (e_aKind : f aKind = .inl (g 0, 30, .inl vKind)) (m_aSize : aSize ∈ L) (e_aSize : f aSize = .inl (g 0, 30, .inl vSize)) (m_aMarks : aMarks ∈ L) (e_aMarks : f aMarks = .inl (g 0, 30, .inl vMarks)) (m_aSeed : aSeed ∈ L) (e_aSeed : f aSeed = .inl (g 0, 30, .inl vSeed)) (m_aRow : aRow ∈ L) (e_aRow : f aRow = .inl (g 0, 122880, .inl vRow)) (m_aBits : aBits ∈ L) (e_aBits : f aBits = .inl (g 0, 76800, .inl vBits)) (m_aLayerSize : aLayerSize ∈ L) (e_aLayerSize : f aLayerSize = .inl (g 0, 600, .inl vLayerSize)) (m_aRest : aRest ∈ L) (e_aRest : f aRest = .inl (g 1, 30000, .inr (.inl vRest))) (m_aRestMany : aRestMany ∈ L) (e_aRestMany : f aRestMany = .inl (g 0, 30, .inl vRestMany))    (hM : mX9_letsThrough vKind vSize vMarks vSeed vRow vBits vLayerSize vRest vRestMany sq t = some z) : cI l yX9_letsThrough wsX9_letsThrough { frames := 3, cells := 0, slots := 0, locals := 82 } D g [.ref y, .int sq, .long t] L f 0 0 (fun x L1 f1 => x = z ∧ L1 = L ∧ f1 = f) := by
  refine cI_of (cc := cX9_letsThrough) (maxL := 9) (ret := (some .boolean)) (by decide) rfl (Nat.le_of_ble_eq_true rfl) ?_
  intro szz p e s m below meth c hx hb hr hml hts hown hlk hnm S ls hl
  have hl : lv_has ls 9 [(0, .ref y), (1, .int sq), (2, .long t)] := hl
  have in_X9 : ∀ w ∈ wsX90, w ∈ wsX9_letsThrough := by decide +kernel
  unfold mX9_letsThrough at hM
  refine W_gen (fun QQ hQQ => ?_)
  refine lv_lload_n hx hb dX9_letsThrough_0 rfl (lv_at hl 2 rfl) ?_
  refine lv_aload_n hx hb dX9_letsThrough_1 rfl (lv_at hl 0 rfl) ?_
  refine q_get hx hb hts in_X9 hown S m_y e_y (C := RX9) (T := TX9) (N := 23) rfl 5 (by decide) rfl (hts (.fieldLink RX9 26 "SieveCabinetModel" "seed" "[I") (by decide +kernel)) dX9_letsThrough_2 ?_
  refine lv_iload_n hx hb dX9_letsThrough_5 rfl (lv_at hl 1 rfl) ?_
  obtain ⟨hi6, hM⟩ := ckx hM
  refine q_iald hx hb S m_aSeed e_aSeed hi6 dX9_letsThrough_6 ?_
  obtain ⟨z7, hz7, hM⟩ := bind_some hM
  refine q_sl (As := [.long t, .int (vSeed (Int32.toNatClampNeg sq))]) (rest := []) ⟨hx, hb, hml, hown, hts⟩ (k_X9_mix l D g hz7) (va_cwS 2 hts gX9_letsThrough_X9_mix rfl rfl rfl (by decide +kernel) ⟨Nat.le_of_ble_eq_true rfl, Nat.le_of_ble_eq_true rfl⟩) S rfl hl.1 rfl (Nat.le_of_ble_eq_true rfl) dX9_letsThrough_7 ⟨Nat.le_of_ble_eq_true rfl, Nat.le_of_ble_eq_true rfl⟩ (fun r3 L1 f2 H locs S w7 => ?_)
  obtain ⟨ex7, eL, ef⟩ := w7
  rw [eL, ef] at S
  replace ex7 := ex7.symm
  subst ex7
  refine lv_lstore (lv' := [(4, .long z7), (0, .ref y), (1, .int sq), (2, .long t)]) hx hb dX9_letsThrough_10 hl (by decide) rfl (fun ls hl => ?_)
  refine lv_iload_n hx hb dX9_letsThrough_12 rfl (lv_at hl 2 rfl) ?_
  refine lv_sipush (v := (4096 : Int32)) hx hb dX9_letsThrough_13 (by decide) ?_
  refine lv_imul hx hb dX9_letsThrough_16 ?_
  refine lv_istore (lv' := [(6, .int (sq * (4096 : Int32))), (4, .long z7), (0, .ref y), (1, .int sq), (2, .long t)]) hx hb dX9_letsThrough_17 hl (by decide) rfl (fun ls hl => ?_)
  refine lv_aload_n hx hb dX9_letsThrough_19 rfl (lv_at hl 2 rfl) ?_
  refine q_get hx hb hts in_X9 hown S m_y e_y (C := RX9) (T := TX9) (N := 23) rfl 2 (by decide) rfl (hts (.fieldLink RX9 17 "SieveCabinetModel" "kind" "[I") (by decide +kernel)) dX9_letsThrough_20 ?_
  refine lv_iload_n hx hb dX9_letsThrough_23 rfl (lv_at hl 3 rfl) ?_
  obtain ⟨hi24, hM⟩ := ckx hM
  refine q_iald hx hb S m_aKind e_aKind hi24 dX9_letsThrough_24 ?_
  refine lv_iconst (v := (4 : Int32)) hx hb dX9_letsThrough_25 (by decide) ?_
  refine lv_icmp_ne (tgt := 36) hx hb dX9_letsThrough_26 (by decide) (fun b26 => ?_) (fun b26 => ?_)
  · have hM := itF b26 hM
    refine lv_aload_n hx hb dX9_letsThrough_36 rfl (lv_at hl 2 rfl) ?_
    refine q_get hx hb hts in_X9 hown S m_y e_y (C := RX9) (T := TX9) (N := 23) rfl 2 (by decide) rfl (hts (.fieldLink RX9 17 "SieveCabinetModel" "kind" "[I") (by decide +kernel)) dX9_letsThrough_37 ?_
    refine lv_iload_n hx hb dX9_letsThrough_40 rfl (lv_at hl 3 rfl) ?_
    obtain ⟨hi41, hM⟩ := ckx hM
    refine q_iald hx hb S m_aKind e_aKind hi41 dX9_letsThrough_41 ?_
    refine lv_iconst (v := (3 : Int32)) hx hb dX9_letsThrough_42 (by decide) ?_
    refine lv_icmp_ne (tgt := 105) hx hb dX9_letsThrough_43 (by decide) (fun b43 => ?_) (fun b43 => ?_)
    · have hM := itF b43 hM
      refine lv_aload_n hx hb dX9_letsThrough_105 rfl (lv_at hl 2 rfl) ?_
      refine q_get hx hb hts in_X9 hown S m_y e_y (C := RX9) (T := TX9) (N := 23) rfl 2 (by decide) rfl (hts (.fieldLink RX9 17 "SieveCabinetModel" "kind" "[I") (by decide +kernel)) dX9_letsThrough_106 ?_
      refine lv_iload_n hx hb dX9_letsThrough_109 rfl (lv_at hl 3 rfl) ?_
      obtain ⟨hi110, hM⟩ := ckx hM
      refine q_iald hx hb S m_aKind e_aKind hi110 dX9_letsThrough_110 ?_
      refine lv_iconst (v := (2 : Int32)) hx hb dX9_letsThrough_111 (by decide) ?_
      refine lv_icmp_ne (tgt := 182) hx hb dX9_letsThrough_112 (by decide) (fun b112 => ?_) (fun b112 => ?_)
      · have hM := itF b112 hM
        refine lv_iconst (v := (1 : Int32)) hx hb dX9_letsThrough_182 (by decide) ?_
        refine lv_istore (lv' := [(7, .int (1 : Int32)), (6, .int (sq * (4096 : Int32))), (4, .long z7), (0, .ref y), (1, .int sq), (2, .long t)]) hx hb dX9_letsThrough_183 hl (by decide) rfl (fun ls hl => ?_)
        refine lv_iconst (v := (0 : Int32)) hx hb dX9_letsThrough_185 (by decide) ?_
        refine lv_istore (lv' := [(8, .int (0 : Int32)), (7, .int (1 : Int32)), (6, .int (sq * (4096 : Int32))), (4, .long z7), (0, .ref y), (1, .int sq), (2, .long t)]) hx hb dX9_letsThrough_186 hl (by decide) rfl (fun ls hl => ?_)
        obtain ⟨o188, ho188, hM⟩ := bind_some hM
        have EX188 : ∀ (H : Heap) (locs : List Loc) (ls : Array Slot), PS D g (va_A (va_pl L f) szz) s.heap s L f H locs → lv_has ls 9 [(7, .int o188.2)] → W p l e { frames := 3, cells := 0, slots := 0, locals := 82 } s m [.ref y, .int sq, .long t].toArray below meth c H locs 0 0 QQ (F0 m 241 ls []) := by
          intro H locs ls S hl
          refine lv_iload hx hb dX9_letsThrough_241 (lv_at hl 0 rfl) ?_
          obtain ⟨hbz, hM⟩ := ck hM
          subst hQQ
          exact q_retz (post := fun x L1 f1 => x = z ∧ L1 = L ∧ f1 = f) hx hb hr hlk S dX9_letsThrough_243 hbz (by decide) (by decide) (by have hz := Option.some.inj hM; subst hz; exact ⟨rfl, rfl, rfl⟩)
        have LP188 : ∀ (fu : Nat) (x8_188 : Int32) (x7_188 : Int32) (H : Heap) (locs : List Loc) (ls : Array Slot), (mX9_letsThrough_L188 vSize vMarks vRow sq z7) fu x8_188 x7_188 = some o188 → PS D g (va_A (va_pl L f) szz) s.heap s L f H locs → lv_has ls 9 [(8, .int x8_188), (7, .int x7_188), (6, .int (sq * (4096 : Int32))), (4, .long z7), (0, .ref y), (1, .int sq)] → W p l e { frames := 3, cells := 0, slots := 0, locals := 82 } s m [.ref y, .int sq, .long t].toArray below meth c H locs 0 0 QQ (F0 m 188 ls []) := by
          intro fu
          induction fu with
          | zero => intro x8_188 x7_188 H locs ls ho188 S hl; exact no_some ho188
          | succ fu ih188 =>
            intro x8_188 x7_188 H locs ls ho188 S hl
            rw [mX9_letsThrough_L188] at ho188
            refine lv_iload hx hb dX9_letsThrough_188 (lv_at hl 0 rfl) ?_
            refine lv_aload_n hx hb dX9_letsThrough_190 rfl (lv_at hl 4 rfl) ?_
            refine q_get hx hb hts in_X9 hown S m_y e_y (C := RX9) (T := TX9) (N := 23) rfl 4 (by decide) rfl (hts (.fieldLink RX9 23 "SieveCabinetModel" "marks" "[I") (by decide +kernel)) dX9_letsThrough_191 ?_
            refine lv_iload_n hx hb dX9_letsThrough_194 rfl (lv_at hl 5 rfl) ?_
            obtain ⟨hi195, ho188⟩ := ckx ho188
            refine q_iald hx hb S m_aMarks e_aMarks hi195 dX9_letsThrough_195 ?_
            refine lv_icmp_ge (tgt := 241) hx hb dX9_letsThrough_196 (by decide) (fun b196 => ?_) (fun b196 => ?_)
            · have ho188 := itT b196 ho188
              obtain rfl := Option.some.inj ho188
              exact EX188 _ _ _ S (lv_sub hl [1] rfl)
            · have ho188 := itF b196 ho188
              refine lv_iload hx hb dX9_letsThrough_199 (lv_at hl 1 rfl) ?_
              refine lv_if_eq (tgt := 232) hx hb dX9_letsThrough_201 (by decide) (fun b201 => ?_) (fun b201 => ?_)
              · have ho188 := itT b201 ho188
                refine lv_iconst (v := (0 : Int32)) hx hb dX9_letsThrough_232 (by decide) ?_
                refine lv_istore (lv' := [(7, .int (0 : Int32)), (8, .int x8_188), (6, .int (sq * (4096 : Int32))), (4, .long z7), (0, .ref y), (1, .int sq)]) hx hb dX9_letsThrough_233 hl (by decide) rfl (fun ls hl => ?_)
                refine lv_iinc (v := (x8_188 + 1)) (lv' := [(8, .int (x8_188 + 1)), (7, .int (0 : Int32)), (6, .int (sq * (4096 : Int32))), (4, .long z7), (0, .ref y), (1, .int sq)]) hx hb dX9_letsThrough_235 hl (k := 1) rfl rfl (by decide) rfl (fun ls hl => ?_)
                refine lv_goto (tgt := 188) hx hb dX9_letsThrough_238 (by decide) ?_
                exact ih188 (x8_188 + 1) (0 : Int32) _ _ _ ho188 S (lv_sub hl [0, 1, 2, 3, 4, 5] rfl)
              · have ho188 := itF b201 ho188
                refine lv_aload_n hx hb dX9_letsThrough_204 rfl (lv_at hl 4 rfl) ?_
                refine q_get hx hb hts in_X9 hown S m_y e_y (C := RX9) (T := TX9) (N := 23) rfl 8 (by decide) rfl (hts (.fieldLink RX9 36 "SieveCabinetModel" "row" "[I") (by decide +kernel)) dX9_letsThrough_205 ?_
                refine lv_iload hx hb dX9_letsThrough_208 (lv_at hl 2 rfl) ?_
                refine lv_lload hx hb dX9_letsThrough_210 (lv_at hl 3 rfl) ?_
                refine lv_iload hx hb dX9_letsThrough_212 (lv_at hl 0 rfl) ?_
                refine lv_aload_n hx hb dX9_letsThrough_214 rfl (lv_at hl 4 rfl) ?_
                refine q_get hx hb hts in_X9 hown S m_y e_y (C := RX9) (T := TX9) (N := 23) rfl 3 (by decide) rfl (hts (.fieldLink RX9 20 "SieveCabinetModel" "size" "[I") (by decide +kernel)) dX9_letsThrough_215 ?_
                refine lv_iload_n hx hb dX9_letsThrough_218 rfl (lv_at hl 5 rfl) ?_
                obtain ⟨hi219, ho188⟩ := ckx ho188
                refine q_iald hx hb S m_aSize e_aSize hi219 dX9_letsThrough_219 ?_
                obtain ⟨z220, hz220, ho188⟩ := bind_some ho188
                refine q_si (As := [.long z7, .int x8_188, .int (vSize (Int32.toNatClampNeg sq))]) (rest := [.int (sq * (4096 : Int32)), .ref aRow]) ⟨hx, hb, hml, hown, hts⟩ (k_X9_markOf l D g hz220) (va_cwS 3 hts gX9_letsThrough_X9_markOf rfl rfl rfl (by decide +kernel) ⟨Nat.le_of_ble_eq_true rfl, Nat.le_of_ble_eq_true rfl⟩) S rfl hl.1 rfl (Nat.le_of_ble_eq_true rfl) dX9_letsThrough_220 ⟨Nat.le_of_ble_eq_true rfl, Nat.le_of_ble_eq_true rfl⟩ (fun r6 L4 f5 H locs S w220 => ?_)
                obtain ⟨ex220, eL, ef⟩ := w220
                rw [eL, ef] at S
                replace ex220 := ex220.symm
                subst ex220
                refine lv_iadd hx hb dX9_letsThrough_223 ?_
                obtain ⟨hi224, ho188⟩ := ckx ho188
                refine q_iald hx hb S m_aRow e_aRow hi224 dX9_letsThrough_224 ?_
                refine lv_if_le (tgt := 232) hx hb dX9_letsThrough_225 (by decide) (fun b225 => ?_) (fun b225 => ?_)
                · have ho188 := itT b225 ho188
                  refine lv_iconst (v := (0 : Int32)) hx hb dX9_letsThrough_232 (by decide) ?_
                  refine lv_istore (lv' := [(7, .int (0 : Int32)), (8, .int x8_188), (6, .int (sq * (4096 : Int32))), (4, .long z7), (0, .ref y), (1, .int sq)]) hx hb dX9_letsThrough_233 hl (by decide) rfl (fun ls hl => ?_)
                  refine lv_iinc (v := (x8_188 + 1)) (lv' := [(8, .int (x8_188 + 1)), (7, .int (0 : Int32)), (6, .int (sq * (4096 : Int32))), (4, .long z7), (0, .ref y), (1, .int sq)]) hx hb dX9_letsThrough_235 hl (k := 1) rfl rfl (by decide) rfl (fun ls hl => ?_)
                  refine lv_goto (tgt := 188) hx hb dX9_letsThrough_238 (by decide) ?_
                  exact ih188 (x8_188 + 1) (0 : Int32) _ _ _ ho188 S (lv_sub hl [0, 1, 2, 3, 4, 5] rfl)
                · have ho188 := itF b225 ho188
                  refine lv_iconst (v := (1 : Int32)) hx hb dX9_letsThrough_228 (by decide) ?_
                  refine lv_goto (tgt := 233) hx hb dX9_letsThrough_229 (by decide) ?_
                  refine lv_istore (lv' := [(7, .int (1 : Int32)), (8, .int x8_188), (6, .int (sq * (4096 : Int32))), (4, .long z7), (0, .ref y), (1, .int sq)]) hx hb dX9_letsThrough_233 hl (by decide) rfl (fun ls hl => ?_)
                  refine lv_iinc (v := (x8_188 + 1)) (lv' := [(8, .int (x8_188 + 1)), (7, .int (1 : Int32)), (6, .int (sq * (4096 : Int32))), (4, .long z7), (0, .ref y), (1, .int sq)]) hx hb dX9_letsThrough_235 hl (k := 1) rfl rfl (by decide) rfl (fun ls hl => ?_)
                  refine lv_goto (tgt := 188) hx hb dX9_letsThrough_238 (by decide) ?_
                  exact ih188 (x8_188 + 1) (1 : Int32) _ _ _ ho188 S (lv_sub hl [0, 1, 2, 3, 4, 5] rfl)
        exact LP188 FU (0 : Int32) (1 : Int32) _ _ _ ho188 S (lv_sub hl [0, 1, 2, 3, 4, 5] rfl)
      · have hM := itT b112 hM
        refine lv_iconst (v := (0 : Int32)) hx hb dX9_letsThrough_115 (by decide) ?_
        refine lv_istore (lv' := [(7, .int (0 : Int32)), (6, .int (sq * (4096 : Int32))), (4, .long z7), (0, .ref y), (1, .int sq), (2, .long t)]) hx hb dX9_letsThrough_116 hl (by decide) rfl (fun ls hl => ?_)
        refine lv_iconst (v := (0 : Int32)) hx hb dX9_letsThrough_118 (by decide) ?_
        refine lv_istore (lv' := [(8, .int (0 : Int32)), (7, .int (0 : Int32)), (6, .int (sq * (4096 : Int32))), (4, .long z7), (0, .ref y), (1, .int sq), (2, .long t)]) hx hb dX9_letsThrough_119 hl (by decide) rfl (fun ls hl => ?_)
        obtain ⟨o121, ho121, hM⟩ := bind_some hM
        have EX121 : ∀ (H : Heap) (locs : List Loc) (ls : Array Slot), PS D g (va_A (va_pl L f) szz) s.heap s L f H locs → lv_has ls 9 [(7, .int o121.2)] → W p l e { frames := 3, cells := 0, slots := 0, locals := 82 } s m [.ref y, .int sq, .long t].toArray below meth c H locs 0 0 QQ (F0 m 179 ls []) := by
          intro H locs ls S hl
          refine lv_iload hx hb dX9_letsThrough_179 (lv_at hl 0 rfl) ?_
          obtain ⟨hbz, hM⟩ := ck hM
          subst hQQ
          exact q_retz (post := fun x L1 f1 => x = z ∧ L1 = L ∧ f1 = f) hx hb hr hlk S dX9_letsThrough_181 hbz (by decide) (by decide) (by have hz := Option.some.inj hM; subst hz; exact ⟨rfl, rfl, rfl⟩)
        have LP121 : ∀ (fu : Nat) (x8_121 : Int32) (x7_121 : Int32) (H : Heap) (locs : List Loc) (ls : Array Slot), (mX9_letsThrough_L121 vSize vSeed vRow sq t z7) fu x8_121 x7_121 = some o121 → PS D g (va_A (va_pl L f) szz) s.heap s L f H locs → lv_has ls 9 [(8, .int x8_121), (7, .int x7_121), (6, .int (sq * (4096 : Int32))), (4, .long z7), (0, .ref y), (1, .int sq), (2, .long t)] → W p l e { frames := 3, cells := 0, slots := 0, locals := 82 } s m [.ref y, .int sq, .long t].toArray below meth c H locs 0 0 QQ (F0 m 121 ls []) := by
          intro fu
          induction fu with
          | zero => intro x8_121 x7_121 H locs ls ho121 S hl; exact no_some ho121
          | succ fu ih121 =>
            intro x8_121 x7_121 H locs ls ho121 S hl
            rw [mX9_letsThrough_L121] at ho121
            refine lv_iload hx hb dX9_letsThrough_121 (lv_at hl 0 rfl) ?_
            refine lv_bipush (v := (8 : Int32)) hx hb dX9_letsThrough_123 (by decide) ?_
            refine lv_icmp_ge (tgt := 179) hx hb dX9_letsThrough_125 (by decide) (fun b125 => ?_) (fun b125 => ?_)
            · have ho121 := itT b125 ho121
              obtain rfl := Option.some.inj ho121
              exact EX121 _ _ _ S (lv_sub hl [1] rfl)
            · have ho121 := itF b125 ho121
              refine lv_iload hx hb dX9_letsThrough_128 (lv_at hl 1 rfl) ?_
              refine lv_if_ne (tgt := 166) hx hb dX9_letsThrough_130 (by decide) (fun b130 => ?_) (fun b130 => ?_)
              · have ho121 := itF b130 ho121
                refine lv_iconst (v := (1 : Int32)) hx hb dX9_letsThrough_166 (by decide) ?_
                refine lv_goto (tgt := 171) hx hb dX9_letsThrough_167 (by decide) ?_
                refine lv_istore (lv' := [(7, .int (1 : Int32)), (8, .int x8_121), (6, .int (sq * (4096 : Int32))), (4, .long z7), (0, .ref y), (1, .int sq), (2, .long t)]) hx hb dX9_letsThrough_171 hl (by decide) rfl (fun ls hl => ?_)
                refine lv_iinc (v := (x8_121 + 1)) (lv' := [(8, .int (x8_121 + 1)), (7, .int (1 : Int32)), (6, .int (sq * (4096 : Int32))), (4, .long z7), (0, .ref y), (1, .int sq), (2, .long t)]) hx hb dX9_letsThrough_173 hl (k := 1) rfl rfl (by decide) rfl (fun ls hl => ?_)
                refine lv_goto (tgt := 121) hx hb dX9_letsThrough_176 (by decide) ?_
                exact ih121 (x8_121 + 1) (1 : Int32) _ _ _ ho121 S (lv_sub hl [0, 1, 2, 3, 4, 5, 6] rfl)
              · have ho121 := itT b130 ho121
                refine lv_aload_n hx hb dX9_letsThrough_133 rfl (lv_at hl 4 rfl) ?_
                refine q_get hx hb hts in_X9 hown S m_y e_y (C := RX9) (T := TX9) (N := 23) rfl 8 (by decide) rfl (hts (.fieldLink RX9 36 "SieveCabinetModel" "row" "[I") (by decide +kernel)) dX9_letsThrough_134 ?_
                refine lv_iload hx hb dX9_letsThrough_137 (lv_at hl 2 rfl) ?_
                refine lv_iconst (v := (4 : Int32)) hx hb dX9_letsThrough_139 (by decide) ?_
                refine lv_aload_n hx hb dX9_letsThrough_140 rfl (lv_at hl 4 rfl) ?_
                refine lv_iload_n hx hb dX9_letsThrough_141 rfl (lv_at hl 5 rfl) ?_
                refine lv_lload_n hx hb dX9_letsThrough_142 rfl (lv_at hl 6 rfl) ?_
                refine lv_iload hx hb dX9_letsThrough_143 (lv_at hl 0 rfl) ?_
                refine lv_iconst (v := (4 : Int32)) hx hb dX9_letsThrough_145 (by decide) ?_
                refine lv_idiv hx hb dX9_letsThrough_146 (by decide) ?_
                obtain ⟨z147, hz147, ho121⟩ := bind_some ho121
                refine q_vi (As := [.int sq, .long t, .int (x8_121 / (4 : Int32))]) (rest := [.int (4 : Int32), .int (sq * (4096 : Int32)), .ref aRow]) ⟨hx, hb, hml, hown, hts⟩ (k_X9_nestOf l D g m_y e_y m_aSize e_aSize m_aSeed e_aSeed hz147) (cwV 3 hts gX9_letsThrough_X9_nestOf rfl rfl rfl (by decide +kernel) ⟨Nat.le_of_ble_eq_true rfl, Nat.le_of_ble_eq_true rfl⟩) S m_y e_y (T := TX9) (N := 23) rfl rfl hl.1 rfl (Nat.le_of_ble_eq_true rfl) dX9_letsThrough_147 ⟨Nat.le_of_ble_eq_true rfl, Nat.le_of_ble_eq_true rfl⟩ (fun r9 L7 f8 H locs S w147 => ?_)
                obtain ⟨ex147, eL, ef⟩ := w147
                rw [eL, ef] at S
                replace ex147 := ex147.symm
                subst ex147
                refine lv_imul hx hb dX9_letsThrough_150 ?_
                refine lv_iadd hx hb dX9_letsThrough_151 ?_
                refine lv_iload hx hb dX9_letsThrough_152 (lv_at hl 0 rfl) ?_
                refine lv_iconst (v := (4 : Int32)) hx hb dX9_letsThrough_154 (by decide) ?_
                refine lv_irem hx hb dX9_letsThrough_155 (by decide) ?_
                refine W.eq (g2 := F0 m 156 ls [.int (irm x8_121 (4 : Int32)), .int ((sq * (4096 : Int32)) + ((4 : Int32) * z147)), .ref aRow]) rfl ?_
                refine lv_iadd hx hb dX9_letsThrough_156 ?_
                obtain ⟨hi157, ho121⟩ := ckx ho121
                refine q_iald hx hb S m_aRow e_aRow hi157 dX9_letsThrough_157 ?_
                refine lv_lload hx hb dX9_letsThrough_158 (lv_at hl 3 rfl) ?_
                obtain ⟨z160, hz160, ho121⟩ := bind_some ho121
                refine q_si (As := [.long z7]) (rest := [.int (vRow (Int32.toNatClampNeg (((sq * (4096 : Int32)) + ((4 : Int32) * z147)) + (irm x8_121 (4 : Int32)))))]) ⟨hx, hb, hml, hown, hts⟩ (k_X9_tagOf l D g hz160) (va_cwS 1 hts gX9_letsThrough_X9_tagOf rfl rfl rfl (by decide +kernel) ⟨Nat.le_of_ble_eq_true rfl, Nat.le_of_ble_eq_true rfl⟩) S rfl hl.1 rfl (Nat.le_of_ble_eq_true rfl) dX9_letsThrough_160 ⟨Nat.le_of_ble_eq_true rfl, Nat.le_of_ble_eq_true rfl⟩ (fun r12 L10 f11 H locs S w160 => ?_)
                obtain ⟨ex160, eL, ef⟩ := w160
                rw [eL, ef] at S
                replace ex160 := ex160.symm
                subst ex160
                refine lv_icmp_ne (tgt := 170) hx hb dX9_letsThrough_163 (by decide) (fun b163 => ?_) (fun b163 => ?_)
                · have ho121 := itF b163 ho121
                  refine lv_iconst (v := (0 : Int32)) hx hb dX9_letsThrough_170 (by decide) ?_
                  refine lv_istore (lv' := [(7, .int (0 : Int32)), (8, .int x8_121), (6, .int (sq * (4096 : Int32))), (4, .long z7), (0, .ref y), (1, .int sq), (2, .long t)]) hx hb dX9_letsThrough_171 hl (by decide) rfl (fun ls hl => ?_)
                  refine lv_iinc (v := (x8_121 + 1)) (lv' := [(8, .int (x8_121 + 1)), (7, .int (0 : Int32)), (6, .int (sq * (4096 : Int32))), (4, .long z7), (0, .ref y), (1, .int sq), (2, .long t)]) hx hb dX9_letsThrough_173 hl (k := 1) rfl rfl (by decide) rfl (fun ls hl => ?_)
                  refine lv_goto (tgt := 121) hx hb dX9_letsThrough_176 (by decide) ?_
                  exact ih121 (x8_121 + 1) (0 : Int32) _ _ _ ho121 S (lv_sub hl [0, 1, 2, 3, 4, 5, 6] rfl)
                · have ho121 := itT b163 ho121
                  refine lv_iconst (v := (1 : Int32)) hx hb dX9_letsThrough_166 (by decide) ?_
                  refine lv_goto (tgt := 171) hx hb dX9_letsThrough_167 (by decide) ?_
                  refine lv_istore (lv' := [(7, .int (1 : Int32)), (8, .int x8_121), (6, .int (sq * (4096 : Int32))), (4, .long z7), (0, .ref y), (1, .int sq), (2, .long t)]) hx hb dX9_letsThrough_171 hl (by decide) rfl (fun ls hl => ?_)
                  refine lv_iinc (v := (x8_121 + 1)) (lv' := [(8, .int (x8_121 + 1)), (7, .int (1 : Int32)), (6, .int (sq * (4096 : Int32))), (4, .long z7), (0, .ref y), (1, .int sq), (2, .long t)]) hx hb dX9_letsThrough_173 hl (k := 1) rfl rfl (by decide) rfl (fun ls hl => ?_)
                  refine lv_goto (tgt := 121) hx hb dX9_letsThrough_176 (by decide) ?_
                  exact ih121 (x8_121 + 1) (1 : Int32) _ _ _ ho121 S (lv_sub hl [0, 1, 2, 3, 4, 5, 6] rfl)
        exact LP121 FU (0 : Int32) (0 : Int32) _ _ _ ho121 S (lv_sub hl [0, 1, 2, 3, 4, 5, 6] rfl)
    · have hM := itT b43 hM
      refine lv_lload hx hb dX9_letsThrough_46 (lv_at hl 1 rfl) ?_
      obtain ⟨z48, hz48, hM⟩ := bind_some hM
      refine q_si (As := [.long z7]) (rest := []) ⟨hx, hb, hml, hown, hts⟩ (k_X9_solvedTag l D g hz48) (va_cwS 1 hts gX9_letsThrough_X9_solvedTag rfl rfl rfl (by decide +kernel) ⟨Nat.le_of_ble_eq_true rfl, Nat.le_of_ble_eq_true rfl⟩) S rfl hl.1 rfl (Nat.le_of_ble_eq_true rfl) dX9_letsThrough_48 ⟨Nat.le_of_ble_eq_true rfl, Nat.le_of_ble_eq_true rfl⟩ (fun r15 L13 f14 H locs S w48 => ?_)
      obtain ⟨ex48, eL, ef⟩ := w48
      rw [eL, ef] at S
      replace ex48 := ex48.symm
      subst ex48
      refine lv_istore (lv' := [(7, .int z48), (6, .int (sq * (4096 : Int32))), (4, .long z7), (0, .ref y), (1, .int sq), (2, .long t)]) hx hb dX9_letsThrough_51 hl (by decide) rfl (fun ls hl => ?_)
      refine lv_iconst (v := (0 : Int32)) hx hb dX9_letsThrough_53 (by decide) ?_
      refine lv_istore (lv' := [(8, .int (0 : Int32)), (7, .int z48), (6, .int (sq * (4096 : Int32))), (4, .long z7), (0, .ref y), (1, .int sq), (2, .long t)]) hx hb dX9_letsThrough_54 hl (by decide) rfl (fun ls hl => ?_)
      obtain ⟨o56, ho56, hM⟩ := bind_some hM
      have EX56 : ∀ (H : Heap) (locs : List Loc) (ls : Array Slot), PS D g (va_A (va_pl L f) szz) s.heap s L f H locs → lv_has ls 9 [(7, .int o56.2)] → W p l e { frames := 3, cells := 0, slots := 0, locals := 82 } s m [.ref y, .int sq, .long t].toArray below meth c H locs 0 0 QQ (F0 m 94 ls []) := by
        intro H locs ls S hl
        refine lv_iload hx hb dX9_letsThrough_94 (lv_at hl 0 rfl) ?_
        refine lv_if_ne (tgt := 103) hx hb dX9_letsThrough_96 (by decide) (fun b96 => ?_) (fun b96 => ?_)
        · have hM := itF b96 hM
          refine lv_iconst (v := (0 : Int32)) hx hb dX9_letsThrough_103 (by decide) ?_
          subst hQQ
          exact q_retz (post := fun x L1 f1 => x = z ∧ L1 = L ∧ f1 = f) hx hb hr hlk S dX9_letsThrough_104 (by decide) (by decide) (by decide) (by have hz := Option.some.inj hM; subst hz; exact ⟨rfl, rfl, rfl⟩)
        · have hM := itT b96 hM
          refine lv_iconst (v := (1 : Int32)) hx hb dX9_letsThrough_99 (by decide) ?_
          refine lv_goto (tgt := 104) hx hb dX9_letsThrough_100 (by decide) ?_
          subst hQQ
          exact q_retz (post := fun x L1 f1 => x = z ∧ L1 = L ∧ f1 = f) hx hb hr hlk S dX9_letsThrough_104 (by decide) (by decide) (by decide) (by have hz := Option.some.inj hM; subst hz; exact ⟨rfl, rfl, rfl⟩)
      have LP56 : ∀ (fu : Nat) (x8_56 : Int32) (x7_56 : Int32) (H : Heap) (locs : List Loc) (ls : Array Slot), (mX9_letsThrough_L56 vSize vRow sq z7) fu x8_56 x7_56 = some o56 → PS D g (va_A (va_pl L f) szz) s.heap s L f H locs → lv_has ls 9 [(8, .int x8_56), (7, .int x7_56), (6, .int (sq * (4096 : Int32))), (4, .long z7), (0, .ref y), (1, .int sq)] → W p l e { frames := 3, cells := 0, slots := 0, locals := 82 } s m [.ref y, .int sq, .long t].toArray below meth c H locs 0 0 QQ (F0 m 56 ls []) := by
        intro fu
        induction fu with
        | zero => intro x8_56 x7_56 H locs ls ho56 S hl; exact no_some ho56
        | succ fu ih56 =>
          intro x8_56 x7_56 H locs ls ho56 S hl
          rw [mX9_letsThrough_L56] at ho56
          refine lv_iload hx hb dX9_letsThrough_56 (lv_at hl 0 rfl) ?_
          refine lv_iconst (v := (3 : Int32)) hx hb dX9_letsThrough_58 (by decide) ?_
          refine lv_icmp_ge (tgt := 94) hx hb dX9_letsThrough_59 (by decide) (fun b59 => ?_) (fun b59 => ?_)
          · have ho56 := itT b59 ho56
            obtain rfl := Option.some.inj ho56
            exact EX56 _ _ _ S (lv_sub hl [1] rfl)
          · have ho56 := itF b59 ho56
            refine lv_iload hx hb dX9_letsThrough_62 (lv_at hl 1 rfl) ?_
            refine lv_aload_n hx hb dX9_letsThrough_64 rfl (lv_at hl 4 rfl) ?_
            refine q_get hx hb hts in_X9 hown S m_y e_y (C := RX9) (T := TX9) (N := 23) rfl 8 (by decide) rfl (hts (.fieldLink RX9 36 "SieveCabinetModel" "row" "[I") (by decide +kernel)) dX9_letsThrough_65 ?_
            refine lv_iload hx hb dX9_letsThrough_68 (lv_at hl 2 rfl) ?_
            refine lv_lload hx hb dX9_letsThrough_70 (lv_at hl 3 rfl) ?_
            refine lv_iload hx hb dX9_letsThrough_72 (lv_at hl 0 rfl) ?_
            refine lv_aload_n hx hb dX9_letsThrough_74 rfl (lv_at hl 4 rfl) ?_
            refine q_get hx hb hts in_X9 hown S m_y e_y (C := RX9) (T := TX9) (N := 23) rfl 3 (by decide) rfl (hts (.fieldLink RX9 20 "SieveCabinetModel" "size" "[I") (by decide +kernel)) dX9_letsThrough_75 ?_
            refine lv_iload_n hx hb dX9_letsThrough_78 rfl (lv_at hl 5 rfl) ?_
            obtain ⟨hi79, ho56⟩ := ckx ho56
            refine q_iald hx hb S m_aSize e_aSize hi79 dX9_letsThrough_79 ?_
            obtain ⟨z80, hz80, ho56⟩ := bind_some ho56
            refine q_si (As := [.long z7, .int x8_56, .int (vSize (Int32.toNatClampNeg sq))]) (rest := [.int (sq * (4096 : Int32)), .ref aRow, .int x7_56]) ⟨hx, hb, hml, hown, hts⟩ (k_X9_solvedPlace l D g hz80) (va_cwS 3 hts gX9_letsThrough_X9_solvedPlace rfl rfl rfl (by decide +kernel) ⟨Nat.le_of_ble_eq_true rfl, Nat.le_of_ble_eq_true rfl⟩) S rfl hl.1 rfl (Nat.le_of_ble_eq_true rfl) dX9_letsThrough_80 ⟨Nat.le_of_ble_eq_true rfl, Nat.le_of_ble_eq_true rfl⟩ (fun r18 L16 f17 H locs S w80 => ?_)
            obtain ⟨ex80, eL, ef⟩ := w80
            rw [eL, ef] at S
            replace ex80 := ex80.symm
            subst ex80
            refine lv_iadd hx hb dX9_letsThrough_83 ?_
            obtain ⟨hi84, ho56⟩ := ckx ho56
            refine q_iald hx hb S m_aRow e_aRow hi84 dX9_letsThrough_84 ?_
            refine lv_ixor hx hb dX9_letsThrough_85 ?_
            refine lv_topi (fun y86 ey86 => ?_)
            have ho56 := lt_some ho56 ey86
            refine lv_istore (lv' := [(7, .int y86), (8, .int x8_56), (6, .int (sq * (4096 : Int32))), (4, .long z7), (0, .ref y), (1, .int sq)]) hx hb dX9_letsThrough_86 hl (by decide) rfl (fun ls hl => ?_)
            refine lv_iinc (v := (x8_56 + 1)) (lv' := [(8, .int (x8_56 + 1)), (7, .int y86), (6, .int (sq * (4096 : Int32))), (4, .long z7), (0, .ref y), (1, .int sq)]) hx hb dX9_letsThrough_88 hl (k := 1) rfl rfl (by decide) rfl (fun ls hl => ?_)
            refine lv_goto (tgt := 56) hx hb dX9_letsThrough_91 (by decide) ?_
            exact ih56 (x8_56 + 1) y86 _ _ _ ho56 S (lv_sub hl [0, 1, 2, 3, 4, 5] rfl)
      exact LP56 FU (0 : Int32) z48 _ _ _ ho56 S (lv_sub hl [0, 1, 2, 3, 4, 5] rfl)
  · have hM := itT b26 hM
    refine lv_aload_n hx hb dX9_letsThrough_29 rfl (lv_at hl 2 rfl) ?_
    refine lv_iload_n hx hb dX9_letsThrough_30 rfl (lv_at hl 3 rfl) ?_
    refine lv_lload_n hx hb dX9_letsThrough_31 rfl (lv_at hl 4 rfl) ?_
    obtain ⟨z32, hz32, hM⟩ := bind_some hM
    refine q_vi (As := [.int sq, .long t]) (rest := []) ⟨hx, hb, hml, hown, hts⟩ (k_X9_layeredLets l D g m_y e_y m_aSize e_aSize m_aSeed e_aSeed m_aBits e_aBits m_aLayerSize e_aLayerSize m_aRest e_aRest m_aRestMany e_aRestMany hz32) (cwV 2 hts gX9_letsThrough_X9_layeredLets rfl rfl rfl (by decide +kernel) ⟨Nat.le_of_ble_eq_true rfl, Nat.le_of_ble_eq_true rfl⟩) S m_y e_y (T := TX9) (N := 23) rfl rfl hl.1 rfl (Nat.le_of_ble_eq_true rfl) dX9_letsThrough_32 ⟨Nat.le_of_ble_eq_true rfl, Nat.le_of_ble_eq_true rfl⟩ (fun r21 L19 f20 H locs S w32 => ?_)
    obtain ⟨ex32, eL, ef⟩ := w32
    rw [eL, ef] at S
    replace ex32 := ex32.symm
    subst ex32
    obtain ⟨hbz, hM⟩ := ck hM
    subst hQQ
    exact q_retz (post := fun x L1 f1 => x = z ∧ L1 = L ∧ f1 = f) hx hb hr hlk S dX9_letsThrough_35 hbz (by decide) (by decide) (by have hz := Option.some.inj hM; subst hz; exact ⟨rfl, rfl, rfl⟩)

def mX9_timesIn_L6 (vContents : Nat → Int64) (vContentMany : Nat → Int32) (sq : Int32) (t : Int64) : Nat → Int32 → Int32 → Option (Int32 × Int32)
  | 0, _, _ => none
  | fu + 1, x5_6, x4_6 => if ix sq 30 = true then (if (vContentMany (Int32.toNatClampNeg sq)) ≤ x5_6 then (some (x5_6, x4_6)) else (if ix ((sq * (1000 : Int32)) + x5_6) 30000 = true then (if (lg_cmp (vContents (Int32.toNatClampNeg ((sq * (1000 : Int32)) + x5_6))) t) = 0 then (mX9_timesIn_L6 vContents vContentMany sq t fu (x5_6 + 1) (x4_6 + (1 : Int32))) else (mX9_timesIn_L6 vContents vContentMany sq t fu (x5_6 + 1) (x4_6 + (0 : Int32)))) else none)) else none
def mX9_timesIn (vContents : Nat → Int64) (vContentMany : Nat → Int32) (sq : Int32) (t : Int64) : Option (Int32) := (mX9_timesIn_L6 vContents vContentMany sq t FU (0 : Int32) (0 : Int32)).bind fun o6 => some o6.2
set_option maxHeartbeats 4000000 in
set_option maxRecDepth 100000 in
theorem k_X9_timesIn (l : Launch) (D : va_G) (g : Nat → ClassId) {L : List Nat} {f : Nat → va_E} {aAlone aBits aCome aContentMany aContents aGone aInWorld aIsOff aKept aKind aLayerCame aLayerSize aMarks aOffAt aOrder aRest aRestMany aRivals aRow aSeed aSize aWorlds y : Nat} {many : Int32} {vContents : Nat → Int64} {vContentMany : Nat → Int32} {sq : Int32} {t : Int64} {z : Int32} (m_y : y ∈ L) (e_y : f y = .inr (7, [.ref aWorlds, .ref aInWorld, .ref aKind, .ref aSize, .ref aMarks, .ref aSeed, .ref aContents, .ref aContentMany, .ref aRow, .ref aBits, .ref aLayerSize, .ref aLayerCame, .ref aRest, .ref aRestMany, .int many, .ref aCome, .ref aRivals, .ref aGone, .ref aOrder, .ref aOffAt, .ref aIsOff, .ref aAlone, .ref aKept])) (m_aContents : aContents ∈ L) (e_aContents : f aContents = .inl (g 1, 30000, .inr (.inl vContents))) (m_aContentMany : aContentMany ∈ L) (e_aContentMany : f aContentMany = .inl (g 0, 30, .inl vContentMany))    (hM : mX9_timesIn vContents vContentMany sq t = some z) : cI l yX9_timesIn wsX9_timesIn { frames := 0, cells := 0, slots := 0, locals := 0 } D g [.ref y, .int sq, .long t] L f 0 0 (fun x L1 f1 => x = z ∧ L1 = L ∧ f1 = f) := by
  refine cI_of (cc := cX9_timesIn) (maxL := 6) (ret := (some .int)) (by decide) rfl (Nat.le_of_ble_eq_true rfl) ?_
  intro szz p e s m below meth c hx hb hr hml hts hown hlk hnm S ls hl
  have hl : lv_has ls 6 [(0, .ref y), (1, .int sq), (2, .long t)] := hl
  have in_X9 : ∀ w ∈ wsX90, w ∈ wsX9_timesIn := by decide +kernel
  unfold mX9_timesIn at hM
  refine W_gen (fun QQ hQQ => ?_)
  refine lv_iconst (v := (0 : Int32)) hx hb dX9_timesIn_0 (by decide) ?_
  refine lv_istore (lv' := [(4, .int (0 : Int32)), (0, .ref y), (1, .int sq), (2, .long t)]) hx hb dX9_timesIn_1 hl (by decide) rfl (fun ls hl => ?_)
  refine lv_iconst (v := (0 : Int32)) hx hb dX9_timesIn_3 (by decide) ?_
  refine lv_istore (lv' := [(5, .int (0 : Int32)), (4, .int (0 : Int32)), (0, .ref y), (1, .int sq), (2, .long t)]) hx hb dX9_timesIn_4 hl (by decide) rfl (fun ls hl => ?_)
  obtain ⟨o6, ho6, hM⟩ := bind_some hM
  have EX6 : ∀ (H : Heap) (locs : List Loc) (ls : Array Slot), PS D g (va_A (va_pl L f) szz) s.heap s L f H locs → lv_has ls 6 [(4, .int o6.2)] → W p l e { frames := 0, cells := 0, slots := 0, locals := 0 } s m [.ref y, .int sq, .long t].toArray below meth c H locs 0 0 QQ (F0 m 51 ls []) := by
    intro H locs ls S hl
    refine lv_iload hx hb dX9_timesIn_51 (lv_at hl 0 rfl) ?_
    subst hQQ
    exact q_reti (post := fun x L1 f1 => x = z ∧ L1 = L ∧ f1 = f) hx hb hr hlk S dX9_timesIn_53 (by decide) (by decide) (by have hz := Option.some.inj hM; subst hz; exact ⟨rfl, rfl, rfl⟩)
  have LP6 : ∀ (fu : Nat) (x5_6 : Int32) (x4_6 : Int32) (H : Heap) (locs : List Loc) (ls : Array Slot), (mX9_timesIn_L6 vContents vContentMany sq t) fu x5_6 x4_6 = some o6 → PS D g (va_A (va_pl L f) szz) s.heap s L f H locs → lv_has ls 6 [(5, .int x5_6), (4, .int x4_6), (0, .ref y), (1, .int sq), (2, .long t)] → W p l e { frames := 0, cells := 0, slots := 0, locals := 0 } s m [.ref y, .int sq, .long t].toArray below meth c H locs 0 0 QQ (F0 m 6 ls []) := by
    intro fu
    induction fu with
    | zero => intro x5_6 x4_6 H locs ls ho6 S hl; exact no_some ho6
    | succ fu ih6 =>
      intro x5_6 x4_6 H locs ls ho6 S hl
      rw [mX9_timesIn_L6] at ho6
      refine lv_iload hx hb dX9_timesIn_6 (lv_at hl 0 rfl) ?_
      refine lv_aload_n hx hb dX9_timesIn_8 rfl (lv_at hl 2 rfl) ?_
      refine q_get hx hb hts in_X9 hown S m_y e_y (C := RX9) (T := TX9) (N := 23) rfl 7 (by decide) rfl (hts (.fieldLink RX9 32 "SieveCabinetModel" "contentMany" "[I") (by decide +kernel)) dX9_timesIn_9 ?_
      refine lv_iload_n hx hb dX9_timesIn_12 rfl (lv_at hl 3 rfl) ?_
      obtain ⟨hi13, ho6⟩ := ckx ho6
      refine q_iald hx hb S m_aContentMany e_aContentMany hi13 dX9_timesIn_13 ?_
      refine lv_icmp_ge (tgt := 51) hx hb dX9_timesIn_14 (by decide) (fun b14 => ?_) (fun b14 => ?_)
      · have ho6 := itT b14 ho6
        obtain rfl := Option.some.inj ho6
        exact EX6 _ _ _ S (lv_sub hl [1] rfl)
      · have ho6 := itF b14 ho6
        refine lv_iload hx hb dX9_timesIn_17 (lv_at hl 1 rfl) ?_
        refine lv_aload_n hx hb dX9_timesIn_19 rfl (lv_at hl 2 rfl) ?_
        refine q_get hx hb hts in_X9 hown S m_y e_y (C := RX9) (T := TX9) (N := 23) rfl 6 (by decide) rfl (hts (.fieldLink RX9 29 "SieveCabinetModel" "contents" "[J") (by decide +kernel)) dX9_timesIn_20 ?_
        refine lv_iload_n hx hb dX9_timesIn_23 rfl (lv_at hl 3 rfl) ?_
        refine lv_sipush (v := (1000 : Int32)) hx hb dX9_timesIn_24 (by decide) ?_
        refine lv_imul hx hb dX9_timesIn_27 ?_
        refine lv_iload hx hb dX9_timesIn_28 (lv_at hl 0 rfl) ?_
        refine lv_iadd hx hb dX9_timesIn_30 ?_
        obtain ⟨hi31, ho6⟩ := ckx ho6
        refine q_lald hx hb S m_aContents e_aContents hi31 dX9_timesIn_31 ?_
        refine lv_lload_n hx hb dX9_timesIn_32 rfl (lv_at hl 4 rfl) ?_
        refine W.lcmp hx hb dX9_timesIn_33 ?_
        refine lv_if_ne (tgt := 41) hx hb dX9_timesIn_34 (by decide) (fun b34 => ?_) (fun b34 => ?_)
        · have ho6 := itF b34 ho6
          refine lv_iconst (v := (0 : Int32)) hx hb dX9_timesIn_41 (by decide) ?_
          refine lv_iadd hx hb dX9_timesIn_42 ?_
          refine lv_istore (lv' := [(4, .int (x4_6 + (0 : Int32))), (5, .int x5_6), (0, .ref y), (1, .int sq), (2, .long t)]) hx hb dX9_timesIn_43 hl (by decide) rfl (fun ls hl => ?_)
          refine lv_iinc (v := (x5_6 + 1)) (lv' := [(5, .int (x5_6 + 1)), (4, .int (x4_6 + (0 : Int32))), (0, .ref y), (1, .int sq), (2, .long t)]) hx hb dX9_timesIn_45 hl (k := 1) rfl rfl (by decide) rfl (fun ls hl => ?_)
          refine lv_goto (tgt := 6) hx hb dX9_timesIn_48 (by decide) ?_
          exact ih6 (x5_6 + 1) (x4_6 + (0 : Int32)) _ _ _ ho6 S (lv_sub hl [0, 1, 2, 3, 4] rfl)
        · have ho6 := itT b34 ho6
          refine lv_iconst (v := (1 : Int32)) hx hb dX9_timesIn_37 (by decide) ?_
          refine lv_goto (tgt := 42) hx hb dX9_timesIn_38 (by decide) ?_
          refine lv_iadd hx hb dX9_timesIn_42 ?_
          refine lv_istore (lv' := [(4, .int (x4_6 + (1 : Int32))), (5, .int x5_6), (0, .ref y), (1, .int sq), (2, .long t)]) hx hb dX9_timesIn_43 hl (by decide) rfl (fun ls hl => ?_)
          refine lv_iinc (v := (x5_6 + 1)) (lv' := [(5, .int (x5_6 + 1)), (4, .int (x4_6 + (1 : Int32))), (0, .ref y), (1, .int sq), (2, .long t)]) hx hb dX9_timesIn_45 hl (k := 1) rfl rfl (by decide) rfl (fun ls hl => ?_)
          refine lv_goto (tgt := 6) hx hb dX9_timesIn_48 (by decide) ?_
          exact ih6 (x5_6 + 1) (x4_6 + (1 : Int32)) _ _ _ ho6 S (lv_sub hl [0, 1, 2, 3, 4] rfl)
  exact LP6 FU (0 : Int32) (0 : Int32) _ _ _ ho6 S (lv_sub hl [0, 1, 2, 3, 4] rfl)

def mX9_isWide (wd : Int32) (lo : Int32) (hi : Int32) : Option (Int32) := if wd < lo then (some (0 : Int32)) else (if hi < wd then (some (0 : Int32)) else (if (wd &&& (wd - (1 : Int32))) = 0 then (some (1 : Int32)) else (some (0 : Int32))))
set_option maxHeartbeats 4000000 in
set_option maxRecDepth 100000 in
theorem k_X9_isWide (l : Launch) (D : va_G) (g : Nat → ClassId) {L : List Nat} {f : Nat → va_E} {wd : Int32} {lo : Int32} {hi : Int32} {z : Int32}     (hM : mX9_isWide wd lo hi = some z) : cI l yX9_isWide wsX9_isWide { frames := 0, cells := 0, slots := 0, locals := 0 } D g [.int wd, .int lo, .int hi] L f 0 0 (fun x L1 f1 => x = z ∧ L1 = L ∧ f1 = f) := by
  refine cI_of (cc := cX9_isWide) (maxL := 3) (ret := (some .boolean)) (by decide) rfl (Nat.le_of_ble_eq_true rfl) ?_
  intro szz p e s m below meth c hx hb hr hml hts hown hlk hnm S ls hl
  have hl : lv_has ls 3 [(0, .int wd), (1, .int lo), (2, .int hi)] := hl
  unfold mX9_isWide at hM
  refine W_gen (fun QQ hQQ => ?_)
  refine lv_iload_n hx hb dX9_isWide_0 rfl (lv_at hl 0 rfl) ?_
  refine lv_iload_n hx hb dX9_isWide_1 rfl (lv_at hl 1 rfl) ?_
  refine lv_icmp_lt (tgt := 22) hx hb dX9_isWide_2 (by decide) (fun b2 => ?_) (fun b2 => ?_)
  · have hM := itT b2 hM
    refine lv_iconst (v := (0 : Int32)) hx hb dX9_isWide_22 (by decide) ?_
    subst hQQ
    exact q_retz (post := fun x L1 f1 => x = z ∧ L1 = L ∧ f1 = f) hx hb hr hlk S dX9_isWide_23 (by decide) (by decide) (by decide) (by have hz := Option.some.inj hM; subst hz; exact ⟨rfl, rfl, rfl⟩)
  · have hM := itF b2 hM
    refine lv_iload_n hx hb dX9_isWide_5 rfl (lv_at hl 0 rfl) ?_
    refine lv_iload_n hx hb dX9_isWide_6 rfl (lv_at hl 2 rfl) ?_
    refine lv_icmp_gt (tgt := 22) hx hb dX9_isWide_7 (by decide) (fun b7 => ?_) (fun b7 => ?_)
    · have hM := itT b7 hM
      refine lv_iconst (v := (0 : Int32)) hx hb dX9_isWide_22 (by decide) ?_
      subst hQQ
      exact q_retz (post := fun x L1 f1 => x = z ∧ L1 = L ∧ f1 = f) hx hb hr hlk S dX9_isWide_23 (by decide) (by decide) (by decide) (by have hz := Option.some.inj hM; subst hz; exact ⟨rfl, rfl, rfl⟩)
    · have hM := itF b7 hM
      refine lv_iload_n hx hb dX9_isWide_10 rfl (lv_at hl 0 rfl) ?_
      refine lv_iload_n hx hb dX9_isWide_11 rfl (lv_at hl 0 rfl) ?_
      refine lv_iconst (v := (1 : Int32)) hx hb dX9_isWide_12 (by decide) ?_
      refine lv_isub hx hb dX9_isWide_13 ?_
      refine lv_iand hx hb dX9_isWide_14 ?_
      refine lv_if_ne (tgt := 22) hx hb dX9_isWide_15 (by decide) (fun b15 => ?_) (fun b15 => ?_)
      · have hM := itF b15 hM
        refine lv_iconst (v := (0 : Int32)) hx hb dX9_isWide_22 (by decide) ?_
        subst hQQ
        exact q_retz (post := fun x L1 f1 => x = z ∧ L1 = L ∧ f1 = f) hx hb hr hlk S dX9_isWide_23 (by decide) (by decide) (by decide) (by have hz := Option.some.inj hM; subst hz; exact ⟨rfl, rfl, rfl⟩)
      · have hM := itT b15 hM
        refine lv_iconst (v := (1 : Int32)) hx hb dX9_isWide_18 (by decide) ?_
        refine lv_goto (tgt := 23) hx hb dX9_isWide_19 (by decide) ?_
        subst hQQ
        exact q_retz (post := fun x L1 f1 => x = z ∧ L1 = L ∧ f1 = f) hx hb hr hlk S dX9_isWide_23 (by decide) (by decide) (by decide) (by have hz := Option.some.inj hM; subst hz; exact ⟨rfl, rfl, rfl⟩)

def mX9_begin_L58 (many : Int32) : Nat → Int32 → (Nat → Int32) → Option (Int32 × (Nat → Int32))
  | 0, _, _ => none
  | fu + 1, x6_58, caRow_58 => if (4096 : Int32) ≤ x6_58 then (some (x6_58, caRow_58)) else (if ix ((many * (4096 : Int32)) + x6_58) 122880 = true then (mX9_begin_L58 many fu (x6_58 + 1) (upd caRow_58 (Int32.toNatClampNeg ((many * (4096 : Int32)) + x6_58)) (0 : Int32))) else none)
def mX9_begin (many : Int32) (vKind : Nat → Int32) (vSize : Nat → Int32) (vMarks : Nat → Int32) (vSeed : Nat → Int32) (vContentMany : Nat → Int32) (vRow : Nat → Int32) (vRestMany : Nat → Int32) (k0 : Int32) (k1 : Int32) (k2 : Int32) (k3 : Int32) : Option (Int32 × Int32 × (Nat → Int32) × (Nat → Int32) × (Nat → Int32) × (Nat → Int32) × (Nat → Int32) × (Nat → Int32) × (Nat → Int32)) := if ix many 30 = true then (if ix many 30 = true then (if ix many 30 = true then (if ix many 30 = true then (if ix many 30 = true then (if ix many 30 = true then ((mX9_begin_L58 many FU (0 : Int32) vRow).bind fun o58 => some (many, (many + (1 : Int32)), (upd vKind (Int32.toNatClampNeg many) k0), (upd vSize (Int32.toNatClampNeg many) k1), (upd vMarks (Int32.toNatClampNeg many) k2), (upd vSeed (Int32.toNatClampNeg many) k3), (upd vContentMany (Int32.toNatClampNeg many) (0 : Int32)), o58.2, (upd vRestMany (Int32.toNatClampNeg many) (0 : Int32)))) else none) else none) else none) else none) else none) else none
set_option maxHeartbeats 4000000 in
set_option maxRecDepth 100000 in
theorem k_X9_begin (l : Launch) (D : va_G) (g : Nat → ClassId) {L : List Nat} {f : Nat → va_E} {aAlone aBits aCome aContentMany aContents aGone aInWorld aIsOff aKept aKind aLayerCame aLayerSize aMarks aOffAt aOrder aRest aRestMany aRivals aRow aSeed aSize aWorlds y : Nat} {many : Int32} {vWorlds : Nat → Int64} {vInWorld : Nat → Int32} {vKind : Nat → Int32} {vSize : Nat → Int32} {vMarks : Nat → Int32} {vSeed : Nat → Int32} {vContents : Nat → Int64} {vContentMany : Nat → Int32} {vRow : Nat → Int32} {vBits : Nat → Int32} {vLayerSize : Nat → Int32} {vLayerCame : Nat → Int32} {vRest : Nat → Int64} {vRestMany : Nat → Int32} {vCome : Nat → Int64} {vRivals : Nat → Int64} {vGone : Nat → Int64} {vOrder : Nat → Int32} {vOffAt : Nat → Int32} {vIsOff : Nat → Int32} {vAlone : Nat → Int32} {vKept : Nat → Int32} {k0 : Int32} {k1 : Int32} {k2 : Int32} {k3 : Int32} {ρ : Nat → Nat × Nat} {z : Int32 × Int32 × (Nat → Int32) × (Nat → Int32) × (Nat → Int32) × (Nat → Int32) × (Nat → Int32) × (Nat → Int32) × (Nat → Int32)} (m_y : y ∈ L) (e_y : f y = .inr (7, [.ref aWorlds, .ref aInWorld, .ref aKind, .ref aSize, .ref aMarks, .ref aSeed, .ref aContents, .ref aContentMany, .ref aRow, .ref aBits, .ref aLayerSize, .ref aLayerCame, .ref aRest, .ref aRestMany, .int many, .ref aCome, .ref aRivals, .ref aGone, .ref aOrder, .ref aOffAt, .ref aIsOff, .ref aAlone, .ref aKept])) (m_aWorlds : aWorlds ∈ L) (e_aWorlds : f aWorlds = .inl (g 1, 8000, .inr (.inl vWorlds))) (m_aInWorld : aInWorld ∈ L) (e_aInWorld : f aInWorld = .inl (g 0, 8, .inl vInWorld)) (m_aKind : aKind ∈ L) (e_aKind : f aKind = .inl (g 0, 30, .inl vKind)) (m_aSize : aSize ∈ L) (e_aSize : f aSize = .inl (g 0, 30, .inl vSize)) (m_aMarks : aMarks ∈ L) (e_aMarks : f aMarks = .inl (g 0, 30, .inl vMarks)) (m_aSeed : aSeed ∈ L) (e_aSeed : f aSeed = .inl (g 0, 30, .inl vSeed)) (m_aContents : aContents ∈ L) (e_aContents : f aContents = .inl (g 1, 30000, .inr (.inl vContents))) (m_aContentMany : aContentMany ∈ L) (e_aContentMany : f aContentMany = .inl (g 0, 30, .inl vContentMany)) (m_aRow : aRow ∈ L) (e_aRow : f aRow = .inl (g 0, 122880, .inl vRow)) (m_aBits : aBits ∈ L) (e_aBits : f aBits = .inl (g 0, 76800, .inl vBits)) (m_aLayerSize : aLayerSize ∈ L) (e_aLayerSize : f aLayerSize = .inl (g 0, 600, .inl vLayerSize)) (m_aLayerCame : aLayerCame ∈ L) (e_aLayerCame : f aLayerCame = .inl (g 0, 600, .inl vLayerCame)) (m_aRest : aRest ∈ L) (e_aRest : f aRest = .inl (g 1, 30000, .inr (.inl vRest))) (m_aRestMany : aRestMany ∈ L) (e_aRestMany : f aRestMany = .inl (g 0, 30, .inl vRestMany)) (m_aCome : aCome ∈ L) (e_aCome : f aCome = .inl (g 1, 1000, .inr (.inl vCome))) (m_aRivals : aRivals ∈ L) (e_aRivals : f aRivals = .inl (g 1, 1000, .inr (.inl vRivals))) (m_aGone : aGone ∈ L) (e_aGone : f aGone = .inl (g 1, 1000, .inr (.inl vGone))) (m_aOrder : aOrder ∈ L) (e_aOrder : f aOrder = .inl (g 0, 1000, .inl vOrder)) (m_aOffAt : aOffAt ∈ L) (e_aOffAt : f aOffAt = .inl (g 0, 1000, .inl vOffAt)) (m_aIsOff : aIsOff ∈ L) (e_aIsOff : f aIsOff = .inl (g 2, 1000, .inl vIsOff)) (m_aAlone : aAlone ∈ L) (e_aAlone : f aAlone = .inl (g 0, 4096, .inl vAlone)) (m_aKept : aKept ∈ L) (e_aKept : f aKept = .inl (g 0, 4096, .inl vKept))  (r_aKind : ρ aKind = (500, 3)) (r_aSize : ρ aSize = (500, 4)) (r_aMarks : ρ aMarks = (500, 5)) (r_aSeed : ρ aSeed = (500, 6)) (r_aContentMany : ρ aContentMany = (500, 8)) (r_aRestMany : ρ aRestMany = (500, 14))  (hM : mX9_begin many vKind vSize vMarks vSeed vContentMany vRow vRestMany k0 k1 k2 k3 = some z) : cI l yX9_begin wsX9_begin { frames := 0, cells := 0, slots := 0, locals := 0 } D g [.ref y, .int k0, .int k1, .int k2, .int k3] L f 0 0 (fun x L1 f1 => x = z.1 ∧ L1 = L ∧ (∀ b, b ∈ L → b ≠ y → b ≠ aKind → b ≠ aSize → b ≠ aMarks → b ≠ aSeed → b ≠ aContentMany → b ≠ aRow → b ≠ aRestMany → f1 b = f b) ∧ f1 y = .inr (7, [.ref aWorlds, .ref aInWorld, .ref aKind, .ref aSize, .ref aMarks, .ref aSeed, .ref aContents, .ref aContentMany, .ref aRow, .ref aBits, .ref aLayerSize, .ref aLayerCame, .ref aRest, .ref aRestMany, .int z.2.1, .ref aCome, .ref aRivals, .ref aGone, .ref aOrder, .ref aOffAt, .ref aIsOff, .ref aAlone, .ref aKept]) ∧ f1 aKind = .inl (g 0, 30, .inl z.2.2.1) ∧ f1 aSize = .inl (g 0, 30, .inl z.2.2.2.1) ∧ f1 aMarks = .inl (g 0, 30, .inl z.2.2.2.2.1) ∧ f1 aSeed = .inl (g 0, 30, .inl z.2.2.2.2.2.1) ∧ f1 aContentMany = .inl (g 0, 30, .inl z.2.2.2.2.2.2.1) ∧ f1 aRow = .inl (g 0, 122880, .inl z.2.2.2.2.2.2.2.1) ∧ f1 aRestMany = .inl (g 0, 30, .inl z.2.2.2.2.2.2.2.2)) := by
  refine cI_of (cc := cX9_begin) (maxL := 7) (ret := (some .int)) (by decide) rfl (Nat.le_of_ble_eq_true rfl) ?_
  intro szz p e s m below meth c hx hb hr hml hts hown hlk hnm S ls hl
  have hl : lv_has ls 7 [(0, .ref y), (1, .int k0), (2, .int k1), (3, .int k2), (4, .int k3)] := hl
  have in_X9 : ∀ w ∈ wsX90, w ∈ wsX9_begin := by decide +kernel
  have n_y_aKind : y ≠ aKind := ne_ir e_aKind e_y
  have n_aSize_aKind : aSize ≠ aKind := role_ne r_aKind r_aSize (by decide)
  have n_y_aSize : y ≠ aSize := ne_ir e_aSize e_y
  have n_aMarks_aKind : aMarks ≠ aKind := role_ne r_aKind r_aMarks (by decide)
  have n_aMarks_aSize : aMarks ≠ aSize := role_ne r_aSize r_aMarks (by decide)
  have n_y_aMarks : y ≠ aMarks := ne_ir e_aMarks e_y
  have n_aSeed_aKind : aSeed ≠ aKind := role_ne r_aKind r_aSeed (by decide)
  have n_aSeed_aSize : aSeed ≠ aSize := role_ne r_aSize r_aSeed (by decide)
  have n_aSeed_aMarks : aSeed ≠ aMarks := role_ne r_aMarks r_aSeed (by decide)
  have n_y_aSeed : y ≠ aSeed := ne_ir e_aSeed e_y
  have n_aContentMany_aKind : aContentMany ≠ aKind := role_ne r_aKind r_aContentMany (by decide)
  have n_aContentMany_aSize : aContentMany ≠ aSize := role_ne r_aSize r_aContentMany (by decide)
  have n_aContentMany_aMarks : aContentMany ≠ aMarks := role_ne r_aMarks r_aContentMany (by decide)
  have n_aContentMany_aSeed : aContentMany ≠ aSeed := role_ne r_aSeed r_aContentMany (by decide)
  have n_y_aContentMany : y ≠ aContentMany := ne_ir e_aContentMany e_y
  have n_aRestMany_aKind : aRestMany ≠ aKind := role_ne r_aKind r_aRestMany (by decide)
  have n_aRestMany_aSize : aRestMany ≠ aSize := role_ne r_aSize r_aRestMany (by decide)
  have n_aRestMany_aMarks : aRestMany ≠ aMarks := role_ne r_aMarks r_aRestMany (by decide)
  have n_aRestMany_aSeed : aRestMany ≠ aSeed := role_ne r_aSeed r_aRestMany (by decide)
  have n_aRestMany_aContentMany : aRestMany ≠ aContentMany := role_ne r_aContentMany r_aRestMany (by decide)
  have n_y_aRestMany : y ≠ aRestMany := ne_ir e_aRestMany e_y
  have n_aWorlds_aKind : aWorlds ≠ aKind := ne_len e_aKind e_aWorlds (by decide)
  have n_aWorlds_aSize : aWorlds ≠ aSize := ne_len e_aSize e_aWorlds (by decide)
  have n_aWorlds_aMarks : aWorlds ≠ aMarks := ne_len e_aMarks e_aWorlds (by decide)
  have n_aWorlds_aSeed : aWorlds ≠ aSeed := ne_len e_aSeed e_aWorlds (by decide)
  have n_aWorlds_aContentMany : aWorlds ≠ aContentMany := ne_len e_aContentMany e_aWorlds (by decide)
  have n_aWorlds_aRestMany : aWorlds ≠ aRestMany := ne_len e_aRestMany e_aWorlds (by decide)
  have n_aInWorld_aKind : aInWorld ≠ aKind := ne_len e_aKind e_aInWorld (by decide)
  have n_aInWorld_aSize : aInWorld ≠ aSize := ne_len e_aSize e_aInWorld (by decide)
  have n_aInWorld_aMarks : aInWorld ≠ aMarks := ne_len e_aMarks e_aInWorld (by decide)
  have n_aInWorld_aSeed : aInWorld ≠ aSeed := ne_len e_aSeed e_aInWorld (by decide)
  have n_aInWorld_aContentMany : aInWorld ≠ aContentMany := ne_len e_aContentMany e_aInWorld (by decide)
  have n_aInWorld_aRestMany : aInWorld ≠ aRestMany := ne_len e_aRestMany e_aInWorld (by decide)
  have n_aKind_aSize : aKind ≠ aSize := role_ne r_aSize r_aKind (by decide)
  have n_aKind_aMarks : aKind ≠ aMarks := role_ne r_aMarks r_aKind (by decide)
  have n_aKind_aSeed : aKind ≠ aSeed := role_ne r_aSeed r_aKind (by decide)
  have n_aKind_aContentMany : aKind ≠ aContentMany := role_ne r_aContentMany r_aKind (by decide)
  have n_aKind_aRestMany : aKind ≠ aRestMany := role_ne r_aRestMany r_aKind (by decide)
  have n_aSize_aMarks : aSize ≠ aMarks := role_ne r_aMarks r_aSize (by decide)
  have n_aSize_aSeed : aSize ≠ aSeed := role_ne r_aSeed r_aSize (by decide)
  have n_aSize_aContentMany : aSize ≠ aContentMany := role_ne r_aContentMany r_aSize (by decide)
  have n_aSize_aRestMany : aSize ≠ aRestMany := role_ne r_aRestMany r_aSize (by decide)
  have n_aMarks_aSeed : aMarks ≠ aSeed := role_ne r_aSeed r_aMarks (by decide)
  have n_aMarks_aContentMany : aMarks ≠ aContentMany := role_ne r_aContentMany r_aMarks (by decide)
  have n_aMarks_aRestMany : aMarks ≠ aRestMany := role_ne r_aRestMany r_aMarks (by decide)
  have n_aSeed_aContentMany : aSeed ≠ aContentMany := role_ne r_aContentMany r_aSeed (by decide)
  have n_aSeed_aRestMany : aSeed ≠ aRestMany := role_ne r_aRestMany r_aSeed (by decide)
  have n_aContents_aKind : aContents ≠ aKind := ne_len e_aKind e_aContents (by decide)
  have n_aContents_aSize : aContents ≠ aSize := ne_len e_aSize e_aContents (by decide)
  have n_aContents_aMarks : aContents ≠ aMarks := ne_len e_aMarks e_aContents (by decide)
  have n_aContents_aSeed : aContents ≠ aSeed := ne_len e_aSeed e_aContents (by decide)
  have n_aContents_aContentMany : aContents ≠ aContentMany := ne_len e_aContentMany e_aContents (by decide)
  have n_aContents_aRestMany : aContents ≠ aRestMany := ne_len e_aRestMany e_aContents (by decide)
  have n_aContentMany_aRestMany : aContentMany ≠ aRestMany := role_ne r_aRestMany r_aContentMany (by decide)
  have n_aRow_aKind : aRow ≠ aKind := ne_len e_aKind e_aRow (by decide)
  have n_aRow_aSize : aRow ≠ aSize := ne_len e_aSize e_aRow (by decide)
  have n_aRow_aMarks : aRow ≠ aMarks := ne_len e_aMarks e_aRow (by decide)
  have n_aRow_aSeed : aRow ≠ aSeed := ne_len e_aSeed e_aRow (by decide)
  have n_aRow_aContentMany : aRow ≠ aContentMany := ne_len e_aContentMany e_aRow (by decide)
  have n_aRow_aRestMany : aRow ≠ aRestMany := ne_len e_aRestMany e_aRow (by decide)
  have n_aBits_aKind : aBits ≠ aKind := ne_len e_aKind e_aBits (by decide)
  have n_aBits_aSize : aBits ≠ aSize := ne_len e_aSize e_aBits (by decide)
  have n_aBits_aMarks : aBits ≠ aMarks := ne_len e_aMarks e_aBits (by decide)
  have n_aBits_aSeed : aBits ≠ aSeed := ne_len e_aSeed e_aBits (by decide)
  have n_aBits_aContentMany : aBits ≠ aContentMany := ne_len e_aContentMany e_aBits (by decide)
  have n_aBits_aRestMany : aBits ≠ aRestMany := ne_len e_aRestMany e_aBits (by decide)
  have n_aLayerSize_aKind : aLayerSize ≠ aKind := ne_len e_aKind e_aLayerSize (by decide)
  have n_aLayerSize_aSize : aLayerSize ≠ aSize := ne_len e_aSize e_aLayerSize (by decide)
  have n_aLayerSize_aMarks : aLayerSize ≠ aMarks := ne_len e_aMarks e_aLayerSize (by decide)
  have n_aLayerSize_aSeed : aLayerSize ≠ aSeed := ne_len e_aSeed e_aLayerSize (by decide)
  have n_aLayerSize_aContentMany : aLayerSize ≠ aContentMany := ne_len e_aContentMany e_aLayerSize (by decide)
  have n_aLayerSize_aRestMany : aLayerSize ≠ aRestMany := ne_len e_aRestMany e_aLayerSize (by decide)
  have n_aLayerCame_aKind : aLayerCame ≠ aKind := ne_len e_aKind e_aLayerCame (by decide)
  have n_aLayerCame_aSize : aLayerCame ≠ aSize := ne_len e_aSize e_aLayerCame (by decide)
  have n_aLayerCame_aMarks : aLayerCame ≠ aMarks := ne_len e_aMarks e_aLayerCame (by decide)
  have n_aLayerCame_aSeed : aLayerCame ≠ aSeed := ne_len e_aSeed e_aLayerCame (by decide)
  have n_aLayerCame_aContentMany : aLayerCame ≠ aContentMany := ne_len e_aContentMany e_aLayerCame (by decide)
  have n_aLayerCame_aRestMany : aLayerCame ≠ aRestMany := ne_len e_aRestMany e_aLayerCame (by decide)
  have n_aRest_aKind : aRest ≠ aKind := ne_len e_aKind e_aRest (by decide)
  have n_aRest_aSize : aRest ≠ aSize := ne_len e_aSize e_aRest (by decide)
  have n_aRest_aMarks : aRest ≠ aMarks := ne_len e_aMarks e_aRest (by decide)
  have n_aRest_aSeed : aRest ≠ aSeed := ne_len e_aSeed e_aRest (by decide)
  have n_aRest_aContentMany : aRest ≠ aContentMany := ne_len e_aContentMany e_aRest (by decide)
  have n_aRest_aRestMany : aRest ≠ aRestMany := ne_len e_aRestMany e_aRest (by decide)
  have n_aCome_aKind : aCome ≠ aKind := ne_len e_aKind e_aCome (by decide)
  have n_aCome_aSize : aCome ≠ aSize := ne_len e_aSize e_aCome (by decide)
  have n_aCome_aMarks : aCome ≠ aMarks := ne_len e_aMarks e_aCome (by decide)
  have n_aCome_aSeed : aCome ≠ aSeed := ne_len e_aSeed e_aCome (by decide)
  have n_aCome_aContentMany : aCome ≠ aContentMany := ne_len e_aContentMany e_aCome (by decide)
  have n_aCome_aRestMany : aCome ≠ aRestMany := ne_len e_aRestMany e_aCome (by decide)
  have n_aRivals_aKind : aRivals ≠ aKind := ne_len e_aKind e_aRivals (by decide)
  have n_aRivals_aSize : aRivals ≠ aSize := ne_len e_aSize e_aRivals (by decide)
  have n_aRivals_aMarks : aRivals ≠ aMarks := ne_len e_aMarks e_aRivals (by decide)
  have n_aRivals_aSeed : aRivals ≠ aSeed := ne_len e_aSeed e_aRivals (by decide)
  have n_aRivals_aContentMany : aRivals ≠ aContentMany := ne_len e_aContentMany e_aRivals (by decide)
  have n_aRivals_aRestMany : aRivals ≠ aRestMany := ne_len e_aRestMany e_aRivals (by decide)
  have n_aGone_aKind : aGone ≠ aKind := ne_len e_aKind e_aGone (by decide)
  have n_aGone_aSize : aGone ≠ aSize := ne_len e_aSize e_aGone (by decide)
  have n_aGone_aMarks : aGone ≠ aMarks := ne_len e_aMarks e_aGone (by decide)
  have n_aGone_aSeed : aGone ≠ aSeed := ne_len e_aSeed e_aGone (by decide)
  have n_aGone_aContentMany : aGone ≠ aContentMany := ne_len e_aContentMany e_aGone (by decide)
  have n_aGone_aRestMany : aGone ≠ aRestMany := ne_len e_aRestMany e_aGone (by decide)
  have n_aOrder_aKind : aOrder ≠ aKind := ne_len e_aKind e_aOrder (by decide)
  have n_aOrder_aSize : aOrder ≠ aSize := ne_len e_aSize e_aOrder (by decide)
  have n_aOrder_aMarks : aOrder ≠ aMarks := ne_len e_aMarks e_aOrder (by decide)
  have n_aOrder_aSeed : aOrder ≠ aSeed := ne_len e_aSeed e_aOrder (by decide)
  have n_aOrder_aContentMany : aOrder ≠ aContentMany := ne_len e_aContentMany e_aOrder (by decide)
  have n_aOrder_aRestMany : aOrder ≠ aRestMany := ne_len e_aRestMany e_aOrder (by decide)
  have n_aOffAt_aKind : aOffAt ≠ aKind := ne_len e_aKind e_aOffAt (by decide)
  have n_aOffAt_aSize : aOffAt ≠ aSize := ne_len e_aSize e_aOffAt (by decide)
  have n_aOffAt_aMarks : aOffAt ≠ aMarks := ne_len e_aMarks e_aOffAt (by decide)
  have n_aOffAt_aSeed : aOffAt ≠ aSeed := ne_len e_aSeed e_aOffAt (by decide)
  have n_aOffAt_aContentMany : aOffAt ≠ aContentMany := ne_len e_aContentMany e_aOffAt (by decide)
  have n_aOffAt_aRestMany : aOffAt ≠ aRestMany := ne_len e_aRestMany e_aOffAt (by decide)
  have n_aIsOff_aKind : aIsOff ≠ aKind := ne_len e_aKind e_aIsOff (by decide)
  have n_aIsOff_aSize : aIsOff ≠ aSize := ne_len e_aSize e_aIsOff (by decide)
  have n_aIsOff_aMarks : aIsOff ≠ aMarks := ne_len e_aMarks e_aIsOff (by decide)
  have n_aIsOff_aSeed : aIsOff ≠ aSeed := ne_len e_aSeed e_aIsOff (by decide)
  have n_aIsOff_aContentMany : aIsOff ≠ aContentMany := ne_len e_aContentMany e_aIsOff (by decide)
  have n_aIsOff_aRestMany : aIsOff ≠ aRestMany := ne_len e_aRestMany e_aIsOff (by decide)
  have n_aAlone_aKind : aAlone ≠ aKind := ne_len e_aKind e_aAlone (by decide)
  have n_aAlone_aSize : aAlone ≠ aSize := ne_len e_aSize e_aAlone (by decide)
  have n_aAlone_aMarks : aAlone ≠ aMarks := ne_len e_aMarks e_aAlone (by decide)
  have n_aAlone_aSeed : aAlone ≠ aSeed := ne_len e_aSeed e_aAlone (by decide)
  have n_aAlone_aContentMany : aAlone ≠ aContentMany := ne_len e_aContentMany e_aAlone (by decide)
  have n_aAlone_aRestMany : aAlone ≠ aRestMany := ne_len e_aRestMany e_aAlone (by decide)
  have n_aKept_aKind : aKept ≠ aKind := ne_len e_aKind e_aKept (by decide)
  have n_aKept_aSize : aKept ≠ aSize := ne_len e_aSize e_aKept (by decide)
  have n_aKept_aMarks : aKept ≠ aMarks := ne_len e_aMarks e_aKept (by decide)
  have n_aKept_aSeed : aKept ≠ aSeed := ne_len e_aSeed e_aKept (by decide)
  have n_aKept_aContentMany : aKept ≠ aContentMany := ne_len e_aContentMany e_aKept (by decide)
  have n_aKept_aRestMany : aKept ≠ aRestMany := ne_len e_aRestMany e_aKept (by decide)
  have n_aKind_y : aKind ≠ y := ne_ri e_y e_aKind
  have n_aSize_y : aSize ≠ y := ne_ri e_y e_aSize
  have n_aMarks_y : aMarks ≠ y := ne_ri e_y e_aMarks
  have n_aSeed_y : aSeed ≠ y := ne_ri e_y e_aSeed
  have n_aContentMany_y : aContentMany ≠ y := ne_ri e_y e_aContentMany
  have n_aRow_y : aRow ≠ y := ne_ri e_y e_aRow
  have n_aRestMany_y : aRestMany ≠ y := ne_ri e_y e_aRestMany
  have n_y_aRow : y ≠ aRow := ne_ir e_aRow e_y
  have n_aWorlds_aRow : aWorlds ≠ aRow := ne_len e_aRow e_aWorlds (by decide)
  have n_aInWorld_aRow : aInWorld ≠ aRow := ne_len e_aRow e_aInWorld (by decide)
  have n_aKind_aRow : aKind ≠ aRow := ne_len e_aRow e_aKind (by decide)
  have n_aSize_aRow : aSize ≠ aRow := ne_len e_aRow e_aSize (by decide)
  have n_aMarks_aRow : aMarks ≠ aRow := ne_len e_aRow e_aMarks (by decide)
  have n_aSeed_aRow : aSeed ≠ aRow := ne_len e_aRow e_aSeed (by decide)
  have n_aContents_aRow : aContents ≠ aRow := ne_len e_aRow e_aContents (by decide)
  have n_aContentMany_aRow : aContentMany ≠ aRow := ne_len e_aRow e_aContentMany (by decide)
  have n_aBits_aRow : aBits ≠ aRow := ne_len e_aRow e_aBits (by decide)
  have n_aLayerSize_aRow : aLayerSize ≠ aRow := ne_len e_aRow e_aLayerSize (by decide)
  have n_aLayerCame_aRow : aLayerCame ≠ aRow := ne_len e_aRow e_aLayerCame (by decide)
  have n_aRest_aRow : aRest ≠ aRow := ne_len e_aRow e_aRest (by decide)
  have n_aRestMany_aRow : aRestMany ≠ aRow := ne_len e_aRow e_aRestMany (by decide)
  have n_aCome_aRow : aCome ≠ aRow := ne_len e_aRow e_aCome (by decide)
  have n_aRivals_aRow : aRivals ≠ aRow := ne_len e_aRow e_aRivals (by decide)
  have n_aGone_aRow : aGone ≠ aRow := ne_len e_aRow e_aGone (by decide)
  have n_aOrder_aRow : aOrder ≠ aRow := ne_len e_aRow e_aOrder (by decide)
  have n_aOffAt_aRow : aOffAt ≠ aRow := ne_len e_aRow e_aOffAt (by decide)
  have n_aIsOff_aRow : aIsOff ≠ aRow := ne_len e_aRow e_aIsOff (by decide)
  have n_aAlone_aRow : aAlone ≠ aRow := ne_len e_aRow e_aAlone (by decide)
  have n_aKept_aRow : aKept ≠ aRow := ne_len e_aRow e_aKept (by decide)
  have fr : ∀ b, b ∈ L → b ≠ y → b ≠ aKind → b ≠ aSize → b ≠ aMarks → b ≠ aSeed → b ≠ aContentMany → b ≠ aRow → b ≠ aRestMany → f b = f b := fun _ _ _ _ _ _ _ _ _ _ => rfl
  unfold mX9_begin at hM
  refine W_gen (fun QQ hQQ => ?_)
  refine lv_aload_n hx hb dX9_begin_0 rfl (lv_at hl 0 rfl) ?_
  refine q_get hx hb hts in_X9 hown S m_y e_y (C := RX9) (T := TX9) (N := 23) rfl 14 (by decide) rfl (hts (.fieldLink RX9 88 "SieveCabinetModel" "many" "I") (by decide +kernel)) dX9_begin_1 ?_
  refine lv_istore (lv' := [(5, .int many), (0, .ref y), (1, .int k0), (2, .int k1), (3, .int k2), (4, .int k3)]) hx hb dX9_begin_4 hl (by decide) rfl (fun ls hl => ?_)
  refine lv_aload_n hx hb dX9_begin_6 rfl (lv_at hl 1 rfl) ?_
  refine q_get hx hb hts in_X9 hown S m_y e_y (C := RX9) (T := TX9) (N := 23) rfl 2 (by decide) rfl (hts (.fieldLink RX9 17 "SieveCabinetModel" "kind" "[I") (by decide +kernel)) dX9_begin_7 ?_
  refine lv_iload hx hb dX9_begin_10 (lv_at hl 0 rfl) ?_
  refine lv_iload_n hx hb dX9_begin_12 rfl (lv_at hl 2 rfl) ?_
  obtain ⟨hi13, hM⟩ := ckx hM
  refine k_iast hx hb S m_aKind e_aKind hi13 dX9_begin_13 (fun f1 ef1 H locs S => ?_)
  have e_aKind := up_self ef1
  have fr : ∀ b, b ∈ L → b ≠ y → b ≠ aKind → b ≠ aSize → b ≠ aMarks → b ≠ aSeed → b ≠ aContentMany → b ≠ aRow → b ≠ aRestMany → f1 b = f b := fun b mb nb0 nb1 nb2 nb3 nb4 nb5 nb6 nb7 => (up_ne ef1 nb1 rfl).trans (fr b mb nb0 nb1 nb2 nb3 nb4 nb5 nb6 nb7)
  refine lv_aload_n hx hb dX9_begin_14 rfl (lv_at hl 1 rfl) ?_
  have e_y := (up_ne ef1 n_y_aKind e_y)
  refine q_get hx hb hts in_X9 hown S m_y e_y (C := RX9) (T := TX9) (N := 23) rfl 3 (by decide) rfl (hts (.fieldLink RX9 20 "SieveCabinetModel" "size" "[I") (by decide +kernel)) dX9_begin_15 ?_
  refine lv_iload hx hb dX9_begin_18 (lv_at hl 0 rfl) ?_
  refine lv_iload_n hx hb dX9_begin_20 rfl (lv_at hl 3 rfl) ?_
  obtain ⟨hi21, hM⟩ := ckx hM
  have e_aSize := (up_ne ef1 n_aSize_aKind e_aSize)
  refine k_iast hx hb S m_aSize e_aSize hi21 dX9_begin_21 (fun f2 ef2 H locs S => ?_)
  have e_aSize := up_self ef2
  have fr : ∀ b, b ∈ L → b ≠ y → b ≠ aKind → b ≠ aSize → b ≠ aMarks → b ≠ aSeed → b ≠ aContentMany → b ≠ aRow → b ≠ aRestMany → f2 b = f b := fun b mb nb0 nb1 nb2 nb3 nb4 nb5 nb6 nb7 => (up_ne ef2 nb2 rfl).trans (fr b mb nb0 nb1 nb2 nb3 nb4 nb5 nb6 nb7)
  refine lv_aload_n hx hb dX9_begin_22 rfl (lv_at hl 1 rfl) ?_
  have e_y := (up_ne ef2 n_y_aSize e_y)
  refine q_get hx hb hts in_X9 hown S m_y e_y (C := RX9) (T := TX9) (N := 23) rfl 4 (by decide) rfl (hts (.fieldLink RX9 23 "SieveCabinetModel" "marks" "[I") (by decide +kernel)) dX9_begin_23 ?_
  refine lv_iload hx hb dX9_begin_26 (lv_at hl 0 rfl) ?_
  refine lv_iload_n hx hb dX9_begin_28 rfl (lv_at hl 4 rfl) ?_
  obtain ⟨hi29, hM⟩ := ckx hM
  have e_aMarks := (up_ne ef2 n_aMarks_aSize (up_ne ef1 n_aMarks_aKind e_aMarks))
  refine k_iast hx hb S m_aMarks e_aMarks hi29 dX9_begin_29 (fun f3 ef3 H locs S => ?_)
  have e_aMarks := up_self ef3
  have fr : ∀ b, b ∈ L → b ≠ y → b ≠ aKind → b ≠ aSize → b ≠ aMarks → b ≠ aSeed → b ≠ aContentMany → b ≠ aRow → b ≠ aRestMany → f3 b = f b := fun b mb nb0 nb1 nb2 nb3 nb4 nb5 nb6 nb7 => (up_ne ef3 nb3 rfl).trans (fr b mb nb0 nb1 nb2 nb3 nb4 nb5 nb6 nb7)
  refine lv_aload_n hx hb dX9_begin_30 rfl (lv_at hl 1 rfl) ?_
  have e_y := (up_ne ef3 n_y_aMarks e_y)
  refine q_get hx hb hts in_X9 hown S m_y e_y (C := RX9) (T := TX9) (N := 23) rfl 5 (by decide) rfl (hts (.fieldLink RX9 26 "SieveCabinetModel" "seed" "[I") (by decide +kernel)) dX9_begin_31 ?_
  refine lv_iload hx hb dX9_begin_34 (lv_at hl 0 rfl) ?_
  refine lv_iload hx hb dX9_begin_36 (lv_at hl 5 rfl) ?_
  obtain ⟨hi38, hM⟩ := ckx hM
  have e_aSeed := (up_ne ef3 n_aSeed_aMarks (up_ne ef2 n_aSeed_aSize (up_ne ef1 n_aSeed_aKind e_aSeed)))
  refine k_iast hx hb S m_aSeed e_aSeed hi38 dX9_begin_38 (fun f4 ef4 H locs S => ?_)
  have e_aSeed := up_self ef4
  have fr : ∀ b, b ∈ L → b ≠ y → b ≠ aKind → b ≠ aSize → b ≠ aMarks → b ≠ aSeed → b ≠ aContentMany → b ≠ aRow → b ≠ aRestMany → f4 b = f b := fun b mb nb0 nb1 nb2 nb3 nb4 nb5 nb6 nb7 => (up_ne ef4 nb4 rfl).trans (fr b mb nb0 nb1 nb2 nb3 nb4 nb5 nb6 nb7)
  refine lv_aload_n hx hb dX9_begin_39 rfl (lv_at hl 1 rfl) ?_
  have e_y := (up_ne ef4 n_y_aSeed e_y)
  refine q_get hx hb hts in_X9 hown S m_y e_y (C := RX9) (T := TX9) (N := 23) rfl 7 (by decide) rfl (hts (.fieldLink RX9 32 "SieveCabinetModel" "contentMany" "[I") (by decide +kernel)) dX9_begin_40 ?_
  refine lv_iload hx hb dX9_begin_43 (lv_at hl 0 rfl) ?_
  refine lv_iconst (v := (0 : Int32)) hx hb dX9_begin_45 (by decide) ?_
  obtain ⟨hi46, hM⟩ := ckx hM
  have e_aContentMany := (up_ne ef4 n_aContentMany_aSeed (up_ne ef3 n_aContentMany_aMarks (up_ne ef2 n_aContentMany_aSize (up_ne ef1 n_aContentMany_aKind e_aContentMany))))
  refine k_iast hx hb S m_aContentMany e_aContentMany hi46 dX9_begin_46 (fun f5 ef5 H locs S => ?_)
  have e_aContentMany := up_self ef5
  have fr : ∀ b, b ∈ L → b ≠ y → b ≠ aKind → b ≠ aSize → b ≠ aMarks → b ≠ aSeed → b ≠ aContentMany → b ≠ aRow → b ≠ aRestMany → f5 b = f b := fun b mb nb0 nb1 nb2 nb3 nb4 nb5 nb6 nb7 => (up_ne ef5 nb5 rfl).trans (fr b mb nb0 nb1 nb2 nb3 nb4 nb5 nb6 nb7)
  refine lv_aload_n hx hb dX9_begin_47 rfl (lv_at hl 1 rfl) ?_
  have e_y := (up_ne ef5 n_y_aContentMany e_y)
  refine q_get hx hb hts in_X9 hown S m_y e_y (C := RX9) (T := TX9) (N := 23) rfl 13 (by decide) rfl (hts (.fieldLink RX9 52 "SieveCabinetModel" "restMany" "[I") (by decide +kernel)) dX9_begin_48 ?_
  refine lv_iload hx hb dX9_begin_51 (lv_at hl 0 rfl) ?_
  refine lv_iconst (v := (0 : Int32)) hx hb dX9_begin_53 (by decide) ?_
  obtain ⟨hi54, hM⟩ := ckx hM
  have e_aRestMany := (up_ne ef5 n_aRestMany_aContentMany (up_ne ef4 n_aRestMany_aSeed (up_ne ef3 n_aRestMany_aMarks (up_ne ef2 n_aRestMany_aSize (up_ne ef1 n_aRestMany_aKind e_aRestMany)))))
  refine k_iast hx hb S m_aRestMany e_aRestMany hi54 dX9_begin_54 (fun f6 ef6 H locs S => ?_)
  have e_aRestMany := up_self ef6
  have fr : ∀ b, b ∈ L → b ≠ y → b ≠ aKind → b ≠ aSize → b ≠ aMarks → b ≠ aSeed → b ≠ aContentMany → b ≠ aRow → b ≠ aRestMany → f6 b = f b := fun b mb nb0 nb1 nb2 nb3 nb4 nb5 nb6 nb7 => (up_ne ef6 nb7 rfl).trans (fr b mb nb0 nb1 nb2 nb3 nb4 nb5 nb6 nb7)
  refine lv_iconst (v := (0 : Int32)) hx hb dX9_begin_55 (by decide) ?_
  refine lv_istore (lv' := [(6, .int (0 : Int32)), (5, .int many), (0, .ref y), (1, .int k0), (2, .int k1), (3, .int k2), (4, .int k3)]) hx hb dX9_begin_56 hl (by decide) rfl (fun ls hl => ?_)
  have e_y := (up_ne ef6 n_y_aRestMany e_y)
  have e_aWorlds := (up_ne ef6 n_aWorlds_aRestMany (up_ne ef5 n_aWorlds_aContentMany (up_ne ef4 n_aWorlds_aSeed (up_ne ef3 n_aWorlds_aMarks (up_ne ef2 n_aWorlds_aSize (up_ne ef1 n_aWorlds_aKind e_aWorlds))))))
  have e_aInWorld := (up_ne ef6 n_aInWorld_aRestMany (up_ne ef5 n_aInWorld_aContentMany (up_ne ef4 n_aInWorld_aSeed (up_ne ef3 n_aInWorld_aMarks (up_ne ef2 n_aInWorld_aSize (up_ne ef1 n_aInWorld_aKind e_aInWorld))))))
  have e_aKind := (up_ne ef6 n_aKind_aRestMany (up_ne ef5 n_aKind_aContentMany (up_ne ef4 n_aKind_aSeed (up_ne ef3 n_aKind_aMarks (up_ne ef2 n_aKind_aSize e_aKind)))))
  have e_aSize := (up_ne ef6 n_aSize_aRestMany (up_ne ef5 n_aSize_aContentMany (up_ne ef4 n_aSize_aSeed (up_ne ef3 n_aSize_aMarks e_aSize))))
  have e_aMarks := (up_ne ef6 n_aMarks_aRestMany (up_ne ef5 n_aMarks_aContentMany (up_ne ef4 n_aMarks_aSeed e_aMarks)))
  have e_aSeed := (up_ne ef6 n_aSeed_aRestMany (up_ne ef5 n_aSeed_aContentMany e_aSeed))
  have e_aContents := (up_ne ef6 n_aContents_aRestMany (up_ne ef5 n_aContents_aContentMany (up_ne ef4 n_aContents_aSeed (up_ne ef3 n_aContents_aMarks (up_ne ef2 n_aContents_aSize (up_ne ef1 n_aContents_aKind e_aContents))))))
  have e_aContentMany := (up_ne ef6 n_aContentMany_aRestMany e_aContentMany)
  have e_aRow := (up_ne ef6 n_aRow_aRestMany (up_ne ef5 n_aRow_aContentMany (up_ne ef4 n_aRow_aSeed (up_ne ef3 n_aRow_aMarks (up_ne ef2 n_aRow_aSize (up_ne ef1 n_aRow_aKind e_aRow))))))
  have e_aBits := (up_ne ef6 n_aBits_aRestMany (up_ne ef5 n_aBits_aContentMany (up_ne ef4 n_aBits_aSeed (up_ne ef3 n_aBits_aMarks (up_ne ef2 n_aBits_aSize (up_ne ef1 n_aBits_aKind e_aBits))))))
  have e_aLayerSize := (up_ne ef6 n_aLayerSize_aRestMany (up_ne ef5 n_aLayerSize_aContentMany (up_ne ef4 n_aLayerSize_aSeed (up_ne ef3 n_aLayerSize_aMarks (up_ne ef2 n_aLayerSize_aSize (up_ne ef1 n_aLayerSize_aKind e_aLayerSize))))))
  have e_aLayerCame := (up_ne ef6 n_aLayerCame_aRestMany (up_ne ef5 n_aLayerCame_aContentMany (up_ne ef4 n_aLayerCame_aSeed (up_ne ef3 n_aLayerCame_aMarks (up_ne ef2 n_aLayerCame_aSize (up_ne ef1 n_aLayerCame_aKind e_aLayerCame))))))
  have e_aRest := (up_ne ef6 n_aRest_aRestMany (up_ne ef5 n_aRest_aContentMany (up_ne ef4 n_aRest_aSeed (up_ne ef3 n_aRest_aMarks (up_ne ef2 n_aRest_aSize (up_ne ef1 n_aRest_aKind e_aRest))))))
  have e_aCome := (up_ne ef6 n_aCome_aRestMany (up_ne ef5 n_aCome_aContentMany (up_ne ef4 n_aCome_aSeed (up_ne ef3 n_aCome_aMarks (up_ne ef2 n_aCome_aSize (up_ne ef1 n_aCome_aKind e_aCome))))))
  have e_aRivals := (up_ne ef6 n_aRivals_aRestMany (up_ne ef5 n_aRivals_aContentMany (up_ne ef4 n_aRivals_aSeed (up_ne ef3 n_aRivals_aMarks (up_ne ef2 n_aRivals_aSize (up_ne ef1 n_aRivals_aKind e_aRivals))))))
  have e_aGone := (up_ne ef6 n_aGone_aRestMany (up_ne ef5 n_aGone_aContentMany (up_ne ef4 n_aGone_aSeed (up_ne ef3 n_aGone_aMarks (up_ne ef2 n_aGone_aSize (up_ne ef1 n_aGone_aKind e_aGone))))))
  have e_aOrder := (up_ne ef6 n_aOrder_aRestMany (up_ne ef5 n_aOrder_aContentMany (up_ne ef4 n_aOrder_aSeed (up_ne ef3 n_aOrder_aMarks (up_ne ef2 n_aOrder_aSize (up_ne ef1 n_aOrder_aKind e_aOrder))))))
  have e_aOffAt := (up_ne ef6 n_aOffAt_aRestMany (up_ne ef5 n_aOffAt_aContentMany (up_ne ef4 n_aOffAt_aSeed (up_ne ef3 n_aOffAt_aMarks (up_ne ef2 n_aOffAt_aSize (up_ne ef1 n_aOffAt_aKind e_aOffAt))))))
  have e_aIsOff := (up_ne ef6 n_aIsOff_aRestMany (up_ne ef5 n_aIsOff_aContentMany (up_ne ef4 n_aIsOff_aSeed (up_ne ef3 n_aIsOff_aMarks (up_ne ef2 n_aIsOff_aSize (up_ne ef1 n_aIsOff_aKind e_aIsOff))))))
  have e_aAlone := (up_ne ef6 n_aAlone_aRestMany (up_ne ef5 n_aAlone_aContentMany (up_ne ef4 n_aAlone_aSeed (up_ne ef3 n_aAlone_aMarks (up_ne ef2 n_aAlone_aSize (up_ne ef1 n_aAlone_aKind e_aAlone))))))
  have e_aKept := (up_ne ef6 n_aKept_aRestMany (up_ne ef5 n_aKept_aContentMany (up_ne ef4 n_aKept_aSeed (up_ne ef3 n_aKept_aMarks (up_ne ef2 n_aKept_aSize (up_ne ef1 n_aKept_aKind e_aKept))))))
  obtain ⟨o58, ho58, hM⟩ := bind_some hM
  have EX58 : ∀ (fl58 : Nat → va_E) (H : Heap) (locs : List Loc) (ls : Array Slot), PS D g (va_A (va_pl L f) szz) s.heap s L fl58 H locs → fl58 y = .inr (7, [.ref aWorlds, .ref aInWorld, .ref aKind, .ref aSize, .ref aMarks, .ref aSeed, .ref aContents, .ref aContentMany, .ref aRow, .ref aBits, .ref aLayerSize, .ref aLayerCame, .ref aRest, .ref aRestMany, .int many, .ref aCome, .ref aRivals, .ref aGone, .ref aOrder, .ref aOffAt, .ref aIsOff, .ref aAlone, .ref aKept]) → fl58 aWorlds = .inl (g 1, 8000, .inr (.inl vWorlds)) → fl58 aInWorld = .inl (g 0, 8, .inl vInWorld) → fl58 aKind = .inl (g 0, 30, .inl (upd vKind (Int32.toNatClampNeg many) k0)) → fl58 aSize = .inl (g 0, 30, .inl (upd vSize (Int32.toNatClampNeg many) k1)) → fl58 aMarks = .inl (g 0, 30, .inl (upd vMarks (Int32.toNatClampNeg many) k2)) → fl58 aSeed = .inl (g 0, 30, .inl (upd vSeed (Int32.toNatClampNeg many) k3)) → fl58 aContents = .inl (g 1, 30000, .inr (.inl vContents)) → fl58 aContentMany = .inl (g 0, 30, .inl (upd vContentMany (Int32.toNatClampNeg many) (0 : Int32))) → fl58 aRow = .inl (g 0, 122880, .inl o58.2) → fl58 aBits = .inl (g 0, 76800, .inl vBits) → fl58 aLayerSize = .inl (g 0, 600, .inl vLayerSize) → fl58 aLayerCame = .inl (g 0, 600, .inl vLayerCame) → fl58 aRest = .inl (g 1, 30000, .inr (.inl vRest)) → fl58 aRestMany = .inl (g 0, 30, .inl (upd vRestMany (Int32.toNatClampNeg many) (0 : Int32))) → fl58 aCome = .inl (g 1, 1000, .inr (.inl vCome)) → fl58 aRivals = .inl (g 1, 1000, .inr (.inl vRivals)) → fl58 aGone = .inl (g 1, 1000, .inr (.inl vGone)) → fl58 aOrder = .inl (g 0, 1000, .inl vOrder) → fl58 aOffAt = .inl (g 0, 1000, .inl vOffAt) → fl58 aIsOff = .inl (g 2, 1000, .inl vIsOff) → fl58 aAlone = .inl (g 0, 4096, .inl vAlone) → fl58 aKept = .inl (g 0, 4096, .inl vKept) → (∀ b, b ∈ L → b ≠ y → b ≠ aKind → b ≠ aSize → b ≠ aMarks → b ≠ aSeed → b ≠ aContentMany → b ≠ aRow → b ≠ aRestMany → fl58 b = f b) → lv_has ls 7 [(5, .int many), (0, .ref y)] → W p l e { frames := 0, cells := 0, slots := 0, locals := 0 } s m [.ref y, .int k0, .int k1, .int k2, .int k3].toArray below meth c H locs 0 0 QQ (F0 m 87 ls []) := by
    intro fl58 H locs ls S e_y e_aWorlds e_aInWorld e_aKind e_aSize e_aMarks e_aSeed e_aContents e_aContentMany e_aRow e_aBits e_aLayerSize e_aLayerCame e_aRest e_aRestMany e_aCome e_aRivals e_aGone e_aOrder e_aOffAt e_aIsOff e_aAlone e_aKept fr hl
    refine lv_aload_n hx hb dX9_begin_87 rfl (lv_at hl 1 rfl) ?_
    refine lv_dup hx hb dX9_begin_88 rfl ?_
    refine q_get hx hb hts in_X9 hown S m_y e_y (C := RX9) (T := TX9) (N := 23) rfl 14 (by decide) rfl (hts (.fieldLink RX9 88 "SieveCabinetModel" "many" "I") (by decide +kernel)) dX9_begin_89 ?_
    refine lv_iconst (v := (1 : Int32)) hx hb dX9_begin_92 (by decide) ?_
    refine lv_iadd hx hb dX9_begin_93 ?_
    refine k_put hx hb hts in_X9 tyX9 tyX9_ok nmX9 hown S m_y e_y (C := RX9) (T := TX9) (N := 23) rfl 14 (by decide) (hts (.fieldLink RX9 88 "SieveCabinetModel" "many" "I") (by decide +kernel)) rfl rfl rfl (Nat.le_of_ble_eq_true rfl) dX9_begin_94 (fun f7 ef7 H locs S => ?_)
    have e_y : f7 y = .inr (7, [.ref aWorlds, .ref aInWorld, .ref aKind, .ref aSize, .ref aMarks, .ref aSeed, .ref aContents, .ref aContentMany, .ref aRow, .ref aBits, .ref aLayerSize, .ref aLayerCame, .ref aRest, .ref aRestMany, .int (many + (1 : Int32)), .ref aCome, .ref aRivals, .ref aGone, .ref aOrder, .ref aOffAt, .ref aIsOff, .ref aAlone, .ref aKept]) := up_self ef7
    have fr : ∀ b, b ∈ L → b ≠ y → b ≠ aKind → b ≠ aSize → b ≠ aMarks → b ≠ aSeed → b ≠ aContentMany → b ≠ aRow → b ≠ aRestMany → f7 b = f b := fun b mb nb0 nb1 nb2 nb3 nb4 nb5 nb6 nb7 => (up_ne ef7 nb0 rfl).trans (fr b mb nb0 nb1 nb2 nb3 nb4 nb5 nb6 nb7)
    refine lv_iload hx hb dX9_begin_97 (lv_at hl 0 rfl) ?_
    have e_aKind := (up_ne ef7 n_aKind_y e_aKind)
    have e_aSize := (up_ne ef7 n_aSize_y e_aSize)
    have e_aMarks := (up_ne ef7 n_aMarks_y e_aMarks)
    have e_aSeed := (up_ne ef7 n_aSeed_y e_aSeed)
    have e_aContentMany := (up_ne ef7 n_aContentMany_y e_aContentMany)
    have e_aRow := (up_ne ef7 n_aRow_y e_aRow)
    have e_aRestMany := (up_ne ef7 n_aRestMany_y e_aRestMany)
    subst hQQ
    exact q_reti (post := fun x L1 f1 => x = z.1 ∧ L1 = L ∧ (∀ b, b ∈ L → b ≠ y → b ≠ aKind → b ≠ aSize → b ≠ aMarks → b ≠ aSeed → b ≠ aContentMany → b ≠ aRow → b ≠ aRestMany → f1 b = f b) ∧ f1 y = .inr (7, [.ref aWorlds, .ref aInWorld, .ref aKind, .ref aSize, .ref aMarks, .ref aSeed, .ref aContents, .ref aContentMany, .ref aRow, .ref aBits, .ref aLayerSize, .ref aLayerCame, .ref aRest, .ref aRestMany, .int z.2.1, .ref aCome, .ref aRivals, .ref aGone, .ref aOrder, .ref aOffAt, .ref aIsOff, .ref aAlone, .ref aKept]) ∧ f1 aKind = .inl (g 0, 30, .inl z.2.2.1) ∧ f1 aSize = .inl (g 0, 30, .inl z.2.2.2.1) ∧ f1 aMarks = .inl (g 0, 30, .inl z.2.2.2.2.1) ∧ f1 aSeed = .inl (g 0, 30, .inl z.2.2.2.2.2.1) ∧ f1 aContentMany = .inl (g 0, 30, .inl z.2.2.2.2.2.2.1) ∧ f1 aRow = .inl (g 0, 122880, .inl z.2.2.2.2.2.2.2.1) ∧ f1 aRestMany = .inl (g 0, 30, .inl z.2.2.2.2.2.2.2.2)) hx hb hr hlk S dX9_begin_99 (by decide) (by decide) (by have hz := Option.some.inj hM; subst hz; exact ⟨rfl, rfl, fr, e_y, e_aKind, e_aSize, e_aMarks, e_aSeed, e_aContentMany, e_aRow, e_aRestMany⟩)
  have LP58 : ∀ (fu : Nat) (x6_58 : Int32) (caRow_58 : Nat → Int32) (fl58 : Nat → va_E) (H : Heap) (locs : List Loc) (ls : Array Slot), (mX9_begin_L58 many) fu x6_58 caRow_58 = some o58 → PS D g (va_A (va_pl L f) szz) s.heap s L fl58 H locs → fl58 y = .inr (7, [.ref aWorlds, .ref aInWorld, .ref aKind, .ref aSize, .ref aMarks, .ref aSeed, .ref aContents, .ref aContentMany, .ref aRow, .ref aBits, .ref aLayerSize, .ref aLayerCame, .ref aRest, .ref aRestMany, .int many, .ref aCome, .ref aRivals, .ref aGone, .ref aOrder, .ref aOffAt, .ref aIsOff, .ref aAlone, .ref aKept]) → fl58 aWorlds = .inl (g 1, 8000, .inr (.inl vWorlds)) → fl58 aInWorld = .inl (g 0, 8, .inl vInWorld) → fl58 aKind = .inl (g 0, 30, .inl (upd vKind (Int32.toNatClampNeg many) k0)) → fl58 aSize = .inl (g 0, 30, .inl (upd vSize (Int32.toNatClampNeg many) k1)) → fl58 aMarks = .inl (g 0, 30, .inl (upd vMarks (Int32.toNatClampNeg many) k2)) → fl58 aSeed = .inl (g 0, 30, .inl (upd vSeed (Int32.toNatClampNeg many) k3)) → fl58 aContents = .inl (g 1, 30000, .inr (.inl vContents)) → fl58 aContentMany = .inl (g 0, 30, .inl (upd vContentMany (Int32.toNatClampNeg many) (0 : Int32))) → fl58 aRow = .inl (g 0, 122880, .inl caRow_58) → fl58 aBits = .inl (g 0, 76800, .inl vBits) → fl58 aLayerSize = .inl (g 0, 600, .inl vLayerSize) → fl58 aLayerCame = .inl (g 0, 600, .inl vLayerCame) → fl58 aRest = .inl (g 1, 30000, .inr (.inl vRest)) → fl58 aRestMany = .inl (g 0, 30, .inl (upd vRestMany (Int32.toNatClampNeg many) (0 : Int32))) → fl58 aCome = .inl (g 1, 1000, .inr (.inl vCome)) → fl58 aRivals = .inl (g 1, 1000, .inr (.inl vRivals)) → fl58 aGone = .inl (g 1, 1000, .inr (.inl vGone)) → fl58 aOrder = .inl (g 0, 1000, .inl vOrder) → fl58 aOffAt = .inl (g 0, 1000, .inl vOffAt) → fl58 aIsOff = .inl (g 2, 1000, .inl vIsOff) → fl58 aAlone = .inl (g 0, 4096, .inl vAlone) → fl58 aKept = .inl (g 0, 4096, .inl vKept) → (∀ b, b ∈ L → b ≠ y → b ≠ aKind → b ≠ aSize → b ≠ aMarks → b ≠ aSeed → b ≠ aContentMany → b ≠ aRow → b ≠ aRestMany → fl58 b = f b) → lv_has ls 7 [(6, .int x6_58), (5, .int many), (0, .ref y)] → W p l e { frames := 0, cells := 0, slots := 0, locals := 0 } s m [.ref y, .int k0, .int k1, .int k2, .int k3].toArray below meth c H locs 0 0 QQ (F0 m 58 ls []) := by
    intro fu
    induction fu with
    | zero => intro x6_58 caRow_58 fl58 H locs ls ho58 S e_y e_aWorlds e_aInWorld e_aKind e_aSize e_aMarks e_aSeed e_aContents e_aContentMany e_aRow e_aBits e_aLayerSize e_aLayerCame e_aRest e_aRestMany e_aCome e_aRivals e_aGone e_aOrder e_aOffAt e_aIsOff e_aAlone e_aKept fr hl; exact no_some ho58
    | succ fu ih58 =>
      intro x6_58 caRow_58 fl58 H locs ls ho58 S e_y e_aWorlds e_aInWorld e_aKind e_aSize e_aMarks e_aSeed e_aContents e_aContentMany e_aRow e_aBits e_aLayerSize e_aLayerCame e_aRest e_aRestMany e_aCome e_aRivals e_aGone e_aOrder e_aOffAt e_aIsOff e_aAlone e_aKept fr hl
      rw [mX9_begin_L58] at ho58
      refine lv_iload hx hb dX9_begin_58 (lv_at hl 0 rfl) ?_
      refine lv_sipush (v := (4096 : Int32)) hx hb dX9_begin_60 (by decide) ?_
      refine lv_icmp_ge (tgt := 87) hx hb dX9_begin_63 (by decide) (fun b63 => ?_) (fun b63 => ?_)
      · have ho58 := itT b63 ho58
        obtain rfl := Option.some.inj ho58
        exact EX58 fl58 _ _ _ S e_y e_aWorlds e_aInWorld e_aKind e_aSize e_aMarks e_aSeed e_aContents e_aContentMany e_aRow e_aBits e_aLayerSize e_aLayerCame e_aRest e_aRestMany e_aCome e_aRivals e_aGone e_aOrder e_aOffAt e_aIsOff e_aAlone e_aKept fr (lv_sub hl [1, 2] rfl)
      · have ho58 := itF b63 ho58
        refine lv_aload_n hx hb dX9_begin_66 rfl (lv_at hl 2 rfl) ?_
        refine q_get hx hb hts in_X9 hown S m_y e_y (C := RX9) (T := TX9) (N := 23) rfl 8 (by decide) rfl (hts (.fieldLink RX9 36 "SieveCabinetModel" "row" "[I") (by decide +kernel)) dX9_begin_67 ?_
        refine lv_iload hx hb dX9_begin_70 (lv_at hl 1 rfl) ?_
        refine lv_sipush (v := (4096 : Int32)) hx hb dX9_begin_72 (by decide) ?_
        refine lv_imul hx hb dX9_begin_75 ?_
        refine lv_iload hx hb dX9_begin_76 (lv_at hl 0 rfl) ?_
        refine lv_iadd hx hb dX9_begin_78 ?_
        refine lv_iconst (v := (0 : Int32)) hx hb dX9_begin_79 (by decide) ?_
        obtain ⟨hi80, ho58⟩ := ckx ho58
        refine k_iast hx hb S m_aRow e_aRow hi80 dX9_begin_80 (fun f8 ef8 H locs S => ?_)
        have e_aRow := up_self ef8
        have fr : ∀ b, b ∈ L → b ≠ y → b ≠ aKind → b ≠ aSize → b ≠ aMarks → b ≠ aSeed → b ≠ aContentMany → b ≠ aRow → b ≠ aRestMany → f8 b = f b := fun b mb nb0 nb1 nb2 nb3 nb4 nb5 nb6 nb7 => (up_ne ef8 nb6 rfl).trans (fr b mb nb0 nb1 nb2 nb3 nb4 nb5 nb6 nb7)
        refine lv_iinc (v := (x6_58 + 1)) (lv' := [(6, .int (x6_58 + 1)), (5, .int many), (0, .ref y)]) hx hb dX9_begin_81 hl (k := 0) rfl rfl (by decide) rfl (fun ls hl => ?_)
        refine lv_goto (tgt := 58) hx hb dX9_begin_84 (by decide) ?_
        have e_y := (up_ne ef8 n_y_aRow e_y)
        have e_aWorlds := (up_ne ef8 n_aWorlds_aRow e_aWorlds)
        have e_aInWorld := (up_ne ef8 n_aInWorld_aRow e_aInWorld)
        have e_aKind := (up_ne ef8 n_aKind_aRow e_aKind)
        have e_aSize := (up_ne ef8 n_aSize_aRow e_aSize)
        have e_aMarks := (up_ne ef8 n_aMarks_aRow e_aMarks)
        have e_aSeed := (up_ne ef8 n_aSeed_aRow e_aSeed)
        have e_aContents := (up_ne ef8 n_aContents_aRow e_aContents)
        have e_aContentMany := (up_ne ef8 n_aContentMany_aRow e_aContentMany)
        have e_aBits := (up_ne ef8 n_aBits_aRow e_aBits)
        have e_aLayerSize := (up_ne ef8 n_aLayerSize_aRow e_aLayerSize)
        have e_aLayerCame := (up_ne ef8 n_aLayerCame_aRow e_aLayerCame)
        have e_aRest := (up_ne ef8 n_aRest_aRow e_aRest)
        have e_aRestMany := (up_ne ef8 n_aRestMany_aRow e_aRestMany)
        have e_aCome := (up_ne ef8 n_aCome_aRow e_aCome)
        have e_aRivals := (up_ne ef8 n_aRivals_aRow e_aRivals)
        have e_aGone := (up_ne ef8 n_aGone_aRow e_aGone)
        have e_aOrder := (up_ne ef8 n_aOrder_aRow e_aOrder)
        have e_aOffAt := (up_ne ef8 n_aOffAt_aRow e_aOffAt)
        have e_aIsOff := (up_ne ef8 n_aIsOff_aRow e_aIsOff)
        have e_aAlone := (up_ne ef8 n_aAlone_aRow e_aAlone)
        have e_aKept := (up_ne ef8 n_aKept_aRow e_aKept)
        exact ih58 (x6_58 + 1) (upd caRow_58 (Int32.toNatClampNeg ((many * (4096 : Int32)) + x6_58)) (0 : Int32)) f8 _ _ _ ho58 S e_y e_aWorlds e_aInWorld e_aKind e_aSize e_aMarks e_aSeed e_aContents e_aContentMany e_aRow e_aBits e_aLayerSize e_aLayerCame e_aRest e_aRestMany e_aCome e_aRivals e_aGone e_aOrder e_aOffAt e_aIsOff e_aAlone e_aKept fr (lv_sub hl [0, 1, 2] rfl)
  exact LP58 FU (0 : Int32) vRow f6 _ _ _ ho58 S e_y e_aWorlds e_aInWorld e_aKind e_aSize e_aMarks e_aSeed e_aContents e_aContentMany e_aRow e_aBits e_aLayerSize e_aLayerCame e_aRest e_aRestMany e_aCome e_aRivals e_aGone e_aOrder e_aOffAt e_aIsOff e_aAlone e_aKept fr (lv_sub hl [0, 1, 2] rfl)
