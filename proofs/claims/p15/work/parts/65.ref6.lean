def mX9_places (vKind : Nat → Int32) (vSize : Nat → Int32) (sq : Int32) : Option (Int32) := if ix sq 30 = true then (if (vKind (Int32.toNatClampNeg sq)) = (2 : Int32) then (if ix sq 30 = true then (some ((4 : Int32) * (vSize (Int32.toNatClampNeg sq)))) else none) else (if ix sq 30 = true then (if (vKind (Int32.toNatClampNeg sq)) = (3 : Int32) then (if ix sq 30 = true then (some ((3 : Int32) * (vSize (Int32.toNatClampNeg sq)))) else none) else (if ix sq 30 = true then (some (vSize (Int32.toNatClampNeg sq))) else none)) else none)) else none
set_option maxRecDepth 20000 in
theorem gu_wsX9_places_2 : ∀ w ∈ wsX90, w ∈ wsX9_places := fun _ h => List.mem_cons_of_mem _ (List.mem_append_right _ h)
set_option maxRecDepth 20000 in
theorem gu_wsX9_places_1 : ∀ w ∈ ([Cond.fieldLink RX9 17 "SieveCabinetModel" "kind" "[I", Cond.fieldLink RX9 20 "SieveCabinetModel" "size" "[I"] : List Cond), w ∈ wsX9_places := fun _ h => List.mem_cons_of_mem _ (List.mem_append_left _ h)
set_option maxHeartbeats 4000000 in
set_option maxRecDepth 100000 in
theorem k_X9_places (l : Launch) (D : va_G) (g : Nat → ClassId) {L : List Nat} {f : Nat → va_E} {aAlone aBits aCome aContentMany aContents aGone aInWorld aIsOff aKept aKind aLayerCame aLayerSize aMarks aOffAt aOrder aRest aRestMany aRivals aRow aSeed aSize aWorlds y : Nat} {many : Int32} {vKind : Nat → Int32} {vSize : Nat → Int32} {sq : Int32} {z : Int32} (m_y : y ∈ L) (e_y : f y = .inr (7, [.ref aWorlds, .ref aInWorld, .ref aKind, .ref aSize, .ref aMarks, .ref aSeed, .ref aContents, .ref aContentMany, .ref aRow, .ref aBits, .ref aLayerSize, .ref aLayerCame, .ref aRest, .ref aRestMany, .int many, .ref aCome, .ref aRivals, .ref aGone, .ref aOrder, .ref aOffAt, .ref aIsOff, .ref aAlone, .ref aKept])) (m_aKind : aKind ∈ L) (e_aKind : f aKind = .inl (g 0, 30, .inl vKind)) (m_aSize : aSize ∈ L) (e_aSize : f aSize = .inl (g 0, 30, .inl vSize))    (hM : mX9_places vKind vSize sq = some z) : cI l yX9_places wsX9_places { frames := 0, cells := 0, slots := 0, locals := 0 } D g [.ref y, .int sq] L f 0 0 (fun x L1 f1 => x = z ∧ L1 = L ∧ f1 = f) := by
  refine cI_of (cc := cX9_places) (maxL := 2) (ret := (some .int)) (by decide) rfl (Nat.le_of_ble_eq_true rfl) ?_
  intro szz p e s m below meth c hx hb hr hml hts hown hlk hnm S ls hl
  have hl : lv_has ls 2 [(0, .ref y), (1, .int sq)] := hl
  have in_X9 : ∀ w ∈ wsX90, w ∈ wsX9_places := gu_wsX9_places_2
  unfold mX9_places at hM
  refine W_gen (fun QQ hQQ => ?_)
  refine lv_aload_n hx hb dX9_places_0 rfl (lv_at hl 0 rfl) ?_
  refine q_get hx hb hts in_X9 hown S m_y e_y (C := RX9) (T := TX9) (N := 23) rfl 2 (by decide) rfl (hts (.fieldLink RX9 17 "SieveCabinetModel" "kind" "[I") (gu_wsX9_places_1 _ gm_0)) dX9_places_1 ?_
  refine lv_iload_n hx hb dX9_places_4 rfl (lv_at hl 1 rfl) ?_
  obtain ⟨hi5, hM⟩ := ckx hM
  refine q_iald hx hb S m_aKind e_aKind hi5 dX9_places_5 ?_
  refine lv_iconst (v := (2 : Int32)) hx hb dX9_places_6 (by decide) ?_
  refine lv_icmp_ne (tgt := 21) hx hb dX9_places_7 (by decide) (fun b7 => ?_) (fun b7 => ?_)
  · have hM := itF b7 hM
    refine lv_aload_n hx hb dX9_places_21 rfl (lv_at hl 0 rfl) ?_
    refine q_get hx hb hts in_X9 hown S m_y e_y (C := RX9) (T := TX9) (N := 23) rfl 2 (by decide) rfl (hts (.fieldLink RX9 17 "SieveCabinetModel" "kind" "[I") (gu_wsX9_places_1 _ gm_0)) dX9_places_22 ?_
    refine lv_iload_n hx hb dX9_places_25 rfl (lv_at hl 1 rfl) ?_
    obtain ⟨hi26, hM⟩ := ckx hM
    refine q_iald hx hb S m_aKind e_aKind hi26 dX9_places_26 ?_
    refine lv_iconst (v := (3 : Int32)) hx hb dX9_places_27 (by decide) ?_
    refine lv_icmp_ne (tgt := 42) hx hb dX9_places_28 (by decide) (fun b28 => ?_) (fun b28 => ?_)
    · have hM := itF b28 hM
      refine lv_aload_n hx hb dX9_places_42 rfl (lv_at hl 0 rfl) ?_
      refine q_get hx hb hts in_X9 hown S m_y e_y (C := RX9) (T := TX9) (N := 23) rfl 3 (by decide) rfl (hts (.fieldLink RX9 20 "SieveCabinetModel" "size" "[I") (gu_wsX9_places_1 _ gm_1)) dX9_places_43 ?_
      refine lv_iload_n hx hb dX9_places_46 rfl (lv_at hl 1 rfl) ?_
      obtain ⟨hi47, hM⟩ := ckx hM
      refine q_iald hx hb S m_aSize e_aSize hi47 dX9_places_47 ?_
      subst hQQ
      exact q_reti (post := fun x L1 f1 => x = z ∧ L1 = L ∧ f1 = f) hx hb hr hlk S dX9_places_48 (by decide) (by decide) (by have hz := Option.some.inj hM; subst hz; exact ⟨rfl, rfl, rfl⟩)
    · have hM := itT b28 hM
      refine lv_iconst (v := (3 : Int32)) hx hb dX9_places_31 (by decide) ?_
      refine lv_aload_n hx hb dX9_places_32 rfl (lv_at hl 0 rfl) ?_
      refine q_get hx hb hts in_X9 hown S m_y e_y (C := RX9) (T := TX9) (N := 23) rfl 3 (by decide) rfl (hts (.fieldLink RX9 20 "SieveCabinetModel" "size" "[I") (gu_wsX9_places_1 _ gm_1)) dX9_places_33 ?_
      refine lv_iload_n hx hb dX9_places_36 rfl (lv_at hl 1 rfl) ?_
      obtain ⟨hi37, hM⟩ := ckx hM
      refine q_iald hx hb S m_aSize e_aSize hi37 dX9_places_37 ?_
      refine lv_imul hx hb dX9_places_38 ?_
      refine lv_goto (tgt := 48) hx hb dX9_places_39 (by decide) ?_
      subst hQQ
      exact q_reti (post := fun x L1 f1 => x = z ∧ L1 = L ∧ f1 = f) hx hb hr hlk S dX9_places_48 (by decide) (by decide) (by have hz := Option.some.inj hM; subst hz; exact ⟨rfl, rfl, rfl⟩)
  · have hM := itT b7 hM
    refine lv_iconst (v := (4 : Int32)) hx hb dX9_places_10 (by decide) ?_
    refine lv_aload_n hx hb dX9_places_11 rfl (lv_at hl 0 rfl) ?_
    refine q_get hx hb hts in_X9 hown S m_y e_y (C := RX9) (T := TX9) (N := 23) rfl 3 (by decide) rfl (hts (.fieldLink RX9 20 "SieveCabinetModel" "size" "[I") (gu_wsX9_places_1 _ gm_1)) dX9_places_12 ?_
    refine lv_iload_n hx hb dX9_places_15 rfl (lv_at hl 1 rfl) ?_
    obtain ⟨hi16, hM⟩ := ckx hM
    refine q_iald hx hb S m_aSize e_aSize hi16 dX9_places_16 ?_
    refine lv_imul hx hb dX9_places_17 ?_
    refine lv_goto (tgt := 48) hx hb dX9_places_18 (by decide) ?_
    subst hQQ
    exact q_reti (post := fun x L1 f1 => x = z ∧ L1 = L ∧ f1 = f) hx hb hr hlk S dX9_places_48 (by decide) (by decide) (by have hz := Option.some.inj hM; subst hz; exact ⟨rfl, rfl, rfl⟩)

def mX9_weight_L84 (vSize : Nat → Int32) (vLayerSize : Nat → Int32) (sq : Int32) : Nat → Int32 → Int32 → Option (Int32 × Int32)
  | 0, _, _ => none
  | fu + 1, x3_84, x2_84 => if ix sq 30 = true then (if (vSize (Int32.toNatClampNeg sq)) ≤ x3_84 then (some (x3_84, x2_84)) else (if ix ((sq * (20 : Int32)) + x3_84) 600 = true then (lt_ (x2_84 + (vLayerSize (Int32.toNatClampNeg ((sq * (20 : Int32)) + x3_84)))) fun y107 => mX9_weight_L84 vSize vLayerSize sq fu (x3_84 + 1) y107) else none)) else none
def mX9_weight (vKind : Nat → Int32) (vSize : Nat → Int32) (vLayerSize : Nat → Int32) (vRestMany : Nat → Int32) (sq : Int32) : Option (Int32) := if ix sq 30 = true then (if (vKind (Int32.toNatClampNeg sq)) = (0 : Int32) then (if ix sq 30 = true then (some (vSize (Int32.toNatClampNeg sq))) else none) else (if (vKind (Int32.toNatClampNeg sq)) = (1 : Int32) then (if ix sq 30 = true then (some ((4 : Int32) * (vSize (Int32.toNatClampNeg sq)))) else none) else (if (vKind (Int32.toNatClampNeg sq)) = (2 : Int32) then (if ix sq 30 = true then (some ((32 : Int32) * (vSize (Int32.toNatClampNeg sq)))) else none) else (if (vKind (Int32.toNatClampNeg sq)) = (3 : Int32) then (if ix sq 30 = true then (some ((24 : Int32) * (vSize (Int32.toNatClampNeg sq)))) else none) else (if ix sq 30 = true then (lt_ ((64 : Int32) * (vRestMany (Int32.toNatClampNeg sq))) fun y81 => (mX9_weight_L84 vSize vLayerSize sq FU (0 : Int32) y81).bind fun o84 => some o84.2) else none))))) else none
set_option maxRecDepth 20000 in
theorem gu_wsX9_weight_2 : ∀ w ∈ wsX90, w ∈ wsX9_weight := fun _ h => List.mem_cons_of_mem _ (List.mem_append_right _ h)
set_option maxRecDepth 20000 in
theorem gu_wsX9_weight_1 : ∀ w ∈ ([Cond.fieldLink RX9 17 "SieveCabinetModel" "kind" "[I", Cond.fieldLink RX9 20 "SieveCabinetModel" "size" "[I", Cond.fieldLink RX9 52 "SieveCabinetModel" "restMany" "[I", Cond.fieldLink RX9 43 "SieveCabinetModel" "layerSize" "[I"] : List Cond), w ∈ wsX9_weight := fun _ h => List.mem_cons_of_mem _ (List.mem_append_left _ h)
set_option maxHeartbeats 4000000 in
set_option maxRecDepth 100000 in
theorem k_X9_weight (l : Launch) (D : va_G) (g : Nat → ClassId) {L : List Nat} {f : Nat → va_E} {aAlone aBits aCome aContentMany aContents aGone aInWorld aIsOff aKept aKind aLayerCame aLayerSize aMarks aOffAt aOrder aRest aRestMany aRivals aRow aSeed aSize aWorlds y : Nat} {many : Int32} {vKind : Nat → Int32} {vSize : Nat → Int32} {vLayerSize : Nat → Int32} {vRestMany : Nat → Int32} {sq : Int32} {z : Int32} (m_y : y ∈ L) (e_y : f y = .inr (7, [.ref aWorlds, .ref aInWorld, .ref aKind, .ref aSize, .ref aMarks, .ref aSeed, .ref aContents, .ref aContentMany, .ref aRow, .ref aBits, .ref aLayerSize, .ref aLayerCame, .ref aRest, .ref aRestMany, .int many, .ref aCome, .ref aRivals, .ref aGone, .ref aOrder, .ref aOffAt, .ref aIsOff, .ref aAlone, .ref aKept])) (m_aKind : aKind ∈ L) (e_aKind : f aKind = .inl (g 0, 30, .inl vKind)) (m_aSize : aSize ∈ L) (e_aSize : f aSize = .inl (g 0, 30, .inl vSize)) (m_aLayerSize : aLayerSize ∈ L) (e_aLayerSize : f aLayerSize = .inl (g 0, 600, .inl vLayerSize)) (m_aRestMany : aRestMany ∈ L) (e_aRestMany : f aRestMany = .inl (g 0, 30, .inl vRestMany))    (hM : mX9_weight vKind vSize vLayerSize vRestMany sq = some z) : cI l yX9_weight wsX9_weight { frames := 0, cells := 0, slots := 0, locals := 0 } D g [.ref y, .int sq] L f 0 0 (fun x L1 f1 => x = z ∧ L1 = L ∧ f1 = f) := by
  refine cI_of (cc := cX9_weight) (maxL := 4) (ret := (some .int)) (by decide) rfl (Nat.le_of_ble_eq_true rfl) ?_
  intro szz p e s m below meth c hx hb hr hml hts hown hlk hnm S ls hl
  have hl : lv_has ls 4 [(0, .ref y), (1, .int sq)] := hl
  have in_X9 : ∀ w ∈ wsX90, w ∈ wsX9_weight := gu_wsX9_weight_2
  unfold mX9_weight at hM
  refine W_gen (fun QQ hQQ => ?_)
  refine lv_aload_n hx hb dX9_weight_0 rfl (lv_at hl 0 rfl) ?_
  refine q_get hx hb hts in_X9 hown S m_y e_y (C := RX9) (T := TX9) (N := 23) rfl 2 (by decide) rfl (hts (.fieldLink RX9 17 "SieveCabinetModel" "kind" "[I") (gu_wsX9_weight_1 _ gm_0)) dX9_weight_1 ?_
  refine lv_iload_n hx hb dX9_weight_4 rfl (lv_at hl 1 rfl) ?_
  obtain ⟨hi5, hM⟩ := ckx hM
  refine q_iald hx hb S m_aKind e_aKind hi5 dX9_weight_5 ?_
  by_cases w6_0 : (vKind (Int32.toNatClampNeg sq)) = (0 : Int32)
  · have hM := itT w6_0 hM
    refine lv_tableIn (off := 30) (tgt := 36) hx hb dX9_weight_6 (by rw [w6_0]; decide) (by rw [w6_0]; decide) (by rw [w6_0]; rfl) (by decide) ?_
    refine lv_aload_n hx hb dX9_weight_36 rfl (lv_at hl 0 rfl) ?_
    refine q_get hx hb hts in_X9 hown S m_y e_y (C := RX9) (T := TX9) (N := 23) rfl 3 (by decide) rfl (hts (.fieldLink RX9 20 "SieveCabinetModel" "size" "[I") (gu_wsX9_weight_1 _ gm_1)) dX9_weight_37 ?_
    refine lv_iload_n hx hb dX9_weight_40 rfl (lv_at hl 1 rfl) ?_
    obtain ⟨hi41, hM⟩ := ckx hM
    refine q_iald hx hb S m_aSize e_aSize hi41 dX9_weight_41 ?_
    subst hQQ
    exact q_reti (post := fun x L1 f1 => x = z ∧ L1 = L ∧ f1 = f) hx hb hr hlk S dX9_weight_42 (by decide) (by decide) (by have hz := Option.some.inj hM; subst hz; exact ⟨rfl, rfl, rfl⟩)
  have hM := itF w6_0 hM
  by_cases w6_1 : (vKind (Int32.toNatClampNeg sq)) = (1 : Int32)
  · have hM := itT w6_1 hM
    refine lv_tableIn (off := 37) (tgt := 43) hx hb dX9_weight_6 (by rw [w6_1]; decide) (by rw [w6_1]; decide) (by rw [w6_1]; rfl) (by decide) ?_
    refine lv_iconst (v := (4 : Int32)) hx hb dX9_weight_43 (by decide) ?_
    refine lv_aload_n hx hb dX9_weight_44 rfl (lv_at hl 0 rfl) ?_
    refine q_get hx hb hts in_X9 hown S m_y e_y (C := RX9) (T := TX9) (N := 23) rfl 3 (by decide) rfl (hts (.fieldLink RX9 20 "SieveCabinetModel" "size" "[I") (gu_wsX9_weight_1 _ gm_1)) dX9_weight_45 ?_
    refine lv_iload_n hx hb dX9_weight_48 rfl (lv_at hl 1 rfl) ?_
    obtain ⟨hi49, hM⟩ := ckx hM
    refine q_iald hx hb S m_aSize e_aSize hi49 dX9_weight_49 ?_
    refine lv_imul hx hb dX9_weight_50 ?_
    subst hQQ
    exact q_reti (post := fun x L1 f1 => x = z ∧ L1 = L ∧ f1 = f) hx hb hr hlk S dX9_weight_51 (by decide) (by decide) (by have hz := Option.some.inj hM; subst hz; exact ⟨rfl, rfl, rfl⟩)
  have hM := itF w6_1 hM
  by_cases w6_2 : (vKind (Int32.toNatClampNeg sq)) = (2 : Int32)
  · have hM := itT w6_2 hM
    refine lv_tableIn (off := 46) (tgt := 52) hx hb dX9_weight_6 (by rw [w6_2]; decide) (by rw [w6_2]; decide) (by rw [w6_2]; rfl) (by decide) ?_
    refine lv_bipush (v := (32 : Int32)) hx hb dX9_weight_52 (by decide) ?_
    refine lv_aload_n hx hb dX9_weight_54 rfl (lv_at hl 0 rfl) ?_
    refine q_get hx hb hts in_X9 hown S m_y e_y (C := RX9) (T := TX9) (N := 23) rfl 3 (by decide) rfl (hts (.fieldLink RX9 20 "SieveCabinetModel" "size" "[I") (gu_wsX9_weight_1 _ gm_1)) dX9_weight_55 ?_
    refine lv_iload_n hx hb dX9_weight_58 rfl (lv_at hl 1 rfl) ?_
    obtain ⟨hi59, hM⟩ := ckx hM
    refine q_iald hx hb S m_aSize e_aSize hi59 dX9_weight_59 ?_
    refine lv_imul hx hb dX9_weight_60 ?_
    subst hQQ
    exact q_reti (post := fun x L1 f1 => x = z ∧ L1 = L ∧ f1 = f) hx hb hr hlk S dX9_weight_61 (by decide) (by decide) (by have hz := Option.some.inj hM; subst hz; exact ⟨rfl, rfl, rfl⟩)
  have hM := itF w6_2 hM
  by_cases w6_3 : (vKind (Int32.toNatClampNeg sq)) = (3 : Int32)
  · have hM := itT w6_3 hM
    refine lv_tableIn (off := 56) (tgt := 62) hx hb dX9_weight_6 (by rw [w6_3]; decide) (by rw [w6_3]; decide) (by rw [w6_3]; rfl) (by decide) ?_
    refine lv_bipush (v := (24 : Int32)) hx hb dX9_weight_62 (by decide) ?_
    refine lv_aload_n hx hb dX9_weight_64 rfl (lv_at hl 0 rfl) ?_
    refine q_get hx hb hts in_X9 hown S m_y e_y (C := RX9) (T := TX9) (N := 23) rfl 3 (by decide) rfl (hts (.fieldLink RX9 20 "SieveCabinetModel" "size" "[I") (gu_wsX9_weight_1 _ gm_1)) dX9_weight_65 ?_
    refine lv_iload_n hx hb dX9_weight_68 rfl (lv_at hl 1 rfl) ?_
    obtain ⟨hi69, hM⟩ := ckx hM
    refine q_iald hx hb S m_aSize e_aSize hi69 dX9_weight_69 ?_
    refine lv_imul hx hb dX9_weight_70 ?_
    subst hQQ
    exact q_reti (post := fun x L1 f1 => x = z ∧ L1 = L ∧ f1 = f) hx hb hr hlk S dX9_weight_71 (by decide) (by decide) (by have hz := Option.some.inj hM; subst hz; exact ⟨rfl, rfl, rfl⟩)
  have hM := itF w6_3 hM
  refine lv_tableOut (tgt := 72) hx hb dX9_weight_6 (by have q0 := lv_neT w6_0 (a := 0) rfl; have q1 := lv_neT w6_1 (a := 1) rfl; have q2 := lv_neT w6_2 (a := 2) rfl; have q3 := lv_neT w6_3 (a := 3) rfl; omega) (by decide) ?_
  refine lv_bipush (v := (64 : Int32)) hx hb dX9_weight_72 (by decide) ?_
  refine lv_aload_n hx hb dX9_weight_74 rfl (lv_at hl 0 rfl) ?_
  refine q_get hx hb hts in_X9 hown S m_y e_y (C := RX9) (T := TX9) (N := 23) rfl 13 (by decide) rfl (hts (.fieldLink RX9 52 "SieveCabinetModel" "restMany" "[I") (gu_wsX9_weight_1 _ gm_2)) dX9_weight_75 ?_
  refine lv_iload_n hx hb dX9_weight_78 rfl (lv_at hl 1 rfl) ?_
  obtain ⟨hi79, hM⟩ := ckx hM
  refine q_iald hx hb S m_aRestMany e_aRestMany hi79 dX9_weight_79 ?_
  refine lv_imul hx hb dX9_weight_80 ?_
  refine lv_topi (fun y81 ey81 => ?_)
  have hM := lt_some hM ey81
  refine lv_istore_n (lv' := [(2, .int y81), (0, .ref y), (1, .int sq)]) hx hb dX9_weight_81 rfl hl (by decide) rfl (fun ls hl => ?_)
  refine lv_iconst (v := (0 : Int32)) hx hb dX9_weight_82 (by decide) ?_
  refine lv_istore_n (lv' := [(3, .int (0 : Int32)), (2, .int y81), (0, .ref y), (1, .int sq)]) hx hb dX9_weight_83 rfl hl (by decide) rfl (fun ls hl => ?_)
  obtain ⟨o84, ho84, hM⟩ := bind_some hM
  have EX84 : ∀ (H : Heap) (locs : List Loc) (ls : Array Slot), PS D g (va_A (va_pl L f) szz) s.heap s L f H locs → lv_has ls 4 [(2, .int o84.2)] → W p l e { frames := 0, cells := 0, slots := 0, locals := 0 } s m [.ref y, .int sq].toArray below meth c H locs 0 0 QQ (F0 m 114 ls []) := by
    intro H locs ls S hl
    refine lv_iload_n hx hb dX9_weight_114 rfl (lv_at hl 0 rfl) ?_
    subst hQQ
    exact q_reti (post := fun x L1 f1 => x = z ∧ L1 = L ∧ f1 = f) hx hb hr hlk S dX9_weight_115 (by decide) (by decide) (by have hz := Option.some.inj hM; subst hz; exact ⟨rfl, rfl, rfl⟩)
  have LP84 : ∀ (fu : Nat) (x3_84 : Int32) (x2_84 : Int32) (H : Heap) (locs : List Loc) (ls : Array Slot), (mX9_weight_L84 vSize vLayerSize sq) fu x3_84 x2_84 = some o84 → PS D g (va_A (va_pl L f) szz) s.heap s L f H locs → lv_has ls 4 [(3, .int x3_84), (2, .int x2_84), (0, .ref y), (1, .int sq)] → W p l e { frames := 0, cells := 0, slots := 0, locals := 0 } s m [.ref y, .int sq].toArray below meth c H locs 0 0 QQ (F0 m 84 ls []) := by
    intro fu
    induction fu with
    | zero => intro x3_84 x2_84 H locs ls ho84 S hl; exact no_some ho84
    | succ fu ih84 =>
      intro x3_84 x2_84 H locs ls ho84 S hl
      rw [mX9_weight_L84] at ho84
      refine lv_iload_n hx hb dX9_weight_84 rfl (lv_at hl 0 rfl) ?_
      refine lv_aload_n hx hb dX9_weight_85 rfl (lv_at hl 2 rfl) ?_
      refine q_get hx hb hts in_X9 hown S m_y e_y (C := RX9) (T := TX9) (N := 23) rfl 3 (by decide) rfl (hts (.fieldLink RX9 20 "SieveCabinetModel" "size" "[I") (gu_wsX9_weight_1 _ gm_1)) dX9_weight_86 ?_
      refine lv_iload_n hx hb dX9_weight_89 rfl (lv_at hl 3 rfl) ?_
      obtain ⟨hi90, ho84⟩ := ckx ho84
      refine q_iald hx hb S m_aSize e_aSize hi90 dX9_weight_90 ?_
      refine lv_icmp_ge (tgt := 114) hx hb dX9_weight_91 (by decide) (fun b91 => ?_) (fun b91 => ?_)
      · have ho84 := itT b91 ho84
        obtain rfl := Option.some.inj ho84
        exact EX84 _ _ _ S (lv_sub hl [1] rfl)
      · have ho84 := itF b91 ho84
        refine lv_iload_n hx hb dX9_weight_94 rfl (lv_at hl 1 rfl) ?_
        refine lv_aload_n hx hb dX9_weight_95 rfl (lv_at hl 2 rfl) ?_
        refine q_get hx hb hts in_X9 hown S m_y e_y (C := RX9) (T := TX9) (N := 23) rfl 10 (by decide) rfl (hts (.fieldLink RX9 43 "SieveCabinetModel" "layerSize" "[I") (gu_wsX9_weight_1 _ gm_3)) dX9_weight_96 ?_
        refine lv_iload_n hx hb dX9_weight_99 rfl (lv_at hl 3 rfl) ?_
        refine lv_bipush (v := (20 : Int32)) hx hb dX9_weight_100 (by decide) ?_
        refine lv_imul hx hb dX9_weight_102 ?_
        refine lv_iload_n hx hb dX9_weight_103 rfl (lv_at hl 0 rfl) ?_
        refine lv_iadd hx hb dX9_weight_104 ?_
        obtain ⟨hi105, ho84⟩ := ckx ho84
        refine q_iald hx hb S m_aLayerSize e_aLayerSize hi105 dX9_weight_105 ?_
        refine lv_iadd hx hb dX9_weight_106 ?_
        refine lv_topi (fun y107 ey107 => ?_)
        have ho84 := lt_some ho84 ey107
        refine lv_istore_n (lv' := [(2, .int y107), (3, .int x3_84), (0, .ref y), (1, .int sq)]) hx hb dX9_weight_107 rfl hl (by decide) rfl (fun ls hl => ?_)
        refine lv_iinc (v := (x3_84 + 1)) (lv' := [(3, .int (x3_84 + 1)), (2, .int y107), (0, .ref y), (1, .int sq)]) hx hb dX9_weight_108 hl (k := 1) rfl rfl (by decide) rfl (fun ls hl => ?_)
        refine lv_goto (tgt := 84) hx hb dX9_weight_111 (by decide) ?_
        exact ih84 (x3_84 + 1) y107 _ _ _ ho84 S (lv_sub hl [0, 1, 2, 3] rfl)
  exact LP84 FU (0 : Int32) y81 _ _ _ ho84 S (lv_sub hl [0, 1, 2, 3] rfl)

def mX9_filled_L21 (vKind : Nat → Int32) (vSize : Nat → Int32) (vRow : Nat → Int32) (sq : Int32) : Nat → Int32 → Int32 → Option (Int32 × Int32)
  | 0, _, _ => none
  | fu + 1, x3_21, x2_21 => (mX9_places vKind vSize sq).bind fun z24 => if z24 ≤ x3_21 then (some (x3_21, x2_21)) else (if ix ((sq * (4096 : Int32)) + x3_21) 122880 = true then (if (vRow (Int32.toNatClampNeg ((sq * (4096 : Int32)) + x3_21))) ≤ 0 then (mX9_filled_L21 vKind vSize vRow sq fu (x3_21 + 1) (x2_21 + (0 : Int32))) else (mX9_filled_L21 vKind vSize vRow sq fu (x3_21 + 1) (x2_21 + (1 : Int32)))) else none)
def mX9_filled (vKind : Nat → Int32) (vSize : Nat → Int32) (vRow : Nat → Int32) (vRestMany : Nat → Int32) (sq : Int32) : Option (Int32) := if ix sq 30 = true then (if (vKind (Int32.toNatClampNeg sq)) = (4 : Int32) then (if ix sq 30 = true then (some (vRestMany (Int32.toNatClampNeg sq))) else none) else ((mX9_filled_L21 vKind vSize vRow sq FU (0 : Int32) (0 : Int32)).bind fun o21 => some o21.2)) else none
set_option maxHeartbeats 4000000 in
set_option maxRecDepth 100000 in
theorem k_X9_filled (l : Launch) (D : va_G) (g : Nat → ClassId) {L : List Nat} {f : Nat → va_E} {aAlone aBits aCome aContentMany aContents aGone aInWorld aIsOff aKept aKind aLayerCame aLayerSize aMarks aOffAt aOrder aRest aRestMany aRivals aRow aSeed aSize aWorlds y : Nat} {many : Int32} {vKind : Nat → Int32} {vSize : Nat → Int32} {vRow : Nat → Int32} {vRestMany : Nat → Int32} {sq : Int32} {z : Int32} (m_y : y ∈ L) (e_y : f y = .inr (7, [.ref aWorlds, .ref aInWorld, .ref aKind, .ref aSize, .ref aMarks, .ref aSeed, .ref aContents, .ref aContentMany, .ref aRow, .ref aBits, .ref aLayerSize, .ref aLayerCame, .ref aRest, .ref aRestMany, .int many, .ref aCome, .ref aRivals, .ref aGone, .ref aOrder, .ref aOffAt, .ref aIsOff, .ref aAlone, .ref aKept])) (m_aKind : aKind ∈ L) (e_aKind : f aKind = .inl (g 0, 30, .inl vKind)) (m_aSize : aSize ∈ L) (e_aSize : f aSize = .inl (g 0, 30, .inl vSize)) (m_aRow : aRow ∈ L) (e_aRow : f aRow = .inl (g 0, 122880, .inl vRow)) (m_aRestMany : aRestMany ∈ L) (e_aRestMany : f aRestMany = .inl (g 0, 30, .inl vRestMany))    (hM : mX9_filled vKind vSize vRow vRestMany sq = some z) : cI l yX9_filled wsX9_filled { frames := 1, cells := 0, slots := 0, locals := 21 } D g [.ref y, .int sq] L f 0 0 (fun x L1 f1 => x = z ∧ L1 = L ∧ f1 = f) := by
  refine cI_of (cc := cX9_filled) (maxL := 4) (ret := (some .int)) (by decide) rfl (Nat.le_of_ble_eq_true rfl) ?_
  intro szz p e s m below meth c hx hb hr hml hts hown hlk hnm S ls hl
  have hl : lv_has ls 4 [(0, .ref y), (1, .int sq)] := hl
  have in_X9 : ∀ w ∈ wsX90, w ∈ wsX9_filled := gu_wsX9_filled_2
  unfold mX9_filled at hM
  refine W_gen (fun QQ hQQ => ?_)
  refine lv_aload_n hx hb dX9_filled_0 rfl (lv_at hl 0 rfl) ?_
  refine q_get hx hb hts in_X9 hown S m_y e_y (C := RX9) (T := TX9) (N := 23) rfl 2 (by decide) rfl (hts (.fieldLink RX9 17 "SieveCabinetModel" "kind" "[I") (gu_wsX9_filled_1 _ gm_0)) dX9_filled_1 ?_
  refine lv_iload_n hx hb dX9_filled_4 rfl (lv_at hl 1 rfl) ?_
  obtain ⟨hi5, hM⟩ := ckx hM
  refine q_iald hx hb S m_aKind e_aKind hi5 dX9_filled_5 ?_
  refine lv_iconst (v := (4 : Int32)) hx hb dX9_filled_6 (by decide) ?_
  refine lv_icmp_ne (tgt := 17) hx hb dX9_filled_7 (by decide) (fun b7 => ?_) (fun b7 => ?_)
  · have hM := itF b7 hM
    refine lv_iconst (v := (0 : Int32)) hx hb dX9_filled_17 (by decide) ?_
    refine lv_istore_n (lv' := [(2, .int (0 : Int32)), (0, .ref y), (1, .int sq)]) hx hb dX9_filled_18 rfl hl (by decide) rfl (fun ls hl => ?_)
    refine lv_iconst (v := (0 : Int32)) hx hb dX9_filled_19 (by decide) ?_
    refine lv_istore_n (lv' := [(3, .int (0 : Int32)), (2, .int (0 : Int32)), (0, .ref y), (1, .int sq)]) hx hb dX9_filled_20 rfl hl (by decide) rfl (fun ls hl => ?_)
    obtain ⟨o21, ho21, hM⟩ := bind_some hM
    have EX21 : ∀ (H : Heap) (locs : List Loc) (ls : Array Slot), PS D g (va_A (va_pl L f) szz) s.heap s L f H locs → lv_has ls 4 [(2, .int o21.2)] → W p l e { frames := 1, cells := 0, slots := 0, locals := 21 } s m [.ref y, .int sq].toArray below meth c H locs 0 0 QQ (F0 m 59 ls []) := by
      intro H locs ls S hl
      refine lv_iload_n hx hb dX9_filled_59 rfl (lv_at hl 0 rfl) ?_
      subst hQQ
      exact q_reti (post := fun x L1 f1 => x = z ∧ L1 = L ∧ f1 = f) hx hb hr hlk S dX9_filled_60 (by decide) (by decide) (by have hz := Option.some.inj hM; subst hz; exact ⟨rfl, rfl, rfl⟩)
    have LP21 : ∀ (fu : Nat) (x3_21 : Int32) (x2_21 : Int32) (H : Heap) (locs : List Loc) (ls : Array Slot), (mX9_filled_L21 vKind vSize vRow sq) fu x3_21 x2_21 = some o21 → PS D g (va_A (va_pl L f) szz) s.heap s L f H locs → lv_has ls 4 [(3, .int x3_21), (2, .int x2_21), (0, .ref y), (1, .int sq)] → W p l e { frames := 1, cells := 0, slots := 0, locals := 21 } s m [.ref y, .int sq].toArray below meth c H locs 0 0 QQ (F0 m 21 ls []) := by
      intro fu
      induction fu with
      | zero => intro x3_21 x2_21 H locs ls ho21 S hl; exact no_some ho21
      | succ fu ih21 =>
        intro x3_21 x2_21 H locs ls ho21 S hl
        rw [mX9_filled_L21] at ho21
        refine lv_iload_n hx hb dX9_filled_21 rfl (lv_at hl 0 rfl) ?_
        refine lv_aload_n hx hb dX9_filled_22 rfl (lv_at hl 2 rfl) ?_
        refine lv_iload_n hx hb dX9_filled_23 rfl (lv_at hl 3 rfl) ?_
        obtain ⟨z24, hz24, ho21⟩ := bind_some ho21
        refine q_vi (As := [.int sq]) (rest := [.int x3_21]) ⟨hx, hb, hml, hown, hts⟩ (k_X9_places l D g m_y e_y m_aKind e_aKind m_aSize e_aSize hz24) (cwV 1 hts gX9_filled_X9_places rfl rfl rfl (by decide +kernel) ⟨Nat.le_of_ble_eq_true rfl, Nat.le_of_ble_eq_true rfl⟩) S m_y e_y (T := TX9) (N := 23) rfl rfl hl.1 rfl (Nat.le_of_ble_eq_true rfl) dX9_filled_24 ⟨Nat.le_of_ble_eq_true rfl, Nat.le_of_ble_eq_true rfl⟩ (fun r3 L1 f2 H locs S w24 => ?_)
        obtain ⟨ex24, eL, ef⟩ := w24
        rw [eL, ef] at S
        replace ex24 := ex24.symm
        subst ex24
        refine lv_icmp_ge (tgt := 59) hx hb dX9_filled_27 (by decide) (fun b27 => ?_) (fun b27 => ?_)
        · have ho21 := itT b27 ho21
          obtain rfl := Option.some.inj ho21
          exact EX21 _ _ _ S (lv_sub hl [1] rfl)
        · have ho21 := itF b27 ho21
          refine lv_iload_n hx hb dX9_filled_30 rfl (lv_at hl 1 rfl) ?_
          refine lv_aload_n hx hb dX9_filled_31 rfl (lv_at hl 2 rfl) ?_
          refine q_get hx hb hts in_X9 hown S m_y e_y (C := RX9) (T := TX9) (N := 23) rfl 8 (by decide) rfl (hts (.fieldLink RX9 36 "SieveCabinetModel" "row" "[I") (gu_wsX9_filled_1 _ gm_2)) dX9_filled_32 ?_
          refine lv_iload_n hx hb dX9_filled_35 rfl (lv_at hl 3 rfl) ?_
          refine lv_sipush (v := (4096 : Int32)) hx hb dX9_filled_36 (by decide) ?_
          refine lv_imul hx hb dX9_filled_39 ?_
          refine lv_iload_n hx hb dX9_filled_40 rfl (lv_at hl 0 rfl) ?_
          refine lv_iadd hx hb dX9_filled_41 ?_
          obtain ⟨hi42, ho21⟩ := ckx ho21
          refine q_iald hx hb S m_aRow e_aRow hi42 dX9_filled_42 ?_
          refine lv_if_le (tgt := 50) hx hb dX9_filled_43 (by decide) (fun b43 => ?_) (fun b43 => ?_)
          · have ho21 := itT b43 ho21
            refine lv_iconst (v := (0 : Int32)) hx hb dX9_filled_50 (by decide) ?_
            refine lv_iadd hx hb dX9_filled_51 ?_
            refine lv_istore_n (lv' := [(2, .int (x2_21 + (0 : Int32))), (3, .int x3_21), (0, .ref y), (1, .int sq)]) hx hb dX9_filled_52 rfl hl (by decide) rfl (fun ls hl => ?_)
            refine lv_iinc (v := (x3_21 + 1)) (lv' := [(3, .int (x3_21 + 1)), (2, .int (x2_21 + (0 : Int32))), (0, .ref y), (1, .int sq)]) hx hb dX9_filled_53 hl (k := 1) rfl rfl (by decide) rfl (fun ls hl => ?_)
            refine lv_goto (tgt := 21) hx hb dX9_filled_56 (by decide) ?_
            exact ih21 (x3_21 + 1) (x2_21 + (0 : Int32)) _ _ _ ho21 S (lv_sub hl [0, 1, 2, 3] rfl)
          · have ho21 := itF b43 ho21
            refine lv_iconst (v := (1 : Int32)) hx hb dX9_filled_46 (by decide) ?_
            refine lv_goto (tgt := 51) hx hb dX9_filled_47 (by decide) ?_
            refine lv_iadd hx hb dX9_filled_51 ?_
            refine lv_istore_n (lv' := [(2, .int (x2_21 + (1 : Int32))), (3, .int x3_21), (0, .ref y), (1, .int sq)]) hx hb dX9_filled_52 rfl hl (by decide) rfl (fun ls hl => ?_)
            refine lv_iinc (v := (x3_21 + 1)) (lv' := [(3, .int (x3_21 + 1)), (2, .int (x2_21 + (1 : Int32))), (0, .ref y), (1, .int sq)]) hx hb dX9_filled_53 hl (k := 1) rfl rfl (by decide) rfl (fun ls hl => ?_)
            refine lv_goto (tgt := 21) hx hb dX9_filled_56 (by decide) ?_
            exact ih21 (x3_21 + 1) (x2_21 + (1 : Int32)) _ _ _ ho21 S (lv_sub hl [0, 1, 2, 3] rfl)
    exact LP21 FU (0 : Int32) (0 : Int32) _ _ _ ho21 S (lv_sub hl [0, 1, 2, 3] rfl)
  · have hM := itT b7 hM
    refine lv_aload_n hx hb dX9_filled_10 rfl (lv_at hl 0 rfl) ?_
    refine q_get hx hb hts in_X9 hown S m_y e_y (C := RX9) (T := TX9) (N := 23) rfl 13 (by decide) rfl (hts (.fieldLink RX9 52 "SieveCabinetModel" "restMany" "[I") (gu_wsX9_filled_1 _ gm_1)) dX9_filled_11 ?_
    refine lv_iload_n hx hb dX9_filled_14 rfl (lv_at hl 1 rfl) ?_
    obtain ⟨hi15, hM⟩ := ckx hM
    refine q_iald hx hb S m_aRestMany e_aRestMany hi15 dX9_filled_15 ?_
    subst hQQ
    exact q_reti (post := fun x L1 f1 => x = z ∧ L1 = L ∧ f1 = f) hx hb hr hlk S dX9_filled_16 (by decide) (by decide) (by have hz := Option.some.inj hM; subst hz; exact ⟨rfl, rfl, rfl⟩)

def mX9_about (many : Int32) (vKind : Nat → Int32) (vSize : Nat → Int32) (vMarks : Nat → Int32) (vSeed : Nat → Int32) (vContentMany : Nat → Int32) (vRow : Nat → Int32) (vLayerSize : Nat → Int32) (vRestMany : Nat → Int32) (sq : Int32) (wh : Int32) : Option (Int32) := (mX9_is many sq).bind fun z2 => if z2 = 0 then (some (-1 : Int32)) else (if wh < 0 then (some (-1 : Int32)) else (if wh ≤ (6 : Int32) then (if wh = (0 : Int32) then (if ix sq 30 = true then (some (vKind (Int32.toNatClampNeg sq))) else none) else (if wh = (1 : Int32) then (if ix sq 30 = true then (if (vKind (Int32.toNatClampNeg sq)) = (3 : Int32) then (if ix sq 30 = true then (some ((3 : Int32) * (vSize (Int32.toNatClampNeg sq)))) else none) else (if ix sq 30 = true then (some (vSize (Int32.toNatClampNeg sq))) else none)) else none) else (if wh = (2 : Int32) then (if ix sq 30 = true then (some (vMarks (Int32.toNatClampNeg sq))) else none) else (if wh = (3 : Int32) then (if ix sq 30 = true then (some (vSeed (Int32.toNatClampNeg sq))) else none) else (if wh = (4 : Int32) then (if ix sq 30 = true then (some (vContentMany (Int32.toNatClampNeg sq))) else none) else (if wh = (5 : Int32) then ((mX9_weight vKind vSize vLayerSize vRestMany sq).bind fun z118 => some z118) else ((mX9_filled vKind vSize vRow vRestMany sq).bind fun z124 => some z124))))))) else (some (-1 : Int32))))
set_option maxHeartbeats 4000000 in
set_option maxRecDepth 100000 in
theorem k_X9_about (l : Launch) (D : va_G) (g : Nat → ClassId) {L : List Nat} {f : Nat → va_E} {aAlone aBits aCome aContentMany aContents aGone aInWorld aIsOff aKept aKind aLayerCame aLayerSize aMarks aOffAt aOrder aRest aRestMany aRivals aRow aSeed aSize aWorlds y : Nat} {many : Int32} {vKind : Nat → Int32} {vSize : Nat → Int32} {vMarks : Nat → Int32} {vSeed : Nat → Int32} {vContentMany : Nat → Int32} {vRow : Nat → Int32} {vLayerSize : Nat → Int32} {vRestMany : Nat → Int32} {sq : Int32} {wh : Int32} {z : Int32} (m_y : y ∈ L) (e_y : f y = .inr (7, [.ref aWorlds, .ref aInWorld, .ref aKind, .ref aSize, .ref aMarks, .ref aSeed, .ref aContents, .ref aContentMany, .ref aRow, .ref aBits, .ref aLayerSize, .ref aLayerCame, .ref aRest, .ref aRestMany, .int many, .ref aCome, .ref aRivals, .ref aGone, .ref aOrder, .ref aOffAt, .ref aIsOff, .ref aAlone, .ref aKept])) (m_aKind : aKind ∈ L) (e_aKind : f aKind = .inl (g 0, 30, .inl vKind)) (m_aSize : aSize ∈ L) (e_aSize : f aSize = .inl (g 0, 30, .inl vSize)) (m_aMarks : aMarks ∈ L) (e_aMarks : f aMarks = .inl (g 0, 30, .inl vMarks)) (m_aSeed : aSeed ∈ L) (e_aSeed : f aSeed = .inl (g 0, 30, .inl vSeed)) (m_aContentMany : aContentMany ∈ L) (e_aContentMany : f aContentMany = .inl (g 0, 30, .inl vContentMany)) (m_aRow : aRow ∈ L) (e_aRow : f aRow = .inl (g 0, 122880, .inl vRow)) (m_aLayerSize : aLayerSize ∈ L) (e_aLayerSize : f aLayerSize = .inl (g 0, 600, .inl vLayerSize)) (m_aRestMany : aRestMany ∈ L) (e_aRestMany : f aRestMany = .inl (g 0, 30, .inl vRestMany))    (hM : mX9_about many vKind vSize vMarks vSeed vContentMany vRow vLayerSize vRestMany sq wh = some z) : cI l yX9_about wsX9_about { frames := 2, cells := 0, slots := 0, locals := 44 } D g [.ref y, .int sq, .int wh] L f 0 0 (fun x L1 f1 => x = z ∧ L1 = L ∧ f1 = f) := by
  refine cI_of (cc := cX9_about) (maxL := 3) (ret := (some .int)) (by decide) rfl (Nat.le_of_ble_eq_true rfl) ?_
  intro szz p e s m below meth c hx hb hr hml hts hown hlk hnm S ls hl
  have hl : lv_has ls 3 [(0, .ref y), (1, .int sq), (2, .int wh)] := hl
  have in_X9 : ∀ w ∈ wsX90, w ∈ wsX9_about := gu_wsX9_about_3
  unfold mX9_about at hM
  refine W_gen (fun QQ hQQ => ?_)
  refine lv_aload_n hx hb dX9_about_0 rfl (lv_at hl 0 rfl) ?_
  refine lv_iload_n hx hb dX9_about_1 rfl (lv_at hl 1 rfl) ?_
  obtain ⟨z2, hz2, hM⟩ := bind_some hM
  refine q_vi (As := [.int sq]) (rest := []) ⟨hx, hb, hml, hown, hts⟩ (k_X9_is l D g m_y e_y hz2) (cwV 1 hts gX9_about_X9_is rfl rfl rfl (by decide +kernel) ⟨Nat.le_of_ble_eq_true rfl, Nat.le_of_ble_eq_true rfl⟩) S m_y e_y (T := TX9) (N := 23) rfl rfl hl.1 rfl (Nat.le_of_ble_eq_true rfl) dX9_about_2 ⟨Nat.le_of_ble_eq_true rfl, Nat.le_of_ble_eq_true rfl⟩ (fun r3 L1 f2 H locs S w2 => ?_)
  obtain ⟨ex2, eL, ef⟩ := w2
  rw [eL, ef] at S
  replace ex2 := ex2.symm
  subst ex2
  refine lv_if_eq (tgt := 18) hx hb dX9_about_5 (by decide) (fun b5 => ?_) (fun b5 => ?_)
  · have hM := itT b5 hM
    refine lv_iconst (v := (-1 : Int32)) hx hb dX9_about_18 (by decide) ?_
    subst hQQ
    exact q_reti (post := fun x L1 f1 => x = z ∧ L1 = L ∧ f1 = f) hx hb hr hlk S dX9_about_19 (by decide) (by decide) (by have hz := Option.some.inj hM; subst hz; exact ⟨rfl, rfl, rfl⟩)
  · have hM := itF b5 hM
    refine lv_iload_n hx hb dX9_about_8 rfl (lv_at hl 2 rfl) ?_
    refine lv_if_lt (tgt := 18) hx hb dX9_about_9 (by decide) (fun b9 => ?_) (fun b9 => ?_)
    · have hM := itT b9 hM
      refine lv_iconst (v := (-1 : Int32)) hx hb dX9_about_18 (by decide) ?_
      subst hQQ
      exact q_reti (post := fun x L1 f1 => x = z ∧ L1 = L ∧ f1 = f) hx hb hr hlk S dX9_about_19 (by decide) (by decide) (by have hz := Option.some.inj hM; subst hz; exact ⟨rfl, rfl, rfl⟩)
    · have hM := itF b9 hM
      refine lv_iload_n hx hb dX9_about_12 rfl (lv_at hl 2 rfl) ?_
      refine lv_bipush (v := (6 : Int32)) hx hb dX9_about_13 (by decide) ?_
      refine lv_icmp_le (tgt := 20) hx hb dX9_about_15 (by decide) (fun b15 => ?_) (fun b15 => ?_)
      · have hM := itT b15 hM
        refine lv_iload_n hx hb dX9_about_20 rfl (lv_at hl 2 rfl) ?_
        by_cases w21_0 : wh = (0 : Int32)
        · have hM := itT w21_0 hM
          refine lv_tableIn (off := 39) (tgt := 60) hx hb dX9_about_21 (by rw [w21_0]; decide) (by rw [w21_0]; decide) (by rw [w21_0]; rfl) (by decide) ?_
          refine lv_aload_n hx hb dX9_about_60 rfl (lv_at hl 0 rfl) ?_
          refine q_get hx hb hts in_X9 hown S m_y e_y (C := RX9) (T := TX9) (N := 23) rfl 2 (by decide) rfl (hts (.fieldLink RX9 17 "SieveCabinetModel" "kind" "[I") (gu_wsX9_about_1 _ gm_0)) dX9_about_61 ?_
          refine lv_iload_n hx hb dX9_about_64 rfl (lv_at hl 1 rfl) ?_
          obtain ⟨hi65, hM⟩ := ckx hM
          refine q_iald hx hb S m_aKind e_aKind hi65 dX9_about_65 ?_
          subst hQQ
          exact q_reti (post := fun x L1 f1 => x = z ∧ L1 = L ∧ f1 = f) hx hb hr hlk S dX9_about_66 (by decide) (by decide) (by have hz := Option.some.inj hM; subst hz; exact ⟨rfl, rfl, rfl⟩)
        have hM := itF w21_0 hM
        by_cases w21_1 : wh = (1 : Int32)
        · have hM := itT w21_1 hM
          refine lv_tableIn (off := 46) (tgt := 67) hx hb dX9_about_21 (by rw [w21_1]; decide) (by rw [w21_1]; decide) (by rw [w21_1]; rfl) (by decide) ?_
          refine lv_aload_n hx hb dX9_about_67 rfl (lv_at hl 0 rfl) ?_
          refine q_get hx hb hts in_X9 hown S m_y e_y (C := RX9) (T := TX9) (N := 23) rfl 2 (by decide) rfl (hts (.fieldLink RX9 17 "SieveCabinetModel" "kind" "[I") (gu_wsX9_about_1 _ gm_0)) dX9_about_68 ?_
          refine lv_iload_n hx hb dX9_about_71 rfl (lv_at hl 1 rfl) ?_
          obtain ⟨hi72, hM⟩ := ckx hM
          refine q_iald hx hb S m_aKind e_aKind hi72 dX9_about_72 ?_
          refine lv_iconst (v := (3 : Int32)) hx hb dX9_about_73 (by decide) ?_
          refine lv_icmp_ne (tgt := 88) hx hb dX9_about_74 (by decide) (fun b74 => ?_) (fun b74 => ?_)
          · have hM := itF b74 hM
            refine lv_aload_n hx hb dX9_about_88 rfl (lv_at hl 0 rfl) ?_
            refine q_get hx hb hts in_X9 hown S m_y e_y (C := RX9) (T := TX9) (N := 23) rfl 3 (by decide) rfl (hts (.fieldLink RX9 20 "SieveCabinetModel" "size" "[I") (gu_wsX9_about_1 _ gm_1)) dX9_about_89 ?_
            refine lv_iload_n hx hb dX9_about_92 rfl (lv_at hl 1 rfl) ?_
            obtain ⟨hi93, hM⟩ := ckx hM
            refine q_iald hx hb S m_aSize e_aSize hi93 dX9_about_93 ?_
            subst hQQ
            exact q_reti (post := fun x L1 f1 => x = z ∧ L1 = L ∧ f1 = f) hx hb hr hlk S dX9_about_94 (by decide) (by decide) (by have hz := Option.some.inj hM; subst hz; exact ⟨rfl, rfl, rfl⟩)
          · have hM := itT b74 hM
            refine lv_iconst (v := (3 : Int32)) hx hb dX9_about_77 (by decide) ?_
            refine lv_aload_n hx hb dX9_about_78 rfl (lv_at hl 0 rfl) ?_
            refine q_get hx hb hts in_X9 hown S m_y e_y (C := RX9) (T := TX9) (N := 23) rfl 3 (by decide) rfl (hts (.fieldLink RX9 20 "SieveCabinetModel" "size" "[I") (gu_wsX9_about_1 _ gm_1)) dX9_about_79 ?_
            refine lv_iload_n hx hb dX9_about_82 rfl (lv_at hl 1 rfl) ?_
            obtain ⟨hi83, hM⟩ := ckx hM
            refine q_iald hx hb S m_aSize e_aSize hi83 dX9_about_83 ?_
            refine lv_imul hx hb dX9_about_84 ?_
            refine lv_goto (tgt := 94) hx hb dX9_about_85 (by decide) ?_
            subst hQQ
            exact q_reti (post := fun x L1 f1 => x = z ∧ L1 = L ∧ f1 = f) hx hb hr hlk S dX9_about_94 (by decide) (by decide) (by have hz := Option.some.inj hM; subst hz; exact ⟨rfl, rfl, rfl⟩)
        have hM := itF w21_1 hM
        by_cases w21_2 : wh = (2 : Int32)
        · have hM := itT w21_2 hM
          refine lv_tableIn (off := 74) (tgt := 95) hx hb dX9_about_21 (by rw [w21_2]; decide) (by rw [w21_2]; decide) (by rw [w21_2]; rfl) (by decide) ?_
          refine lv_aload_n hx hb dX9_about_95 rfl (lv_at hl 0 rfl) ?_
          refine q_get hx hb hts in_X9 hown S m_y e_y (C := RX9) (T := TX9) (N := 23) rfl 4 (by decide) rfl (hts (.fieldLink RX9 23 "SieveCabinetModel" "marks" "[I") (gu_wsX9_about_1 _ gm_2)) dX9_about_96 ?_
          refine lv_iload_n hx hb dX9_about_99 rfl (lv_at hl 1 rfl) ?_
          obtain ⟨hi100, hM⟩ := ckx hM
          refine q_iald hx hb S m_aMarks e_aMarks hi100 dX9_about_100 ?_
          subst hQQ
          exact q_reti (post := fun x L1 f1 => x = z ∧ L1 = L ∧ f1 = f) hx hb hr hlk S dX9_about_101 (by decide) (by decide) (by have hz := Option.some.inj hM; subst hz; exact ⟨rfl, rfl, rfl⟩)
        have hM := itF w21_2 hM
        by_cases w21_3 : wh = (3 : Int32)
        · have hM := itT w21_3 hM
          refine lv_tableIn (off := 81) (tgt := 102) hx hb dX9_about_21 (by rw [w21_3]; decide) (by rw [w21_3]; decide) (by rw [w21_3]; rfl) (by decide) ?_
          refine lv_aload_n hx hb dX9_about_102 rfl (lv_at hl 0 rfl) ?_
          refine q_get hx hb hts in_X9 hown S m_y e_y (C := RX9) (T := TX9) (N := 23) rfl 5 (by decide) rfl (hts (.fieldLink RX9 26 "SieveCabinetModel" "seed" "[I") (gu_wsX9_about_1 _ gm_3)) dX9_about_103 ?_
          refine lv_iload_n hx hb dX9_about_106 rfl (lv_at hl 1 rfl) ?_
          obtain ⟨hi107, hM⟩ := ckx hM
          refine q_iald hx hb S m_aSeed e_aSeed hi107 dX9_about_107 ?_
          subst hQQ
          exact q_reti (post := fun x L1 f1 => x = z ∧ L1 = L ∧ f1 = f) hx hb hr hlk S dX9_about_108 (by decide) (by decide) (by have hz := Option.some.inj hM; subst hz; exact ⟨rfl, rfl, rfl⟩)
        have hM := itF w21_3 hM
        by_cases w21_4 : wh = (4 : Int32)
        · have hM := itT w21_4 hM
          refine lv_tableIn (off := 88) (tgt := 109) hx hb dX9_about_21 (by rw [w21_4]; decide) (by rw [w21_4]; decide) (by rw [w21_4]; rfl) (by decide) ?_
          refine lv_aload_n hx hb dX9_about_109 rfl (lv_at hl 0 rfl) ?_
          refine q_get hx hb hts in_X9 hown S m_y e_y (C := RX9) (T := TX9) (N := 23) rfl 7 (by decide) rfl (hts (.fieldLink RX9 32 "SieveCabinetModel" "contentMany" "[I") (gu_wsX9_about_1 _ gm_4)) dX9_about_110 ?_
          refine lv_iload_n hx hb dX9_about_113 rfl (lv_at hl 1 rfl) ?_
          obtain ⟨hi114, hM⟩ := ckx hM
          refine q_iald hx hb S m_aContentMany e_aContentMany hi114 dX9_about_114 ?_
          subst hQQ
          exact q_reti (post := fun x L1 f1 => x = z ∧ L1 = L ∧ f1 = f) hx hb hr hlk S dX9_about_115 (by decide) (by decide) (by have hz := Option.some.inj hM; subst hz; exact ⟨rfl, rfl, rfl⟩)
        have hM := itF w21_4 hM
        by_cases w21_5 : wh = (5 : Int32)
        · have hM := itT w21_5 hM
          refine lv_tableIn (off := 95) (tgt := 116) hx hb dX9_about_21 (by rw [w21_5]; decide) (by rw [w21_5]; decide) (by rw [w21_5]; rfl) (by decide) ?_
          refine lv_aload_n hx hb dX9_about_116 rfl (lv_at hl 0 rfl) ?_
          refine lv_iload_n hx hb dX9_about_117 rfl (lv_at hl 1 rfl) ?_
          obtain ⟨z118, hz118, hM⟩ := bind_some hM
          refine q_vi (As := [.int sq]) (rest := []) ⟨hx, hb, hml, hown, hts⟩ (k_X9_weight l D g m_y e_y m_aKind e_aKind m_aSize e_aSize m_aLayerSize e_aLayerSize m_aRestMany e_aRestMany hz118) (cwV 1 hts gX9_about_X9_weight rfl rfl rfl (by decide +kernel) ⟨Nat.le_of_ble_eq_true rfl, Nat.le_of_ble_eq_true rfl⟩) S m_y e_y (T := TX9) (N := 23) rfl rfl hl.1 rfl (Nat.le_of_ble_eq_true rfl) dX9_about_118 ⟨Nat.le_of_ble_eq_true rfl, Nat.le_of_ble_eq_true rfl⟩ (fun r6 L4 f5 H locs S w118 => ?_)
          obtain ⟨ex118, eL, ef⟩ := w118
          rw [eL, ef] at S
          replace ex118 := ex118.symm
          subst ex118
          subst hQQ
          exact q_reti (post := fun x L1 f1 => x = z ∧ L1 = L ∧ f1 = f) hx hb hr hlk S dX9_about_121 (by decide) (by decide) (by have hz := Option.some.inj hM; subst hz; exact ⟨rfl, rfl, rfl⟩)
        have hM := itF w21_5 hM
        refine lv_tableOut (tgt := 122) hx hb dX9_about_21 (by have q0 := lv_neT w21_0 (a := 0) rfl; have q1 := lv_neT w21_1 (a := 1) rfl; have q2 := lv_neT w21_2 (a := 2) rfl; have q3 := lv_neT w21_3 (a := 3) rfl; have q4 := lv_neT w21_4 (a := 4) rfl; have q5 := lv_neT w21_5 (a := 5) rfl; omega) (by decide) ?_
        refine lv_aload_n hx hb dX9_about_122 rfl (lv_at hl 0 rfl) ?_
        refine lv_iload_n hx hb dX9_about_123 rfl (lv_at hl 1 rfl) ?_
        obtain ⟨z124, hz124, hM⟩ := bind_some hM
        refine q_vi (As := [.int sq]) (rest := []) ⟨hx, hb, hml, hown, hts⟩ (k_X9_filled l D g m_y e_y m_aKind e_aKind m_aSize e_aSize m_aRow e_aRow m_aRestMany e_aRestMany hz124) (cwV 1 hts gX9_about_X9_filled rfl rfl rfl (by decide +kernel) ⟨Nat.le_of_ble_eq_true rfl, Nat.le_of_ble_eq_true rfl⟩) S m_y e_y (T := TX9) (N := 23) rfl rfl hl.1 rfl (Nat.le_of_ble_eq_true rfl) dX9_about_124 ⟨Nat.le_of_ble_eq_true rfl, Nat.le_of_ble_eq_true rfl⟩ (fun r9 L7 f8 H locs S w124 => ?_)
        obtain ⟨ex124, eL, ef⟩ := w124
        rw [eL, ef] at S
        replace ex124 := ex124.symm
        subst ex124
        subst hQQ
        exact q_reti (post := fun x L1 f1 => x = z ∧ L1 = L ∧ f1 = f) hx hb hr hlk S dX9_about_127 (by decide) (by decide) (by have hz := Option.some.inj hM; subst hz; exact ⟨rfl, rfl, rfl⟩)
      · have hM := itF b15 hM
        refine lv_iconst (v := (-1 : Int32)) hx hb dX9_about_18 (by decide) ?_
        subst hQQ
        exact q_reti (post := fun x L1 f1 => x = z ∧ L1 = L ∧ f1 = f) hx hb hr hlk S dX9_about_19 (by decide) (by decide) (by have hz := Option.some.inj hM; subst hz; exact ⟨rfl, rfl, rfl⟩)

def mX9_cell (many : Int32) (vKind : Nat → Int32) (vSize : Nat → Int32) (vRow : Nat → Int32) (sq : Int32) (i : Int32) : Option (Int32) := (mX9_is many sq).bind fun z2 => if z2 = 0 then (some (-1 : Int32)) else (if ix sq 30 = true then (if (vKind (Int32.toNatClampNeg sq)) = (4 : Int32) then (some (-2 : Int32)) else (if i < 0 then (some (-1 : Int32)) else ((mX9_places vKind vSize sq).bind fun z30 => if z30 ≤ i then (some (-1 : Int32)) else (if ix ((sq * (4096 : Int32)) + i) 122880 = true then (some (vRow (Int32.toNatClampNeg ((sq * (4096 : Int32)) + i)))) else none)))) else none)
set_option maxHeartbeats 4000000 in
set_option maxRecDepth 100000 in
theorem k_X9_cell (l : Launch) (D : va_G) (g : Nat → ClassId) {L : List Nat} {f : Nat → va_E} {aAlone aBits aCome aContentMany aContents aGone aInWorld aIsOff aKept aKind aLayerCame aLayerSize aMarks aOffAt aOrder aRest aRestMany aRivals aRow aSeed aSize aWorlds y : Nat} {many : Int32} {vKind : Nat → Int32} {vSize : Nat → Int32} {vRow : Nat → Int32} {sq : Int32} {i : Int32} {z : Int32} (m_y : y ∈ L) (e_y : f y = .inr (7, [.ref aWorlds, .ref aInWorld, .ref aKind, .ref aSize, .ref aMarks, .ref aSeed, .ref aContents, .ref aContentMany, .ref aRow, .ref aBits, .ref aLayerSize, .ref aLayerCame, .ref aRest, .ref aRestMany, .int many, .ref aCome, .ref aRivals, .ref aGone, .ref aOrder, .ref aOffAt, .ref aIsOff, .ref aAlone, .ref aKept])) (m_aKind : aKind ∈ L) (e_aKind : f aKind = .inl (g 0, 30, .inl vKind)) (m_aSize : aSize ∈ L) (e_aSize : f aSize = .inl (g 0, 30, .inl vSize)) (m_aRow : aRow ∈ L) (e_aRow : f aRow = .inl (g 0, 122880, .inl vRow))    (hM : mX9_cell many vKind vSize vRow sq i = some z) : cI l yX9_cell wsX9_cell { frames := 1, cells := 0, slots := 0, locals := 21 } D g [.ref y, .int sq, .int i] L f 0 0 (fun x L1 f1 => x = z ∧ L1 = L ∧ f1 = f) := by
  refine cI_of (cc := cX9_cell) (maxL := 3) (ret := (some .int)) (by decide) rfl (Nat.le_of_ble_eq_true rfl) ?_
  intro szz p e s m below meth c hx hb hr hml hts hown hlk hnm S ls hl
  have hl : lv_has ls 3 [(0, .ref y), (1, .int sq), (2, .int i)] := hl
  have in_X9 : ∀ w ∈ wsX90, w ∈ wsX9_cell := gu_wsX9_cell_2
  unfold mX9_cell at hM
  refine W_gen (fun QQ hQQ => ?_)
  refine lv_aload_n hx hb dX9_cell_0 rfl (lv_at hl 0 rfl) ?_
  refine lv_iload_n hx hb dX9_cell_1 rfl (lv_at hl 1 rfl) ?_
  obtain ⟨z2, hz2, hM⟩ := bind_some hM
  refine q_vi (As := [.int sq]) (rest := []) ⟨hx, hb, hml, hown, hts⟩ (k_X9_is l D g m_y e_y hz2) (cwV 1 hts gX9_cell_X9_is rfl rfl rfl (by decide +kernel) ⟨Nat.le_of_ble_eq_true rfl, Nat.le_of_ble_eq_true rfl⟩) S m_y e_y (T := TX9) (N := 23) rfl rfl hl.1 rfl (Nat.le_of_ble_eq_true rfl) dX9_cell_2 ⟨Nat.le_of_ble_eq_true rfl, Nat.le_of_ble_eq_true rfl⟩ (fun r3 L1 f2 H locs S w2 => ?_)
  obtain ⟨ex2, eL, ef⟩ := w2
  rw [eL, ef] at S
  replace ex2 := ex2.symm
  subst ex2
  refine lv_if_ne (tgt := 10) hx hb dX9_cell_5 (by decide) (fun b5 => ?_) (fun b5 => ?_)
  · have hM := itF b5 hM
    refine lv_aload_n hx hb dX9_cell_10 rfl (lv_at hl 0 rfl) ?_
    refine q_get hx hb hts in_X9 hown S m_y e_y (C := RX9) (T := TX9) (N := 23) rfl 2 (by decide) rfl (hts (.fieldLink RX9 17 "SieveCabinetModel" "kind" "[I") (gu_wsX9_cell_1 _ gm_0)) dX9_cell_11 ?_
    refine lv_iload_n hx hb dX9_cell_14 rfl (lv_at hl 1 rfl) ?_
    obtain ⟨hi15, hM⟩ := ckx hM
    refine q_iald hx hb S m_aKind e_aKind hi15 dX9_cell_15 ?_
    refine lv_iconst (v := (4 : Int32)) hx hb dX9_cell_16 (by decide) ?_
    refine lv_icmp_ne (tgt := 23) hx hb dX9_cell_17 (by decide) (fun b17 => ?_) (fun b17 => ?_)
    · have hM := itF b17 hM
      refine lv_iload_n hx hb dX9_cell_23 rfl (lv_at hl 2 rfl) ?_
      refine lv_if_lt (tgt := 51) hx hb dX9_cell_24 (by decide) (fun b24 => ?_) (fun b24 => ?_)
      · have hM := itT b24 hM
        refine lv_iconst (v := (-1 : Int32)) hx hb dX9_cell_51 (by decide) ?_
        subst hQQ
        exact q_reti (post := fun x L1 f1 => x = z ∧ L1 = L ∧ f1 = f) hx hb hr hlk S dX9_cell_52 (by decide) (by decide) (by have hz := Option.some.inj hM; subst hz; exact ⟨rfl, rfl, rfl⟩)
      · have hM := itF b24 hM
        refine lv_iload_n hx hb dX9_cell_27 rfl (lv_at hl 2 rfl) ?_
        refine lv_aload_n hx hb dX9_cell_28 rfl (lv_at hl 0 rfl) ?_
        refine lv_iload_n hx hb dX9_cell_29 rfl (lv_at hl 1 rfl) ?_
        obtain ⟨z30, hz30, hM⟩ := bind_some hM
        refine q_vi (As := [.int sq]) (rest := [.int i]) ⟨hx, hb, hml, hown, hts⟩ (k_X9_places l D g m_y e_y m_aKind e_aKind m_aSize e_aSize hz30) (cwV 1 hts gX9_cell_X9_places rfl rfl rfl (by decide +kernel) ⟨Nat.le_of_ble_eq_true rfl, Nat.le_of_ble_eq_true rfl⟩) S m_y e_y (T := TX9) (N := 23) rfl rfl hl.1 rfl (Nat.le_of_ble_eq_true rfl) dX9_cell_30 ⟨Nat.le_of_ble_eq_true rfl, Nat.le_of_ble_eq_true rfl⟩ (fun r6 L4 f5 H locs S w30 => ?_)
        obtain ⟨ex30, eL, ef⟩ := w30
        rw [eL, ef] at S
        replace ex30 := ex30.symm
        subst ex30
        refine lv_icmp_ge (tgt := 51) hx hb dX9_cell_33 (by decide) (fun b33 => ?_) (fun b33 => ?_)
        · have hM := itT b33 hM
          refine lv_iconst (v := (-1 : Int32)) hx hb dX9_cell_51 (by decide) ?_
          subst hQQ
          exact q_reti (post := fun x L1 f1 => x = z ∧ L1 = L ∧ f1 = f) hx hb hr hlk S dX9_cell_52 (by decide) (by decide) (by have hz := Option.some.inj hM; subst hz; exact ⟨rfl, rfl, rfl⟩)
        · have hM := itF b33 hM
          refine lv_aload_n hx hb dX9_cell_36 rfl (lv_at hl 0 rfl) ?_
          refine q_get hx hb hts in_X9 hown S m_y e_y (C := RX9) (T := TX9) (N := 23) rfl 8 (by decide) rfl (hts (.fieldLink RX9 36 "SieveCabinetModel" "row" "[I") (gu_wsX9_cell_1 _ gm_1)) dX9_cell_37 ?_
          refine lv_iload_n hx hb dX9_cell_40 rfl (lv_at hl 1 rfl) ?_
          refine lv_sipush (v := (4096 : Int32)) hx hb dX9_cell_41 (by decide) ?_
          refine lv_imul hx hb dX9_cell_44 ?_
          refine lv_iload_n hx hb dX9_cell_45 rfl (lv_at hl 2 rfl) ?_
          refine lv_iadd hx hb dX9_cell_46 ?_
          obtain ⟨hi47, hM⟩ := ckx hM
          refine q_iald hx hb S m_aRow e_aRow hi47 dX9_cell_47 ?_
          refine lv_goto (tgt := 52) hx hb dX9_cell_48 (by decide) ?_
          subst hQQ
          exact q_reti (post := fun x L1 f1 => x = z ∧ L1 = L ∧ f1 = f) hx hb hr hlk S dX9_cell_52 (by decide) (by decide) (by have hz := Option.some.inj hM; subst hz; exact ⟨rfl, rfl, rfl⟩)
    · have hM := itT b17 hM
      refine lv_bipush (v := (-2 : Int32)) hx hb dX9_cell_20 (by decide) ?_
      subst hQQ
      exact q_reti (post := fun x L1 f1 => x = z ∧ L1 = L ∧ f1 = f) hx hb hr hlk S dX9_cell_22 (by decide) (by decide) (by have hz := Option.some.inj hM; subst hz; exact ⟨rfl, rfl, rfl⟩)
  · have hM := itT b5 hM
    refine lv_iconst (v := (-1 : Int32)) hx hb dX9_cell_8 (by decide) ?_
    subst hQQ
    exact q_reti (post := fun x L1 f1 => x = z ∧ L1 = L ∧ f1 = f) hx hb hr hlk S dX9_cell_9 (by decide) (by decide) (by have hz := Option.some.inj hM; subst hz; exact ⟨rfl, rfl, rfl⟩)

def mX9_layer_L89 (vBits : Nat → Int32) (vLayerSize : Nat → Int32) (sq : Int32) (i : Int32) : Nat → Int32 → Int32 → Option (Int32 × Int32)
  | 0, _, _ => none
  | fu + 1, x6_89, x5_89 => if ix ((sq * (20 : Int32)) + i) 600 = true then (if (vLayerSize (Int32.toNatClampNeg ((sq * (20 : Int32)) + i))) ≤ x6_89 then (some (x6_89, x5_89)) else (if ix ((((sq * (20 : Int32)) + i) * (128 : Int32)) + (x6_89 / (32 : Int32))) 76800 = true then (lt_ (x5_89 + (((vBits (Int32.toNatClampNeg ((((sq * (20 : Int32)) + i) * (128 : Int32)) + (x6_89 / (32 : Int32))))) >>> ((irm x6_89 (32 : Int32)) &&& 31)) &&& (1 : Int32))) fun y129 => mX9_layer_L89 vBits vLayerSize sq i fu (x6_89 + 1) y129) else none)) else none
def mX9_layer (many : Int32) (vKind : Nat → Int32) (vSize : Nat → Int32) (vBits : Nat → Int32) (vLayerSize : Nat → Int32) (vLayerCame : Nat → Int32) (sq : Int32) (i : Int32) (wh : Int32) : Option (Int32) := (mX9_is many sq).bind fun z2 => if z2 = 0 then (some (-1 : Int32)) else (if wh < 0 then (some (-1 : Int32)) else (if wh ≤ (2 : Int32) then (if ix sq 30 = true then (if (vKind (Int32.toNatClampNeg sq)) = (4 : Int32) then (if i < 0 then (some (-1 : Int32)) else (if ix sq 30 = true then (if i < (vSize (Int32.toNatClampNeg sq)) then (if (2 : Int32) ≤ wh then ((mX9_layer_L89 vBits vLayerSize sq i FU (0 : Int32) (0 : Int32)).bind fun o89 => some o89.2) else (if wh = 0 then (if ix ((sq * (20 : Int32)) + i) 600 = true then (some (vLayerSize (Int32.toNatClampNeg ((sq * (20 : Int32)) + i)))) else none) else (if ix ((sq * (20 : Int32)) + i) 600 = true then (some (vLayerCame (Int32.toNatClampNeg ((sq * (20 : Int32)) + i)))) else none))) else (some (-1 : Int32))) else none)) else (some (-2 : Int32))) else none) else (some (-1 : Int32))))
set_option maxHeartbeats 4000000 in
set_option maxRecDepth 100000 in
theorem k_X9_layer (l : Launch) (D : va_G) (g : Nat → ClassId) {L : List Nat} {f : Nat → va_E} {aAlone aBits aCome aContentMany aContents aGone aInWorld aIsOff aKept aKind aLayerCame aLayerSize aMarks aOffAt aOrder aRest aRestMany aRivals aRow aSeed aSize aWorlds y : Nat} {many : Int32} {vKind : Nat → Int32} {vSize : Nat → Int32} {vBits : Nat → Int32} {vLayerSize : Nat → Int32} {vLayerCame : Nat → Int32} {sq : Int32} {i : Int32} {wh : Int32} {z : Int32} (m_y : y ∈ L) (e_y : f y = .inr (7, [.ref aWorlds, .ref aInWorld, .ref aKind, .ref aSize, .ref aMarks, .ref aSeed, .ref aContents, .ref aContentMany, .ref aRow, .ref aBits, .ref aLayerSize, .ref aLayerCame, .ref aRest, .ref aRestMany, .int many, .ref aCome, .ref aRivals, .ref aGone, .ref aOrder, .ref aOffAt, .ref aIsOff, .ref aAlone, .ref aKept])) (m_aKind : aKind ∈ L) (e_aKind : f aKind = .inl (g 0, 30, .inl vKind)) (m_aSize : aSize ∈ L) (e_aSize : f aSize = .inl (g 0, 30, .inl vSize)) (m_aBits : aBits ∈ L) (e_aBits : f aBits = .inl (g 0, 76800, .inl vBits)) (m_aLayerSize : aLayerSize ∈ L) (e_aLayerSize : f aLayerSize = .inl (g 0, 600, .inl vLayerSize)) (m_aLayerCame : aLayerCame ∈ L) (e_aLayerCame : f aLayerCame = .inl (g 0, 600, .inl vLayerCame))    (hM : mX9_layer many vKind vSize vBits vLayerSize vLayerCame sq i wh = some z) : cI l yX9_layer wsX9_layer { frames := 1, cells := 0, slots := 0, locals := 21 } D g [.ref y, .int sq, .int i, .int wh] L f 0 0 (fun x L1 f1 => x = z ∧ L1 = L ∧ f1 = f) := by
  refine cI_of (cc := cX9_layer) (maxL := 7) (ret := (some .int)) (by decide) rfl (Nat.le_of_ble_eq_true rfl) ?_
  intro szz p e s m below meth c hx hb hr hml hts hown hlk hnm S ls hl
  have hl : lv_has ls 7 [(0, .ref y), (1, .int sq), (2, .int i), (3, .int wh)] := hl
  have in_X9 : ∀ w ∈ wsX90, w ∈ wsX9_layer := gu_wsX9_layer_2
  unfold mX9_layer at hM
  refine W_gen (fun QQ hQQ => ?_)
  refine lv_aload_n hx hb dX9_layer_0 rfl (lv_at hl 0 rfl) ?_
  refine lv_iload_n hx hb dX9_layer_1 rfl (lv_at hl 1 rfl) ?_
  obtain ⟨z2, hz2, hM⟩ := bind_some hM
  refine q_vi (As := [.int sq]) (rest := []) ⟨hx, hb, hml, hown, hts⟩ (k_X9_is l D g m_y e_y hz2) (cwV 1 hts gX9_layer_X9_is rfl rfl rfl (by decide +kernel) ⟨Nat.le_of_ble_eq_true rfl, Nat.le_of_ble_eq_true rfl⟩) S m_y e_y (T := TX9) (N := 23) rfl rfl hl.1 rfl (Nat.le_of_ble_eq_true rfl) dX9_layer_2 ⟨Nat.le_of_ble_eq_true rfl, Nat.le_of_ble_eq_true rfl⟩ (fun r3 L1 f2 H locs S w2 => ?_)
  obtain ⟨ex2, eL, ef⟩ := w2
  rw [eL, ef] at S
  replace ex2 := ex2.symm
  subst ex2
  refine lv_if_eq (tgt := 17) hx hb dX9_layer_5 (by decide) (fun b5 => ?_) (fun b5 => ?_)
  · have hM := itT b5 hM
    refine lv_iconst (v := (-1 : Int32)) hx hb dX9_layer_17 (by decide) ?_
    subst hQQ
    exact q_reti (post := fun x L1 f1 => x = z ∧ L1 = L ∧ f1 = f) hx hb hr hlk S dX9_layer_18 (by decide) (by decide) (by have hz := Option.some.inj hM; subst hz; exact ⟨rfl, rfl, rfl⟩)
  · have hM := itF b5 hM
    refine lv_iload_n hx hb dX9_layer_8 rfl (lv_at hl 3 rfl) ?_
    refine lv_if_lt (tgt := 17) hx hb dX9_layer_9 (by decide) (fun b9 => ?_) (fun b9 => ?_)
    · have hM := itT b9 hM
      refine lv_iconst (v := (-1 : Int32)) hx hb dX9_layer_17 (by decide) ?_
      subst hQQ
      exact q_reti (post := fun x L1 f1 => x = z ∧ L1 = L ∧ f1 = f) hx hb hr hlk S dX9_layer_18 (by decide) (by decide) (by have hz := Option.some.inj hM; subst hz; exact ⟨rfl, rfl, rfl⟩)
    · have hM := itF b9 hM
      refine lv_iload_n hx hb dX9_layer_12 rfl (lv_at hl 3 rfl) ?_
      refine lv_iconst (v := (2 : Int32)) hx hb dX9_layer_13 (by decide) ?_
      refine lv_icmp_le (tgt := 19) hx hb dX9_layer_14 (by decide) (fun b14 => ?_) (fun b14 => ?_)
      · have hM := itT b14 hM
        refine lv_aload_n hx hb dX9_layer_19 rfl (lv_at hl 0 rfl) ?_
        refine q_get hx hb hts in_X9 hown S m_y e_y (C := RX9) (T := TX9) (N := 23) rfl 2 (by decide) rfl (hts (.fieldLink RX9 17 "SieveCabinetModel" "kind" "[I") (gu_wsX9_layer_1 _ gm_0)) dX9_layer_20 ?_
        refine lv_iload_n hx hb dX9_layer_23 rfl (lv_at hl 1 rfl) ?_
        obtain ⟨hi24, hM⟩ := ckx hM
        refine q_iald hx hb S m_aKind e_aKind hi24 dX9_layer_24 ?_
        refine lv_iconst (v := (4 : Int32)) hx hb dX9_layer_25 (by decide) ?_
        refine lv_icmp_eq (tgt := 32) hx hb dX9_layer_26 (by decide) (fun b26 => ?_) (fun b26 => ?_)
        · have hM := itT b26 hM
          refine lv_iload_n hx hb dX9_layer_32 rfl (lv_at hl 2 rfl) ?_
          refine lv_if_lt (tgt := 46) hx hb dX9_layer_33 (by decide) (fun b33 => ?_) (fun b33 => ?_)
          · have hM := itT b33 hM
            refine lv_iconst (v := (-1 : Int32)) hx hb dX9_layer_46 (by decide) ?_
            subst hQQ
            exact q_reti (post := fun x L1 f1 => x = z ∧ L1 = L ∧ f1 = f) hx hb hr hlk S dX9_layer_47 (by decide) (by decide) (by have hz := Option.some.inj hM; subst hz; exact ⟨rfl, rfl, rfl⟩)
          · have hM := itF b33 hM
            refine lv_iload_n hx hb dX9_layer_36 rfl (lv_at hl 2 rfl) ?_
            refine lv_aload_n hx hb dX9_layer_37 rfl (lv_at hl 0 rfl) ?_
            refine q_get hx hb hts in_X9 hown S m_y e_y (C := RX9) (T := TX9) (N := 23) rfl 3 (by decide) rfl (hts (.fieldLink RX9 20 "SieveCabinetModel" "size" "[I") (gu_wsX9_layer_1 _ gm_1)) dX9_layer_38 ?_
            refine lv_iload_n hx hb dX9_layer_41 rfl (lv_at hl 1 rfl) ?_
            obtain ⟨hi42, hM⟩ := ckx hM
            refine q_iald hx hb S m_aSize e_aSize hi42 dX9_layer_42 ?_
            refine lv_icmp_lt (tgt := 48) hx hb dX9_layer_43 (by decide) (fun b43 => ?_) (fun b43 => ?_)
            · have hM := itT b43 hM
              refine lv_iload_n hx hb dX9_layer_48 rfl (lv_at hl 1 rfl) ?_
              refine lv_bipush (v := (20 : Int32)) hx hb dX9_layer_49 (by decide) ?_
              refine lv_imul hx hb dX9_layer_51 ?_
              refine lv_iload_n hx hb dX9_layer_52 rfl (lv_at hl 2 rfl) ?_
              refine lv_iadd hx hb dX9_layer_53 ?_
              refine lv_istore (lv' := [(4, .int ((sq * (20 : Int32)) + i)), (0, .ref y), (1, .int sq), (2, .int i), (3, .int wh)]) hx hb dX9_layer_54 hl (by decide) rfl (fun ls hl => ?_)
              refine lv_iload_n hx hb dX9_layer_56 rfl (lv_at hl 4 rfl) ?_
              refine lv_iconst (v := (2 : Int32)) hx hb dX9_layer_57 (by decide) ?_
              refine lv_icmp_ge (tgt := 83) hx hb dX9_layer_58 (by decide) (fun b58 => ?_) (fun b58 => ?_)
              · have hM := itT b58 hM
                refine lv_iconst (v := (0 : Int32)) hx hb dX9_layer_83 (by decide) ?_
                refine lv_istore (lv' := [(5, .int (0 : Int32)), (4, .int ((sq * (20 : Int32)) + i)), (0, .ref y), (1, .int sq), (2, .int i), (3, .int wh)]) hx hb dX9_layer_84 hl (by decide) rfl (fun ls hl => ?_)
                refine lv_iconst (v := (0 : Int32)) hx hb dX9_layer_86 (by decide) ?_
                refine lv_istore (lv' := [(6, .int (0 : Int32)), (5, .int (0 : Int32)), (4, .int ((sq * (20 : Int32)) + i)), (0, .ref y), (1, .int sq), (2, .int i), (3, .int wh)]) hx hb dX9_layer_87 hl (by decide) rfl (fun ls hl => ?_)
                obtain ⟨o89, ho89, hM⟩ := bind_some hM
                have EX89 : ∀ (H : Heap) (locs : List Loc) (ls : Array Slot), PS D g (va_A (va_pl L f) szz) s.heap s L f H locs → lv_has ls 7 [(5, .int o89.2)] → W p l e { frames := 1, cells := 0, slots := 0, locals := 21 } s m [.ref y, .int sq, .int i, .int wh].toArray below meth c H locs 0 0 QQ (F0 m 137 ls []) := by
                  intro H locs ls S hl
                  refine lv_iload hx hb dX9_layer_137 (lv_at hl 0 rfl) ?_
                  subst hQQ
                  exact q_reti (post := fun x L1 f1 => x = z ∧ L1 = L ∧ f1 = f) hx hb hr hlk S dX9_layer_139 (by decide) (by decide) (by have hz := Option.some.inj hM; subst hz; exact ⟨rfl, rfl, rfl⟩)
                have LP89 : ∀ (fu : Nat) (x6_89 : Int32) (x5_89 : Int32) (H : Heap) (locs : List Loc) (ls : Array Slot), (mX9_layer_L89 vBits vLayerSize sq i) fu x6_89 x5_89 = some o89 → PS D g (va_A (va_pl L f) szz) s.heap s L f H locs → lv_has ls 7 [(6, .int x6_89), (5, .int x5_89), (4, .int ((sq * (20 : Int32)) + i)), (0, .ref y)] → W p l e { frames := 1, cells := 0, slots := 0, locals := 21 } s m [.ref y, .int sq, .int i, .int wh].toArray below meth c H locs 0 0 QQ (F0 m 89 ls []) := by
                  intro fu
                  induction fu with
                  | zero => intro x6_89 x5_89 H locs ls ho89 S hl; exact no_some ho89
                  | succ fu ih89 =>
                    intro x6_89 x5_89 H locs ls ho89 S hl
                    rw [mX9_layer_L89] at ho89
                    refine lv_iload hx hb dX9_layer_89 (lv_at hl 0 rfl) ?_
                    refine lv_aload_n hx hb dX9_layer_91 rfl (lv_at hl 3 rfl) ?_
                    refine q_get hx hb hts in_X9 hown S m_y e_y (C := RX9) (T := TX9) (N := 23) rfl 10 (by decide) rfl (hts (.fieldLink RX9 43 "SieveCabinetModel" "layerSize" "[I") (gu_wsX9_layer_1 _ gm_2)) dX9_layer_92 ?_
                    refine lv_iload hx hb dX9_layer_95 (lv_at hl 2 rfl) ?_
                    obtain ⟨hi97, ho89⟩ := ckx ho89
                    refine q_iald hx hb S m_aLayerSize e_aLayerSize hi97 dX9_layer_97 ?_
                    refine lv_icmp_ge (tgt := 137) hx hb dX9_layer_98 (by decide) (fun b98 => ?_) (fun b98 => ?_)
                    · have ho89 := itT b98 ho89
                      obtain rfl := Option.some.inj ho89
                      exact EX89 _ _ _ S (lv_sub hl [1] rfl)
                    · have ho89 := itF b98 ho89
                      refine lv_iload hx hb dX9_layer_101 (lv_at hl 1 rfl) ?_
                      refine lv_aload_n hx hb dX9_layer_103 rfl (lv_at hl 3 rfl) ?_
                      refine q_get hx hb hts in_X9 hown S m_y e_y (C := RX9) (T := TX9) (N := 23) rfl 9 (by decide) rfl (hts (.fieldLink RX9 40 "SieveCabinetModel" "bits" "[I") (gu_wsX9_layer_1 _ gm_4)) dX9_layer_104 ?_
                      refine lv_iload hx hb dX9_layer_107 (lv_at hl 2 rfl) ?_
                      refine lv_sipush (v := (128 : Int32)) hx hb dX9_layer_109 (by decide) ?_
                      refine lv_imul hx hb dX9_layer_112 ?_
                      refine lv_iload hx hb dX9_layer_113 (lv_at hl 0 rfl) ?_
                      refine lv_bipush (v := (32 : Int32)) hx hb dX9_layer_115 (by decide) ?_
                      refine lv_idiv hx hb dX9_layer_117 (by decide) ?_
                      refine lv_iadd hx hb dX9_layer_118 ?_
                      obtain ⟨hi119, ho89⟩ := ckx ho89
                      refine q_iald hx hb S m_aBits e_aBits hi119 dX9_layer_119 ?_
                      refine lv_iload hx hb dX9_layer_120 (lv_at hl 0 rfl) ?_
                      refine lv_bipush (v := (32 : Int32)) hx hb dX9_layer_122 (by decide) ?_
                      refine lv_irem hx hb dX9_layer_124 (by decide) ?_
                      refine W.eq (g2 := F0 m 125 ls [.int (irm x6_89 (32 : Int32)), .int (vBits (Int32.toNatClampNeg ((((sq * (20 : Int32)) + i) * (128 : Int32)) + (x6_89 / (32 : Int32))))), .int x5_89]) rfl ?_
                      refine lv_ishr hx hb dX9_layer_125 ?_
                      refine lv_iconst (v := (1 : Int32)) hx hb dX9_layer_126 (by decide) ?_
                      refine lv_iand hx hb dX9_layer_127 ?_
                      refine lv_iadd hx hb dX9_layer_128 ?_
                      refine lv_topi (fun y129 ey129 => ?_)
                      have ho89 := lt_some ho89 ey129
                      refine lv_istore (lv' := [(5, .int y129), (6, .int x6_89), (4, .int ((sq * (20 : Int32)) + i)), (0, .ref y)]) hx hb dX9_layer_129 hl (by decide) rfl (fun ls hl => ?_)
                      refine lv_iinc (v := (x6_89 + 1)) (lv' := [(6, .int (x6_89 + 1)), (5, .int y129), (4, .int ((sq * (20 : Int32)) + i)), (0, .ref y)]) hx hb dX9_layer_131 hl (k := 1) rfl rfl (by decide) rfl (fun ls hl => ?_)
                      refine lv_goto (tgt := 89) hx hb dX9_layer_134 (by decide) ?_
                      exact ih89 (x6_89 + 1) y129 _ _ _ ho89 S (lv_sub hl [0, 1, 2, 3] rfl)
                exact LP89 FU (0 : Int32) (0 : Int32) _ _ _ ho89 S (lv_sub hl [0, 1, 2, 3] rfl)
              · have hM := itF b58 hM
                refine lv_iload_n hx hb dX9_layer_61 rfl (lv_at hl 4 rfl) ?_
                refine lv_if_ne (tgt := 75) hx hb dX9_layer_62 (by decide) (fun b62 => ?_) (fun b62 => ?_)
                · have hM := itF b62 hM
                  refine lv_aload_n hx hb dX9_layer_75 rfl (lv_at hl 1 rfl) ?_
                  refine q_get hx hb hts in_X9 hown S m_y e_y (C := RX9) (T := TX9) (N := 23) rfl 11 (by decide) rfl (hts (.fieldLink RX9 46 "SieveCabinetModel" "layerCame" "[I") (gu_wsX9_layer_1 _ gm_3)) dX9_layer_76 ?_
                  refine lv_iload hx hb dX9_layer_79 (lv_at hl 0 rfl) ?_
                  obtain ⟨hi81, hM⟩ := ckx hM
                  refine q_iald hx hb S m_aLayerCame e_aLayerCame hi81 dX9_layer_81 ?_
                  subst hQQ
                  exact q_reti (post := fun x L1 f1 => x = z ∧ L1 = L ∧ f1 = f) hx hb hr hlk S dX9_layer_82 (by decide) (by decide) (by have hz := Option.some.inj hM; subst hz; exact ⟨rfl, rfl, rfl⟩)
                · have hM := itT b62 hM
                  refine lv_aload_n hx hb dX9_layer_65 rfl (lv_at hl 1 rfl) ?_
                  refine q_get hx hb hts in_X9 hown S m_y e_y (C := RX9) (T := TX9) (N := 23) rfl 10 (by decide) rfl (hts (.fieldLink RX9 43 "SieveCabinetModel" "layerSize" "[I") (gu_wsX9_layer_1 _ gm_2)) dX9_layer_66 ?_
                  refine lv_iload hx hb dX9_layer_69 (lv_at hl 0 rfl) ?_
                  obtain ⟨hi71, hM⟩ := ckx hM
                  refine q_iald hx hb S m_aLayerSize e_aLayerSize hi71 dX9_layer_71 ?_
                  refine lv_goto (tgt := 82) hx hb dX9_layer_72 (by decide) ?_
                  subst hQQ
                  exact q_reti (post := fun x L1 f1 => x = z ∧ L1 = L ∧ f1 = f) hx hb hr hlk S dX9_layer_82 (by decide) (by decide) (by have hz := Option.some.inj hM; subst hz; exact ⟨rfl, rfl, rfl⟩)
            · have hM := itF b43 hM
              refine lv_iconst (v := (-1 : Int32)) hx hb dX9_layer_46 (by decide) ?_
              subst hQQ
              exact q_reti (post := fun x L1 f1 => x = z ∧ L1 = L ∧ f1 = f) hx hb hr hlk S dX9_layer_47 (by decide) (by decide) (by have hz := Option.some.inj hM; subst hz; exact ⟨rfl, rfl, rfl⟩)
        · have hM := itF b26 hM
          refine lv_bipush (v := (-2 : Int32)) hx hb dX9_layer_29 (by decide) ?_
          subst hQQ
          exact q_reti (post := fun x L1 f1 => x = z ∧ L1 = L ∧ f1 = f) hx hb hr hlk S dX9_layer_31 (by decide) (by decide) (by have hz := Option.some.inj hM; subst hz; exact ⟨rfl, rfl, rfl⟩)
      · have hM := itF b14 hM
        refine lv_iconst (v := (-1 : Int32)) hx hb dX9_layer_17 (by decide) ?_
        subst hQQ
        exact q_reti (post := fun x L1 f1 => x = z ∧ L1 = L ∧ f1 = f) hx hb hr hlk S dX9_layer_18 (by decide) (by decide) (by have hz := Option.some.inj hM; subst hz; exact ⟨rfl, rfl, rfl⟩)

def mX9_mark (many : Int32) (vKind : Nat → Int32) (vSize : Nat → Int32) (vMarks : Nat → Int32) (vSeed : Nat → Int32) (sq : Int32) (t : Int64) (j : Int32) : Option (Int32) := (mX9_is many sq).bind fun z2 => if z2 = 0 then (some (-1 : Int32)) else (if ix sq 30 = true then (if (vKind (Int32.toNatClampNeg sq)) = (4 : Int32) then (some (-2 : Int32)) else (if ix sq 30 = true then (if (vKind (Int32.toNatClampNeg sq)) = (2 : Int32) then (if j < 0 then (some (-1 : Int32)) else (if j < (2 : Int32) then (if ix sq 30 = true then ((mX9_mix t (vSeed (Int32.toNatClampNeg sq))).bind fun z80 => if ix sq 30 = true then (if (vKind (Int32.toNatClampNeg sq)) = (2 : Int32) then ((mX9_nestOf vSize vSeed sq t j).bind fun z100 => some z100) else (if ix sq 30 = true then (if (vKind (Int32.toNatClampNeg sq)) = (3 : Int32) then (if ix sq 30 = true then ((mX9_solvedPlace z80 j (vSize (Int32.toNatClampNeg sq))).bind fun z126 => some z126) else none) else (if ix sq 30 = true then ((mX9_markOf z80 j (vSize (Int32.toNatClampNeg sq))).bind fun z142 => some z142) else none)) else none)) else none) else none) else (some (-1 : Int32)))) else (if ix sq 30 = true then (if (vKind (Int32.toNatClampNeg sq)) = (3 : Int32) then (if j < 0 then (some (-1 : Int32)) else (if j < (3 : Int32) then (if ix sq 30 = true then ((mX9_mix t (vSeed (Int32.toNatClampNeg sq))).bind fun z80 => if ix sq 30 = true then (if (vKind (Int32.toNatClampNeg sq)) = (2 : Int32) then ((mX9_nestOf vSize vSeed sq t j).bind fun z100 => some z100) else (if ix sq 30 = true then (if (vKind (Int32.toNatClampNeg sq)) = (3 : Int32) then (if ix sq 30 = true then ((mX9_solvedPlace z80 j (vSize (Int32.toNatClampNeg sq))).bind fun z126 => some z126) else none) else (if ix sq 30 = true then ((mX9_markOf z80 j (vSize (Int32.toNatClampNeg sq))).bind fun z142 => some z142) else none)) else none)) else none) else none) else (some (-1 : Int32)))) else (if ix sq 30 = true then (if j < 0 then (some (-1 : Int32)) else (if j < (vMarks (Int32.toNatClampNeg sq)) then (if ix sq 30 = true then ((mX9_mix t (vSeed (Int32.toNatClampNeg sq))).bind fun z80 => if ix sq 30 = true then (if (vKind (Int32.toNatClampNeg sq)) = (2 : Int32) then ((mX9_nestOf vSize vSeed sq t j).bind fun z100 => some z100) else (if ix sq 30 = true then (if (vKind (Int32.toNatClampNeg sq)) = (3 : Int32) then (if ix sq 30 = true then ((mX9_solvedPlace z80 j (vSize (Int32.toNatClampNeg sq))).bind fun z126 => some z126) else none) else (if ix sq 30 = true then ((mX9_markOf z80 j (vSize (Int32.toNatClampNeg sq))).bind fun z142 => some z142) else none)) else none)) else none) else none) else (some (-1 : Int32)))) else none)) else none)) else none)) else none)
set_option maxHeartbeats 4000000 in
set_option maxRecDepth 100000 in
theorem k_X9_mark (l : Launch) (D : va_G) (g : Nat → ClassId) {L : List Nat} {f : Nat → va_E} {aAlone aBits aCome aContentMany aContents aGone aInWorld aIsOff aKept aKind aLayerCame aLayerSize aMarks aOffAt aOrder aRest aRestMany aRivals aRow aSeed aSize aWorlds y : Nat} {many : Int32} {vKind : Nat → Int32} {vSize : Nat → Int32} {vMarks : Nat → Int32} {vSeed : Nat → Int32} {sq : Int32} {t : Int64} {j : Int32} {z : Int32} (m_y : y ∈ L) (e_y : f y = .inr (7, [.ref aWorlds, .ref aInWorld, .ref aKind, .ref aSize, .ref aMarks, .ref aSeed, .ref aContents, .ref aContentMany, .ref aRow, .ref aBits, .ref aLayerSize, .ref aLayerCame, .ref aRest, .ref aRestMany, .int many, .ref aCome, .ref aRivals, .ref aGone, .ref aOrder, .ref aOffAt, .ref aIsOff, .ref aAlone, .ref aKept])) (m_aKind : aKind ∈ L) (e_aKind : f aKind = .inl (g 0, 30, .inl vKind)) (m_aSize : aSize ∈ L) (e_aSize : f aSize = .inl (g 0, 30, .inl vSize)) (m_aMarks : aMarks ∈ L) (e_aMarks : f aMarks = .inl (g 0, 30, .inl vMarks)) (m_aSeed : aSeed ∈ L) (e_aSeed : f aSeed = .inl (g 0, 30, .inl vSeed))    (hM : mX9_mark many vKind vSize vMarks vSeed sq t j = some z) : cI l yX9_mark wsX9_mark { frames := 2, cells := 0, slots := 0, locals := 51 } D g [.ref y, .int sq, .long t, .int j] L f 0 0 (fun x L1 f1 => x = z ∧ L1 = L ∧ f1 = f) := by
  refine cI_of (cc := cX9_mark) (maxL := 8) (ret := (some .int)) (by decide) rfl (Nat.le_of_ble_eq_true rfl) ?_
  intro szz p e s m below meth c hx hb hr hml hts hown hlk hnm S ls hl
  have hl : lv_has ls 8 [(0, .ref y), (1, .int sq), (2, .long t), (4, .int j)] := hl
  have in_X9 : ∀ w ∈ wsX90, w ∈ wsX9_mark := gu_wsX9_mark_3
  unfold mX9_mark at hM
  refine W_gen (fun QQ hQQ => ?_)
  refine lv_aload_n hx hb dX9_mark_0 rfl (lv_at hl 0 rfl) ?_
  refine lv_iload_n hx hb dX9_mark_1 rfl (lv_at hl 1 rfl) ?_
  obtain ⟨z2, hz2, hM⟩ := bind_some hM
  refine q_vi (As := [.int sq]) (rest := []) ⟨hx, hb, hml, hown, hts⟩ (k_X9_is l D g m_y e_y hz2) (cwV 1 hts gX9_mark_X9_is rfl rfl rfl (by decide +kernel) ⟨Nat.le_of_ble_eq_true rfl, Nat.le_of_ble_eq_true rfl⟩) S m_y e_y (T := TX9) (N := 23) rfl rfl hl.1 rfl (Nat.le_of_ble_eq_true rfl) dX9_mark_2 ⟨Nat.le_of_ble_eq_true rfl, Nat.le_of_ble_eq_true rfl⟩ (fun r3 L1 f2 H locs S w2 => ?_)
  obtain ⟨ex2, eL, ef⟩ := w2
  rw [eL, ef] at S
  replace ex2 := ex2.symm
  subst ex2
  refine lv_if_ne (tgt := 10) hx hb dX9_mark_5 (by decide) (fun b5 => ?_) (fun b5 => ?_)
  · have hM := itF b5 hM
    refine lv_aload_n hx hb dX9_mark_10 rfl (lv_at hl 0 rfl) ?_
    refine q_get hx hb hts in_X9 hown S m_y e_y (C := RX9) (T := TX9) (N := 23) rfl 2 (by decide) rfl (hts (.fieldLink RX9 17 "SieveCabinetModel" "kind" "[I") (gu_wsX9_mark_1 _ gm_0)) dX9_mark_11 ?_
    refine lv_iload_n hx hb dX9_mark_14 rfl (lv_at hl 1 rfl) ?_
    obtain ⟨hi15, hM⟩ := ckx hM
    refine q_iald hx hb S m_aKind e_aKind hi15 dX9_mark_15 ?_
    refine lv_iconst (v := (4 : Int32)) hx hb dX9_mark_16 (by decide) ?_
    refine lv_icmp_ne (tgt := 23) hx hb dX9_mark_17 (by decide) (fun b17 => ?_) (fun b17 => ?_)
    · have hM := itF b17 hM
      refine lv_aload_n hx hb dX9_mark_23 rfl (lv_at hl 0 rfl) ?_
      refine q_get hx hb hts in_X9 hown S m_y e_y (C := RX9) (T := TX9) (N := 23) rfl 2 (by decide) rfl (hts (.fieldLink RX9 17 "SieveCabinetModel" "kind" "[I") (gu_wsX9_mark_1 _ gm_0)) dX9_mark_24 ?_
      refine lv_iload_n hx hb dX9_mark_27 rfl (lv_at hl 1 rfl) ?_
      obtain ⟨hi28, hM⟩ := ckx hM
      refine q_iald hx hb S m_aKind e_aKind hi28 dX9_mark_28 ?_
      refine lv_iconst (v := (2 : Int32)) hx hb dX9_mark_29 (by decide) ?_
      refine lv_icmp_ne (tgt := 37) hx hb dX9_mark_30 (by decide) (fun b30 => ?_) (fun b30 => ?_)
      · have hM := itF b30 hM
        refine lv_aload_n hx hb dX9_mark_37 rfl (lv_at hl 0 rfl) ?_
        refine q_get hx hb hts in_X9 hown S m_y e_y (C := RX9) (T := TX9) (N := 23) rfl 2 (by decide) rfl (hts (.fieldLink RX9 17 "SieveCabinetModel" "kind" "[I") (gu_wsX9_mark_1 _ gm_0)) dX9_mark_38 ?_
        refine lv_iload_n hx hb dX9_mark_41 rfl (lv_at hl 1 rfl) ?_
        obtain ⟨hi42, hM⟩ := ckx hM
        refine q_iald hx hb S m_aKind e_aKind hi42 dX9_mark_42 ?_
        refine lv_iconst (v := (3 : Int32)) hx hb dX9_mark_43 (by decide) ?_
        refine lv_icmp_ne (tgt := 51) hx hb dX9_mark_44 (by decide) (fun b44 => ?_) (fun b44 => ?_)
        · have hM := itF b44 hM
          refine lv_aload_n hx hb dX9_mark_51 rfl (lv_at hl 0 rfl) ?_
          refine q_get hx hb hts in_X9 hown S m_y e_y (C := RX9) (T := TX9) (N := 23) rfl 4 (by decide) rfl (hts (.fieldLink RX9 23 "SieveCabinetModel" "marks" "[I") (gu_wsX9_mark_1 _ gm_1)) dX9_mark_52 ?_
          refine lv_iload_n hx hb dX9_mark_55 rfl (lv_at hl 1 rfl) ?_
          obtain ⟨hi56, hM⟩ := ckx hM
          refine q_iald hx hb S m_aMarks e_aMarks hi56 dX9_mark_56 ?_
          refine lv_istore (lv' := [(5, .int (vMarks (Int32.toNatClampNeg sq))), (0, .ref y), (1, .int sq), (2, .long t), (4, .int j)]) hx hb dX9_mark_57 hl (by decide) rfl (fun ls hl => ?_)
          refine lv_iload hx hb dX9_mark_59 (lv_at hl 4 rfl) ?_
          refine lv_if_lt (tgt := 71) hx hb dX9_mark_61 (by decide) (fun b61 => ?_) (fun b61 => ?_)
          · have hM := itT b61 hM
            refine lv_iconst (v := (-1 : Int32)) hx hb dX9_mark_71 (by decide) ?_
            subst hQQ
            exact q_reti (post := fun x L1 f1 => x = z ∧ L1 = L ∧ f1 = f) hx hb hr hlk S dX9_mark_72 (by decide) (by decide) (by have hz := Option.some.inj hM; subst hz; exact ⟨rfl, rfl, rfl⟩)
          · have hM := itF b61 hM
            refine lv_iload hx hb dX9_mark_64 (lv_at hl 4 rfl) ?_
            refine lv_iload hx hb dX9_mark_66 (lv_at hl 0 rfl) ?_
            refine lv_icmp_lt (tgt := 73) hx hb dX9_mark_68 (by decide) (fun b68 => ?_) (fun b68 => ?_)
            · have hM := itT b68 hM
              refine lv_lload_n hx hb dX9_mark_73 rfl (lv_at hl 3 rfl) ?_
              refine lv_aload_n hx hb dX9_mark_74 rfl (lv_at hl 1 rfl) ?_
              refine q_get hx hb hts in_X9 hown S m_y e_y (C := RX9) (T := TX9) (N := 23) rfl 5 (by decide) rfl (hts (.fieldLink RX9 26 "SieveCabinetModel" "seed" "[I") (gu_wsX9_mark_1 _ gm_2)) dX9_mark_75 ?_
              refine lv_iload_n hx hb dX9_mark_78 rfl (lv_at hl 2 rfl) ?_
              obtain ⟨hi79, hM⟩ := ckx hM
              refine q_iald hx hb S m_aSeed e_aSeed hi79 dX9_mark_79 ?_
              obtain ⟨z80, hz80, hM⟩ := bind_some hM
              refine q_sl (As := [.long t, .int (vSeed (Int32.toNatClampNeg sq))]) (rest := []) ⟨hx, hb, hml, hown, hts⟩ (k_X9_mix l D g hz80) (va_cwS 2 hts gX9_mark_X9_mix rfl rfl rfl (by decide +kernel) ⟨Nat.le_of_ble_eq_true rfl, Nat.le_of_ble_eq_true rfl⟩) S rfl hl.1 rfl (Nat.le_of_ble_eq_true rfl) dX9_mark_80 ⟨Nat.le_of_ble_eq_true rfl, Nat.le_of_ble_eq_true rfl⟩ (fun r6 L4 f5 H locs S w80 => ?_)
              obtain ⟨ex80, eL, ef⟩ := w80
              rw [eL, ef] at S
              replace ex80 := ex80.symm
              subst ex80
              refine lv_lstore (lv' := [(6, .long z80), (5, .int (vMarks (Int32.toNatClampNeg sq))), (0, .ref y), (1, .int sq), (2, .long t), (4, .int j)]) hx hb dX9_mark_83 hl (by decide) rfl (fun ls hl => ?_)
              refine lv_aload_n hx hb dX9_mark_85 rfl (lv_at hl 2 rfl) ?_
              refine q_get hx hb hts in_X9 hown S m_y e_y (C := RX9) (T := TX9) (N := 23) rfl 2 (by decide) rfl (hts (.fieldLink RX9 17 "SieveCabinetModel" "kind" "[I") (gu_wsX9_mark_1 _ gm_0)) dX9_mark_86 ?_
              refine lv_iload_n hx hb dX9_mark_89 rfl (lv_at hl 3 rfl) ?_
              obtain ⟨hi90, hM⟩ := ckx hM
              refine q_iald hx hb S m_aKind e_aKind hi90 dX9_mark_90 ?_
              refine lv_iconst (v := (2 : Int32)) hx hb dX9_mark_91 (by decide) ?_
              refine lv_icmp_ne (tgt := 106) hx hb dX9_mark_92 (by decide) (fun b92 => ?_) (fun b92 => ?_)
              · have hM := itF b92 hM
                refine lv_aload_n hx hb dX9_mark_106 rfl (lv_at hl 2 rfl) ?_
                refine q_get hx hb hts in_X9 hown S m_y e_y (C := RX9) (T := TX9) (N := 23) rfl 2 (by decide) rfl (hts (.fieldLink RX9 17 "SieveCabinetModel" "kind" "[I") (gu_wsX9_mark_1 _ gm_0)) dX9_mark_107 ?_
                refine lv_iload_n hx hb dX9_mark_110 rfl (lv_at hl 3 rfl) ?_
                obtain ⟨hi111, hM⟩ := ckx hM
                refine q_iald hx hb S m_aKind e_aKind hi111 dX9_mark_111 ?_
                refine lv_iconst (v := (3 : Int32)) hx hb dX9_mark_112 (by decide) ?_
                refine lv_icmp_ne (tgt := 132) hx hb dX9_mark_113 (by decide) (fun b113 => ?_) (fun b113 => ?_)
                · have hM := itF b113 hM
                  refine lv_lload hx hb dX9_mark_132 (lv_at hl 0 rfl) ?_
                  refine lv_iload hx hb dX9_mark_134 (lv_at hl 5 rfl) ?_
                  refine lv_aload_n hx hb dX9_mark_136 rfl (lv_at hl 2 rfl) ?_
                  refine q_get hx hb hts in_X9 hown S m_y e_y (C := RX9) (T := TX9) (N := 23) rfl 3 (by decide) rfl (hts (.fieldLink RX9 20 "SieveCabinetModel" "size" "[I") (gu_wsX9_mark_1 _ gm_3)) dX9_mark_137 ?_
                  refine lv_iload_n hx hb dX9_mark_140 rfl (lv_at hl 3 rfl) ?_
                  obtain ⟨hi141, hM⟩ := ckx hM
                  refine q_iald hx hb S m_aSize e_aSize hi141 dX9_mark_141 ?_
                  obtain ⟨z142, hz142, hM⟩ := bind_some hM
                  refine q_si (As := [.long z80, .int j, .int (vSize (Int32.toNatClampNeg sq))]) (rest := []) ⟨hx, hb, hml, hown, hts⟩ (k_X9_markOf l D g hz142) (va_cwS 3 hts gX9_mark_X9_markOf rfl rfl rfl (by decide +kernel) ⟨Nat.le_of_ble_eq_true rfl, Nat.le_of_ble_eq_true rfl⟩) S rfl hl.1 rfl (Nat.le_of_ble_eq_true rfl) dX9_mark_142 ⟨Nat.le_of_ble_eq_true rfl, Nat.le_of_ble_eq_true rfl⟩ (fun r9 L7 f8 H locs S w142 => ?_)
                  obtain ⟨ex142, eL, ef⟩ := w142
                  rw [eL, ef] at S
                  replace ex142 := ex142.symm
                  subst ex142
                  subst hQQ
                  exact q_reti (post := fun x L1 f1 => x = z ∧ L1 = L ∧ f1 = f) hx hb hr hlk S dX9_mark_145 (by decide) (by decide) (by have hz := Option.some.inj hM; subst hz; exact ⟨rfl, rfl, rfl⟩)
                · have hM := itT b113 hM
                  refine lv_lload hx hb dX9_mark_116 (lv_at hl 0 rfl) ?_
                  refine lv_iload hx hb dX9_mark_118 (lv_at hl 5 rfl) ?_
                  refine lv_aload_n hx hb dX9_mark_120 rfl (lv_at hl 2 rfl) ?_
                  refine q_get hx hb hts in_X9 hown S m_y e_y (C := RX9) (T := TX9) (N := 23) rfl 3 (by decide) rfl (hts (.fieldLink RX9 20 "SieveCabinetModel" "size" "[I") (gu_wsX9_mark_1 _ gm_3)) dX9_mark_121 ?_
                  refine lv_iload_n hx hb dX9_mark_124 rfl (lv_at hl 3 rfl) ?_
                  obtain ⟨hi125, hM⟩ := ckx hM
                  refine q_iald hx hb S m_aSize e_aSize hi125 dX9_mark_125 ?_
                  obtain ⟨z126, hz126, hM⟩ := bind_some hM
                  refine q_si (As := [.long z80, .int j, .int (vSize (Int32.toNatClampNeg sq))]) (rest := []) ⟨hx, hb, hml, hown, hts⟩ (k_X9_solvedPlace l D g hz126) (va_cwS 3 hts gX9_mark_X9_solvedPlace rfl rfl rfl (by decide +kernel) ⟨Nat.le_of_ble_eq_true rfl, Nat.le_of_ble_eq_true rfl⟩) S rfl hl.1 rfl (Nat.le_of_ble_eq_true rfl) dX9_mark_126 ⟨Nat.le_of_ble_eq_true rfl, Nat.le_of_ble_eq_true rfl⟩ (fun r12 L10 f11 H locs S w126 => ?_)
                  obtain ⟨ex126, eL, ef⟩ := w126
                  rw [eL, ef] at S
                  replace ex126 := ex126.symm
                  subst ex126
                  refine lv_goto (tgt := 145) hx hb dX9_mark_129 (by decide) ?_
                  subst hQQ
                  exact q_reti (post := fun x L1 f1 => x = z ∧ L1 = L ∧ f1 = f) hx hb hr hlk S dX9_mark_145 (by decide) (by decide) (by have hz := Option.some.inj hM; subst hz; exact ⟨rfl, rfl, rfl⟩)
              · have hM := itT b92 hM
                refine lv_aload_n hx hb dX9_mark_95 rfl (lv_at hl 2 rfl) ?_
                refine lv_iload_n hx hb dX9_mark_96 rfl (lv_at hl 3 rfl) ?_
                refine lv_lload_n hx hb dX9_mark_97 rfl (lv_at hl 4 rfl) ?_
                refine lv_iload hx hb dX9_mark_98 (lv_at hl 5 rfl) ?_
                obtain ⟨z100, hz100, hM⟩ := bind_some hM
                refine q_vi (As := [.int sq, .long t, .int j]) (rest := []) ⟨hx, hb, hml, hown, hts⟩ (k_X9_nestOf l D g m_y e_y m_aSize e_aSize m_aSeed e_aSeed hz100) (cwV 3 hts gX9_mark_X9_nestOf rfl rfl rfl (by decide +kernel) ⟨Nat.le_of_ble_eq_true rfl, Nat.le_of_ble_eq_true rfl⟩) S m_y e_y (T := TX9) (N := 23) rfl rfl hl.1 rfl (Nat.le_of_ble_eq_true rfl) dX9_mark_100 ⟨Nat.le_of_ble_eq_true rfl, Nat.le_of_ble_eq_true rfl⟩ (fun r15 L13 f14 H locs S w100 => ?_)
                obtain ⟨ex100, eL, ef⟩ := w100
                rw [eL, ef] at S
                replace ex100 := ex100.symm
                subst ex100
                refine lv_goto (tgt := 145) hx hb dX9_mark_103 (by decide) ?_
                subst hQQ
                exact q_reti (post := fun x L1 f1 => x = z ∧ L1 = L ∧ f1 = f) hx hb hr hlk S dX9_mark_145 (by decide) (by decide) (by have hz := Option.some.inj hM; subst hz; exact ⟨rfl, rfl, rfl⟩)
            · have hM := itF b68 hM
              refine lv_iconst (v := (-1 : Int32)) hx hb dX9_mark_71 (by decide) ?_
              subst hQQ
              exact q_reti (post := fun x L1 f1 => x = z ∧ L1 = L ∧ f1 = f) hx hb hr hlk S dX9_mark_72 (by decide) (by decide) (by have hz := Option.some.inj hM; subst hz; exact ⟨rfl, rfl, rfl⟩)
        · have hM := itT b44 hM
          refine lv_iconst (v := (3 : Int32)) hx hb dX9_mark_47 (by decide) ?_
          refine lv_goto (tgt := 57) hx hb dX9_mark_48 (by decide) ?_
          refine lv_istore (lv' := [(5, .int (3 : Int32)), (0, .ref y), (1, .int sq), (2, .long t), (4, .int j)]) hx hb dX9_mark_57 hl (by decide) rfl (fun ls hl => ?_)
          refine lv_iload hx hb dX9_mark_59 (lv_at hl 4 rfl) ?_
          refine lv_if_lt (tgt := 71) hx hb dX9_mark_61 (by decide) (fun b61 => ?_) (fun b61 => ?_)
          · have hM := itT b61 hM
            refine lv_iconst (v := (-1 : Int32)) hx hb dX9_mark_71 (by decide) ?_
            subst hQQ
            exact q_reti (post := fun x L1 f1 => x = z ∧ L1 = L ∧ f1 = f) hx hb hr hlk S dX9_mark_72 (by decide) (by decide) (by have hz := Option.some.inj hM; subst hz; exact ⟨rfl, rfl, rfl⟩)
          · have hM := itF b61 hM
            refine lv_iload hx hb dX9_mark_64 (lv_at hl 4 rfl) ?_
            refine lv_iload hx hb dX9_mark_66 (lv_at hl 0 rfl) ?_
            refine lv_icmp_lt (tgt := 73) hx hb dX9_mark_68 (by decide) (fun b68 => ?_) (fun b68 => ?_)
            · have hM := itT b68 hM
              refine lv_lload_n hx hb dX9_mark_73 rfl (lv_at hl 3 rfl) ?_
              refine lv_aload_n hx hb dX9_mark_74 rfl (lv_at hl 1 rfl) ?_
              refine q_get hx hb hts in_X9 hown S m_y e_y (C := RX9) (T := TX9) (N := 23) rfl 5 (by decide) rfl (hts (.fieldLink RX9 26 "SieveCabinetModel" "seed" "[I") (gu_wsX9_mark_1 _ gm_2)) dX9_mark_75 ?_
              refine lv_iload_n hx hb dX9_mark_78 rfl (lv_at hl 2 rfl) ?_
              obtain ⟨hi79, hM⟩ := ckx hM
              refine q_iald hx hb S m_aSeed e_aSeed hi79 dX9_mark_79 ?_
              obtain ⟨z80, hz80, hM⟩ := bind_some hM
              refine q_sl (As := [.long t, .int (vSeed (Int32.toNatClampNeg sq))]) (rest := []) ⟨hx, hb, hml, hown, hts⟩ (k_X9_mix l D g hz80) (va_cwS 2 hts gX9_mark_X9_mix rfl rfl rfl (by decide +kernel) ⟨Nat.le_of_ble_eq_true rfl, Nat.le_of_ble_eq_true rfl⟩) S rfl hl.1 rfl (Nat.le_of_ble_eq_true rfl) dX9_mark_80 ⟨Nat.le_of_ble_eq_true rfl, Nat.le_of_ble_eq_true rfl⟩ (fun r18 L16 f17 H locs S w80 => ?_)
              obtain ⟨ex80, eL, ef⟩ := w80
              rw [eL, ef] at S
              replace ex80 := ex80.symm
              subst ex80
              refine lv_lstore (lv' := [(6, .long z80), (5, .int (3 : Int32)), (0, .ref y), (1, .int sq), (2, .long t), (4, .int j)]) hx hb dX9_mark_83 hl (by decide) rfl (fun ls hl => ?_)
              refine lv_aload_n hx hb dX9_mark_85 rfl (lv_at hl 2 rfl) ?_
              refine q_get hx hb hts in_X9 hown S m_y e_y (C := RX9) (T := TX9) (N := 23) rfl 2 (by decide) rfl (hts (.fieldLink RX9 17 "SieveCabinetModel" "kind" "[I") (gu_wsX9_mark_1 _ gm_0)) dX9_mark_86 ?_
              refine lv_iload_n hx hb dX9_mark_89 rfl (lv_at hl 3 rfl) ?_
              obtain ⟨hi90, hM⟩ := ckx hM
              refine q_iald hx hb S m_aKind e_aKind hi90 dX9_mark_90 ?_
              refine lv_iconst (v := (2 : Int32)) hx hb dX9_mark_91 (by decide) ?_
              refine lv_icmp_ne (tgt := 106) hx hb dX9_mark_92 (by decide) (fun b92 => ?_) (fun b92 => ?_)
              · have hM := itF b92 hM
                refine lv_aload_n hx hb dX9_mark_106 rfl (lv_at hl 2 rfl) ?_
                refine q_get hx hb hts in_X9 hown S m_y e_y (C := RX9) (T := TX9) (N := 23) rfl 2 (by decide) rfl (hts (.fieldLink RX9 17 "SieveCabinetModel" "kind" "[I") (gu_wsX9_mark_1 _ gm_0)) dX9_mark_107 ?_
                refine lv_iload_n hx hb dX9_mark_110 rfl (lv_at hl 3 rfl) ?_
                obtain ⟨hi111, hM⟩ := ckx hM
                refine q_iald hx hb S m_aKind e_aKind hi111 dX9_mark_111 ?_
                refine lv_iconst (v := (3 : Int32)) hx hb dX9_mark_112 (by decide) ?_
                refine lv_icmp_ne (tgt := 132) hx hb dX9_mark_113 (by decide) (fun b113 => ?_) (fun b113 => ?_)
                · have hM := itF b113 hM
                  refine lv_lload hx hb dX9_mark_132 (lv_at hl 0 rfl) ?_
                  refine lv_iload hx hb dX9_mark_134 (lv_at hl 5 rfl) ?_
                  refine lv_aload_n hx hb dX9_mark_136 rfl (lv_at hl 2 rfl) ?_
                  refine q_get hx hb hts in_X9 hown S m_y e_y (C := RX9) (T := TX9) (N := 23) rfl 3 (by decide) rfl (hts (.fieldLink RX9 20 "SieveCabinetModel" "size" "[I") (gu_wsX9_mark_1 _ gm_3)) dX9_mark_137 ?_
                  refine lv_iload_n hx hb dX9_mark_140 rfl (lv_at hl 3 rfl) ?_
                  obtain ⟨hi141, hM⟩ := ckx hM
                  refine q_iald hx hb S m_aSize e_aSize hi141 dX9_mark_141 ?_
                  obtain ⟨z142, hz142, hM⟩ := bind_some hM
                  refine q_si (As := [.long z80, .int j, .int (vSize (Int32.toNatClampNeg sq))]) (rest := []) ⟨hx, hb, hml, hown, hts⟩ (k_X9_markOf l D g hz142) (va_cwS 3 hts gX9_mark_X9_markOf rfl rfl rfl (by decide +kernel) ⟨Nat.le_of_ble_eq_true rfl, Nat.le_of_ble_eq_true rfl⟩) S rfl hl.1 rfl (Nat.le_of_ble_eq_true rfl) dX9_mark_142 ⟨Nat.le_of_ble_eq_true rfl, Nat.le_of_ble_eq_true rfl⟩ (fun r21 L19 f20 H locs S w142 => ?_)
                  obtain ⟨ex142, eL, ef⟩ := w142
                  rw [eL, ef] at S
                  replace ex142 := ex142.symm
                  subst ex142
                  subst hQQ
                  exact q_reti (post := fun x L1 f1 => x = z ∧ L1 = L ∧ f1 = f) hx hb hr hlk S dX9_mark_145 (by decide) (by decide) (by have hz := Option.some.inj hM; subst hz; exact ⟨rfl, rfl, rfl⟩)
                · have hM := itT b113 hM
                  refine lv_lload hx hb dX9_mark_116 (lv_at hl 0 rfl) ?_
                  refine lv_iload hx hb dX9_mark_118 (lv_at hl 5 rfl) ?_
                  refine lv_aload_n hx hb dX9_mark_120 rfl (lv_at hl 2 rfl) ?_
                  refine q_get hx hb hts in_X9 hown S m_y e_y (C := RX9) (T := TX9) (N := 23) rfl 3 (by decide) rfl (hts (.fieldLink RX9 20 "SieveCabinetModel" "size" "[I") (gu_wsX9_mark_1 _ gm_3)) dX9_mark_121 ?_
                  refine lv_iload_n hx hb dX9_mark_124 rfl (lv_at hl 3 rfl) ?_
                  obtain ⟨hi125, hM⟩ := ckx hM
                  refine q_iald hx hb S m_aSize e_aSize hi125 dX9_mark_125 ?_
                  obtain ⟨z126, hz126, hM⟩ := bind_some hM
                  refine q_si (As := [.long z80, .int j, .int (vSize (Int32.toNatClampNeg sq))]) (rest := []) ⟨hx, hb, hml, hown, hts⟩ (k_X9_solvedPlace l D g hz126) (va_cwS 3 hts gX9_mark_X9_solvedPlace rfl rfl rfl (by decide +kernel) ⟨Nat.le_of_ble_eq_true rfl, Nat.le_of_ble_eq_true rfl⟩) S rfl hl.1 rfl (Nat.le_of_ble_eq_true rfl) dX9_mark_126 ⟨Nat.le_of_ble_eq_true rfl, Nat.le_of_ble_eq_true rfl⟩ (fun r24 L22 f23 H locs S w126 => ?_)
                  obtain ⟨ex126, eL, ef⟩ := w126
                  rw [eL, ef] at S
                  replace ex126 := ex126.symm
                  subst ex126
                  refine lv_goto (tgt := 145) hx hb dX9_mark_129 (by decide) ?_
                  subst hQQ
                  exact q_reti (post := fun x L1 f1 => x = z ∧ L1 = L ∧ f1 = f) hx hb hr hlk S dX9_mark_145 (by decide) (by decide) (by have hz := Option.some.inj hM; subst hz; exact ⟨rfl, rfl, rfl⟩)
              · have hM := itT b92 hM
                refine lv_aload_n hx hb dX9_mark_95 rfl (lv_at hl 2 rfl) ?_
                refine lv_iload_n hx hb dX9_mark_96 rfl (lv_at hl 3 rfl) ?_
                refine lv_lload_n hx hb dX9_mark_97 rfl (lv_at hl 4 rfl) ?_
                refine lv_iload hx hb dX9_mark_98 (lv_at hl 5 rfl) ?_
                obtain ⟨z100, hz100, hM⟩ := bind_some hM
                refine q_vi (As := [.int sq, .long t, .int j]) (rest := []) ⟨hx, hb, hml, hown, hts⟩ (k_X9_nestOf l D g m_y e_y m_aSize e_aSize m_aSeed e_aSeed hz100) (cwV 3 hts gX9_mark_X9_nestOf rfl rfl rfl (by decide +kernel) ⟨Nat.le_of_ble_eq_true rfl, Nat.le_of_ble_eq_true rfl⟩) S m_y e_y (T := TX9) (N := 23) rfl rfl hl.1 rfl (Nat.le_of_ble_eq_true rfl) dX9_mark_100 ⟨Nat.le_of_ble_eq_true rfl, Nat.le_of_ble_eq_true rfl⟩ (fun r27 L25 f26 H locs S w100 => ?_)
                obtain ⟨ex100, eL, ef⟩ := w100
                rw [eL, ef] at S
                replace ex100 := ex100.symm
                subst ex100
                refine lv_goto (tgt := 145) hx hb dX9_mark_103 (by decide) ?_
                subst hQQ
                exact q_reti (post := fun x L1 f1 => x = z ∧ L1 = L ∧ f1 = f) hx hb hr hlk S dX9_mark_145 (by decide) (by decide) (by have hz := Option.some.inj hM; subst hz; exact ⟨rfl, rfl, rfl⟩)
            · have hM := itF b68 hM
              refine lv_iconst (v := (-1 : Int32)) hx hb dX9_mark_71 (by decide) ?_
              subst hQQ
              exact q_reti (post := fun x L1 f1 => x = z ∧ L1 = L ∧ f1 = f) hx hb hr hlk S dX9_mark_72 (by decide) (by decide) (by have hz := Option.some.inj hM; subst hz; exact ⟨rfl, rfl, rfl⟩)
      · have hM := itT b30 hM
        refine lv_iconst (v := (2 : Int32)) hx hb dX9_mark_33 (by decide) ?_
        refine lv_goto (tgt := 57) hx hb dX9_mark_34 (by decide) ?_
        refine lv_istore (lv' := [(5, .int (2 : Int32)), (0, .ref y), (1, .int sq), (2, .long t), (4, .int j)]) hx hb dX9_mark_57 hl (by decide) rfl (fun ls hl => ?_)
        refine lv_iload hx hb dX9_mark_59 (lv_at hl 4 rfl) ?_
        refine lv_if_lt (tgt := 71) hx hb dX9_mark_61 (by decide) (fun b61 => ?_) (fun b61 => ?_)
        · have hM := itT b61 hM
          refine lv_iconst (v := (-1 : Int32)) hx hb dX9_mark_71 (by decide) ?_
          subst hQQ
          exact q_reti (post := fun x L1 f1 => x = z ∧ L1 = L ∧ f1 = f) hx hb hr hlk S dX9_mark_72 (by decide) (by decide) (by have hz := Option.some.inj hM; subst hz; exact ⟨rfl, rfl, rfl⟩)
        · have hM := itF b61 hM
          refine lv_iload hx hb dX9_mark_64 (lv_at hl 4 rfl) ?_
          refine lv_iload hx hb dX9_mark_66 (lv_at hl 0 rfl) ?_
          refine lv_icmp_lt (tgt := 73) hx hb dX9_mark_68 (by decide) (fun b68 => ?_) (fun b68 => ?_)
          · have hM := itT b68 hM
            refine lv_lload_n hx hb dX9_mark_73 rfl (lv_at hl 3 rfl) ?_
            refine lv_aload_n hx hb dX9_mark_74 rfl (lv_at hl 1 rfl) ?_
            refine q_get hx hb hts in_X9 hown S m_y e_y (C := RX9) (T := TX9) (N := 23) rfl 5 (by decide) rfl (hts (.fieldLink RX9 26 "SieveCabinetModel" "seed" "[I") (gu_wsX9_mark_1 _ gm_2)) dX9_mark_75 ?_
            refine lv_iload_n hx hb dX9_mark_78 rfl (lv_at hl 2 rfl) ?_
            obtain ⟨hi79, hM⟩ := ckx hM
            refine q_iald hx hb S m_aSeed e_aSeed hi79 dX9_mark_79 ?_
            obtain ⟨z80, hz80, hM⟩ := bind_some hM
            refine q_sl (As := [.long t, .int (vSeed (Int32.toNatClampNeg sq))]) (rest := []) ⟨hx, hb, hml, hown, hts⟩ (k_X9_mix l D g hz80) (va_cwS 2 hts gX9_mark_X9_mix rfl rfl rfl (by decide +kernel) ⟨Nat.le_of_ble_eq_true rfl, Nat.le_of_ble_eq_true rfl⟩) S rfl hl.1 rfl (Nat.le_of_ble_eq_true rfl) dX9_mark_80 ⟨Nat.le_of_ble_eq_true rfl, Nat.le_of_ble_eq_true rfl⟩ (fun r30 L28 f29 H locs S w80 => ?_)
            obtain ⟨ex80, eL, ef⟩ := w80
            rw [eL, ef] at S
            replace ex80 := ex80.symm
            subst ex80
            refine lv_lstore (lv' := [(6, .long z80), (5, .int (2 : Int32)), (0, .ref y), (1, .int sq), (2, .long t), (4, .int j)]) hx hb dX9_mark_83 hl (by decide) rfl (fun ls hl => ?_)
            refine lv_aload_n hx hb dX9_mark_85 rfl (lv_at hl 2 rfl) ?_
            refine q_get hx hb hts in_X9 hown S m_y e_y (C := RX9) (T := TX9) (N := 23) rfl 2 (by decide) rfl (hts (.fieldLink RX9 17 "SieveCabinetModel" "kind" "[I") (gu_wsX9_mark_1 _ gm_0)) dX9_mark_86 ?_
            refine lv_iload_n hx hb dX9_mark_89 rfl (lv_at hl 3 rfl) ?_
            obtain ⟨hi90, hM⟩ := ckx hM
            refine q_iald hx hb S m_aKind e_aKind hi90 dX9_mark_90 ?_
            refine lv_iconst (v := (2 : Int32)) hx hb dX9_mark_91 (by decide) ?_
            refine lv_icmp_ne (tgt := 106) hx hb dX9_mark_92 (by decide) (fun b92 => ?_) (fun b92 => ?_)
            · have hM := itF b92 hM
              refine lv_aload_n hx hb dX9_mark_106 rfl (lv_at hl 2 rfl) ?_
              refine q_get hx hb hts in_X9 hown S m_y e_y (C := RX9) (T := TX9) (N := 23) rfl 2 (by decide) rfl (hts (.fieldLink RX9 17 "SieveCabinetModel" "kind" "[I") (gu_wsX9_mark_1 _ gm_0)) dX9_mark_107 ?_
              refine lv_iload_n hx hb dX9_mark_110 rfl (lv_at hl 3 rfl) ?_
              obtain ⟨hi111, hM⟩ := ckx hM
              refine q_iald hx hb S m_aKind e_aKind hi111 dX9_mark_111 ?_
              refine lv_iconst (v := (3 : Int32)) hx hb dX9_mark_112 (by decide) ?_
              refine lv_icmp_ne (tgt := 132) hx hb dX9_mark_113 (by decide) (fun b113 => ?_) (fun b113 => ?_)
              · have hM := itF b113 hM
                refine lv_lload hx hb dX9_mark_132 (lv_at hl 0 rfl) ?_
                refine lv_iload hx hb dX9_mark_134 (lv_at hl 5 rfl) ?_
                refine lv_aload_n hx hb dX9_mark_136 rfl (lv_at hl 2 rfl) ?_
                refine q_get hx hb hts in_X9 hown S m_y e_y (C := RX9) (T := TX9) (N := 23) rfl 3 (by decide) rfl (hts (.fieldLink RX9 20 "SieveCabinetModel" "size" "[I") (gu_wsX9_mark_1 _ gm_3)) dX9_mark_137 ?_
                refine lv_iload_n hx hb dX9_mark_140 rfl (lv_at hl 3 rfl) ?_
                obtain ⟨hi141, hM⟩ := ckx hM
                refine q_iald hx hb S m_aSize e_aSize hi141 dX9_mark_141 ?_
                obtain ⟨z142, hz142, hM⟩ := bind_some hM
                refine q_si (As := [.long z80, .int j, .int (vSize (Int32.toNatClampNeg sq))]) (rest := []) ⟨hx, hb, hml, hown, hts⟩ (k_X9_markOf l D g hz142) (va_cwS 3 hts gX9_mark_X9_markOf rfl rfl rfl (by decide +kernel) ⟨Nat.le_of_ble_eq_true rfl, Nat.le_of_ble_eq_true rfl⟩) S rfl hl.1 rfl (Nat.le_of_ble_eq_true rfl) dX9_mark_142 ⟨Nat.le_of_ble_eq_true rfl, Nat.le_of_ble_eq_true rfl⟩ (fun r33 L31 f32 H locs S w142 => ?_)
                obtain ⟨ex142, eL, ef⟩ := w142
                rw [eL, ef] at S
                replace ex142 := ex142.symm
                subst ex142
                subst hQQ
                exact q_reti (post := fun x L1 f1 => x = z ∧ L1 = L ∧ f1 = f) hx hb hr hlk S dX9_mark_145 (by decide) (by decide) (by have hz := Option.some.inj hM; subst hz; exact ⟨rfl, rfl, rfl⟩)
              · have hM := itT b113 hM
                refine lv_lload hx hb dX9_mark_116 (lv_at hl 0 rfl) ?_
                refine lv_iload hx hb dX9_mark_118 (lv_at hl 5 rfl) ?_
                refine lv_aload_n hx hb dX9_mark_120 rfl (lv_at hl 2 rfl) ?_
                refine q_get hx hb hts in_X9 hown S m_y e_y (C := RX9) (T := TX9) (N := 23) rfl 3 (by decide) rfl (hts (.fieldLink RX9 20 "SieveCabinetModel" "size" "[I") (gu_wsX9_mark_1 _ gm_3)) dX9_mark_121 ?_
                refine lv_iload_n hx hb dX9_mark_124 rfl (lv_at hl 3 rfl) ?_
                obtain ⟨hi125, hM⟩ := ckx hM
                refine q_iald hx hb S m_aSize e_aSize hi125 dX9_mark_125 ?_
                obtain ⟨z126, hz126, hM⟩ := bind_some hM
                refine q_si (As := [.long z80, .int j, .int (vSize (Int32.toNatClampNeg sq))]) (rest := []) ⟨hx, hb, hml, hown, hts⟩ (k_X9_solvedPlace l D g hz126) (va_cwS 3 hts gX9_mark_X9_solvedPlace rfl rfl rfl (by decide +kernel) ⟨Nat.le_of_ble_eq_true rfl, Nat.le_of_ble_eq_true rfl⟩) S rfl hl.1 rfl (Nat.le_of_ble_eq_true rfl) dX9_mark_126 ⟨Nat.le_of_ble_eq_true rfl, Nat.le_of_ble_eq_true rfl⟩ (fun r36 L34 f35 H locs S w126 => ?_)
                obtain ⟨ex126, eL, ef⟩ := w126
                rw [eL, ef] at S
                replace ex126 := ex126.symm
                subst ex126
                refine lv_goto (tgt := 145) hx hb dX9_mark_129 (by decide) ?_
                subst hQQ
                exact q_reti (post := fun x L1 f1 => x = z ∧ L1 = L ∧ f1 = f) hx hb hr hlk S dX9_mark_145 (by decide) (by decide) (by have hz := Option.some.inj hM; subst hz; exact ⟨rfl, rfl, rfl⟩)
            · have hM := itT b92 hM
              refine lv_aload_n hx hb dX9_mark_95 rfl (lv_at hl 2 rfl) ?_
              refine lv_iload_n hx hb dX9_mark_96 rfl (lv_at hl 3 rfl) ?_
              refine lv_lload_n hx hb dX9_mark_97 rfl (lv_at hl 4 rfl) ?_
              refine lv_iload hx hb dX9_mark_98 (lv_at hl 5 rfl) ?_
              obtain ⟨z100, hz100, hM⟩ := bind_some hM
              refine q_vi (As := [.int sq, .long t, .int j]) (rest := []) ⟨hx, hb, hml, hown, hts⟩ (k_X9_nestOf l D g m_y e_y m_aSize e_aSize m_aSeed e_aSeed hz100) (cwV 3 hts gX9_mark_X9_nestOf rfl rfl rfl (by decide +kernel) ⟨Nat.le_of_ble_eq_true rfl, Nat.le_of_ble_eq_true rfl⟩) S m_y e_y (T := TX9) (N := 23) rfl rfl hl.1 rfl (Nat.le_of_ble_eq_true rfl) dX9_mark_100 ⟨Nat.le_of_ble_eq_true rfl, Nat.le_of_ble_eq_true rfl⟩ (fun r39 L37 f38 H locs S w100 => ?_)
              obtain ⟨ex100, eL, ef⟩ := w100
              rw [eL, ef] at S
              replace ex100 := ex100.symm
              subst ex100
              refine lv_goto (tgt := 145) hx hb dX9_mark_103 (by decide) ?_
              subst hQQ
              exact q_reti (post := fun x L1 f1 => x = z ∧ L1 = L ∧ f1 = f) hx hb hr hlk S dX9_mark_145 (by decide) (by decide) (by have hz := Option.some.inj hM; subst hz; exact ⟨rfl, rfl, rfl⟩)
          · have hM := itF b68 hM
            refine lv_iconst (v := (-1 : Int32)) hx hb dX9_mark_71 (by decide) ?_
            subst hQQ
            exact q_reti (post := fun x L1 f1 => x = z ∧ L1 = L ∧ f1 = f) hx hb hr hlk S dX9_mark_72 (by decide) (by decide) (by have hz := Option.some.inj hM; subst hz; exact ⟨rfl, rfl, rfl⟩)
    · have hM := itT b17 hM
      refine lv_bipush (v := (-2 : Int32)) hx hb dX9_mark_20 (by decide) ?_
      subst hQQ
      exact q_reti (post := fun x L1 f1 => x = z ∧ L1 = L ∧ f1 = f) hx hb hr hlk S dX9_mark_22 (by decide) (by decide) (by have hz := Option.some.inj hM; subst hz; exact ⟨rfl, rfl, rfl⟩)
  · have hM := itT b5 hM
    refine lv_iconst (v := (-1 : Int32)) hx hb dX9_mark_8 (by decide) ?_
    subst hQQ
    exact q_reti (post := fun x L1 f1 => x = z ∧ L1 = L ∧ f1 = f) hx hb hr hlk S dX9_mark_9 (by decide) (by decide) (by have hz := Option.some.inj hM; subst hz; exact ⟨rfl, rfl, rfl⟩)

def mX9_falselyLet_L140 (wd : Int32) (kq : Int32) (o26 : Int32 × (Nat → Int32)) (z129 : Int64) : Nat → Int32 → Int32 → Option (Int32 × Int32)
  | 0, _, _ => none
  | fu + 1, x13_140, x12_140 => if kq ≤ x13_140 then (some (x13_140, x12_140)) else (if x12_140 = 0 then (mX9_falselyLet_L140 wd kq o26 z129 fu (x13_140 + 1) (0 : Int32)) else ((mX9_markOf z129 x13_140 wd).bind fun z161 => if ix z161 4096 = true then (if (o26.2 (Int32.toNatClampNeg z161)) = (1 : Int32) then (mX9_falselyLet_L140 wd kq o26 z129 fu (x13_140 + 1) (1 : Int32)) else (mX9_falselyLet_L140 wd kq o26 z129 fu (x13_140 + 1) (0 : Int32))) else none))
def mX9_falselyLet_L99 (vWorlds : Nat → Int64) (vInWorld : Nat → Int32) (wi : Int32) (wa : Int32) (wd : Int32) (kq : Int32) (by_ : Int32) (o26 : Int32 × (Nat → Int32)) : Nat → Int32 → Int32 → Option (Int32 × Int32)
  | 0, _, _ => none
  | fu + 1, x7_99, x6_99 => if ix wa 8 = true then (if (vInWorld (Int32.toNatClampNeg wa)) ≤ x7_99 then (some (x7_99, x6_99)) else (if ix ((wa * (1000 : Int32)) + x7_99) 8000 = true then (lt_ (vWorlds (Int32.toNatClampNeg ((wa * (1000 : Int32)) + x7_99))) fun y123 => (mX9_mix y123 by_).bind fun z129 => (mX9_falselyLet_L140 wd kq o26 z129 FU (0 : Int32) (1 : Int32)).bind fun o140 => if o140.2 = 0 then (mX9_falselyLet_L99 vWorlds vInWorld wi wa wd kq by_ o26 fu (x7_99 + 1) (x6_99 + (0 : Int32))) else ((mX9_placeOf vWorlds vInWorld wi y123).bind fun z193 => if 0 ≤ z193 then (mX9_falselyLet_L99 vWorlds vInWorld wi wa wd kq by_ o26 fu (x7_99 + 1) (x6_99 + (0 : Int32))) else (mX9_falselyLet_L99 vWorlds vInWorld wi wa wd kq by_ o26 fu (x7_99 + 1) (x6_99 + (1 : Int32))))) else none)) else none
def mX9_falselyLet_L60 (wd : Int32) (kq : Int32) (z52 : Int64) : Nat → Int32 → (Nat → Int32) → Option (Int32 × (Nat → Int32))
  | 0, _, _ => none
  | fu + 1, x9_60, caAlone_60 => if kq ≤ x9_60 then (some (x9_60, caAlone_60)) else ((mX9_markOf z52 x9_60 wd).bind fun z76 => if ix z76 4096 = true then (mX9_falselyLet_L60 wd kq z52 fu (x9_60 + 1) (upd caAlone_60 (Int32.toNatClampNeg z76) (1 : Int32))) else none)
def mX9_falselyLet_L26 (vWorlds : Nat → Int64) (vInWorld : Nat → Int32) (wi : Int32) (wd : Int32) (kq : Int32) (by_ : Int32) : Nat → Int32 → (Nat → Int32) → Option (Int32 × (Nat → Int32))
  | 0, _, _ => none
  | fu + 1, x6_26, caAlone_26 => if ix wi 8 = true then (if (vInWorld (Int32.toNatClampNeg wi)) ≤ x6_26 then (some (x6_26, caAlone_26)) else (if ix ((wi * (1000 : Int32)) + x6_26) 8000 = true then ((mX9_mix (vWorlds (Int32.toNatClampNeg ((wi * (1000 : Int32)) + x6_26))) by_).bind fun z52 => (mX9_falselyLet_L60 wd kq z52 FU (0 : Int32) caAlone_26).bind fun o60 => mX9_falselyLet_L26 vWorlds vInWorld wi wd kq by_ fu (x6_26 + 1) o60.2) else none)) else none
def mX9_falselyLet_L3 (wd : Int32) : Nat → Int32 → (Nat → Int32) → Option (Int32 × (Nat → Int32))
  | 0, _, _ => none
  | fu + 1, x6_3, caAlone_3 => if wd ≤ x6_3 then (some (x6_3, caAlone_3)) else (if ix x6_3 4096 = true then (mX9_falselyLet_L3 wd fu (x6_3 + 1) (upd caAlone_3 (Int32.toNatClampNeg x6_3) (0 : Int32))) else none)
def mX9_falselyLet (vWorlds : Nat → Int64) (vInWorld : Nat → Int32) (vAlone : Nat → Int32) (wi : Int32) (wa : Int32) (wd : Int32) (kq : Int32) (by_ : Int32) : Option (Int32 × (Nat → Int32)) := (mX9_falselyLet_L3 wd FU (0 : Int32) vAlone).bind fun o3 => (mX9_falselyLet_L26 vWorlds vInWorld wi wd kq by_ FU (0 : Int32) o3.2).bind fun o26 => (mX9_falselyLet_L99 vWorlds vInWorld wi wa wd kq by_ o26 FU (0 : Int32) (0 : Int32)).bind fun o99 => some (o99.2, o26.2)
set_option maxHeartbeats 4000000 in
set_option maxRecDepth 100000 in
theorem k_X9_falselyLet (l : Launch) (D : va_G) (g : Nat → ClassId) {L : List Nat} {f : Nat → va_E} {aAlone aBits aCome aContentMany aContents aGone aInWorld aIsOff aKept aKind aLayerCame aLayerSize aMarks aOffAt aOrder aRest aRestMany aRivals aRow aSeed aSize aWorlds y : Nat} {many : Int32} {vWorlds : Nat → Int64} {vInWorld : Nat → Int32} {vKind : Nat → Int32} {vSize : Nat → Int32} {vMarks : Nat → Int32} {vSeed : Nat → Int32} {vContents : Nat → Int64} {vContentMany : Nat → Int32} {vRow : Nat → Int32} {vBits : Nat → Int32} {vLayerSize : Nat → Int32} {vLayerCame : Nat → Int32} {vRest : Nat → Int64} {vRestMany : Nat → Int32} {vCome : Nat → Int64} {vRivals : Nat → Int64} {vGone : Nat → Int64} {vOrder : Nat → Int32} {vOffAt : Nat → Int32} {vIsOff : Nat → Int32} {vAlone : Nat → Int32} {vKept : Nat → Int32} {wi : Int32} {wa : Int32} {wd : Int32} {kq : Int32} {by_ : Int32} {ρ : Nat → Nat × Nat} {z : Int32 × (Nat → Int32)} (m_y : y ∈ L) (e_y : f y = .inr (7, [.ref aWorlds, .ref aInWorld, .ref aKind, .ref aSize, .ref aMarks, .ref aSeed, .ref aContents, .ref aContentMany, .ref aRow, .ref aBits, .ref aLayerSize, .ref aLayerCame, .ref aRest, .ref aRestMany, .int many, .ref aCome, .ref aRivals, .ref aGone, .ref aOrder, .ref aOffAt, .ref aIsOff, .ref aAlone, .ref aKept])) (m_aWorlds : aWorlds ∈ L) (e_aWorlds : f aWorlds = .inl (g 1, 8000, .inr (.inl vWorlds))) (m_aInWorld : aInWorld ∈ L) (e_aInWorld : f aInWorld = .inl (g 0, 8, .inl vInWorld)) (m_aKind : aKind ∈ L) (e_aKind : f aKind = .inl (g 0, 30, .inl vKind)) (m_aSize : aSize ∈ L) (e_aSize : f aSize = .inl (g 0, 30, .inl vSize)) (m_aMarks : aMarks ∈ L) (e_aMarks : f aMarks = .inl (g 0, 30, .inl vMarks)) (m_aSeed : aSeed ∈ L) (e_aSeed : f aSeed = .inl (g 0, 30, .inl vSeed)) (m_aContents : aContents ∈ L) (e_aContents : f aContents = .inl (g 1, 30000, .inr (.inl vContents))) (m_aContentMany : aContentMany ∈ L) (e_aContentMany : f aContentMany = .inl (g 0, 30, .inl vContentMany)) (m_aRow : aRow ∈ L) (e_aRow : f aRow = .inl (g 0, 122880, .inl vRow)) (m_aBits : aBits ∈ L) (e_aBits : f aBits = .inl (g 0, 76800, .inl vBits)) (m_aLayerSize : aLayerSize ∈ L) (e_aLayerSize : f aLayerSize = .inl (g 0, 600, .inl vLayerSize)) (m_aLayerCame : aLayerCame ∈ L) (e_aLayerCame : f aLayerCame = .inl (g 0, 600, .inl vLayerCame)) (m_aRest : aRest ∈ L) (e_aRest : f aRest = .inl (g 1, 30000, .inr (.inl vRest))) (m_aRestMany : aRestMany ∈ L) (e_aRestMany : f aRestMany = .inl (g 0, 30, .inl vRestMany)) (m_aCome : aCome ∈ L) (e_aCome : f aCome = .inl (g 1, 1000, .inr (.inl vCome))) (m_aRivals : aRivals ∈ L) (e_aRivals : f aRivals = .inl (g 1, 1000, .inr (.inl vRivals))) (m_aGone : aGone ∈ L) (e_aGone : f aGone = .inl (g 1, 1000, .inr (.inl vGone))) (m_aOrder : aOrder ∈ L) (e_aOrder : f aOrder = .inl (g 0, 1000, .inl vOrder)) (m_aOffAt : aOffAt ∈ L) (e_aOffAt : f aOffAt = .inl (g 0, 1000, .inl vOffAt)) (m_aIsOff : aIsOff ∈ L) (e_aIsOff : f aIsOff = .inl (g 2, 1000, .inl vIsOff)) (m_aAlone : aAlone ∈ L) (e_aAlone : f aAlone = .inl (g 0, 4096, .inl vAlone)) (m_aKept : aKept ∈ L) (e_aKept : f aKept = .inl (g 0, 4096, .inl vKept))  (r_aAlone : ρ aAlone = (500, 22)) (r_aKept : ρ aKept = (500, 23))  (hM : mX9_falselyLet vWorlds vInWorld vAlone wi wa wd kq by_ = some z) : cI l yX9_falselyLet wsX9_falselyLet { frames := 1, cells := 0, slots := 0, locals := 27 } D g [.ref y, .int wi, .int wa, .int wd, .int kq, .int by_] L f 0 0 (fun x L1 f1 => x = z.1 ∧ L1 = L ∧ (∀ b, b ∈ L → b ≠ aAlone → f1 b = f b) ∧ f1 aAlone = .inl (g 0, 4096, .inl z.2)) := by
  refine cI_of (cc := cX9_falselyLet) (maxL := 14) (ret := (some .int)) (by decide) rfl (Nat.le_of_ble_eq_true rfl) ?_
  intro szz p e s m below meth c hx hb hr hml hts hown hlk hnm S ls hl
  have hl : lv_has ls 14 [(0, .ref y), (1, .int wi), (2, .int wa), (3, .int wd), (4, .int kq), (5, .int by_)] := hl
  have in_X9 : ∀ w ∈ wsX90, w ∈ wsX9_falselyLet := gu_wsX9_falselyLet_2
  have n_y_aAlone : y ≠ aAlone := ne_ir e_aAlone e_y
  have n_aWorlds_aAlone : aWorlds ≠ aAlone := ne_len e_aAlone e_aWorlds (by decide)
  have n_aInWorld_aAlone : aInWorld ≠ aAlone := ne_len e_aAlone e_aInWorld (by decide)
  have n_aKind_aAlone : aKind ≠ aAlone := ne_len e_aAlone e_aKind (by decide)
  have n_aSize_aAlone : aSize ≠ aAlone := ne_len e_aAlone e_aSize (by decide)
  have n_aMarks_aAlone : aMarks ≠ aAlone := ne_len e_aAlone e_aMarks (by decide)
  have n_aSeed_aAlone : aSeed ≠ aAlone := ne_len e_aAlone e_aSeed (by decide)
  have n_aContents_aAlone : aContents ≠ aAlone := ne_len e_aAlone e_aContents (by decide)
  have n_aContentMany_aAlone : aContentMany ≠ aAlone := ne_len e_aAlone e_aContentMany (by decide)
  have n_aRow_aAlone : aRow ≠ aAlone := ne_len e_aAlone e_aRow (by decide)
  have n_aBits_aAlone : aBits ≠ aAlone := ne_len e_aAlone e_aBits (by decide)
  have n_aLayerSize_aAlone : aLayerSize ≠ aAlone := ne_len e_aAlone e_aLayerSize (by decide)
  have n_aLayerCame_aAlone : aLayerCame ≠ aAlone := ne_len e_aAlone e_aLayerCame (by decide)
  have n_aRest_aAlone : aRest ≠ aAlone := ne_len e_aAlone e_aRest (by decide)
  have n_aRestMany_aAlone : aRestMany ≠ aAlone := ne_len e_aAlone e_aRestMany (by decide)
  have n_aCome_aAlone : aCome ≠ aAlone := ne_len e_aAlone e_aCome (by decide)
  have n_aRivals_aAlone : aRivals ≠ aAlone := ne_len e_aAlone e_aRivals (by decide)
  have n_aGone_aAlone : aGone ≠ aAlone := ne_len e_aAlone e_aGone (by decide)
  have n_aOrder_aAlone : aOrder ≠ aAlone := ne_len e_aAlone e_aOrder (by decide)
  have n_aOffAt_aAlone : aOffAt ≠ aAlone := ne_len e_aAlone e_aOffAt (by decide)
  have n_aIsOff_aAlone : aIsOff ≠ aAlone := ne_len e_aAlone e_aIsOff (by decide)
  have n_aKept_aAlone : aKept ≠ aAlone := role_ne r_aAlone r_aKept (by decide)
  have fr : ∀ b, b ∈ L → b ≠ aAlone → f b = f b := fun _ _ _ => rfl
  unfold mX9_falselyLet at hM
  refine W_gen (fun QQ hQQ => ?_)
  refine lv_iconst (v := (0 : Int32)) hx hb dX9_falselyLet_0 (by decide) ?_
  refine lv_istore (lv' := [(6, .int (0 : Int32)), (0, .ref y), (1, .int wi), (2, .int wa), (3, .int wd), (4, .int kq), (5, .int by_)]) hx hb dX9_falselyLet_1 hl (by decide) rfl (fun ls hl => ?_)
  obtain ⟨o3, ho3, hM⟩ := bind_some hM
  have EX3 : ∀ (fl3 : Nat → va_E) (H : Heap) (locs : List Loc) (ls : Array Slot), PS D g (va_A (va_pl L f) szz) s.heap s L fl3 H locs → fl3 y = .inr (7, [.ref aWorlds, .ref aInWorld, .ref aKind, .ref aSize, .ref aMarks, .ref aSeed, .ref aContents, .ref aContentMany, .ref aRow, .ref aBits, .ref aLayerSize, .ref aLayerCame, .ref aRest, .ref aRestMany, .int many, .ref aCome, .ref aRivals, .ref aGone, .ref aOrder, .ref aOffAt, .ref aIsOff, .ref aAlone, .ref aKept]) → fl3 aWorlds = .inl (g 1, 8000, .inr (.inl vWorlds)) → fl3 aInWorld = .inl (g 0, 8, .inl vInWorld) → fl3 aKind = .inl (g 0, 30, .inl vKind) → fl3 aSize = .inl (g 0, 30, .inl vSize) → fl3 aMarks = .inl (g 0, 30, .inl vMarks) → fl3 aSeed = .inl (g 0, 30, .inl vSeed) → fl3 aContents = .inl (g 1, 30000, .inr (.inl vContents)) → fl3 aContentMany = .inl (g 0, 30, .inl vContentMany) → fl3 aRow = .inl (g 0, 122880, .inl vRow) → fl3 aBits = .inl (g 0, 76800, .inl vBits) → fl3 aLayerSize = .inl (g 0, 600, .inl vLayerSize) → fl3 aLayerCame = .inl (g 0, 600, .inl vLayerCame) → fl3 aRest = .inl (g 1, 30000, .inr (.inl vRest)) → fl3 aRestMany = .inl (g 0, 30, .inl vRestMany) → fl3 aCome = .inl (g 1, 1000, .inr (.inl vCome)) → fl3 aRivals = .inl (g 1, 1000, .inr (.inl vRivals)) → fl3 aGone = .inl (g 1, 1000, .inr (.inl vGone)) → fl3 aOrder = .inl (g 0, 1000, .inl vOrder) → fl3 aOffAt = .inl (g 0, 1000, .inl vOffAt) → fl3 aIsOff = .inl (g 2, 1000, .inl vIsOff) → fl3 aAlone = .inl (g 0, 4096, .inl o3.2) → fl3 aKept = .inl (g 0, 4096, .inl vKept) → (∀ b, b ∈ L → b ≠ aAlone → fl3 b = f b) → lv_has ls 14 [(0, .ref y), (1, .int wi), (2, .int wa), (3, .int wd), (4, .int kq), (5, .int by_)] → W p l e { frames := 1, cells := 0, slots := 0, locals := 27 } s m [.ref y, .int wi, .int wa, .int wd, .int kq, .int by_].toArray below meth c H locs 0 0 QQ (F0 m 23 ls []) := by
    intro fl3 H locs ls S e_y e_aWorlds e_aInWorld e_aKind e_aSize e_aMarks e_aSeed e_aContents e_aContentMany e_aRow e_aBits e_aLayerSize e_aLayerCame e_aRest e_aRestMany e_aCome e_aRivals e_aGone e_aOrder e_aOffAt e_aIsOff e_aAlone e_aKept fr hl
    refine lv_iconst (v := (0 : Int32)) hx hb dX9_falselyLet_23 (by decide) ?_
    refine lv_istore (lv' := [(6, .int (0 : Int32)), (0, .ref y), (1, .int wi), (2, .int wa), (3, .int wd), (4, .int kq), (5, .int by_)]) hx hb dX9_falselyLet_24 hl (by decide) rfl (fun ls hl => ?_)
    obtain ⟨o26, ho26, hM⟩ := bind_some hM
    have EX26 : ∀ (fl26 : Nat → va_E) (H : Heap) (locs : List Loc) (ls : Array Slot), PS D g (va_A (va_pl L f) szz) s.heap s L fl26 H locs → fl26 y = .inr (7, [.ref aWorlds, .ref aInWorld, .ref aKind, .ref aSize, .ref aMarks, .ref aSeed, .ref aContents, .ref aContentMany, .ref aRow, .ref aBits, .ref aLayerSize, .ref aLayerCame, .ref aRest, .ref aRestMany, .int many, .ref aCome, .ref aRivals, .ref aGone, .ref aOrder, .ref aOffAt, .ref aIsOff, .ref aAlone, .ref aKept]) → fl26 aWorlds = .inl (g 1, 8000, .inr (.inl vWorlds)) → fl26 aInWorld = .inl (g 0, 8, .inl vInWorld) → fl26 aKind = .inl (g 0, 30, .inl vKind) → fl26 aSize = .inl (g 0, 30, .inl vSize) → fl26 aMarks = .inl (g 0, 30, .inl vMarks) → fl26 aSeed = .inl (g 0, 30, .inl vSeed) → fl26 aContents = .inl (g 1, 30000, .inr (.inl vContents)) → fl26 aContentMany = .inl (g 0, 30, .inl vContentMany) → fl26 aRow = .inl (g 0, 122880, .inl vRow) → fl26 aBits = .inl (g 0, 76800, .inl vBits) → fl26 aLayerSize = .inl (g 0, 600, .inl vLayerSize) → fl26 aLayerCame = .inl (g 0, 600, .inl vLayerCame) → fl26 aRest = .inl (g 1, 30000, .inr (.inl vRest)) → fl26 aRestMany = .inl (g 0, 30, .inl vRestMany) → fl26 aCome = .inl (g 1, 1000, .inr (.inl vCome)) → fl26 aRivals = .inl (g 1, 1000, .inr (.inl vRivals)) → fl26 aGone = .inl (g 1, 1000, .inr (.inl vGone)) → fl26 aOrder = .inl (g 0, 1000, .inl vOrder) → fl26 aOffAt = .inl (g 0, 1000, .inl vOffAt) → fl26 aIsOff = .inl (g 2, 1000, .inl vIsOff) → fl26 aAlone = .inl (g 0, 4096, .inl o26.2) → fl26 aKept = .inl (g 0, 4096, .inl vKept) → (∀ b, b ∈ L → b ≠ aAlone → fl26 b = f b) → lv_has ls 14 [(0, .ref y), (1, .int wi), (2, .int wa), (3, .int wd), (4, .int kq), (5, .int by_)] → W p l e { frames := 1, cells := 0, slots := 0, locals := 27 } s m [.ref y, .int wi, .int wa, .int wd, .int kq, .int by_].toArray below meth c H locs 0 0 QQ (F0 m 93 ls []) := by
      intro fl26 H locs ls S e_y e_aWorlds e_aInWorld e_aKind e_aSize e_aMarks e_aSeed e_aContents e_aContentMany e_aRow e_aBits e_aLayerSize e_aLayerCame e_aRest e_aRestMany e_aCome e_aRivals e_aGone e_aOrder e_aOffAt e_aIsOff e_aAlone e_aKept fr hl
      refine lv_iconst (v := (0 : Int32)) hx hb dX9_falselyLet_93 (by decide) ?_
      refine lv_istore (lv' := [(6, .int (0 : Int32)), (0, .ref y), (1, .int wi), (2, .int wa), (3, .int wd), (4, .int kq), (5, .int by_)]) hx hb dX9_falselyLet_94 hl (by decide) rfl (fun ls hl => ?_)
      refine lv_iconst (v := (0 : Int32)) hx hb dX9_falselyLet_96 (by decide) ?_
      refine lv_istore (lv' := [(7, .int (0 : Int32)), (6, .int (0 : Int32)), (0, .ref y), (1, .int wi), (2, .int wa), (3, .int wd), (4, .int kq), (5, .int by_)]) hx hb dX9_falselyLet_97 hl (by decide) rfl (fun ls hl => ?_)
      obtain ⟨o99, ho99, hM⟩ := bind_some hM
      have EX99 : ∀ (H : Heap) (locs : List Loc) (ls : Array Slot), PS D g (va_A (va_pl L f) szz) s.heap s L fl26 H locs → lv_has ls 14 [(6, .int o99.2)] → W p l e { frames := 1, cells := 0, slots := 0, locals := 27 } s m [.ref y, .int wi, .int wa, .int wd, .int kq, .int by_].toArray below meth c H locs 0 0 QQ (F0 m 213 ls []) := by
        intro H locs ls S hl
        refine lv_iload hx hb dX9_falselyLet_213 (lv_at hl 0 rfl) ?_
        subst hQQ
        exact q_reti (post := fun x L1 f1 => x = z.1 ∧ L1 = L ∧ (∀ b, b ∈ L → b ≠ aAlone → f1 b = f b) ∧ f1 aAlone = .inl (g 0, 4096, .inl z.2)) hx hb hr hlk S dX9_falselyLet_215 (by decide) (by decide) (by have hz := Option.some.inj hM; subst hz; exact ⟨rfl, rfl, fr, e_aAlone⟩)
      have LP99 : ∀ (fu : Nat) (x7_99 : Int32) (x6_99 : Int32) (H : Heap) (locs : List Loc) (ls : Array Slot), (mX9_falselyLet_L99 vWorlds vInWorld wi wa wd kq by_ o26) fu x7_99 x6_99 = some o99 → PS D g (va_A (va_pl L f) szz) s.heap s L fl26 H locs → lv_has ls 14 [(7, .int x7_99), (6, .int x6_99), (0, .ref y), (1, .int wi), (2, .int wa), (3, .int wd), (4, .int kq), (5, .int by_)] → W p l e { frames := 1, cells := 0, slots := 0, locals := 27 } s m [.ref y, .int wi, .int wa, .int wd, .int kq, .int by_].toArray below meth c H locs 0 0 QQ (F0 m 99 ls []) := by
        intro fu
        induction fu with
        | zero => intro x7_99 x6_99 H locs ls ho99 S hl; exact no_some ho99
        | succ fu ih99 =>
          intro x7_99 x6_99 H locs ls ho99 S hl
          rw [mX9_falselyLet_L99] at ho99
          refine lv_iload hx hb dX9_falselyLet_99 (lv_at hl 0 rfl) ?_
          refine lv_aload_n hx hb dX9_falselyLet_101 rfl (lv_at hl 2 rfl) ?_
          refine q_get hx hb hts in_X9 hown S m_y e_y (C := RX9) (T := TX9) (N := 23) rfl 1 (by decide) rfl (hts (.fieldLink RX9 13 "SieveCabinetModel" "inWorld" "[I") (gu_wsX9_falselyLet_1 _ gm_1)) dX9_falselyLet_102 ?_
          refine lv_iload_n hx hb dX9_falselyLet_105 rfl (lv_at hl 4 rfl) ?_
          obtain ⟨hi106, ho99⟩ := ckx ho99
          refine q_iald hx hb S m_aInWorld e_aInWorld hi106 dX9_falselyLet_106 ?_
          refine lv_icmp_ge (tgt := 213) hx hb dX9_falselyLet_107 (by decide) (fun b107 => ?_) (fun b107 => ?_)
          · have ho99 := itT b107 ho99
            obtain rfl := Option.some.inj ho99
            exact EX99 _ _ _ S (lv_sub hl [1] rfl)
          · have ho99 := itF b107 ho99
            refine lv_aload_n hx hb dX9_falselyLet_110 rfl (lv_at hl 2 rfl) ?_
            refine q_get hx hb hts in_X9 hown S m_y e_y (C := RX9) (T := TX9) (N := 23) rfl 0 (by decide) rfl (hts (.fieldLink RX9 9 "SieveCabinetModel" "worlds" "[J") (gu_wsX9_falselyLet_1 _ gm_2)) dX9_falselyLet_111 ?_
            refine lv_iload_n hx hb dX9_falselyLet_114 rfl (lv_at hl 4 rfl) ?_
            refine lv_sipush (v := (1000 : Int32)) hx hb dX9_falselyLet_115 (by decide) ?_
            refine lv_imul hx hb dX9_falselyLet_118 ?_
            refine lv_iload hx hb dX9_falselyLet_119 (lv_at hl 0 rfl) ?_
            refine lv_iadd hx hb dX9_falselyLet_121 ?_
            obtain ⟨hi122, ho99⟩ := ckx ho99
            refine q_lald hx hb S m_aWorlds e_aWorlds hi122 dX9_falselyLet_122 ?_
            refine lv_topl (fun y123 ey123 => ?_)
            have ho99 := lt_some ho99 ey123
            refine lv_lstore (lv' := [(8, .long y123), (7, .int x7_99), (6, .int x6_99), (0, .ref y), (1, .int wi), (2, .int wa), (3, .int wd), (4, .int kq), (5, .int by_)]) hx hb dX9_falselyLet_123 hl (by decide) rfl (fun ls hl => ?_)
            refine lv_lload hx hb dX9_falselyLet_125 (lv_at hl 0 rfl) ?_
            refine lv_iload hx hb dX9_falselyLet_127 (lv_at hl 8 rfl) ?_
            obtain ⟨z129, hz129, ho99⟩ := bind_some ho99
            refine q_sl (As := [.long y123, .int by_]) (rest := []) ⟨hx, hb, hml, hown, hts⟩ (k_X9_mix l D g hz129) (va_cwS 2 hts gX9_falselyLet_X9_mix rfl rfl rfl (by decide +kernel) ⟨Nat.le_of_ble_eq_true rfl, Nat.le_of_ble_eq_true rfl⟩) S rfl hl.1 rfl (Nat.le_of_ble_eq_true rfl) dX9_falselyLet_129 ⟨Nat.le_of_ble_eq_true rfl, Nat.le_of_ble_eq_true rfl⟩ (fun r3 L1 f2 H locs S w129 => ?_)
            obtain ⟨ex129, eL, ef⟩ := w129
            rw [eL, ef] at S
            replace ex129 := ex129.symm
            subst ex129
            refine lv_lstore (lv' := [(10, .long z129), (8, .long y123), (7, .int x7_99), (6, .int x6_99), (0, .ref y), (1, .int wi), (2, .int wa), (3, .int wd), (4, .int kq), (5, .int by_)]) hx hb dX9_falselyLet_132 hl (by decide) rfl (fun ls hl => ?_)
            refine lv_iconst (v := (1 : Int32)) hx hb dX9_falselyLet_134 (by decide) ?_
            refine lv_istore (lv' := [(12, .int (1 : Int32)), (10, .long z129), (8, .long y123), (7, .int x7_99), (6, .int x6_99), (0, .ref y), (1, .int wi), (2, .int wa), (3, .int wd), (4, .int kq), (5, .int by_)]) hx hb dX9_falselyLet_135 hl (by decide) rfl (fun ls hl => ?_)
            refine lv_iconst (v := (0 : Int32)) hx hb dX9_falselyLet_137 (by decide) ?_
            refine lv_istore (lv' := [(13, .int (0 : Int32)), (12, .int (1 : Int32)), (10, .long z129), (8, .long y123), (7, .int x7_99), (6, .int x6_99), (0, .ref y), (1, .int wi), (2, .int wa), (3, .int wd), (4, .int kq), (5, .int by_)]) hx hb dX9_falselyLet_138 hl (by decide) rfl (fun ls hl => ?_)
            obtain ⟨o140, ho140, ho99⟩ := bind_some ho99
            have EX140 : ∀ (H : Heap) (locs : List Loc) (ls : Array Slot), PS D g (va_A (va_pl L f) szz) s.heap s L fl26 H locs → lv_has ls 14 [(12, .int o140.2), (8, .long y123), (7, .int x7_99), (6, .int x6_99), (0, .ref y), (1, .int wi), (2, .int wa), (3, .int wd), (4, .int kq), (5, .int by_)] → W p l e { frames := 1, cells := 0, slots := 0, locals := 27 } s m [.ref y, .int wi, .int wa, .int wd, .int kq, .int by_].toArray below meth c H locs 0 0 QQ (F0 m 182 ls []) := by
              intro H locs ls S hl
              refine lv_iload hx hb dX9_falselyLet_182 (lv_at hl 3 rfl) ?_
              refine lv_iload hx hb dX9_falselyLet_184 (lv_at hl 0 rfl) ?_
              refine lv_if_eq (tgt := 203) hx hb dX9_falselyLet_186 (by decide) (fun b186 => ?_) (fun b186 => ?_)
              · have ho99 := itT b186 ho99
                refine lv_iconst (v := (0 : Int32)) hx hb dX9_falselyLet_203 (by decide) ?_
                refine lv_iadd hx hb dX9_falselyLet_204 ?_
                refine lv_istore (lv' := [(6, .int (x6_99 + (0 : Int32))), (12, .int o140.2), (8, .long y123), (7, .int x7_99), (0, .ref y), (1, .int wi), (2, .int wa), (3, .int wd), (4, .int kq), (5, .int by_)]) hx hb dX9_falselyLet_205 hl (by decide) rfl (fun ls hl => ?_)
                refine lv_iinc (v := (x7_99 + 1)) (lv' := [(7, .int (x7_99 + 1)), (6, .int (x6_99 + (0 : Int32))), (12, .int o140.2), (8, .long y123), (0, .ref y), (1, .int wi), (2, .int wa), (3, .int wd), (4, .int kq), (5, .int by_)]) hx hb dX9_falselyLet_207 hl (k := 3) rfl rfl (by decide) rfl (fun ls hl => ?_)
                refine lv_goto (tgt := 99) hx hb dX9_falselyLet_210 (by decide) ?_
                exact ih99 (x7_99 + 1) (x6_99 + (0 : Int32)) _ _ _ ho99 S (lv_sub hl [0, 1, 4, 5, 6, 7, 8, 9] rfl)
              · have ho99 := itF b186 ho99
                refine lv_aload_n hx hb dX9_falselyLet_189 rfl (lv_at hl 4 rfl) ?_
                refine lv_iload_n hx hb dX9_falselyLet_190 rfl (lv_at hl 5 rfl) ?_
                refine lv_lload hx hb dX9_falselyLet_191 (lv_at hl 1 rfl) ?_
                obtain ⟨z193, hz193, ho99⟩ := bind_some ho99
                refine q_vi (As := [.int wi, .long y123]) (rest := [.int x6_99]) ⟨hx, hb, hml, hown, hts⟩ (k_X9_placeOf l D g m_y e_y m_aWorlds e_aWorlds m_aInWorld e_aInWorld hz193) (cwV 2 hts gX9_falselyLet_X9_placeOf rfl rfl rfl (by decide +kernel) ⟨Nat.le_of_ble_eq_true rfl, Nat.le_of_ble_eq_true rfl⟩) S m_y e_y (T := TX9) (N := 23) rfl rfl hl.1 rfl (Nat.le_of_ble_eq_true rfl) dX9_falselyLet_193 ⟨Nat.le_of_ble_eq_true rfl, Nat.le_of_ble_eq_true rfl⟩ (fun r6 L4 f5 H locs S w193 => ?_)
                obtain ⟨ex193, eL, ef⟩ := w193
                rw [eL, ef] at S
                replace ex193 := ex193.symm
                subst ex193
                refine lv_if_ge (tgt := 203) hx hb dX9_falselyLet_196 (by decide) (fun b196 => ?_) (fun b196 => ?_)
                · have ho99 := itT b196 ho99
                  refine lv_iconst (v := (0 : Int32)) hx hb dX9_falselyLet_203 (by decide) ?_
                  refine lv_iadd hx hb dX9_falselyLet_204 ?_
                  refine lv_istore (lv' := [(6, .int (x6_99 + (0 : Int32))), (12, .int o140.2), (8, .long y123), (7, .int x7_99), (0, .ref y), (1, .int wi), (2, .int wa), (3, .int wd), (4, .int kq), (5, .int by_)]) hx hb dX9_falselyLet_205 hl (by decide) rfl (fun ls hl => ?_)
                  refine lv_iinc (v := (x7_99 + 1)) (lv' := [(7, .int (x7_99 + 1)), (6, .int (x6_99 + (0 : Int32))), (12, .int o140.2), (8, .long y123), (0, .ref y), (1, .int wi), (2, .int wa), (3, .int wd), (4, .int kq), (5, .int by_)]) hx hb dX9_falselyLet_207 hl (k := 3) rfl rfl (by decide) rfl (fun ls hl => ?_)
                  refine lv_goto (tgt := 99) hx hb dX9_falselyLet_210 (by decide) ?_
                  exact ih99 (x7_99 + 1) (x6_99 + (0 : Int32)) _ _ _ ho99 S (lv_sub hl [0, 1, 4, 5, 6, 7, 8, 9] rfl)
                · have ho99 := itF b196 ho99
                  refine lv_iconst (v := (1 : Int32)) hx hb dX9_falselyLet_199 (by decide) ?_
                  refine lv_goto (tgt := 204) hx hb dX9_falselyLet_200 (by decide) ?_
                  refine lv_iadd hx hb dX9_falselyLet_204 ?_
                  refine lv_istore (lv' := [(6, .int (x6_99 + (1 : Int32))), (12, .int o140.2), (8, .long y123), (7, .int x7_99), (0, .ref y), (1, .int wi), (2, .int wa), (3, .int wd), (4, .int kq), (5, .int by_)]) hx hb dX9_falselyLet_205 hl (by decide) rfl (fun ls hl => ?_)
                  refine lv_iinc (v := (x7_99 + 1)) (lv' := [(7, .int (x7_99 + 1)), (6, .int (x6_99 + (1 : Int32))), (12, .int o140.2), (8, .long y123), (0, .ref y), (1, .int wi), (2, .int wa), (3, .int wd), (4, .int kq), (5, .int by_)]) hx hb dX9_falselyLet_207 hl (k := 3) rfl rfl (by decide) rfl (fun ls hl => ?_)
                  refine lv_goto (tgt := 99) hx hb dX9_falselyLet_210 (by decide) ?_
                  exact ih99 (x7_99 + 1) (x6_99 + (1 : Int32)) _ _ _ ho99 S (lv_sub hl [0, 1, 4, 5, 6, 7, 8, 9] rfl)
            have LP140 : ∀ (fu : Nat) (x13_140 : Int32) (x12_140 : Int32) (H : Heap) (locs : List Loc) (ls : Array Slot), (mX9_falselyLet_L140 wd kq o26 z129) fu x13_140 x12_140 = some o140 → PS D g (va_A (va_pl L f) szz) s.heap s L fl26 H locs → lv_has ls 14 [(13, .int x13_140), (12, .int x12_140), (10, .long z129), (8, .long y123), (7, .int x7_99), (6, .int x6_99), (0, .ref y), (1, .int wi), (2, .int wa), (3, .int wd), (4, .int kq), (5, .int by_)] → W p l e { frames := 1, cells := 0, slots := 0, locals := 27 } s m [.ref y, .int wi, .int wa, .int wd, .int kq, .int by_].toArray below meth c H locs 0 0 QQ (F0 m 140 ls []) := by
              intro fu
              induction fu with
              | zero => intro x13_140 x12_140 H locs ls ho140 S hl; exact no_some ho140
              | succ fu ih140 =>
                intro x13_140 x12_140 H locs ls ho140 S hl
                rw [mX9_falselyLet_L140] at ho140
                refine lv_iload hx hb dX9_falselyLet_140 (lv_at hl 0 rfl) ?_
                refine lv_iload hx hb dX9_falselyLet_142 (lv_at hl 10 rfl) ?_
                refine lv_icmp_ge (tgt := 182) hx hb dX9_falselyLet_144 (by decide) (fun b144 => ?_) (fun b144 => ?_)
                · have ho140 := itT b144 ho140
                  obtain rfl := Option.some.inj ho140
                  exact EX140 _ _ _ S (lv_sub hl [1, 3, 4, 5, 6, 7, 8, 9, 10, 11] rfl)
                · have ho140 := itF b144 ho140
                  refine lv_iload hx hb dX9_falselyLet_147 (lv_at hl 1 rfl) ?_
                  refine lv_if_eq (tgt := 173) hx hb dX9_falselyLet_149 (by decide) (fun b149 => ?_) (fun b149 => ?_)
                  · have ho140 := itT b149 ho140
                    refine lv_iconst (v := (0 : Int32)) hx hb dX9_falselyLet_173 (by decide) ?_
                    refine lv_istore (lv' := [(12, .int (0 : Int32)), (13, .int x13_140), (10, .long z129), (8, .long y123), (7, .int x7_99), (6, .int x6_99), (0, .ref y), (1, .int wi), (2, .int wa), (3, .int wd), (4, .int kq), (5, .int by_)]) hx hb dX9_falselyLet_174 hl (by decide) rfl (fun ls hl => ?_)
                    refine lv_iinc (v := (x13_140 + 1)) (lv' := [(13, .int (x13_140 + 1)), (12, .int (0 : Int32)), (10, .long z129), (8, .long y123), (7, .int x7_99), (6, .int x6_99), (0, .ref y), (1, .int wi), (2, .int wa), (3, .int wd), (4, .int kq), (5, .int by_)]) hx hb dX9_falselyLet_176 hl (k := 1) rfl rfl (by decide) rfl (fun ls hl => ?_)
                    refine lv_goto (tgt := 140) hx hb dX9_falselyLet_179 (by decide) ?_
                    exact ih140 (x13_140 + 1) (0 : Int32) _ _ _ ho140 S (lv_sub hl [0, 1, 2, 3, 4, 5, 6, 7, 8, 9, 10, 11] rfl)
                  · have ho140 := itF b149 ho140
                    refine lv_aload_n hx hb dX9_falselyLet_152 rfl (lv_at hl 6 rfl) ?_
                    refine q_get hx hb hts in_X9 hown S m_y e_y (C := RX9) (T := TX9) (N := 23) rfl 21 (by decide) rfl (hts (.fieldLink RX9 74 "SieveCabinetModel" "alone" "[I") (gu_wsX9_falselyLet_1 _ gm_0)) dX9_falselyLet_153 ?_
                    refine lv_lload hx hb dX9_falselyLet_156 (lv_at hl 2 rfl) ?_
                    refine lv_iload hx hb dX9_falselyLet_158 (lv_at hl 0 rfl) ?_
                    refine lv_iload_n hx hb dX9_falselyLet_160 rfl (lv_at hl 9 rfl) ?_
                    obtain ⟨z161, hz161, ho140⟩ := bind_some ho140
                    refine q_si (As := [.long z129, .int x13_140, .int wd]) (rest := [.ref aAlone]) ⟨hx, hb, hml, hown, hts⟩ (k_X9_markOf l D g hz161) (va_cwS 3 hts gX9_falselyLet_X9_markOf rfl rfl rfl (by decide +kernel) ⟨Nat.le_of_ble_eq_true rfl, Nat.le_of_ble_eq_true rfl⟩) S rfl hl.1 rfl (Nat.le_of_ble_eq_true rfl) dX9_falselyLet_161 ⟨Nat.le_of_ble_eq_true rfl, Nat.le_of_ble_eq_true rfl⟩ (fun r9 L7 f8 H locs S w161 => ?_)
                    obtain ⟨ex161, eL, ef⟩ := w161
                    rw [eL, ef] at S
                    replace ex161 := ex161.symm
                    subst ex161
                    obtain ⟨hi164, ho140⟩ := ckx ho140
                    refine q_iald hx hb S m_aAlone e_aAlone hi164 dX9_falselyLet_164 ?_
                    refine lv_iconst (v := (1 : Int32)) hx hb dX9_falselyLet_165 (by decide) ?_
                    refine lv_icmp_ne (tgt := 173) hx hb dX9_falselyLet_166 (by decide) (fun b166 => ?_) (fun b166 => ?_)
                    · have ho140 := itF b166 ho140
                      refine lv_iconst (v := (0 : Int32)) hx hb dX9_falselyLet_173 (by decide) ?_
                      refine lv_istore (lv' := [(12, .int (0 : Int32)), (13, .int x13_140), (10, .long z129), (8, .long y123), (7, .int x7_99), (6, .int x6_99), (0, .ref y), (1, .int wi), (2, .int wa), (3, .int wd), (4, .int kq), (5, .int by_)]) hx hb dX9_falselyLet_174 hl (by decide) rfl (fun ls hl => ?_)
                      refine lv_iinc (v := (x13_140 + 1)) (lv' := [(13, .int (x13_140 + 1)), (12, .int (0 : Int32)), (10, .long z129), (8, .long y123), (7, .int x7_99), (6, .int x6_99), (0, .ref y), (1, .int wi), (2, .int wa), (3, .int wd), (4, .int kq), (5, .int by_)]) hx hb dX9_falselyLet_176 hl (k := 1) rfl rfl (by decide) rfl (fun ls hl => ?_)
                      refine lv_goto (tgt := 140) hx hb dX9_falselyLet_179 (by decide) ?_
                      exact ih140 (x13_140 + 1) (0 : Int32) _ _ _ ho140 S (lv_sub hl [0, 1, 2, 3, 4, 5, 6, 7, 8, 9, 10, 11] rfl)
                    · have ho140 := itT b166 ho140
                      refine lv_iconst (v := (1 : Int32)) hx hb dX9_falselyLet_169 (by decide) ?_
                      refine lv_goto (tgt := 174) hx hb dX9_falselyLet_170 (by decide) ?_
                      refine lv_istore (lv' := [(12, .int (1 : Int32)), (13, .int x13_140), (10, .long z129), (8, .long y123), (7, .int x7_99), (6, .int x6_99), (0, .ref y), (1, .int wi), (2, .int wa), (3, .int wd), (4, .int kq), (5, .int by_)]) hx hb dX9_falselyLet_174 hl (by decide) rfl (fun ls hl => ?_)
                      refine lv_iinc (v := (x13_140 + 1)) (lv' := [(13, .int (x13_140 + 1)), (12, .int (1 : Int32)), (10, .long z129), (8, .long y123), (7, .int x7_99), (6, .int x6_99), (0, .ref y), (1, .int wi), (2, .int wa), (3, .int wd), (4, .int kq), (5, .int by_)]) hx hb dX9_falselyLet_176 hl (k := 1) rfl rfl (by decide) rfl (fun ls hl => ?_)
                      refine lv_goto (tgt := 140) hx hb dX9_falselyLet_179 (by decide) ?_
                      exact ih140 (x13_140 + 1) (1 : Int32) _ _ _ ho140 S (lv_sub hl [0, 1, 2, 3, 4, 5, 6, 7, 8, 9, 10, 11] rfl)
            exact LP140 FU (0 : Int32) (1 : Int32) _ _ _ ho140 S (lv_sub hl [0, 1, 2, 3, 4, 5, 6, 7, 8, 9, 10, 11] rfl)
      exact LP99 FU (0 : Int32) (0 : Int32) _ _ _ ho99 S (lv_sub hl [0, 1, 2, 3, 4, 5, 6, 7] rfl)
    have LP26 : ∀ (fu : Nat) (x6_26 : Int32) (caAlone_26 : Nat → Int32) (fl26 : Nat → va_E) (H : Heap) (locs : List Loc) (ls : Array Slot), (mX9_falselyLet_L26 vWorlds vInWorld wi wd kq by_) fu x6_26 caAlone_26 = some o26 → PS D g (va_A (va_pl L f) szz) s.heap s L fl26 H locs → fl26 y = .inr (7, [.ref aWorlds, .ref aInWorld, .ref aKind, .ref aSize, .ref aMarks, .ref aSeed, .ref aContents, .ref aContentMany, .ref aRow, .ref aBits, .ref aLayerSize, .ref aLayerCame, .ref aRest, .ref aRestMany, .int many, .ref aCome, .ref aRivals, .ref aGone, .ref aOrder, .ref aOffAt, .ref aIsOff, .ref aAlone, .ref aKept]) → fl26 aWorlds = .inl (g 1, 8000, .inr (.inl vWorlds)) → fl26 aInWorld = .inl (g 0, 8, .inl vInWorld) → fl26 aKind = .inl (g 0, 30, .inl vKind) → fl26 aSize = .inl (g 0, 30, .inl vSize) → fl26 aMarks = .inl (g 0, 30, .inl vMarks) → fl26 aSeed = .inl (g 0, 30, .inl vSeed) → fl26 aContents = .inl (g 1, 30000, .inr (.inl vContents)) → fl26 aContentMany = .inl (g 0, 30, .inl vContentMany) → fl26 aRow = .inl (g 0, 122880, .inl vRow) → fl26 aBits = .inl (g 0, 76800, .inl vBits) → fl26 aLayerSize = .inl (g 0, 600, .inl vLayerSize) → fl26 aLayerCame = .inl (g 0, 600, .inl vLayerCame) → fl26 aRest = .inl (g 1, 30000, .inr (.inl vRest)) → fl26 aRestMany = .inl (g 0, 30, .inl vRestMany) → fl26 aCome = .inl (g 1, 1000, .inr (.inl vCome)) → fl26 aRivals = .inl (g 1, 1000, .inr (.inl vRivals)) → fl26 aGone = .inl (g 1, 1000, .inr (.inl vGone)) → fl26 aOrder = .inl (g 0, 1000, .inl vOrder) → fl26 aOffAt = .inl (g 0, 1000, .inl vOffAt) → fl26 aIsOff = .inl (g 2, 1000, .inl vIsOff) → fl26 aAlone = .inl (g 0, 4096, .inl caAlone_26) → fl26 aKept = .inl (g 0, 4096, .inl vKept) → (∀ b, b ∈ L → b ≠ aAlone → fl26 b = f b) → lv_has ls 14 [(6, .int x6_26), (0, .ref y), (1, .int wi), (2, .int wa), (3, .int wd), (4, .int kq), (5, .int by_)] → W p l e { frames := 1, cells := 0, slots := 0, locals := 27 } s m [.ref y, .int wi, .int wa, .int wd, .int kq, .int by_].toArray below meth c H locs 0 0 QQ (F0 m 26 ls []) := by
      intro fu
      induction fu with
      | zero => intro x6_26 caAlone_26 fl26 H locs ls ho26 S e_y e_aWorlds e_aInWorld e_aKind e_aSize e_aMarks e_aSeed e_aContents e_aContentMany e_aRow e_aBits e_aLayerSize e_aLayerCame e_aRest e_aRestMany e_aCome e_aRivals e_aGone e_aOrder e_aOffAt e_aIsOff e_aAlone e_aKept fr hl; exact no_some ho26
      | succ fu ih26 =>
        intro x6_26 caAlone_26 fl26 H locs ls ho26 S e_y e_aWorlds e_aInWorld e_aKind e_aSize e_aMarks e_aSeed e_aContents e_aContentMany e_aRow e_aBits e_aLayerSize e_aLayerCame e_aRest e_aRestMany e_aCome e_aRivals e_aGone e_aOrder e_aOffAt e_aIsOff e_aAlone e_aKept fr hl
        rw [mX9_falselyLet_L26] at ho26
        refine lv_iload hx hb dX9_falselyLet_26 (lv_at hl 0 rfl) ?_
        refine lv_aload_n hx hb dX9_falselyLet_28 rfl (lv_at hl 1 rfl) ?_
        refine q_get hx hb hts in_X9 hown S m_y e_y (C := RX9) (T := TX9) (N := 23) rfl 1 (by decide) rfl (hts (.fieldLink RX9 13 "SieveCabinetModel" "inWorld" "[I") (gu_wsX9_falselyLet_1 _ gm_1)) dX9_falselyLet_29 ?_
        refine lv_iload_n hx hb dX9_falselyLet_32 rfl (lv_at hl 2 rfl) ?_
        obtain ⟨hi33, ho26⟩ := ckx ho26
        refine q_iald hx hb S m_aInWorld e_aInWorld hi33 dX9_falselyLet_33 ?_
        refine lv_icmp_ge (tgt := 93) hx hb dX9_falselyLet_34 (by decide) (fun b34 => ?_) (fun b34 => ?_)
        · have ho26 := itT b34 ho26
          obtain rfl := Option.some.inj ho26
          exact EX26 fl26 _ _ _ S e_y e_aWorlds e_aInWorld e_aKind e_aSize e_aMarks e_aSeed e_aContents e_aContentMany e_aRow e_aBits e_aLayerSize e_aLayerCame e_aRest e_aRestMany e_aCome e_aRivals e_aGone e_aOrder e_aOffAt e_aIsOff e_aAlone e_aKept fr (lv_sub hl [1, 2, 3, 4, 5, 6] rfl)
        · have ho26 := itF b34 ho26
          refine lv_aload_n hx hb dX9_falselyLet_37 rfl (lv_at hl 1 rfl) ?_
          refine q_get hx hb hts in_X9 hown S m_y e_y (C := RX9) (T := TX9) (N := 23) rfl 0 (by decide) rfl (hts (.fieldLink RX9 9 "SieveCabinetModel" "worlds" "[J") (gu_wsX9_falselyLet_1 _ gm_2)) dX9_falselyLet_38 ?_
          refine lv_iload_n hx hb dX9_falselyLet_41 rfl (lv_at hl 2 rfl) ?_
          refine lv_sipush (v := (1000 : Int32)) hx hb dX9_falselyLet_42 (by decide) ?_
          refine lv_imul hx hb dX9_falselyLet_45 ?_
          refine lv_iload hx hb dX9_falselyLet_46 (lv_at hl 0 rfl) ?_
          refine lv_iadd hx hb dX9_falselyLet_48 ?_
          obtain ⟨hi49, ho26⟩ := ckx ho26
          refine q_lald hx hb S m_aWorlds e_aWorlds hi49 dX9_falselyLet_49 ?_
          refine lv_iload hx hb dX9_falselyLet_50 (lv_at hl 6 rfl) ?_
          obtain ⟨z52, hz52, ho26⟩ := bind_some ho26
          refine q_sl (As := [.long (vWorlds (Int32.toNatClampNeg ((wi * (1000 : Int32)) + x6_26))), .int by_]) (rest := []) ⟨hx, hb, hml, hown, hts⟩ (k_X9_mix l D g hz52) (va_cwS 2 hts gX9_falselyLet_X9_mix rfl rfl rfl (by decide +kernel) ⟨Nat.le_of_ble_eq_true rfl, Nat.le_of_ble_eq_true rfl⟩) S rfl hl.1 rfl (Nat.le_of_ble_eq_true rfl) dX9_falselyLet_52 ⟨Nat.le_of_ble_eq_true rfl, Nat.le_of_ble_eq_true rfl⟩ (fun r12 L10 f11 H locs S w52 => ?_)
          obtain ⟨ex52, eL, ef⟩ := w52
          rw [eL, ef] at S
          replace ex52 := ex52.symm
          subst ex52
          refine lv_lstore (lv' := [(7, .long z52), (6, .int x6_26), (0, .ref y), (1, .int wi), (2, .int wa), (3, .int wd), (4, .int kq), (5, .int by_)]) hx hb dX9_falselyLet_55 hl (by decide) rfl (fun ls hl => ?_)
          refine lv_iconst (v := (0 : Int32)) hx hb dX9_falselyLet_57 (by decide) ?_
          refine lv_istore (lv' := [(9, .int (0 : Int32)), (7, .long z52), (6, .int x6_26), (0, .ref y), (1, .int wi), (2, .int wa), (3, .int wd), (4, .int kq), (5, .int by_)]) hx hb dX9_falselyLet_58 hl (by decide) rfl (fun ls hl => ?_)
          obtain ⟨o60, ho60, ho26⟩ := bind_some ho26
          have EX60 : ∀ (fl60 : Nat → va_E) (H : Heap) (locs : List Loc) (ls : Array Slot), PS D g (va_A (va_pl L f) szz) s.heap s L fl60 H locs → fl60 y = .inr (7, [.ref aWorlds, .ref aInWorld, .ref aKind, .ref aSize, .ref aMarks, .ref aSeed, .ref aContents, .ref aContentMany, .ref aRow, .ref aBits, .ref aLayerSize, .ref aLayerCame, .ref aRest, .ref aRestMany, .int many, .ref aCome, .ref aRivals, .ref aGone, .ref aOrder, .ref aOffAt, .ref aIsOff, .ref aAlone, .ref aKept]) → fl60 aWorlds = .inl (g 1, 8000, .inr (.inl vWorlds)) → fl60 aInWorld = .inl (g 0, 8, .inl vInWorld) → fl60 aKind = .inl (g 0, 30, .inl vKind) → fl60 aSize = .inl (g 0, 30, .inl vSize) → fl60 aMarks = .inl (g 0, 30, .inl vMarks) → fl60 aSeed = .inl (g 0, 30, .inl vSeed) → fl60 aContents = .inl (g 1, 30000, .inr (.inl vContents)) → fl60 aContentMany = .inl (g 0, 30, .inl vContentMany) → fl60 aRow = .inl (g 0, 122880, .inl vRow) → fl60 aBits = .inl (g 0, 76800, .inl vBits) → fl60 aLayerSize = .inl (g 0, 600, .inl vLayerSize) → fl60 aLayerCame = .inl (g 0, 600, .inl vLayerCame) → fl60 aRest = .inl (g 1, 30000, .inr (.inl vRest)) → fl60 aRestMany = .inl (g 0, 30, .inl vRestMany) → fl60 aCome = .inl (g 1, 1000, .inr (.inl vCome)) → fl60 aRivals = .inl (g 1, 1000, .inr (.inl vRivals)) → fl60 aGone = .inl (g 1, 1000, .inr (.inl vGone)) → fl60 aOrder = .inl (g 0, 1000, .inl vOrder) → fl60 aOffAt = .inl (g 0, 1000, .inl vOffAt) → fl60 aIsOff = .inl (g 2, 1000, .inl vIsOff) → fl60 aAlone = .inl (g 0, 4096, .inl o60.2) → fl60 aKept = .inl (g 0, 4096, .inl vKept) → (∀ b, b ∈ L → b ≠ aAlone → fl60 b = f b) → lv_has ls 14 [(6, .int x6_26), (0, .ref y), (1, .int wi), (2, .int wa), (3, .int wd), (4, .int kq), (5, .int by_)] → W p l e { frames := 1, cells := 0, slots := 0, locals := 27 } s m [.ref y, .int wi, .int wa, .int wd, .int kq, .int by_].toArray below meth c H locs 0 0 QQ (F0 m 87 ls []) := by
            intro fl60 H locs ls S e_y e_aWorlds e_aInWorld e_aKind e_aSize e_aMarks e_aSeed e_aContents e_aContentMany e_aRow e_aBits e_aLayerSize e_aLayerCame e_aRest e_aRestMany e_aCome e_aRivals e_aGone e_aOrder e_aOffAt e_aIsOff e_aAlone e_aKept fr hl
            refine lv_iinc (v := (x6_26 + 1)) (lv' := [(6, .int (x6_26 + 1)), (0, .ref y), (1, .int wi), (2, .int wa), (3, .int wd), (4, .int kq), (5, .int by_)]) hx hb dX9_falselyLet_87 hl (k := 0) rfl rfl (by decide) rfl (fun ls hl => ?_)
            refine lv_goto (tgt := 26) hx hb dX9_falselyLet_90 (by decide) ?_
            exact ih26 (x6_26 + 1) o60.2 fl60 _ _ _ ho26 S e_y e_aWorlds e_aInWorld e_aKind e_aSize e_aMarks e_aSeed e_aContents e_aContentMany e_aRow e_aBits e_aLayerSize e_aLayerCame e_aRest e_aRestMany e_aCome e_aRivals e_aGone e_aOrder e_aOffAt e_aIsOff e_aAlone e_aKept fr (lv_sub hl [0, 1, 2, 3, 4, 5, 6] rfl)
          have LP60 : ∀ (fu : Nat) (x9_60 : Int32) (caAlone_60 : Nat → Int32) (fl60 : Nat → va_E) (H : Heap) (locs : List Loc) (ls : Array Slot), (mX9_falselyLet_L60 wd kq z52) fu x9_60 caAlone_60 = some o60 → PS D g (va_A (va_pl L f) szz) s.heap s L fl60 H locs → fl60 y = .inr (7, [.ref aWorlds, .ref aInWorld, .ref aKind, .ref aSize, .ref aMarks, .ref aSeed, .ref aContents, .ref aContentMany, .ref aRow, .ref aBits, .ref aLayerSize, .ref aLayerCame, .ref aRest, .ref aRestMany, .int many, .ref aCome, .ref aRivals, .ref aGone, .ref aOrder, .ref aOffAt, .ref aIsOff, .ref aAlone, .ref aKept]) → fl60 aWorlds = .inl (g 1, 8000, .inr (.inl vWorlds)) → fl60 aInWorld = .inl (g 0, 8, .inl vInWorld) → fl60 aKind = .inl (g 0, 30, .inl vKind) → fl60 aSize = .inl (g 0, 30, .inl vSize) → fl60 aMarks = .inl (g 0, 30, .inl vMarks) → fl60 aSeed = .inl (g 0, 30, .inl vSeed) → fl60 aContents = .inl (g 1, 30000, .inr (.inl vContents)) → fl60 aContentMany = .inl (g 0, 30, .inl vContentMany) → fl60 aRow = .inl (g 0, 122880, .inl vRow) → fl60 aBits = .inl (g 0, 76800, .inl vBits) → fl60 aLayerSize = .inl (g 0, 600, .inl vLayerSize) → fl60 aLayerCame = .inl (g 0, 600, .inl vLayerCame) → fl60 aRest = .inl (g 1, 30000, .inr (.inl vRest)) → fl60 aRestMany = .inl (g 0, 30, .inl vRestMany) → fl60 aCome = .inl (g 1, 1000, .inr (.inl vCome)) → fl60 aRivals = .inl (g 1, 1000, .inr (.inl vRivals)) → fl60 aGone = .inl (g 1, 1000, .inr (.inl vGone)) → fl60 aOrder = .inl (g 0, 1000, .inl vOrder) → fl60 aOffAt = .inl (g 0, 1000, .inl vOffAt) → fl60 aIsOff = .inl (g 2, 1000, .inl vIsOff) → fl60 aAlone = .inl (g 0, 4096, .inl caAlone_60) → fl60 aKept = .inl (g 0, 4096, .inl vKept) → (∀ b, b ∈ L → b ≠ aAlone → fl60 b = f b) → lv_has ls 14 [(9, .int x9_60), (7, .long z52), (6, .int x6_26), (0, .ref y), (1, .int wi), (2, .int wa), (3, .int wd), (4, .int kq), (5, .int by_)] → W p l e { frames := 1, cells := 0, slots := 0, locals := 27 } s m [.ref y, .int wi, .int wa, .int wd, .int kq, .int by_].toArray below meth c H locs 0 0 QQ (F0 m 60 ls []) := by
            intro fu
            induction fu with
            | zero => intro x9_60 caAlone_60 fl60 H locs ls ho60 S e_y e_aWorlds e_aInWorld e_aKind e_aSize e_aMarks e_aSeed e_aContents e_aContentMany e_aRow e_aBits e_aLayerSize e_aLayerCame e_aRest e_aRestMany e_aCome e_aRivals e_aGone e_aOrder e_aOffAt e_aIsOff e_aAlone e_aKept fr hl; exact no_some ho60
            | succ fu ih60 =>
              intro x9_60 caAlone_60 fl60 H locs ls ho60 S e_y e_aWorlds e_aInWorld e_aKind e_aSize e_aMarks e_aSeed e_aContents e_aContentMany e_aRow e_aBits e_aLayerSize e_aLayerCame e_aRest e_aRestMany e_aCome e_aRivals e_aGone e_aOrder e_aOffAt e_aIsOff e_aAlone e_aKept fr hl
              rw [mX9_falselyLet_L60] at ho60
              refine lv_iload hx hb dX9_falselyLet_60 (lv_at hl 0 rfl) ?_
              refine lv_iload hx hb dX9_falselyLet_62 (lv_at hl 7 rfl) ?_
              refine lv_icmp_ge (tgt := 87) hx hb dX9_falselyLet_64 (by decide) (fun b64 => ?_) (fun b64 => ?_)
              · have ho60 := itT b64 ho60
                obtain rfl := Option.some.inj ho60
                exact EX60 fl60 _ _ _ S e_y e_aWorlds e_aInWorld e_aKind e_aSize e_aMarks e_aSeed e_aContents e_aContentMany e_aRow e_aBits e_aLayerSize e_aLayerCame e_aRest e_aRestMany e_aCome e_aRivals e_aGone e_aOrder e_aOffAt e_aIsOff e_aAlone e_aKept fr (lv_sub hl [2, 3, 4, 5, 6, 7, 8] rfl)
              · have ho60 := itF b64 ho60
                refine lv_aload_n hx hb dX9_falselyLet_67 rfl (lv_at hl 3 rfl) ?_
                refine q_get hx hb hts in_X9 hown S m_y e_y (C := RX9) (T := TX9) (N := 23) rfl 21 (by decide) rfl (hts (.fieldLink RX9 74 "SieveCabinetModel" "alone" "[I") (gu_wsX9_falselyLet_1 _ gm_0)) dX9_falselyLet_68 ?_
                refine lv_lload hx hb dX9_falselyLet_71 (lv_at hl 1 rfl) ?_
                refine lv_iload hx hb dX9_falselyLet_73 (lv_at hl 0 rfl) ?_
                refine lv_iload_n hx hb dX9_falselyLet_75 rfl (lv_at hl 6 rfl) ?_
                obtain ⟨z76, hz76, ho60⟩ := bind_some ho60
                refine q_si (As := [.long z52, .int x9_60, .int wd]) (rest := [.ref aAlone]) ⟨hx, hb, hml, hown, hts⟩ (k_X9_markOf l D g hz76) (va_cwS 3 hts gX9_falselyLet_X9_markOf rfl rfl rfl (by decide +kernel) ⟨Nat.le_of_ble_eq_true rfl, Nat.le_of_ble_eq_true rfl⟩) S rfl hl.1 rfl (Nat.le_of_ble_eq_true rfl) dX9_falselyLet_76 ⟨Nat.le_of_ble_eq_true rfl, Nat.le_of_ble_eq_true rfl⟩ (fun r15 L13 f14 H locs S w76 => ?_)
                obtain ⟨ex76, eL, ef⟩ := w76
                rw [eL, ef] at S
                replace ex76 := ex76.symm
                subst ex76
                refine lv_iconst (v := (1 : Int32)) hx hb dX9_falselyLet_79 (by decide) ?_
                obtain ⟨hi80, ho60⟩ := ckx ho60
                refine k_iast hx hb S m_aAlone e_aAlone hi80 dX9_falselyLet_80 (fun f16 ef16 H locs S => ?_)
                have e_aAlone := up_self ef16
                have fr : ∀ b, b ∈ L → b ≠ aAlone → f16 b = f b := fun b mb nb0 => (up_ne ef16 nb0 rfl).trans (fr b mb nb0)
                refine lv_iinc (v := (x9_60 + 1)) (lv' := [(9, .int (x9_60 + 1)), (7, .long z52), (6, .int x6_26), (0, .ref y), (1, .int wi), (2, .int wa), (3, .int wd), (4, .int kq), (5, .int by_)]) hx hb dX9_falselyLet_81 hl (k := 0) rfl rfl (by decide) rfl (fun ls hl => ?_)
                refine lv_goto (tgt := 60) hx hb dX9_falselyLet_84 (by decide) ?_
                have e_y := (up_ne ef16 n_y_aAlone e_y)
                have e_aWorlds := (up_ne ef16 n_aWorlds_aAlone e_aWorlds)
                have e_aInWorld := (up_ne ef16 n_aInWorld_aAlone e_aInWorld)
                have e_aKind := (up_ne ef16 n_aKind_aAlone e_aKind)
                have e_aSize := (up_ne ef16 n_aSize_aAlone e_aSize)
                have e_aMarks := (up_ne ef16 n_aMarks_aAlone e_aMarks)
                have e_aSeed := (up_ne ef16 n_aSeed_aAlone e_aSeed)
                have e_aContents := (up_ne ef16 n_aContents_aAlone e_aContents)
                have e_aContentMany := (up_ne ef16 n_aContentMany_aAlone e_aContentMany)
                have e_aRow := (up_ne ef16 n_aRow_aAlone e_aRow)
                have e_aBits := (up_ne ef16 n_aBits_aAlone e_aBits)
                have e_aLayerSize := (up_ne ef16 n_aLayerSize_aAlone e_aLayerSize)
                have e_aLayerCame := (up_ne ef16 n_aLayerCame_aAlone e_aLayerCame)
                have e_aRest := (up_ne ef16 n_aRest_aAlone e_aRest)
                have e_aRestMany := (up_ne ef16 n_aRestMany_aAlone e_aRestMany)
                have e_aCome := (up_ne ef16 n_aCome_aAlone e_aCome)
                have e_aRivals := (up_ne ef16 n_aRivals_aAlone e_aRivals)
                have e_aGone := (up_ne ef16 n_aGone_aAlone e_aGone)
                have e_aOrder := (up_ne ef16 n_aOrder_aAlone e_aOrder)
                have e_aOffAt := (up_ne ef16 n_aOffAt_aAlone e_aOffAt)
                have e_aIsOff := (up_ne ef16 n_aIsOff_aAlone e_aIsOff)
                have e_aKept := (up_ne ef16 n_aKept_aAlone e_aKept)
                exact ih60 (x9_60 + 1) (upd caAlone_60 (Int32.toNatClampNeg z76) (1 : Int32)) f16 _ _ _ ho60 S e_y e_aWorlds e_aInWorld e_aKind e_aSize e_aMarks e_aSeed e_aContents e_aContentMany e_aRow e_aBits e_aLayerSize e_aLayerCame e_aRest e_aRestMany e_aCome e_aRivals e_aGone e_aOrder e_aOffAt e_aIsOff e_aAlone e_aKept fr (lv_sub hl [0, 1, 2, 3, 4, 5, 6, 7, 8] rfl)
          exact LP60 FU (0 : Int32) caAlone_26 fl26 _ _ _ ho60 S e_y e_aWorlds e_aInWorld e_aKind e_aSize e_aMarks e_aSeed e_aContents e_aContentMany e_aRow e_aBits e_aLayerSize e_aLayerCame e_aRest e_aRestMany e_aCome e_aRivals e_aGone e_aOrder e_aOffAt e_aIsOff e_aAlone e_aKept fr (lv_sub hl [0, 1, 2, 3, 4, 5, 6, 7, 8] rfl)
    exact LP26 FU (0 : Int32) o3.2 fl3 _ _ _ ho26 S e_y e_aWorlds e_aInWorld e_aKind e_aSize e_aMarks e_aSeed e_aContents e_aContentMany e_aRow e_aBits e_aLayerSize e_aLayerCame e_aRest e_aRestMany e_aCome e_aRivals e_aGone e_aOrder e_aOffAt e_aIsOff e_aAlone e_aKept fr (lv_sub hl [0, 1, 2, 3, 4, 5, 6] rfl)
  have LP3 : ∀ (fu : Nat) (x6_3 : Int32) (caAlone_3 : Nat → Int32) (fl3 : Nat → va_E) (H : Heap) (locs : List Loc) (ls : Array Slot), (mX9_falselyLet_L3 wd) fu x6_3 caAlone_3 = some o3 → PS D g (va_A (va_pl L f) szz) s.heap s L fl3 H locs → fl3 y = .inr (7, [.ref aWorlds, .ref aInWorld, .ref aKind, .ref aSize, .ref aMarks, .ref aSeed, .ref aContents, .ref aContentMany, .ref aRow, .ref aBits, .ref aLayerSize, .ref aLayerCame, .ref aRest, .ref aRestMany, .int many, .ref aCome, .ref aRivals, .ref aGone, .ref aOrder, .ref aOffAt, .ref aIsOff, .ref aAlone, .ref aKept]) → fl3 aWorlds = .inl (g 1, 8000, .inr (.inl vWorlds)) → fl3 aInWorld = .inl (g 0, 8, .inl vInWorld) → fl3 aKind = .inl (g 0, 30, .inl vKind) → fl3 aSize = .inl (g 0, 30, .inl vSize) → fl3 aMarks = .inl (g 0, 30, .inl vMarks) → fl3 aSeed = .inl (g 0, 30, .inl vSeed) → fl3 aContents = .inl (g 1, 30000, .inr (.inl vContents)) → fl3 aContentMany = .inl (g 0, 30, .inl vContentMany) → fl3 aRow = .inl (g 0, 122880, .inl vRow) → fl3 aBits = .inl (g 0, 76800, .inl vBits) → fl3 aLayerSize = .inl (g 0, 600, .inl vLayerSize) → fl3 aLayerCame = .inl (g 0, 600, .inl vLayerCame) → fl3 aRest = .inl (g 1, 30000, .inr (.inl vRest)) → fl3 aRestMany = .inl (g 0, 30, .inl vRestMany) → fl3 aCome = .inl (g 1, 1000, .inr (.inl vCome)) → fl3 aRivals = .inl (g 1, 1000, .inr (.inl vRivals)) → fl3 aGone = .inl (g 1, 1000, .inr (.inl vGone)) → fl3 aOrder = .inl (g 0, 1000, .inl vOrder) → fl3 aOffAt = .inl (g 0, 1000, .inl vOffAt) → fl3 aIsOff = .inl (g 2, 1000, .inl vIsOff) → fl3 aAlone = .inl (g 0, 4096, .inl caAlone_3) → fl3 aKept = .inl (g 0, 4096, .inl vKept) → (∀ b, b ∈ L → b ≠ aAlone → fl3 b = f b) → lv_has ls 14 [(6, .int x6_3), (0, .ref y), (1, .int wi), (2, .int wa), (3, .int wd), (4, .int kq), (5, .int by_)] → W p l e { frames := 1, cells := 0, slots := 0, locals := 27 } s m [.ref y, .int wi, .int wa, .int wd, .int kq, .int by_].toArray below meth c H locs 0 0 QQ (F0 m 3 ls []) := by
    intro fu
    induction fu with
    | zero => intro x6_3 caAlone_3 fl3 H locs ls ho3 S e_y e_aWorlds e_aInWorld e_aKind e_aSize e_aMarks e_aSeed e_aContents e_aContentMany e_aRow e_aBits e_aLayerSize e_aLayerCame e_aRest e_aRestMany e_aCome e_aRivals e_aGone e_aOrder e_aOffAt e_aIsOff e_aAlone e_aKept fr hl; exact no_some ho3
    | succ fu ih3 =>
      intro x6_3 caAlone_3 fl3 H locs ls ho3 S e_y e_aWorlds e_aInWorld e_aKind e_aSize e_aMarks e_aSeed e_aContents e_aContentMany e_aRow e_aBits e_aLayerSize e_aLayerCame e_aRest e_aRestMany e_aCome e_aRivals e_aGone e_aOrder e_aOffAt e_aIsOff e_aAlone e_aKept fr hl
      rw [mX9_falselyLet_L3] at ho3
      refine lv_iload hx hb dX9_falselyLet_3 (lv_at hl 0 rfl) ?_
      refine lv_iload_n hx hb dX9_falselyLet_5 rfl (lv_at hl 4 rfl) ?_
      refine lv_icmp_ge (tgt := 23) hx hb dX9_falselyLet_6 (by decide) (fun b6 => ?_) (fun b6 => ?_)
      · have ho3 := itT b6 ho3
        obtain rfl := Option.some.inj ho3
        exact EX3 fl3 _ _ _ S e_y e_aWorlds e_aInWorld e_aKind e_aSize e_aMarks e_aSeed e_aContents e_aContentMany e_aRow e_aBits e_aLayerSize e_aLayerCame e_aRest e_aRestMany e_aCome e_aRivals e_aGone e_aOrder e_aOffAt e_aIsOff e_aAlone e_aKept fr (lv_sub hl [1, 2, 3, 4, 5, 6] rfl)
      · have ho3 := itF b6 ho3
        refine lv_aload_n hx hb dX9_falselyLet_9 rfl (lv_at hl 1 rfl) ?_
        refine q_get hx hb hts in_X9 hown S m_y e_y (C := RX9) (T := TX9) (N := 23) rfl 21 (by decide) rfl (hts (.fieldLink RX9 74 "SieveCabinetModel" "alone" "[I") (gu_wsX9_falselyLet_1 _ gm_0)) dX9_falselyLet_10 ?_
        refine lv_iload hx hb dX9_falselyLet_13 (lv_at hl 0 rfl) ?_
        refine lv_iconst (v := (0 : Int32)) hx hb dX9_falselyLet_15 (by decide) ?_
        obtain ⟨hi16, ho3⟩ := ckx ho3
        refine k_iast hx hb S m_aAlone e_aAlone hi16 dX9_falselyLet_16 (fun f17 ef17 H locs S => ?_)
        have e_aAlone := up_self ef17
        have fr : ∀ b, b ∈ L → b ≠ aAlone → f17 b = f b := fun b mb nb0 => (up_ne ef17 nb0 rfl).trans (fr b mb nb0)
        refine lv_iinc (v := (x6_3 + 1)) (lv' := [(6, .int (x6_3 + 1)), (0, .ref y), (1, .int wi), (2, .int wa), (3, .int wd), (4, .int kq), (5, .int by_)]) hx hb dX9_falselyLet_17 hl (k := 0) rfl rfl (by decide) rfl (fun ls hl => ?_)
        refine lv_goto (tgt := 3) hx hb dX9_falselyLet_20 (by decide) ?_
        have e_y := (up_ne ef17 n_y_aAlone e_y)
        have e_aWorlds := (up_ne ef17 n_aWorlds_aAlone e_aWorlds)
        have e_aInWorld := (up_ne ef17 n_aInWorld_aAlone e_aInWorld)
        have e_aKind := (up_ne ef17 n_aKind_aAlone e_aKind)
        have e_aSize := (up_ne ef17 n_aSize_aAlone e_aSize)
        have e_aMarks := (up_ne ef17 n_aMarks_aAlone e_aMarks)
        have e_aSeed := (up_ne ef17 n_aSeed_aAlone e_aSeed)
        have e_aContents := (up_ne ef17 n_aContents_aAlone e_aContents)
        have e_aContentMany := (up_ne ef17 n_aContentMany_aAlone e_aContentMany)
        have e_aRow := (up_ne ef17 n_aRow_aAlone e_aRow)
        have e_aBits := (up_ne ef17 n_aBits_aAlone e_aBits)
        have e_aLayerSize := (up_ne ef17 n_aLayerSize_aAlone e_aLayerSize)
        have e_aLayerCame := (up_ne ef17 n_aLayerCame_aAlone e_aLayerCame)
        have e_aRest := (up_ne ef17 n_aRest_aAlone e_aRest)
        have e_aRestMany := (up_ne ef17 n_aRestMany_aAlone e_aRestMany)
        have e_aCome := (up_ne ef17 n_aCome_aAlone e_aCome)
        have e_aRivals := (up_ne ef17 n_aRivals_aAlone e_aRivals)
        have e_aGone := (up_ne ef17 n_aGone_aAlone e_aGone)
        have e_aOrder := (up_ne ef17 n_aOrder_aAlone e_aOrder)
        have e_aOffAt := (up_ne ef17 n_aOffAt_aAlone e_aOffAt)
        have e_aIsOff := (up_ne ef17 n_aIsOff_aAlone e_aIsOff)
        have e_aKept := (up_ne ef17 n_aKept_aAlone e_aKept)
        exact ih3 (x6_3 + 1) (upd caAlone_3 (Int32.toNatClampNeg x6_3) (0 : Int32)) f17 _ _ _ ho3 S e_y e_aWorlds e_aInWorld e_aKind e_aSize e_aMarks e_aSeed e_aContents e_aContentMany e_aRow e_aBits e_aLayerSize e_aLayerCame e_aRest e_aRestMany e_aCome e_aRivals e_aGone e_aOrder e_aOffAt e_aIsOff e_aAlone e_aKept fr (lv_sub hl [0, 1, 2, 3, 4, 5, 6] rfl)
  exact LP3 FU (0 : Int32) vAlone f _ _ _ ho3 S e_y e_aWorlds e_aInWorld e_aKind e_aSize e_aMarks e_aSeed e_aContents e_aContentMany e_aRow e_aBits e_aLayerSize e_aLayerCame e_aRest e_aRestMany e_aCome e_aRivals e_aGone e_aOrder e_aOffAt e_aIsOff e_aAlone e_aKept fr (lv_sub hl [0, 1, 2, 3, 4, 5, 6] rfl)

def mX9_fewest_L50 (vWorlds : Nat → Int64) (vInWorld : Nat → Int32) (wi : Int32) (wa : Int32) (by_ : Int32) (x7_41 : Int32) : Nat → Int32 → Int32 → Int32 → (Nat → Int32) → Option (Int32 × Int32 × Int32 × (Nat → Int32))
  | 0, _, _, _, _ => none
  | fu + 1, x8_50, x6_50, x5_50, caAlone_50 => if (8 : Int32) < x8_50 then (some (x8_50, x6_50, x5_50, caAlone_50)) else ((mX9_falselyLet vWorlds vInWorld caAlone_50 wi wa x7_41 x8_50 by_).bind fun z66 => if x6_50 ≤ z66.1 then (mX9_fewest_L50 vWorlds vInWorld wi wa by_ x7_41 fu (x8_50 + 1) x6_50 x5_50 z66.2) else (mX9_fewest_L50 vWorlds vInWorld wi wa by_ x7_41 fu (x8_50 + 1) z66.1 (((16 : Int32) * x7_41) + x8_50) z66.2))
def mX9_fewest_L41 (vWorlds : Nat → Int64) (vInWorld : Nat → Int32) (wi : Int32) (wa : Int32) (mo : Int32) (by_ : Int32) : Nat → Int32 → Int32 → Int32 → (Nat → Int32) → Option (Int32 × Int32 × Int32 × (Nat → Int32))
  | 0, _, _, _, _ => none
  | fu + 1, x7_41, x6_41, x5_41, caAlone_41 => if mo < x7_41 then (some (x7_41, x6_41, x5_41, caAlone_41)) else ((mX9_fewest_L50 vWorlds vInWorld wi wa by_ x7_41 FU (1 : Int32) x6_41 x5_41 caAlone_41).bind fun o50 => mX9_fewest_L41 vWorlds vInWorld wi wa mo by_ fu ((2 : Int32) * x7_41) o50.2.1 o50.2.2.1 o50.2.2.2)
def mX9_fewest (vWorlds : Nat → Int64) (vInWorld : Nat → Int32) (vAlone : Nat → Int32) (wi : Int32) (wa : Int32) (mo : Int32) (by_ : Int32) : Option (Int32 × (Nat → Int32)) := (mX9_isWorld wi).bind fun z1 => if z1 = 0 then (some ((-1 : Int32), vAlone)) else ((mX9_isWorld wa).bind fun z8 => if z8 = 0 then (some ((-1 : Int32), vAlone)) else (if mo < (8 : Int32) then (some ((-1 : Int32), vAlone)) else (if mo ≤ (4096 : Int32) then ((mX9_fewest_L41 vWorlds vInWorld wi wa mo by_ FU (8 : Int32) (1001 : Int32) (0 : Int32) vAlone).bind fun o41 => some (o41.2.2.1, o41.2.2.2)) else (some ((-1 : Int32), vAlone)))))
set_option maxHeartbeats 4000000 in
set_option maxRecDepth 100000 in
theorem k_X9_fewest (l : Launch) (D : va_G) (g : Nat → ClassId) {L : List Nat} {f : Nat → va_E} {aAlone aBits aCome aContentMany aContents aGone aInWorld aIsOff aKept aKind aLayerCame aLayerSize aMarks aOffAt aOrder aRest aRestMany aRivals aRow aSeed aSize aWorlds y : Nat} {many : Int32} {vWorlds : Nat → Int64} {vInWorld : Nat → Int32} {vKind : Nat → Int32} {vSize : Nat → Int32} {vMarks : Nat → Int32} {vSeed : Nat → Int32} {vContents : Nat → Int64} {vContentMany : Nat → Int32} {vRow : Nat → Int32} {vBits : Nat → Int32} {vLayerSize : Nat → Int32} {vLayerCame : Nat → Int32} {vRest : Nat → Int64} {vRestMany : Nat → Int32} {vCome : Nat → Int64} {vRivals : Nat → Int64} {vGone : Nat → Int64} {vOrder : Nat → Int32} {vOffAt : Nat → Int32} {vIsOff : Nat → Int32} {vAlone : Nat → Int32} {vKept : Nat → Int32} {wi : Int32} {wa : Int32} {mo : Int32} {by_ : Int32} {ρ : Nat → Nat × Nat} {z : Int32 × (Nat → Int32)} (m_y : y ∈ L) (e_y : f y = .inr (7, [.ref aWorlds, .ref aInWorld, .ref aKind, .ref aSize, .ref aMarks, .ref aSeed, .ref aContents, .ref aContentMany, .ref aRow, .ref aBits, .ref aLayerSize, .ref aLayerCame, .ref aRest, .ref aRestMany, .int many, .ref aCome, .ref aRivals, .ref aGone, .ref aOrder, .ref aOffAt, .ref aIsOff, .ref aAlone, .ref aKept])) (m_aWorlds : aWorlds ∈ L) (e_aWorlds : f aWorlds = .inl (g 1, 8000, .inr (.inl vWorlds))) (m_aInWorld : aInWorld ∈ L) (e_aInWorld : f aInWorld = .inl (g 0, 8, .inl vInWorld)) (m_aKind : aKind ∈ L) (e_aKind : f aKind = .inl (g 0, 30, .inl vKind)) (m_aSize : aSize ∈ L) (e_aSize : f aSize = .inl (g 0, 30, .inl vSize)) (m_aMarks : aMarks ∈ L) (e_aMarks : f aMarks = .inl (g 0, 30, .inl vMarks)) (m_aSeed : aSeed ∈ L) (e_aSeed : f aSeed = .inl (g 0, 30, .inl vSeed)) (m_aContents : aContents ∈ L) (e_aContents : f aContents = .inl (g 1, 30000, .inr (.inl vContents))) (m_aContentMany : aContentMany ∈ L) (e_aContentMany : f aContentMany = .inl (g 0, 30, .inl vContentMany)) (m_aRow : aRow ∈ L) (e_aRow : f aRow = .inl (g 0, 122880, .inl vRow)) (m_aBits : aBits ∈ L) (e_aBits : f aBits = .inl (g 0, 76800, .inl vBits)) (m_aLayerSize : aLayerSize ∈ L) (e_aLayerSize : f aLayerSize = .inl (g 0, 600, .inl vLayerSize)) (m_aLayerCame : aLayerCame ∈ L) (e_aLayerCame : f aLayerCame = .inl (g 0, 600, .inl vLayerCame)) (m_aRest : aRest ∈ L) (e_aRest : f aRest = .inl (g 1, 30000, .inr (.inl vRest))) (m_aRestMany : aRestMany ∈ L) (e_aRestMany : f aRestMany = .inl (g 0, 30, .inl vRestMany)) (m_aCome : aCome ∈ L) (e_aCome : f aCome = .inl (g 1, 1000, .inr (.inl vCome))) (m_aRivals : aRivals ∈ L) (e_aRivals : f aRivals = .inl (g 1, 1000, .inr (.inl vRivals))) (m_aGone : aGone ∈ L) (e_aGone : f aGone = .inl (g 1, 1000, .inr (.inl vGone))) (m_aOrder : aOrder ∈ L) (e_aOrder : f aOrder = .inl (g 0, 1000, .inl vOrder)) (m_aOffAt : aOffAt ∈ L) (e_aOffAt : f aOffAt = .inl (g 0, 1000, .inl vOffAt)) (m_aIsOff : aIsOff ∈ L) (e_aIsOff : f aIsOff = .inl (g 2, 1000, .inl vIsOff)) (m_aAlone : aAlone ∈ L) (e_aAlone : f aAlone = .inl (g 0, 4096, .inl vAlone)) (m_aKept : aKept ∈ L) (e_aKept : f aKept = .inl (g 0, 4096, .inl vKept))  (r_aAlone : ρ aAlone = (500, 22)) (r_aKept : ρ aKept = (500, 23))  (hM : mX9_fewest vWorlds vInWorld vAlone wi wa mo by_ = some z) : cI l yX9_fewest wsX9_fewest { frames := 2, cells := 0, slots := 0, locals := 60 } D g [.ref y, .int wi, .int wa, .int mo, .int by_] L f 0 0 (fun x L1 f1 => x = z.1 ∧ L1 = L ∧ (∀ b, b ∈ L → b ≠ aAlone → f1 b = f b) ∧ f1 aAlone = .inl (g 0, 4096, .inl z.2)) := by
  refine cI_of (cc := cX9_fewest) (maxL := 10) (ret := (some .int)) (by decide) rfl (Nat.le_of_ble_eq_true rfl) ?_
  intro szz p e s m below meth c hx hb hr hml hts hown hlk hnm S ls hl
  have hl : lv_has ls 10 [(0, .ref y), (1, .int wi), (2, .int wa), (3, .int mo), (4, .int by_)] := hl
  have n_y_aAlone : y ≠ aAlone := ne_ir e_aAlone e_y
  have n_aWorlds_aAlone : aWorlds ≠ aAlone := ne_len e_aAlone e_aWorlds (by decide)
  have n_aInWorld_aAlone : aInWorld ≠ aAlone := ne_len e_aAlone e_aInWorld (by decide)
  have n_aKind_aAlone : aKind ≠ aAlone := ne_len e_aAlone e_aKind (by decide)
  have n_aSize_aAlone : aSize ≠ aAlone := ne_len e_aAlone e_aSize (by decide)
  have n_aMarks_aAlone : aMarks ≠ aAlone := ne_len e_aAlone e_aMarks (by decide)
  have n_aSeed_aAlone : aSeed ≠ aAlone := ne_len e_aAlone e_aSeed (by decide)
  have n_aContents_aAlone : aContents ≠ aAlone := ne_len e_aAlone e_aContents (by decide)
  have n_aContentMany_aAlone : aContentMany ≠ aAlone := ne_len e_aAlone e_aContentMany (by decide)
  have n_aRow_aAlone : aRow ≠ aAlone := ne_len e_aAlone e_aRow (by decide)
  have n_aBits_aAlone : aBits ≠ aAlone := ne_len e_aAlone e_aBits (by decide)
  have n_aLayerSize_aAlone : aLayerSize ≠ aAlone := ne_len e_aAlone e_aLayerSize (by decide)
  have n_aLayerCame_aAlone : aLayerCame ≠ aAlone := ne_len e_aAlone e_aLayerCame (by decide)
  have n_aRest_aAlone : aRest ≠ aAlone := ne_len e_aAlone e_aRest (by decide)
  have n_aRestMany_aAlone : aRestMany ≠ aAlone := ne_len e_aAlone e_aRestMany (by decide)
  have n_aCome_aAlone : aCome ≠ aAlone := ne_len e_aAlone e_aCome (by decide)
  have n_aRivals_aAlone : aRivals ≠ aAlone := ne_len e_aAlone e_aRivals (by decide)
  have n_aGone_aAlone : aGone ≠ aAlone := ne_len e_aAlone e_aGone (by decide)
  have n_aOrder_aAlone : aOrder ≠ aAlone := ne_len e_aAlone e_aOrder (by decide)
  have n_aOffAt_aAlone : aOffAt ≠ aAlone := ne_len e_aAlone e_aOffAt (by decide)
  have n_aIsOff_aAlone : aIsOff ≠ aAlone := ne_len e_aAlone e_aIsOff (by decide)
  have n_aKept_aAlone : aKept ≠ aAlone := role_ne r_aAlone r_aKept (by decide)
  have fr : ∀ b, b ∈ L → b ≠ aAlone → f b = f b := fun _ _ _ => rfl
  unfold mX9_fewest at hM
  refine W_gen (fun QQ hQQ => ?_)
  refine lv_iload_n hx hb dX9_fewest_0 rfl (lv_at hl 1 rfl) ?_
  obtain ⟨z1, hz1, hM⟩ := bind_some hM
  refine q_si (As := [.int wi]) (rest := []) ⟨hx, hb, hml, hown, hts⟩ (k_X9_isWorld l D g hz1) (va_cwS 1 hts gX9_fewest_X9_isWorld rfl rfl rfl (by decide +kernel) ⟨Nat.le_of_ble_eq_true rfl, Nat.le_of_ble_eq_true rfl⟩) S rfl hl.1 rfl (Nat.le_of_ble_eq_true rfl) dX9_fewest_1 ⟨Nat.le_of_ble_eq_true rfl, Nat.le_of_ble_eq_true rfl⟩ (fun r3 L1 f2 H locs S w1 => ?_)
  obtain ⟨ex1, eL, ef⟩ := w1
  rw [eL, ef] at S
  replace ex1 := ex1.symm
  subst ex1
  refine lv_if_eq (tgt := 27) hx hb dX9_fewest_4 (by decide) (fun b4 => ?_) (fun b4 => ?_)
  · have hM := itT b4 hM
    refine lv_iconst (v := (-1 : Int32)) hx hb dX9_fewest_27 (by decide) ?_
    subst hQQ
    exact q_reti (post := fun x L1 f1 => x = z.1 ∧ L1 = L ∧ (∀ b, b ∈ L → b ≠ aAlone → f1 b = f b) ∧ f1 aAlone = .inl (g 0, 4096, .inl z.2)) hx hb hr hlk S dX9_fewest_28 (by decide) (by decide) (by have hz := Option.some.inj hM; subst hz; exact ⟨rfl, rfl, fr, e_aAlone⟩)
  · have hM := itF b4 hM
    refine lv_iload_n hx hb dX9_fewest_7 rfl (lv_at hl 2 rfl) ?_
    obtain ⟨z8, hz8, hM⟩ := bind_some hM
    refine q_si (As := [.int wa]) (rest := []) ⟨hx, hb, hml, hown, hts⟩ (k_X9_isWorld l D g hz8) (va_cwS 1 hts gX9_fewest_X9_isWorld rfl rfl rfl (by decide +kernel) ⟨Nat.le_of_ble_eq_true rfl, Nat.le_of_ble_eq_true rfl⟩) S rfl hl.1 rfl (Nat.le_of_ble_eq_true rfl) dX9_fewest_8 ⟨Nat.le_of_ble_eq_true rfl, Nat.le_of_ble_eq_true rfl⟩ (fun r6 L4 f5 H locs S w8 => ?_)
    obtain ⟨ex8, eL, ef⟩ := w8
    rw [eL, ef] at S
    replace ex8 := ex8.symm
    subst ex8
    refine lv_if_eq (tgt := 27) hx hb dX9_fewest_11 (by decide) (fun b11 => ?_) (fun b11 => ?_)
    · have hM := itT b11 hM
      refine lv_iconst (v := (-1 : Int32)) hx hb dX9_fewest_27 (by decide) ?_
      subst hQQ
      exact q_reti (post := fun x L1 f1 => x = z.1 ∧ L1 = L ∧ (∀ b, b ∈ L → b ≠ aAlone → f1 b = f b) ∧ f1 aAlone = .inl (g 0, 4096, .inl z.2)) hx hb hr hlk S dX9_fewest_28 (by decide) (by decide) (by have hz := Option.some.inj hM; subst hz; exact ⟨rfl, rfl, fr, e_aAlone⟩)
    · have hM := itF b11 hM
      refine lv_iload_n hx hb dX9_fewest_14 rfl (lv_at hl 3 rfl) ?_
      refine lv_bipush (v := (8 : Int32)) hx hb dX9_fewest_15 (by decide) ?_
      refine lv_icmp_lt (tgt := 27) hx hb dX9_fewest_17 (by decide) (fun b17 => ?_) (fun b17 => ?_)
      · have hM := itT b17 hM
        refine lv_iconst (v := (-1 : Int32)) hx hb dX9_fewest_27 (by decide) ?_
        subst hQQ
        exact q_reti (post := fun x L1 f1 => x = z.1 ∧ L1 = L ∧ (∀ b, b ∈ L → b ≠ aAlone → f1 b = f b) ∧ f1 aAlone = .inl (g 0, 4096, .inl z.2)) hx hb hr hlk S dX9_fewest_28 (by decide) (by decide) (by have hz := Option.some.inj hM; subst hz; exact ⟨rfl, rfl, fr, e_aAlone⟩)
      · have hM := itF b17 hM
        refine lv_iload_n hx hb dX9_fewest_20 rfl (lv_at hl 3 rfl) ?_
        refine lv_sipush (v := (4096 : Int32)) hx hb dX9_fewest_21 (by decide) ?_
        refine lv_icmp_le (tgt := 29) hx hb dX9_fewest_24 (by decide) (fun b24 => ?_) (fun b24 => ?_)
        · have hM := itT b24 hM
          refine lv_iconst (v := (0 : Int32)) hx hb dX9_fewest_29 (by decide) ?_
          refine lv_istore (lv' := [(5, .int (0 : Int32)), (0, .ref y), (1, .int wi), (2, .int wa), (3, .int mo), (4, .int by_)]) hx hb dX9_fewest_30 hl (by decide) rfl (fun ls hl => ?_)
          refine lv_sipush (v := (1001 : Int32)) hx hb dX9_fewest_32 (by decide) ?_
          refine lv_istore (lv' := [(6, .int (1001 : Int32)), (5, .int (0 : Int32)), (0, .ref y), (1, .int wi), (2, .int wa), (3, .int mo), (4, .int by_)]) hx hb dX9_fewest_35 hl (by decide) rfl (fun ls hl => ?_)
          refine lv_bipush (v := (8 : Int32)) hx hb dX9_fewest_37 (by decide) ?_
          refine lv_istore (lv' := [(7, .int (8 : Int32)), (6, .int (1001 : Int32)), (5, .int (0 : Int32)), (0, .ref y), (1, .int wi), (2, .int wa), (3, .int mo), (4, .int by_)]) hx hb dX9_fewest_39 hl (by decide) rfl (fun ls hl => ?_)
          obtain ⟨o41, ho41, hM⟩ := bind_some hM
          have EX41 : ∀ (fl41 : Nat → va_E) (H : Heap) (locs : List Loc) (ls : Array Slot), PS D g (va_A (va_pl L f) szz) s.heap s L fl41 H locs → fl41 y = .inr (7, [.ref aWorlds, .ref aInWorld, .ref aKind, .ref aSize, .ref aMarks, .ref aSeed, .ref aContents, .ref aContentMany, .ref aRow, .ref aBits, .ref aLayerSize, .ref aLayerCame, .ref aRest, .ref aRestMany, .int many, .ref aCome, .ref aRivals, .ref aGone, .ref aOrder, .ref aOffAt, .ref aIsOff, .ref aAlone, .ref aKept]) → fl41 aWorlds = .inl (g 1, 8000, .inr (.inl vWorlds)) → fl41 aInWorld = .inl (g 0, 8, .inl vInWorld) → fl41 aKind = .inl (g 0, 30, .inl vKind) → fl41 aSize = .inl (g 0, 30, .inl vSize) → fl41 aMarks = .inl (g 0, 30, .inl vMarks) → fl41 aSeed = .inl (g 0, 30, .inl vSeed) → fl41 aContents = .inl (g 1, 30000, .inr (.inl vContents)) → fl41 aContentMany = .inl (g 0, 30, .inl vContentMany) → fl41 aRow = .inl (g 0, 122880, .inl vRow) → fl41 aBits = .inl (g 0, 76800, .inl vBits) → fl41 aLayerSize = .inl (g 0, 600, .inl vLayerSize) → fl41 aLayerCame = .inl (g 0, 600, .inl vLayerCame) → fl41 aRest = .inl (g 1, 30000, .inr (.inl vRest)) → fl41 aRestMany = .inl (g 0, 30, .inl vRestMany) → fl41 aCome = .inl (g 1, 1000, .inr (.inl vCome)) → fl41 aRivals = .inl (g 1, 1000, .inr (.inl vRivals)) → fl41 aGone = .inl (g 1, 1000, .inr (.inl vGone)) → fl41 aOrder = .inl (g 0, 1000, .inl vOrder) → fl41 aOffAt = .inl (g 0, 1000, .inl vOffAt) → fl41 aIsOff = .inl (g 2, 1000, .inl vIsOff) → fl41 aAlone = .inl (g 0, 4096, .inl o41.2.2.2) → fl41 aKept = .inl (g 0, 4096, .inl vKept) → (∀ b, b ∈ L → b ≠ aAlone → fl41 b = f b) → lv_has ls 10 [(5, .int o41.2.2.1)] → W p l e { frames := 2, cells := 0, slots := 0, locals := 60 } s m [.ref y, .int wi, .int wa, .int mo, .int by_].toArray below meth c H locs 0 0 QQ (F0 m 107 ls []) := by
            intro fl41 H locs ls S e_y e_aWorlds e_aInWorld e_aKind e_aSize e_aMarks e_aSeed e_aContents e_aContentMany e_aRow e_aBits e_aLayerSize e_aLayerCame e_aRest e_aRestMany e_aCome e_aRivals e_aGone e_aOrder e_aOffAt e_aIsOff e_aAlone e_aKept fr hl
            refine lv_iload hx hb dX9_fewest_107 (lv_at hl 0 rfl) ?_
            subst hQQ
            exact q_reti (post := fun x L1 f1 => x = z.1 ∧ L1 = L ∧ (∀ b, b ∈ L → b ≠ aAlone → f1 b = f b) ∧ f1 aAlone = .inl (g 0, 4096, .inl z.2)) hx hb hr hlk S dX9_fewest_109 (by decide) (by decide) (by have hz := Option.some.inj hM; subst hz; exact ⟨rfl, rfl, fr, e_aAlone⟩)
          have LP41 : ∀ (fu : Nat) (x7_41 : Int32) (x6_41 : Int32) (x5_41 : Int32) (caAlone_41 : Nat → Int32) (fl41 : Nat → va_E) (H : Heap) (locs : List Loc) (ls : Array Slot), (mX9_fewest_L41 vWorlds vInWorld wi wa mo by_) fu x7_41 x6_41 x5_41 caAlone_41 = some o41 → PS D g (va_A (va_pl L f) szz) s.heap s L fl41 H locs → fl41 y = .inr (7, [.ref aWorlds, .ref aInWorld, .ref aKind, .ref aSize, .ref aMarks, .ref aSeed, .ref aContents, .ref aContentMany, .ref aRow, .ref aBits, .ref aLayerSize, .ref aLayerCame, .ref aRest, .ref aRestMany, .int many, .ref aCome, .ref aRivals, .ref aGone, .ref aOrder, .ref aOffAt, .ref aIsOff, .ref aAlone, .ref aKept]) → fl41 aWorlds = .inl (g 1, 8000, .inr (.inl vWorlds)) → fl41 aInWorld = .inl (g 0, 8, .inl vInWorld) → fl41 aKind = .inl (g 0, 30, .inl vKind) → fl41 aSize = .inl (g 0, 30, .inl vSize) → fl41 aMarks = .inl (g 0, 30, .inl vMarks) → fl41 aSeed = .inl (g 0, 30, .inl vSeed) → fl41 aContents = .inl (g 1, 30000, .inr (.inl vContents)) → fl41 aContentMany = .inl (g 0, 30, .inl vContentMany) → fl41 aRow = .inl (g 0, 122880, .inl vRow) → fl41 aBits = .inl (g 0, 76800, .inl vBits) → fl41 aLayerSize = .inl (g 0, 600, .inl vLayerSize) → fl41 aLayerCame = .inl (g 0, 600, .inl vLayerCame) → fl41 aRest = .inl (g 1, 30000, .inr (.inl vRest)) → fl41 aRestMany = .inl (g 0, 30, .inl vRestMany) → fl41 aCome = .inl (g 1, 1000, .inr (.inl vCome)) → fl41 aRivals = .inl (g 1, 1000, .inr (.inl vRivals)) → fl41 aGone = .inl (g 1, 1000, .inr (.inl vGone)) → fl41 aOrder = .inl (g 0, 1000, .inl vOrder) → fl41 aOffAt = .inl (g 0, 1000, .inl vOffAt) → fl41 aIsOff = .inl (g 2, 1000, .inl vIsOff) → fl41 aAlone = .inl (g 0, 4096, .inl caAlone_41) → fl41 aKept = .inl (g 0, 4096, .inl vKept) → (∀ b, b ∈ L → b ≠ aAlone → fl41 b = f b) → lv_has ls 10 [(7, .int x7_41), (6, .int x6_41), (5, .int x5_41), (0, .ref y), (1, .int wi), (2, .int wa), (3, .int mo), (4, .int by_)] → W p l e { frames := 2, cells := 0, slots := 0, locals := 60 } s m [.ref y, .int wi, .int wa, .int mo, .int by_].toArray below meth c H locs 0 0 QQ (F0 m 41 ls []) := by
            intro fu
            induction fu with
            | zero => intro x7_41 x6_41 x5_41 caAlone_41 fl41 H locs ls ho41 S e_y e_aWorlds e_aInWorld e_aKind e_aSize e_aMarks e_aSeed e_aContents e_aContentMany e_aRow e_aBits e_aLayerSize e_aLayerCame e_aRest e_aRestMany e_aCome e_aRivals e_aGone e_aOrder e_aOffAt e_aIsOff e_aAlone e_aKept fr hl; exact no_some ho41
            | succ fu ih41 =>
              intro x7_41 x6_41 x5_41 caAlone_41 fl41 H locs ls ho41 S e_y e_aWorlds e_aInWorld e_aKind e_aSize e_aMarks e_aSeed e_aContents e_aContentMany e_aRow e_aBits e_aLayerSize e_aLayerCame e_aRest e_aRestMany e_aCome e_aRivals e_aGone e_aOrder e_aOffAt e_aIsOff e_aAlone e_aKept fr hl
              rw [mX9_fewest_L41] at ho41
              refine lv_iload hx hb dX9_fewest_41 (lv_at hl 0 rfl) ?_
              refine lv_iload_n hx hb dX9_fewest_43 rfl (lv_at hl 6 rfl) ?_
              refine lv_icmp_gt (tgt := 107) hx hb dX9_fewest_44 (by decide) (fun b44 => ?_) (fun b44 => ?_)
              · have ho41 := itT b44 ho41
                obtain rfl := Option.some.inj ho41
                exact EX41 fl41 _ _ _ S e_y e_aWorlds e_aInWorld e_aKind e_aSize e_aMarks e_aSeed e_aContents e_aContentMany e_aRow e_aBits e_aLayerSize e_aLayerCame e_aRest e_aRestMany e_aCome e_aRivals e_aGone e_aOrder e_aOffAt e_aIsOff e_aAlone e_aKept fr (lv_sub hl [2] rfl)
              · have ho41 := itF b44 ho41
                refine lv_iconst (v := (1 : Int32)) hx hb dX9_fewest_47 (by decide) ?_
                refine lv_istore (lv' := [(8, .int (1 : Int32)), (7, .int x7_41), (6, .int x6_41), (5, .int x5_41), (0, .ref y), (1, .int wi), (2, .int wa), (3, .int mo), (4, .int by_)]) hx hb dX9_fewest_48 hl (by decide) rfl (fun ls hl => ?_)
                obtain ⟨o50, ho50, ho41⟩ := bind_some ho41
                have EX50 : ∀ (fl50 : Nat → va_E) (H : Heap) (locs : List Loc) (ls : Array Slot), PS D g (va_A (va_pl L f) szz) s.heap s L fl50 H locs → fl50 y = .inr (7, [.ref aWorlds, .ref aInWorld, .ref aKind, .ref aSize, .ref aMarks, .ref aSeed, .ref aContents, .ref aContentMany, .ref aRow, .ref aBits, .ref aLayerSize, .ref aLayerCame, .ref aRest, .ref aRestMany, .int many, .ref aCome, .ref aRivals, .ref aGone, .ref aOrder, .ref aOffAt, .ref aIsOff, .ref aAlone, .ref aKept]) → fl50 aWorlds = .inl (g 1, 8000, .inr (.inl vWorlds)) → fl50 aInWorld = .inl (g 0, 8, .inl vInWorld) → fl50 aKind = .inl (g 0, 30, .inl vKind) → fl50 aSize = .inl (g 0, 30, .inl vSize) → fl50 aMarks = .inl (g 0, 30, .inl vMarks) → fl50 aSeed = .inl (g 0, 30, .inl vSeed) → fl50 aContents = .inl (g 1, 30000, .inr (.inl vContents)) → fl50 aContentMany = .inl (g 0, 30, .inl vContentMany) → fl50 aRow = .inl (g 0, 122880, .inl vRow) → fl50 aBits = .inl (g 0, 76800, .inl vBits) → fl50 aLayerSize = .inl (g 0, 600, .inl vLayerSize) → fl50 aLayerCame = .inl (g 0, 600, .inl vLayerCame) → fl50 aRest = .inl (g 1, 30000, .inr (.inl vRest)) → fl50 aRestMany = .inl (g 0, 30, .inl vRestMany) → fl50 aCome = .inl (g 1, 1000, .inr (.inl vCome)) → fl50 aRivals = .inl (g 1, 1000, .inr (.inl vRivals)) → fl50 aGone = .inl (g 1, 1000, .inr (.inl vGone)) → fl50 aOrder = .inl (g 0, 1000, .inl vOrder) → fl50 aOffAt = .inl (g 0, 1000, .inl vOffAt) → fl50 aIsOff = .inl (g 2, 1000, .inl vIsOff) → fl50 aAlone = .inl (g 0, 4096, .inl o50.2.2.2) → fl50 aKept = .inl (g 0, 4096, .inl vKept) → (∀ b, b ∈ L → b ≠ aAlone → fl50 b = f b) → lv_has ls 10 [(7, .int x7_41), (6, .int o50.2.1), (5, .int o50.2.2.1), (0, .ref y), (1, .int wi), (2, .int wa), (3, .int mo), (4, .int by_)] → W p l e { frames := 2, cells := 0, slots := 0, locals := 60 } s m [.ref y, .int wi, .int wa, .int mo, .int by_].toArray below meth c H locs 0 0 QQ (F0 m 98 ls []) := by
                  intro fl50 H locs ls S e_y e_aWorlds e_aInWorld e_aKind e_aSize e_aMarks e_aSeed e_aContents e_aContentMany e_aRow e_aBits e_aLayerSize e_aLayerCame e_aRest e_aRestMany e_aCome e_aRivals e_aGone e_aOrder e_aOffAt e_aIsOff e_aAlone e_aKept fr hl
                  refine lv_iconst (v := (2 : Int32)) hx hb dX9_fewest_98 (by decide) ?_
                  refine lv_iload hx hb dX9_fewest_99 (lv_at hl 0 rfl) ?_
                  refine lv_imul hx hb dX9_fewest_101 ?_
                  refine lv_istore (lv' := [(7, .int ((2 : Int32) * x7_41)), (6, .int o50.2.1), (5, .int o50.2.2.1), (0, .ref y), (1, .int wi), (2, .int wa), (3, .int mo), (4, .int by_)]) hx hb dX9_fewest_102 hl (by decide) rfl (fun ls hl => ?_)
                  refine lv_goto (tgt := 41) hx hb dX9_fewest_104 (by decide) ?_
                  exact ih41 ((2 : Int32) * x7_41) o50.2.1 o50.2.2.1 o50.2.2.2 fl50 _ _ _ ho41 S e_y e_aWorlds e_aInWorld e_aKind e_aSize e_aMarks e_aSeed e_aContents e_aContentMany e_aRow e_aBits e_aLayerSize e_aLayerCame e_aRest e_aRestMany e_aCome e_aRivals e_aGone e_aOrder e_aOffAt e_aIsOff e_aAlone e_aKept fr (lv_sub hl [0, 1, 2, 3, 4, 5, 6, 7] rfl)
                have LP50 : ∀ (fu : Nat) (x8_50 : Int32) (x6_50 : Int32) (x5_50 : Int32) (caAlone_50 : Nat → Int32) (fl50 : Nat → va_E) (H : Heap) (locs : List Loc) (ls : Array Slot), (mX9_fewest_L50 vWorlds vInWorld wi wa by_ x7_41) fu x8_50 x6_50 x5_50 caAlone_50 = some o50 → PS D g (va_A (va_pl L f) szz) s.heap s L fl50 H locs → fl50 y = .inr (7, [.ref aWorlds, .ref aInWorld, .ref aKind, .ref aSize, .ref aMarks, .ref aSeed, .ref aContents, .ref aContentMany, .ref aRow, .ref aBits, .ref aLayerSize, .ref aLayerCame, .ref aRest, .ref aRestMany, .int many, .ref aCome, .ref aRivals, .ref aGone, .ref aOrder, .ref aOffAt, .ref aIsOff, .ref aAlone, .ref aKept]) → fl50 aWorlds = .inl (g 1, 8000, .inr (.inl vWorlds)) → fl50 aInWorld = .inl (g 0, 8, .inl vInWorld) → fl50 aKind = .inl (g 0, 30, .inl vKind) → fl50 aSize = .inl (g 0, 30, .inl vSize) → fl50 aMarks = .inl (g 0, 30, .inl vMarks) → fl50 aSeed = .inl (g 0, 30, .inl vSeed) → fl50 aContents = .inl (g 1, 30000, .inr (.inl vContents)) → fl50 aContentMany = .inl (g 0, 30, .inl vContentMany) → fl50 aRow = .inl (g 0, 122880, .inl vRow) → fl50 aBits = .inl (g 0, 76800, .inl vBits) → fl50 aLayerSize = .inl (g 0, 600, .inl vLayerSize) → fl50 aLayerCame = .inl (g 0, 600, .inl vLayerCame) → fl50 aRest = .inl (g 1, 30000, .inr (.inl vRest)) → fl50 aRestMany = .inl (g 0, 30, .inl vRestMany) → fl50 aCome = .inl (g 1, 1000, .inr (.inl vCome)) → fl50 aRivals = .inl (g 1, 1000, .inr (.inl vRivals)) → fl50 aGone = .inl (g 1, 1000, .inr (.inl vGone)) → fl50 aOrder = .inl (g 0, 1000, .inl vOrder) → fl50 aOffAt = .inl (g 0, 1000, .inl vOffAt) → fl50 aIsOff = .inl (g 2, 1000, .inl vIsOff) → fl50 aAlone = .inl (g 0, 4096, .inl caAlone_50) → fl50 aKept = .inl (g 0, 4096, .inl vKept) → (∀ b, b ∈ L → b ≠ aAlone → fl50 b = f b) → lv_has ls 10 [(8, .int x8_50), (7, .int x7_41), (6, .int x6_50), (5, .int x5_50), (0, .ref y), (1, .int wi), (2, .int wa), (3, .int mo), (4, .int by_)] → W p l e { frames := 2, cells := 0, slots := 0, locals := 60 } s m [.ref y, .int wi, .int wa, .int mo, .int by_].toArray below meth c H locs 0 0 QQ (F0 m 50 ls []) := by
                  intro fu
                  induction fu with
                  | zero => intro x8_50 x6_50 x5_50 caAlone_50 fl50 H locs ls ho50 S e_y e_aWorlds e_aInWorld e_aKind e_aSize e_aMarks e_aSeed e_aContents e_aContentMany e_aRow e_aBits e_aLayerSize e_aLayerCame e_aRest e_aRestMany e_aCome e_aRivals e_aGone e_aOrder e_aOffAt e_aIsOff e_aAlone e_aKept fr hl; exact no_some ho50
                  | succ fu ih50 =>
                    intro x8_50 x6_50 x5_50 caAlone_50 fl50 H locs ls ho50 S e_y e_aWorlds e_aInWorld e_aKind e_aSize e_aMarks e_aSeed e_aContents e_aContentMany e_aRow e_aBits e_aLayerSize e_aLayerCame e_aRest e_aRestMany e_aCome e_aRivals e_aGone e_aOrder e_aOffAt e_aIsOff e_aAlone e_aKept fr hl
                    rw [mX9_fewest_L50] at ho50
                    refine lv_iload hx hb dX9_fewest_50 (lv_at hl 0 rfl) ?_
                    refine lv_bipush (v := (8 : Int32)) hx hb dX9_fewest_52 (by decide) ?_
                    refine lv_icmp_gt (tgt := 98) hx hb dX9_fewest_54 (by decide) (fun b54 => ?_) (fun b54 => ?_)
                    · have ho50 := itT b54 ho50
                      obtain rfl := Option.some.inj ho50
                      exact EX50 fl50 _ _ _ S e_y e_aWorlds e_aInWorld e_aKind e_aSize e_aMarks e_aSeed e_aContents e_aContentMany e_aRow e_aBits e_aLayerSize e_aLayerCame e_aRest e_aRestMany e_aCome e_aRivals e_aGone e_aOrder e_aOffAt e_aIsOff e_aAlone e_aKept fr (lv_sub hl [1, 2, 3, 4, 5, 6, 7, 8] rfl)
                    · have ho50 := itF b54 ho50
                      refine lv_aload_n hx hb dX9_fewest_57 rfl (lv_at hl 4 rfl) ?_
                      refine lv_iload_n hx hb dX9_fewest_58 rfl (lv_at hl 5 rfl) ?_
                      refine lv_iload_n hx hb dX9_fewest_59 rfl (lv_at hl 6 rfl) ?_
                      refine lv_iload hx hb dX9_fewest_60 (lv_at hl 1 rfl) ?_
                      refine lv_iload hx hb dX9_fewest_62 (lv_at hl 0 rfl) ?_
                      refine lv_iload hx hb dX9_fewest_64 (lv_at hl 8 rfl) ?_
                      obtain ⟨z66, hz66, ho50⟩ := bind_some ho50
                      refine q_vi (As := [.int wi, .int wa, .int x7_41, .int x8_50, .int by_]) (rest := []) ⟨hx, hb, hml, hown, hts⟩ (k_X9_falselyLet l D g m_y e_y m_aWorlds e_aWorlds m_aInWorld e_aInWorld m_aKind e_aKind m_aSize e_aSize m_aMarks e_aMarks m_aSeed e_aSeed m_aContents e_aContents m_aContentMany e_aContentMany m_aRow e_aRow m_aBits e_aBits m_aLayerSize e_aLayerSize m_aLayerCame e_aLayerCame m_aRest e_aRest m_aRestMany e_aRestMany m_aCome e_aCome m_aRivals e_aRivals m_aGone e_aGone m_aOrder e_aOrder m_aOffAt e_aOffAt m_aIsOff e_aIsOff m_aAlone e_aAlone m_aKept e_aKept r_aAlone r_aKept hz66) (cwV 5 hts gX9_fewest_X9_falselyLet rfl rfl rfl (by decide +kernel) ⟨Nat.le_of_ble_eq_true rfl, Nat.le_of_ble_eq_true rfl⟩) S m_y e_y (T := TX9) (N := 23) rfl rfl hl.1 rfl (Nat.le_of_ble_eq_true rfl) dX9_fewest_66 ⟨Nat.le_of_ble_eq_true rfl, Nat.le_of_ble_eq_true rfl⟩ (fun r9 L7 f8 H locs S w66 => ?_)
                      obtain ⟨ex66, eL, fv66, E_aAlone⟩ := w66
                      rw [eL] at S
                      have fr : ∀ b, b ∈ L → b ≠ aAlone → f8 b = f b := fun b mb nb0 => (fv66 b mb nb0).trans (fr b mb nb0)
                      have e_aAlone : f8 aAlone = .inl (g 0, 4096, .inl z66.2) := E_aAlone
                      replace ex66 := ex66.symm
                      subst ex66
                      refine lv_istore (lv' := [(9, .int z66.1), (8, .int x8_50), (7, .int x7_41), (6, .int x6_50), (5, .int x5_50), (0, .ref y), (1, .int wi), (2, .int wa), (3, .int mo), (4, .int by_)]) hx hb dX9_fewest_69 hl (by decide) rfl (fun ls hl => ?_)
                      refine lv_iload hx hb dX9_fewest_71 (lv_at hl 0 rfl) ?_
                      refine lv_iload hx hb dX9_fewest_73 (lv_at hl 3 rfl) ?_
                      refine lv_icmp_ge (tgt := 92) hx hb dX9_fewest_75 (by decide) (fun b75 => ?_) (fun b75 => ?_)
                      · have ho50 := itT b75 ho50
                        refine lv_iinc (v := (x8_50 + 1)) (lv' := [(8, .int (x8_50 + 1)), (9, .int z66.1), (7, .int x7_41), (6, .int x6_50), (5, .int x5_50), (0, .ref y), (1, .int wi), (2, .int wa), (3, .int mo), (4, .int by_)]) hx hb dX9_fewest_92 hl (k := 1) rfl rfl (by decide) rfl (fun ls hl => ?_)
                        refine lv_goto (tgt := 50) hx hb dX9_fewest_95 (by decide) ?_
                        have e_y := ((fv66 y m_y n_y_aAlone).trans e_y)
                        have e_aWorlds := ((fv66 aWorlds m_aWorlds n_aWorlds_aAlone).trans e_aWorlds)
                        have e_aInWorld := ((fv66 aInWorld m_aInWorld n_aInWorld_aAlone).trans e_aInWorld)
                        have e_aKind := ((fv66 aKind m_aKind n_aKind_aAlone).trans e_aKind)
                        have e_aSize := ((fv66 aSize m_aSize n_aSize_aAlone).trans e_aSize)
                        have e_aMarks := ((fv66 aMarks m_aMarks n_aMarks_aAlone).trans e_aMarks)
                        have e_aSeed := ((fv66 aSeed m_aSeed n_aSeed_aAlone).trans e_aSeed)
                        have e_aContents := ((fv66 aContents m_aContents n_aContents_aAlone).trans e_aContents)
                        have e_aContentMany := ((fv66 aContentMany m_aContentMany n_aContentMany_aAlone).trans e_aContentMany)
                        have e_aRow := ((fv66 aRow m_aRow n_aRow_aAlone).trans e_aRow)
                        have e_aBits := ((fv66 aBits m_aBits n_aBits_aAlone).trans e_aBits)
                        have e_aLayerSize := ((fv66 aLayerSize m_aLayerSize n_aLayerSize_aAlone).trans e_aLayerSize)
                        have e_aLayerCame := ((fv66 aLayerCame m_aLayerCame n_aLayerCame_aAlone).trans e_aLayerCame)
                        have e_aRest := ((fv66 aRest m_aRest n_aRest_aAlone).trans e_aRest)
                        have e_aRestMany := ((fv66 aRestMany m_aRestMany n_aRestMany_aAlone).trans e_aRestMany)
                        have e_aCome := ((fv66 aCome m_aCome n_aCome_aAlone).trans e_aCome)
                        have e_aRivals := ((fv66 aRivals m_aRivals n_aRivals_aAlone).trans e_aRivals)
                        have e_aGone := ((fv66 aGone m_aGone n_aGone_aAlone).trans e_aGone)
                        have e_aOrder := ((fv66 aOrder m_aOrder n_aOrder_aAlone).trans e_aOrder)
                        have e_aOffAt := ((fv66 aOffAt m_aOffAt n_aOffAt_aAlone).trans e_aOffAt)
                        have e_aIsOff := ((fv66 aIsOff m_aIsOff n_aIsOff_aAlone).trans e_aIsOff)
                        have e_aKept := ((fv66 aKept m_aKept n_aKept_aAlone).trans e_aKept)
                        exact ih50 (x8_50 + 1) x6_50 x5_50 z66.2 f8 _ _ _ ho50 S e_y e_aWorlds e_aInWorld e_aKind e_aSize e_aMarks e_aSeed e_aContents e_aContentMany e_aRow e_aBits e_aLayerSize e_aLayerCame e_aRest e_aRestMany e_aCome e_aRivals e_aGone e_aOrder e_aOffAt e_aIsOff e_aAlone e_aKept fr (lv_sub hl [0, 2, 3, 4, 5, 6, 7, 8, 9] rfl)
                      · have ho50 := itF b75 ho50
                        refine lv_iload hx hb dX9_fewest_78 (lv_at hl 0 rfl) ?_
                        refine lv_istore (lv' := [(6, .int z66.1), (9, .int z66.1), (8, .int x8_50), (7, .int x7_41), (5, .int x5_50), (0, .ref y), (1, .int wi), (2, .int wa), (3, .int mo), (4, .int by_)]) hx hb dX9_fewest_80 hl (by decide) rfl (fun ls hl => ?_)
                        refine lv_bipush (v := (16 : Int32)) hx hb dX9_fewest_82 (by decide) ?_
                        refine lv_iload hx hb dX9_fewest_84 (lv_at hl 3 rfl) ?_
                        refine lv_imul hx hb dX9_fewest_86 ?_
                        refine lv_iload hx hb dX9_fewest_87 (lv_at hl 2 rfl) ?_
                        refine lv_iadd hx hb dX9_fewest_89 ?_
                        refine lv_istore (lv' := [(5, .int (((16 : Int32) * x7_41) + x8_50)), (6, .int z66.1), (9, .int z66.1), (8, .int x8_50), (7, .int x7_41), (0, .ref y), (1, .int wi), (2, .int wa), (3, .int mo), (4, .int by_)]) hx hb dX9_fewest_90 hl (by decide) rfl (fun ls hl => ?_)
                        refine lv_iinc (v := (x8_50 + 1)) (lv' := [(8, .int (x8_50 + 1)), (5, .int (((16 : Int32) * x7_41) + x8_50)), (6, .int z66.1), (9, .int z66.1), (7, .int x7_41), (0, .ref y), (1, .int wi), (2, .int wa), (3, .int mo), (4, .int by_)]) hx hb dX9_fewest_92 hl (k := 3) rfl rfl (by decide) rfl (fun ls hl => ?_)
                        refine lv_goto (tgt := 50) hx hb dX9_fewest_95 (by decide) ?_
                        have e_y := ((fv66 y m_y n_y_aAlone).trans e_y)
                        have e_aWorlds := ((fv66 aWorlds m_aWorlds n_aWorlds_aAlone).trans e_aWorlds)
                        have e_aInWorld := ((fv66 aInWorld m_aInWorld n_aInWorld_aAlone).trans e_aInWorld)
                        have e_aKind := ((fv66 aKind m_aKind n_aKind_aAlone).trans e_aKind)
                        have e_aSize := ((fv66 aSize m_aSize n_aSize_aAlone).trans e_aSize)
                        have e_aMarks := ((fv66 aMarks m_aMarks n_aMarks_aAlone).trans e_aMarks)
                        have e_aSeed := ((fv66 aSeed m_aSeed n_aSeed_aAlone).trans e_aSeed)
                        have e_aContents := ((fv66 aContents m_aContents n_aContents_aAlone).trans e_aContents)
                        have e_aContentMany := ((fv66 aContentMany m_aContentMany n_aContentMany_aAlone).trans e_aContentMany)
                        have e_aRow := ((fv66 aRow m_aRow n_aRow_aAlone).trans e_aRow)
                        have e_aBits := ((fv66 aBits m_aBits n_aBits_aAlone).trans e_aBits)
                        have e_aLayerSize := ((fv66 aLayerSize m_aLayerSize n_aLayerSize_aAlone).trans e_aLayerSize)
                        have e_aLayerCame := ((fv66 aLayerCame m_aLayerCame n_aLayerCame_aAlone).trans e_aLayerCame)
                        have e_aRest := ((fv66 aRest m_aRest n_aRest_aAlone).trans e_aRest)
                        have e_aRestMany := ((fv66 aRestMany m_aRestMany n_aRestMany_aAlone).trans e_aRestMany)
                        have e_aCome := ((fv66 aCome m_aCome n_aCome_aAlone).trans e_aCome)
                        have e_aRivals := ((fv66 aRivals m_aRivals n_aRivals_aAlone).trans e_aRivals)
                        have e_aGone := ((fv66 aGone m_aGone n_aGone_aAlone).trans e_aGone)
                        have e_aOrder := ((fv66 aOrder m_aOrder n_aOrder_aAlone).trans e_aOrder)
                        have e_aOffAt := ((fv66 aOffAt m_aOffAt n_aOffAt_aAlone).trans e_aOffAt)
                        have e_aIsOff := ((fv66 aIsOff m_aIsOff n_aIsOff_aAlone).trans e_aIsOff)
                        have e_aKept := ((fv66 aKept m_aKept n_aKept_aAlone).trans e_aKept)
                        exact ih50 (x8_50 + 1) z66.1 (((16 : Int32) * x7_41) + x8_50) z66.2 f8 _ _ _ ho50 S e_y e_aWorlds e_aInWorld e_aKind e_aSize e_aMarks e_aSeed e_aContents e_aContentMany e_aRow e_aBits e_aLayerSize e_aLayerCame e_aRest e_aRestMany e_aCome e_aRivals e_aGone e_aOrder e_aOffAt e_aIsOff e_aAlone e_aKept fr (lv_sub hl [0, 4, 2, 1, 5, 6, 7, 8, 9] rfl)
                exact LP50 FU (1 : Int32) x6_41 x5_41 caAlone_41 fl41 _ _ _ ho50 S e_y e_aWorlds e_aInWorld e_aKind e_aSize e_aMarks e_aSeed e_aContents e_aContentMany e_aRow e_aBits e_aLayerSize e_aLayerCame e_aRest e_aRestMany e_aCome e_aRivals e_aGone e_aOrder e_aOffAt e_aIsOff e_aAlone e_aKept fr (lv_sub hl [0, 1, 2, 3, 4, 5, 6, 7, 8] rfl)
          exact LP41 FU (8 : Int32) (1001 : Int32) (0 : Int32) vAlone f _ _ _ ho41 S e_y e_aWorlds e_aInWorld e_aKind e_aSize e_aMarks e_aSeed e_aContents e_aContentMany e_aRow e_aBits e_aLayerSize e_aLayerCame e_aRest e_aRestMany e_aCome e_aRivals e_aGone e_aOrder e_aOffAt e_aIsOff e_aAlone e_aKept fr (lv_sub hl [0, 1, 2, 3, 4, 5, 6, 7] rfl)
        · have hM := itF b24 hM
          refine lv_iconst (v := (-1 : Int32)) hx hb dX9_fewest_27 (by decide) ?_
          subst hQQ
          exact q_reti (post := fun x L1 f1 => x = z.1 ∧ L1 = L ∧ (∀ b, b ∈ L → b ≠ aAlone → f1 b = f b) ∧ f1 aAlone = .inl (g 0, 4096, .inl z.2)) hx hb hr hlk S dX9_fewest_28 (by decide) (by decide) (by have hz := Option.some.inj hM; subst hz; exact ⟨rfl, rfl, fr, e_aAlone⟩)

def mX9_remove (many : Int32) : Option (Int32 × Int32) := if many = 0 then (some ((-1 : Int32), many)) else (some ((many - (1 : Int32)), (many - (1 : Int32))))
set_option maxRecDepth 20000 in
theorem gu_wsX9_remove_2 : ∀ w ∈ wsX90, w ∈ wsX9_remove := fun _ h => List.mem_cons_of_mem _ (List.mem_append_right _ h)
set_option maxRecDepth 20000 in
theorem gu_wsX9_remove_1 : ∀ w ∈ ([Cond.fieldLink RX9 88 "SieveCabinetModel" "many" "I"] : List Cond), w ∈ wsX9_remove := fun _ h => List.mem_cons_of_mem _ (List.mem_append_left _ h)
set_option maxHeartbeats 4000000 in
set_option maxRecDepth 100000 in
theorem k_X9_remove (l : Launch) (D : va_G) (g : Nat → ClassId) {L : List Nat} {f : Nat → va_E} {aAlone aBits aCome aContentMany aContents aGone aInWorld aIsOff aKept aKind aLayerCame aLayerSize aMarks aOffAt aOrder aRest aRestMany aRivals aRow aSeed aSize aWorlds y : Nat} {many : Int32} {z : Int32 × Int32} (m_y : y ∈ L) (e_y : f y = .inr (7, [.ref aWorlds, .ref aInWorld, .ref aKind, .ref aSize, .ref aMarks, .ref aSeed, .ref aContents, .ref aContentMany, .ref aRow, .ref aBits, .ref aLayerSize, .ref aLayerCame, .ref aRest, .ref aRestMany, .int many, .ref aCome, .ref aRivals, .ref aGone, .ref aOrder, .ref aOffAt, .ref aIsOff, .ref aAlone, .ref aKept]))    (hM : mX9_remove many = some z) : cI l yX9_remove wsX9_remove { frames := 0, cells := 0, slots := 0, locals := 0 } D g [.ref y] L f 0 0 (fun x L1 f1 => x = z.1 ∧ L1 = L ∧ (∀ b, b ∈ L → b ≠ y → f1 b = f b) ∧ f1 y = .inr (7, [.ref aWorlds, .ref aInWorld, .ref aKind, .ref aSize, .ref aMarks, .ref aSeed, .ref aContents, .ref aContentMany, .ref aRow, .ref aBits, .ref aLayerSize, .ref aLayerCame, .ref aRest, .ref aRestMany, .int z.2, .ref aCome, .ref aRivals, .ref aGone, .ref aOrder, .ref aOffAt, .ref aIsOff, .ref aAlone, .ref aKept])) := by
  refine cI_of (cc := cX9_remove) (maxL := 1) (ret := (some .int)) (by decide) rfl (Nat.le_of_ble_eq_true rfl) ?_
  intro szz p e s m below meth c hx hb hr hml hts hown hlk hnm S ls hl
  have hl : lv_has ls 1 [(0, .ref y)] := hl
  have in_X9 : ∀ w ∈ wsX90, w ∈ wsX9_remove := gu_wsX9_remove_2
  have fr : ∀ b, b ∈ L → b ≠ y → f b = f b := fun _ _ _ => rfl
  unfold mX9_remove at hM
  refine W_gen (fun QQ hQQ => ?_)
  refine lv_aload_n hx hb dX9_remove_0 rfl (lv_at hl 0 rfl) ?_
  refine q_get hx hb hts in_X9 hown S m_y e_y (C := RX9) (T := TX9) (N := 23) rfl 14 (by decide) rfl (hts (.fieldLink RX9 88 "SieveCabinetModel" "many" "I") (gu_wsX9_remove_1 _ gm_0)) dX9_remove_1 ?_
  refine lv_if_ne (tgt := 9) hx hb dX9_remove_4 (by decide) (fun b4 => ?_) (fun b4 => ?_)
  · have hM := itF b4 hM
    refine lv_aload_n hx hb dX9_remove_9 rfl (lv_at hl 0 rfl) ?_
    refine lv_dup hx hb dX9_remove_10 rfl ?_
    refine q_get hx hb hts in_X9 hown S m_y e_y (C := RX9) (T := TX9) (N := 23) rfl 14 (by decide) rfl (hts (.fieldLink RX9 88 "SieveCabinetModel" "many" "I") (gu_wsX9_remove_1 _ gm_0)) dX9_remove_11 ?_
    refine lv_iconst (v := (1 : Int32)) hx hb dX9_remove_14 (by decide) ?_
    refine lv_isub hx hb dX9_remove_15 ?_
    refine k_put hx hb hts in_X9 tyX9 tyX9_ok nmX9 hown S m_y e_y (C := RX9) (T := TX9) (N := 23) rfl 14 (by decide) (hts (.fieldLink RX9 88 "SieveCabinetModel" "many" "I") (gu_wsX9_remove_1 _ gm_0)) rfl rfl rfl (Nat.le_of_ble_eq_true rfl) dX9_remove_16 (fun f1 ef1 H locs S => ?_)
    have e_y : f1 y = .inr (7, [.ref aWorlds, .ref aInWorld, .ref aKind, .ref aSize, .ref aMarks, .ref aSeed, .ref aContents, .ref aContentMany, .ref aRow, .ref aBits, .ref aLayerSize, .ref aLayerCame, .ref aRest, .ref aRestMany, .int (many - (1 : Int32)), .ref aCome, .ref aRivals, .ref aGone, .ref aOrder, .ref aOffAt, .ref aIsOff, .ref aAlone, .ref aKept]) := up_self ef1
    have fr : ∀ b, b ∈ L → b ≠ y → f1 b = f b := fun b mb nb0 => (up_ne ef1 nb0 rfl).trans (fr b mb nb0)
    refine lv_aload_n hx hb dX9_remove_19 rfl (lv_at hl 0 rfl) ?_
    refine q_get hx hb hts in_X9 hown S m_y e_y (C := RX9) (T := TX9) (N := 23) rfl 14 (by decide) rfl (hts (.fieldLink RX9 88 "SieveCabinetModel" "many" "I") (gu_wsX9_remove_1 _ gm_0)) dX9_remove_20 ?_
    subst hQQ
    exact q_reti (post := fun x L1 f1 => x = z.1 ∧ L1 = L ∧ (∀ b, b ∈ L → b ≠ y → f1 b = f b) ∧ f1 y = .inr (7, [.ref aWorlds, .ref aInWorld, .ref aKind, .ref aSize, .ref aMarks, .ref aSeed, .ref aContents, .ref aContentMany, .ref aRow, .ref aBits, .ref aLayerSize, .ref aLayerCame, .ref aRest, .ref aRestMany, .int z.2, .ref aCome, .ref aRivals, .ref aGone, .ref aOrder, .ref aOffAt, .ref aIsOff, .ref aAlone, .ref aKept])) hx hb hr hlk S dX9_remove_23 (by decide) (by decide) (by have hz := Option.some.inj hM; subst hz; exact ⟨rfl, rfl, fr, e_y⟩)
  · have hM := itT b4 hM
    refine lv_iconst (v := (-1 : Int32)) hx hb dX9_remove_7 (by decide) ?_
    subst hQQ
    exact q_reti (post := fun x L1 f1 => x = z.1 ∧ L1 = L ∧ (∀ b, b ∈ L → b ≠ y → f1 b = f b) ∧ f1 y = .inr (7, [.ref aWorlds, .ref aInWorld, .ref aKind, .ref aSize, .ref aMarks, .ref aSeed, .ref aContents, .ref aContentMany, .ref aRow, .ref aBits, .ref aLayerSize, .ref aLayerCame, .ref aRest, .ref aRestMany, .int z.2, .ref aCome, .ref aRivals, .ref aGone, .ref aOrder, .ref aOffAt, .ref aIsOff, .ref aAlone, .ref aKept])) hx hb hr hlk S dX9_remove_8 (by decide) (by decide) (by have hz := Option.some.inj hM; subst hz; exact ⟨rfl, rfl, fr, e_y⟩)

def mX9_sieves (many : Int32) : Option (Int32) := some many
set_option maxRecDepth 20000 in
theorem gu_wsX9_sieves_2 : ∀ w ∈ wsX90, w ∈ wsX9_sieves := fun _ h => List.mem_cons_of_mem _ (List.mem_append_right _ h)
set_option maxRecDepth 20000 in
theorem gu_wsX9_sieves_1 : ∀ w ∈ ([Cond.fieldLink RX9 88 "SieveCabinetModel" "many" "I"] : List Cond), w ∈ wsX9_sieves := fun _ h => List.mem_cons_of_mem _ (List.mem_append_left _ h)
set_option maxHeartbeats 4000000 in
set_option maxRecDepth 100000 in
theorem k_X9_sieves (l : Launch) (D : va_G) (g : Nat → ClassId) {L : List Nat} {f : Nat → va_E} {aAlone aBits aCome aContentMany aContents aGone aInWorld aIsOff aKept aKind aLayerCame aLayerSize aMarks aOffAt aOrder aRest aRestMany aRivals aRow aSeed aSize aWorlds y : Nat} {many : Int32} {z : Int32} (m_y : y ∈ L) (e_y : f y = .inr (7, [.ref aWorlds, .ref aInWorld, .ref aKind, .ref aSize, .ref aMarks, .ref aSeed, .ref aContents, .ref aContentMany, .ref aRow, .ref aBits, .ref aLayerSize, .ref aLayerCame, .ref aRest, .ref aRestMany, .int many, .ref aCome, .ref aRivals, .ref aGone, .ref aOrder, .ref aOffAt, .ref aIsOff, .ref aAlone, .ref aKept]))    (hM : mX9_sieves many = some z) : cI l yX9_sieves wsX9_sieves { frames := 0, cells := 0, slots := 0, locals := 0 } D g [.ref y] L f 0 0 (fun x L1 f1 => x = z ∧ L1 = L ∧ f1 = f) := by
  refine cI_of (cc := cX9_sieves) (maxL := 1) (ret := (some .int)) (by decide) rfl (Nat.le_of_ble_eq_true rfl) ?_
  intro szz p e s m below meth c hx hb hr hml hts hown hlk hnm S ls hl
  have hl : lv_has ls 1 [(0, .ref y)] := hl
  have in_X9 : ∀ w ∈ wsX90, w ∈ wsX9_sieves := gu_wsX9_sieves_2
  unfold mX9_sieves at hM
  refine W_gen (fun QQ hQQ => ?_)
  refine lv_aload_n hx hb dX9_sieves_0 rfl (lv_at hl 0 rfl) ?_
  refine q_get hx hb hts in_X9 hown S m_y e_y (C := RX9) (T := TX9) (N := 23) rfl 14 (by decide) rfl (hts (.fieldLink RX9 88 "SieveCabinetModel" "many" "I") (gu_wsX9_sieves_1 _ gm_0)) dX9_sieves_1 ?_
  subst hQQ
  exact q_reti (post := fun x L1 f1 => x = z ∧ L1 = L ∧ f1 = f) hx hb hr hlk S dX9_sieves_4 (by decide) (by decide) (by have hz := Option.some.inj hM; subst hz; exact ⟨rfl, rfl, rfl⟩)
