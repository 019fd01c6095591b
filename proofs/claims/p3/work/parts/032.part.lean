def mX9_span_L104 (wi : Int32) (fi : Int64) (st_ : Int32) (nn : Int32) : Nat → Int32 → (Nat → Int64) → (Nat → Int32) → Option (Int32 × (Nat → Int64) × (Nat → Int32))
  | 0, _, _, _ => none
  | fu + 1, x7_104, caWorlds_104, caInWorld_104 => if nn ≤ x7_104 then (some (x7_104, caWorlds_104, caInWorld_104)) else (lt_ (fi + ((Int32.toInt64 x7_104) * (Int32.toInt64 st_))) fun y120 => (mX9_placeOf caWorlds_104 caInWorld_104 wi y120).bind fun z126 => if 0 ≤ z126 then (mX9_span_L104 wi fi st_ nn fu (x7_104 + 1) caWorlds_104 caInWorld_104) else ((mX9_enter caWorlds_104 caInWorld_104 wi y120).bind fun z136 => mX9_span_L104 wi fi st_ nn fu (x7_104 + 1) z136.1 z136.2))
def mX9_span_L29 (vWorlds : Nat → Int64) (vInWorld : Nat → Int32) (wi : Int32) (fi : Int64) (st_ : Int32) (nn : Int32) : Nat → Int32 → Int32 → Option (Int32 × Int32)
  | 0, _, _ => none
  | fu + 1, x7_29, x6_29 => if nn ≤ x7_29 then (some (x7_29, x6_29)) else (lt_ (fi + ((Int32.toInt64 x7_29) * (Int32.toInt64 st_))) fun y45 => (mX9_placeOf vWorlds vInWorld wi y45).bind fun z53 => if 0 ≤ z53 then (mX9_span_L29 vWorlds vInWorld wi fi st_ nn fu (x7_29 + 1) (x6_29 + (0 : Int32))) else (if st_ = 0 then (if x7_29 = 0 then (mX9_span_L29 vWorlds vInWorld wi fi st_ nn fu (x7_29 + 1) (x6_29 + (1 : Int32))) else (mX9_span_L29 vWorlds vInWorld wi fi st_ nn fu (x7_29 + 1) (x6_29 + (0 : Int32)))) else (mX9_span_L29 vWorlds vInWorld wi fi st_ nn fu (x7_29 + 1) (x6_29 + (1 : Int32)))))
def mX9_span (vWorlds : Nat → Int64) (vInWorld : Nat → Int32) (wi : Int32) (fi : Int64) (st_ : Int32) (nn : Int32) : Option (Int32 × (Nat → Int64) × (Nat → Int32)) := (mX9_isWorld wi).bind fun z1 => if z1 = 0 then (some ((-1 : Int32), vWorlds, vInWorld)) else (if nn < (1 : Int32) then (some ((-1 : Int32), vWorlds, vInWorld)) else (if nn ≤ (1000 : Int32) then ((mX9_span_L29 vWorlds vInWorld wi fi st_ nn FU (0 : Int32) (0 : Int32)).bind fun o29 => if ix wi 8 = true then (if ((vInWorld (Int32.toNatClampNeg wi)) + o29.2) ≤ (1000 : Int32) then ((mX9_span_L104 wi fi st_ nn FU (0 : Int32) vWorlds vInWorld).bind fun o104 => if ix wi 8 = true then (some ((o104.2.2 (Int32.toNatClampNeg wi)), o104.2.1, o104.2.2)) else none) else (some ((-4 : Int32), vWorlds, vInWorld))) else none) else (some ((-1 : Int32), vWorlds, vInWorld))))
set_option maxHeartbeats 4000000 in
set_option maxRecDepth 100000 in
theorem k_X9_span (l : Launch) (D : va_G) (g : Nat → ClassId) {L : List Nat} {f : Nat → va_E} {aAlone aBits aCome aContentMany aContents aGone aInWorld aIsOff aKept aKind aLayerCame aLayerSize aMarks aOffAt aOrder aRest aRestMany aRivals aRow aSeed aSize aWorlds y : Nat} {many : Int32} {vWorlds : Nat → Int64} {vInWorld : Nat → Int32} {vKind : Nat → Int32} {vSize : Nat → Int32} {vMarks : Nat → Int32} {vSeed : Nat → Int32} {vContents : Nat → Int64} {vContentMany : Nat → Int32} {vRow : Nat → Int32} {vBits : Nat → Int32} {vLayerSize : Nat → Int32} {vLayerCame : Nat → Int32} {vRest : Nat → Int64} {vRestMany : Nat → Int32} {vCome : Nat → Int64} {vRivals : Nat → Int64} {vGone : Nat → Int64} {vOrder : Nat → Int32} {vOffAt : Nat → Int32} {vIsOff : Nat → Int32} {vAlone : Nat → Int32} {vKept : Nat → Int32} {wi : Int32} {fi : Int64} {st_ : Int32} {nn : Int32} {z : Int32 × (Nat → Int64) × (Nat → Int32)} (m_y : y ∈ L) (e_y : f y = .inr (7, [.ref aWorlds, .ref aInWorld, .ref aKind, .ref aSize, .ref aMarks, .ref aSeed, .ref aContents, .ref aContentMany, .ref aRow, .ref aBits, .ref aLayerSize, .ref aLayerCame, .ref aRest, .ref aRestMany, .int many, .ref aCome, .ref aRivals, .ref aGone, .ref aOrder, .ref aOffAt, .ref aIsOff, .ref aAlone, .ref aKept])) (m_aWorlds : aWorlds ∈ L) (e_aWorlds : f aWorlds = .inl (g 1, 8000, .inr (.inl vWorlds))) (m_aInWorld : aInWorld ∈ L) (e_aInWorld : f aInWorld = .inl (g 0, 8, .inl vInWorld)) (m_aKind : aKind ∈ L) (e_aKind : f aKind = .inl (g 0, 30, .inl vKind)) (m_aSize : aSize ∈ L) (e_aSize : f aSize = .inl (g 0, 30, .inl vSize)) (m_aMarks : aMarks ∈ L) (e_aMarks : f aMarks = .inl (g 0, 30, .inl vMarks)) (m_aSeed : aSeed ∈ L) (e_aSeed : f aSeed = .inl (g 0, 30, .inl vSeed)) (m_aContents : aContents ∈ L) (e_aContents : f aContents = .inl (g 1, 30000, .inr (.inl vContents))) (m_aContentMany : aContentMany ∈ L) (e_aContentMany : f aContentMany = .inl (g 0, 30, .inl vContentMany)) (m_aRow : aRow ∈ L) (e_aRow : f aRow = .inl (g 0, 122880, .inl vRow)) (m_aBits : aBits ∈ L) (e_aBits : f aBits = .inl (g 0, 76800, .inl vBits)) (m_aLayerSize : aLayerSize ∈ L) (e_aLayerSize : f aLayerSize = .inl (g 0, 600, .inl vLayerSize)) (m_aLayerCame : aLayerCame ∈ L) (e_aLayerCame : f aLayerCame = .inl (g 0, 600, .inl vLayerCame)) (m_aRest : aRest ∈ L) (e_aRest : f aRest = .inl (g 1, 30000, .inr (.inl vRest))) (m_aRestMany : aRestMany ∈ L) (e_aRestMany : f aRestMany = .inl (g 0, 30, .inl vRestMany)) (m_aCome : aCome ∈ L) (e_aCome : f aCome = .inl (g 1, 1000, .inr (.inl vCome))) (m_aRivals : aRivals ∈ L) (e_aRivals : f aRivals = .inl (g 1, 1000, .inr (.inl vRivals))) (m_aGone : aGone ∈ L) (e_aGone : f aGone = .inl (g 1, 1000, .inr (.inl vGone))) (m_aOrder : aOrder ∈ L) (e_aOrder : f aOrder = .inl (g 0, 1000, .inl vOrder)) (m_aOffAt : aOffAt ∈ L) (e_aOffAt : f aOffAt = .inl (g 0, 1000, .inl vOffAt)) (m_aIsOff : aIsOff ∈ L) (e_aIsOff : f aIsOff = .inl (g 2, 1000, .inl vIsOff)) (m_aAlone : aAlone ∈ L) (e_aAlone : f aAlone = .inl (g 0, 4096, .inl vAlone)) (m_aKept : aKept ∈ L) (e_aKept : f aKept = .inl (g 0, 4096, .inl vKept))    (hM : mX9_span vWorlds vInWorld wi fi st_ nn = some z) : cI l yX9_span wsX9_span { frames := 1, cells := 0, slots := 0, locals := 24 } D g [.ref y, .int wi, .long fi, .int st_, .int nn] L f 0 0 (fun x L1 f1 => x = z.1 ∧ L1 = L ∧ (∀ b, b ∈ L → b ≠ aWorlds → b ≠ aInWorld → f1 b = f b) ∧ f1 aWorlds = .inl (g 1, 8000, .inr (.inl z.2.1)) ∧ f1 aInWorld = .inl (g 0, 8, .inl z.2.2)) := by
  refine cI_of (cc := cX9_span) (maxL := 10) (ret := (some .int)) (by decide) rfl (Nat.le_of_ble_eq_true rfl) ?_
  intro szz p e s m below meth c hx hb hr hml hts hown hlk hnm S ls hl
  have hl : lv_has ls 10 [(0, .ref y), (1, .int wi), (2, .long fi), (4, .int st_), (5, .int nn)] := hl
  have in_X9 : ∀ w ∈ wsX90, w ∈ wsX9_span := by decide +kernel
  have n_y_aWorlds : y ≠ aWorlds := ne_ir e_aWorlds e_y
  have n_y_aInWorld : y ≠ aInWorld := ne_ir e_aInWorld e_y
  have n_aKind_aWorlds : aKind ≠ aWorlds := ne_len e_aWorlds e_aKind (by decide)
  have n_aKind_aInWorld : aKind ≠ aInWorld := ne_len e_aInWorld e_aKind (by decide)
  have n_aSize_aWorlds : aSize ≠ aWorlds := ne_len e_aWorlds e_aSize (by decide)
  have n_aSize_aInWorld : aSize ≠ aInWorld := ne_len e_aInWorld e_aSize (by decide)
  have n_aMarks_aWorlds : aMarks ≠ aWorlds := ne_len e_aWorlds e_aMarks (by decide)
  have n_aMarks_aInWorld : aMarks ≠ aInWorld := ne_len e_aInWorld e_aMarks (by decide)
  have n_aSeed_aWorlds : aSeed ≠ aWorlds := ne_len e_aWorlds e_aSeed (by decide)
  have n_aSeed_aInWorld : aSeed ≠ aInWorld := ne_len e_aInWorld e_aSeed (by decide)
  have n_aContents_aWorlds : aContents ≠ aWorlds := ne_len e_aWorlds e_aContents (by decide)
  have n_aContents_aInWorld : aContents ≠ aInWorld := ne_len e_aInWorld e_aContents (by decide)
  have n_aContentMany_aWorlds : aContentMany ≠ aWorlds := ne_len e_aWorlds e_aContentMany (by decide)
  have n_aContentMany_aInWorld : aContentMany ≠ aInWorld := ne_len e_aInWorld e_aContentMany (by decide)
  have n_aRow_aWorlds : aRow ≠ aWorlds := ne_len e_aWorlds e_aRow (by decide)
  have n_aRow_aInWorld : aRow ≠ aInWorld := ne_len e_aInWorld e_aRow (by decide)
  have n_aBits_aWorlds : aBits ≠ aWorlds := ne_len e_aWorlds e_aBits (by decide)
  have n_aBits_aInWorld : aBits ≠ aInWorld := ne_len e_aInWorld e_aBits (by decide)
  have n_aLayerSize_aWorlds : aLayerSize ≠ aWorlds := ne_len e_aWorlds e_aLayerSize (by decide)
  have n_aLayerSize_aInWorld : aLayerSize ≠ aInWorld := ne_len e_aInWorld e_aLayerSize (by decide)
  have n_aLayerCame_aWorlds : aLayerCame ≠ aWorlds := ne_len e_aWorlds e_aLayerCame (by decide)
  have n_aLayerCame_aInWorld : aLayerCame ≠ aInWorld := ne_len e_aInWorld e_aLayerCame (by decide)
  have n_aRest_aWorlds : aRest ≠ aWorlds := ne_len e_aWorlds e_aRest (by decide)
  have n_aRest_aInWorld : aRest ≠ aInWorld := ne_len e_aInWorld e_aRest (by decide)
  have n_aRestMany_aWorlds : aRestMany ≠ aWorlds := ne_len e_aWorlds e_aRestMany (by decide)
  have n_aRestMany_aInWorld : aRestMany ≠ aInWorld := ne_len e_aInWorld e_aRestMany (by decide)
  have n_aCome_aWorlds : aCome ≠ aWorlds := ne_len e_aWorlds e_aCome (by decide)
  have n_aCome_aInWorld : aCome ≠ aInWorld := ne_len e_aInWorld e_aCome (by decide)
  have n_aRivals_aWorlds : aRivals ≠ aWorlds := ne_len e_aWorlds e_aRivals (by decide)
  have n_aRivals_aInWorld : aRivals ≠ aInWorld := ne_len e_aInWorld e_aRivals (by decide)
  have n_aGone_aWorlds : aGone ≠ aWorlds := ne_len e_aWorlds e_aGone (by decide)
  have n_aGone_aInWorld : aGone ≠ aInWorld := ne_len e_aInWorld e_aGone (by decide)
  have n_aOrder_aWorlds : aOrder ≠ aWorlds := ne_len e_aWorlds e_aOrder (by decide)
  have n_aOrder_aInWorld : aOrder ≠ aInWorld := ne_len e_aInWorld e_aOrder (by decide)
  have n_aOffAt_aWorlds : aOffAt ≠ aWorlds := ne_len e_aWorlds e_aOffAt (by decide)
  have n_aOffAt_aInWorld : aOffAt ≠ aInWorld := ne_len e_aInWorld e_aOffAt (by decide)
  have n_aIsOff_aWorlds : aIsOff ≠ aWorlds := ne_len e_aWorlds e_aIsOff (by decide)
  have n_aIsOff_aInWorld : aIsOff ≠ aInWorld := ne_len e_aInWorld e_aIsOff (by decide)
  have n_aAlone_aWorlds : aAlone ≠ aWorlds := ne_len e_aWorlds e_aAlone (by decide)
  have n_aAlone_aInWorld : aAlone ≠ aInWorld := ne_len e_aInWorld e_aAlone (by decide)
  have n_aKept_aWorlds : aKept ≠ aWorlds := ne_len e_aWorlds e_aKept (by decide)
  have n_aKept_aInWorld : aKept ≠ aInWorld := ne_len e_aInWorld e_aKept (by decide)
  have fr : ∀ b, b ∈ L → b ≠ aWorlds → b ≠ aInWorld → f b = f b := fun _ _ _ _ => rfl
  unfold mX9_span at hM
  refine W_gen (fun QQ hQQ => ?_)
  refine lv_iload_n hx hb dX9_span_0 rfl (lv_at hl 1 rfl) ?_
  obtain ⟨z1, hz1, hM⟩ := bind_some hM
  refine q_si (As := [.int wi]) (rest := []) ⟨hx, hb, hml, hown, hts⟩ (k_X9_isWorld l D g hz1) (va_cwS 1 hts gX9_span_X9_isWorld rfl rfl rfl (by decide +kernel) ⟨Nat.le_of_ble_eq_true rfl, Nat.le_of_ble_eq_true rfl⟩) S rfl hl.1 rfl (Nat.le_of_ble_eq_true rfl) dX9_span_1 ⟨Nat.le_of_ble_eq_true rfl, Nat.le_of_ble_eq_true rfl⟩ (fun r3 L1 f2 H locs S w1 => ?_)
  obtain ⟨ex1, eL, ef⟩ := w1
  rw [eL, ef] at S
  replace ex1 := ex1.symm
  subst ex1
  refine lv_if_eq (tgt := 21) hx hb dX9_span_4 (by decide) (fun b4 => ?_) (fun b4 => ?_)
  · have hM := itT b4 hM
    refine lv_iconst (v := (-1 : Int32)) hx hb dX9_span_21 (by decide) ?_
    subst hQQ
    exact q_reti (post := fun x L1 f1 => x = z.1 ∧ L1 = L ∧ (∀ b, b ∈ L → b ≠ aWorlds → b ≠ aInWorld → f1 b = f b) ∧ f1 aWorlds = .inl (g 1, 8000, .inr (.inl z.2.1)) ∧ f1 aInWorld = .inl (g 0, 8, .inl z.2.2)) hx hb hr hlk S dX9_span_22 (by decide) (by decide) (by have hz := Option.some.inj hM; subst hz; exact ⟨rfl, rfl, fr, e_aWorlds, e_aInWorld⟩)
  · have hM := itF b4 hM
    refine lv_iload hx hb dX9_span_7 (lv_at hl 4 rfl) ?_
    refine lv_iconst (v := (1 : Int32)) hx hb dX9_span_9 (by decide) ?_
    refine lv_icmp_lt (tgt := 21) hx hb dX9_span_10 (by decide) (fun b10 => ?_) (fun b10 => ?_)
    · have hM := itT b10 hM
      refine lv_iconst (v := (-1 : Int32)) hx hb dX9_span_21 (by decide) ?_
      subst hQQ
      exact q_reti (post := fun x L1 f1 => x = z.1 ∧ L1 = L ∧ (∀ b, b ∈ L → b ≠ aWorlds → b ≠ aInWorld → f1 b = f b) ∧ f1 aWorlds = .inl (g 1, 8000, .inr (.inl z.2.1)) ∧ f1 aInWorld = .inl (g 0, 8, .inl z.2.2)) hx hb hr hlk S dX9_span_22 (by decide) (by decide) (by have hz := Option.some.inj hM; subst hz; exact ⟨rfl, rfl, fr, e_aWorlds, e_aInWorld⟩)
    · have hM := itF b10 hM
      refine lv_iload hx hb dX9_span_13 (lv_at hl 4 rfl) ?_
      refine lv_sipush (v := (1000 : Int32)) hx hb dX9_span_15 (by decide) ?_
      refine lv_icmp_le (tgt := 23) hx hb dX9_span_18 (by decide) (fun b18 => ?_) (fun b18 => ?_)
      · have hM := itT b18 hM
        refine lv_iconst (v := (0 : Int32)) hx hb dX9_span_23 (by decide) ?_
        refine lv_istore (lv' := [(6, .int (0 : Int32)), (0, .ref y), (1, .int wi), (2, .long fi), (4, .int st_), (5, .int nn)]) hx hb dX9_span_24 hl (by decide) rfl (fun ls hl => ?_)
        refine lv_iconst (v := (0 : Int32)) hx hb dX9_span_26 (by decide) ?_
        refine lv_istore (lv' := [(7, .int (0 : Int32)), (6, .int (0 : Int32)), (0, .ref y), (1, .int wi), (2, .long fi), (4, .int st_), (5, .int nn)]) hx hb dX9_span_27 hl (by decide) rfl (fun ls hl => ?_)
        obtain ⟨o29, ho29, hM⟩ := bind_some hM
        have EX29 : ∀ (H : Heap) (locs : List Loc) (ls : Array Slot), PS D g (va_A (va_pl L f) szz) s.heap s L f H locs → lv_has ls 10 [(6, .int o29.2), (0, .ref y), (1, .int wi), (2, .long fi), (4, .int st_), (5, .int nn)] → W p l e { frames := 1, cells := 0, slots := 0, locals := 24 } s m [.ref y, .int wi, .long fi, .int st_, .int nn].toArray below meth c H locs 0 0 QQ (F0 m 83 ls []) := by
          intro H locs ls S hl
          refine lv_aload_n hx hb dX9_span_83 rfl (lv_at hl 1 rfl) ?_
          refine q_get hx hb hts in_X9 hown S m_y e_y (C := RX9) (T := TX9) (N := 23) rfl 1 (by decide) rfl (hts (.fieldLink RX9 13 "SieveCabinetModel" "inWorld" "[I") (by decide +kernel)) dX9_span_84 ?_
          refine lv_iload_n hx hb dX9_span_87 rfl (lv_at hl 2 rfl) ?_
          obtain ⟨hi88, hM⟩ := ckx hM
          refine q_iald hx hb S m_aInWorld e_aInWorld hi88 dX9_span_88 ?_
          refine lv_iload hx hb dX9_span_89 (lv_at hl 0 rfl) ?_
          refine lv_iadd hx hb dX9_span_91 ?_
          refine lv_sipush (v := (1000 : Int32)) hx hb dX9_span_92 (by decide) ?_
          refine lv_icmp_le (tgt := 101) hx hb dX9_span_95 (by decide) (fun b95 => ?_) (fun b95 => ?_)
          · have hM := itT b95 hM
            refine lv_iconst (v := (0 : Int32)) hx hb dX9_span_101 (by decide) ?_
            refine lv_istore (lv' := [(7, .int (0 : Int32)), (6, .int o29.2), (0, .ref y), (1, .int wi), (2, .long fi), (4, .int st_), (5, .int nn)]) hx hb dX9_span_102 hl (by decide) rfl (fun ls hl => ?_)
            obtain ⟨o104, ho104, hM⟩ := bind_some hM
            have EX104 : ∀ (fl104 : Nat → va_E) (H : Heap) (locs : List Loc) (ls : Array Slot), PS D g (va_A (va_pl L f) szz) s.heap s L fl104 H locs → fl104 y = .inr (7, [.ref aWorlds, .ref aInWorld, .ref aKind, .ref aSize, .ref aMarks, .ref aSeed, .ref aContents, .ref aContentMany, .ref aRow, .ref aBits, .ref aLayerSize, .ref aLayerCame, .ref aRest, .ref aRestMany, .int many, .ref aCome, .ref aRivals, .ref aGone, .ref aOrder, .ref aOffAt, .ref aIsOff, .ref aAlone, .ref aKept]) → fl104 aWorlds = .inl (g 1, 8000, .inr (.inl o104.2.1)) → fl104 aInWorld = .inl (g 0, 8, .inl o104.2.2) → fl104 aKind = .inl (g 0, 30, .inl vKind) → fl104 aSize = .inl (g 0, 30, .inl vSize) → fl104 aMarks = .inl (g 0, 30, .inl vMarks) → fl104 aSeed = .inl (g 0, 30, .inl vSeed) → fl104 aContents = .inl (g 1, 30000, .inr (.inl vContents)) → fl104 aContentMany = .inl (g 0, 30, .inl vContentMany) → fl104 aRow = .inl (g 0, 122880, .inl vRow) → fl104 aBits = .inl (g 0, 76800, .inl vBits) → fl104 aLayerSize = .inl (g 0, 600, .inl vLayerSize) → fl104 aLayerCame = .inl (g 0, 600, .inl vLayerCame) → fl104 aRest = .inl (g 1, 30000, .inr (.inl vRest)) → fl104 aRestMany = .inl (g 0, 30, .inl vRestMany) → fl104 aCome = .inl (g 1, 1000, .inr (.inl vCome)) → fl104 aRivals = .inl (g 1, 1000, .inr (.inl vRivals)) → fl104 aGone = .inl (g 1, 1000, .inr (.inl vGone)) → fl104 aOrder = .inl (g 0, 1000, .inl vOrder) → fl104 aOffAt = .inl (g 0, 1000, .inl vOffAt) → fl104 aIsOff = .inl (g 2, 1000, .inl vIsOff) → fl104 aAlone = .inl (g 0, 4096, .inl vAlone) → fl104 aKept = .inl (g 0, 4096, .inl vKept) → (∀ b, b ∈ L → b ≠ aWorlds → b ≠ aInWorld → fl104 b = f b) → lv_has ls 10 [(0, .ref y), (1, .int wi)] → W p l e { frames := 1, cells := 0, slots := 0, locals := 24 } s m [.ref y, .int wi, .long fi, .int st_, .int nn].toArray below meth c H locs 0 0 QQ (F0 m 145 ls []) := by
              intro fl104 H locs ls S e_y e_aWorlds e_aInWorld e_aKind e_aSize e_aMarks e_aSeed e_aContents e_aContentMany e_aRow e_aBits e_aLayerSize e_aLayerCame e_aRest e_aRestMany e_aCome e_aRivals e_aGone e_aOrder e_aOffAt e_aIsOff e_aAlone e_aKept fr hl
              refine lv_aload_n hx hb dX9_span_145 rfl (lv_at hl 0 rfl) ?_
              refine q_get hx hb hts in_X9 hown S m_y e_y (C := RX9) (T := TX9) (N := 23) rfl 1 (by decide) rfl (hts (.fieldLink RX9 13 "SieveCabinetModel" "inWorld" "[I") (by decide +kernel)) dX9_span_146 ?_
              refine lv_iload_n hx hb dX9_span_149 rfl (lv_at hl 1 rfl) ?_
              obtain ⟨hi150, hM⟩ := ckx hM
              refine q_iald hx hb S m_aInWorld e_aInWorld hi150 dX9_span_150 ?_
              subst hQQ
              exact q_reti (post := fun x L1 f1 => x = z.1 ∧ L1 = L ∧ (∀ b, b ∈ L → b ≠ aWorlds → b ≠ aInWorld → f1 b = f b) ∧ f1 aWorlds = .inl (g 1, 8000, .inr (.inl z.2.1)) ∧ f1 aInWorld = .inl (g 0, 8, .inl z.2.2)) hx hb hr hlk S dX9_span_151 (by decide) (by decide) (by have hz := Option.some.inj hM; subst hz; exact ⟨rfl, rfl, fr, e_aWorlds, e_aInWorld⟩)
            have LP104 : ∀ (fu : Nat) (x7_104 : Int32) (caWorlds_104 : Nat → Int64) (caInWorld_104 : Nat → Int32) (fl104 : Nat → va_E) (H : Heap) (locs : List Loc) (ls : Array Slot), (mX9_span_L104 wi fi st_ nn) fu x7_104 caWorlds_104 caInWorld_104 = some o104 → PS D g (va_A (va_pl L f) szz) s.heap s L fl104 H locs → fl104 y = .inr (7, [.ref aWorlds, .ref aInWorld, .ref aKind, .ref aSize, .ref aMarks, .ref aSeed, .ref aContents, .ref aContentMany, .ref aRow, .ref aBits, .ref aLayerSize, .ref aLayerCame, .ref aRest, .ref aRestMany, .int many, .ref aCome, .ref aRivals, .ref aGone, .ref aOrder, .ref aOffAt, .ref aIsOff, .ref aAlone, .ref aKept]) → fl104 aWorlds = .inl (g 1, 8000, .inr (.inl caWorlds_104)) → fl104 aInWorld = .inl (g 0, 8, .inl caInWorld_104) → fl104 aKind = .inl (g 0, 30, .inl vKind) → fl104 aSize = .inl (g 0, 30, .inl vSize) → fl104 aMarks = .inl (g 0, 30, .inl vMarks) → fl104 aSeed = .inl (g 0, 30, .inl vSeed) → fl104 aContents = .inl (g 1, 30000, .inr (.inl vContents)) → fl104 aContentMany = .inl (g 0, 30, .inl vContentMany) → fl104 aRow = .inl (g 0, 122880, .inl vRow) → fl104 aBits = .inl (g 0, 76800, .inl vBits) → fl104 aLayerSize = .inl (g 0, 600, .inl vLayerSize) → fl104 aLayerCame = .inl (g 0, 600, .inl vLayerCame) → fl104 aRest = .inl (g 1, 30000, .inr (.inl vRest)) → fl104 aRestMany = .inl (g 0, 30, .inl vRestMany) → fl104 aCome = .inl (g 1, 1000, .inr (.inl vCome)) → fl104 aRivals = .inl (g 1, 1000, .inr (.inl vRivals)) → fl104 aGone = .inl (g 1, 1000, .inr (.inl vGone)) → fl104 aOrder = .inl (g 0, 1000, .inl vOrder) → fl104 aOffAt = .inl (g 0, 1000, .inl vOffAt) → fl104 aIsOff = .inl (g 2, 1000, .inl vIsOff) → fl104 aAlone = .inl (g 0, 4096, .inl vAlone) → fl104 aKept = .inl (g 0, 4096, .inl vKept) → (∀ b, b ∈ L → b ≠ aWorlds → b ≠ aInWorld → fl104 b = f b) → lv_has ls 10 [(7, .int x7_104), (0, .ref y), (1, .int wi), (2, .long fi), (4, .int st_), (5, .int nn)] → W p l e { frames := 1, cells := 0, slots := 0, locals := 24 } s m [.ref y, .int wi, .long fi, .int st_, .int nn].toArray below meth c H locs 0 0 QQ (F0 m 104 ls []) := by
              intro fu
              induction fu with
              | zero => intro x7_104 caWorlds_104 caInWorld_104 fl104 H locs ls ho104 S e_y e_aWorlds e_aInWorld e_aKind e_aSize e_aMarks e_aSeed e_aContents e_aContentMany e_aRow e_aBits e_aLayerSize e_aLayerCame e_aRest e_aRestMany e_aCome e_aRivals e_aGone e_aOrder e_aOffAt e_aIsOff e_aAlone e_aKept fr hl; exact no_some ho104
              | succ fu ih104 =>
                intro x7_104 caWorlds_104 caInWorld_104 fl104 H locs ls ho104 S e_y e_aWorlds e_aInWorld e_aKind e_aSize e_aMarks e_aSeed e_aContents e_aContentMany e_aRow e_aBits e_aLayerSize e_aLayerCame e_aRest e_aRestMany e_aCome e_aRivals e_aGone e_aOrder e_aOffAt e_aIsOff e_aAlone e_aKept fr hl
                rw [mX9_span_L104] at ho104
                refine lv_iload hx hb dX9_span_104 (lv_at hl 0 rfl) ?_
                refine lv_iload hx hb dX9_span_106 (lv_at hl 5 rfl) ?_
                refine lv_icmp_ge (tgt := 145) hx hb dX9_span_108 (by decide) (fun b108 => ?_) (fun b108 => ?_)
                · have ho104 := itT b108 ho104
                  obtain rfl := Option.some.inj ho104
                  exact EX104 fl104 _ _ _ S e_y e_aWorlds e_aInWorld e_aKind e_aSize e_aMarks e_aSeed e_aContents e_aContentMany e_aRow e_aBits e_aLayerSize e_aLayerCame e_aRest e_aRestMany e_aCome e_aRivals e_aGone e_aOrder e_aOffAt e_aIsOff e_aAlone e_aKept fr (lv_sub hl [1, 2] rfl)
                · have ho104 := itF b108 ho104
                  refine lv_lload_n hx hb dX9_span_111 rfl (lv_at hl 3 rfl) ?_
                  refine lv_iload hx hb dX9_span_112 (lv_at hl 0 rfl) ?_
                  refine lv_i2l (v := (Int32.toInt64 x7_104)) hx hb dX9_span_114 rfl ?_
                  refine lv_iload hx hb dX9_span_115 (lv_at hl 4 rfl) ?_
                  refine lv_i2l (v := (Int32.toInt64 st_)) hx hb dX9_span_117 rfl ?_
                  refine lv_lmul hx hb dX9_span_118 ?_
                  refine lv_ladd hx hb dX9_span_119 ?_
                  refine lv_topl (fun y120 ey120 => ?_)
                  have ho104 := lt_some ho104 ey120
                  refine lv_lstore (lv' := [(8, .long y120), (7, .int x7_104), (0, .ref y), (1, .int wi), (2, .long fi), (4, .int st_), (5, .int nn)]) hx hb dX9_span_120 hl (by decide) rfl (fun ls hl => ?_)
                  refine lv_aload_n hx hb dX9_span_122 rfl (lv_at hl 2 rfl) ?_
                  refine lv_iload_n hx hb dX9_span_123 rfl (lv_at hl 3 rfl) ?_
                  refine lv_lload hx hb dX9_span_124 (lv_at hl 0 rfl) ?_
                  obtain ⟨z126, hz126, ho104⟩ := bind_some ho104
                  refine q_vi (As := [.int wi, .long y120]) (rest := []) ⟨hx, hb, hml, hown, hts⟩ (k_X9_placeOf l D g m_y e_y m_aWorlds e_aWorlds m_aInWorld e_aInWorld hz126) (cwV 2 hts gX9_span_X9_placeOf rfl rfl rfl (by decide +kernel) ⟨Nat.le_of_ble_eq_true rfl, Nat.le_of_ble_eq_true rfl⟩) S m_y e_y (T := TX9) (N := 23) rfl rfl hl.1 rfl (Nat.le_of_ble_eq_true rfl) dX9_span_126 ⟨Nat.le_of_ble_eq_true rfl, Nat.le_of_ble_eq_true rfl⟩ (fun r6 L4 f5 H locs S w126 => ?_)
                  obtain ⟨ex126, eL, ef⟩ := w126
                  rw [eL, ef] at S
                  replace ex126 := ex126.symm
                  subst ex126
                  refine lv_if_ge (tgt := 139) hx hb dX9_span_129 (by decide) (fun b129 => ?_) (fun b129 => ?_)
                  · have ho104 := itT b129 ho104
                    refine lv_iinc (v := (x7_104 + 1)) (lv' := [(7, .int (x7_104 + 1)), (8, .long y120), (0, .ref y), (1, .int wi), (2, .long fi), (4, .int st_), (5, .int nn)]) hx hb dX9_span_139 hl (k := 1) rfl rfl (by decide) rfl (fun ls hl => ?_)
                    refine lv_goto (tgt := 104) hx hb dX9_span_142 (by decide) ?_
                    exact ih104 (x7_104 + 1) caWorlds_104 caInWorld_104 fl104 _ _ _ ho104 S e_y e_aWorlds e_aInWorld e_aKind e_aSize e_aMarks e_aSeed e_aContents e_aContentMany e_aRow e_aBits e_aLayerSize e_aLayerCame e_aRest e_aRestMany e_aCome e_aRivals e_aGone e_aOrder e_aOffAt e_aIsOff e_aAlone e_aKept fr (lv_sub hl [0, 2, 3, 4, 5, 6] rfl)
                  · have ho104 := itF b129 ho104
                    refine lv_aload_n hx hb dX9_span_132 rfl (lv_at hl 2 rfl) ?_
                    refine lv_iload_n hx hb dX9_span_133 rfl (lv_at hl 3 rfl) ?_
                    refine lv_lload hx hb dX9_span_134 (lv_at hl 0 rfl) ?_
                    obtain ⟨z136, hz136, ho104⟩ := bind_some ho104
                    refine q_vv (As := [.int wi, .long y120]) (rest := []) ⟨hx, hb, hml, hown, hts⟩ (k_X9_enter l D g m_y e_y m_aWorlds e_aWorlds m_aInWorld e_aInWorld m_aKind e_aKind m_aSize e_aSize m_aMarks e_aMarks m_aSeed e_aSeed m_aContents e_aContents m_aContentMany e_aContentMany m_aRow e_aRow m_aBits e_aBits m_aLayerSize e_aLayerSize m_aLayerCame e_aLayerCame m_aRest e_aRest m_aRestMany e_aRestMany m_aCome e_aCome m_aRivals e_aRivals m_aGone e_aGone m_aOrder e_aOrder m_aOffAt e_aOffAt m_aIsOff e_aIsOff m_aAlone e_aAlone m_aKept e_aKept hz136) (cwV 2 hts gX9_span_X9_enter rfl rfl rfl (by decide +kernel) ⟨Nat.le_of_ble_eq_true rfl, Nat.le_of_ble_eq_true rfl⟩) S m_y e_y (T := TX9) (N := 23) rfl rfl hl.1 rfl (Nat.le_of_ble_eq_true rfl) dX9_span_136 ⟨Nat.le_of_ble_eq_true rfl, Nat.le_of_ble_eq_true rfl⟩ (fun L7 f8 H locs S w136 => ?_)
                    obtain ⟨eL, fv136, E_aWorlds, E_aInWorld⟩ := w136
                    rw [eL] at S
                    have fr : ∀ b, b ∈ L → b ≠ aWorlds → b ≠ aInWorld → f8 b = f b := fun b mb nb0 nb1 => (fv136 b mb nb0 nb1).trans (fr b mb nb0 nb1)
                    have e_aWorlds : f8 aWorlds = .inl (g 1, 8000, .inr (.inl z136.1)) := E_aWorlds
                    have e_aInWorld : f8 aInWorld = .inl (g 0, 8, .inl z136.2) := E_aInWorld
                    refine lv_iinc (v := (x7_104 + 1)) (lv' := [(7, .int (x7_104 + 1)), (8, .long y120), (0, .ref y), (1, .int wi), (2, .long fi), (4, .int st_), (5, .int nn)]) hx hb dX9_span_139 hl (k := 1) rfl rfl (by decide) rfl (fun ls hl => ?_)
                    refine lv_goto (tgt := 104) hx hb dX9_span_142 (by decide) ?_
                    have e_y := ((fv136 y m_y n_y_aWorlds n_y_aInWorld).trans e_y)
                    have e_aKind := ((fv136 aKind m_aKind n_aKind_aWorlds n_aKind_aInWorld).trans e_aKind)
                    have e_aSize := ((fv136 aSize m_aSize n_aSize_aWorlds n_aSize_aInWorld).trans e_aSize)
                    have e_aMarks := ((fv136 aMarks m_aMarks n_aMarks_aWorlds n_aMarks_aInWorld).trans e_aMarks)
                    have e_aSeed := ((fv136 aSeed m_aSeed n_aSeed_aWorlds n_aSeed_aInWorld).trans e_aSeed)
                    have e_aContents := ((fv136 aContents m_aContents n_aContents_aWorlds n_aContents_aInWorld).trans e_aContents)
                    have e_aContentMany := ((fv136 aContentMany m_aContentMany n_aContentMany_aWorlds n_aContentMany_aInWorld).trans e_aContentMany)
                    have e_aRow := ((fv136 aRow m_aRow n_aRow_aWorlds n_aRow_aInWorld).trans e_aRow)
                    have e_aBits := ((fv136 aBits m_aBits n_aBits_aWorlds n_aBits_aInWorld).trans e_aBits)
                    have e_aLayerSize := ((fv136 aLayerSize m_aLayerSize n_aLayerSize_aWorlds n_aLayerSize_aInWorld).trans e_aLayerSize)
                    have e_aLayerCame := ((fv136 aLayerCame m_aLayerCame n_aLayerCame_aWorlds n_aLayerCame_aInWorld).trans e_aLayerCame)
                    have e_aRest := ((fv136 aRest m_aRest n_aRest_aWorlds n_aRest_aInWorld).trans e_aRest)
                    have e_aRestMany := ((fv136 aRestMany m_aRestMany n_aRestMany_aWorlds n_aRestMany_aInWorld).trans e_aRestMany)
                    have e_aCome := ((fv136 aCome m_aCome n_aCome_aWorlds n_aCome_aInWorld).trans e_aCome)
                    have e_aRivals := ((fv136 aRivals m_aRivals n_aRivals_aWorlds n_aRivals_aInWorld).trans e_aRivals)
                    have e_aGone := ((fv136 aGone m_aGone n_aGone_aWorlds n_aGone_aInWorld).trans e_aGone)
                    have e_aOrder := ((fv136 aOrder m_aOrder n_aOrder_aWorlds n_aOrder_aInWorld).trans e_aOrder)
                    have e_aOffAt := ((fv136 aOffAt m_aOffAt n_aOffAt_aWorlds n_aOffAt_aInWorld).trans e_aOffAt)
                    have e_aIsOff := ((fv136 aIsOff m_aIsOff n_aIsOff_aWorlds n_aIsOff_aInWorld).trans e_aIsOff)
                    have e_aAlone := ((fv136 aAlone m_aAlone n_aAlone_aWorlds n_aAlone_aInWorld).trans e_aAlone)
                    have e_aKept := ((fv136 aKept m_aKept n_aKept_aWorlds n_aKept_aInWorld).trans e_aKept)
                    exact ih104 (x7_104 + 1) z136.1 z136.2 f8 _ _ _ ho104 S e_y e_aWorlds e_aInWorld e_aKind e_aSize e_aMarks e_aSeed e_aContents e_aContentMany e_aRow e_aBits e_aLayerSize e_aLayerCame e_aRest e_aRestMany e_aCome e_aRivals e_aGone e_aOrder e_aOffAt e_aIsOff e_aAlone e_aKept fr (lv_sub hl [0, 2, 3, 4, 5, 6] rfl)
            exact LP104 FU (0 : Int32) vWorlds vInWorld f _ _ _ ho104 S e_y e_aWorlds e_aInWorld e_aKind e_aSize e_aMarks e_aSeed e_aContents e_aContentMany e_aRow e_aBits e_aLayerSize e_aLayerCame e_aRest e_aRestMany e_aCome e_aRivals e_aGone e_aOrder e_aOffAt e_aIsOff e_aAlone e_aKept fr (lv_sub hl [0, 2, 3, 4, 5, 6] rfl)
          · have hM := itF b95 hM
            refine lv_bipush (v := (-4 : Int32)) hx hb dX9_span_98 (by decide) ?_
            subst hQQ
            exact q_reti (post := fun x L1 f1 => x = z.1 ∧ L1 = L ∧ (∀ b, b ∈ L → b ≠ aWorlds → b ≠ aInWorld → f1 b = f b) ∧ f1 aWorlds = .inl (g 1, 8000, .inr (.inl z.2.1)) ∧ f1 aInWorld = .inl (g 0, 8, .inl z.2.2)) hx hb hr hlk S dX9_span_100 (by decide) (by decide) (by have hz := Option.some.inj hM; subst hz; exact ⟨rfl, rfl, fr, e_aWorlds, e_aInWorld⟩)
        have LP29 : ∀ (fu : Nat) (x7_29 : Int32) (x6_29 : Int32) (H : Heap) (locs : List Loc) (ls : Array Slot), (mX9_span_L29 vWorlds vInWorld wi fi st_ nn) fu x7_29 x6_29 = some o29 → PS D g (va_A (va_pl L f) szz) s.heap s L f H locs → lv_has ls 10 [(7, .int x7_29), (6, .int x6_29), (0, .ref y), (1, .int wi), (2, .long fi), (4, .int st_), (5, .int nn)] → W p l e { frames := 1, cells := 0, slots := 0, locals := 24 } s m [.ref y, .int wi, .long fi, .int st_, .int nn].toArray below meth c H locs 0 0 QQ (F0 m 29 ls []) := by
          intro fu
          induction fu with
          | zero => intro x7_29 x6_29 H locs ls ho29 S hl; exact no_some ho29
          | succ fu ih29 =>
            intro x7_29 x6_29 H locs ls ho29 S hl
            rw [mX9_span_L29] at ho29
            refine lv_iload hx hb dX9_span_29 (lv_at hl 0 rfl) ?_
            refine lv_iload hx hb dX9_span_31 (lv_at hl 6 rfl) ?_
            refine lv_icmp_ge (tgt := 83) hx hb dX9_span_33 (by decide) (fun b33 => ?_) (fun b33 => ?_)
            · have ho29 := itT b33 ho29
              obtain rfl := Option.some.inj ho29
              exact EX29 _ _ _ S (lv_sub hl [1, 2, 3, 4, 5, 6] rfl)
            · have ho29 := itF b33 ho29
              refine lv_lload_n hx hb dX9_span_36 rfl (lv_at hl 4 rfl) ?_
              refine lv_iload hx hb dX9_span_37 (lv_at hl 0 rfl) ?_
              refine lv_i2l (v := (Int32.toInt64 x7_29)) hx hb dX9_span_39 rfl ?_
              refine lv_iload hx hb dX9_span_40 (lv_at hl 5 rfl) ?_
              refine lv_i2l (v := (Int32.toInt64 st_)) hx hb dX9_span_42 rfl ?_
              refine lv_lmul hx hb dX9_span_43 ?_
              refine lv_ladd hx hb dX9_span_44 ?_
              refine lv_topl (fun y45 ey45 => ?_)
              have ho29 := lt_some ho29 ey45
              refine lv_lstore (lv' := [(8, .long y45), (7, .int x7_29), (6, .int x6_29), (0, .ref y), (1, .int wi), (2, .long fi), (4, .int st_), (5, .int nn)]) hx hb dX9_span_45 hl (by decide) rfl (fun ls hl => ?_)
              refine lv_iload hx hb dX9_span_47 (lv_at hl 2 rfl) ?_
              refine lv_aload_n hx hb dX9_span_49 rfl (lv_at hl 3 rfl) ?_
              refine lv_iload_n hx hb dX9_span_50 rfl (lv_at hl 4 rfl) ?_
              refine lv_lload hx hb dX9_span_51 (lv_at hl 0 rfl) ?_
              obtain ⟨z53, hz53, ho29⟩ := bind_some ho29
              refine q_vi (As := [.int wi, .long y45]) (rest := [.int x6_29]) ⟨hx, hb, hml, hown, hts⟩ (k_X9_placeOf l D g m_y e_y m_aWorlds e_aWorlds m_aInWorld e_aInWorld hz53) (cwV 2 hts gX9_span_X9_placeOf rfl rfl rfl (by decide +kernel) ⟨Nat.le_of_ble_eq_true rfl, Nat.le_of_ble_eq_true rfl⟩) S m_y e_y (T := TX9) (N := 23) rfl rfl hl.1 rfl (Nat.le_of_ble_eq_true rfl) dX9_span_53 ⟨Nat.le_of_ble_eq_true rfl, Nat.le_of_ble_eq_true rfl⟩ (fun r12 L10 f11 H locs S w53 => ?_)
              obtain ⟨ex53, eL, ef⟩ := w53
              rw [eL, ef] at S
              replace ex53 := ex53.symm
              subst ex53
              refine lv_if_ge (tgt := 73) hx hb dX9_span_56 (by decide) (fun b56 => ?_) (fun b56 => ?_)
              · have ho29 := itT b56 ho29
                refine lv_iconst (v := (0 : Int32)) hx hb dX9_span_73 (by decide) ?_
                refine lv_iadd hx hb dX9_span_74 ?_
                refine lv_istore (lv' := [(6, .int (x6_29 + (0 : Int32))), (8, .long y45), (7, .int x7_29), (0, .ref y), (1, .int wi), (2, .long fi), (4, .int st_), (5, .int nn)]) hx hb dX9_span_75 hl (by decide) rfl (fun ls hl => ?_)
                refine lv_iinc (v := (x7_29 + 1)) (lv' := [(7, .int (x7_29 + 1)), (6, .int (x6_29 + (0 : Int32))), (8, .long y45), (0, .ref y), (1, .int wi), (2, .long fi), (4, .int st_), (5, .int nn)]) hx hb dX9_span_77 hl (k := 2) rfl rfl (by decide) rfl (fun ls hl => ?_)
                refine lv_goto (tgt := 29) hx hb dX9_span_80 (by decide) ?_
                exact ih29 (x7_29 + 1) (x6_29 + (0 : Int32)) _ _ _ ho29 S (lv_sub hl [0, 1, 3, 4, 5, 6, 7] rfl)
              · have ho29 := itF b56 ho29
                refine lv_iload hx hb dX9_span_59 (lv_at hl 6 rfl) ?_
                refine lv_if_ne (tgt := 69) hx hb dX9_span_61 (by decide) (fun b61 => ?_) (fun b61 => ?_)
                · have ho29 := itF b61 ho29
                  refine lv_iconst (v := (1 : Int32)) hx hb dX9_span_69 (by decide) ?_
                  refine lv_goto (tgt := 74) hx hb dX9_span_70 (by decide) ?_
                  refine lv_iadd hx hb dX9_span_74 ?_
                  refine lv_istore (lv' := [(6, .int (x6_29 + (1 : Int32))), (8, .long y45), (7, .int x7_29), (0, .ref y), (1, .int wi), (2, .long fi), (4, .int st_), (5, .int nn)]) hx hb dX9_span_75 hl (by decide) rfl (fun ls hl => ?_)
                  refine lv_iinc (v := (x7_29 + 1)) (lv' := [(7, .int (x7_29 + 1)), (6, .int (x6_29 + (1 : Int32))), (8, .long y45), (0, .ref y), (1, .int wi), (2, .long fi), (4, .int st_), (5, .int nn)]) hx hb dX9_span_77 hl (k := 2) rfl rfl (by decide) rfl (fun ls hl => ?_)
                  refine lv_goto (tgt := 29) hx hb dX9_span_80 (by decide) ?_
                  exact ih29 (x7_29 + 1) (x6_29 + (1 : Int32)) _ _ _ ho29 S (lv_sub hl [0, 1, 3, 4, 5, 6, 7] rfl)
                · have ho29 := itT b61 ho29
                  refine lv_iload hx hb dX9_span_64 (lv_at hl 1 rfl) ?_
                  refine lv_if_ne (tgt := 73) hx hb dX9_span_66 (by decide) (fun b66 => ?_) (fun b66 => ?_)
                  · have ho29 := itF b66 ho29
                    refine lv_iconst (v := (0 : Int32)) hx hb dX9_span_73 (by decide) ?_
                    refine lv_iadd hx hb dX9_span_74 ?_
                    refine lv_istore (lv' := [(6, .int (x6_29 + (0 : Int32))), (8, .long y45), (7, .int x7_29), (0, .ref y), (1, .int wi), (2, .long fi), (4, .int st_), (5, .int nn)]) hx hb dX9_span_75 hl (by decide) rfl (fun ls hl => ?_)
                    refine lv_iinc (v := (x7_29 + 1)) (lv' := [(7, .int (x7_29 + 1)), (6, .int (x6_29 + (0 : Int32))), (8, .long y45), (0, .ref y), (1, .int wi), (2, .long fi), (4, .int st_), (5, .int nn)]) hx hb dX9_span_77 hl (k := 2) rfl rfl (by decide) rfl (fun ls hl => ?_)
                    refine lv_goto (tgt := 29) hx hb dX9_span_80 (by decide) ?_
                    exact ih29 (x7_29 + 1) (x6_29 + (0 : Int32)) _ _ _ ho29 S (lv_sub hl [0, 1, 3, 4, 5, 6, 7] rfl)
                  · have ho29 := itT b66 ho29
                    refine lv_iconst (v := (1 : Int32)) hx hb dX9_span_69 (by decide) ?_
                    refine lv_goto (tgt := 74) hx hb dX9_span_70 (by decide) ?_
                    refine lv_iadd hx hb dX9_span_74 ?_
                    refine lv_istore (lv' := [(6, .int (x6_29 + (1 : Int32))), (8, .long y45), (7, .int x7_29), (0, .ref y), (1, .int wi), (2, .long fi), (4, .int st_), (5, .int nn)]) hx hb dX9_span_75 hl (by decide) rfl (fun ls hl => ?_)
                    refine lv_iinc (v := (x7_29 + 1)) (lv' := [(7, .int (x7_29 + 1)), (6, .int (x6_29 + (1 : Int32))), (8, .long y45), (0, .ref y), (1, .int wi), (2, .long fi), (4, .int st_), (5, .int nn)]) hx hb dX9_span_77 hl (k := 2) rfl rfl (by decide) rfl (fun ls hl => ?_)
                    refine lv_goto (tgt := 29) hx hb dX9_span_80 (by decide) ?_
                    exact ih29 (x7_29 + 1) (x6_29 + (1 : Int32)) _ _ _ ho29 S (lv_sub hl [0, 1, 3, 4, 5, 6, 7] rfl)
        exact LP29 FU (0 : Int32) (0 : Int32) _ _ _ ho29 S (lv_sub hl [0, 1, 2, 3, 4, 5, 6] rfl)
      · have hM := itF b18 hM
        refine lv_iconst (v := (-1 : Int32)) hx hb dX9_span_21 (by decide) ?_
        subst hQQ
        exact q_reti (post := fun x L1 f1 => x = z.1 ∧ L1 = L ∧ (∀ b, b ∈ L → b ≠ aWorlds → b ≠ aInWorld → f1 b = f b) ∧ f1 aWorlds = .inl (g 1, 8000, .inr (.inl z.2.1)) ∧ f1 aInWorld = .inl (g 0, 8, .inl z.2.2)) hx hb hr hlk S dX9_span_22 (by decide) (by decide) (by have hz := Option.some.inj hM; subst hz; exact ⟨rfl, rfl, fr, e_aWorlds, e_aInWorld⟩)

def mX9_take_L40 (vInWorld : Nat → Int32) (wi : Int32) : Nat → Int32 → (Nat → Int64) → Option (Int32 × (Nat → Int64))
  | 0, _, _ => none
  | fu + 1, x5_40, caWorlds_40 => if ix wi 8 = true then (if ((upd vInWorld (Int32.toNatClampNeg wi) ((vInWorld (Int32.toNatClampNeg wi)) - (1 : Int32))) (Int32.toNatClampNeg wi)) ≤ x5_40 then (some (x5_40, caWorlds_40)) else (if ix (((wi * (1000 : Int32)) + x5_40) + (1 : Int32)) 8000 = true then (if ix ((wi * (1000 : Int32)) + x5_40) 8000 = true then (mX9_take_L40 vInWorld wi fu (x5_40 + 1) (vp_updL caWorlds_40 (Int32.toNatClampNeg ((wi * (1000 : Int32)) + x5_40)) (caWorlds_40 (Int32.toNatClampNeg (((wi * (1000 : Int32)) + x5_40) + (1 : Int32)))))) else none) else none)) else none
def mX9_take (vWorlds : Nat → Int64) (vInWorld : Nat → Int32) (wi : Int32) (t : Int64) : Option (Int32 × (Nat → Int64) × (Nat → Int32)) := (mX9_isWorld wi).bind fun z1 => if z1 = 0 then (if 0 ≤ (-1 : Int32) then (if ix wi 8 = true then (if ix wi 8 = true then ((mX9_take_L40 vInWorld wi FU (-1 : Int32) vWorlds).bind fun o40 => if ix wi 8 = true then (some (((upd vInWorld (Int32.toNatClampNeg wi) ((vInWorld (Int32.toNatClampNeg wi)) - (1 : Int32))) (Int32.toNatClampNeg wi)), o40.2, (upd vInWorld (Int32.toNatClampNeg wi) ((vInWorld (Int32.toNatClampNeg wi)) - (1 : Int32))))) else none) else none) else none) else (some ((-1 : Int32), vWorlds, vInWorld))) else ((mX9_placeOf vWorlds vInWorld wi t).bind fun z10 => if 0 ≤ z10 then (if ix wi 8 = true then (if ix wi 8 = true then ((mX9_take_L40 vInWorld wi FU z10 vWorlds).bind fun o40 => if ix wi 8 = true then (some (((upd vInWorld (Int32.toNatClampNeg wi) ((vInWorld (Int32.toNatClampNeg wi)) - (1 : Int32))) (Int32.toNatClampNeg wi)), o40.2, (upd vInWorld (Int32.toNatClampNeg wi) ((vInWorld (Int32.toNatClampNeg wi)) - (1 : Int32))))) else none) else none) else none) else (some ((-1 : Int32), vWorlds, vInWorld)))
set_option maxHeartbeats 4000000 in
set_option maxRecDepth 100000 in
theorem k_X9_take (l : Launch) (D : va_G) (g : Nat → ClassId) {L : List Nat} {f : Nat → va_E} {aAlone aBits aCome aContentMany aContents aGone aInWorld aIsOff aKept aKind aLayerCame aLayerSize aMarks aOffAt aOrder aRest aRestMany aRivals aRow aSeed aSize aWorlds y : Nat} {many : Int32} {vWorlds : Nat → Int64} {vInWorld : Nat → Int32} {vKind : Nat → Int32} {vSize : Nat → Int32} {vMarks : Nat → Int32} {vSeed : Nat → Int32} {vContents : Nat → Int64} {vContentMany : Nat → Int32} {vRow : Nat → Int32} {vBits : Nat → Int32} {vLayerSize : Nat → Int32} {vLayerCame : Nat → Int32} {vRest : Nat → Int64} {vRestMany : Nat → Int32} {vCome : Nat → Int64} {vRivals : Nat → Int64} {vGone : Nat → Int64} {vOrder : Nat → Int32} {vOffAt : Nat → Int32} {vIsOff : Nat → Int32} {vAlone : Nat → Int32} {vKept : Nat → Int32} {wi : Int32} {t : Int64} {z : Int32 × (Nat → Int64) × (Nat → Int32)} (m_y : y ∈ L) (e_y : f y = .inr (7, [.ref aWorlds, .ref aInWorld, .ref aKind, .ref aSize, .ref aMarks, .ref aSeed, .ref aContents, .ref aContentMany, .ref aRow, .ref aBits, .ref aLayerSize, .ref aLayerCame, .ref aRest, .ref aRestMany, .int many, .ref aCome, .ref aRivals, .ref aGone, .ref aOrder, .ref aOffAt, .ref aIsOff, .ref aAlone, .ref aKept])) (m_aWorlds : aWorlds ∈ L) (e_aWorlds : f aWorlds = .inl (g 1, 8000, .inr (.inl vWorlds))) (m_aInWorld : aInWorld ∈ L) (e_aInWorld : f aInWorld = .inl (g 0, 8, .inl vInWorld)) (m_aKind : aKind ∈ L) (e_aKind : f aKind = .inl (g 0, 30, .inl vKind)) (m_aSize : aSize ∈ L) (e_aSize : f aSize = .inl (g 0, 30, .inl vSize)) (m_aMarks : aMarks ∈ L) (e_aMarks : f aMarks = .inl (g 0, 30, .inl vMarks)) (m_aSeed : aSeed ∈ L) (e_aSeed : f aSeed = .inl (g 0, 30, .inl vSeed)) (m_aContents : aContents ∈ L) (e_aContents : f aContents = .inl (g 1, 30000, .inr (.inl vContents))) (m_aContentMany : aContentMany ∈ L) (e_aContentMany : f aContentMany = .inl (g 0, 30, .inl vContentMany)) (m_aRow : aRow ∈ L) (e_aRow : f aRow = .inl (g 0, 122880, .inl vRow)) (m_aBits : aBits ∈ L) (e_aBits : f aBits = .inl (g 0, 76800, .inl vBits)) (m_aLayerSize : aLayerSize ∈ L) (e_aLayerSize : f aLayerSize = .inl (g 0, 600, .inl vLayerSize)) (m_aLayerCame : aLayerCame ∈ L) (e_aLayerCame : f aLayerCame = .inl (g 0, 600, .inl vLayerCame)) (m_aRest : aRest ∈ L) (e_aRest : f aRest = .inl (g 1, 30000, .inr (.inl vRest))) (m_aRestMany : aRestMany ∈ L) (e_aRestMany : f aRestMany = .inl (g 0, 30, .inl vRestMany)) (m_aCome : aCome ∈ L) (e_aCome : f aCome = .inl (g 1, 1000, .inr (.inl vCome))) (m_aRivals : aRivals ∈ L) (e_aRivals : f aRivals = .inl (g 1, 1000, .inr (.inl vRivals))) (m_aGone : aGone ∈ L) (e_aGone : f aGone = .inl (g 1, 1000, .inr (.inl vGone))) (m_aOrder : aOrder ∈ L) (e_aOrder : f aOrder = .inl (g 0, 1000, .inl vOrder)) (m_aOffAt : aOffAt ∈ L) (e_aOffAt : f aOffAt = .inl (g 0, 1000, .inl vOffAt)) (m_aIsOff : aIsOff ∈ L) (e_aIsOff : f aIsOff = .inl (g 2, 1000, .inl vIsOff)) (m_aAlone : aAlone ∈ L) (e_aAlone : f aAlone = .inl (g 0, 4096, .inl vAlone)) (m_aKept : aKept ∈ L) (e_aKept : f aKept = .inl (g 0, 4096, .inl vKept))    (hM : mX9_take vWorlds vInWorld wi t = some z) : cI l yX9_take wsX9_take { frames := 1, cells := 0, slots := 0, locals := 24 } D g [.ref y, .int wi, .long t] L f 0 0 (fun x L1 f1 => x = z.1 ∧ L1 = L ∧ (∀ b, b ∈ L → b ≠ aWorlds → b ≠ aInWorld → f1 b = f b) ∧ f1 aWorlds = .inl (g 1, 8000, .inr (.inl z.2.1)) ∧ f1 aInWorld = .inl (g 0, 8, .inl z.2.2)) := by
  refine cI_of (cc := cX9_take) (maxL := 6) (ret := (some .int)) (by decide) rfl (Nat.le_of_ble_eq_true rfl) ?_
  intro szz p e s m below meth c hx hb hr hml hts hown hlk hnm S ls hl
  have hl : lv_has ls 6 [(0, .ref y), (1, .int wi), (2, .long t)] := hl
  have in_X9 : ∀ w ∈ wsX90, w ∈ wsX9_take := by decide +kernel
  have n_y_aInWorld : y ≠ aInWorld := ne_ir e_aInWorld e_y
  have n_aWorlds_aInWorld : aWorlds ≠ aInWorld := ne_len e_aInWorld e_aWorlds (by decide)
  have n_aKind_aInWorld : aKind ≠ aInWorld := ne_len e_aInWorld e_aKind (by decide)
  have n_aSize_aInWorld : aSize ≠ aInWorld := ne_len e_aInWorld e_aSize (by decide)
  have n_aMarks_aInWorld : aMarks ≠ aInWorld := ne_len e_aInWorld e_aMarks (by decide)
  have n_aSeed_aInWorld : aSeed ≠ aInWorld := ne_len e_aInWorld e_aSeed (by decide)
  have n_aContents_aInWorld : aContents ≠ aInWorld := ne_len e_aInWorld e_aContents (by decide)
  have n_aContentMany_aInWorld : aContentMany ≠ aInWorld := ne_len e_aInWorld e_aContentMany (by decide)
  have n_aRow_aInWorld : aRow ≠ aInWorld := ne_len e_aInWorld e_aRow (by decide)
  have n_aBits_aInWorld : aBits ≠ aInWorld := ne_len e_aInWorld e_aBits (by decide)
  have n_aLayerSize_aInWorld : aLayerSize ≠ aInWorld := ne_len e_aInWorld e_aLayerSize (by decide)
  have n_aLayerCame_aInWorld : aLayerCame ≠ aInWorld := ne_len e_aInWorld e_aLayerCame (by decide)
  have n_aRest_aInWorld : aRest ≠ aInWorld := ne_len e_aInWorld e_aRest (by decide)
  have n_aRestMany_aInWorld : aRestMany ≠ aInWorld := ne_len e_aInWorld e_aRestMany (by decide)
  have n_aCome_aInWorld : aCome ≠ aInWorld := ne_len e_aInWorld e_aCome (by decide)
  have n_aRivals_aInWorld : aRivals ≠ aInWorld := ne_len e_aInWorld e_aRivals (by decide)
  have n_aGone_aInWorld : aGone ≠ aInWorld := ne_len e_aInWorld e_aGone (by decide)
  have n_aOrder_aInWorld : aOrder ≠ aInWorld := ne_len e_aInWorld e_aOrder (by decide)
  have n_aOffAt_aInWorld : aOffAt ≠ aInWorld := ne_len e_aInWorld e_aOffAt (by decide)
  have n_aIsOff_aInWorld : aIsOff ≠ aInWorld := ne_len e_aInWorld e_aIsOff (by decide)
  have n_aAlone_aInWorld : aAlone ≠ aInWorld := ne_len e_aInWorld e_aAlone (by decide)
  have n_aKept_aInWorld : aKept ≠ aInWorld := ne_len e_aInWorld e_aKept (by decide)
  have n_y_aWorlds : y ≠ aWorlds := ne_ir e_aWorlds e_y
  have n_aInWorld_aWorlds : aInWorld ≠ aWorlds := ne_len e_aWorlds e_aInWorld (by decide)
  have n_aKind_aWorlds : aKind ≠ aWorlds := ne_len e_aWorlds e_aKind (by decide)
  have n_aSize_aWorlds : aSize ≠ aWorlds := ne_len e_aWorlds e_aSize (by decide)
  have n_aMarks_aWorlds : aMarks ≠ aWorlds := ne_len e_aWorlds e_aMarks (by decide)
  have n_aSeed_aWorlds : aSeed ≠ aWorlds := ne_len e_aWorlds e_aSeed (by decide)
  have n_aContents_aWorlds : aContents ≠ aWorlds := ne_len e_aWorlds e_aContents (by decide)
  have n_aContentMany_aWorlds : aContentMany ≠ aWorlds := ne_len e_aWorlds e_aContentMany (by decide)
  have n_aRow_aWorlds : aRow ≠ aWorlds := ne_len e_aWorlds e_aRow (by decide)
  have n_aBits_aWorlds : aBits ≠ aWorlds := ne_len e_aWorlds e_aBits (by decide)
  have n_aLayerSize_aWorlds : aLayerSize ≠ aWorlds := ne_len e_aWorlds e_aLayerSize (by decide)
  have n_aLayerCame_aWorlds : aLayerCame ≠ aWorlds := ne_len e_aWorlds e_aLayerCame (by decide)
  have n_aRest_aWorlds : aRest ≠ aWorlds := ne_len e_aWorlds e_aRest (by decide)
  have n_aRestMany_aWorlds : aRestMany ≠ aWorlds := ne_len e_aWorlds e_aRestMany (by decide)
  have n_aCome_aWorlds : aCome ≠ aWorlds := ne_len e_aWorlds e_aCome (by decide)
  have n_aRivals_aWorlds : aRivals ≠ aWorlds := ne_len e_aWorlds e_aRivals (by decide)
  have n_aGone_aWorlds : aGone ≠ aWorlds := ne_len e_aWorlds e_aGone (by decide)
  have n_aOrder_aWorlds : aOrder ≠ aWorlds := ne_len e_aWorlds e_aOrder (by decide)
  have n_aOffAt_aWorlds : aOffAt ≠ aWorlds := ne_len e_aWorlds e_aOffAt (by decide)
  have n_aIsOff_aWorlds : aIsOff ≠ aWorlds := ne_len e_aWorlds e_aIsOff (by decide)
  have n_aAlone_aWorlds : aAlone ≠ aWorlds := ne_len e_aWorlds e_aAlone (by decide)
  have n_aKept_aWorlds : aKept ≠ aWorlds := ne_len e_aWorlds e_aKept (by decide)
  have fr : ∀ b, b ∈ L → b ≠ aWorlds → b ≠ aInWorld → f b = f b := fun _ _ _ _ => rfl
  unfold mX9_take at hM
  refine W_gen (fun QQ hQQ => ?_)
  refine lv_iload_n hx hb dX9_take_0 rfl (lv_at hl 1 rfl) ?_
  obtain ⟨z1, hz1, hM⟩ := bind_some hM
  refine q_si (As := [.int wi]) (rest := []) ⟨hx, hb, hml, hown, hts⟩ (k_X9_isWorld l D g hz1) (va_cwS 1 hts gX9_take_X9_isWorld rfl rfl rfl (by decide +kernel) ⟨Nat.le_of_ble_eq_true rfl, Nat.le_of_ble_eq_true rfl⟩) S rfl hl.1 rfl (Nat.le_of_ble_eq_true rfl) dX9_take_1 ⟨Nat.le_of_ble_eq_true rfl, Nat.le_of_ble_eq_true rfl⟩ (fun r3 L1 f2 H locs S w1 => ?_)
  obtain ⟨ex1, eL, ef⟩ := w1
  rw [eL, ef] at S
  replace ex1 := ex1.symm
  subst ex1
  refine lv_if_eq (tgt := 16) hx hb dX9_take_4 (by decide) (fun b4 => ?_) (fun b4 => ?_)
  · have hM := itT b4 hM
    refine lv_iconst (v := (-1 : Int32)) hx hb dX9_take_16 (by decide) ?_
    refine lv_istore (lv' := [(4, .int (-1 : Int32)), (0, .ref y), (1, .int wi), (2, .long t)]) hx hb dX9_take_17 hl (by decide) rfl (fun ls hl => ?_)
    refine lv_iload hx hb dX9_take_19 (lv_at hl 0 rfl) ?_
    refine lv_if_ge (tgt := 26) hx hb dX9_take_21 (by decide) (fun b21 => ?_) (fun b21 => ?_)
    · have hM := itT b21 hM
      refine lv_aload_n hx hb dX9_take_26 rfl (lv_at hl 1 rfl) ?_
      refine q_get hx hb hts in_X9 hown S m_y e_y (C := RX9) (T := TX9) (N := 23) rfl 1 (by decide) rfl (hts (.fieldLink RX9 13 "SieveCabinetModel" "inWorld" "[I") (by decide +kernel)) dX9_take_27 ?_
      refine lv_iload_n hx hb dX9_take_30 rfl (lv_at hl 2 rfl) ?_
      refine lv_dup2_11 hx hb dX9_take_31 rfl rfl ?_
      obtain ⟨hi32, hM⟩ := ckx hM
      refine q_iald hx hb S m_aInWorld e_aInWorld hi32 dX9_take_32 ?_
      refine lv_iconst (v := (1 : Int32)) hx hb dX9_take_33 (by decide) ?_
      refine lv_isub hx hb dX9_take_34 ?_
      obtain ⟨hi35, hM⟩ := ckx hM
      refine k_iast hx hb S m_aInWorld e_aInWorld hi35 dX9_take_35 (fun f4 ef4 H locs S => ?_)
      have e_aInWorld := up_self ef4
      have fr : ∀ b, b ∈ L → b ≠ aWorlds → b ≠ aInWorld → f4 b = f b := fun b mb nb0 nb1 => (up_ne ef4 nb1 rfl).trans (fr b mb nb0 nb1)
      refine lv_iload hx hb dX9_take_36 (lv_at hl 0 rfl) ?_
      refine lv_istore (lv' := [(5, .int (-1 : Int32)), (4, .int (-1 : Int32)), (0, .ref y), (1, .int wi), (2, .long t)]) hx hb dX9_take_38 hl (by decide) rfl (fun ls hl => ?_)
      have e_y := (up_ne ef4 n_y_aInWorld e_y)
      have e_aWorlds := (up_ne ef4 n_aWorlds_aInWorld e_aWorlds)
      have e_aKind := (up_ne ef4 n_aKind_aInWorld e_aKind)
      have e_aSize := (up_ne ef4 n_aSize_aInWorld e_aSize)
      have e_aMarks := (up_ne ef4 n_aMarks_aInWorld e_aMarks)
      have e_aSeed := (up_ne ef4 n_aSeed_aInWorld e_aSeed)
      have e_aContents := (up_ne ef4 n_aContents_aInWorld e_aContents)
      have e_aContentMany := (up_ne ef4 n_aContentMany_aInWorld e_aContentMany)
      have e_aRow := (up_ne ef4 n_aRow_aInWorld e_aRow)
      have e_aBits := (up_ne ef4 n_aBits_aInWorld e_aBits)
      have e_aLayerSize := (up_ne ef4 n_aLayerSize_aInWorld e_aLayerSize)
      have e_aLayerCame := (up_ne ef4 n_aLayerCame_aInWorld e_aLayerCame)
      have e_aRest := (up_ne ef4 n_aRest_aInWorld e_aRest)
      have e_aRestMany := (up_ne ef4 n_aRestMany_aInWorld e_aRestMany)
      have e_aCome := (up_ne ef4 n_aCome_aInWorld e_aCome)
      have e_aRivals := (up_ne ef4 n_aRivals_aInWorld e_aRivals)
      have e_aGone := (up_ne ef4 n_aGone_aInWorld e_aGone)
      have e_aOrder := (up_ne ef4 n_aOrder_aInWorld e_aOrder)
      have e_aOffAt := (up_ne ef4 n_aOffAt_aInWorld e_aOffAt)
      have e_aIsOff := (up_ne ef4 n_aIsOff_aInWorld e_aIsOff)
      have e_aAlone := (up_ne ef4 n_aAlone_aInWorld e_aAlone)
      have e_aKept := (up_ne ef4 n_aKept_aInWorld e_aKept)
      obtain ⟨o40, ho40, hM⟩ := bind_some hM
      have EX40 : ∀ (fl40 : Nat → va_E) (H : Heap) (locs : List Loc) (ls : Array Slot), PS D g (va_A (va_pl L f) szz) s.heap s L fl40 H locs → fl40 y = .inr (7, [.ref aWorlds, .ref aInWorld, .ref aKind, .ref aSize, .ref aMarks, .ref aSeed, .ref aContents, .ref aContentMany, .ref aRow, .ref aBits, .ref aLayerSize, .ref aLayerCame, .ref aRest, .ref aRestMany, .int many, .ref aCome, .ref aRivals, .ref aGone, .ref aOrder, .ref aOffAt, .ref aIsOff, .ref aAlone, .ref aKept]) → fl40 aWorlds = .inl (g 1, 8000, .inr (.inl o40.2)) → fl40 aInWorld = .inl (g 0, 8, .inl (upd vInWorld (Int32.toNatClampNeg wi) ((vInWorld (Int32.toNatClampNeg wi)) - (1 : Int32)))) → fl40 aKind = .inl (g 0, 30, .inl vKind) → fl40 aSize = .inl (g 0, 30, .inl vSize) → fl40 aMarks = .inl (g 0, 30, .inl vMarks) → fl40 aSeed = .inl (g 0, 30, .inl vSeed) → fl40 aContents = .inl (g 1, 30000, .inr (.inl vContents)) → fl40 aContentMany = .inl (g 0, 30, .inl vContentMany) → fl40 aRow = .inl (g 0, 122880, .inl vRow) → fl40 aBits = .inl (g 0, 76800, .inl vBits) → fl40 aLayerSize = .inl (g 0, 600, .inl vLayerSize) → fl40 aLayerCame = .inl (g 0, 600, .inl vLayerCame) → fl40 aRest = .inl (g 1, 30000, .inr (.inl vRest)) → fl40 aRestMany = .inl (g 0, 30, .inl vRestMany) → fl40 aCome = .inl (g 1, 1000, .inr (.inl vCome)) → fl40 aRivals = .inl (g 1, 1000, .inr (.inl vRivals)) → fl40 aGone = .inl (g 1, 1000, .inr (.inl vGone)) → fl40 aOrder = .inl (g 0, 1000, .inl vOrder) → fl40 aOffAt = .inl (g 0, 1000, .inl vOffAt) → fl40 aIsOff = .inl (g 2, 1000, .inl vIsOff) → fl40 aAlone = .inl (g 0, 4096, .inl vAlone) → fl40 aKept = .inl (g 0, 4096, .inl vKept) → (∀ b, b ∈ L → b ≠ aWorlds → b ≠ aInWorld → fl40 b = f b) → lv_has ls 6 [(0, .ref y), (1, .int wi)] → W p l e { frames := 1, cells := 0, slots := 0, locals := 24 } s m [.ref y, .int wi, .long t].toArray below meth c H locs 0 0 QQ (F0 m 85 ls []) := by
        intro fl40 H locs ls S e_y e_aWorlds e_aInWorld e_aKind e_aSize e_aMarks e_aSeed e_aContents e_aContentMany e_aRow e_aBits e_aLayerSize e_aLayerCame e_aRest e_aRestMany e_aCome e_aRivals e_aGone e_aOrder e_aOffAt e_aIsOff e_aAlone e_aKept fr hl
        refine lv_aload_n hx hb dX9_take_85 rfl (lv_at hl 0 rfl) ?_
        refine q_get hx hb hts in_X9 hown S m_y e_y (C := RX9) (T := TX9) (N := 23) rfl 1 (by decide) rfl (hts (.fieldLink RX9 13 "SieveCabinetModel" "inWorld" "[I") (by decide +kernel)) dX9_take_86 ?_
        refine lv_iload_n hx hb dX9_take_89 rfl (lv_at hl 1 rfl) ?_
        obtain ⟨hi90, hM⟩ := ckx hM
        refine q_iald hx hb S m_aInWorld e_aInWorld hi90 dX9_take_90 ?_
        subst hQQ
        exact q_reti (post := fun x L1 f1 => x = z.1 ∧ L1 = L ∧ (∀ b, b ∈ L → b ≠ aWorlds → b ≠ aInWorld → f1 b = f b) ∧ f1 aWorlds = .inl (g 1, 8000, .inr (.inl z.2.1)) ∧ f1 aInWorld = .inl (g 0, 8, .inl z.2.2)) hx hb hr hlk S dX9_take_91 (by decide) (by decide) (by have hz := Option.some.inj hM; subst hz; exact ⟨rfl, rfl, fr, e_aWorlds, e_aInWorld⟩)
      have LP40 : ∀ (fu : Nat) (x5_40 : Int32) (caWorlds_40 : Nat → Int64) (fl40 : Nat → va_E) (H : Heap) (locs : List Loc) (ls : Array Slot), (mX9_take_L40 vInWorld wi) fu x5_40 caWorlds_40 = some o40 → PS D g (va_A (va_pl L f) szz) s.heap s L fl40 H locs → fl40 y = .inr (7, [.ref aWorlds, .ref aInWorld, .ref aKind, .ref aSize, .ref aMarks, .ref aSeed, .ref aContents, .ref aContentMany, .ref aRow, .ref aBits, .ref aLayerSize, .ref aLayerCame, .ref aRest, .ref aRestMany, .int many, .ref aCome, .ref aRivals, .ref aGone, .ref aOrder, .ref aOffAt, .ref aIsOff, .ref aAlone, .ref aKept]) → fl40 aWorlds = .inl (g 1, 8000, .inr (.inl caWorlds_40)) → fl40 aInWorld = .inl (g 0, 8, .inl (upd vInWorld (Int32.toNatClampNeg wi) ((vInWorld (Int32.toNatClampNeg wi)) - (1 : Int32)))) → fl40 aKind = .inl (g 0, 30, .inl vKind) → fl40 aSize = .inl (g 0, 30, .inl vSize) → fl40 aMarks = .inl (g 0, 30, .inl vMarks) → fl40 aSeed = .inl (g 0, 30, .inl vSeed) → fl40 aContents = .inl (g 1, 30000, .inr (.inl vContents)) → fl40 aContentMany = .inl (g 0, 30, .inl vContentMany) → fl40 aRow = .inl (g 0, 122880, .inl vRow) → fl40 aBits = .inl (g 0, 76800, .inl vBits) → fl40 aLayerSize = .inl (g 0, 600, .inl vLayerSize) → fl40 aLayerCame = .inl (g 0, 600, .inl vLayerCame) → fl40 aRest = .inl (g 1, 30000, .inr (.inl vRest)) → fl40 aRestMany = .inl (g 0, 30, .inl vRestMany) → fl40 aCome = .inl (g 1, 1000, .inr (.inl vCome)) → fl40 aRivals = .inl (g 1, 1000, .inr (.inl vRivals)) → fl40 aGone = .inl (g 1, 1000, .inr (.inl vGone)) → fl40 aOrder = .inl (g 0, 1000, .inl vOrder) → fl40 aOffAt = .inl (g 0, 1000, .inl vOffAt) → fl40 aIsOff = .inl (g 2, 1000, .inl vIsOff) → fl40 aAlone = .inl (g 0, 4096, .inl vAlone) → fl40 aKept = .inl (g 0, 4096, .inl vKept) → (∀ b, b ∈ L → b ≠ aWorlds → b ≠ aInWorld → fl40 b = f b) → lv_has ls 6 [(5, .int x5_40), (0, .ref y), (1, .int wi)] → W p l e { frames := 1, cells := 0, slots := 0, locals := 24 } s m [.ref y, .int wi, .long t].toArray below meth c H locs 0 0 QQ (F0 m 40 ls []) := by
        intro fu
        induction fu with
        | zero => intro x5_40 caWorlds_40 fl40 H locs ls ho40 S e_y e_aWorlds e_aInWorld e_aKind e_aSize e_aMarks e_aSeed e_aContents e_aContentMany e_aRow e_aBits e_aLayerSize e_aLayerCame e_aRest e_aRestMany e_aCome e_aRivals e_aGone e_aOrder e_aOffAt e_aIsOff e_aAlone e_aKept fr hl; exact no_some ho40
        | succ fu ih40 =>
          intro x5_40 caWorlds_40 fl40 H locs ls ho40 S e_y e_aWorlds e_aInWorld e_aKind e_aSize e_aMarks e_aSeed e_aContents e_aContentMany e_aRow e_aBits e_aLayerSize e_aLayerCame e_aRest e_aRestMany e_aCome e_aRivals e_aGone e_aOrder e_aOffAt e_aIsOff e_aAlone e_aKept fr hl
          rw [mX9_take_L40] at ho40
          refine lv_iload hx hb dX9_take_40 (lv_at hl 0 rfl) ?_
          refine lv_aload_n hx hb dX9_take_42 rfl (lv_at hl 1 rfl) ?_
          refine q_get hx hb hts in_X9 hown S m_y e_y (C := RX9) (T := TX9) (N := 23) rfl 1 (by decide) rfl (hts (.fieldLink RX9 13 "SieveCabinetModel" "inWorld" "[I") (by decide +kernel)) dX9_take_43 ?_
          refine lv_iload_n hx hb dX9_take_46 rfl (lv_at hl 2 rfl) ?_
          obtain ⟨hi47, ho40⟩ := ckx ho40
          refine q_iald hx hb S m_aInWorld e_aInWorld hi47 dX9_take_47 ?_
          refine lv_icmp_ge (tgt := 85) hx hb dX9_take_48 (by decide) (fun b48 => ?_) (fun b48 => ?_)
          · have ho40 := itT b48 ho40
            obtain rfl := Option.some.inj ho40
            exact EX40 fl40 _ _ _ S e_y e_aWorlds e_aInWorld e_aKind e_aSize e_aMarks e_aSeed e_aContents e_aContentMany e_aRow e_aBits e_aLayerSize e_aLayerCame e_aRest e_aRestMany e_aCome e_aRivals e_aGone e_aOrder e_aOffAt e_aIsOff e_aAlone e_aKept fr (lv_sub hl [1, 2] rfl)
          · have ho40 := itF b48 ho40
            refine lv_aload_n hx hb dX9_take_51 rfl (lv_at hl 1 rfl) ?_
            refine q_get hx hb hts in_X9 hown S m_y e_y (C := RX9) (T := TX9) (N := 23) rfl 0 (by decide) rfl (hts (.fieldLink RX9 9 "SieveCabinetModel" "worlds" "[J") (by decide +kernel)) dX9_take_52 ?_
            refine lv_iload_n hx hb dX9_take_55 rfl (lv_at hl 2 rfl) ?_
            refine lv_sipush (v := (1000 : Int32)) hx hb dX9_take_56 (by decide) ?_
            refine lv_imul hx hb dX9_take_59 ?_
            refine lv_iload hx hb dX9_take_60 (lv_at hl 0 rfl) ?_
            refine lv_iadd hx hb dX9_take_62 ?_
            refine lv_aload_n hx hb dX9_take_63 rfl (lv_at hl 1 rfl) ?_
            refine q_get hx hb hts in_X9 hown S m_y e_y (C := RX9) (T := TX9) (N := 23) rfl 0 (by decide) rfl (hts (.fieldLink RX9 9 "SieveCabinetModel" "worlds" "[J") (by decide +kernel)) dX9_take_64 ?_
            refine lv_iload_n hx hb dX9_take_67 rfl (lv_at hl 2 rfl) ?_
            refine lv_sipush (v := (1000 : Int32)) hx hb dX9_take_68 (by decide) ?_
            refine lv_imul hx hb dX9_take_71 ?_
            refine lv_iload hx hb dX9_take_72 (lv_at hl 0 rfl) ?_
            refine lv_iadd hx hb dX9_take_74 ?_
            refine lv_iconst (v := (1 : Int32)) hx hb dX9_take_75 (by decide) ?_
            refine lv_iadd hx hb dX9_take_76 ?_
            obtain ⟨hi77, ho40⟩ := ckx ho40
            refine q_lald hx hb S m_aWorlds e_aWorlds hi77 dX9_take_77 ?_
            obtain ⟨hi78, ho40⟩ := ckx ho40
            refine k_last hx hb S m_aWorlds e_aWorlds hi78 dX9_take_78 (fun f5 ef5 H locs S => ?_)
            have e_aWorlds := up_self ef5
            have fr : ∀ b, b ∈ L → b ≠ aWorlds → b ≠ aInWorld → f5 b = f b := fun b mb nb0 nb1 => (up_ne ef5 nb0 rfl).trans (fr b mb nb0 nb1)
            refine lv_iinc (v := (x5_40 + 1)) (lv' := [(5, .int (x5_40 + 1)), (0, .ref y), (1, .int wi)]) hx hb dX9_take_79 hl (k := 0) rfl rfl (by decide) rfl (fun ls hl => ?_)
            refine lv_goto (tgt := 40) hx hb dX9_take_82 (by decide) ?_
            have e_y := (up_ne ef5 n_y_aWorlds e_y)
            have e_aInWorld := (up_ne ef5 n_aInWorld_aWorlds e_aInWorld)
            have e_aKind := (up_ne ef5 n_aKind_aWorlds e_aKind)
            have e_aSize := (up_ne ef5 n_aSize_aWorlds e_aSize)
            have e_aMarks := (up_ne ef5 n_aMarks_aWorlds e_aMarks)
            have e_aSeed := (up_ne ef5 n_aSeed_aWorlds e_aSeed)
            have e_aContents := (up_ne ef5 n_aContents_aWorlds e_aContents)
            have e_aContentMany := (up_ne ef5 n_aContentMany_aWorlds e_aContentMany)
            have e_aRow := (up_ne ef5 n_aRow_aWorlds e_aRow)
            have e_aBits := (up_ne ef5 n_aBits_aWorlds e_aBits)
            have e_aLayerSize := (up_ne ef5 n_aLayerSize_aWorlds e_aLayerSize)
            have e_aLayerCame := (up_ne ef5 n_aLayerCame_aWorlds e_aLayerCame)
            have e_aRest := (up_ne ef5 n_aRest_aWorlds e_aRest)
            have e_aRestMany := (up_ne ef5 n_aRestMany_aWorlds e_aRestMany)
            have e_aCome := (up_ne ef5 n_aCome_aWorlds e_aCome)
            have e_aRivals := (up_ne ef5 n_aRivals_aWorlds e_aRivals)
            have e_aGone := (up_ne ef5 n_aGone_aWorlds e_aGone)
            have e_aOrder := (up_ne ef5 n_aOrder_aWorlds e_aOrder)
            have e_aOffAt := (up_ne ef5 n_aOffAt_aWorlds e_aOffAt)
            have e_aIsOff := (up_ne ef5 n_aIsOff_aWorlds e_aIsOff)
            have e_aAlone := (up_ne ef5 n_aAlone_aWorlds e_aAlone)
            have e_aKept := (up_ne ef5 n_aKept_aWorlds e_aKept)
            exact ih40 (x5_40 + 1) (vp_updL caWorlds_40 (Int32.toNatClampNeg ((wi * (1000 : Int32)) + x5_40)) (caWorlds_40 (Int32.toNatClampNeg (((wi * (1000 : Int32)) + x5_40) + (1 : Int32))))) f5 _ _ _ ho40 S e_y e_aWorlds e_aInWorld e_aKind e_aSize e_aMarks e_aSeed e_aContents e_aContentMany e_aRow e_aBits e_aLayerSize e_aLayerCame e_aRest e_aRestMany e_aCome e_aRivals e_aGone e_aOrder e_aOffAt e_aIsOff e_aAlone e_aKept fr (lv_sub hl [0, 1, 2] rfl)
      exact LP40 FU (-1 : Int32) vWorlds f4 _ _ _ ho40 S e_y e_aWorlds e_aInWorld e_aKind e_aSize e_aMarks e_aSeed e_aContents e_aContentMany e_aRow e_aBits e_aLayerSize e_aLayerCame e_aRest e_aRestMany e_aCome e_aRivals e_aGone e_aOrder e_aOffAt e_aIsOff e_aAlone e_aKept fr (lv_sub hl [0, 2, 3] rfl)
    · have hM := itF b21 hM
      refine lv_iconst (v := (-1 : Int32)) hx hb dX9_take_24 (by decide) ?_
      subst hQQ
      exact q_reti (post := fun x L1 f1 => x = z.1 ∧ L1 = L ∧ (∀ b, b ∈ L → b ≠ aWorlds → b ≠ aInWorld → f1 b = f b) ∧ f1 aWorlds = .inl (g 1, 8000, .inr (.inl z.2.1)) ∧ f1 aInWorld = .inl (g 0, 8, .inl z.2.2)) hx hb hr hlk S dX9_take_25 (by decide) (by decide) (by have hz := Option.some.inj hM; subst hz; exact ⟨rfl, rfl, fr, e_aWorlds, e_aInWorld⟩)
  · have hM := itF b4 hM
    refine lv_aload_n hx hb dX9_take_7 rfl (lv_at hl 0 rfl) ?_
    refine lv_iload_n hx hb dX9_take_8 rfl (lv_at hl 1 rfl) ?_
    refine lv_lload_n hx hb dX9_take_9 rfl (lv_at hl 2 rfl) ?_
    obtain ⟨z10, hz10, hM⟩ := bind_some hM
    refine q_vi (As := [.int wi, .long t]) (rest := []) ⟨hx, hb, hml, hown, hts⟩ (k_X9_placeOf l D g m_y e_y m_aWorlds e_aWorlds m_aInWorld e_aInWorld hz10) (cwV 2 hts gX9_take_X9_placeOf rfl rfl rfl (by decide +kernel) ⟨Nat.le_of_ble_eq_true rfl, Nat.le_of_ble_eq_true rfl⟩) S m_y e_y (T := TX9) (N := 23) rfl rfl hl.1 rfl (Nat.le_of_ble_eq_true rfl) dX9_take_10 ⟨Nat.le_of_ble_eq_true rfl, Nat.le_of_ble_eq_true rfl⟩ (fun r8 L6 f7 H locs S w10 => ?_)
    obtain ⟨ex10, eL, ef⟩ := w10
    rw [eL, ef] at S
    replace ex10 := ex10.symm
    subst ex10
    refine lv_goto (tgt := 17) hx hb dX9_take_13 (by decide) ?_
    refine lv_istore (lv' := [(4, .int z10), (0, .ref y), (1, .int wi), (2, .long t)]) hx hb dX9_take_17 hl (by decide) rfl (fun ls hl => ?_)
    refine lv_iload hx hb dX9_take_19 (lv_at hl 0 rfl) ?_
    refine lv_if_ge (tgt := 26) hx hb dX9_take_21 (by decide) (fun b21 => ?_) (fun b21 => ?_)
    · have hM := itT b21 hM
      refine lv_aload_n hx hb dX9_take_26 rfl (lv_at hl 1 rfl) ?_
      refine q_get hx hb hts in_X9 hown S m_y e_y (C := RX9) (T := TX9) (N := 23) rfl 1 (by decide) rfl (hts (.fieldLink RX9 13 "SieveCabinetModel" "inWorld" "[I") (by decide +kernel)) dX9_take_27 ?_
      refine lv_iload_n hx hb dX9_take_30 rfl (lv_at hl 2 rfl) ?_
      refine lv_dup2_11 hx hb dX9_take_31 rfl rfl ?_
      obtain ⟨hi32, hM⟩ := ckx hM
      refine q_iald hx hb S m_aInWorld e_aInWorld hi32 dX9_take_32 ?_
      refine lv_iconst (v := (1 : Int32)) hx hb dX9_take_33 (by decide) ?_
      refine lv_isub hx hb dX9_take_34 ?_
      obtain ⟨hi35, hM⟩ := ckx hM
      refine k_iast hx hb S m_aInWorld e_aInWorld hi35 dX9_take_35 (fun f9 ef9 H locs S => ?_)
      have e_aInWorld := up_self ef9
      have fr : ∀ b, b ∈ L → b ≠ aWorlds → b ≠ aInWorld → f9 b = f b := fun b mb nb0 nb1 => (up_ne ef9 nb1 rfl).trans (fr b mb nb0 nb1)
      refine lv_iload hx hb dX9_take_36 (lv_at hl 0 rfl) ?_
      refine lv_istore (lv' := [(5, .int z10), (4, .int z10), (0, .ref y), (1, .int wi), (2, .long t)]) hx hb dX9_take_38 hl (by decide) rfl (fun ls hl => ?_)
      have e_y := (up_ne ef9 n_y_aInWorld e_y)
      have e_aWorlds := (up_ne ef9 n_aWorlds_aInWorld e_aWorlds)
      have e_aKind := (up_ne ef9 n_aKind_aInWorld e_aKind)
      have e_aSize := (up_ne ef9 n_aSize_aInWorld e_aSize)
      have e_aMarks := (up_ne ef9 n_aMarks_aInWorld e_aMarks)
      have e_aSeed := (up_ne ef9 n_aSeed_aInWorld e_aSeed)
      have e_aContents := (up_ne ef9 n_aContents_aInWorld e_aContents)
      have e_aContentMany := (up_ne ef9 n_aContentMany_aInWorld e_aContentMany)
      have e_aRow := (up_ne ef9 n_aRow_aInWorld e_aRow)
      have e_aBits := (up_ne ef9 n_aBits_aInWorld e_aBits)
      have e_aLayerSize := (up_ne ef9 n_aLayerSize_aInWorld e_aLayerSize)
      have e_aLayerCame := (up_ne ef9 n_aLayerCame_aInWorld e_aLayerCame)
      have e_aRest := (up_ne ef9 n_aRest_aInWorld e_aRest)
      have e_aRestMany := (up_ne ef9 n_aRestMany_aInWorld e_aRestMany)
      have e_aCome := (up_ne ef9 n_aCome_aInWorld e_aCome)
      have e_aRivals := (up_ne ef9 n_aRivals_aInWorld e_aRivals)
      have e_aGone := (up_ne ef9 n_aGone_aInWorld e_aGone)
      have e_aOrder := (up_ne ef9 n_aOrder_aInWorld e_aOrder)
      have e_aOffAt := (up_ne ef9 n_aOffAt_aInWorld e_aOffAt)
      have e_aIsOff := (up_ne ef9 n_aIsOff_aInWorld e_aIsOff)
      have e_aAlone := (up_ne ef9 n_aAlone_aInWorld e_aAlone)
      have e_aKept := (up_ne ef9 n_aKept_aInWorld e_aKept)
      obtain ⟨o40, ho40, hM⟩ := bind_some hM
      have EX40 : ∀ (fl40 : Nat → va_E) (H : Heap) (locs : List Loc) (ls : Array Slot), PS D g (va_A (va_pl L f) szz) s.heap s L fl40 H locs → fl40 y = .inr (7, [.ref aWorlds, .ref aInWorld, .ref aKind, .ref aSize, .ref aMarks, .ref aSeed, .ref aContents, .ref aContentMany, .ref aRow, .ref aBits, .ref aLayerSize, .ref aLayerCame, .ref aRest, .ref aRestMany, .int many, .ref aCome, .ref aRivals, .ref aGone, .ref aOrder, .ref aOffAt, .ref aIsOff, .ref aAlone, .ref aKept]) → fl40 aWorlds = .inl (g 1, 8000, .inr (.inl o40.2)) → fl40 aInWorld = .inl (g 0, 8, .inl (upd vInWorld (Int32.toNatClampNeg wi) ((vInWorld (Int32.toNatClampNeg wi)) - (1 : Int32)))) → fl40 aKind = .inl (g 0, 30, .inl vKind) → fl40 aSize = .inl (g 0, 30, .inl vSize) → fl40 aMarks = .inl (g 0, 30, .inl vMarks) → fl40 aSeed = .inl (g 0, 30, .inl vSeed) → fl40 aContents = .inl (g 1, 30000, .inr (.inl vContents)) → fl40 aContentMany = .inl (g 0, 30, .inl vContentMany) → fl40 aRow = .inl (g 0, 122880, .inl vRow) → fl40 aBits = .inl (g 0, 76800, .inl vBits) → fl40 aLayerSize = .inl (g 0, 600, .inl vLayerSize) → fl40 aLayerCame = .inl (g 0, 600, .inl vLayerCame) → fl40 aRest = .inl (g 1, 30000, .inr (.inl vRest)) → fl40 aRestMany = .inl (g 0, 30, .inl vRestMany) → fl40 aCome = .inl (g 1, 1000, .inr (.inl vCome)) → fl40 aRivals = .inl (g 1, 1000, .inr (.inl vRivals)) → fl40 aGone = .inl (g 1, 1000, .inr (.inl vGone)) → fl40 aOrder = .inl (g 0, 1000, .inl vOrder) → fl40 aOffAt = .inl (g 0, 1000, .inl vOffAt) → fl40 aIsOff = .inl (g 2, 1000, .inl vIsOff) → fl40 aAlone = .inl (g 0, 4096, .inl vAlone) → fl40 aKept = .inl (g 0, 4096, .inl vKept) → (∀ b, b ∈ L → b ≠ aWorlds → b ≠ aInWorld → fl40 b = f b) → lv_has ls 6 [(0, .ref y), (1, .int wi)] → W p l e { frames := 1, cells := 0, slots := 0, locals := 24 } s m [.ref y, .int wi, .long t].toArray below meth c H locs 0 0 QQ (F0 m 85 ls []) := by
        intro fl40 H locs ls S e_y e_aWorlds e_aInWorld e_aKind e_aSize e_aMarks e_aSeed e_aContents e_aContentMany e_aRow e_aBits e_aLayerSize e_aLayerCame e_aRest e_aRestMany e_aCome e_aRivals e_aGone e_aOrder e_aOffAt e_aIsOff e_aAlone e_aKept fr hl
        refine lv_aload_n hx hb dX9_take_85 rfl (lv_at hl 0 rfl) ?_
        refine q_get hx hb hts in_X9 hown S m_y e_y (C := RX9) (T := TX9) (N := 23) rfl 1 (by decide) rfl (hts (.fieldLink RX9 13 "SieveCabinetModel" "inWorld" "[I") (by decide +kernel)) dX9_take_86 ?_
        refine lv_iload_n hx hb dX9_take_89 rfl (lv_at hl 1 rfl) ?_
        obtain ⟨hi90, hM⟩ := ckx hM
        refine q_iald hx hb S m_aInWorld e_aInWorld hi90 dX9_take_90 ?_
        subst hQQ
        exact q_reti (post := fun x L1 f1 => x = z.1 ∧ L1 = L ∧ (∀ b, b ∈ L → b ≠ aWorlds → b ≠ aInWorld → f1 b = f b) ∧ f1 aWorlds = .inl (g 1, 8000, .inr (.inl z.2.1)) ∧ f1 aInWorld = .inl (g 0, 8, .inl z.2.2)) hx hb hr hlk S dX9_take_91 (by decide) (by decide) (by have hz := Option.some.inj hM; subst hz; exact ⟨rfl, rfl, fr, e_aWorlds, e_aInWorld⟩)
      have LP40 : ∀ (fu : Nat) (x5_40 : Int32) (caWorlds_40 : Nat → Int64) (fl40 : Nat → va_E) (H : Heap) (locs : List Loc) (ls : Array Slot), (mX9_take_L40 vInWorld wi) fu x5_40 caWorlds_40 = some o40 → PS D g (va_A (va_pl L f) szz) s.heap s L fl40 H locs → fl40 y = .inr (7, [.ref aWorlds, .ref aInWorld, .ref aKind, .ref aSize, .ref aMarks, .ref aSeed, .ref aContents, .ref aContentMany, .ref aRow, .ref aBits, .ref aLayerSize, .ref aLayerCame, .ref aRest, .ref aRestMany, .int many, .ref aCome, .ref aRivals, .ref aGone, .ref aOrder, .ref aOffAt, .ref aIsOff, .ref aAlone, .ref aKept]) → fl40 aWorlds = .inl (g 1, 8000, .inr (.inl caWorlds_40)) → fl40 aInWorld = .inl (g 0, 8, .inl (upd vInWorld (Int32.toNatClampNeg wi) ((vInWorld (Int32.toNatClampNeg wi)) - (1 : Int32)))) → fl40 aKind = .inl (g 0, 30, .inl vKind) → fl40 aSize = .inl (g 0, 30, .inl vSize) → fl40 aMarks = .inl (g 0, 30, .inl vMarks) → fl40 aSeed = .inl (g 0, 30, .inl vSeed) → fl40 aContents = .inl (g 1, 30000, .inr (.inl vContents)) → fl40 aContentMany = .inl (g 0, 30, .inl vContentMany) → fl40 aRow = .inl (g 0, 122880, .inl vRow) → fl40 aBits = .inl (g 0, 76800, .inl vBits) → fl40 aLayerSize = .inl (g 0, 600, .inl vLayerSize) → fl40 aLayerCame = .inl (g 0, 600, .inl vLayerCame) → fl40 aRest = .inl (g 1, 30000, .inr (.inl vRest)) → fl40 aRestMany = .inl (g 0, 30, .inl vRestMany) → fl40 aCome = .inl (g 1, 1000, .inr (.inl vCome)) → fl40 aRivals = .inl (g 1, 1000, .inr (.inl vRivals)) → fl40 aGone = .inl (g 1, 1000, .inr (.inl vGone)) → fl40 aOrder = .inl (g 0, 1000, .inl vOrder) → fl40 aOffAt = .inl (g 0, 1000, .inl vOffAt) → fl40 aIsOff = .inl (g 2, 1000, .inl vIsOff) → fl40 aAlone = .inl (g 0, 4096, .inl vAlone) → fl40 aKept = .inl (g 0, 4096, .inl vKept) → (∀ b, b ∈ L → b ≠ aWorlds → b ≠ aInWorld → fl40 b = f b) → lv_has ls 6 [(5, .int x5_40), (0, .ref y), (1, .int wi)] → W p l e { frames := 1, cells := 0, slots := 0, locals := 24 } s m [.ref y, .int wi, .long t].toArray below meth c H locs 0 0 QQ (F0 m 40 ls []) := by
        intro fu
        induction fu with
        | zero => intro x5_40 caWorlds_40 fl40 H locs ls ho40 S e_y e_aWorlds e_aInWorld e_aKind e_aSize e_aMarks e_aSeed e_aContents e_aContentMany e_aRow e_aBits e_aLayerSize e_aLayerCame e_aRest e_aRestMany e_aCome e_aRivals e_aGone e_aOrder e_aOffAt e_aIsOff e_aAlone e_aKept fr hl; exact no_some ho40
        | succ fu ih40 =>
          intro x5_40 caWorlds_40 fl40 H locs ls ho40 S e_y e_aWorlds e_aInWorld e_aKind e_aSize e_aMarks e_aSeed e_aContents e_aContentMany e_aRow e_aBits e_aLayerSize e_aLayerCame e_aRest e_aRestMany e_aCome e_aRivals e_aGone e_aOrder e_aOffAt e_aIsOff e_aAlone e_aKept fr hl
          rw [mX9_take_L40] at ho40
          refine lv_iload hx hb dX9_take_40 (lv_at hl 0 rfl) ?_
          refine lv_aload_n hx hb dX9_take_42 rfl (lv_at hl 1 rfl) ?_
          refine q_get hx hb hts in_X9 hown S m_y e_y (C := RX9) (T := TX9) (N := 23) rfl 1 (by decide) rfl (hts (.fieldLink RX9 13 "SieveCabinetModel" "inWorld" "[I") (by decide +kernel)) dX9_take_43 ?_
          refine lv_iload_n hx hb dX9_take_46 rfl (lv_at hl 2 rfl) ?_
          obtain ⟨hi47, ho40⟩ := ckx ho40
          refine q_iald hx hb S m_aInWorld e_aInWorld hi47 dX9_take_47 ?_
          refine lv_icmp_ge (tgt := 85) hx hb dX9_take_48 (by decide) (fun b48 => ?_) (fun b48 => ?_)
          · have ho40 := itT b48 ho40
            obtain rfl := Option.some.inj ho40
            exact EX40 fl40 _ _ _ S e_y e_aWorlds e_aInWorld e_aKind e_aSize e_aMarks e_aSeed e_aContents e_aContentMany e_aRow e_aBits e_aLayerSize e_aLayerCame e_aRest e_aRestMany e_aCome e_aRivals e_aGone e_aOrder e_aOffAt e_aIsOff e_aAlone e_aKept fr (lv_sub hl [1, 2] rfl)
          · have ho40 := itF b48 ho40
            refine lv_aload_n hx hb dX9_take_51 rfl (lv_at hl 1 rfl) ?_
            refine q_get hx hb hts in_X9 hown S m_y e_y (C := RX9) (T := TX9) (N := 23) rfl 0 (by decide) rfl (hts (.fieldLink RX9 9 "SieveCabinetModel" "worlds" "[J") (by decide +kernel)) dX9_take_52 ?_
            refine lv_iload_n hx hb dX9_take_55 rfl (lv_at hl 2 rfl) ?_
            refine lv_sipush (v := (1000 : Int32)) hx hb dX9_take_56 (by decide) ?_
            refine lv_imul hx hb dX9_take_59 ?_
            refine lv_iload hx hb dX9_take_60 (lv_at hl 0 rfl) ?_
            refine lv_iadd hx hb dX9_take_62 ?_
            refine lv_aload_n hx hb dX9_take_63 rfl (lv_at hl 1 rfl) ?_
            refine q_get hx hb hts in_X9 hown S m_y e_y (C := RX9) (T := TX9) (N := 23) rfl 0 (by decide) rfl (hts (.fieldLink RX9 9 "SieveCabinetModel" "worlds" "[J") (by decide +kernel)) dX9_take_64 ?_
            refine lv_iload_n hx hb dX9_take_67 rfl (lv_at hl 2 rfl) ?_
            refine lv_sipush (v := (1000 : Int32)) hx hb dX9_take_68 (by decide) ?_
            refine lv_imul hx hb dX9_take_71 ?_
            refine lv_iload hx hb dX9_take_72 (lv_at hl 0 rfl) ?_
            refine lv_iadd hx hb dX9_take_74 ?_
            refine lv_iconst (v := (1 : Int32)) hx hb dX9_take_75 (by decide) ?_
            refine lv_iadd hx hb dX9_take_76 ?_
            obtain ⟨hi77, ho40⟩ := ckx ho40
            refine q_lald hx hb S m_aWorlds e_aWorlds hi77 dX9_take_77 ?_
            obtain ⟨hi78, ho40⟩ := ckx ho40
            refine k_last hx hb S m_aWorlds e_aWorlds hi78 dX9_take_78 (fun f10 ef10 H locs S => ?_)
            have e_aWorlds := up_self ef10
            have fr : ∀ b, b ∈ L → b ≠ aWorlds → b ≠ aInWorld → f10 b = f b := fun b mb nb0 nb1 => (up_ne ef10 nb0 rfl).trans (fr b mb nb0 nb1)
            refine lv_iinc (v := (x5_40 + 1)) (lv' := [(5, .int (x5_40 + 1)), (0, .ref y), (1, .int wi)]) hx hb dX9_take_79 hl (k := 0) rfl rfl (by decide) rfl (fun ls hl => ?_)
            refine lv_goto (tgt := 40) hx hb dX9_take_82 (by decide) ?_
            have e_y := (up_ne ef10 n_y_aWorlds e_y)
            have e_aInWorld := (up_ne ef10 n_aInWorld_aWorlds e_aInWorld)
            have e_aKind := (up_ne ef10 n_aKind_aWorlds e_aKind)
            have e_aSize := (up_ne ef10 n_aSize_aWorlds e_aSize)
            have e_aMarks := (up_ne ef10 n_aMarks_aWorlds e_aMarks)
            have e_aSeed := (up_ne ef10 n_aSeed_aWorlds e_aSeed)
            have e_aContents := (up_ne ef10 n_aContents_aWorlds e_aContents)
            have e_aContentMany := (up_ne ef10 n_aContentMany_aWorlds e_aContentMany)
            have e_aRow := (up_ne ef10 n_aRow_aWorlds e_aRow)
            have e_aBits := (up_ne ef10 n_aBits_aWorlds e_aBits)
            have e_aLayerSize := (up_ne ef10 n_aLayerSize_aWorlds e_aLayerSize)
            have e_aLayerCame := (up_ne ef10 n_aLayerCame_aWorlds e_aLayerCame)
            have e_aRest := (up_ne ef10 n_aRest_aWorlds e_aRest)
            have e_aRestMany := (up_ne ef10 n_aRestMany_aWorlds e_aRestMany)
            have e_aCome := (up_ne ef10 n_aCome_aWorlds e_aCome)
            have e_aRivals := (up_ne ef10 n_aRivals_aWorlds e_aRivals)
            have e_aGone := (up_ne ef10 n_aGone_aWorlds e_aGone)
            have e_aOrder := (up_ne ef10 n_aOrder_aWorlds e_aOrder)
            have e_aOffAt := (up_ne ef10 n_aOffAt_aWorlds e_aOffAt)
            have e_aIsOff := (up_ne ef10 n_aIsOff_aWorlds e_aIsOff)
            have e_aAlone := (up_ne ef10 n_aAlone_aWorlds e_aAlone)
            have e_aKept := (up_ne ef10 n_aKept_aWorlds e_aKept)
            exact ih40 (x5_40 + 1) (vp_updL caWorlds_40 (Int32.toNatClampNeg ((wi * (1000 : Int32)) + x5_40)) (caWorlds_40 (Int32.toNatClampNeg (((wi * (1000 : Int32)) + x5_40) + (1 : Int32))))) f10 _ _ _ ho40 S e_y e_aWorlds e_aInWorld e_aKind e_aSize e_aMarks e_aSeed e_aContents e_aContentMany e_aRow e_aBits e_aLayerSize e_aLayerCame e_aRest e_aRestMany e_aCome e_aRivals e_aGone e_aOrder e_aOffAt e_aIsOff e_aAlone e_aKept fr (lv_sub hl [0, 1, 2] rfl)
      exact LP40 FU z10 vWorlds f9 _ _ _ ho40 S e_y e_aWorlds e_aInWorld e_aKind e_aSize e_aMarks e_aSeed e_aContents e_aContentMany e_aRow e_aBits e_aLayerSize e_aLayerCame e_aRest e_aRestMany e_aCome e_aRivals e_aGone e_aOrder e_aOffAt e_aIsOff e_aAlone e_aKept fr (lv_sub hl [0, 2, 3] rfl)
    · have hM := itF b21 hM
      refine lv_iconst (v := (-1 : Int32)) hx hb dX9_take_24 (by decide) ?_
      subst hQQ
      exact q_reti (post := fun x L1 f1 => x = z.1 ∧ L1 = L ∧ (∀ b, b ∈ L → b ≠ aWorlds → b ≠ aInWorld → f1 b = f b) ∧ f1 aWorlds = .inl (g 1, 8000, .inr (.inl z.2.1)) ∧ f1 aInWorld = .inl (g 0, 8, .inl z.2.2)) hx hb hr hlk S dX9_take_25 (by decide) (by decide) (by have hz := Option.some.inj hM; subst hz; exact ⟨rfl, rfl, fr, e_aWorlds, e_aInWorld⟩)

def mX9_things (vInWorld : Nat → Int32) (wi : Int32) : Option (Int32) := (mX9_isWorld wi).bind fun z1 => if z1 = 0 then (some (-1 : Int32)) else (if ix wi 8 = true then (some (vInWorld (Int32.toNatClampNeg wi))) else none)
set_option maxHeartbeats 4000000 in
set_option maxRecDepth 100000 in
theorem k_X9_things (l : Launch) (D : va_G) (g : Nat → ClassId) {L : List Nat} {f : Nat → va_E} {aAlone aBits aCome aContentMany aContents aGone aInWorld aIsOff aKept aKind aLayerCame aLayerSize aMarks aOffAt aOrder aRest aRestMany aRivals aRow aSeed aSize aWorlds y : Nat} {many : Int32} {vInWorld : Nat → Int32} {wi : Int32} {z : Int32} (m_y : y ∈ L) (e_y : f y = .inr (7, [.ref aWorlds, .ref aInWorld, .ref aKind, .ref aSize, .ref aMarks, .ref aSeed, .ref aContents, .ref aContentMany, .ref aRow, .ref aBits, .ref aLayerSize, .ref aLayerCame, .ref aRest, .ref aRestMany, .int many, .ref aCome, .ref aRivals, .ref aGone, .ref aOrder, .ref aOffAt, .ref aIsOff, .ref aAlone, .ref aKept])) (m_aInWorld : aInWorld ∈ L) (e_aInWorld : f aInWorld = .inl (g 0, 8, .inl vInWorld))    (hM : mX9_things vInWorld wi = some z) : cI l yX9_things wsX9_things { frames := 1, cells := 0, slots := 0, locals := 20 } D g [.ref y, .int wi] L f 0 0 (fun x L1 f1 => x = z ∧ L1 = L ∧ f1 = f) := by
  refine cI_of (cc := cX9_things) (maxL := 2) (ret := (some .int)) (by decide) rfl (Nat.le_of_ble_eq_true rfl) ?_
  intro szz p e s m below meth c hx hb hr hml hts hown hlk hnm S ls hl
  have hl : lv_has ls 2 [(0, .ref y), (1, .int wi)] := hl
  have in_X9 : ∀ w ∈ wsX90, w ∈ wsX9_things := by decide +kernel
  unfold mX9_things at hM
  refine W_gen (fun QQ hQQ => ?_)
  refine lv_iload_n hx hb dX9_things_0 rfl (lv_at hl 1 rfl) ?_
  obtain ⟨z1, hz1, hM⟩ := bind_some hM
  refine q_si (As := [.int wi]) (rest := []) ⟨hx, hb, hml, hown, hts⟩ (k_X9_isWorld l D g hz1) (va_cwS 1 hts gX9_things_X9_isWorld rfl rfl rfl (by decide +kernel) ⟨Nat.le_of_ble_eq_true rfl, Nat.le_of_ble_eq_true rfl⟩) S rfl hl.1 rfl (Nat.le_of_ble_eq_true rfl) dX9_things_1 ⟨Nat.le_of_ble_eq_true rfl, Nat.le_of_ble_eq_true rfl⟩ (fun r3 L1 f2 H locs S w1 => ?_)
  obtain ⟨ex1, eL, ef⟩ := w1
  rw [eL, ef] at S
  replace ex1 := ex1.symm
  subst ex1
  refine lv_if_eq (tgt := 16) hx hb dX9_things_4 (by decide) (fun b4 => ?_) (fun b4 => ?_)
  · have hM := itT b4 hM
    refine lv_iconst (v := (-1 : Int32)) hx hb dX9_things_16 (by decide) ?_
    subst hQQ
    exact q_reti (post := fun x L1 f1 => x = z ∧ L1 = L ∧ f1 = f) hx hb hr hlk S dX9_things_17 (by decide) (by decide) (by have hz := Option.some.inj hM; subst hz; exact ⟨rfl, rfl, rfl⟩)
  · have hM := itF b4 hM
    refine lv_aload_n hx hb dX9_things_7 rfl (lv_at hl 0 rfl) ?_
    refine q_get hx hb hts in_X9 hown S m_y e_y (C := RX9) (T := TX9) (N := 23) rfl 1 (by decide) rfl (hts (.fieldLink RX9 13 "SieveCabinetModel" "inWorld" "[I") (by decide +kernel)) dX9_things_8 ?_
    refine lv_iload_n hx hb dX9_things_11 rfl (lv_at hl 1 rfl) ?_
    obtain ⟨hi12, hM⟩ := ckx hM
    refine q_iald hx hb S m_aInWorld e_aInWorld hi12 dX9_things_12 ?_
    refine lv_goto (tgt := 17) hx hb dX9_things_13 (by decide) ?_
    subst hQQ
    exact q_reti (post := fun x L1 f1 => x = z ∧ L1 = L ∧ f1 = f) hx hb hr hlk S dX9_things_17 (by decide) (by decide) (by have hz := Option.some.inj hM; subst hz; exact ⟨rfl, rfl, rfl⟩)

def mX9_thing (vWorlds : Nat → Int64) (vInWorld : Nat → Int32) (wi : Int32) (i : Int32) : Option (Int64) := (mX9_isWorld wi).bind fun z1 => if z1 = 0 then (some (0 : Int64)) else (if i < 0 then (some (0 : Int64)) else (if ix wi 8 = true then (if (vInWorld (Int32.toNatClampNeg wi)) ≤ i then (some (0 : Int64)) else (if ix ((wi * (1000 : Int32)) + i) 8000 = true then (some (vWorlds (Int32.toNatClampNeg ((wi * (1000 : Int32)) + i)))) else none)) else none))
set_option maxHeartbeats 4000000 in
set_option maxRecDepth 100000 in
theorem k_X9_thing (l : Launch) (D : va_G) (g : Nat → ClassId) {L : List Nat} {f : Nat → va_E} {aAlone aBits aCome aContentMany aContents aGone aInWorld aIsOff aKept aKind aLayerCame aLayerSize aMarks aOffAt aOrder aRest aRestMany aRivals aRow aSeed aSize aWorlds y : Nat} {many : Int32} {vWorlds : Nat → Int64} {vInWorld : Nat → Int32} {wi : Int32} {i : Int32} {z : Int64} (m_y : y ∈ L) (e_y : f y = .inr (7, [.ref aWorlds, .ref aInWorld, .ref aKind, .ref aSize, .ref aMarks, .ref aSeed, .ref aContents, .ref aContentMany, .ref aRow, .ref aBits, .ref aLayerSize, .ref aLayerCame, .ref aRest, .ref aRestMany, .int many, .ref aCome, .ref aRivals, .ref aGone, .ref aOrder, .ref aOffAt, .ref aIsOff, .ref aAlone, .ref aKept])) (m_aWorlds : aWorlds ∈ L) (e_aWorlds : f aWorlds = .inl (g 1, 8000, .inr (.inl vWorlds))) (m_aInWorld : aInWorld ∈ L) (e_aInWorld : f aInWorld = .inl (g 0, 8, .inl vInWorld))    (hM : mX9_thing vWorlds vInWorld wi i = some z) : cL l yX9_thing wsX9_thing { frames := 1, cells := 0, slots := 0, locals := 20 } D g [.ref y, .int wi, .int i] L f 0 0 (fun x L1 f1 => x = z ∧ L1 = L ∧ f1 = f) := by
  refine cL_of (cc := cX9_thing) (maxL := 3) (ret := (some .long)) (by decide) rfl (Nat.le_of_ble_eq_true rfl) ?_
  intro szz p e s m below meth c hx hb hr hml hts hown hlk hnm S ls hl
  have hl : lv_has ls 3 [(0, .ref y), (1, .int wi), (2, .int i)] := hl
  have in_X9 : ∀ w ∈ wsX90, w ∈ wsX9_thing := by decide +kernel
  unfold mX9_thing at hM
  refine W_gen (fun QQ hQQ => ?_)
  refine lv_iload_n hx hb dX9_thing_0 rfl (lv_at hl 1 rfl) ?_
  obtain ⟨z1, hz1, hM⟩ := bind_some hM
  refine q_si (As := [.int wi]) (rest := []) ⟨hx, hb, hml, hown, hts⟩ (k_X9_isWorld l D g hz1) (va_cwS 1 hts gX9_thing_X9_isWorld rfl rfl rfl (by decide +kernel) ⟨Nat.le_of_ble_eq_true rfl, Nat.le_of_ble_eq_true rfl⟩) S rfl hl.1 rfl (Nat.le_of_ble_eq_true rfl) dX9_thing_1 ⟨Nat.le_of_ble_eq_true rfl, Nat.le_of_ble_eq_true rfl⟩ (fun r3 L1 f2 H locs S w1 => ?_)
  obtain ⟨ex1, eL, ef⟩ := w1
  rw [eL, ef] at S
  replace ex1 := ex1.symm
  subst ex1
  refine lv_if_eq (tgt := 36) hx hb dX9_thing_4 (by decide) (fun b4 => ?_) (fun b4 => ?_)
  · have hM := itT b4 hM
    refine lv_lconst (v := (0 : Int64)) hx hb dX9_thing_36 (by decide) ?_
    subst hQQ
    exact q_retl (post := fun x L1 f1 => x = z ∧ L1 = L ∧ f1 = f) hx hb hr hlk S dX9_thing_37 (by decide) (by decide) (by have hz := Option.some.inj hM; subst hz; exact ⟨rfl, rfl, rfl⟩)
  · have hM := itF b4 hM
    refine lv_iload_n hx hb dX9_thing_7 rfl (lv_at hl 2 rfl) ?_
    refine lv_if_lt (tgt := 36) hx hb dX9_thing_8 (by decide) (fun b8 => ?_) (fun b8 => ?_)
    · have hM := itT b8 hM
      refine lv_lconst (v := (0 : Int64)) hx hb dX9_thing_36 (by decide) ?_
      subst hQQ
      exact q_retl (post := fun x L1 f1 => x = z ∧ L1 = L ∧ f1 = f) hx hb hr hlk S dX9_thing_37 (by decide) (by decide) (by have hz := Option.some.inj hM; subst hz; exact ⟨rfl, rfl, rfl⟩)
    · have hM := itF b8 hM
      refine lv_iload_n hx hb dX9_thing_11 rfl (lv_at hl 2 rfl) ?_
      refine lv_aload_n hx hb dX9_thing_12 rfl (lv_at hl 0 rfl) ?_
      refine q_get hx hb hts in_X9 hown S m_y e_y (C := RX9) (T := TX9) (N := 23) rfl 1 (by decide) rfl (hts (.fieldLink RX9 13 "SieveCabinetModel" "inWorld" "[I") (by decide +kernel)) dX9_thing_13 ?_
      refine lv_iload_n hx hb dX9_thing_16 rfl (lv_at hl 1 rfl) ?_
      obtain ⟨hi17, hM⟩ := ckx hM
      refine q_iald hx hb S m_aInWorld e_aInWorld hi17 dX9_thing_17 ?_
      refine lv_icmp_ge (tgt := 36) hx hb dX9_thing_18 (by decide) (fun b18 => ?_) (fun b18 => ?_)
      · have hM := itT b18 hM
        refine lv_lconst (v := (0 : Int64)) hx hb dX9_thing_36 (by decide) ?_
        subst hQQ
        exact q_retl (post := fun x L1 f1 => x = z ∧ L1 = L ∧ f1 = f) hx hb hr hlk S dX9_thing_37 (by decide) (by decide) (by have hz := Option.some.inj hM; subst hz; exact ⟨rfl, rfl, rfl⟩)
      · have hM := itF b18 hM
        refine lv_aload_n hx hb dX9_thing_21 rfl (lv_at hl 0 rfl) ?_
        refine q_get hx hb hts in_X9 hown S m_y e_y (C := RX9) (T := TX9) (N := 23) rfl 0 (by decide) rfl (hts (.fieldLink RX9 9 "SieveCabinetModel" "worlds" "[J") (by decide +kernel)) dX9_thing_22 ?_
        refine lv_iload_n hx hb dX9_thing_25 rfl (lv_at hl 1 rfl) ?_
        refine lv_sipush (v := (1000 : Int32)) hx hb dX9_thing_26 (by decide) ?_
        refine lv_imul hx hb dX9_thing_29 ?_
        refine lv_iload_n hx hb dX9_thing_30 rfl (lv_at hl 2 rfl) ?_
        refine lv_iadd hx hb dX9_thing_31 ?_
        obtain ⟨hi32, hM⟩ := ckx hM
        refine q_lald hx hb S m_aWorlds e_aWorlds hi32 dX9_thing_32 ?_
        refine lv_goto (tgt := 37) hx hb dX9_thing_33 (by decide) ?_
        subst hQQ
        exact q_retl (post := fun x L1 f1 => x = z ∧ L1 = L ∧ f1 = f) hx hb hr hlk S dX9_thing_37 (by decide) (by decide) (by have hz := Option.some.inj hM; subst hz; exact ⟨rfl, rfl, rfl⟩)

def mX9_make (many : Int32) (vKind : Nat → Int32) (vSize : Nat → Int32) (vMarks : Nat → Int32) (vSeed : Nat → Int32) (vContentMany : Nat → Int32) (vRow : Nat → Int32) (vRestMany : Nat → Int32) (k0 : Int32) (k1 : Int32) (k2 : Int32) (k3 : Int32) : Option (Int32 × Int32 × (Nat → Int32) × (Nat → Int32) × (Nat → Int32) × (Nat → Int32) × (Nat → Int32) × (Nat → Int32) × (Nat → Int32)) := if k0 < 0 then (some ((-1 : Int32), many, vKind, vSize, vMarks, vSeed, vContentMany, vRow, vRestMany)) else (if k0 ≤ (2 : Int32) then (if k0 = (2 : Int32) then ((mX9_isWide k1 (1 : Int32) (256 : Int32)).bind fun z21 => if z21 = 0 then (some ((-1 : Int32), many, vKind, vSize, vMarks, vSeed, vContentMany, vRow, vRestMany)) else (if many = (30 : Int32) then (some ((-4 : Int32), many, vKind, vSize, vMarks, vSeed, vContentMany, vRow, vRestMany)) else (if k0 = (2 : Int32) then ((mX9_begin many vKind vSize vMarks vSeed vContentMany vRow vRestMany k0 k1 (0 : Int32) k3).bind fun z84 => some (z84.1, z84.2.1, z84.2.2.1, z84.2.2.2.1, z84.2.2.2.2.1, z84.2.2.2.2.2.1, z84.2.2.2.2.2.2.1, z84.2.2.2.2.2.2.2.1, z84.2.2.2.2.2.2.2.2)) else ((mX9_begin many vKind vSize vMarks vSeed vContentMany vRow vRestMany k0 k1 k2 k3).bind fun z84 => some (z84.1, z84.2.1, z84.2.2.1, z84.2.2.2.1, z84.2.2.2.2.1, z84.2.2.2.2.2.1, z84.2.2.2.2.2.2.1, z84.2.2.2.2.2.2.2.1, z84.2.2.2.2.2.2.2.2))))) else ((mX9_isWide k1 (8 : Int32) (4096 : Int32)).bind fun z36 => if z36 = 0 then (some ((-1 : Int32), many, vKind, vSize, vMarks, vSeed, vContentMany, vRow, vRestMany)) else (if k2 < (1 : Int32) then (some ((-1 : Int32), many, vKind, vSize, vMarks, vSeed, vContentMany, vRow, vRestMany)) else (if k2 ≤ (8 : Int32) then (if many = (30 : Int32) then (some ((-4 : Int32), many, vKind, vSize, vMarks, vSeed, vContentMany, vRow, vRestMany)) else (if k0 = (2 : Int32) then ((mX9_begin many vKind vSize vMarks vSeed vContentMany vRow vRestMany k0 k1 (0 : Int32) k3).bind fun z84 => some (z84.1, z84.2.1, z84.2.2.1, z84.2.2.2.1, z84.2.2.2.2.1, z84.2.2.2.2.2.1, z84.2.2.2.2.2.2.1, z84.2.2.2.2.2.2.2.1, z84.2.2.2.2.2.2.2.2)) else ((mX9_begin many vKind vSize vMarks vSeed vContentMany vRow vRestMany k0 k1 k2 k3).bind fun z84 => some (z84.1, z84.2.1, z84.2.2.1, z84.2.2.2.1, z84.2.2.2.2.1, z84.2.2.2.2.2.1, z84.2.2.2.2.2.2.1, z84.2.2.2.2.2.2.2.1, z84.2.2.2.2.2.2.2.2)))) else (some ((-1 : Int32), many, vKind, vSize, vMarks, vSeed, vContentMany, vRow, vRestMany)))))) else (some ((-1 : Int32), many, vKind, vSize, vMarks, vSeed, vContentMany, vRow, vRestMany)))
set_option maxHeartbeats 4000000 in
set_option maxRecDepth 100000 in
theorem k_X9_make (l : Launch) (D : va_G) (g : Nat → ClassId) {L : List Nat} {f : Nat → va_E} {aAlone aBits aCome aContentMany aContents aGone aInWorld aIsOff aKept aKind aLayerCame aLayerSize aMarks aOffAt aOrder aRest aRestMany aRivals aRow aSeed aSize aWorlds y : Nat} {many : Int32} {vWorlds : Nat → Int64} {vInWorld : Nat → Int32} {vKind : Nat → Int32} {vSize : Nat → Int32} {vMarks : Nat → Int32} {vSeed : Nat → Int32} {vContents : Nat → Int64} {vContentMany : Nat → Int32} {vRow : Nat → Int32} {vBits : Nat → Int32} {vLayerSize : Nat → Int32} {vLayerCame : Nat → Int32} {vRest : Nat → Int64} {vRestMany : Nat → Int32} {vCome : Nat → Int64} {vRivals : Nat → Int64} {vGone : Nat → Int64} {vOrder : Nat → Int32} {vOffAt : Nat → Int32} {vIsOff : Nat → Int32} {vAlone : Nat → Int32} {vKept : Nat → Int32} {k0 : Int32} {k1 : Int32} {k2 : Int32} {k3 : Int32} {ρ : Nat → Nat × Nat} {z : Int32 × Int32 × (Nat → Int32) × (Nat → Int32) × (Nat → Int32) × (Nat → Int32) × (Nat → Int32) × (Nat → Int32) × (Nat → Int32)} (m_y : y ∈ L) (e_y : f y = .inr (7, [.ref aWorlds, .ref aInWorld, .ref aKind, .ref aSize, .ref aMarks, .ref aSeed, .ref aContents, .ref aContentMany, .ref aRow, .ref aBits, .ref aLayerSize, .ref aLayerCame, .ref aRest, .ref aRestMany, .int many, .ref aCome, .ref aRivals, .ref aGone, .ref aOrder, .ref aOffAt, .ref aIsOff, .ref aAlone, .ref aKept])) (m_aWorlds : aWorlds ∈ L) (e_aWorlds : f aWorlds = .inl (g 1, 8000, .inr (.inl vWorlds))) (m_aInWorld : aInWorld ∈ L) (e_aInWorld : f aInWorld = .inl (g 0, 8, .inl vInWorld)) (m_aKind : aKind ∈ L) (e_aKind : f aKind = .inl (g 0, 30, .inl vKind)) (m_aSize : aSize ∈ L) (e_aSize : f aSize = .inl (g 0, 30, .inl vSize)) (m_aMarks : aMarks ∈ L) (e_aMarks : f aMarks = .inl (g 0, 30, .inl vMarks)) (m_aSeed : aSeed ∈ L) (e_aSeed : f aSeed = .inl (g 0, 30, .inl vSeed)) (m_aContents : aContents ∈ L) (e_aContents : f aContents = .inl (g 1, 30000, .inr (.inl vContents))) (m_aContentMany : aContentMany ∈ L) (e_aContentMany : f aContentMany = .inl (g 0, 30, .inl vContentMany)) (m_aRow : aRow ∈ L) (e_aRow : f aRow = .inl (g 0, 122880, .inl vRow)) (m_aBits : aBits ∈ L) (e_aBits : f aBits = .inl (g 0, 76800, .inl vBits)) (m_aLayerSize : aLayerSize ∈ L) (e_aLayerSize : f aLayerSize = .inl (g 0, 600, .inl vLayerSize)) (m_aLayerCame : aLayerCame ∈ L) (e_aLayerCame : f aLayerCame = .inl (g 0, 600, .inl vLayerCame)) (m_aRest : aRest ∈ L) (e_aRest : f aRest = .inl (g 1, 30000, .inr (.inl vRest))) (m_aRestMany : aRestMany ∈ L) (e_aRestMany : f aRestMany = .inl (g 0, 30, .inl vRestMany)) (m_aCome : aCome ∈ L) (e_aCome : f aCome = .inl (g 1, 1000, .inr (.inl vCome))) (m_aRivals : aRivals ∈ L) (e_aRivals : f aRivals = .inl (g 1, 1000, .inr (.inl vRivals))) (m_aGone : aGone ∈ L) (e_aGone : f aGone = .inl (g 1, 1000, .inr (.inl vGone))) (m_aOrder : aOrder ∈ L) (e_aOrder : f aOrder = .inl (g 0, 1000, .inl vOrder)) (m_aOffAt : aOffAt ∈ L) (e_aOffAt : f aOffAt = .inl (g 0, 1000, .inl vOffAt)) (m_aIsOff : aIsOff ∈ L) (e_aIsOff : f aIsOff = .inl (g 2, 1000, .inl vIsOff)) (m_aAlone : aAlone ∈ L) (e_aAlone : f aAlone = .inl (g 0, 4096, .inl vAlone)) (m_aKept : aKept ∈ L) (e_aKept : f aKept = .inl (g 0, 4096, .inl vKept))  (r_aKind : ρ aKind = (500, 3)) (r_aSize : ρ aSize = (500, 4)) (r_aMarks : ρ aMarks = (500, 5)) (r_aSeed : ρ aSeed = (500, 6)) (r_aContentMany : ρ aContentMany = (500, 8)) (r_aRestMany : ρ aRestMany = (500, 14))  (hM : mX9_make many vKind vSize vMarks vSeed vContentMany vRow vRestMany k0 k1 k2 k3 = some z) : cI l yX9_make wsX9_make { frames := 1, cells := 0, slots := 0, locals := 26 } D g [.ref y, .int k0, .int k1, .int k2, .int k3] L f 0 0 (fun x L1 f1 => x = z.1 ∧ L1 = L ∧ (∀ b, b ∈ L → b ≠ y → b ≠ aKind → b ≠ aSize → b ≠ aMarks → b ≠ aSeed → b ≠ aContentMany → b ≠ aRow → b ≠ aRestMany → f1 b = f b) ∧ f1 y = .inr (7, [.ref aWorlds, .ref aInWorld, .ref aKind, .ref aSize, .ref aMarks, .ref aSeed, .ref aContents, .ref aContentMany, .ref aRow, .ref aBits, .ref aLayerSize, .ref aLayerCame, .ref aRest, .ref aRestMany, .int z.2.1, .ref aCome, .ref aRivals, .ref aGone, .ref aOrder, .ref aOffAt, .ref aIsOff, .ref aAlone, .ref aKept]) ∧ f1 aKind = .inl (g 0, 30, .inl z.2.2.1) ∧ f1 aSize = .inl (g 0, 30, .inl z.2.2.2.1) ∧ f1 aMarks = .inl (g 0, 30, .inl z.2.2.2.2.1) ∧ f1 aSeed = .inl (g 0, 30, .inl z.2.2.2.2.2.1) ∧ f1 aContentMany = .inl (g 0, 30, .inl z.2.2.2.2.2.2.1) ∧ f1 aRow = .inl (g 0, 122880, .inl z.2.2.2.2.2.2.2.1) ∧ f1 aRestMany = .inl (g 0, 30, .inl z.2.2.2.2.2.2.2.2)) := by
  refine cI_of (cc := cX9_make) (maxL := 5) (ret := (some .int)) (by decide) rfl (Nat.le_of_ble_eq_true rfl) ?_
  intro szz p e s m below meth c hx hb hr hml hts hown hlk hnm S ls hl
  have hl : lv_has ls 5 [(0, .ref y), (1, .int k0), (2, .int k1), (3, .int k2), (4, .int k3)] := hl
  have in_X9 : ∀ w ∈ wsX90, w ∈ wsX9_make := by decide +kernel
  have fr : ∀ b, b ∈ L → b ≠ y → b ≠ aKind → b ≠ aSize → b ≠ aMarks → b ≠ aSeed → b ≠ aContentMany → b ≠ aRow → b ≠ aRestMany → f b = f b := fun _ _ _ _ _ _ _ _ _ _ => rfl
  unfold mX9_make at hM
  refine W_gen (fun QQ hQQ => ?_)
  refine lv_iload_n hx hb dX9_make_0 rfl (lv_at hl 1 rfl) ?_
  refine lv_if_lt (tgt := 9) hx hb dX9_make_1 (by decide) (fun b1 => ?_) (fun b1 => ?_)
  · have hM := itT b1 hM
    refine lv_iconst (v := (-1 : Int32)) hx hb dX9_make_9 (by decide) ?_
    subst hQQ
    exact q_reti (post := fun x L1 f1 => x = z.1 ∧ L1 = L ∧ (∀ b, b ∈ L → b ≠ y → b ≠ aKind → b ≠ aSize → b ≠ aMarks → b ≠ aSeed → b ≠ aContentMany → b ≠ aRow → b ≠ aRestMany → f1 b = f b) ∧ f1 y = .inr (7, [.ref aWorlds, .ref aInWorld, .ref aKind, .ref aSize, .ref aMarks, .ref aSeed, .ref aContents, .ref aContentMany, .ref aRow, .ref aBits, .ref aLayerSize, .ref aLayerCame, .ref aRest, .ref aRestMany, .int z.2.1, .ref aCome, .ref aRivals, .ref aGone, .ref aOrder, .ref aOffAt, .ref aIsOff, .ref aAlone, .ref aKept]) ∧ f1 aKind = .inl (g 0, 30, .inl z.2.2.1) ∧ f1 aSize = .inl (g 0, 30, .inl z.2.2.2.1) ∧ f1 aMarks = .inl (g 0, 30, .inl z.2.2.2.2.1) ∧ f1 aSeed = .inl (g 0, 30, .inl z.2.2.2.2.2.1) ∧ f1 aContentMany = .inl (g 0, 30, .inl z.2.2.2.2.2.2.1) ∧ f1 aRow = .inl (g 0, 122880, .inl z.2.2.2.2.2.2.2.1) ∧ f1 aRestMany = .inl (g 0, 30, .inl z.2.2.2.2.2.2.2.2)) hx hb hr hlk S dX9_make_10 (by decide) (by decide) (by have hz := Option.some.inj hM; subst hz; exact ⟨rfl, rfl, fr, e_y, e_aKind, e_aSize, e_aMarks, e_aSeed, e_aContentMany, e_aRow, e_aRestMany⟩)
  · have hM := itF b1 hM
    refine lv_iload_n hx hb dX9_make_4 rfl (lv_at hl 1 rfl) ?_
    refine lv_iconst (v := (2 : Int32)) hx hb dX9_make_5 (by decide) ?_
    refine lv_icmp_le (tgt := 11) hx hb dX9_make_6 (by decide) (fun b6 => ?_) (fun b6 => ?_)
    · have hM := itT b6 hM
      refine lv_iload_n hx hb dX9_make_11 rfl (lv_at hl 1 rfl) ?_
      refine lv_iconst (v := (2 : Int32)) hx hb dX9_make_12 (by decide) ?_
      refine lv_icmp_ne (tgt := 30) hx hb dX9_make_13 (by decide) (fun b13 => ?_) (fun b13 => ?_)
      · have hM := itF b13 hM
        refine lv_iload_n hx hb dX9_make_30 rfl (lv_at hl 2 rfl) ?_
        refine lv_bipush (v := (8 : Int32)) hx hb dX9_make_31 (by decide) ?_
        refine lv_sipush (v := (4096 : Int32)) hx hb dX9_make_33 (by decide) ?_
        obtain ⟨z36, hz36, hM⟩ := bind_some hM
        refine q_si (As := [.int k1, .int (8 : Int32), .int (4096 : Int32)]) (rest := []) ⟨hx, hb, hml, hown, hts⟩ (k_X9_isWide l D g hz36) (va_cwS 3 hts gX9_make_X9_isWide rfl rfl rfl (by decide +kernel) ⟨Nat.le_of_ble_eq_true rfl, Nat.le_of_ble_eq_true rfl⟩) S rfl hl.1 rfl (Nat.le_of_ble_eq_true rfl) dX9_make_36 ⟨Nat.le_of_ble_eq_true rfl, Nat.le_of_ble_eq_true rfl⟩ (fun r3 L1 f2 H locs S w36 => ?_)
        obtain ⟨ex36, eL, ef⟩ := w36
        rw [eL, ef] at S
        replace ex36 := ex36.symm
        subst ex36
        refine lv_if_eq (tgt := 53) hx hb dX9_make_39 (by decide) (fun b39 => ?_) (fun b39 => ?_)
        · have hM := itT b39 hM
          refine lv_iconst (v := (-1 : Int32)) hx hb dX9_make_53 (by decide) ?_
          subst hQQ
          exact q_reti (post := fun x L1 f1 => x = z.1 ∧ L1 = L ∧ (∀ b, b ∈ L → b ≠ y → b ≠ aKind → b ≠ aSize → b ≠ aMarks → b ≠ aSeed → b ≠ aContentMany → b ≠ aRow → b ≠ aRestMany → f1 b = f b) ∧ f1 y = .inr (7, [.ref aWorlds, .ref aInWorld, .ref aKind, .ref aSize, .ref aMarks, .ref aSeed, .ref aContents, .ref aContentMany, .ref aRow, .ref aBits, .ref aLayerSize, .ref aLayerCame, .ref aRest, .ref aRestMany, .int z.2.1, .ref aCome, .ref aRivals, .ref aGone, .ref aOrder, .ref aOffAt, .ref aIsOff, .ref aAlone, .ref aKept]) ∧ f1 aKind = .inl (g 0, 30, .inl z.2.2.1) ∧ f1 aSize = .inl (g 0, 30, .inl z.2.2.2.1) ∧ f1 aMarks = .inl (g 0, 30, .inl z.2.2.2.2.1) ∧ f1 aSeed = .inl (g 0, 30, .inl z.2.2.2.2.2.1) ∧ f1 aContentMany = .inl (g 0, 30, .inl z.2.2.2.2.2.2.1) ∧ f1 aRow = .inl (g 0, 122880, .inl z.2.2.2.2.2.2.2.1) ∧ f1 aRestMany = .inl (g 0, 30, .inl z.2.2.2.2.2.2.2.2)) hx hb hr hlk S dX9_make_54 (by decide) (by decide) (by have hz := Option.some.inj hM; subst hz; exact ⟨rfl, rfl, fr, e_y, e_aKind, e_aSize, e_aMarks, e_aSeed, e_aContentMany, e_aRow, e_aRestMany⟩)
        · have hM := itF b39 hM
          refine lv_iload_n hx hb dX9_make_42 rfl (lv_at hl 3 rfl) ?_
          refine lv_iconst (v := (1 : Int32)) hx hb dX9_make_43 (by decide) ?_
          refine lv_icmp_lt (tgt := 53) hx hb dX9_make_44 (by decide) (fun b44 => ?_) (fun b44 => ?_)
          · have hM := itT b44 hM
            refine lv_iconst (v := (-1 : Int32)) hx hb dX9_make_53 (by decide) ?_
            subst hQQ
            exact q_reti (post := fun x L1 f1 => x = z.1 ∧ L1 = L ∧ (∀ b, b ∈ L → b ≠ y → b ≠ aKind → b ≠ aSize → b ≠ aMarks → b ≠ aSeed → b ≠ aContentMany → b ≠ aRow → b ≠ aRestMany → f1 b = f b) ∧ f1 y = .inr (7, [.ref aWorlds, .ref aInWorld, .ref aKind, .ref aSize, .ref aMarks, .ref aSeed, .ref aContents, .ref aContentMany, .ref aRow, .ref aBits, .ref aLayerSize, .ref aLayerCame, .ref aRest, .ref aRestMany, .int z.2.1, .ref aCome, .ref aRivals, .ref aGone, .ref aOrder, .ref aOffAt, .ref aIsOff, .ref aAlone, .ref aKept]) ∧ f1 aKind = .inl (g 0, 30, .inl z.2.2.1) ∧ f1 aSize = .inl (g 0, 30, .inl z.2.2.2.1) ∧ f1 aMarks = .inl (g 0, 30, .inl z.2.2.2.2.1) ∧ f1 aSeed = .inl (g 0, 30, .inl z.2.2.2.2.2.1) ∧ f1 aContentMany = .inl (g 0, 30, .inl z.2.2.2.2.2.2.1) ∧ f1 aRow = .inl (g 0, 122880, .inl z.2.2.2.2.2.2.2.1) ∧ f1 aRestMany = .inl (g 0, 30, .inl z.2.2.2.2.2.2.2.2)) hx hb hr hlk S dX9_make_54 (by decide) (by decide) (by have hz := Option.some.inj hM; subst hz; exact ⟨rfl, rfl, fr, e_y, e_aKind, e_aSize, e_aMarks, e_aSeed, e_aContentMany, e_aRow, e_aRestMany⟩)
          · have hM := itF b44 hM
            refine lv_iload_n hx hb dX9_make_47 rfl (lv_at hl 3 rfl) ?_
            refine lv_bipush (v := (8 : Int32)) hx hb dX9_make_48 (by decide) ?_
            refine lv_icmp_le (tgt := 55) hx hb dX9_make_50 (by decide) (fun b50 => ?_) (fun b50 => ?_)
            · have hM := itT b50 hM
              refine lv_aload_n hx hb dX9_make_55 rfl (lv_at hl 0 rfl) ?_
              refine q_get hx hb hts in_X9 hown S m_y e_y (C := RX9) (T := TX9) (N := 23) rfl 14 (by decide) rfl (hts (.fieldLink RX9 88 "SieveCabinetModel" "many" "I") (by decide +kernel)) dX9_make_56 ?_
              refine lv_bipush (v := (30 : Int32)) hx hb dX9_make_59 (by decide) ?_
              refine lv_icmp_ne (tgt := 69) hx hb dX9_make_61 (by decide) (fun b61 => ?_) (fun b61 => ?_)
              · have hM := itF b61 hM
                refine lv_aload_n hx hb dX9_make_69 rfl (lv_at hl 0 rfl) ?_
                refine lv_iload_n hx hb dX9_make_70 rfl (lv_at hl 1 rfl) ?_
                refine lv_iload_n hx hb dX9_make_71 rfl (lv_at hl 2 rfl) ?_
                refine lv_iload_n hx hb dX9_make_72 rfl (lv_at hl 1 rfl) ?_
                refine lv_iconst (v := (2 : Int32)) hx hb dX9_make_73 (by decide) ?_
                refine lv_icmp_ne (tgt := 81) hx hb dX9_make_74 (by decide) (fun b74 => ?_) (fun b74 => ?_)
                · have hM := itF b74 hM
                  refine lv_iload_n hx hb dX9_make_81 rfl (lv_at hl 3 rfl) ?_
                  refine lv_iload hx hb dX9_make_82 (lv_at hl 4 rfl) ?_
                  obtain ⟨z84, hz84, hM⟩ := bind_some hM
                  refine q_vi (As := [.int k0, .int k1, .int k2, .int k3]) (rest := []) ⟨hx, hb, hml, hown, hts⟩ (k_X9_begin l D g m_y e_y m_aWorlds e_aWorlds m_aInWorld e_aInWorld m_aKind e_aKind m_aSize e_aSize m_aMarks e_aMarks m_aSeed e_aSeed m_aContents e_aContents m_aContentMany e_aContentMany m_aRow e_aRow m_aBits e_aBits m_aLayerSize e_aLayerSize m_aLayerCame e_aLayerCame m_aRest e_aRest m_aRestMany e_aRestMany m_aCome e_aCome m_aRivals e_aRivals m_aGone e_aGone m_aOrder e_aOrder m_aOffAt e_aOffAt m_aIsOff e_aIsOff m_aAlone e_aAlone m_aKept e_aKept r_aKind r_aSize r_aMarks r_aSeed r_aContentMany r_aRestMany hz84) (cwV 4 hts gX9_make_X9_begin rfl rfl rfl (by decide +kernel) ⟨Nat.le_of_ble_eq_true rfl, Nat.le_of_ble_eq_true rfl⟩) S m_y e_y (T := TX9) (N := 23) rfl rfl hl.1 rfl (Nat.le_of_ble_eq_true rfl) dX9_make_84 ⟨Nat.le_of_ble_eq_true rfl, Nat.le_of_ble_eq_true rfl⟩ (fun r6 L4 f5 H locs S w84 => ?_)
                  obtain ⟨ex84, eL, fv84, E_y, E_aKind, E_aSize, E_aMarks, E_aSeed, E_aContentMany, E_aRow, E_aRestMany⟩ := w84
                  rw [eL] at S
                  have fr : ∀ b, b ∈ L → b ≠ y → b ≠ aKind → b ≠ aSize → b ≠ aMarks → b ≠ aSeed → b ≠ aContentMany → b ≠ aRow → b ≠ aRestMany → f5 b = f b := fun b mb nb0 nb1 nb2 nb3 nb4 nb5 nb6 nb7 => (fv84 b mb nb0 nb1 nb2 nb3 nb4 nb5 nb6 nb7).trans (fr b mb nb0 nb1 nb2 nb3 nb4 nb5 nb6 nb7)
                  have e_y : f5 y = .inr (7, [.ref aWorlds, .ref aInWorld, .ref aKind, .ref aSize, .ref aMarks, .ref aSeed, .ref aContents, .ref aContentMany, .ref aRow, .ref aBits, .ref aLayerSize, .ref aLayerCame, .ref aRest, .ref aRestMany, .int z84.2.1, .ref aCome, .ref aRivals, .ref aGone, .ref aOrder, .ref aOffAt, .ref aIsOff, .ref aAlone, .ref aKept]) := E_y
                  have e_aKind : f5 aKind = .inl (g 0, 30, .inl z84.2.2.1) := E_aKind
                  have e_aSize : f5 aSize = .inl (g 0, 30, .inl z84.2.2.2.1) := E_aSize
                  have e_aMarks : f5 aMarks = .inl (g 0, 30, .inl z84.2.2.2.2.1) := E_aMarks
                  have e_aSeed : f5 aSeed = .inl (g 0, 30, .inl z84.2.2.2.2.2.1) := E_aSeed
                  have e_aContentMany : f5 aContentMany = .inl (g 0, 30, .inl z84.2.2.2.2.2.2.1) := E_aContentMany
                  have e_aRow : f5 aRow = .inl (g 0, 122880, .inl z84.2.2.2.2.2.2.2.1) := E_aRow
                  have e_aRestMany : f5 aRestMany = .inl (g 0, 30, .inl z84.2.2.2.2.2.2.2.2) := E_aRestMany
                  replace ex84 := ex84.symm
                  subst ex84
                  subst hQQ
                  exact q_reti (post := fun x L1 f1 => x = z.1 ∧ L1 = L ∧ (∀ b, b ∈ L → b ≠ y → b ≠ aKind → b ≠ aSize → b ≠ aMarks → b ≠ aSeed → b ≠ aContentMany → b ≠ aRow → b ≠ aRestMany → f1 b = f b) ∧ f1 y = .inr (7, [.ref aWorlds, .ref aInWorld, .ref aKind, .ref aSize, .ref aMarks, .ref aSeed, .ref aContents, .ref aContentMany, .ref aRow, .ref aBits, .ref aLayerSize, .ref aLayerCame, .ref aRest, .ref aRestMany, .int z.2.1, .ref aCome, .ref aRivals, .ref aGone, .ref aOrder, .ref aOffAt, .ref aIsOff, .ref aAlone, .ref aKept]) ∧ f1 aKind = .inl (g 0, 30, .inl z.2.2.1) ∧ f1 aSize = .inl (g 0, 30, .inl z.2.2.2.1) ∧ f1 aMarks = .inl (g 0, 30, .inl z.2.2.2.2.1) ∧ f1 aSeed = .inl (g 0, 30, .inl z.2.2.2.2.2.1) ∧ f1 aContentMany = .inl (g 0, 30, .inl z.2.2.2.2.2.2.1) ∧ f1 aRow = .inl (g 0, 122880, .inl z.2.2.2.2.2.2.2.1) ∧ f1 aRestMany = .inl (g 0, 30, .inl z.2.2.2.2.2.2.2.2)) hx hb hr hlk S dX9_make_87 (by decide) (by decide) (by have hz := Option.some.inj hM; subst hz; exact ⟨rfl, rfl, fr, e_y, e_aKind, e_aSize, e_aMarks, e_aSeed, e_aContentMany, e_aRow, e_aRestMany⟩)
                · have hM := itT b74 hM
                  refine lv_iconst (v := (0 : Int32)) hx hb dX9_make_77 (by decide) ?_
                  refine lv_goto (tgt := 82) hx hb dX9_make_78 (by decide) ?_
                  refine lv_iload hx hb dX9_make_82 (lv_at hl 4 rfl) ?_
                  obtain ⟨z84, hz84, hM⟩ := bind_some hM
                  refine q_vi (As := [.int k0, .int k1, .int (0 : Int32), .int k3]) (rest := []) ⟨hx, hb, hml, hown, hts⟩ (k_X9_begin l D g m_y e_y m_aWorlds e_aWorlds m_aInWorld e_aInWorld m_aKind e_aKind m_aSize e_aSize m_aMarks e_aMarks m_aSeed e_aSeed m_aContents e_aContents m_aContentMany e_aContentMany m_aRow e_aRow m_aBits e_aBits m_aLayerSize e_aLayerSize m_aLayerCame e_aLayerCame m_aRest e_aRest m_aRestMany e_aRestMany m_aCome e_aCome m_aRivals e_aRivals m_aGone e_aGone m_aOrder e_aOrder m_aOffAt e_aOffAt m_aIsOff e_aIsOff m_aAlone e_aAlone m_aKept e_aKept r_aKind r_aSize r_aMarks r_aSeed r_aContentMany r_aRestMany hz84) (cwV 4 hts gX9_make_X9_begin rfl rfl rfl (by decide +kernel) ⟨Nat.le_of_ble_eq_true rfl, Nat.le_of_ble_eq_true rfl⟩) S m_y e_y (T := TX9) (N := 23) rfl rfl hl.1 rfl (Nat.le_of_ble_eq_true rfl) dX9_make_84 ⟨Nat.le_of_ble_eq_true rfl, Nat.le_of_ble_eq_true rfl⟩ (fun r9 L7 f8 H locs S w84 => ?_)
                  obtain ⟨ex84, eL, fv84, E_y, E_aKind, E_aSize, E_aMarks, E_aSeed, E_aContentMany, E_aRow, E_aRestMany⟩ := w84
                  rw [eL] at S
                  have fr : ∀ b, b ∈ L → b ≠ y → b ≠ aKind → b ≠ aSize → b ≠ aMarks → b ≠ aSeed → b ≠ aContentMany → b ≠ aRow → b ≠ aRestMany → f8 b = f b := fun b mb nb0 nb1 nb2 nb3 nb4 nb5 nb6 nb7 => (fv84 b mb nb0 nb1 nb2 nb3 nb4 nb5 nb6 nb7).trans (fr b mb nb0 nb1 nb2 nb3 nb4 nb5 nb6 nb7)
                  have e_y : f8 y = .inr (7, [.ref aWorlds, .ref aInWorld, .ref aKind, .ref aSize, .ref aMarks, .ref aSeed, .ref aContents, .ref aContentMany, .ref aRow, .ref aBits, .ref aLayerSize, .ref aLayerCame, .ref aRest, .ref aRestMany, .int z84.2.1, .ref aCome, .ref aRivals, .ref aGone, .ref aOrder, .ref aOffAt, .ref aIsOff, .ref aAlone, .ref aKept]) := E_y
                  have e_aKind : f8 aKind = .inl (g 0, 30, .inl z84.2.2.1) := E_aKind
                  have e_aSize : f8 aSize = .inl (g 0, 30, .inl z84.2.2.2.1) := E_aSize
                  have e_aMarks : f8 aMarks = .inl (g 0, 30, .inl z84.2.2.2.2.1) := E_aMarks
                  have e_aSeed : f8 aSeed = .inl (g 0, 30, .inl z84.2.2.2.2.2.1) := E_aSeed
                  have e_aContentMany : f8 aContentMany = .inl (g 0, 30, .inl z84.2.2.2.2.2.2.1) := E_aContentMany
                  have e_aRow : f8 aRow = .inl (g 0, 122880, .inl z84.2.2.2.2.2.2.2.1) := E_aRow
                  have e_aRestMany : f8 aRestMany = .inl (g 0, 30, .inl z84.2.2.2.2.2.2.2.2) := E_aRestMany
                  replace ex84 := ex84.symm
                  subst ex84
                  subst hQQ
                  exact q_reti (post := fun x L1 f1 => x = z.1 ∧ L1 = L ∧ (∀ b, b ∈ L → b ≠ y → b ≠ aKind → b ≠ aSize → b ≠ aMarks → b ≠ aSeed → b ≠ aContentMany → b ≠ aRow → b ≠ aRestMany → f1 b = f b) ∧ f1 y = .inr (7, [.ref aWorlds, .ref aInWorld, .ref aKind, .ref aSize, .ref aMarks, .ref aSeed, .ref aContents, .ref aContentMany, .ref aRow, .ref aBits, .ref aLayerSize, .ref aLayerCame, .ref aRest, .ref aRestMany, .int z.2.1, .ref aCome, .ref aRivals, .ref aGone, .ref aOrder, .ref aOffAt, .ref aIsOff, .ref aAlone, .ref aKept]) ∧ f1 aKind = .inl (g 0, 30, .inl z.2.2.1) ∧ f1 aSize = .inl (g 0, 30, .inl z.2.2.2.1) ∧ f1 aMarks = .inl (g 0, 30, .inl z.2.2.2.2.1) ∧ f1 aSeed = .inl (g 0, 30, .inl z.2.2.2.2.2.1) ∧ f1 aContentMany = .inl (g 0, 30, .inl z.2.2.2.2.2.2.1) ∧ f1 aRow = .inl (g 0, 122880, .inl z.2.2.2.2.2.2.2.1) ∧ f1 aRestMany = .inl (g 0, 30, .inl z.2.2.2.2.2.2.2.2)) hx hb hr hlk S dX9_make_87 (by decide) (by decide) (by have hz := Option.some.inj hM; subst hz; exact ⟨rfl, rfl, fr, e_y, e_aKind, e_aSize, e_aMarks, e_aSeed, e_aContentMany, e_aRow, e_aRestMany⟩)
              · have hM := itT b61 hM
                refine lv_bipush (v := (-4 : Int32)) hx hb dX9_make_64 (by decide) ?_
                refine lv_goto (tgt := 87) hx hb dX9_make_66 (by decide) ?_
                subst hQQ
                exact q_reti (post := fun x L1 f1 => x = z.1 ∧ L1 = L ∧ (∀ b, b ∈ L → b ≠ y → b ≠ aKind → b ≠ aSize → b ≠ aMarks → b ≠ aSeed → b ≠ aContentMany → b ≠ aRow → b ≠ aRestMany → f1 b = f b) ∧ f1 y = .inr (7, [.ref aWorlds, .ref aInWorld, .ref aKind, .ref aSize, .ref aMarks, .ref aSeed, .ref aContents, .ref aContentMany, .ref aRow, .ref aBits, .ref aLayerSize, .ref aLayerCame, .ref aRest, .ref aRestMany, .int z.2.1, .ref aCome, .ref aRivals, .ref aGone, .ref aOrder, .ref aOffAt, .ref aIsOff, .ref aAlone, .ref aKept]) ∧ f1 aKind = .inl (g 0, 30, .inl z.2.2.1) ∧ f1 aSize = .inl (g 0, 30, .inl z.2.2.2.1) ∧ f1 aMarks = .inl (g 0, 30, .inl z.2.2.2.2.1) ∧ f1 aSeed = .inl (g 0, 30, .inl z.2.2.2.2.2.1) ∧ f1 aContentMany = .inl (g 0, 30, .inl z.2.2.2.2.2.2.1) ∧ f1 aRow = .inl (g 0, 122880, .inl z.2.2.2.2.2.2.2.1) ∧ f1 aRestMany = .inl (g 0, 30, .inl z.2.2.2.2.2.2.2.2)) hx hb hr hlk S dX9_make_87 (by decide) (by decide) (by have hz := Option.some.inj hM; subst hz; exact ⟨rfl, rfl, fr, e_y, e_aKind, e_aSize, e_aMarks, e_aSeed, e_aContentMany, e_aRow, e_aRestMany⟩)
            · have hM := itF b50 hM
              refine lv_iconst (v := (-1 : Int32)) hx hb dX9_make_53 (by decide) ?_
              subst hQQ
              exact q_reti (post := fun x L1 f1 => x = z.1 ∧ L1 = L ∧ (∀ b, b ∈ L → b ≠ y → b ≠ aKind → b ≠ aSize → b ≠ aMarks → b ≠ aSeed → b ≠ aContentMany → b ≠ aRow → b ≠ aRestMany → f1 b = f b) ∧ f1 y = .inr (7, [.ref aWorlds, .ref aInWorld, .ref aKind, .ref aSize, .ref aMarks, .ref aSeed, .ref aContents, .ref aContentMany, .ref aRow, .ref aBits, .ref aLayerSize, .ref aLayerCame, .ref aRest, .ref aRestMany, .int z.2.1, .ref aCome, .ref aRivals, .ref aGone, .ref aOrder, .ref aOffAt, .ref aIsOff, .ref aAlone, .ref aKept]) ∧ f1 aKind = .inl (g 0, 30, .inl z.2.2.1) ∧ f1 aSize = .inl (g 0, 30, .inl z.2.2.2.1) ∧ f1 aMarks = .inl (g 0, 30, .inl z.2.2.2.2.1) ∧ f1 aSeed = .inl (g 0, 30, .inl z.2.2.2.2.2.1) ∧ f1 aContentMany = .inl (g 0, 30, .inl z.2.2.2.2.2.2.1) ∧ f1 aRow = .inl (g 0, 122880, .inl z.2.2.2.2.2.2.2.1) ∧ f1 aRestMany = .inl (g 0, 30, .inl z.2.2.2.2.2.2.2.2)) hx hb hr hlk S dX9_make_54 (by decide) (by decide) (by have hz := Option.some.inj hM; subst hz; exact ⟨rfl, rfl, fr, e_y, e_aKind, e_aSize, e_aMarks, e_aSeed, e_aContentMany, e_aRow, e_aRestMany⟩)
      · have hM := itT b13 hM
        refine lv_iload_n hx hb dX9_make_16 rfl (lv_at hl 2 rfl) ?_
        refine lv_iconst (v := (1 : Int32)) hx hb dX9_make_17 (by decide) ?_
        refine lv_sipush (v := (256 : Int32)) hx hb dX9_make_18 (by decide) ?_
        obtain ⟨z21, hz21, hM⟩ := bind_some hM
        refine q_si (As := [.int k1, .int (1 : Int32), .int (256 : Int32)]) (rest := []) ⟨hx, hb, hml, hown, hts⟩ (k_X9_isWide l D g hz21) (va_cwS 3 hts gX9_make_X9_isWide rfl rfl rfl (by decide +kernel) ⟨Nat.le_of_ble_eq_true rfl, Nat.le_of_ble_eq_true rfl⟩) S rfl hl.1 rfl (Nat.le_of_ble_eq_true rfl) dX9_make_21 ⟨Nat.le_of_ble_eq_true rfl, Nat.le_of_ble_eq_true rfl⟩ (fun r12 L10 f11 H locs S w21 => ?_)
        obtain ⟨ex21, eL, ef⟩ := w21
        rw [eL, ef] at S
        replace ex21 := ex21.symm
        subst ex21
        refine lv_if_ne (tgt := 55) hx hb dX9_make_24 (by decide) (fun b24 => ?_) (fun b24 => ?_)
        · have hM := itF b24 hM
          refine lv_aload_n hx hb dX9_make_55 rfl (lv_at hl 0 rfl) ?_
          refine q_get hx hb hts in_X9 hown S m_y e_y (C := RX9) (T := TX9) (N := 23) rfl 14 (by decide) rfl (hts (.fieldLink RX9 88 "SieveCabinetModel" "many" "I") (by decide +kernel)) dX9_make_56 ?_
          refine lv_bipush (v := (30 : Int32)) hx hb dX9_make_59 (by decide) ?_
          refine lv_icmp_ne (tgt := 69) hx hb dX9_make_61 (by decide) (fun b61 => ?_) (fun b61 => ?_)
          · have hM := itF b61 hM
            refine lv_aload_n hx hb dX9_make_69 rfl (lv_at hl 0 rfl) ?_
            refine lv_iload_n hx hb dX9_make_70 rfl (lv_at hl 1 rfl) ?_
            refine lv_iload_n hx hb dX9_make_71 rfl (lv_at hl 2 rfl) ?_
            refine lv_iload_n hx hb dX9_make_72 rfl (lv_at hl 1 rfl) ?_
            refine lv_iconst (v := (2 : Int32)) hx hb dX9_make_73 (by decide) ?_
            refine lv_icmp_ne (tgt := 81) hx hb dX9_make_74 (by decide) (fun b74 => ?_) (fun b74 => ?_)
            · have hM := itF b74 hM
              refine lv_iload_n hx hb dX9_make_81 rfl (lv_at hl 3 rfl) ?_
              refine lv_iload hx hb dX9_make_82 (lv_at hl 4 rfl) ?_
              obtain ⟨z84, hz84, hM⟩ := bind_some hM
              refine q_vi (As := [.int k0, .int k1, .int k2, .int k3]) (rest := []) ⟨hx, hb, hml, hown, hts⟩ (k_X9_begin l D g m_y e_y m_aWorlds e_aWorlds m_aInWorld e_aInWorld m_aKind e_aKind m_aSize e_aSize m_aMarks e_aMarks m_aSeed e_aSeed m_aContents e_aContents m_aContentMany e_aContentMany m_aRow e_aRow m_aBits e_aBits m_aLayerSize e_aLayerSize m_aLayerCame e_aLayerCame m_aRest e_aRest m_aRestMany e_aRestMany m_aCome e_aCome m_aRivals e_aRivals m_aGone e_aGone m_aOrder e_aOrder m_aOffAt e_aOffAt m_aIsOff e_aIsOff m_aAlone e_aAlone m_aKept e_aKept r_aKind r_aSize r_aMarks r_aSeed r_aContentMany r_aRestMany hz84) (cwV 4 hts gX9_make_X9_begin rfl rfl rfl (by decide +kernel) ⟨Nat.le_of_ble_eq_true rfl, Nat.le_of_ble_eq_true rfl⟩) S m_y e_y (T := TX9) (N := 23) rfl rfl hl.1 rfl (Nat.le_of_ble_eq_true rfl) dX9_make_84 ⟨Nat.le_of_ble_eq_true rfl, Nat.le_of_ble_eq_true rfl⟩ (fun r15 L13 f14 H locs S w84 => ?_)
              obtain ⟨ex84, eL, fv84, E_y, E_aKind, E_aSize, E_aMarks, E_aSeed, E_aContentMany, E_aRow, E_aRestMany⟩ := w84
              rw [eL] at S
              have fr : ∀ b, b ∈ L → b ≠ y → b ≠ aKind → b ≠ aSize → b ≠ aMarks → b ≠ aSeed → b ≠ aContentMany → b ≠ aRow → b ≠ aRestMany → f14 b = f b := fun b mb nb0 nb1 nb2 nb3 nb4 nb5 nb6 nb7 => (fv84 b mb nb0 nb1 nb2 nb3 nb4 nb5 nb6 nb7).trans (fr b mb nb0 nb1 nb2 nb3 nb4 nb5 nb6 nb7)
              have e_y : f14 y = .inr (7, [.ref aWorlds, .ref aInWorld, .ref aKind, .ref aSize, .ref aMarks, .ref aSeed, .ref aContents, .ref aContentMany, .ref aRow, .ref aBits, .ref aLayerSize, .ref aLayerCame, .ref aRest, .ref aRestMany, .int z84.2.1, .ref aCome, .ref aRivals, .ref aGone, .ref aOrder, .ref aOffAt, .ref aIsOff, .ref aAlone, .ref aKept]) := E_y
              have e_aKind : f14 aKind = .inl (g 0, 30, .inl z84.2.2.1) := E_aKind
              have e_aSize : f14 aSize = .inl (g 0, 30, .inl z84.2.2.2.1) := E_aSize
              have e_aMarks : f14 aMarks = .inl (g 0, 30, .inl z84.2.2.2.2.1) := E_aMarks
              have e_aSeed : f14 aSeed = .inl (g 0, 30, .inl z84.2.2.2.2.2.1) := E_aSeed
              have e_aContentMany : f14 aContentMany = .inl (g 0, 30, .inl z84.2.2.2.2.2.2.1) := E_aContentMany
              have e_aRow : f14 aRow = .inl (g 0, 122880, .inl z84.2.2.2.2.2.2.2.1) := E_aRow
              have e_aRestMany : f14 aRestMany = .inl (g 0, 30, .inl z84.2.2.2.2.2.2.2.2) := E_aRestMany
              replace ex84 := ex84.symm
              subst ex84
              subst hQQ
              exact q_reti (post := fun x L1 f1 => x = z.1 ∧ L1 = L ∧ (∀ b, b ∈ L → b ≠ y → b ≠ aKind → b ≠ aSize → b ≠ aMarks → b ≠ aSeed → b ≠ aContentMany → b ≠ aRow → b ≠ aRestMany → f1 b = f b) ∧ f1 y = .inr (7, [.ref aWorlds, .ref aInWorld, .ref aKind, .ref aSize, .ref aMarks, .ref aSeed, .ref aContents, .ref aContentMany, .ref aRow, .ref aBits, .ref aLayerSize, .ref aLayerCame, .ref aRest, .ref aRestMany, .int z.2.1, .ref aCome, .ref aRivals, .ref aGone, .ref aOrder, .ref aOffAt, .ref aIsOff, .ref aAlone, .ref aKept]) ∧ f1 aKind = .inl (g 0, 30, .inl z.2.2.1) ∧ f1 aSize = .inl (g 0, 30, .inl z.2.2.2.1) ∧ f1 aMarks = .inl (g 0, 30, .inl z.2.2.2.2.1) ∧ f1 aSeed = .inl (g 0, 30, .inl z.2.2.2.2.2.1) ∧ f1 aContentMany = .inl (g 0, 30, .inl z.2.2.2.2.2.2.1) ∧ f1 aRow = .inl (g 0, 122880, .inl z.2.2.2.2.2.2.2.1) ∧ f1 aRestMany = .inl (g 0, 30, .inl z.2.2.2.2.2.2.2.2)) hx hb hr hlk S dX9_make_87 (by decide) (by decide) (by have hz := Option.some.inj hM; subst hz; exact ⟨rfl, rfl, fr, e_y, e_aKind, e_aSize, e_aMarks, e_aSeed, e_aContentMany, e_aRow, e_aRestMany⟩)
            · have hM := itT b74 hM
              refine lv_iconst (v := (0 : Int32)) hx hb dX9_make_77 (by decide) ?_
              refine lv_goto (tgt := 82) hx hb dX9_make_78 (by decide) ?_
              refine lv_iload hx hb dX9_make_82 (lv_at hl 4 rfl) ?_
              obtain ⟨z84, hz84, hM⟩ := bind_some hM
              refine q_vi (As := [.int k0, .int k1, .int (0 : Int32), .int k3]) (rest := []) ⟨hx, hb, hml, hown, hts⟩ (k_X9_begin l D g m_y e_y m_aWorlds e_aWorlds m_aInWorld e_aInWorld m_aKind e_aKind m_aSize e_aSize m_aMarks e_aMarks m_aSeed e_aSeed m_aContents e_aContents m_aContentMany e_aContentMany m_aRow e_aRow m_aBits e_aBits m_aLayerSize e_aLayerSize m_aLayerCame e_aLayerCame m_aRest e_aRest m_aRestMany e_aRestMany m_aCome e_aCome m_aRivals e_aRivals m_aGone e_aGone m_aOrder e_aOrder m_aOffAt e_aOffAt m_aIsOff e_aIsOff m_aAlone e_aAlone m_aKept e_aKept r_aKind r_aSize r_aMarks r_aSeed r_aContentMany r_aRestMany hz84) (cwV 4 hts gX9_make_X9_begin rfl rfl rfl (by decide +kernel) ⟨Nat.le_of_ble_eq_true rfl, Nat.le_of_ble_eq_true rfl⟩) S m_y e_y (T := TX9) (N := 23) rfl rfl hl.1 rfl (Nat.le_of_ble_eq_true rfl) dX9_make_84 ⟨Nat.le_of_ble_eq_true rfl, Nat.le_of_ble_eq_true rfl⟩ (fun r18 L16 f17 H locs S w84 => ?_)
              obtain ⟨ex84, eL, fv84, E_y, E_aKind, E_aSize, E_aMarks, E_aSeed, E_aContentMany, E_aRow, E_aRestMany⟩ := w84
              rw [eL] at S
              have fr : ∀ b, b ∈ L → b ≠ y → b ≠ aKind → b ≠ aSize → b ≠ aMarks → b ≠ aSeed → b ≠ aContentMany → b ≠ aRow → b ≠ aRestMany → f17 b = f b := fun b mb nb0 nb1 nb2 nb3 nb4 nb5 nb6 nb7 => (fv84 b mb nb0 nb1 nb2 nb3 nb4 nb5 nb6 nb7).trans (fr b mb nb0 nb1 nb2 nb3 nb4 nb5 nb6 nb7)
              have e_y : f17 y = .inr (7, [.ref aWorlds, .ref aInWorld, .ref aKind, .ref aSize, .ref aMarks, .ref aSeed, .ref aContents, .ref aContentMany, .ref aRow, .ref aBits, .ref aLayerSize, .ref aLayerCame, .ref aRest, .ref aRestMany, .int z84.2.1, .ref aCome, .ref aRivals, .ref aGone, .ref aOrder, .ref aOffAt, .ref aIsOff, .ref aAlone, .ref aKept]) := E_y
              have e_aKind : f17 aKind = .inl (g 0, 30, .inl z84.2.2.1) := E_aKind
              have e_aSize : f17 aSize = .inl (g 0, 30, .inl z84.2.2.2.1) := E_aSize
              have e_aMarks : f17 aMarks = .inl (g 0, 30, .inl z84.2.2.2.2.1) := E_aMarks
              have e_aSeed : f17 aSeed = .inl (g 0, 30, .inl z84.2.2.2.2.2.1) := E_aSeed
              have e_aContentMany : f17 aContentMany = .inl (g 0, 30, .inl z84.2.2.2.2.2.2.1) := E_aContentMany
              have e_aRow : f17 aRow = .inl (g 0, 122880, .inl z84.2.2.2.2.2.2.2.1) := E_aRow
              have e_aRestMany : f17 aRestMany = .inl (g 0, 30, .inl z84.2.2.2.2.2.2.2.2) := E_aRestMany
              replace ex84 := ex84.symm
              subst ex84
              subst hQQ
              exact q_reti (post := fun x L1 f1 => x = z.1 ∧ L1 = L ∧ (∀ b, b ∈ L → b ≠ y → b ≠ aKind → b ≠ aSize → b ≠ aMarks → b ≠ aSeed → b ≠ aContentMany → b ≠ aRow → b ≠ aRestMany → f1 b = f b) ∧ f1 y = .inr (7, [.ref aWorlds, .ref aInWorld, .ref aKind, .ref aSize, .ref aMarks, .ref aSeed, .ref aContents, .ref aContentMany, .ref aRow, .ref aBits, .ref aLayerSize, .ref aLayerCame, .ref aRest, .ref aRestMany, .int z.2.1, .ref aCome, .ref aRivals, .ref aGone, .ref aOrder, .ref aOffAt, .ref aIsOff, .ref aAlone, .ref aKept]) ∧ f1 aKind = .inl (g 0, 30, .inl z.2.2.1) ∧ f1 aSize = .inl (g 0, 30, .inl z.2.2.2.1) ∧ f1 aMarks = .inl (g 0, 30, .inl z.2.2.2.2.1) ∧ f1 aSeed = .inl (g 0, 30, .inl z.2.2.2.2.2.1) ∧ f1 aContentMany = .inl (g 0, 30, .inl z.2.2.2.2.2.2.1) ∧ f1 aRow = .inl (g 0, 122880, .inl z.2.2.2.2.2.2.2.1) ∧ f1 aRestMany = .inl (g 0, 30, .inl z.2.2.2.2.2.2.2.2)) hx hb hr hlk S dX9_make_87 (by decide) (by decide) (by have hz := Option.some.inj hM; subst hz; exact ⟨rfl, rfl, fr, e_y, e_aKind, e_aSize, e_aMarks, e_aSeed, e_aContentMany, e_aRow, e_aRestMany⟩)
          · have hM := itT b61 hM
            refine lv_bipush (v := (-4 : Int32)) hx hb dX9_make_64 (by decide) ?_
            refine lv_goto (tgt := 87) hx hb dX9_make_66 (by decide) ?_
            subst hQQ
            exact q_reti (post := fun x L1 f1 => x = z.1 ∧ L1 = L ∧ (∀ b, b ∈ L → b ≠ y → b ≠ aKind → b ≠ aSize → b ≠ aMarks → b ≠ aSeed → b ≠ aContentMany → b ≠ aRow → b ≠ aRestMany → f1 b = f b) ∧ f1 y = .inr (7, [.ref aWorlds, .ref aInWorld, .ref aKind, .ref aSize, .ref aMarks, .ref aSeed, .ref aContents, .ref aContentMany, .ref aRow, .ref aBits, .ref aLayerSize, .ref aLayerCame, .ref aRest, .ref aRestMany, .int z.2.1, .ref aCome, .ref aRivals, .ref aGone, .ref aOrder, .ref aOffAt, .ref aIsOff, .ref aAlone, .ref aKept]) ∧ f1 aKind = .inl (g 0, 30, .inl z.2.2.1) ∧ f1 aSize = .inl (g 0, 30, .inl z.2.2.2.1) ∧ f1 aMarks = .inl (g 0, 30, .inl z.2.2.2.2.1) ∧ f1 aSeed = .inl (g 0, 30, .inl z.2.2.2.2.2.1) ∧ f1 aContentMany = .inl (g 0, 30, .inl z.2.2.2.2.2.2.1) ∧ f1 aRow = .inl (g 0, 122880, .inl z.2.2.2.2.2.2.2.1) ∧ f1 aRestMany = .inl (g 0, 30, .inl z.2.2.2.2.2.2.2.2)) hx hb hr hlk S dX9_make_87 (by decide) (by decide) (by have hz := Option.some.inj hM; subst hz; exact ⟨rfl, rfl, fr, e_y, e_aKind, e_aSize, e_aMarks, e_aSeed, e_aContentMany, e_aRow, e_aRestMany⟩)
        · have hM := itT b24 hM
          refine lv_goto (tgt := 53) hx hb dX9_make_27 (by decide) ?_
          refine lv_iconst (v := (-1 : Int32)) hx hb dX9_make_53 (by decide) ?_
          subst hQQ
          exact q_reti (post := fun x L1 f1 => x = z.1 ∧ L1 = L ∧ (∀ b, b ∈ L → b ≠ y → b ≠ aKind → b ≠ aSize → b ≠ aMarks → b ≠ aSeed → b ≠ aContentMany → b ≠ aRow → b ≠ aRestMany → f1 b = f b) ∧ f1 y = .inr (7, [.ref aWorlds, .ref aInWorld, .ref aKind, .ref aSize, .ref aMarks, .ref aSeed, .ref aContents, .ref aContentMany, .ref aRow, .ref aBits, .ref aLayerSize, .ref aLayerCame, .ref aRest, .ref aRestMany, .int z.2.1, .ref aCome, .ref aRivals, .ref aGone, .ref aOrder, .ref aOffAt, .ref aIsOff, .ref aAlone, .ref aKept]) ∧ f1 aKind = .inl (g 0, 30, .inl z.2.2.1) ∧ f1 aSize = .inl (g 0, 30, .inl z.2.2.2.1) ∧ f1 aMarks = .inl (g 0, 30, .inl z.2.2.2.2.1) ∧ f1 aSeed = .inl (g 0, 30, .inl z.2.2.2.2.2.1) ∧ f1 aContentMany = .inl (g 0, 30, .inl z.2.2.2.2.2.2.1) ∧ f1 aRow = .inl (g 0, 122880, .inl z.2.2.2.2.2.2.2.1) ∧ f1 aRestMany = .inl (g 0, 30, .inl z.2.2.2.2.2.2.2.2)) hx hb hr hlk S dX9_make_54 (by decide) (by decide) (by have hz := Option.some.inj hM; subst hz; exact ⟨rfl, rfl, fr, e_y, e_aKind, e_aSize, e_aMarks, e_aSeed, e_aContentMany, e_aRow, e_aRestMany⟩)
    · have hM := itF b6 hM
      refine lv_iconst (v := (-1 : Int32)) hx hb dX9_make_9 (by decide) ?_
      subst hQQ
      exact q_reti (post := fun x L1 f1 => x = z.1 ∧ L1 = L ∧ (∀ b, b ∈ L → b ≠ y → b ≠ aKind → b ≠ aSize → b ≠ aMarks → b ≠ aSeed → b ≠ aContentMany → b ≠ aRow → b ≠ aRestMany → f1 b = f b) ∧ f1 y = .inr (7, [.ref aWorlds, .ref aInWorld, .ref aKind, .ref aSize, .ref aMarks, .ref aSeed, .ref aContents, .ref aContentMany, .ref aRow, .ref aBits, .ref aLayerSize, .ref aLayerCame, .ref aRest, .ref aRestMany, .int z.2.1, .ref aCome, .ref aRivals, .ref aGone, .ref aOrder, .ref aOffAt, .ref aIsOff, .ref aAlone, .ref aKept]) ∧ f1 aKind = .inl (g 0, 30, .inl z.2.2.1) ∧ f1 aSize = .inl (g 0, 30, .inl z.2.2.2.1) ∧ f1 aMarks = .inl (g 0, 30, .inl z.2.2.2.2.1) ∧ f1 aSeed = .inl (g 0, 30, .inl z.2.2.2.2.2.1) ∧ f1 aContentMany = .inl (g 0, 30, .inl z.2.2.2.2.2.2.1) ∧ f1 aRow = .inl (g 0, 122880, .inl z.2.2.2.2.2.2.2.1) ∧ f1 aRestMany = .inl (g 0, 30, .inl z.2.2.2.2.2.2.2.2)) hx hb hr hlk S dX9_make_10 (by decide) (by decide) (by have hz := Option.some.inj hM; subst hz; exact ⟨rfl, rfl, fr, e_y, e_aKind, e_aSize, e_aMarks, e_aSeed, e_aContentMany, e_aRow, e_aRestMany⟩)

def mX9_fillFrom_L14 (vWorlds : Nat → Int64) (vInWorld : Nat → Int32) (sq : Int32) (wi : Int32) : Nat → Int32 → (Nat → Int64) → Option (Int32 × (Nat → Int64))
  | 0, _, _ => none
  | fu + 1, x3_14, caContents_14 => if ix wi 8 = true then (if (vInWorld (Int32.toNatClampNeg wi)) ≤ x3_14 then (some (x3_14, caContents_14)) else (if ix ((wi * (1000 : Int32)) + x3_14) 8000 = true then (if ix ((sq * (1000 : Int32)) + x3_14) 30000 = true then (mX9_fillFrom_L14 vWorlds vInWorld sq wi fu (x3_14 + 1) (vp_updL caContents_14 (Int32.toNatClampNeg ((sq * (1000 : Int32)) + x3_14)) (vWorlds (Int32.toNatClampNeg ((wi * (1000 : Int32)) + x3_14))))) else none) else none)) else none
def mX9_fillFrom (vWorlds : Nat → Int64) (vInWorld : Nat → Int32) (vContents : Nat → Int64) (vContentMany : Nat → Int32) (sq : Int32) (wi : Int32) : Option ((Nat → Int64) × (Nat → Int32)) := if ix wi 8 = true then (if ix sq 30 = true then ((mX9_fillFrom_L14 vWorlds vInWorld sq wi FU (0 : Int32) vContents).bind fun o14 => some (o14.2, (upd vContentMany (Int32.toNatClampNeg sq) (vInWorld (Int32.toNatClampNeg wi))))) else none) else none
set_option maxHeartbeats 4000000 in
set_option maxRecDepth 100000 in
theorem k_X9_fillFrom (l : Launch) (D : va_G) (g : Nat → ClassId) {L : List Nat} {f : Nat → va_E} {aAlone aBits aCome aContentMany aContents aGone aInWorld aIsOff aKept aKind aLayerCame aLayerSize aMarks aOffAt aOrder aRest aRestMany aRivals aRow aSeed aSize aWorlds y : Nat} {many : Int32} {vWorlds : Nat → Int64} {vInWorld : Nat → Int32} {vKind : Nat → Int32} {vSize : Nat → Int32} {vMarks : Nat → Int32} {vSeed : Nat → Int32} {vContents : Nat → Int64} {vContentMany : Nat → Int32} {vRow : Nat → Int32} {vBits : Nat → Int32} {vLayerSize : Nat → Int32} {vLayerCame : Nat → Int32} {vRest : Nat → Int64} {vRestMany : Nat → Int32} {vCome : Nat → Int64} {vRivals : Nat → Int64} {vGone : Nat → Int64} {vOrder : Nat → Int32} {vOffAt : Nat → Int32} {vIsOff : Nat → Int32} {vAlone : Nat → Int32} {vKept : Nat → Int32} {sq : Int32} {wi : Int32} {ρ : Nat → Nat × Nat} {z : (Nat → Int64) × (Nat → Int32)} (m_y : y ∈ L) (e_y : f y = .inr (7, [.ref aWorlds, .ref aInWorld, .ref aKind, .ref aSize, .ref aMarks, .ref aSeed, .ref aContents, .ref aContentMany, .ref aRow, .ref aBits, .ref aLayerSize, .ref aLayerCame, .ref aRest, .ref aRestMany, .int many, .ref aCome, .ref aRivals, .ref aGone, .ref aOrder, .ref aOffAt, .ref aIsOff, .ref aAlone, .ref aKept])) (m_aWorlds : aWorlds ∈ L) (e_aWorlds : f aWorlds = .inl (g 1, 8000, .inr (.inl vWorlds))) (m_aInWorld : aInWorld ∈ L) (e_aInWorld : f aInWorld = .inl (g 0, 8, .inl vInWorld)) (m_aKind : aKind ∈ L) (e_aKind : f aKind = .inl (g 0, 30, .inl vKind)) (m_aSize : aSize ∈ L) (e_aSize : f aSize = .inl (g 0, 30, .inl vSize)) (m_aMarks : aMarks ∈ L) (e_aMarks : f aMarks = .inl (g 0, 30, .inl vMarks)) (m_aSeed : aSeed ∈ L) (e_aSeed : f aSeed = .inl (g 0, 30, .inl vSeed)) (m_aContents : aContents ∈ L) (e_aContents : f aContents = .inl (g 1, 30000, .inr (.inl vContents))) (m_aContentMany : aContentMany ∈ L) (e_aContentMany : f aContentMany = .inl (g 0, 30, .inl vContentMany)) (m_aRow : aRow ∈ L) (e_aRow : f aRow = .inl (g 0, 122880, .inl vRow)) (m_aBits : aBits ∈ L) (e_aBits : f aBits = .inl (g 0, 76800, .inl vBits)) (m_aLayerSize : aLayerSize ∈ L) (e_aLayerSize : f aLayerSize = .inl (g 0, 600, .inl vLayerSize)) (m_aLayerCame : aLayerCame ∈ L) (e_aLayerCame : f aLayerCame = .inl (g 0, 600, .inl vLayerCame)) (m_aRest : aRest ∈ L) (e_aRest : f aRest = .inl (g 1, 30000, .inr (.inl vRest))) (m_aRestMany : aRestMany ∈ L) (e_aRestMany : f aRestMany = .inl (g 0, 30, .inl vRestMany)) (m_aCome : aCome ∈ L) (e_aCome : f aCome = .inl (g 1, 1000, .inr (.inl vCome))) (m_aRivals : aRivals ∈ L) (e_aRivals : f aRivals = .inl (g 1, 1000, .inr (.inl vRivals))) (m_aGone : aGone ∈ L) (e_aGone : f aGone = .inl (g 1, 1000, .inr (.inl vGone))) (m_aOrder : aOrder ∈ L) (e_aOrder : f aOrder = .inl (g 0, 1000, .inl vOrder)) (m_aOffAt : aOffAt ∈ L) (e_aOffAt : f aOffAt = .inl (g 0, 1000, .inl vOffAt)) (m_aIsOff : aIsOff ∈ L) (e_aIsOff : f aIsOff = .inl (g 2, 1000, .inl vIsOff)) (m_aAlone : aAlone ∈ L) (e_aAlone : f aAlone = .inl (g 0, 4096, .inl vAlone)) (m_aKept : aKept ∈ L) (e_aKept : f aKept = .inl (g 0, 4096, .inl vKept))  (r_aKind : ρ aKind = (500, 3)) (r_aSize : ρ aSize = (500, 4)) (r_aMarks : ρ aMarks = (500, 5)) (r_aSeed : ρ aSeed = (500, 6)) (r_aContents : ρ aContents = (500, 7)) (r_aContentMany : ρ aContentMany = (500, 8)) (r_aRest : ρ aRest = (500, 13)) (r_aRestMany : ρ aRestMany = (500, 14))  (hM : mX9_fillFrom vWorlds vInWorld vContents vContentMany sq wi = some z) : cV l yX9_fillFrom wsX9_fillFrom { frames := 0, cells := 0, slots := 0, locals := 0 } D g [.ref y, .int sq, .int wi] L f 0 0 (fun L1 f1 => L1 = L ∧ (∀ b, b ∈ L → b ≠ aContents → b ≠ aContentMany → f1 b = f b) ∧ f1 aContents = .inl (g 1, 30000, .inr (.inl z.1)) ∧ f1 aContentMany = .inl (g 0, 30, .inl z.2)) := by
  refine cV_of (cc := cX9_fillFrom) (maxL := 4) (ret := none) (by decide) rfl (Nat.le_of_ble_eq_true rfl) ?_
  intro szz p e s m below meth c hx hb hr hml hts hown hlk hnm S ls hl
  have hl : lv_has ls 4 [(0, .ref y), (1, .int sq), (2, .int wi)] := hl
  have in_X9 : ∀ w ∈ wsX90, w ∈ wsX9_fillFrom := by decide +kernel
  have n_y_aContentMany : y ≠ aContentMany := ne_ir e_aContentMany e_y
  have n_aWorlds_aContentMany : aWorlds ≠ aContentMany := ne_len e_aContentMany e_aWorlds (by decide)
  have n_aInWorld_aContentMany : aInWorld ≠ aContentMany := ne_len e_aContentMany e_aInWorld (by decide)
  have n_aKind_aContentMany : aKind ≠ aContentMany := role_ne r_aContentMany r_aKind (by decide)
  have n_aSize_aContentMany : aSize ≠ aContentMany := role_ne r_aContentMany r_aSize (by decide)
  have n_aMarks_aContentMany : aMarks ≠ aContentMany := role_ne r_aContentMany r_aMarks (by decide)
  have n_aSeed_aContentMany : aSeed ≠ aContentMany := role_ne r_aContentMany r_aSeed (by decide)
  have n_aContents_aContentMany : aContents ≠ aContentMany := ne_len e_aContentMany e_aContents (by decide)
  have n_aRow_aContentMany : aRow ≠ aContentMany := ne_len e_aContentMany e_aRow (by decide)
  have n_aBits_aContentMany : aBits ≠ aContentMany := ne_len e_aContentMany e_aBits (by decide)
  have n_aLayerSize_aContentMany : aLayerSize ≠ aContentMany := ne_len e_aContentMany e_aLayerSize (by decide)
  have n_aLayerCame_aContentMany : aLayerCame ≠ aContentMany := ne_len e_aContentMany e_aLayerCame (by decide)
  have n_aRest_aContentMany : aRest ≠ aContentMany := ne_len e_aContentMany e_aRest (by decide)
  have n_aRestMany_aContentMany : aRestMany ≠ aContentMany := role_ne r_aContentMany r_aRestMany (by decide)
  have n_aCome_aContentMany : aCome ≠ aContentMany := ne_len e_aContentMany e_aCome (by decide)
  have n_aRivals_aContentMany : aRivals ≠ aContentMany := ne_len e_aContentMany e_aRivals (by decide)
  have n_aGone_aContentMany : aGone ≠ aContentMany := ne_len e_aContentMany e_aGone (by decide)
  have n_aOrder_aContentMany : aOrder ≠ aContentMany := ne_len e_aContentMany e_aOrder (by decide)
  have n_aOffAt_aContentMany : aOffAt ≠ aContentMany := ne_len e_aContentMany e_aOffAt (by decide)
  have n_aIsOff_aContentMany : aIsOff ≠ aContentMany := ne_len e_aContentMany e_aIsOff (by decide)
  have n_aAlone_aContentMany : aAlone ≠ aContentMany := ne_len e_aContentMany e_aAlone (by decide)
  have n_aKept_aContentMany : aKept ≠ aContentMany := ne_len e_aContentMany e_aKept (by decide)
  have n_y_aContents : y ≠ aContents := ne_ir e_aContents e_y
  have n_aWorlds_aContents : aWorlds ≠ aContents := ne_len e_aContents e_aWorlds (by decide)
  have n_aInWorld_aContents : aInWorld ≠ aContents := ne_len e_aContents e_aInWorld (by decide)
  have n_aKind_aContents : aKind ≠ aContents := ne_len e_aContents e_aKind (by decide)
  have n_aSize_aContents : aSize ≠ aContents := ne_len e_aContents e_aSize (by decide)
  have n_aMarks_aContents : aMarks ≠ aContents := ne_len e_aContents e_aMarks (by decide)
  have n_aSeed_aContents : aSeed ≠ aContents := ne_len e_aContents e_aSeed (by decide)
  have n_aContentMany_aContents : aContentMany ≠ aContents := ne_len e_aContents e_aContentMany (by decide)
  have n_aRow_aContents : aRow ≠ aContents := ne_len e_aContents e_aRow (by decide)
  have n_aBits_aContents : aBits ≠ aContents := ne_len e_aContents e_aBits (by decide)
  have n_aLayerSize_aContents : aLayerSize ≠ aContents := ne_len e_aContents e_aLayerSize (by decide)
  have n_aLayerCame_aContents : aLayerCame ≠ aContents := ne_len e_aContents e_aLayerCame (by decide)
  have n_aRest_aContents : aRest ≠ aContents := role_ne r_aContents r_aRest (by decide)
  have n_aRestMany_aContents : aRestMany ≠ aContents := ne_len e_aContents e_aRestMany (by decide)
  have n_aCome_aContents : aCome ≠ aContents := ne_len e_aContents e_aCome (by decide)
  have n_aRivals_aContents : aRivals ≠ aContents := ne_len e_aContents e_aRivals (by decide)
  have n_aGone_aContents : aGone ≠ aContents := ne_len e_aContents e_aGone (by decide)
  have n_aOrder_aContents : aOrder ≠ aContents := ne_len e_aContents e_aOrder (by decide)
  have n_aOffAt_aContents : aOffAt ≠ aContents := ne_len e_aContents e_aOffAt (by decide)
  have n_aIsOff_aContents : aIsOff ≠ aContents := ne_len e_aContents e_aIsOff (by decide)
  have n_aAlone_aContents : aAlone ≠ aContents := ne_len e_aContents e_aAlone (by decide)
  have n_aKept_aContents : aKept ≠ aContents := ne_len e_aContents e_aKept (by decide)
  have fr : ∀ b, b ∈ L → b ≠ aContents → b ≠ aContentMany → f b = f b := fun _ _ _ _ => rfl
  unfold mX9_fillFrom at hM
  refine W_gen (fun QQ hQQ => ?_)
  refine lv_aload_n hx hb dX9_fillFrom_0 rfl (lv_at hl 0 rfl) ?_
  refine q_get hx hb hts in_X9 hown S m_y e_y (C := RX9) (T := TX9) (N := 23) rfl 7 (by decide) rfl (hts (.fieldLink RX9 32 "SieveCabinetModel" "contentMany" "[I") (by decide +kernel)) dX9_fillFrom_1 ?_
  refine lv_iload_n hx hb dX9_fillFrom_4 rfl (lv_at hl 1 rfl) ?_
  refine lv_aload_n hx hb dX9_fillFrom_5 rfl (lv_at hl 0 rfl) ?_
  refine q_get hx hb hts in_X9 hown S m_y e_y (C := RX9) (T := TX9) (N := 23) rfl 1 (by decide) rfl (hts (.fieldLink RX9 13 "SieveCabinetModel" "inWorld" "[I") (by decide +kernel)) dX9_fillFrom_6 ?_
  refine lv_iload_n hx hb dX9_fillFrom_9 rfl (lv_at hl 2 rfl) ?_
  obtain ⟨hi10, hM⟩ := ckx hM
  refine q_iald hx hb S m_aInWorld e_aInWorld hi10 dX9_fillFrom_10 ?_
  obtain ⟨hi11, hM⟩ := ckx hM
  refine k_iast hx hb S m_aContentMany e_aContentMany hi11 dX9_fillFrom_11 (fun f1 ef1 H locs S => ?_)
  have e_aContentMany := up_self ef1
  have fr : ∀ b, b ∈ L → b ≠ aContents → b ≠ aContentMany → f1 b = f b := fun b mb nb0 nb1 => (up_ne ef1 nb1 rfl).trans (fr b mb nb0 nb1)
  refine lv_iconst (v := (0 : Int32)) hx hb dX9_fillFrom_12 (by decide) ?_
  refine lv_istore_n (lv' := [(3, .int (0 : Int32)), (0, .ref y), (1, .int sq), (2, .int wi)]) hx hb dX9_fillFrom_13 rfl hl (by decide) rfl (fun ls hl => ?_)
  have e_y := (up_ne ef1 n_y_aContentMany e_y)
  have e_aWorlds := (up_ne ef1 n_aWorlds_aContentMany e_aWorlds)
  have e_aInWorld := (up_ne ef1 n_aInWorld_aContentMany e_aInWorld)
  have e_aKind := (up_ne ef1 n_aKind_aContentMany e_aKind)
  have e_aSize := (up_ne ef1 n_aSize_aContentMany e_aSize)
  have e_aMarks := (up_ne ef1 n_aMarks_aContentMany e_aMarks)
  have e_aSeed := (up_ne ef1 n_aSeed_aContentMany e_aSeed)
  have e_aContents := (up_ne ef1 n_aContents_aContentMany e_aContents)
  have e_aRow := (up_ne ef1 n_aRow_aContentMany e_aRow)
  have e_aBits := (up_ne ef1 n_aBits_aContentMany e_aBits)
  have e_aLayerSize := (up_ne ef1 n_aLayerSize_aContentMany e_aLayerSize)
  have e_aLayerCame := (up_ne ef1 n_aLayerCame_aContentMany e_aLayerCame)
  have e_aRest := (up_ne ef1 n_aRest_aContentMany e_aRest)
  have e_aRestMany := (up_ne ef1 n_aRestMany_aContentMany e_aRestMany)
  have e_aCome := (up_ne ef1 n_aCome_aContentMany e_aCome)
  have e_aRivals := (up_ne ef1 n_aRivals_aContentMany e_aRivals)
  have e_aGone := (up_ne ef1 n_aGone_aContentMany e_aGone)
  have e_aOrder := (up_ne ef1 n_aOrder_aContentMany e_aOrder)
  have e_aOffAt := (up_ne ef1 n_aOffAt_aContentMany e_aOffAt)
  have e_aIsOff := (up_ne ef1 n_aIsOff_aContentMany e_aIsOff)
  have e_aAlone := (up_ne ef1 n_aAlone_aContentMany e_aAlone)
  have e_aKept := (up_ne ef1 n_aKept_aContentMany e_aKept)
  obtain ⟨o14, ho14, hM⟩ := bind_some hM
  have EX14 : ∀ (fl14 : Nat → va_E) (H : Heap) (locs : List Loc) (ls : Array Slot), PS D g (va_A (va_pl L f) szz) s.heap s L fl14 H locs → fl14 y = .inr (7, [.ref aWorlds, .ref aInWorld, .ref aKind, .ref aSize, .ref aMarks, .ref aSeed, .ref aContents, .ref aContentMany, .ref aRow, .ref aBits, .ref aLayerSize, .ref aLayerCame, .ref aRest, .ref aRestMany, .int many, .ref aCome, .ref aRivals, .ref aGone, .ref aOrder, .ref aOffAt, .ref aIsOff, .ref aAlone, .ref aKept]) → fl14 aWorlds = .inl (g 1, 8000, .inr (.inl vWorlds)) → fl14 aInWorld = .inl (g 0, 8, .inl vInWorld) → fl14 aKind = .inl (g 0, 30, .inl vKind) → fl14 aSize = .inl (g 0, 30, .inl vSize) → fl14 aMarks = .inl (g 0, 30, .inl vMarks) → fl14 aSeed = .inl (g 0, 30, .inl vSeed) → fl14 aContents = .inl (g 1, 30000, .inr (.inl o14.2)) → fl14 aContentMany = .inl (g 0, 30, .inl (upd vContentMany (Int32.toNatClampNeg sq) (vInWorld (Int32.toNatClampNeg wi)))) → fl14 aRow = .inl (g 0, 122880, .inl vRow) → fl14 aBits = .inl (g 0, 76800, .inl vBits) → fl14 aLayerSize = .inl (g 0, 600, .inl vLayerSize) → fl14 aLayerCame = .inl (g 0, 600, .inl vLayerCame) → fl14 aRest = .inl (g 1, 30000, .inr (.inl vRest)) → fl14 aRestMany = .inl (g 0, 30, .inl vRestMany) → fl14 aCome = .inl (g 1, 1000, .inr (.inl vCome)) → fl14 aRivals = .inl (g 1, 1000, .inr (.inl vRivals)) → fl14 aGone = .inl (g 1, 1000, .inr (.inl vGone)) → fl14 aOrder = .inl (g 0, 1000, .inl vOrder) → fl14 aOffAt = .inl (g 0, 1000, .inl vOffAt) → fl14 aIsOff = .inl (g 2, 1000, .inl vIsOff) → fl14 aAlone = .inl (g 0, 4096, .inl vAlone) → fl14 aKept = .inl (g 0, 4096, .inl vKept) → (∀ b, b ∈ L → b ≠ aContents → b ≠ aContentMany → fl14 b = f b) → lv_has ls 4 [] → W p l e { frames := 0, cells := 0, slots := 0, locals := 0 } s m [.ref y, .int sq, .int wi].toArray below meth c H locs 0 0 QQ (F0 m 54 ls []) := by
    intro fl14 H locs ls S e_y e_aWorlds e_aInWorld e_aKind e_aSize e_aMarks e_aSeed e_aContents e_aContentMany e_aRow e_aBits e_aLayerSize e_aLayerCame e_aRest e_aRestMany e_aCome e_aRivals e_aGone e_aOrder e_aOffAt e_aIsOff e_aAlone e_aKept fr hl
    subst hQQ
    exact q_retv (post := fun L1 f1 => L1 = L ∧ (∀ b, b ∈ L → b ≠ aContents → b ≠ aContentMany → f1 b = f b) ∧ f1 aContents = .inl (g 1, 30000, .inr (.inl z.1)) ∧ f1 aContentMany = .inl (g 0, 30, .inl z.2)) hx hb hr hlk S dX9_fillFrom_54 (by decide) (by decide) (by have hz := Option.some.inj hM; subst hz; exact ⟨rfl, fr, e_aContents, e_aContentMany⟩)
  have LP14 : ∀ (fu : Nat) (x3_14 : Int32) (caContents_14 : Nat → Int64) (fl14 : Nat → va_E) (H : Heap) (locs : List Loc) (ls : Array Slot), (mX9_fillFrom_L14 vWorlds vInWorld sq wi) fu x3_14 caContents_14 = some o14 → PS D g (va_A (va_pl L f) szz) s.heap s L fl14 H locs → fl14 y = .inr (7, [.ref aWorlds, .ref aInWorld, .ref aKind, .ref aSize, .ref aMarks, .ref aSeed, .ref aContents, .ref aContentMany, .ref aRow, .ref aBits, .ref aLayerSize, .ref aLayerCame, .ref aRest, .ref aRestMany, .int many, .ref aCome, .ref aRivals, .ref aGone, .ref aOrder, .ref aOffAt, .ref aIsOff, .ref aAlone, .ref aKept]) → fl14 aWorlds = .inl (g 1, 8000, .inr (.inl vWorlds)) → fl14 aInWorld = .inl (g 0, 8, .inl vInWorld) → fl14 aKind = .inl (g 0, 30, .inl vKind) → fl14 aSize = .inl (g 0, 30, .inl vSize) → fl14 aMarks = .inl (g 0, 30, .inl vMarks) → fl14 aSeed = .inl (g 0, 30, .inl vSeed) → fl14 aContents = .inl (g 1, 30000, .inr (.inl caContents_14)) → fl14 aContentMany = .inl (g 0, 30, .inl (upd vContentMany (Int32.toNatClampNeg sq) (vInWorld (Int32.toNatClampNeg wi)))) → fl14 aRow = .inl (g 0, 122880, .inl vRow) → fl14 aBits = .inl (g 0, 76800, .inl vBits) → fl14 aLayerSize = .inl (g 0, 600, .inl vLayerSize) → fl14 aLayerCame = .inl (g 0, 600, .inl vLayerCame) → fl14 aRest = .inl (g 1, 30000, .inr (.inl vRest)) → fl14 aRestMany = .inl (g 0, 30, .inl vRestMany) → fl14 aCome = .inl (g 1, 1000, .inr (.inl vCome)) → fl14 aRivals = .inl (g 1, 1000, .inr (.inl vRivals)) → fl14 aGone = .inl (g 1, 1000, .inr (.inl vGone)) → fl14 aOrder = .inl (g 0, 1000, .inl vOrder) → fl14 aOffAt = .inl (g 0, 1000, .inl vOffAt) → fl14 aIsOff = .inl (g 2, 1000, .inl vIsOff) → fl14 aAlone = .inl (g 0, 4096, .inl vAlone) → fl14 aKept = .inl (g 0, 4096, .inl vKept) → (∀ b, b ∈ L → b ≠ aContents → b ≠ aContentMany → fl14 b = f b) → lv_has ls 4 [(3, .int x3_14), (0, .ref y), (1, .int sq), (2, .int wi)] → W p l e { frames := 0, cells := 0, slots := 0, locals := 0 } s m [.ref y, .int sq, .int wi].toArray below meth c H locs 0 0 QQ (F0 m 14 ls []) := by
    intro fu
    induction fu with
    | zero => intro x3_14 caContents_14 fl14 H locs ls ho14 S e_y e_aWorlds e_aInWorld e_aKind e_aSize e_aMarks e_aSeed e_aContents e_aContentMany e_aRow e_aBits e_aLayerSize e_aLayerCame e_aRest e_aRestMany e_aCome e_aRivals e_aGone e_aOrder e_aOffAt e_aIsOff e_aAlone e_aKept fr hl; exact no_some ho14
    | succ fu ih14 =>
      intro x3_14 caContents_14 fl14 H locs ls ho14 S e_y e_aWorlds e_aInWorld e_aKind e_aSize e_aMarks e_aSeed e_aContents e_aContentMany e_aRow e_aBits e_aLayerSize e_aLayerCame e_aRest e_aRestMany e_aCome e_aRivals e_aGone e_aOrder e_aOffAt e_aIsOff e_aAlone e_aKept fr hl
      rw [mX9_fillFrom_L14] at ho14
      refine lv_iload_n hx hb dX9_fillFrom_14 rfl (lv_at hl 0 rfl) ?_
      refine lv_aload_n hx hb dX9_fillFrom_15 rfl (lv_at hl 1 rfl) ?_
      refine q_get hx hb hts in_X9 hown S m_y e_y (C := RX9) (T := TX9) (N := 23) rfl 1 (by decide) rfl (hts (.fieldLink RX9 13 "SieveCabinetModel" "inWorld" "[I") (by decide +kernel)) dX9_fillFrom_16 ?_
      refine lv_iload_n hx hb dX9_fillFrom_19 rfl (lv_at hl 3 rfl) ?_
      obtain ⟨hi20, ho14⟩ := ckx ho14
      refine q_iald hx hb S m_aInWorld e_aInWorld hi20 dX9_fillFrom_20 ?_
      refine lv_icmp_ge (tgt := 54) hx hb dX9_fillFrom_21 (by decide) (fun b21 => ?_) (fun b21 => ?_)
      · have ho14 := itT b21 ho14
        obtain rfl := Option.some.inj ho14
        exact EX14 fl14 _ _ _ S e_y e_aWorlds e_aInWorld e_aKind e_aSize e_aMarks e_aSeed e_aContents e_aContentMany e_aRow e_aBits e_aLayerSize e_aLayerCame e_aRest e_aRestMany e_aCome e_aRivals e_aGone e_aOrder e_aOffAt e_aIsOff e_aAlone e_aKept fr (lv_sub hl [] rfl)
      · have ho14 := itF b21 ho14
        refine lv_aload_n hx hb dX9_fillFrom_24 rfl (lv_at hl 1 rfl) ?_
        refine q_get hx hb hts in_X9 hown S m_y e_y (C := RX9) (T := TX9) (N := 23) rfl 6 (by decide) rfl (hts (.fieldLink RX9 29 "SieveCabinetModel" "contents" "[J") (by decide +kernel)) dX9_fillFrom_25 ?_
        refine lv_iload_n hx hb dX9_fillFrom_28 rfl (lv_at hl 2 rfl) ?_
        refine lv_sipush (v := (1000 : Int32)) hx hb dX9_fillFrom_29 (by decide) ?_
        refine lv_imul hx hb dX9_fillFrom_32 ?_
        refine lv_iload_n hx hb dX9_fillFrom_33 rfl (lv_at hl 0 rfl) ?_
        refine lv_iadd hx hb dX9_fillFrom_34 ?_
        refine lv_aload_n hx hb dX9_fillFrom_35 rfl (lv_at hl 1 rfl) ?_
        refine q_get hx hb hts in_X9 hown S m_y e_y (C := RX9) (T := TX9) (N := 23) rfl 0 (by decide) rfl (hts (.fieldLink RX9 9 "SieveCabinetModel" "worlds" "[J") (by decide +kernel)) dX9_fillFrom_36 ?_
        refine lv_iload_n hx hb dX9_fillFrom_39 rfl (lv_at hl 3 rfl) ?_
        refine lv_sipush (v := (1000 : Int32)) hx hb dX9_fillFrom_40 (by decide) ?_
        refine lv_imul hx hb dX9_fillFrom_43 ?_
        refine lv_iload_n hx hb dX9_fillFrom_44 rfl (lv_at hl 0 rfl) ?_
        refine lv_iadd hx hb dX9_fillFrom_45 ?_
        obtain ⟨hi46, ho14⟩ := ckx ho14
        refine q_lald hx hb S m_aWorlds e_aWorlds hi46 dX9_fillFrom_46 ?_
        obtain ⟨hi47, ho14⟩ := ckx ho14
        refine k_last hx hb S m_aContents e_aContents hi47 dX9_fillFrom_47 (fun f2 ef2 H locs S => ?_)
        have e_aContents := up_self ef2
        have fr : ∀ b, b ∈ L → b ≠ aContents → b ≠ aContentMany → f2 b = f b := fun b mb nb0 nb1 => (up_ne ef2 nb0 rfl).trans (fr b mb nb0 nb1)
        refine lv_iinc (v := (x3_14 + 1)) (lv' := [(3, .int (x3_14 + 1)), (0, .ref y), (1, .int sq), (2, .int wi)]) hx hb dX9_fillFrom_48 hl (k := 0) rfl rfl (by decide) rfl (fun ls hl => ?_)
        refine lv_goto (tgt := 14) hx hb dX9_fillFrom_51 (by decide) ?_
        have e_y := (up_ne ef2 n_y_aContents e_y)
        have e_aWorlds := (up_ne ef2 n_aWorlds_aContents e_aWorlds)
        have e_aInWorld := (up_ne ef2 n_aInWorld_aContents e_aInWorld)
        have e_aKind := (up_ne ef2 n_aKind_aContents e_aKind)
        have e_aSize := (up_ne ef2 n_aSize_aContents e_aSize)
        have e_aMarks := (up_ne ef2 n_aMarks_aContents e_aMarks)
        have e_aSeed := (up_ne ef2 n_aSeed_aContents e_aSeed)
        have e_aContentMany := (up_ne ef2 n_aContentMany_aContents e_aContentMany)
        have e_aRow := (up_ne ef2 n_aRow_aContents e_aRow)
        have e_aBits := (up_ne ef2 n_aBits_aContents e_aBits)
        have e_aLayerSize := (up_ne ef2 n_aLayerSize_aContents e_aLayerSize)
        have e_aLayerCame := (up_ne ef2 n_aLayerCame_aContents e_aLayerCame)
        have e_aRest := (up_ne ef2 n_aRest_aContents e_aRest)
        have e_aRestMany := (up_ne ef2 n_aRestMany_aContents e_aRestMany)
        have e_aCome := (up_ne ef2 n_aCome_aContents e_aCome)
        have e_aRivals := (up_ne ef2 n_aRivals_aContents e_aRivals)
        have e_aGone := (up_ne ef2 n_aGone_aContents e_aGone)
        have e_aOrder := (up_ne ef2 n_aOrder_aContents e_aOrder)
        have e_aOffAt := (up_ne ef2 n_aOffAt_aContents e_aOffAt)
        have e_aIsOff := (up_ne ef2 n_aIsOff_aContents e_aIsOff)
        have e_aAlone := (up_ne ef2 n_aAlone_aContents e_aAlone)
        have e_aKept := (up_ne ef2 n_aKept_aContents e_aKept)
        exact ih14 (x3_14 + 1) (vp_updL caContents_14 (Int32.toNatClampNeg ((sq * (1000 : Int32)) + x3_14)) (vWorlds (Int32.toNatClampNeg ((wi * (1000 : Int32)) + x3_14)))) f2 _ _ _ ho14 S e_y e_aWorlds e_aInWorld e_aKind e_aSize e_aMarks e_aSeed e_aContents e_aContentMany e_aRow e_aBits e_aLayerSize e_aLayerCame e_aRest e_aRestMany e_aCome e_aRivals e_aGone e_aOrder e_aOffAt e_aIsOff e_aAlone e_aKept fr (lv_sub hl [0, 1, 2, 3] rfl)
  exact LP14 FU (0 : Int32) vContents f1 _ _ _ ho14 S e_y e_aWorlds e_aInWorld e_aKind e_aSize e_aMarks e_aSeed e_aContents e_aContentMany e_aRow e_aBits e_aLayerSize e_aLayerCame e_aRest e_aRestMany e_aCome e_aRivals e_aGone e_aOrder e_aOffAt e_aIsOff e_aAlone e_aKept fr (lv_sub hl [0, 1, 2, 3] rfl)

def mX9_takeOff_L234 (vWorlds : Nat → Int64) (wi : Int32) (by_ : Int32) (cq : Int32) (o159 : Int32) : Nat → Int32 → (Nat → Int32) → Option (Int32 × (Nat → Int32))
  | 0, _, _ => none
  | fu + 1, x8_234, caAlone_234 => if (3 : Int32) ≤ x8_234 then (some (x8_234, caAlone_234)) else (if ix ((wi * (1000 : Int32)) + o159) 8000 = true then ((mX9_mix (vWorlds (Int32.toNatClampNeg ((wi * (1000 : Int32)) + o159))) by_).bind fun z258 => (mX9_solvedPlace z258 x8_234 cq).bind fun z264 => if ix z264 4096 = true then (if ix z264 4096 = true then (mX9_takeOff_L234 vWorlds wi by_ cq o159 fu (x8_234 + 1) (upd caAlone_234 (Int32.toNatClampNeg z264) ((caAlone_234 (Int32.toNatClampNeg z264)) - (1 : Int32)))) else none) else none) else none)
def mX9_takeOff_L159 (vWorlds : Nat → Int64) (wi : Int32) (by_ : Int32) (cq : Int32) (o121 : Int32) (caIsOff_111 : Nat → Int32) : Nat → Int32 → Option (Int32)
  | 0, _ => none
  | fu + 1, x7_159 => if ix x7_159 1000 = true then (if (caIsOff_111 (Int32.toNatClampNeg x7_159)) = 0 then (if ix ((wi * (1000 : Int32)) + x7_159) 8000 = true then ((mX9_mix (vWorlds (Int32.toNatClampNeg ((wi * (1000 : Int32)) + x7_159))) by_).bind fun z183 => if ¬ cq = 0 then ((mX9_solvedPlace z183 (o121 / cq) cq).bind fun z191 => if z191 = o121 then (some x7_159) else (mX9_takeOff_L159 vWorlds wi by_ cq o121 caIsOff_111 fu (x7_159 + 1))) else none) else none) else (mX9_takeOff_L159 vWorlds wi by_ cq o121 caIsOff_111 fu (x7_159 + 1))) else none
def mX9_takeOff_L121 (cq : Int32) (caAlone_111 : Nat → Int32) : Nat → Int32 → Option (Int32)
  | 0, _ => none
  | fu + 1, x6_121 => if ((3 : Int32) * cq) ≤ x6_121 then (some x6_121) else (if ix x6_121 4096 = true then (if (caAlone_111 (Int32.toNatClampNeg x6_121)) = (1 : Int32) then (some x6_121) else (mX9_takeOff_L121 cq caAlone_111 fu (x6_121 + 1))) else none)
def mX9_takeOff_L111 (vWorlds : Nat → Int64) (vInWorld : Nat → Int32) (wi : Int32) (by_ : Int32) (cq : Int32) : Nat → Int32 → (Nat → Int32) → (Nat → Int32) → (Nat → Int32) → (Nat → Int32) → Option ((Int32 × (Nat → Int32) × (Nat → Int32) × (Nat → Int32) × (Nat → Int32)) ⊕ (Int32 × (Nat → Int32) × (Nat → Int32) × (Nat → Int32) × (Nat → Int32)))
  | 0, _, _, _, _, _ => none
  | fu + 1, x5_111, caOrder_111, caOffAt_111, caIsOff_111, caAlone_111 => if (vInWorld (Int32.toNatClampNeg wi)) ≤ x5_111 then (some (.inr (x5_111, caOrder_111, caOffAt_111, caIsOff_111, caAlone_111))) else ((mX9_takeOff_L121 cq caAlone_111 FU (0 : Int32)).bind fun o121 => if o121 = ((3 : Int32) * cq) then (some (.inl ((0 : Int32), caOrder_111, caOffAt_111, caIsOff_111, caAlone_111))) else ((mX9_takeOff_L159 vWorlds wi by_ cq o121 caIsOff_111 FU (0 : Int32)).bind fun o159 => if ix o159 1000 = true then (if ix x5_111 1000 = true then (if ix x5_111 1000 = true then ((mX9_takeOff_L234 vWorlds wi by_ cq o159 FU (0 : Int32) caAlone_111).bind fun o234 => mX9_takeOff_L111 vWorlds vInWorld wi by_ cq fu (x5_111 + 1) (upd caOrder_111 (Int32.toNatClampNeg x5_111) o159) (upd caOffAt_111 (Int32.toNatClampNeg x5_111) o121) (upd caIsOff_111 (Int32.toNatClampNeg o159) (vp_nar .boolean (1 : Int32))) o234.2) else none) else none) else none))
def mX9_takeOff_L73 (cq : Int32) (z65 : Int64) : Nat → Int32 → (Nat → Int32) → Option (Int32 × (Nat → Int32))
  | 0, _, _ => none
  | fu + 1, x8_73, caAlone_73 => if (3 : Int32) ≤ x8_73 then (some (x8_73, caAlone_73)) else ((mX9_solvedPlace z65 x8_73 cq).bind fun z88 => if ix z88 4096 = true then (if ix z88 4096 = true then (mX9_takeOff_L73 cq z65 fu (x8_73 + 1) (upd caAlone_73 (Int32.toNatClampNeg z88) ((caAlone_73 (Int32.toNatClampNeg z88)) + (1 : Int32)))) else none) else none)
def mX9_takeOff_L36 (vWorlds : Nat → Int64) (vInWorld : Nat → Int32) (wi : Int32) (by_ : Int32) (cq : Int32) : Nat → Int32 → (Nat → Int32) → (Nat → Int32) → Option (Int32 × (Nat → Int32) × (Nat → Int32))
  | 0, _, _, _ => none
  | fu + 1, x5_36, caIsOff_36, caAlone_36 => if (vInWorld (Int32.toNatClampNeg wi)) ≤ x5_36 then (some (x5_36, caIsOff_36, caAlone_36)) else (if ix x5_36 1000 = true then (if ix ((wi * (1000 : Int32)) + x5_36) 8000 = true then ((mX9_mix (vWorlds (Int32.toNatClampNeg ((wi * (1000 : Int32)) + x5_36))) by_).bind fun z65 => (mX9_takeOff_L73 cq z65 FU (0 : Int32) caAlone_36).bind fun o73 => mX9_takeOff_L36 vWorlds vInWorld wi by_ cq fu (x5_36 + 1) (upd caIsOff_36 (Int32.toNatClampNeg x5_36) (vp_nar .boolean (0 : Int32))) o73.2) else none) else none)
def mX9_takeOff_L11 (cq : Int32) : Nat → Int32 → (Nat → Int32) → Option (Int32 × (Nat → Int32))
  | 0, _, _ => none
  | fu + 1, x5_11, caAlone_11 => if ((3 : Int32) * cq) ≤ x5_11 then (some (x5_11, caAlone_11)) else (if ix x5_11 4096 = true then (mX9_takeOff_L11 cq fu (x5_11 + 1) (upd caAlone_11 (Int32.toNatClampNeg x5_11) (0 : Int32))) else none)
def mX9_takeOff (vWorlds : Nat → Int64) (vInWorld : Nat → Int32) (vOrder : Nat → Int32) (vOffAt : Nat → Int32) (vIsOff : Nat → Int32) (vAlone : Nat → Int32) (wi : Int32) (by_ : Int32) (cq : Int32) : Option (Int32 × (Nat → Int32) × (Nat → Int32) × (Nat → Int32) × (Nat → Int32)) := if ix wi 8 = true then ((mX9_takeOff_L11 cq FU (0 : Int32) vAlone).bind fun o11 => (mX9_takeOff_L36 vWorlds vInWorld wi by_ cq FU (0 : Int32) vIsOff o11.2).bind fun o36 => (mX9_takeOff_L111 vWorlds vInWorld wi by_ cq FU (0 : Int32) vOrder vOffAt o36.2.1 o36.2.2).bind fun o111 => Sum.elim (fun r_ => some r_) (fun s111 => some ((1 : Int32), s111.2.1, s111.2.2.1, s111.2.2.2.1, s111.2.2.2.2)) o111) else none
set_option maxHeartbeats 4000000 in
set_option maxRecDepth 100000 in
theorem k_X9_takeOff (l : Launch) (D : va_G) (g : Nat → ClassId) {L : List Nat} {f : Nat → va_E} {aAlone aBits aCome aContentMany aContents aGone aInWorld aIsOff aKept aKind aLayerCame aLayerSize aMarks aOffAt aOrder aRest aRestMany aRivals aRow aSeed aSize aWorlds y : Nat} {many : Int32} {vWorlds : Nat → Int64} {vInWorld : Nat → Int32} {vKind : Nat → Int32} {vSize : Nat → Int32} {vMarks : Nat → Int32} {vSeed : Nat → Int32} {vContents : Nat → Int64} {vContentMany : Nat → Int32} {vRow : Nat → Int32} {vBits : Nat → Int32} {vLayerSize : Nat → Int32} {vLayerCame : Nat → Int32} {vRest : Nat → Int64} {vRestMany : Nat → Int32} {vCome : Nat → Int64} {vRivals : Nat → Int64} {vGone : Nat → Int64} {vOrder : Nat → Int32} {vOffAt : Nat → Int32} {vIsOff : Nat → Int32} {vAlone : Nat → Int32} {vKept : Nat → Int32} {wi : Int32} {by_ : Int32} {cq : Int32} {ρ : Nat → Nat × Nat} {z : Int32 × (Nat → Int32) × (Nat → Int32) × (Nat → Int32) × (Nat → Int32)} (m_y : y ∈ L) (e_y : f y = .inr (7, [.ref aWorlds, .ref aInWorld, .ref aKind, .ref aSize, .ref aMarks, .ref aSeed, .ref aContents, .ref aContentMany, .ref aRow, .ref aBits, .ref aLayerSize, .ref aLayerCame, .ref aRest, .ref aRestMany, .int many, .ref aCome, .ref aRivals, .ref aGone, .ref aOrder, .ref aOffAt, .ref aIsOff, .ref aAlone, .ref aKept])) (m_aWorlds : aWorlds ∈ L) (e_aWorlds : f aWorlds = .inl (g 1, 8000, .inr (.inl vWorlds))) (m_aInWorld : aInWorld ∈ L) (e_aInWorld : f aInWorld = .inl (g 0, 8, .inl vInWorld)) (m_aKind : aKind ∈ L) (e_aKind : f aKind = .inl (g 0, 30, .inl vKind)) (m_aSize : aSize ∈ L) (e_aSize : f aSize = .inl (g 0, 30, .inl vSize)) (m_aMarks : aMarks ∈ L) (e_aMarks : f aMarks = .inl (g 0, 30, .inl vMarks)) (m_aSeed : aSeed ∈ L) (e_aSeed : f aSeed = .inl (g 0, 30, .inl vSeed)) (m_aContents : aContents ∈ L) (e_aContents : f aContents = .inl (g 1, 30000, .inr (.inl vContents))) (m_aContentMany : aContentMany ∈ L) (e_aContentMany : f aContentMany = .inl (g 0, 30, .inl vContentMany)) (m_aRow : aRow ∈ L) (e_aRow : f aRow = .inl (g 0, 122880, .inl vRow)) (m_aBits : aBits ∈ L) (e_aBits : f aBits = .inl (g 0, 76800, .inl vBits)) (m_aLayerSize : aLayerSize ∈ L) (e_aLayerSize : f aLayerSize = .inl (g 0, 600, .inl vLayerSize)) (m_aLayerCame : aLayerCame ∈ L) (e_aLayerCame : f aLayerCame = .inl (g 0, 600, .inl vLayerCame)) (m_aRest : aRest ∈ L) (e_aRest : f aRest = .inl (g 1, 30000, .inr (.inl vRest))) (m_aRestMany : aRestMany ∈ L) (e_aRestMany : f aRestMany = .inl (g 0, 30, .inl vRestMany)) (m_aCome : aCome ∈ L) (e_aCome : f aCome = .inl (g 1, 1000, .inr (.inl vCome))) (m_aRivals : aRivals ∈ L) (e_aRivals : f aRivals = .inl (g 1, 1000, .inr (.inl vRivals))) (m_aGone : aGone ∈ L) (e_aGone : f aGone = .inl (g 1, 1000, .inr (.inl vGone))) (m_aOrder : aOrder ∈ L) (e_aOrder : f aOrder = .inl (g 0, 1000, .inl vOrder)) (m_aOffAt : aOffAt ∈ L) (e_aOffAt : f aOffAt = .inl (g 0, 1000, .inl vOffAt)) (m_aIsOff : aIsOff ∈ L) (e_aIsOff : f aIsOff = .inl (g 2, 1000, .inl vIsOff)) (m_aAlone : aAlone ∈ L) (e_aAlone : f aAlone = .inl (g 0, 4096, .inl vAlone)) (m_aKept : aKept ∈ L) (e_aKept : f aKept = .inl (g 0, 4096, .inl vKept))  (r_aOrder : ρ aOrder = (500, 19)) (r_aOffAt : ρ aOffAt = (500, 20)) (r_aIsOff : ρ aIsOff = (500, 21)) (r_aAlone : ρ aAlone = (500, 22)) (r_aKept : ρ aKept = (500, 23))  (hM : mX9_takeOff vWorlds vInWorld vOrder vOffAt vIsOff vAlone wi by_ cq = some z) : cI l yX9_takeOff wsX9_takeOff { frames := 1, cells := 0, slots := 0, locals := 24 } D g [.ref y, .int wi, .int by_, .int cq] L f 0 0 (fun x L1 f1 => x = z.1 ∧ L1 = L ∧ (∀ b, b ∈ L → b ≠ aOrder → b ≠ aOffAt → b ≠ aIsOff → b ≠ aAlone → f1 b = f b) ∧ f1 aOrder = .inl (g 0, 1000, .inl z.2.1) ∧ f1 aOffAt = .inl (g 0, 1000, .inl z.2.2.1) ∧ f1 aIsOff = .inl (g 2, 1000, .inl z.2.2.2.1) ∧ f1 aAlone = .inl (g 0, 4096, .inl z.2.2.2.2)) := by
  refine cI_of (cc := cX9_takeOff) (maxL := 9) (ret := (some .boolean)) (by decide) rfl (Nat.le_of_ble_eq_true rfl) ?_
  intro szz p e s m below meth c hx hb hr hml hts hown hlk hnm S ls hl
  have hl : lv_has ls 9 [(0, .ref y), (1, .int wi), (2, .int by_), (3, .int cq)] := hl
  have in_X9 : ∀ w ∈ wsX90, w ∈ wsX9_takeOff := by decide +kernel
  have n_y_aIsOff : y ≠ aIsOff := ne_ir e_aIsOff e_y
  have n_aWorlds_aIsOff : aWorlds ≠ aIsOff := ne_len e_aIsOff e_aWorlds (by decide)
  have n_aInWorld_aIsOff : aInWorld ≠ aIsOff := ne_len e_aIsOff e_aInWorld (by decide)
  have n_aKind_aIsOff : aKind ≠ aIsOff := ne_len e_aIsOff e_aKind (by decide)
  have n_aSize_aIsOff : aSize ≠ aIsOff := ne_len e_aIsOff e_aSize (by decide)
  have n_aMarks_aIsOff : aMarks ≠ aIsOff := ne_len e_aIsOff e_aMarks (by decide)
  have n_aSeed_aIsOff : aSeed ≠ aIsOff := ne_len e_aIsOff e_aSeed (by decide)
  have n_aContents_aIsOff : aContents ≠ aIsOff := ne_len e_aIsOff e_aContents (by decide)
  have n_aContentMany_aIsOff : aContentMany ≠ aIsOff := ne_len e_aIsOff e_aContentMany (by decide)
  have n_aRow_aIsOff : aRow ≠ aIsOff := ne_len e_aIsOff e_aRow (by decide)
  have n_aBits_aIsOff : aBits ≠ aIsOff := ne_len e_aIsOff e_aBits (by decide)
  have n_aLayerSize_aIsOff : aLayerSize ≠ aIsOff := ne_len e_aIsOff e_aLayerSize (by decide)
  have n_aLayerCame_aIsOff : aLayerCame ≠ aIsOff := ne_len e_aIsOff e_aLayerCame (by decide)
  have n_aRest_aIsOff : aRest ≠ aIsOff := ne_len e_aIsOff e_aRest (by decide)
  have n_aRestMany_aIsOff : aRestMany ≠ aIsOff := ne_len e_aIsOff e_aRestMany (by decide)
  have n_aCome_aIsOff : aCome ≠ aIsOff := ne_01 e_aIsOff e_aCome
  have n_aRivals_aIsOff : aRivals ≠ aIsOff := ne_01 e_aIsOff e_aRivals
  have n_aGone_aIsOff : aGone ≠ aIsOff := ne_01 e_aIsOff e_aGone
  have n_aOrder_aIsOff : aOrder ≠ aIsOff := role_ne r_aIsOff r_aOrder (by decide)
  have n_aOffAt_aIsOff : aOffAt ≠ aIsOff := role_ne r_aIsOff r_aOffAt (by decide)
  have n_aAlone_aIsOff : aAlone ≠ aIsOff := ne_len e_aIsOff e_aAlone (by decide)
  have n_aKept_aIsOff : aKept ≠ aIsOff := ne_len e_aIsOff e_aKept (by decide)
  have n_y_aAlone : y ≠ aAlone := ne_ir e_aAlone e_y
  have n_aWorlds_aAlone : aWorlds ≠ aAlone := ne_len e_aAlone e_aWorlds (by decide)
  have n_aInWorld_aAlone : aInWorld ≠ aAlone := ne_len e_aAlone e_aInWorld (by decide)
  have n_aKind_aAlone : aKind ≠ aAlone := ne_len e_aAlone e_aKind (by decide)
  have n_aSize_aAlone : aSize ≠ aAlone := ne_len e_aAlone e_aSize (by decide)
  have n_aMarks_aAlone : aMarks ≠ aAlone := ne_len e_aAlone e_aMarks (by decide)
  have n_aSeed_aAlone : aSeed ≠ aAlone := ne_len e_aAlone e_aSeed (by decide)
  have n_aContents_aAlone : aContents ≠ aAlone := ne_len e_aAlone e_aContents (by decide)
  have n_aContentMany_aAlone : aContentMany ≠ aAlone := ne_len e_aAlone e_aContentMany (by decide)
  have n_aRow_aAlone : aRow ≠ aAlone := ne_len e_aAlone e_aRow (by decide)
  have n_aBits_aAlone : aBits ≠ aAlone := ne_len e_aAlone e_aBits (by decide)
  have n_aLayerSize_aAlone : aLayerSize ≠ aAlone := ne_len e_aAlone e_aLayerSize (by decide)
  have n_aLayerCame_aAlone : aLayerCame ≠ aAlone := ne_len e_aAlone e_aLayerCame (by decide)
  have n_aRest_aAlone : aRest ≠ aAlone := ne_len e_aAlone e_aRest (by decide)
  have n_aRestMany_aAlone : aRestMany ≠ aAlone := ne_len e_aAlone e_aRestMany (by decide)
  have n_aCome_aAlone : aCome ≠ aAlone := ne_len e_aAlone e_aCome (by decide)
  have n_aRivals_aAlone : aRivals ≠ aAlone := ne_len e_aAlone e_aRivals (by decide)
  have n_aGone_aAlone : aGone ≠ aAlone := ne_len e_aAlone e_aGone (by decide)
  have n_aOrder_aAlone : aOrder ≠ aAlone := ne_len e_aAlone e_aOrder (by decide)
  have n_aOffAt_aAlone : aOffAt ≠ aAlone := ne_len e_aAlone e_aOffAt (by decide)
  have n_aIsOff_aAlone : aIsOff ≠ aAlone := ne_len e_aAlone e_aIsOff (by decide)
  have n_aKept_aAlone : aKept ≠ aAlone := role_ne r_aAlone r_aKept (by decide)
  have n_y_aOrder : y ≠ aOrder := ne_ir e_aOrder e_y
  have n_aOffAt_aOrder : aOffAt ≠ aOrder := role_ne r_aOrder r_aOffAt (by decide)
  have n_y_aOffAt : y ≠ aOffAt := ne_ir e_aOffAt e_y
  have n_aWorlds_aOrder : aWorlds ≠ aOrder := ne_len e_aOrder e_aWorlds (by decide)
  have n_aWorlds_aOffAt : aWorlds ≠ aOffAt := ne_len e_aOffAt e_aWorlds (by decide)
  have n_aInWorld_aOrder : aInWorld ≠ aOrder := ne_len e_aOrder e_aInWorld (by decide)
  have n_aInWorld_aOffAt : aInWorld ≠ aOffAt := ne_len e_aOffAt e_aInWorld (by decide)
  have n_aKind_aOrder : aKind ≠ aOrder := ne_len e_aOrder e_aKind (by decide)
  have n_aKind_aOffAt : aKind ≠ aOffAt := ne_len e_aOffAt e_aKind (by decide)
  have n_aSize_aOrder : aSize ≠ aOrder := ne_len e_aOrder e_aSize (by decide)
  have n_aSize_aOffAt : aSize ≠ aOffAt := ne_len e_aOffAt e_aSize (by decide)
  have n_aMarks_aOrder : aMarks ≠ aOrder := ne_len e_aOrder e_aMarks (by decide)
  have n_aMarks_aOffAt : aMarks ≠ aOffAt := ne_len e_aOffAt e_aMarks (by decide)
  have n_aSeed_aOrder : aSeed ≠ aOrder := ne_len e_aOrder e_aSeed (by decide)
  have n_aSeed_aOffAt : aSeed ≠ aOffAt := ne_len e_aOffAt e_aSeed (by decide)
  have n_aContents_aOrder : aContents ≠ aOrder := ne_len e_aOrder e_aContents (by decide)
  have n_aContents_aOffAt : aContents ≠ aOffAt := ne_len e_aOffAt e_aContents (by decide)
  have n_aContentMany_aOrder : aContentMany ≠ aOrder := ne_len e_aOrder e_aContentMany (by decide)
  have n_aContentMany_aOffAt : aContentMany ≠ aOffAt := ne_len e_aOffAt e_aContentMany (by decide)
  have n_aRow_aOrder : aRow ≠ aOrder := ne_len e_aOrder e_aRow (by decide)
  have n_aRow_aOffAt : aRow ≠ aOffAt := ne_len e_aOffAt e_aRow (by decide)
  have n_aBits_aOrder : aBits ≠ aOrder := ne_len e_aOrder e_aBits (by decide)
  have n_aBits_aOffAt : aBits ≠ aOffAt := ne_len e_aOffAt e_aBits (by decide)
  have n_aLayerSize_aOrder : aLayerSize ≠ aOrder := ne_len e_aOrder e_aLayerSize (by decide)
  have n_aLayerSize_aOffAt : aLayerSize ≠ aOffAt := ne_len e_aOffAt e_aLayerSize (by decide)
  have n_aLayerCame_aOrder : aLayerCame ≠ aOrder := ne_len e_aOrder e_aLayerCame (by decide)
  have n_aLayerCame_aOffAt : aLayerCame ≠ aOffAt := ne_len e_aOffAt e_aLayerCame (by decide)
  have n_aRest_aOrder : aRest ≠ aOrder := ne_len e_aOrder e_aRest (by decide)
  have n_aRest_aOffAt : aRest ≠ aOffAt := ne_len e_aOffAt e_aRest (by decide)
  have n_aRestMany_aOrder : aRestMany ≠ aOrder := ne_len e_aOrder e_aRestMany (by decide)
  have n_aRestMany_aOffAt : aRestMany ≠ aOffAt := ne_len e_aOffAt e_aRestMany (by decide)
  have n_aCome_aOrder : aCome ≠ aOrder := ne_01 e_aOrder e_aCome
  have n_aCome_aOffAt : aCome ≠ aOffAt := ne_01 e_aOffAt e_aCome
  have n_aRivals_aOrder : aRivals ≠ aOrder := ne_01 e_aOrder e_aRivals
  have n_aRivals_aOffAt : aRivals ≠ aOffAt := ne_01 e_aOffAt e_aRivals
  have n_aGone_aOrder : aGone ≠ aOrder := ne_01 e_aOrder e_aGone
  have n_aGone_aOffAt : aGone ≠ aOffAt := ne_01 e_aOffAt e_aGone
  have n_aOrder_aOffAt : aOrder ≠ aOffAt := role_ne r_aOffAt r_aOrder (by decide)
  have n_aIsOff_aOrder : aIsOff ≠ aOrder := role_ne r_aOrder r_aIsOff (by decide)
  have n_aIsOff_aOffAt : aIsOff ≠ aOffAt := role_ne r_aOffAt r_aIsOff (by decide)
  have n_aAlone_aOrder : aAlone ≠ aOrder := ne_len e_aOrder e_aAlone (by decide)
  have n_aAlone_aOffAt : aAlone ≠ aOffAt := ne_len e_aOffAt e_aAlone (by decide)
  have n_aKept_aOrder : aKept ≠ aOrder := ne_len e_aOrder e_aKept (by decide)
  have n_aKept_aOffAt : aKept ≠ aOffAt := ne_len e_aOffAt e_aKept (by decide)
  have fr : ∀ b, b ∈ L → b ≠ aOrder → b ≠ aOffAt → b ≠ aIsOff → b ≠ aAlone → f b = f b := fun _ _ _ _ _ _ => rfl
  unfold mX9_takeOff at hM
  refine W_gen (fun QQ hQQ => ?_)
  refine lv_aload_n hx hb dX9_takeOff_0 rfl (lv_at hl 0 rfl) ?_
  refine q_get hx hb hts in_X9 hown S m_y e_y (C := RX9) (T := TX9) (N := 23) rfl 1 (by decide) rfl (hts (.fieldLink RX9 13 "SieveCabinetModel" "inWorld" "[I") (by decide +kernel)) dX9_takeOff_1 ?_
  refine lv_iload_n hx hb dX9_takeOff_4 rfl (lv_at hl 1 rfl) ?_
  obtain ⟨hi5, hM⟩ := ckx hM
  refine q_iald hx hb S m_aInWorld e_aInWorld hi5 dX9_takeOff_5 ?_
  refine lv_istore (lv' := [(4, .int (vInWorld (Int32.toNatClampNeg wi))), (0, .ref y), (1, .int wi), (2, .int by_), (3, .int cq)]) hx hb dX9_takeOff_6 hl (by decide) rfl (fun ls hl => ?_)
  refine lv_iconst (v := (0 : Int32)) hx hb dX9_takeOff_8 (by decide) ?_
  refine lv_istore (lv' := [(5, .int (0 : Int32)), (4, .int (vInWorld (Int32.toNatClampNeg wi))), (0, .ref y), (1, .int wi), (2, .int by_), (3, .int cq)]) hx hb dX9_takeOff_9 hl (by decide) rfl (fun ls hl => ?_)
  obtain ⟨o11, ho11, hM⟩ := bind_some hM
  have EX11 : ∀ (fl11 : Nat → va_E) (H : Heap) (locs : List Loc) (ls : Array Slot), PS D g (va_A (va_pl L f) szz) s.heap s L fl11 H locs → fl11 y = .inr (7, [.ref aWorlds, .ref aInWorld, .ref aKind, .ref aSize, .ref aMarks, .ref aSeed, .ref aContents, .ref aContentMany, .ref aRow, .ref aBits, .ref aLayerSize, .ref aLayerCame, .ref aRest, .ref aRestMany, .int many, .ref aCome, .ref aRivals, .ref aGone, .ref aOrder, .ref aOffAt, .ref aIsOff, .ref aAlone, .ref aKept]) → fl11 aWorlds = .inl (g 1, 8000, .inr (.inl vWorlds)) → fl11 aInWorld = .inl (g 0, 8, .inl vInWorld) → fl11 aKind = .inl (g 0, 30, .inl vKind) → fl11 aSize = .inl (g 0, 30, .inl vSize) → fl11 aMarks = .inl (g 0, 30, .inl vMarks) → fl11 aSeed = .inl (g 0, 30, .inl vSeed) → fl11 aContents = .inl (g 1, 30000, .inr (.inl vContents)) → fl11 aContentMany = .inl (g 0, 30, .inl vContentMany) → fl11 aRow = .inl (g 0, 122880, .inl vRow) → fl11 aBits = .inl (g 0, 76800, .inl vBits) → fl11 aLayerSize = .inl (g 0, 600, .inl vLayerSize) → fl11 aLayerCame = .inl (g 0, 600, .inl vLayerCame) → fl11 aRest = .inl (g 1, 30000, .inr (.inl vRest)) → fl11 aRestMany = .inl (g 0, 30, .inl vRestMany) → fl11 aCome = .inl (g 1, 1000, .inr (.inl vCome)) → fl11 aRivals = .inl (g 1, 1000, .inr (.inl vRivals)) → fl11 aGone = .inl (g 1, 1000, .inr (.inl vGone)) → fl11 aOrder = .inl (g 0, 1000, .inl vOrder) → fl11 aOffAt = .inl (g 0, 1000, .inl vOffAt) → fl11 aIsOff = .inl (g 2, 1000, .inl vIsOff) → fl11 aAlone = .inl (g 0, 4096, .inl o11.2) → fl11 aKept = .inl (g 0, 4096, .inl vKept) → (∀ b, b ∈ L → b ≠ aOrder → b ≠ aOffAt → b ≠ aIsOff → b ≠ aAlone → fl11 b = f b) → lv_has ls 9 [(4, .int (vInWorld (Int32.toNatClampNeg wi))), (0, .ref y), (1, .int wi), (2, .int by_), (3, .int cq)] → W p l e { frames := 1, cells := 0, slots := 0, locals := 24 } s m [.ref y, .int wi, .int by_, .int cq].toArray below meth c H locs 0 0 QQ (F0 m 33 ls []) := by
    intro fl11 H locs ls S e_y e_aWorlds e_aInWorld e_aKind e_aSize e_aMarks e_aSeed e_aContents e_aContentMany e_aRow e_aBits e_aLayerSize e_aLayerCame e_aRest e_aRestMany e_aCome e_aRivals e_aGone e_aOrder e_aOffAt e_aIsOff e_aAlone e_aKept fr hl
    refine lv_iconst (v := (0 : Int32)) hx hb dX9_takeOff_33 (by decide) ?_
    refine lv_istore (lv' := [(5, .int (0 : Int32)), (4, .int (vInWorld (Int32.toNatClampNeg wi))), (0, .ref y), (1, .int wi), (2, .int by_), (3, .int cq)]) hx hb dX9_takeOff_34 hl (by decide) rfl (fun ls hl => ?_)
    obtain ⟨o36, ho36, hM⟩ := bind_some hM
    have EX36 : ∀ (fl36 : Nat → va_E) (H : Heap) (locs : List Loc) (ls : Array Slot), PS D g (va_A (va_pl L f) szz) s.heap s L fl36 H locs → fl36 y = .inr (7, [.ref aWorlds, .ref aInWorld, .ref aKind, .ref aSize, .ref aMarks, .ref aSeed, .ref aContents, .ref aContentMany, .ref aRow, .ref aBits, .ref aLayerSize, .ref aLayerCame, .ref aRest, .ref aRestMany, .int many, .ref aCome, .ref aRivals, .ref aGone, .ref aOrder, .ref aOffAt, .ref aIsOff, .ref aAlone, .ref aKept]) → fl36 aWorlds = .inl (g 1, 8000, .inr (.inl vWorlds)) → fl36 aInWorld = .inl (g 0, 8, .inl vInWorld) → fl36 aKind = .inl (g 0, 30, .inl vKind) → fl36 aSize = .inl (g 0, 30, .inl vSize) → fl36 aMarks = .inl (g 0, 30, .inl vMarks) → fl36 aSeed = .inl (g 0, 30, .inl vSeed) → fl36 aContents = .inl (g 1, 30000, .inr (.inl vContents)) → fl36 aContentMany = .inl (g 0, 30, .inl vContentMany) → fl36 aRow = .inl (g 0, 122880, .inl vRow) → fl36 aBits = .inl (g 0, 76800, .inl vBits) → fl36 aLayerSize = .inl (g 0, 600, .inl vLayerSize) → fl36 aLayerCame = .inl (g 0, 600, .inl vLayerCame) → fl36 aRest = .inl (g 1, 30000, .inr (.inl vRest)) → fl36 aRestMany = .inl (g 0, 30, .inl vRestMany) → fl36 aCome = .inl (g 1, 1000, .inr (.inl vCome)) → fl36 aRivals = .inl (g 1, 1000, .inr (.inl vRivals)) → fl36 aGone = .inl (g 1, 1000, .inr (.inl vGone)) → fl36 aOrder = .inl (g 0, 1000, .inl vOrder) → fl36 aOffAt = .inl (g 0, 1000, .inl vOffAt) → fl36 aIsOff = .inl (g 2, 1000, .inl o36.2.1) → fl36 aAlone = .inl (g 0, 4096, .inl o36.2.2) → fl36 aKept = .inl (g 0, 4096, .inl vKept) → (∀ b, b ∈ L → b ≠ aOrder → b ≠ aOffAt → b ≠ aIsOff → b ≠ aAlone → fl36 b = f b) → lv_has ls 9 [(4, .int (vInWorld (Int32.toNatClampNeg wi))), (0, .ref y), (1, .int wi), (2, .int by_), (3, .int cq)] → W p l e { frames := 1, cells := 0, slots := 0, locals := 24 } s m [.ref y, .int wi, .int by_, .int cq].toArray below meth c H locs 0 0 QQ (F0 m 108 ls []) := by
      intro fl36 H locs ls S e_y e_aWorlds e_aInWorld e_aKind e_aSize e_aMarks e_aSeed e_aContents e_aContentMany e_aRow e_aBits e_aLayerSize e_aLayerCame e_aRest e_aRestMany e_aCome e_aRivals e_aGone e_aOrder e_aOffAt e_aIsOff e_aAlone e_aKept fr hl
      refine lv_iconst (v := (0 : Int32)) hx hb dX9_takeOff_108 (by decide) ?_
      refine lv_istore (lv' := [(5, .int (0 : Int32)), (4, .int (vInWorld (Int32.toNatClampNeg wi))), (0, .ref y), (1, .int wi), (2, .int by_), (3, .int cq)]) hx hb dX9_takeOff_109 hl (by decide) rfl (fun ls hl => ?_)
      obtain ⟨o111, ho111, hM⟩ := bind_some hM
      have EX111 : ∀ (s111 : Int32 × (Nat → Int32) × (Nat → Int32) × (Nat → Int32) × (Nat → Int32)), o111 = .inr s111 → ∀ (fl111 : Nat → va_E) (H : Heap) (locs : List Loc) (ls : Array Slot), PS D g (va_A (va_pl L f) szz) s.heap s L fl111 H locs → fl111 y = .inr (7, [.ref aWorlds, .ref aInWorld, .ref aKind, .ref aSize, .ref aMarks, .ref aSeed, .ref aContents, .ref aContentMany, .ref aRow, .ref aBits, .ref aLayerSize, .ref aLayerCame, .ref aRest, .ref aRestMany, .int many, .ref aCome, .ref aRivals, .ref aGone, .ref aOrder, .ref aOffAt, .ref aIsOff, .ref aAlone, .ref aKept]) → fl111 aWorlds = .inl (g 1, 8000, .inr (.inl vWorlds)) → fl111 aInWorld = .inl (g 0, 8, .inl vInWorld) → fl111 aKind = .inl (g 0, 30, .inl vKind) → fl111 aSize = .inl (g 0, 30, .inl vSize) → fl111 aMarks = .inl (g 0, 30, .inl vMarks) → fl111 aSeed = .inl (g 0, 30, .inl vSeed) → fl111 aContents = .inl (g 1, 30000, .inr (.inl vContents)) → fl111 aContentMany = .inl (g 0, 30, .inl vContentMany) → fl111 aRow = .inl (g 0, 122880, .inl vRow) → fl111 aBits = .inl (g 0, 76800, .inl vBits) → fl111 aLayerSize = .inl (g 0, 600, .inl vLayerSize) → fl111 aLayerCame = .inl (g 0, 600, .inl vLayerCame) → fl111 aRest = .inl (g 1, 30000, .inr (.inl vRest)) → fl111 aRestMany = .inl (g 0, 30, .inl vRestMany) → fl111 aCome = .inl (g 1, 1000, .inr (.inl vCome)) → fl111 aRivals = .inl (g 1, 1000, .inr (.inl vRivals)) → fl111 aGone = .inl (g 1, 1000, .inr (.inl vGone)) → fl111 aOrder = .inl (g 0, 1000, .inl s111.2.1) → fl111 aOffAt = .inl (g 0, 1000, .inl s111.2.2.1) → fl111 aIsOff = .inl (g 2, 1000, .inl s111.2.2.2.1) → fl111 aAlone = .inl (g 0, 4096, .inl s111.2.2.2.2) → fl111 aKept = .inl (g 0, 4096, .inl vKept) → (∀ b, b ∈ L → b ≠ aOrder → b ≠ aOffAt → b ≠ aIsOff → b ≠ aAlone → fl111 b = f b) → lv_has ls 9 [] → W p l e { frames := 1, cells := 0, slots := 0, locals := 24 } s m [.ref y, .int wi, .int by_, .int cq].toArray below meth c H locs 0 0 QQ (F0 m 284 ls []) := by
        intro s111 eo111
        rw [eo111] at hM
        simp only [Sum.elim_inr] at hM
        intro fl111 H locs ls S e_y e_aWorlds e_aInWorld e_aKind e_aSize e_aMarks e_aSeed e_aContents e_aContentMany e_aRow e_aBits e_aLayerSize e_aLayerCame e_aRest e_aRestMany e_aCome e_aRivals e_aGone e_aOrder e_aOffAt e_aIsOff e_aAlone e_aKept fr hl
        refine lv_iconst (v := (1 : Int32)) hx hb dX9_takeOff_284 (by decide) ?_
        subst hQQ
        exact q_retz (post := fun x L1 f1 => x = z.1 ∧ L1 = L ∧ (∀ b, b ∈ L → b ≠ aOrder → b ≠ aOffAt → b ≠ aIsOff → b ≠ aAlone → f1 b = f b) ∧ f1 aOrder = .inl (g 0, 1000, .inl z.2.1) ∧ f1 aOffAt = .inl (g 0, 1000, .inl z.2.2.1) ∧ f1 aIsOff = .inl (g 2, 1000, .inl z.2.2.2.1) ∧ f1 aAlone = .inl (g 0, 4096, .inl z.2.2.2.2)) hx hb hr hlk S dX9_takeOff_285 (by decide) (by decide) (by decide) (by have hz := Option.some.inj hM; subst hz; exact ⟨rfl, rfl, fr, e_aOrder, e_aOffAt, e_aIsOff, e_aAlone⟩)
      have LP111 : ∀ (fu : Nat) (x5_111 : Int32) (caOrder_111 : Nat → Int32) (caOffAt_111 : Nat → Int32) (caIsOff_111 : Nat → Int32) (caAlone_111 : Nat → Int32) (fl111 : Nat → va_E) (H : Heap) (locs : List Loc) (ls : Array Slot), (mX9_takeOff_L111 vWorlds vInWorld wi by_ cq) fu x5_111 caOrder_111 caOffAt_111 caIsOff_111 caAlone_111 = some o111 → PS D g (va_A (va_pl L f) szz) s.heap s L fl111 H locs → fl111 y = .inr (7, [.ref aWorlds, .ref aInWorld, .ref aKind, .ref aSize, .ref aMarks, .ref aSeed, .ref aContents, .ref aContentMany, .ref aRow, .ref aBits, .ref aLayerSize, .ref aLayerCame, .ref aRest, .ref aRestMany, .int many, .ref aCome, .ref aRivals, .ref aGone, .ref aOrder, .ref aOffAt, .ref aIsOff, .ref aAlone, .ref aKept]) → fl111 aWorlds = .inl (g 1, 8000, .inr (.inl vWorlds)) → fl111 aInWorld = .inl (g 0, 8, .inl vInWorld) → fl111 aKind = .inl (g 0, 30, .inl vKind) → fl111 aSize = .inl (g 0, 30, .inl vSize) → fl111 aMarks = .inl (g 0, 30, .inl vMarks) → fl111 aSeed = .inl (g 0, 30, .inl vSeed) → fl111 aContents = .inl (g 1, 30000, .inr (.inl vContents)) → fl111 aContentMany = .inl (g 0, 30, .inl vContentMany) → fl111 aRow = .inl (g 0, 122880, .inl vRow) → fl111 aBits = .inl (g 0, 76800, .inl vBits) → fl111 aLayerSize = .inl (g 0, 600, .inl vLayerSize) → fl111 aLayerCame = .inl (g 0, 600, .inl vLayerCame) → fl111 aRest = .inl (g 1, 30000, .inr (.inl vRest)) → fl111 aRestMany = .inl (g 0, 30, .inl vRestMany) → fl111 aCome = .inl (g 1, 1000, .inr (.inl vCome)) → fl111 aRivals = .inl (g 1, 1000, .inr (.inl vRivals)) → fl111 aGone = .inl (g 1, 1000, .inr (.inl vGone)) → fl111 aOrder = .inl (g 0, 1000, .inl caOrder_111) → fl111 aOffAt = .inl (g 0, 1000, .inl caOffAt_111) → fl111 aIsOff = .inl (g 2, 1000, .inl caIsOff_111) → fl111 aAlone = .inl (g 0, 4096, .inl caAlone_111) → fl111 aKept = .inl (g 0, 4096, .inl vKept) → (∀ b, b ∈ L → b ≠ aOrder → b ≠ aOffAt → b ≠ aIsOff → b ≠ aAlone → fl111 b = f b) → lv_has ls 9 [(5, .int x5_111), (4, .int (vInWorld (Int32.toNatClampNeg wi))), (0, .ref y), (1, .int wi), (2, .int by_), (3, .int cq)] → W p l e { frames := 1, cells := 0, slots := 0, locals := 24 } s m [.ref y, .int wi, .int by_, .int cq].toArray below meth c H locs 0 0 QQ (F0 m 111 ls []) := by
        intro fu
        induction fu with
        | zero => intro x5_111 caOrder_111 caOffAt_111 caIsOff_111 caAlone_111 fl111 H locs ls ho111 S e_y e_aWorlds e_aInWorld e_aKind e_aSize e_aMarks e_aSeed e_aContents e_aContentMany e_aRow e_aBits e_aLayerSize e_aLayerCame e_aRest e_aRestMany e_aCome e_aRivals e_aGone e_aOrder e_aOffAt e_aIsOff e_aAlone e_aKept fr hl; exact no_some ho111
        | succ fu ih111 =>
          intro x5_111 caOrder_111 caOffAt_111 caIsOff_111 caAlone_111 fl111 H locs ls ho111 S e_y e_aWorlds e_aInWorld e_aKind e_aSize e_aMarks e_aSeed e_aContents e_aContentMany e_aRow e_aBits e_aLayerSize e_aLayerCame e_aRest e_aRestMany e_aCome e_aRivals e_aGone e_aOrder e_aOffAt e_aIsOff e_aAlone e_aKept fr hl
          rw [mX9_takeOff_L111] at ho111
          refine lv_iload hx hb dX9_takeOff_111 (lv_at hl 0 rfl) ?_
          refine lv_iload hx hb dX9_takeOff_113 (lv_at hl 1 rfl) ?_
          refine lv_icmp_ge (tgt := 284) hx hb dX9_takeOff_115 (by decide) (fun b115 => ?_) (fun b115 => ?_)
          · have ho111 := itT b115 ho111
            obtain rfl := Option.some.inj ho111
            exact EX111 _ rfl fl111 _ _ _ S e_y e_aWorlds e_aInWorld e_aKind e_aSize e_aMarks e_aSeed e_aContents e_aContentMany e_aRow e_aBits e_aLayerSize e_aLayerCame e_aRest e_aRestMany e_aCome e_aRivals e_aGone e_aOrder e_aOffAt e_aIsOff e_aAlone e_aKept fr (lv_sub hl [] rfl)
          · have ho111 := itF b115 ho111
            refine lv_iconst (v := (0 : Int32)) hx hb dX9_takeOff_118 (by decide) ?_
            refine lv_istore (lv' := [(6, .int (0 : Int32)), (5, .int x5_111), (4, .int (vInWorld (Int32.toNatClampNeg wi))), (0, .ref y), (1, .int wi), (2, .int by_), (3, .int cq)]) hx hb dX9_takeOff_119 hl (by decide) rfl (fun ls hl => ?_)
            obtain ⟨o121, ho121, ho111⟩ := bind_some ho111
            have EX121 : ∀ (H : Heap) (locs : List Loc) (ls : Array Slot), PS D g (va_A (va_pl L f) szz) s.heap s L fl111 H locs → lv_has ls 9 [(6, .int o121), (5, .int x5_111), (4, .int (vInWorld (Int32.toNatClampNeg wi))), (0, .ref y), (1, .int wi), (2, .int by_), (3, .int cq)] → W p l e { frames := 1, cells := 0, slots := 0, locals := 24 } s m [.ref y, .int wi, .int by_, .int cq].toArray below meth c H locs 0 0 QQ (F0 m 146 ls []) := by
              intro H locs ls S hl
              refine lv_iload hx hb dX9_takeOff_146 (lv_at hl 0 rfl) ?_
              refine lv_iconst (v := (3 : Int32)) hx hb dX9_takeOff_148 (by decide) ?_
              refine lv_iload_n hx hb dX9_takeOff_149 rfl (lv_at hl 6 rfl) ?_
              refine lv_imul hx hb dX9_takeOff_150 ?_
              refine lv_icmp_ne (tgt := 156) hx hb dX9_takeOff_151 (by decide) (fun b151 => ?_) (fun b151 => ?_)
              · have ho111 := itF b151 ho111
                refine lv_iconst (v := (0 : Int32)) hx hb dX9_takeOff_156 (by decide) ?_
                refine lv_istore (lv' := [(7, .int (0 : Int32)), (6, .int o121), (5, .int x5_111), (4, .int (vInWorld (Int32.toNatClampNeg wi))), (0, .ref y), (1, .int wi), (2, .int by_), (3, .int cq)]) hx hb dX9_takeOff_157 hl (by decide) rfl (fun ls hl => ?_)
                obtain ⟨o159, ho159, ho111⟩ := bind_some ho111
                have EX159 : ∀ (H : Heap) (locs : List Loc) (ls : Array Slot), PS D g (va_A (va_pl L f) szz) s.heap s L fl111 H locs → lv_has ls 9 [(7, .int o159), (6, .int o121), (5, .int x5_111), (4, .int (vInWorld (Int32.toNatClampNeg wi))), (0, .ref y), (1, .int wi), (2, .int by_), (3, .int cq)] → W p l e { frames := 1, cells := 0, slots := 0, locals := 24 } s m [.ref y, .int wi, .int by_, .int cq].toArray below meth c H locs 0 0 QQ (F0 m 205 ls []) := by
                  intro H locs ls S hl
                  refine lv_aload_n hx hb dX9_takeOff_205 rfl (lv_at hl 4 rfl) ?_
                  refine q_get hx hb hts in_X9 hown S m_y e_y (C := RX9) (T := TX9) (N := 23) rfl 20 (by decide) rfl (hts (.fieldLink RX9 70 "SieveCabinetModel" "isOff" "[Z") (by decide +kernel)) dX9_takeOff_206 ?_
                  refine lv_iload hx hb dX9_takeOff_209 (lv_at hl 0 rfl) ?_
                  refine lv_iconst (v := (1 : Int32)) hx hb dX9_takeOff_211 (by decide) ?_
                  obtain ⟨hi212, ho111⟩ := ckx ho111
                  refine k_zast hx hb S m_aIsOff e_aIsOff hi212 dX9_takeOff_212 (fun f1 ef1 H locs S => ?_)
                  have e_aIsOff := up_self ef1
                  have fr : ∀ b, b ∈ L → b ≠ aOrder → b ≠ aOffAt → b ≠ aIsOff → b ≠ aAlone → f1 b = f b := fun b mb nb0 nb1 nb2 nb3 => (up_ne ef1 nb2 rfl).trans (fr b mb nb0 nb1 nb2 nb3)
                  refine lv_aload_n hx hb dX9_takeOff_213 rfl (lv_at hl 4 rfl) ?_
                  have e_y := (up_ne ef1 n_y_aIsOff e_y)
                  refine q_get hx hb hts in_X9 hown S m_y e_y (C := RX9) (T := TX9) (N := 23) rfl 18 (by decide) rfl (hts (.fieldLink RX9 64 "SieveCabinetModel" "order" "[I") (by decide +kernel)) dX9_takeOff_214 ?_
                  refine lv_iload hx hb dX9_takeOff_217 (lv_at hl 2 rfl) ?_
                  refine lv_iload hx hb dX9_takeOff_219 (lv_at hl 0 rfl) ?_
                  obtain ⟨hi221, ho111⟩ := ckx ho111
                  have e_aOrder := (up_ne ef1 n_aOrder_aIsOff e_aOrder)
                  refine k_iast hx hb S m_aOrder e_aOrder hi221 dX9_takeOff_221 (fun f2 ef2 H locs S => ?_)
                  have e_aOrder := up_self ef2
                  have fr : ∀ b, b ∈ L → b ≠ aOrder → b ≠ aOffAt → b ≠ aIsOff → b ≠ aAlone → f2 b = f b := fun b mb nb0 nb1 nb2 nb3 => (up_ne ef2 nb0 rfl).trans (fr b mb nb0 nb1 nb2 nb3)
                  refine lv_aload_n hx hb dX9_takeOff_222 rfl (lv_at hl 4 rfl) ?_
                  have e_y := (up_ne ef2 n_y_aOrder e_y)
                  refine q_get hx hb hts in_X9 hown S m_y e_y (C := RX9) (T := TX9) (N := 23) rfl 19 (by decide) rfl (hts (.fieldLink RX9 67 "SieveCabinetModel" "offAt" "[I") (by decide +kernel)) dX9_takeOff_223 ?_
                  refine lv_iload hx hb dX9_takeOff_226 (lv_at hl 2 rfl) ?_
                  refine lv_iload hx hb dX9_takeOff_228 (lv_at hl 1 rfl) ?_
                  obtain ⟨hi230, ho111⟩ := ckx ho111
                  have e_aOffAt := (up_ne ef2 n_aOffAt_aOrder (up_ne ef1 n_aOffAt_aIsOff e_aOffAt))
                  refine k_iast hx hb S m_aOffAt e_aOffAt hi230 dX9_takeOff_230 (fun f3 ef3 H locs S => ?_)
                  have e_aOffAt := up_self ef3
                  have fr : ∀ b, b ∈ L → b ≠ aOrder → b ≠ aOffAt → b ≠ aIsOff → b ≠ aAlone → f3 b = f b := fun b mb nb0 nb1 nb2 nb3 => (up_ne ef3 nb1 rfl).trans (fr b mb nb0 nb1 nb2 nb3)
                  refine lv_iconst (v := (0 : Int32)) hx hb dX9_takeOff_231 (by decide) ?_
                  refine lv_istore (lv' := [(8, .int (0 : Int32)), (7, .int o159), (6, .int o121), (5, .int x5_111), (4, .int (vInWorld (Int32.toNatClampNeg wi))), (0, .ref y), (1, .int wi), (2, .int by_), (3, .int cq)]) hx hb dX9_takeOff_232 hl (by decide) rfl (fun ls hl => ?_)
                  have e_y := (up_ne ef3 n_y_aOffAt e_y)
                  have e_aWorlds := (up_ne ef3 n_aWorlds_aOffAt (up_ne ef2 n_aWorlds_aOrder (up_ne ef1 n_aWorlds_aIsOff e_aWorlds)))
                  have e_aInWorld := (up_ne ef3 n_aInWorld_aOffAt (up_ne ef2 n_aInWorld_aOrder (up_ne ef1 n_aInWorld_aIsOff e_aInWorld)))
                  have e_aKind := (up_ne ef3 n_aKind_aOffAt (up_ne ef2 n_aKind_aOrder (up_ne ef1 n_aKind_aIsOff e_aKind)))
                  have e_aSize := (up_ne ef3 n_aSize_aOffAt (up_ne ef2 n_aSize_aOrder (up_ne ef1 n_aSize_aIsOff e_aSize)))
                  have e_aMarks := (up_ne ef3 n_aMarks_aOffAt (up_ne ef2 n_aMarks_aOrder (up_ne ef1 n_aMarks_aIsOff e_aMarks)))
                  have e_aSeed := (up_ne ef3 n_aSeed_aOffAt (up_ne ef2 n_aSeed_aOrder (up_ne ef1 n_aSeed_aIsOff e_aSeed)))
                  have e_aContents := (up_ne ef3 n_aContents_aOffAt (up_ne ef2 n_aContents_aOrder (up_ne ef1 n_aContents_aIsOff e_aContents)))
                  have e_aContentMany := (up_ne ef3 n_aContentMany_aOffAt (up_ne ef2 n_aContentMany_aOrder (up_ne ef1 n_aContentMany_aIsOff e_aContentMany)))
                  have e_aRow := (up_ne ef3 n_aRow_aOffAt (up_ne ef2 n_aRow_aOrder (up_ne ef1 n_aRow_aIsOff e_aRow)))
                  have e_aBits := (up_ne ef3 n_aBits_aOffAt (up_ne ef2 n_aBits_aOrder (up_ne ef1 n_aBits_aIsOff e_aBits)))
                  have e_aLayerSize := (up_ne ef3 n_aLayerSize_aOffAt (up_ne ef2 n_aLayerSize_aOrder (up_ne ef1 n_aLayerSize_aIsOff e_aLayerSize)))
                  have e_aLayerCame := (up_ne ef3 n_aLayerCame_aOffAt (up_ne ef2 n_aLayerCame_aOrder (up_ne ef1 n_aLayerCame_aIsOff e_aLayerCame)))
                  have e_aRest := (up_ne ef3 n_aRest_aOffAt (up_ne ef2 n_aRest_aOrder (up_ne ef1 n_aRest_aIsOff e_aRest)))
                  have e_aRestMany := (up_ne ef3 n_aRestMany_aOffAt (up_ne ef2 n_aRestMany_aOrder (up_ne ef1 n_aRestMany_aIsOff e_aRestMany)))
                  have e_aCome := (up_ne ef3 n_aCome_aOffAt (up_ne ef2 n_aCome_aOrder (up_ne ef1 n_aCome_aIsOff e_aCome)))
                  have e_aRivals := (up_ne ef3 n_aRivals_aOffAt (up_ne ef2 n_aRivals_aOrder (up_ne ef1 n_aRivals_aIsOff e_aRivals)))
                  have e_aGone := (up_ne ef3 n_aGone_aOffAt (up_ne ef2 n_aGone_aOrder (up_ne ef1 n_aGone_aIsOff e_aGone)))
                  have e_aOrder := (up_ne ef3 n_aOrder_aOffAt e_aOrder)
                  have e_aIsOff := (up_ne ef3 n_aIsOff_aOffAt (up_ne ef2 n_aIsOff_aOrder e_aIsOff))
                  have e_aAlone := (up_ne ef3 n_aAlone_aOffAt (up_ne ef2 n_aAlone_aOrder (up_ne ef1 n_aAlone_aIsOff e_aAlone)))
                  have e_aKept := (up_ne ef3 n_aKept_aOffAt (up_ne ef2 n_aKept_aOrder (up_ne ef1 n_aKept_aIsOff e_aKept)))
                  obtain ⟨o234, ho234, ho111⟩ := bind_some ho111
                  have EX234 : ∀ (fl234 : Nat → va_E) (H : Heap) (locs : List Loc) (ls : Array Slot), PS D g (va_A (va_pl L f) szz) s.heap s L fl234 H locs → fl234 y = .inr (7, [.ref aWorlds, .ref aInWorld, .ref aKind, .ref aSize, .ref aMarks, .ref aSeed, .ref aContents, .ref aContentMany, .ref aRow, .ref aBits, .ref aLayerSize, .ref aLayerCame, .ref aRest, .ref aRestMany, .int many, .ref aCome, .ref aRivals, .ref aGone, .ref aOrder, .ref aOffAt, .ref aIsOff, .ref aAlone, .ref aKept]) → fl234 aWorlds = .inl (g 1, 8000, .inr (.inl vWorlds)) → fl234 aInWorld = .inl (g 0, 8, .inl vInWorld) → fl234 aKind = .inl (g 0, 30, .inl vKind) → fl234 aSize = .inl (g 0, 30, .inl vSize) → fl234 aMarks = .inl (g 0, 30, .inl vMarks) → fl234 aSeed = .inl (g 0, 30, .inl vSeed) → fl234 aContents = .inl (g 1, 30000, .inr (.inl vContents)) → fl234 aContentMany = .inl (g 0, 30, .inl vContentMany) → fl234 aRow = .inl (g 0, 122880, .inl vRow) → fl234 aBits = .inl (g 0, 76800, .inl vBits) → fl234 aLayerSize = .inl (g 0, 600, .inl vLayerSize) → fl234 aLayerCame = .inl (g 0, 600, .inl vLayerCame) → fl234 aRest = .inl (g 1, 30000, .inr (.inl vRest)) → fl234 aRestMany = .inl (g 0, 30, .inl vRestMany) → fl234 aCome = .inl (g 1, 1000, .inr (.inl vCome)) → fl234 aRivals = .inl (g 1, 1000, .inr (.inl vRivals)) → fl234 aGone = .inl (g 1, 1000, .inr (.inl vGone)) → fl234 aOrder = .inl (g 0, 1000, .inl (upd caOrder_111 (Int32.toNatClampNeg x5_111) o159)) → fl234 aOffAt = .inl (g 0, 1000, .inl (upd caOffAt_111 (Int32.toNatClampNeg x5_111) o121)) → fl234 aIsOff = .inl (g 2, 1000, .inl (upd caIsOff_111 (Int32.toNatClampNeg o159) (vp_nar .boolean (1 : Int32)))) → fl234 aAlone = .inl (g 0, 4096, .inl o234.2) → fl234 aKept = .inl (g 0, 4096, .inl vKept) → (∀ b, b ∈ L → b ≠ aOrder → b ≠ aOffAt → b ≠ aIsOff → b ≠ aAlone → fl234 b = f b) → lv_has ls 9 [(5, .int x5_111), (4, .int (vInWorld (Int32.toNatClampNeg wi))), (0, .ref y), (1, .int wi), (2, .int by_), (3, .int cq)] → W p l e { frames := 1, cells := 0, slots := 0, locals := 24 } s m [.ref y, .int wi, .int by_, .int cq].toArray below meth c H locs 0 0 QQ (F0 m 278 ls []) := by
                    intro fl234 H locs ls S e_y e_aWorlds e_aInWorld e_aKind e_aSize e_aMarks e_aSeed e_aContents e_aContentMany e_aRow e_aBits e_aLayerSize e_aLayerCame e_aRest e_aRestMany e_aCome e_aRivals e_aGone e_aOrder e_aOffAt e_aIsOff e_aAlone e_aKept fr hl
                    refine lv_iinc (v := (x5_111 + 1)) (lv' := [(5, .int (x5_111 + 1)), (4, .int (vInWorld (Int32.toNatClampNeg wi))), (0, .ref y), (1, .int wi), (2, .int by_), (3, .int cq)]) hx hb dX9_takeOff_278 hl (k := 0) rfl rfl (by decide) rfl (fun ls hl => ?_)
                    refine lv_goto (tgt := 111) hx hb dX9_takeOff_281 (by decide) ?_
                    exact ih111 (x5_111 + 1) (upd caOrder_111 (Int32.toNatClampNeg x5_111) o159) (upd caOffAt_111 (Int32.toNatClampNeg x5_111) o121) (upd caIsOff_111 (Int32.toNatClampNeg o159) (vp_nar .boolean (1 : Int32))) o234.2 fl234 _ _ _ ho111 S e_y e_aWorlds e_aInWorld e_aKind e_aSize e_aMarks e_aSeed e_aContents e_aContentMany e_aRow e_aBits e_aLayerSize e_aLayerCame e_aRest e_aRestMany e_aCome e_aRivals e_aGone e_aOrder e_aOffAt e_aIsOff e_aAlone e_aKept fr (lv_sub hl [0, 1, 2, 3, 4, 5] rfl)
                  have LP234 : ∀ (fu : Nat) (x8_234 : Int32) (caAlone_234 : Nat → Int32) (fl234 : Nat → va_E) (H : Heap) (locs : List Loc) (ls : Array Slot), (mX9_takeOff_L234 vWorlds wi by_ cq o159) fu x8_234 caAlone_234 = some o234 → PS D g (va_A (va_pl L f) szz) s.heap s L fl234 H locs → fl234 y = .inr (7, [.ref aWorlds, .ref aInWorld, .ref aKind, .ref aSize, .ref aMarks, .ref aSeed, .ref aContents, .ref aContentMany, .ref aRow, .ref aBits, .ref aLayerSize, .ref aLayerCame, .ref aRest, .ref aRestMany, .int many, .ref aCome, .ref aRivals, .ref aGone, .ref aOrder, .ref aOffAt, .ref aIsOff, .ref aAlone, .ref aKept]) → fl234 aWorlds = .inl (g 1, 8000, .inr (.inl vWorlds)) → fl234 aInWorld = .inl (g 0, 8, .inl vInWorld) → fl234 aKind = .inl (g 0, 30, .inl vKind) → fl234 aSize = .inl (g 0, 30, .inl vSize) → fl234 aMarks = .inl (g 0, 30, .inl vMarks) → fl234 aSeed = .inl (g 0, 30, .inl vSeed) → fl234 aContents = .inl (g 1, 30000, .inr (.inl vContents)) → fl234 aContentMany = .inl (g 0, 30, .inl vContentMany) → fl234 aRow = .inl (g 0, 122880, .inl vRow) → fl234 aBits = .inl (g 0, 76800, .inl vBits) → fl234 aLayerSize = .inl (g 0, 600, .inl vLayerSize) → fl234 aLayerCame = .inl (g 0, 600, .inl vLayerCame) → fl234 aRest = .inl (g 1, 30000, .inr (.inl vRest)) → fl234 aRestMany = .inl (g 0, 30, .inl vRestMany) → fl234 aCome = .inl (g 1, 1000, .inr (.inl vCome)) → fl234 aRivals = .inl (g 1, 1000, .inr (.inl vRivals)) → fl234 aGone = .inl (g 1, 1000, .inr (.inl vGone)) → fl234 aOrder = .inl (g 0, 1000, .inl (upd caOrder_111 (Int32.toNatClampNeg x5_111) o159)) → fl234 aOffAt = .inl (g 0, 1000, .inl (upd caOffAt_111 (Int32.toNatClampNeg x5_111) o121)) → fl234 aIsOff = .inl (g 2, 1000, .inl (upd caIsOff_111 (Int32.toNatClampNeg o159) (vp_nar .boolean (1 : Int32)))) → fl234 aAlone = .inl (g 0, 4096, .inl caAlone_234) → fl234 aKept = .inl (g 0, 4096, .inl vKept) → (∀ b, b ∈ L → b ≠ aOrder → b ≠ aOffAt → b ≠ aIsOff → b ≠ aAlone → fl234 b = f b) → lv_has ls 9 [(8, .int x8_234), (7, .int o159), (5, .int x5_111), (4, .int (vInWorld (Int32.toNatClampNeg wi))), (0, .ref y), (1, .int wi), (2, .int by_), (3, .int cq)] → W p l e { frames := 1, cells := 0, slots := 0, locals := 24 } s m [.ref y, .int wi, .int by_, .int cq].toArray below meth c H locs 0 0 QQ (F0 m 234 ls []) := by
                    intro fu
                    induction fu with
                    | zero => intro x8_234 caAlone_234 fl234 H locs ls ho234 S e_y e_aWorlds e_aInWorld e_aKind e_aSize e_aMarks e_aSeed e_aContents e_aContentMany e_aRow e_aBits e_aLayerSize e_aLayerCame e_aRest e_aRestMany e_aCome e_aRivals e_aGone e_aOrder e_aOffAt e_aIsOff e_aAlone e_aKept fr hl; exact no_some ho234
                    | succ fu ih234 =>
                      intro x8_234 caAlone_234 fl234 H locs ls ho234 S e_y e_aWorlds e_aInWorld e_aKind e_aSize e_aMarks e_aSeed e_aContents e_aContentMany e_aRow e_aBits e_aLayerSize e_aLayerCame e_aRest e_aRestMany e_aCome e_aRivals e_aGone e_aOrder e_aOffAt e_aIsOff e_aAlone e_aKept fr hl
                      rw [mX9_takeOff_L234] at ho234
                      refine lv_iload hx hb dX9_takeOff_234 (lv_at hl 0 rfl) ?_
                      refine lv_iconst (v := (3 : Int32)) hx hb dX9_takeOff_236 (by decide) ?_
                      refine lv_icmp_ge (tgt := 278) hx hb dX9_takeOff_237 (by decide) (fun b237 => ?_) (fun b237 => ?_)
                      · have ho234 := itT b237 ho234
                        obtain rfl := Option.some.inj ho234
                        exact EX234 fl234 _ _ _ S e_y e_aWorlds e_aInWorld e_aKind e_aSize e_aMarks e_aSeed e_aContents e_aContentMany e_aRow e_aBits e_aLayerSize e_aLayerCame e_aRest e_aRestMany e_aCome e_aRivals e_aGone e_aOrder e_aOffAt e_aIsOff e_aAlone e_aKept fr (lv_sub hl [2, 3, 4, 5, 6, 7] rfl)
                      · have ho234 := itF b237 ho234
                        refine lv_aload_n hx hb dX9_takeOff_240 rfl (lv_at hl 4 rfl) ?_
                        refine q_get hx hb hts in_X9 hown S m_y e_y (C := RX9) (T := TX9) (N := 23) rfl 21 (by decide) rfl (hts (.fieldLink RX9 74 "SieveCabinetModel" "alone" "[I") (by decide +kernel)) dX9_takeOff_241 ?_
                        refine lv_aload_n hx hb dX9_takeOff_244 rfl (lv_at hl 4 rfl) ?_
                        refine q_get hx hb hts in_X9 hown S m_y e_y (C := RX9) (T := TX9) (N := 23) rfl 0 (by decide) rfl (hts (.fieldLink RX9 9 "SieveCabinetModel" "worlds" "[J") (by decide +kernel)) dX9_takeOff_245 ?_
                        refine lv_iload_n hx hb dX9_takeOff_248 rfl (lv_at hl 5 rfl) ?_
                        refine lv_sipush (v := (1000 : Int32)) hx hb dX9_takeOff_249 (by decide) ?_
                        refine lv_imul hx hb dX9_takeOff_252 ?_
                        refine lv_iload hx hb dX9_takeOff_253 (lv_at hl 1 rfl) ?_
                        refine lv_iadd hx hb dX9_takeOff_255 ?_
                        obtain ⟨hi256, ho234⟩ := ckx ho234
                        refine q_lald hx hb S m_aWorlds e_aWorlds hi256 dX9_takeOff_256 ?_
                        refine lv_iload_n hx hb dX9_takeOff_257 rfl (lv_at hl 6 rfl) ?_
                        obtain ⟨z258, hz258, ho234⟩ := bind_some ho234
                        refine q_sl (As := [.long (vWorlds (Int32.toNatClampNeg ((wi * (1000 : Int32)) + o159))), .int by_]) (rest := [.ref aAlone]) ⟨hx, hb, hml, hown, hts⟩ (k_X9_mix l D g hz258) (va_cwS 2 hts gX9_takeOff_X9_mix rfl rfl rfl (by decide +kernel) ⟨Nat.le_of_ble_eq_true rfl, Nat.le_of_ble_eq_true rfl⟩) S rfl hl.1 rfl (Nat.le_of_ble_eq_true rfl) dX9_takeOff_258 ⟨Nat.le_of_ble_eq_true rfl, Nat.le_of_ble_eq_true rfl⟩ (fun r6 L4 f5 H locs S w258 => ?_)
                        obtain ⟨ex258, eL, ef⟩ := w258
                        rw [eL, ef] at S
                        replace ex258 := ex258.symm
                        subst ex258
                        refine lv_iload hx hb dX9_takeOff_261 (lv_at hl 0 rfl) ?_
                        refine lv_iload_n hx hb dX9_takeOff_263 rfl (lv_at hl 7 rfl) ?_
                        obtain ⟨z264, hz264, ho234⟩ := bind_some ho234
                        refine q_si (As := [.long z258, .int x8_234, .int cq]) (rest := [.ref aAlone]) ⟨hx, hb, hml, hown, hts⟩ (k_X9_solvedPlace l D g hz264) (va_cwS 3 hts gX9_takeOff_X9_solvedPlace rfl rfl rfl (by decide +kernel) ⟨Nat.le_of_ble_eq_true rfl, Nat.le_of_ble_eq_true rfl⟩) S rfl hl.1 rfl (Nat.le_of_ble_eq_true rfl) dX9_takeOff_264 ⟨Nat.le_of_ble_eq_true rfl, Nat.le_of_ble_eq_true rfl⟩ (fun r9 L7 f8 H locs S w264 => ?_)
                        obtain ⟨ex264, eL, ef⟩ := w264
                        rw [eL, ef] at S
                        replace ex264 := ex264.symm
                        subst ex264
                        refine lv_dup2_11 hx hb dX9_takeOff_267 rfl rfl ?_
                        obtain ⟨hi268, ho234⟩ := ckx ho234
                        refine q_iald hx hb S m_aAlone e_aAlone hi268 dX9_takeOff_268 ?_
                        refine lv_iconst (v := (1 : Int32)) hx hb dX9_takeOff_269 (by decide) ?_
                        refine lv_isub hx hb dX9_takeOff_270 ?_
                        obtain ⟨hi271, ho234⟩ := ckx ho234
                        refine k_iast hx hb S m_aAlone e_aAlone hi271 dX9_takeOff_271 (fun f10 ef10 H locs S => ?_)
                        have e_aAlone := up_self ef10
                        have fr : ∀ b, b ∈ L → b ≠ aOrder → b ≠ aOffAt → b ≠ aIsOff → b ≠ aAlone → f10 b = f b := fun b mb nb0 nb1 nb2 nb3 => (up_ne ef10 nb3 rfl).trans (fr b mb nb0 nb1 nb2 nb3)
                        refine lv_iinc (v := (x8_234 + 1)) (lv' := [(8, .int (x8_234 + 1)), (7, .int o159), (5, .int x5_111), (4, .int (vInWorld (Int32.toNatClampNeg wi))), (0, .ref y), (1, .int wi), (2, .int by_), (3, .int cq)]) hx hb dX9_takeOff_272 hl (k := 0) rfl rfl (by decide) rfl (fun ls hl => ?_)
                        refine lv_goto (tgt := 234) hx hb dX9_takeOff_275 (by decide) ?_
                        have e_y := (up_ne ef10 n_y_aAlone e_y)
                        have e_aWorlds := (up_ne ef10 n_aWorlds_aAlone e_aWorlds)
                        have e_aInWorld := (up_ne ef10 n_aInWorld_aAlone e_aInWorld)
                        have e_aKind := (up_ne ef10 n_aKind_aAlone e_aKind)
                        have e_aSize := (up_ne ef10 n_aSize_aAlone e_aSize)
                        have e_aMarks := (up_ne ef10 n_aMarks_aAlone e_aMarks)
                        have e_aSeed := (up_ne ef10 n_aSeed_aAlone e_aSeed)
                        have e_aContents := (up_ne ef10 n_aContents_aAlone e_aContents)
                        have e_aContentMany := (up_ne ef10 n_aContentMany_aAlone e_aContentMany)
                        have e_aRow := (up_ne ef10 n_aRow_aAlone e_aRow)
                        have e_aBits := (up_ne ef10 n_aBits_aAlone e_aBits)
                        have e_aLayerSize := (up_ne ef10 n_aLayerSize_aAlone e_aLayerSize)
                        have e_aLayerCame := (up_ne ef10 n_aLayerCame_aAlone e_aLayerCame)
                        have e_aRest := (up_ne ef10 n_aRest_aAlone e_aRest)
                        have e_aRestMany := (up_ne ef10 n_aRestMany_aAlone e_aRestMany)
                        have e_aCome := (up_ne ef10 n_aCome_aAlone e_aCome)
                        have e_aRivals := (up_ne ef10 n_aRivals_aAlone e_aRivals)
                        have e_aGone := (up_ne ef10 n_aGone_aAlone e_aGone)
                        have e_aOrder := (up_ne ef10 n_aOrder_aAlone e_aOrder)
                        have e_aOffAt := (up_ne ef10 n_aOffAt_aAlone e_aOffAt)
                        have e_aIsOff := (up_ne ef10 n_aIsOff_aAlone e_aIsOff)
                        have e_aKept := (up_ne ef10 n_aKept_aAlone e_aKept)
                        exact ih234 (x8_234 + 1) (upd caAlone_234 (Int32.toNatClampNeg z264) ((caAlone_234 (Int32.toNatClampNeg z264)) - (1 : Int32))) f10 _ _ _ ho234 S e_y e_aWorlds e_aInWorld e_aKind e_aSize e_aMarks e_aSeed e_aContents e_aContentMany e_aRow e_aBits e_aLayerSize e_aLayerCame e_aRest e_aRestMany e_aCome e_aRivals e_aGone e_aOrder e_aOffAt e_aIsOff e_aAlone e_aKept fr (lv_sub hl [0, 1, 2, 3, 4, 5, 6, 7] rfl)
                  exact LP234 FU (0 : Int32) caAlone_111 f3 _ _ _ ho234 S e_y e_aWorlds e_aInWorld e_aKind e_aSize e_aMarks e_aSeed e_aContents e_aContentMany e_aRow e_aBits e_aLayerSize e_aLayerCame e_aRest e_aRestMany e_aCome e_aRivals e_aGone e_aOrder e_aOffAt e_aIsOff e_aAlone e_aKept fr (lv_sub hl [0, 1, 3, 4, 5, 6, 7, 8] rfl)
                have LP159 : ∀ (fu : Nat) (x7_159 : Int32) (H : Heap) (locs : List Loc) (ls : Array Slot), (mX9_takeOff_L159 vWorlds wi by_ cq o121 caIsOff_111) fu x7_159 = some o159 → PS D g (va_A (va_pl L f) szz) s.heap s L fl111 H locs → lv_has ls 9 [(7, .int x7_159), (6, .int o121), (5, .int x5_111), (4, .int (vInWorld (Int32.toNatClampNeg wi))), (0, .ref y), (1, .int wi), (2, .int by_), (3, .int cq)] → W p l e { frames := 1, cells := 0, slots := 0, locals := 24 } s m [.ref y, .int wi, .int by_, .int cq].toArray below meth c H locs 0 0 QQ (F0 m 159 ls []) := by
                  intro fu
                  induction fu with
                  | zero => intro x7_159 H locs ls ho159 S hl; exact no_some ho159
                  | succ fu ih159 =>
                    intro x7_159 H locs ls ho159 S hl
                    rw [mX9_takeOff_L159] at ho159
                    refine lv_aload_n hx hb dX9_takeOff_159 rfl (lv_at hl 4 rfl) ?_
                    refine q_get hx hb hts in_X9 hown S m_y e_y (C := RX9) (T := TX9) (N := 23) rfl 20 (by decide) rfl (hts (.fieldLink RX9 70 "SieveCabinetModel" "isOff" "[Z") (by decide +kernel)) dX9_takeOff_160 ?_
                    refine lv_iload hx hb dX9_takeOff_163 (lv_at hl 0 rfl) ?_
                    obtain ⟨hi165, ho159⟩ := ckx ho159
                    refine q_zald hx hb S m_aIsOff e_aIsOff hi165 dX9_takeOff_165 ?_
                    refine lv_if_ne (tgt := 199) hx hb dX9_takeOff_166 (by decide) (fun b166 => ?_) (fun b166 => ?_)
                    · have ho159 := itF b166 ho159
                      refine lv_iinc (v := (x7_159 + 1)) (lv' := [(7, .int (x7_159 + 1)), (6, .int o121), (5, .int x5_111), (4, .int (vInWorld (Int32.toNatClampNeg wi))), (0, .ref y), (1, .int wi), (2, .int by_), (3, .int cq)]) hx hb dX9_takeOff_199 hl (k := 0) rfl rfl (by decide) rfl (fun ls hl => ?_)
                      refine lv_goto (tgt := 159) hx hb dX9_takeOff_202 (by decide) ?_
                      exact ih159 (x7_159 + 1) _ _ _ ho159 S (lv_sub hl [0, 1, 2, 3, 4, 5, 6, 7] rfl)
                    · have ho159 := itT b166 ho159
                      refine lv_aload_n hx hb dX9_takeOff_169 rfl (lv_at hl 4 rfl) ?_
                      refine q_get hx hb hts in_X9 hown S m_y e_y (C := RX9) (T := TX9) (N := 23) rfl 0 (by decide) rfl (hts (.fieldLink RX9 9 "SieveCabinetModel" "worlds" "[J") (by decide +kernel)) dX9_takeOff_170 ?_
                      refine lv_iload_n hx hb dX9_takeOff_173 rfl (lv_at hl 5 rfl) ?_
                      refine lv_sipush (v := (1000 : Int32)) hx hb dX9_takeOff_174 (by decide) ?_
                      refine lv_imul hx hb dX9_takeOff_177 ?_
                      refine lv_iload hx hb dX9_takeOff_178 (lv_at hl 0 rfl) ?_
                      refine lv_iadd hx hb dX9_takeOff_180 ?_
                      obtain ⟨hi181, ho159⟩ := ckx ho159
                      refine q_lald hx hb S m_aWorlds e_aWorlds hi181 dX9_takeOff_181 ?_
                      refine lv_iload_n hx hb dX9_takeOff_182 rfl (lv_at hl 6 rfl) ?_
                      obtain ⟨z183, hz183, ho159⟩ := bind_some ho159
                      refine q_sl (As := [.long (vWorlds (Int32.toNatClampNeg ((wi * (1000 : Int32)) + x7_159))), .int by_]) (rest := []) ⟨hx, hb, hml, hown, hts⟩ (k_X9_mix l D g hz183) (va_cwS 2 hts gX9_takeOff_X9_mix rfl rfl rfl (by decide +kernel) ⟨Nat.le_of_ble_eq_true rfl, Nat.le_of_ble_eq_true rfl⟩) S rfl hl.1 rfl (Nat.le_of_ble_eq_true rfl) dX9_takeOff_183 ⟨Nat.le_of_ble_eq_true rfl, Nat.le_of_ble_eq_true rfl⟩ (fun r13 L11 f12 H locs S w183 => ?_)
                      obtain ⟨ex183, eL, ef⟩ := w183
                      rw [eL, ef] at S
                      replace ex183 := ex183.symm
                      subst ex183
                      refine lv_iload hx hb dX9_takeOff_186 (lv_at hl 1 rfl) ?_
                      refine lv_iload_n hx hb dX9_takeOff_188 rfl (lv_at hl 7 rfl) ?_
                      obtain ⟨hq189, ho159⟩ := ck ho159
                      refine lv_idiv hx hb dX9_takeOff_189 (hq189) ?_
                      refine lv_iload_n hx hb dX9_takeOff_190 rfl (lv_at hl 7 rfl) ?_
                      obtain ⟨z191, hz191, ho159⟩ := bind_some ho159
                      refine q_si (As := [.long z183, .int (o121 / cq), .int cq]) (rest := []) ⟨hx, hb, hml, hown, hts⟩ (k_X9_solvedPlace l D g hz191) (va_cwS 3 hts gX9_takeOff_X9_solvedPlace rfl rfl rfl (by decide +kernel) ⟨Nat.le_of_ble_eq_true rfl, Nat.le_of_ble_eq_true rfl⟩) S rfl hl.1 rfl (Nat.le_of_ble_eq_true rfl) dX9_takeOff_191 ⟨Nat.le_of_ble_eq_true rfl, Nat.le_of_ble_eq_true rfl⟩ (fun r16 L14 f15 H locs S w191 => ?_)
                      obtain ⟨ex191, eL, ef⟩ := w191
                      rw [eL, ef] at S
                      replace ex191 := ex191.symm
                      subst ex191
                      refine lv_iload hx hb dX9_takeOff_194 (lv_at hl 1 rfl) ?_
                      refine lv_icmp_eq (tgt := 205) hx hb dX9_takeOff_196 (by decide) (fun b196 => ?_) (fun b196 => ?_)
                      · have ho159 := itT b196 ho159
                        obtain rfl := Option.some.inj ho159
                        exact EX159 _ _ _ S (lv_sub hl [0, 1, 2, 3, 4, 5, 6, 7] rfl)
                      · have ho159 := itF b196 ho159
                        refine lv_iinc (v := (x7_159 + 1)) (lv' := [(7, .int (x7_159 + 1)), (6, .int o121), (5, .int x5_111), (4, .int (vInWorld (Int32.toNatClampNeg wi))), (0, .ref y), (1, .int wi), (2, .int by_), (3, .int cq)]) hx hb dX9_takeOff_199 hl (k := 0) rfl rfl (by decide) rfl (fun ls hl => ?_)
                        refine lv_goto (tgt := 159) hx hb dX9_takeOff_202 (by decide) ?_
                        exact ih159 (x7_159 + 1) _ _ _ ho159 S (lv_sub hl [0, 1, 2, 3, 4, 5, 6, 7] rfl)
                exact LP159 FU (0 : Int32) _ _ _ ho159 S (lv_sub hl [0, 1, 2, 3, 4, 5, 6, 7] rfl)
              · have ho111 := itT b151 ho111
                refine lv_iconst (v := (0 : Int32)) hx hb dX9_takeOff_154 (by decide) ?_
                obtain rfl := Option.some.inj ho111
                simp only [Sum.elim_inl] at hM
                subst hQQ
                exact q_retz (post := fun x L1 f1 => x = z.1 ∧ L1 = L ∧ (∀ b, b ∈ L → b ≠ aOrder → b ≠ aOffAt → b ≠ aIsOff → b ≠ aAlone → f1 b = f b) ∧ f1 aOrder = .inl (g 0, 1000, .inl z.2.1) ∧ f1 aOffAt = .inl (g 0, 1000, .inl z.2.2.1) ∧ f1 aIsOff = .inl (g 2, 1000, .inl z.2.2.2.1) ∧ f1 aAlone = .inl (g 0, 4096, .inl z.2.2.2.2)) hx hb hr hlk S dX9_takeOff_155 (by decide) (by decide) (by decide) (by have hz := Option.some.inj hM; subst hz; exact ⟨rfl, rfl, fr, e_aOrder, e_aOffAt, e_aIsOff, e_aAlone⟩)
            have LP121 : ∀ (fu : Nat) (x6_121 : Int32) (H : Heap) (locs : List Loc) (ls : Array Slot), (mX9_takeOff_L121 cq caAlone_111) fu x6_121 = some o121 → PS D g (va_A (va_pl L f) szz) s.heap s L fl111 H locs → lv_has ls 9 [(6, .int x6_121), (5, .int x5_111), (4, .int (vInWorld (Int32.toNatClampNeg wi))), (0, .ref y), (1, .int wi), (2, .int by_), (3, .int cq)] → W p l e { frames := 1, cells := 0, slots := 0, locals := 24 } s m [.ref y, .int wi, .int by_, .int cq].toArray below meth c H locs 0 0 QQ (F0 m 121 ls []) := by
              intro fu
              induction fu with
              | zero => intro x6_121 H locs ls ho121 S hl; exact no_some ho121
              | succ fu ih121 =>
                intro x6_121 H locs ls ho121 S hl
                rw [mX9_takeOff_L121] at ho121
                refine lv_iload hx hb dX9_takeOff_121 (lv_at hl 0 rfl) ?_
                refine lv_iconst (v := (3 : Int32)) hx hb dX9_takeOff_123 (by decide) ?_
                refine lv_iload_n hx hb dX9_takeOff_124 rfl (lv_at hl 6 rfl) ?_
                refine lv_imul hx hb dX9_takeOff_125 ?_
                refine lv_icmp_ge (tgt := 146) hx hb dX9_takeOff_126 (by decide) (fun b126 => ?_) (fun b126 => ?_)
                · have ho121 := itT b126 ho121
                  obtain rfl := Option.some.inj ho121
                  exact EX121 _ _ _ S (lv_sub hl [0, 1, 2, 3, 4, 5, 6] rfl)
                · have ho121 := itF b126 ho121
                  refine lv_aload_n hx hb dX9_takeOff_129 rfl (lv_at hl 3 rfl) ?_
                  refine q_get hx hb hts in_X9 hown S m_y e_y (C := RX9) (T := TX9) (N := 23) rfl 21 (by decide) rfl (hts (.fieldLink RX9 74 "SieveCabinetModel" "alone" "[I") (by decide +kernel)) dX9_takeOff_130 ?_
                  refine lv_iload hx hb dX9_takeOff_133 (lv_at hl 0 rfl) ?_
                  obtain ⟨hi135, ho121⟩ := ckx ho121
                  refine q_iald hx hb S m_aAlone e_aAlone hi135 dX9_takeOff_135 ?_
                  refine lv_iconst (v := (1 : Int32)) hx hb dX9_takeOff_136 (by decide) ?_
                  refine lv_icmp_eq (tgt := 146) hx hb dX9_takeOff_137 (by decide) (fun b137 => ?_) (fun b137 => ?_)
                  · have ho121 := itT b137 ho121
                    obtain rfl := Option.some.inj ho121
                    exact EX121 _ _ _ S (lv_sub hl [0, 1, 2, 3, 4, 5, 6] rfl)
                  · have ho121 := itF b137 ho121
                    refine lv_iinc (v := (x6_121 + 1)) (lv' := [(6, .int (x6_121 + 1)), (5, .int x5_111), (4, .int (vInWorld (Int32.toNatClampNeg wi))), (0, .ref y), (1, .int wi), (2, .int by_), (3, .int cq)]) hx hb dX9_takeOff_140 hl (k := 0) rfl rfl (by decide) rfl (fun ls hl => ?_)
                    refine lv_goto (tgt := 121) hx hb dX9_takeOff_143 (by decide) ?_
                    exact ih121 (x6_121 + 1) _ _ _ ho121 S (lv_sub hl [0, 1, 2, 3, 4, 5, 6] rfl)
            exact LP121 FU (0 : Int32) _ _ _ ho121 S (lv_sub hl [0, 1, 2, 3, 4, 5, 6] rfl)
      exact LP111 FU (0 : Int32) vOrder vOffAt o36.2.1 o36.2.2 fl36 _ _ _ ho111 S e_y e_aWorlds e_aInWorld e_aKind e_aSize e_aMarks e_aSeed e_aContents e_aContentMany e_aRow e_aBits e_aLayerSize e_aLayerCame e_aRest e_aRestMany e_aCome e_aRivals e_aGone e_aOrder e_aOffAt e_aIsOff e_aAlone e_aKept fr (lv_sub hl [0, 1, 2, 3, 4, 5] rfl)
    have LP36 : ∀ (fu : Nat) (x5_36 : Int32) (caIsOff_36 : Nat → Int32) (caAlone_36 : Nat → Int32) (fl36 : Nat → va_E) (H : Heap) (locs : List Loc) (ls : Array Slot), (mX9_takeOff_L36 vWorlds vInWorld wi by_ cq) fu x5_36 caIsOff_36 caAlone_36 = some o36 → PS D g (va_A (va_pl L f) szz) s.heap s L fl36 H locs → fl36 y = .inr (7, [.ref aWorlds, .ref aInWorld, .ref aKind, .ref aSize, .ref aMarks, .ref aSeed, .ref aContents, .ref aContentMany, .ref aRow, .ref aBits, .ref aLayerSize, .ref aLayerCame, .ref aRest, .ref aRestMany, .int many, .ref aCome, .ref aRivals, .ref aGone, .ref aOrder, .ref aOffAt, .ref aIsOff, .ref aAlone, .ref aKept]) → fl36 aWorlds = .inl (g 1, 8000, .inr (.inl vWorlds)) → fl36 aInWorld = .inl (g 0, 8, .inl vInWorld) → fl36 aKind = .inl (g 0, 30, .inl vKind) → fl36 aSize = .inl (g 0, 30, .inl vSize) → fl36 aMarks = .inl (g 0, 30, .inl vMarks) → fl36 aSeed = .inl (g 0, 30, .inl vSeed) → fl36 aContents = .inl (g 1, 30000, .inr (.inl vContents)) → fl36 aContentMany = .inl (g 0, 30, .inl vContentMany) → fl36 aRow = .inl (g 0, 122880, .inl vRow) → fl36 aBits = .inl (g 0, 76800, .inl vBits) → fl36 aLayerSize = .inl (g 0, 600, .inl vLayerSize) → fl36 aLayerCame = .inl (g 0, 600, .inl vLayerCame) → fl36 aRest = .inl (g 1, 30000, .inr (.inl vRest)) → fl36 aRestMany = .inl (g 0, 30, .inl vRestMany) → fl36 aCome = .inl (g 1, 1000, .inr (.inl vCome)) → fl36 aRivals = .inl (g 1, 1000, .inr (.inl vRivals)) → fl36 aGone = .inl (g 1, 1000, .inr (.inl vGone)) → fl36 aOrder = .inl (g 0, 1000, .inl vOrder) → fl36 aOffAt = .inl (g 0, 1000, .inl vOffAt) → fl36 aIsOff = .inl (g 2, 1000, .inl caIsOff_36) → fl36 aAlone = .inl (g 0, 4096, .inl caAlone_36) → fl36 aKept = .inl (g 0, 4096, .inl vKept) → (∀ b, b ∈ L → b ≠ aOrder → b ≠ aOffAt → b ≠ aIsOff → b ≠ aAlone → fl36 b = f b) → lv_has ls 9 [(5, .int x5_36), (4, .int (vInWorld (Int32.toNatClampNeg wi))), (0, .ref y), (1, .int wi), (2, .int by_), (3, .int cq)] → W p l e { frames := 1, cells := 0, slots := 0, locals := 24 } s m [.ref y, .int wi, .int by_, .int cq].toArray below meth c H locs 0 0 QQ (F0 m 36 ls []) := by
      intro fu
      induction fu with
      | zero => intro x5_36 caIsOff_36 caAlone_36 fl36 H locs ls ho36 S e_y e_aWorlds e_aInWorld e_aKind e_aSize e_aMarks e_aSeed e_aContents e_aContentMany e_aRow e_aBits e_aLayerSize e_aLayerCame e_aRest e_aRestMany e_aCome e_aRivals e_aGone e_aOrder e_aOffAt e_aIsOff e_aAlone e_aKept fr hl; exact no_some ho36
      | succ fu ih36 =>
        intro x5_36 caIsOff_36 caAlone_36 fl36 H locs ls ho36 S e_y e_aWorlds e_aInWorld e_aKind e_aSize e_aMarks e_aSeed e_aContents e_aContentMany e_aRow e_aBits e_aLayerSize e_aLayerCame e_aRest e_aRestMany e_aCome e_aRivals e_aGone e_aOrder e_aOffAt e_aIsOff e_aAlone e_aKept fr hl
        rw [mX9_takeOff_L36] at ho36
        refine lv_iload hx hb dX9_takeOff_36 (lv_at hl 0 rfl) ?_
        refine lv_iload hx hb dX9_takeOff_38 (lv_at hl 1 rfl) ?_
        refine lv_icmp_ge (tgt := 108) hx hb dX9_takeOff_40 (by decide) (fun b40 => ?_) (fun b40 => ?_)
        · have ho36 := itT b40 ho36
          obtain rfl := Option.some.inj ho36
          exact EX36 fl36 _ _ _ S e_y e_aWorlds e_aInWorld e_aKind e_aSize e_aMarks e_aSeed e_aContents e_aContentMany e_aRow e_aBits e_aLayerSize e_aLayerCame e_aRest e_aRestMany e_aCome e_aRivals e_aGone e_aOrder e_aOffAt e_aIsOff e_aAlone e_aKept fr (lv_sub hl [1, 2, 3, 4, 5] rfl)
        · have ho36 := itF b40 ho36
          refine lv_aload_n hx hb dX9_takeOff_43 rfl (lv_at hl 2 rfl) ?_
          refine q_get hx hb hts in_X9 hown S m_y e_y (C := RX9) (T := TX9) (N := 23) rfl 20 (by decide) rfl (hts (.fieldLink RX9 70 "SieveCabinetModel" "isOff" "[Z") (by decide +kernel)) dX9_takeOff_44 ?_
          refine lv_iload hx hb dX9_takeOff_47 (lv_at hl 0 rfl) ?_
          refine lv_iconst (v := (0 : Int32)) hx hb dX9_takeOff_49 (by decide) ?_
          obtain ⟨hi50, ho36⟩ := ckx ho36
          refine k_zast hx hb S m_aIsOff e_aIsOff hi50 dX9_takeOff_50 (fun f17 ef17 H locs S => ?_)
          have e_aIsOff := up_self ef17
          have fr : ∀ b, b ∈ L → b ≠ aOrder → b ≠ aOffAt → b ≠ aIsOff → b ≠ aAlone → f17 b = f b := fun b mb nb0 nb1 nb2 nb3 => (up_ne ef17 nb2 rfl).trans (fr b mb nb0 nb1 nb2 nb3)
          refine lv_aload_n hx hb dX9_takeOff_51 rfl (lv_at hl 2 rfl) ?_
          have e_y := (up_ne ef17 n_y_aIsOff e_y)
          refine q_get hx hb hts in_X9 hown S m_y e_y (C := RX9) (T := TX9) (N := 23) rfl 0 (by decide) rfl (hts (.fieldLink RX9 9 "SieveCabinetModel" "worlds" "[J") (by decide +kernel)) dX9_takeOff_52 ?_
          refine lv_iload_n hx hb dX9_takeOff_55 rfl (lv_at hl 3 rfl) ?_
          refine lv_sipush (v := (1000 : Int32)) hx hb dX9_takeOff_56 (by decide) ?_
          refine lv_imul hx hb dX9_takeOff_59 ?_
          refine lv_iload hx hb dX9_takeOff_60 (lv_at hl 0 rfl) ?_
          refine lv_iadd hx hb dX9_takeOff_62 ?_
          obtain ⟨hi63, ho36⟩ := ckx ho36
          have e_aWorlds := (up_ne ef17 n_aWorlds_aIsOff e_aWorlds)
          refine q_lald hx hb S m_aWorlds e_aWorlds hi63 dX9_takeOff_63 ?_
          refine lv_iload_n hx hb dX9_takeOff_64 rfl (lv_at hl 4 rfl) ?_
          obtain ⟨z65, hz65, ho36⟩ := bind_some ho36
          refine q_sl (As := [.long (vWorlds (Int32.toNatClampNeg ((wi * (1000 : Int32)) + x5_36))), .int by_]) (rest := []) ⟨hx, hb, hml, hown, hts⟩ (k_X9_mix l D g hz65) (va_cwS 2 hts gX9_takeOff_X9_mix rfl rfl rfl (by decide +kernel) ⟨Nat.le_of_ble_eq_true rfl, Nat.le_of_ble_eq_true rfl⟩) S rfl hl.1 rfl (Nat.le_of_ble_eq_true rfl) dX9_takeOff_65 ⟨Nat.le_of_ble_eq_true rfl, Nat.le_of_ble_eq_true rfl⟩ (fun r20 L18 f19 H locs S w65 => ?_)
          obtain ⟨ex65, eL, ef⟩ := w65
          rw [eL, ef] at S
          replace ex65 := ex65.symm
          subst ex65
          refine lv_lstore (lv' := [(6, .long z65), (5, .int x5_36), (4, .int (vInWorld (Int32.toNatClampNeg wi))), (0, .ref y), (1, .int wi), (2, .int by_), (3, .int cq)]) hx hb dX9_takeOff_68 hl (by decide) rfl (fun ls hl => ?_)
          refine lv_iconst (v := (0 : Int32)) hx hb dX9_takeOff_70 (by decide) ?_
          refine lv_istore (lv' := [(8, .int (0 : Int32)), (6, .long z65), (5, .int x5_36), (4, .int (vInWorld (Int32.toNatClampNeg wi))), (0, .ref y), (1, .int wi), (2, .int by_), (3, .int cq)]) hx hb dX9_takeOff_71 hl (by decide) rfl (fun ls hl => ?_)
          have e_aInWorld := (up_ne ef17 n_aInWorld_aIsOff e_aInWorld)
          have e_aKind := (up_ne ef17 n_aKind_aIsOff e_aKind)
          have e_aSize := (up_ne ef17 n_aSize_aIsOff e_aSize)
          have e_aMarks := (up_ne ef17 n_aMarks_aIsOff e_aMarks)
          have e_aSeed := (up_ne ef17 n_aSeed_aIsOff e_aSeed)
          have e_aContents := (up_ne ef17 n_aContents_aIsOff e_aContents)
          have e_aContentMany := (up_ne ef17 n_aContentMany_aIsOff e_aContentMany)
          have e_aRow := (up_ne ef17 n_aRow_aIsOff e_aRow)
          have e_aBits := (up_ne ef17 n_aBits_aIsOff e_aBits)
          have e_aLayerSize := (up_ne ef17 n_aLayerSize_aIsOff e_aLayerSize)
          have e_aLayerCame := (up_ne ef17 n_aLayerCame_aIsOff e_aLayerCame)
          have e_aRest := (up_ne ef17 n_aRest_aIsOff e_aRest)
          have e_aRestMany := (up_ne ef17 n_aRestMany_aIsOff e_aRestMany)
          have e_aCome := (up_ne ef17 n_aCome_aIsOff e_aCome)
          have e_aRivals := (up_ne ef17 n_aRivals_aIsOff e_aRivals)
          have e_aGone := (up_ne ef17 n_aGone_aIsOff e_aGone)
          have e_aOrder := (up_ne ef17 n_aOrder_aIsOff e_aOrder)
          have e_aOffAt := (up_ne ef17 n_aOffAt_aIsOff e_aOffAt)
          have e_aAlone := (up_ne ef17 n_aAlone_aIsOff e_aAlone)
          have e_aKept := (up_ne ef17 n_aKept_aIsOff e_aKept)
          obtain ⟨o73, ho73, ho36⟩ := bind_some ho36
          have EX73 : ∀ (fl73 : Nat → va_E) (H : Heap) (locs : List Loc) (ls : Array Slot), PS D g (va_A (va_pl L f) szz) s.heap s L fl73 H locs → fl73 y = .inr (7, [.ref aWorlds, .ref aInWorld, .ref aKind, .ref aSize, .ref aMarks, .ref aSeed, .ref aContents, .ref aContentMany, .ref aRow, .ref aBits, .ref aLayerSize, .ref aLayerCame, .ref aRest, .ref aRestMany, .int many, .ref aCome, .ref aRivals, .ref aGone, .ref aOrder, .ref aOffAt, .ref aIsOff, .ref aAlone, .ref aKept]) → fl73 aWorlds = .inl (g 1, 8000, .inr (.inl vWorlds)) → fl73 aInWorld = .inl (g 0, 8, .inl vInWorld) → fl73 aKind = .inl (g 0, 30, .inl vKind) → fl73 aSize = .inl (g 0, 30, .inl vSize) → fl73 aMarks = .inl (g 0, 30, .inl vMarks) → fl73 aSeed = .inl (g 0, 30, .inl vSeed) → fl73 aContents = .inl (g 1, 30000, .inr (.inl vContents)) → fl73 aContentMany = .inl (g 0, 30, .inl vContentMany) → fl73 aRow = .inl (g 0, 122880, .inl vRow) → fl73 aBits = .inl (g 0, 76800, .inl vBits) → fl73 aLayerSize = .inl (g 0, 600, .inl vLayerSize) → fl73 aLayerCame = .inl (g 0, 600, .inl vLayerCame) → fl73 aRest = .inl (g 1, 30000, .inr (.inl vRest)) → fl73 aRestMany = .inl (g 0, 30, .inl vRestMany) → fl73 aCome = .inl (g 1, 1000, .inr (.inl vCome)) → fl73 aRivals = .inl (g 1, 1000, .inr (.inl vRivals)) → fl73 aGone = .inl (g 1, 1000, .inr (.inl vGone)) → fl73 aOrder = .inl (g 0, 1000, .inl vOrder) → fl73 aOffAt = .inl (g 0, 1000, .inl vOffAt) → fl73 aIsOff = .inl (g 2, 1000, .inl (upd caIsOff_36 (Int32.toNatClampNeg x5_36) (vp_nar .boolean (0 : Int32)))) → fl73 aAlone = .inl (g 0, 4096, .inl o73.2) → fl73 aKept = .inl (g 0, 4096, .inl vKept) → (∀ b, b ∈ L → b ≠ aOrder → b ≠ aOffAt → b ≠ aIsOff → b ≠ aAlone → fl73 b = f b) → lv_has ls 9 [(5, .int x5_36), (4, .int (vInWorld (Int32.toNatClampNeg wi))), (0, .ref y), (1, .int wi), (2, .int by_), (3, .int cq)] → W p l e { frames := 1, cells := 0, slots := 0, locals := 24 } s m [.ref y, .int wi, .int by_, .int cq].toArray below meth c H locs 0 0 QQ (F0 m 102 ls []) := by
            intro fl73 H locs ls S e_y e_aWorlds e_aInWorld e_aKind e_aSize e_aMarks e_aSeed e_aContents e_aContentMany e_aRow e_aBits e_aLayerSize e_aLayerCame e_aRest e_aRestMany e_aCome e_aRivals e_aGone e_aOrder e_aOffAt e_aIsOff e_aAlone e_aKept fr hl
            refine lv_iinc (v := (x5_36 + 1)) (lv' := [(5, .int (x5_36 + 1)), (4, .int (vInWorld (Int32.toNatClampNeg wi))), (0, .ref y), (1, .int wi), (2, .int by_), (3, .int cq)]) hx hb dX9_takeOff_102 hl (k := 0) rfl rfl (by decide) rfl (fun ls hl => ?_)
            refine lv_goto (tgt := 36) hx hb dX9_takeOff_105 (by decide) ?_
            exact ih36 (x5_36 + 1) (upd caIsOff_36 (Int32.toNatClampNeg x5_36) (vp_nar .boolean (0 : Int32))) o73.2 fl73 _ _ _ ho36 S e_y e_aWorlds e_aInWorld e_aKind e_aSize e_aMarks e_aSeed e_aContents e_aContentMany e_aRow e_aBits e_aLayerSize e_aLayerCame e_aRest e_aRestMany e_aCome e_aRivals e_aGone e_aOrder e_aOffAt e_aIsOff e_aAlone e_aKept fr (lv_sub hl [0, 1, 2, 3, 4, 5] rfl)
          have LP73 : ∀ (fu : Nat) (x8_73 : Int32) (caAlone_73 : Nat → Int32) (fl73 : Nat → va_E) (H : Heap) (locs : List Loc) (ls : Array Slot), (mX9_takeOff_L73 cq z65) fu x8_73 caAlone_73 = some o73 → PS D g (va_A (va_pl L f) szz) s.heap s L fl73 H locs → fl73 y = .inr (7, [.ref aWorlds, .ref aInWorld, .ref aKind, .ref aSize, .ref aMarks, .ref aSeed, .ref aContents, .ref aContentMany, .ref aRow, .ref aBits, .ref aLayerSize, .ref aLayerCame, .ref aRest, .ref aRestMany, .int many, .ref aCome, .ref aRivals, .ref aGone, .ref aOrder, .ref aOffAt, .ref aIsOff, .ref aAlone, .ref aKept]) → fl73 aWorlds = .inl (g 1, 8000, .inr (.inl vWorlds)) → fl73 aInWorld = .inl (g 0, 8, .inl vInWorld) → fl73 aKind = .inl (g 0, 30, .inl vKind) → fl73 aSize = .inl (g 0, 30, .inl vSize) → fl73 aMarks = .inl (g 0, 30, .inl vMarks) → fl73 aSeed = .inl (g 0, 30, .inl vSeed) → fl73 aContents = .inl (g 1, 30000, .inr (.inl vContents)) → fl73 aContentMany = .inl (g 0, 30, .inl vContentMany) → fl73 aRow = .inl (g 0, 122880, .inl vRow) → fl73 aBits = .inl (g 0, 76800, .inl vBits) → fl73 aLayerSize = .inl (g 0, 600, .inl vLayerSize) → fl73 aLayerCame = .inl (g 0, 600, .inl vLayerCame) → fl73 aRest = .inl (g 1, 30000, .inr (.inl vRest)) → fl73 aRestMany = .inl (g 0, 30, .inl vRestMany) → fl73 aCome = .inl (g 1, 1000, .inr (.inl vCome)) → fl73 aRivals = .inl (g 1, 1000, .inr (.inl vRivals)) → fl73 aGone = .inl (g 1, 1000, .inr (.inl vGone)) → fl73 aOrder = .inl (g 0, 1000, .inl vOrder) → fl73 aOffAt = .inl (g 0, 1000, .inl vOffAt) → fl73 aIsOff = .inl (g 2, 1000, .inl (upd caIsOff_36 (Int32.toNatClampNeg x5_36) (vp_nar .boolean (0 : Int32)))) → fl73 aAlone = .inl (g 0, 4096, .inl caAlone_73) → fl73 aKept = .inl (g 0, 4096, .inl vKept) → (∀ b, b ∈ L → b ≠ aOrder → b ≠ aOffAt → b ≠ aIsOff → b ≠ aAlone → fl73 b = f b) → lv_has ls 9 [(8, .int x8_73), (6, .long z65), (5, .int x5_36), (4, .int (vInWorld (Int32.toNatClampNeg wi))), (0, .ref y), (1, .int wi), (2, .int by_), (3, .int cq)] → W p l e { frames := 1, cells := 0, slots := 0, locals := 24 } s m [.ref y, .int wi, .int by_, .int cq].toArray below meth c H locs 0 0 QQ (F0 m 73 ls []) := by
            intro fu
            induction fu with
            | zero => intro x8_73 caAlone_73 fl73 H locs ls ho73 S e_y e_aWorlds e_aInWorld e_aKind e_aSize e_aMarks e_aSeed e_aContents e_aContentMany e_aRow e_aBits e_aLayerSize e_aLayerCame e_aRest e_aRestMany e_aCome e_aRivals e_aGone e_aOrder e_aOffAt e_aIsOff e_aAlone e_aKept fr hl; exact no_some ho73
            | succ fu ih73 =>
              intro x8_73 caAlone_73 fl73 H locs ls ho73 S e_y e_aWorlds e_aInWorld e_aKind e_aSize e_aMarks e_aSeed e_aContents e_aContentMany e_aRow e_aBits e_aLayerSize e_aLayerCame e_aRest e_aRestMany e_aCome e_aRivals e_aGone e_aOrder e_aOffAt e_aIsOff e_aAlone e_aKept fr hl
              rw [mX9_takeOff_L73] at ho73
              refine lv_iload hx hb dX9_takeOff_73 (lv_at hl 0 rfl) ?_
              refine lv_iconst (v := (3 : Int32)) hx hb dX9_takeOff_75 (by decide) ?_
              refine lv_icmp_ge (tgt := 102) hx hb dX9_takeOff_76 (by decide) (fun b76 => ?_) (fun b76 => ?_)
              · have ho73 := itT b76 ho73
                obtain rfl := Option.some.inj ho73
                exact EX73 fl73 _ _ _ S e_y e_aWorlds e_aInWorld e_aKind e_aSize e_aMarks e_aSeed e_aContents e_aContentMany e_aRow e_aBits e_aLayerSize e_aLayerCame e_aRest e_aRestMany e_aCome e_aRivals e_aGone e_aOrder e_aOffAt e_aIsOff e_aAlone e_aKept fr (lv_sub hl [2, 3, 4, 5, 6, 7] rfl)
              · have ho73 := itF b76 ho73
                refine lv_aload_n hx hb dX9_takeOff_79 rfl (lv_at hl 4 rfl) ?_
                refine q_get hx hb hts in_X9 hown S m_y e_y (C := RX9) (T := TX9) (N := 23) rfl 21 (by decide) rfl (hts (.fieldLink RX9 74 "SieveCabinetModel" "alone" "[I") (by decide +kernel)) dX9_takeOff_80 ?_
                refine lv_lload hx hb dX9_takeOff_83 (lv_at hl 1 rfl) ?_
                refine lv_iload hx hb dX9_takeOff_85 (lv_at hl 0 rfl) ?_
                refine lv_iload_n hx hb dX9_takeOff_87 rfl (lv_at hl 7 rfl) ?_
                obtain ⟨z88, hz88, ho73⟩ := bind_some ho73
                refine q_si (As := [.long z65, .int x8_73, .int cq]) (rest := [.ref aAlone]) ⟨hx, hb, hml, hown, hts⟩ (k_X9_solvedPlace l D g hz88) (va_cwS 3 hts gX9_takeOff_X9_solvedPlace rfl rfl rfl (by decide +kernel) ⟨Nat.le_of_ble_eq_true rfl, Nat.le_of_ble_eq_true rfl⟩) S rfl hl.1 rfl (Nat.le_of_ble_eq_true rfl) dX9_takeOff_88 ⟨Nat.le_of_ble_eq_true rfl, Nat.le_of_ble_eq_true rfl⟩ (fun r23 L21 f22 H locs S w88 => ?_)
                obtain ⟨ex88, eL, ef⟩ := w88
                rw [eL, ef] at S
                replace ex88 := ex88.symm
                subst ex88
                refine lv_dup2_11 hx hb dX9_takeOff_91 rfl rfl ?_
                obtain ⟨hi92, ho73⟩ := ckx ho73
                refine q_iald hx hb S m_aAlone e_aAlone hi92 dX9_takeOff_92 ?_
                refine lv_iconst (v := (1 : Int32)) hx hb dX9_takeOff_93 (by decide) ?_
                refine lv_iadd hx hb dX9_takeOff_94 ?_
                obtain ⟨hi95, ho73⟩ := ckx ho73
                refine k_iast hx hb S m_aAlone e_aAlone hi95 dX9_takeOff_95 (fun f24 ef24 H locs S => ?_)
                have e_aAlone := up_self ef24
                have fr : ∀ b, b ∈ L → b ≠ aOrder → b ≠ aOffAt → b ≠ aIsOff → b ≠ aAlone → f24 b = f b := fun b mb nb0 nb1 nb2 nb3 => (up_ne ef24 nb3 rfl).trans (fr b mb nb0 nb1 nb2 nb3)
                refine lv_iinc (v := (x8_73 + 1)) (lv' := [(8, .int (x8_73 + 1)), (6, .long z65), (5, .int x5_36), (4, .int (vInWorld (Int32.toNatClampNeg wi))), (0, .ref y), (1, .int wi), (2, .int by_), (3, .int cq)]) hx hb dX9_takeOff_96 hl (k := 0) rfl rfl (by decide) rfl (fun ls hl => ?_)
                refine lv_goto (tgt := 73) hx hb dX9_takeOff_99 (by decide) ?_
                have e_y := (up_ne ef24 n_y_aAlone e_y)
                have e_aWorlds := (up_ne ef24 n_aWorlds_aAlone e_aWorlds)
                have e_aInWorld := (up_ne ef24 n_aInWorld_aAlone e_aInWorld)
                have e_aKind := (up_ne ef24 n_aKind_aAlone e_aKind)
                have e_aSize := (up_ne ef24 n_aSize_aAlone e_aSize)
                have e_aMarks := (up_ne ef24 n_aMarks_aAlone e_aMarks)
                have e_aSeed := (up_ne ef24 n_aSeed_aAlone e_aSeed)
                have e_aContents := (up_ne ef24 n_aContents_aAlone e_aContents)
                have e_aContentMany := (up_ne ef24 n_aContentMany_aAlone e_aContentMany)
                have e_aRow := (up_ne ef24 n_aRow_aAlone e_aRow)
                have e_aBits := (up_ne ef24 n_aBits_aAlone e_aBits)
                have e_aLayerSize := (up_ne ef24 n_aLayerSize_aAlone e_aLayerSize)
                have e_aLayerCame := (up_ne ef24 n_aLayerCame_aAlone e_aLayerCame)
                have e_aRest := (up_ne ef24 n_aRest_aAlone e_aRest)
                have e_aRestMany := (up_ne ef24 n_aRestMany_aAlone e_aRestMany)
                have e_aCome := (up_ne ef24 n_aCome_aAlone e_aCome)
                have e_aRivals := (up_ne ef24 n_aRivals_aAlone e_aRivals)
                have e_aGone := (up_ne ef24 n_aGone_aAlone e_aGone)
                have e_aOrder := (up_ne ef24 n_aOrder_aAlone e_aOrder)
                have e_aOffAt := (up_ne ef24 n_aOffAt_aAlone e_aOffAt)
                have e_aIsOff := (up_ne ef24 n_aIsOff_aAlone e_aIsOff)
                have e_aKept := (up_ne ef24 n_aKept_aAlone e_aKept)
                exact ih73 (x8_73 + 1) (upd caAlone_73 (Int32.toNatClampNeg z88) ((caAlone_73 (Int32.toNatClampNeg z88)) + (1 : Int32))) f24 _ _ _ ho73 S e_y e_aWorlds e_aInWorld e_aKind e_aSize e_aMarks e_aSeed e_aContents e_aContentMany e_aRow e_aBits e_aLayerSize e_aLayerCame e_aRest e_aRestMany e_aCome e_aRivals e_aGone e_aOrder e_aOffAt e_aIsOff e_aAlone e_aKept fr (lv_sub hl [0, 1, 2, 3, 4, 5, 6, 7] rfl)
          exact LP73 FU (0 : Int32) caAlone_36 f17 _ _ _ ho73 S e_y e_aWorlds e_aInWorld e_aKind e_aSize e_aMarks e_aSeed e_aContents e_aContentMany e_aRow e_aBits e_aLayerSize e_aLayerCame e_aRest e_aRestMany e_aCome e_aRivals e_aGone e_aOrder e_aOffAt e_aIsOff e_aAlone e_aKept fr (lv_sub hl [0, 1, 2, 3, 4, 5, 6, 7] rfl)
    exact LP36 FU (0 : Int32) vIsOff o11.2 fl11 _ _ _ ho36 S e_y e_aWorlds e_aInWorld e_aKind e_aSize e_aMarks e_aSeed e_aContents e_aContentMany e_aRow e_aBits e_aLayerSize e_aLayerCame e_aRest e_aRestMany e_aCome e_aRivals e_aGone e_aOrder e_aOffAt e_aIsOff e_aAlone e_aKept fr (lv_sub hl [0, 1, 2, 3, 4, 5] rfl)
  have LP11 : ∀ (fu : Nat) (x5_11 : Int32) (caAlone_11 : Nat → Int32) (fl11 : Nat → va_E) (H : Heap) (locs : List Loc) (ls : Array Slot), (mX9_takeOff_L11 cq) fu x5_11 caAlone_11 = some o11 → PS D g (va_A (va_pl L f) szz) s.heap s L fl11 H locs → fl11 y = .inr (7, [.ref aWorlds, .ref aInWorld, .ref aKind, .ref aSize, .ref aMarks, .ref aSeed, .ref aContents, .ref aContentMany, .ref aRow, .ref aBits, .ref aLayerSize, .ref aLayerCame, .ref aRest, .ref aRestMany, .int many, .ref aCome, .ref aRivals, .ref aGone, .ref aOrder, .ref aOffAt, .ref aIsOff, .ref aAlone, .ref aKept]) → fl11 aWorlds = .inl (g 1, 8000, .inr (.inl vWorlds)) → fl11 aInWorld = .inl (g 0, 8, .inl vInWorld) → fl11 aKind = .inl (g 0, 30, .inl vKind) → fl11 aSize = .inl (g 0, 30, .inl vSize) → fl11 aMarks = .inl (g 0, 30, .inl vMarks) → fl11 aSeed = .inl (g 0, 30, .inl vSeed) → fl11 aContents = .inl (g 1, 30000, .inr (.inl vContents)) → fl11 aContentMany = .inl (g 0, 30, .inl vContentMany) → fl11 aRow = .inl (g 0, 122880, .inl vRow) → fl11 aBits = .inl (g 0, 76800, .inl vBits) → fl11 aLayerSize = .inl (g 0, 600, .inl vLayerSize) → fl11 aLayerCame = .inl (g 0, 600, .inl vLayerCame) → fl11 aRest = .inl (g 1, 30000, .inr (.inl vRest)) → fl11 aRestMany = .inl (g 0, 30, .inl vRestMany) → fl11 aCome = .inl (g 1, 1000, .inr (.inl vCome)) → fl11 aRivals = .inl (g 1, 1000, .inr (.inl vRivals)) → fl11 aGone = .inl (g 1, 1000, .inr (.inl vGone)) → fl11 aOrder = .inl (g 0, 1000, .inl vOrder) → fl11 aOffAt = .inl (g 0, 1000, .inl vOffAt) → fl11 aIsOff = .inl (g 2, 1000, .inl vIsOff) → fl11 aAlone = .inl (g 0, 4096, .inl caAlone_11) → fl11 aKept = .inl (g 0, 4096, .inl vKept) → (∀ b, b ∈ L → b ≠ aOrder → b ≠ aOffAt → b ≠ aIsOff → b ≠ aAlone → fl11 b = f b) → lv_has ls 9 [(5, .int x5_11), (4, .int (vInWorld (Int32.toNatClampNeg wi))), (0, .ref y), (1, .int wi), (2, .int by_), (3, .int cq)] → W p l e { frames := 1, cells := 0, slots := 0, locals := 24 } s m [.ref y, .int wi, .int by_, .int cq].toArray below meth c H locs 0 0 QQ (F0 m 11 ls []) := by
    intro fu
    induction fu with
    | zero => intro x5_11 caAlone_11 fl11 H locs ls ho11 S e_y e_aWorlds e_aInWorld e_aKind e_aSize e_aMarks e_aSeed e_aContents e_aContentMany e_aRow e_aBits e_aLayerSize e_aLayerCame e_aRest e_aRestMany e_aCome e_aRivals e_aGone e_aOrder e_aOffAt e_aIsOff e_aAlone e_aKept fr hl; exact no_some ho11
    | succ fu ih11 =>
      intro x5_11 caAlone_11 fl11 H locs ls ho11 S e_y e_aWorlds e_aInWorld e_aKind e_aSize e_aMarks e_aSeed e_aContents e_aContentMany e_aRow e_aBits e_aLayerSize e_aLayerCame e_aRest e_aRestMany e_aCome e_aRivals e_aGone e_aOrder e_aOffAt e_aIsOff e_aAlone e_aKept fr hl
      rw [mX9_takeOff_L11] at ho11
      refine lv_iload hx hb dX9_takeOff_11 (lv_at hl 0 rfl) ?_
      refine lv_iconst (v := (3 : Int32)) hx hb dX9_takeOff_13 (by decide) ?_
      refine lv_iload_n hx hb dX9_takeOff_14 rfl (lv_at hl 5 rfl) ?_
      refine lv_imul hx hb dX9_takeOff_15 ?_
      refine lv_icmp_ge (tgt := 33) hx hb dX9_takeOff_16 (by decide) (fun b16 => ?_) (fun b16 => ?_)
      · have ho11 := itT b16 ho11
        obtain rfl := Option.some.inj ho11
        exact EX11 fl11 _ _ _ S e_y e_aWorlds e_aInWorld e_aKind e_aSize e_aMarks e_aSeed e_aContents e_aContentMany e_aRow e_aBits e_aLayerSize e_aLayerCame e_aRest e_aRestMany e_aCome e_aRivals e_aGone e_aOrder e_aOffAt e_aIsOff e_aAlone e_aKept fr (lv_sub hl [1, 2, 3, 4, 5] rfl)
      · have ho11 := itF b16 ho11
        refine lv_aload_n hx hb dX9_takeOff_19 rfl (lv_at hl 2 rfl) ?_
        refine q_get hx hb hts in_X9 hown S m_y e_y (C := RX9) (T := TX9) (N := 23) rfl 21 (by decide) rfl (hts (.fieldLink RX9 74 "SieveCabinetModel" "alone" "[I") (by decide +kernel)) dX9_takeOff_20 ?_
        refine lv_iload hx hb dX9_takeOff_23 (lv_at hl 0 rfl) ?_
        refine lv_iconst (v := (0 : Int32)) hx hb dX9_takeOff_25 (by decide) ?_
        obtain ⟨hi26, ho11⟩ := ckx ho11
        refine k_iast hx hb S m_aAlone e_aAlone hi26 dX9_takeOff_26 (fun f25 ef25 H locs S => ?_)
        have e_aAlone := up_self ef25
        have fr : ∀ b, b ∈ L → b ≠ aOrder → b ≠ aOffAt → b ≠ aIsOff → b ≠ aAlone → f25 b = f b := fun b mb nb0 nb1 nb2 nb3 => (up_ne ef25 nb3 rfl).trans (fr b mb nb0 nb1 nb2 nb3)
        refine lv_iinc (v := (x5_11 + 1)) (lv' := [(5, .int (x5_11 + 1)), (4, .int (vInWorld (Int32.toNatClampNeg wi))), (0, .ref y), (1, .int wi), (2, .int by_), (3, .int cq)]) hx hb dX9_takeOff_27 hl (k := 0) rfl rfl (by decide) rfl (fun ls hl => ?_)
        refine lv_goto (tgt := 11) hx hb dX9_takeOff_30 (by decide) ?_
        have e_y := (up_ne ef25 n_y_aAlone e_y)
        have e_aWorlds := (up_ne ef25 n_aWorlds_aAlone e_aWorlds)
        have e_aInWorld := (up_ne ef25 n_aInWorld_aAlone e_aInWorld)
        have e_aKind := (up_ne ef25 n_aKind_aAlone e_aKind)
        have e_aSize := (up_ne ef25 n_aSize_aAlone e_aSize)
        have e_aMarks := (up_ne ef25 n_aMarks_aAlone e_aMarks)
        have e_aSeed := (up_ne ef25 n_aSeed_aAlone e_aSeed)
        have e_aContents := (up_ne ef25 n_aContents_aAlone e_aContents)
        have e_aContentMany := (up_ne ef25 n_aContentMany_aAlone e_aContentMany)
        have e_aRow := (up_ne ef25 n_aRow_aAlone e_aRow)
        have e_aBits := (up_ne ef25 n_aBits_aAlone e_aBits)
        have e_aLayerSize := (up_ne ef25 n_aLayerSize_aAlone e_aLayerSize)
        have e_aLayerCame := (up_ne ef25 n_aLayerCame_aAlone e_aLayerCame)
        have e_aRest := (up_ne ef25 n_aRest_aAlone e_aRest)
        have e_aRestMany := (up_ne ef25 n_aRestMany_aAlone e_aRestMany)
        have e_aCome := (up_ne ef25 n_aCome_aAlone e_aCome)
        have e_aRivals := (up_ne ef25 n_aRivals_aAlone e_aRivals)
        have e_aGone := (up_ne ef25 n_aGone_aAlone e_aGone)
        have e_aOrder := (up_ne ef25 n_aOrder_aAlone e_aOrder)
        have e_aOffAt := (up_ne ef25 n_aOffAt_aAlone e_aOffAt)
        have e_aIsOff := (up_ne ef25 n_aIsOff_aAlone e_aIsOff)
        have e_aKept := (up_ne ef25 n_aKept_aAlone e_aKept)
        exact ih11 (x5_11 + 1) (upd caAlone_11 (Int32.toNatClampNeg x5_11) (0 : Int32)) f25 _ _ _ ho11 S e_y e_aWorlds e_aInWorld e_aKind e_aSize e_aMarks e_aSeed e_aContents e_aContentMany e_aRow e_aBits e_aLayerSize e_aLayerCame e_aRest e_aRestMany e_aCome e_aRivals e_aGone e_aOrder e_aOffAt e_aIsOff e_aAlone e_aKept fr (lv_sub hl [0, 1, 2, 3, 4, 5] rfl)
  exact LP11 FU (0 : Int32) vAlone f _ _ _ ho11 S e_y e_aWorlds e_aInWorld e_aKind e_aSize e_aMarks e_aSeed e_aContents e_aContentMany e_aRow e_aBits e_aLayerSize e_aLayerCame e_aRest e_aRestMany e_aCome e_aRivals e_aGone e_aOrder e_aOffAt e_aIsOff e_aAlone e_aKept fr (lv_sub hl [0, 1, 2, 3, 4, 5] rfl)
