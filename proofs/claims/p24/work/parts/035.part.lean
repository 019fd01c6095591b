def mX9_lets (many : Int32) (vKind : Nat → Int32) (vSize : Nat → Int32) (vMarks : Nat → Int32) (vSeed : Nat → Int32) (vRow : Nat → Int32) (vBits : Nat → Int32) (vLayerSize : Nat → Int32) (vRest : Nat → Int64) (vRestMany : Nat → Int32) (sq : Int32) (t : Int64) : Option (Int32) := (mX9_is many sq).bind fun z2 => if z2 = 0 then (some (-1 : Int32)) else ((mX9_letsThrough vKind vSize vMarks vSeed vRow vBits vLayerSize vRest vRestMany sq t).bind fun z11 => if z11 = 0 then (some (0 : Int32)) else (some (1 : Int32)))
set_option maxHeartbeats 4000000 in
set_option maxRecDepth 100000 in
theorem k_X9_lets (l : Launch) (D : va_G) (g : Nat → ClassId) {L : List Nat} {f : Nat → va_E} {aAlone aBits aCome aContentMany aContents aGone aInWorld aIsOff aKept aKind aLayerCame aLayerSize aMarks aOffAt aOrder aRest aRestMany aRivals aRow aSeed aSize aWorlds y : Nat} {many : Int32} {vKind : Nat → Int32} {vSize : Nat → Int32} {vMarks : Nat → Int32} {vSeed : Nat → Int32} {vRow : Nat → Int32} {vBits : Nat → Int32} {vLayerSize : Nat → Int32} {vRest : Nat → Int64} {vRestMany : Nat → Int32} {sq : Int32} {t : Int64} {z : Int32} (m_y : y ∈ L) (e_y : f y = .inr (7, [.ref aWorlds, .ref aInWorld, .ref aKind, .ref aSize, .ref aMarks, .ref aSeed, .ref aContents, .ref aContentMany, .ref aRow, .ref aBits, .ref aLayerSize, .ref aLayerCame, .ref aRest, .ref aRestMany, .int many, .ref aCome, .ref aRivals, .ref aGone, .ref aOrder, .ref aOffAt, .ref aIsOff, .ref aAlone, .ref aKept])) (m_aKind : aKind ∈ L) (e_aKind : f aKind = .inl (g 0, 30, .inl vKind)) (m_aSize : aSize ∈ L) (e_aSize : f aSize = .inl (g 0, 30, .inl vSize)) (m_aMarks : aMarks ∈ L) (e_aMarks : f aMarks = .inl (g 0, 30, .inl vMarks)) (m_aSeed : aSeed ∈ L) (e_aSeed : f aSeed = .inl (g 0, 30, .inl vSeed)) (m_aRow : aRow ∈ L) (e_aRow : f aRow = .inl (g 0, 122880, .inl vRow)) (m_aBits : aBits ∈ L) (e_aBits : f aBits = .inl (g 0, 76800, .inl vBits)) (m_aLayerSize : aLayerSize ∈ L) (e_aLayerSize : f aLayerSize = .inl (g 0, 600, .inl vLayerSize)) (m_aRest : aRest ∈ L) (e_aRest : f aRest = .inl (g 1, 30000, .inr (.inl vRest))) (m_aRestMany : aRestMany ∈ L) (e_aRestMany : f aRestMany = .inl (g 0, 30, .inl vRestMany))    (hM : mX9_lets many vKind vSize vMarks vSeed vRow vBits vLayerSize vRest vRestMany sq t = some z) : cI l yX9_lets wsX9_lets { frames := 4, cells := 0, slots := 0, locals := 110 } D g [.ref y, .int sq, .long t] L f 0 0 (fun x L1 f1 => x = z ∧ L1 = L ∧ f1 = f) := by
  refine cI_of (cc := cX9_lets) (maxL := 4) (ret := (some .int)) (by decide) rfl (Nat.le_of_ble_eq_true rfl) ?_
  intro szz p e s m below meth c hx hb hr hml hts hown hlk hnm S ls hl
  have hl : lv_has ls 4 [(0, .ref y), (1, .int sq), (2, .long t)] := hl
  unfold mX9_lets at hM
  refine W_gen (fun QQ hQQ => ?_)
  refine lv_aload_n hx hb dX9_lets_0 rfl (lv_at hl 0 rfl) ?_
  refine lv_iload_n hx hb dX9_lets_1 rfl (lv_at hl 1 rfl) ?_
  obtain ⟨z2, hz2, hM⟩ := bind_some hM
  refine q_vi (As := [.int sq]) (rest := []) ⟨hx, hb, hml, hown, hts⟩ (k_X9_is l D g m_y e_y hz2) (cwV 1 hts gX9_lets_X9_is rfl rfl rfl (by decide +kernel) ⟨Nat.le_of_ble_eq_true rfl, Nat.le_of_ble_eq_true rfl⟩) S m_y e_y (T := TX9) (N := 23) rfl rfl hl.1 rfl (Nat.le_of_ble_eq_true rfl) dX9_lets_2 ⟨Nat.le_of_ble_eq_true rfl, Nat.le_of_ble_eq_true rfl⟩ (fun r3 L1 f2 H locs S w2 => ?_)
  obtain ⟨ex2, eL, ef⟩ := w2
  rw [eL, ef] at S
  replace ex2 := ex2.symm
  subst ex2
  refine lv_if_eq (tgt := 25) hx hb dX9_lets_5 (by decide) (fun b5 => ?_) (fun b5 => ?_)
  · have hM := itT b5 hM
    refine lv_iconst (v := (-1 : Int32)) hx hb dX9_lets_25 (by decide) ?_
    subst hQQ
    exact q_reti (post := fun x L1 f1 => x = z ∧ L1 = L ∧ f1 = f) hx hb hr hlk S dX9_lets_26 (by decide) (by decide) (by have hz := Option.some.inj hM; subst hz; exact ⟨rfl, rfl, rfl⟩)
  · have hM := itF b5 hM
    refine lv_aload_n hx hb dX9_lets_8 rfl (lv_at hl 0 rfl) ?_
    refine lv_iload_n hx hb dX9_lets_9 rfl (lv_at hl 1 rfl) ?_
    refine lv_lload_n hx hb dX9_lets_10 rfl (lv_at hl 2 rfl) ?_
    obtain ⟨z11, hz11, hM⟩ := bind_some hM
    refine q_vi (As := [.int sq, .long t]) (rest := []) ⟨hx, hb, hml, hown, hts⟩ (k_X9_letsThrough l D g m_y e_y m_aKind e_aKind m_aSize e_aSize m_aMarks e_aMarks m_aSeed e_aSeed m_aRow e_aRow m_aBits e_aBits m_aLayerSize e_aLayerSize m_aRest e_aRest m_aRestMany e_aRestMany hz11) (cwV 2 hts gX9_lets_X9_letsThrough rfl rfl rfl (by decide +kernel) ⟨Nat.le_of_ble_eq_true rfl, Nat.le_of_ble_eq_true rfl⟩) S m_y e_y (T := TX9) (N := 23) rfl rfl hl.1 rfl (Nat.le_of_ble_eq_true rfl) dX9_lets_11 ⟨Nat.le_of_ble_eq_true rfl, Nat.le_of_ble_eq_true rfl⟩ (fun r6 L4 f5 H locs S w11 => ?_)
    obtain ⟨ex11, eL, ef⟩ := w11
    rw [eL, ef] at S
    replace ex11 := ex11.symm
    subst ex11
    refine lv_if_eq (tgt := 21) hx hb dX9_lets_14 (by decide) (fun b14 => ?_) (fun b14 => ?_)
    · have hM := itT b14 hM
      refine lv_iconst (v := (0 : Int32)) hx hb dX9_lets_21 (by decide) ?_
      refine lv_goto (tgt := 26) hx hb dX9_lets_22 (by decide) ?_
      subst hQQ
      exact q_reti (post := fun x L1 f1 => x = z ∧ L1 = L ∧ f1 = f) hx hb hr hlk S dX9_lets_26 (by decide) (by decide) (by have hz := Option.some.inj hM; subst hz; exact ⟨rfl, rfl, rfl⟩)
    · have hM := itF b14 hM
      refine lv_iconst (v := (1 : Int32)) hx hb dX9_lets_17 (by decide) ?_
      refine lv_goto (tgt := 26) hx hb dX9_lets_18 (by decide) ?_
      subst hQQ
      exact q_reti (post := fun x L1 f1 => x = z ∧ L1 = L ∧ f1 = f) hx hb hr hlk S dX9_lets_26 (by decide) (by decide) (by have hz := Option.some.inj hM; subst hz; exact ⟨rfl, rfl, rfl⟩)

def mX9_falses_L22 (vWorlds : Nat → Int64) (vInWorld : Nat → Int32) (vKind : Nat → Int32) (vSize : Nat → Int32) (vMarks : Nat → Int32) (vSeed : Nat → Int32) (vContents : Nat → Int64) (vContentMany : Nat → Int32) (vRow : Nat → Int32) (vBits : Nat → Int32) (vLayerSize : Nat → Int32) (vRest : Nat → Int64) (vRestMany : Nat → Int32) (sq : Int32) (wi : Int32) : Nat → Int32 → Int32 → Option (Int32 × Int32)
  | 0, _, _ => none
  | fu + 1, x4_22, x3_22 => if ix wi 8 = true then (if (vInWorld (Int32.toNatClampNeg wi)) ≤ x4_22 then (some (x4_22, x3_22)) else (if ix ((wi * (1000 : Int32)) + x4_22) 8000 = true then (lt_ (vWorlds (Int32.toNatClampNeg ((wi * (1000 : Int32)) + x4_22))) fun y46 => (mX9_letsThrough vKind vSize vMarks vSeed vRow vBits vLayerSize vRest vRestMany sq y46).bind fun z53 => if z53 = 0 then (mX9_falses_L22 vWorlds vInWorld vKind vSize vMarks vSeed vContents vContentMany vRow vBits vLayerSize vRest vRestMany sq wi fu (x4_22 + 1) (x3_22 + (0 : Int32))) else ((mX9_timesIn vContents vContentMany sq y46).bind fun z63 => if z63 = 0 then (mX9_falses_L22 vWorlds vInWorld vKind vSize vMarks vSeed vContents vContentMany vRow vBits vLayerSize vRest vRestMany sq wi fu (x4_22 + 1) (x3_22 + (1 : Int32))) else (mX9_falses_L22 vWorlds vInWorld vKind vSize vMarks vSeed vContents vContentMany vRow vBits vLayerSize vRest vRestMany sq wi fu (x4_22 + 1) (x3_22 + (0 : Int32))))) else none)) else none
def mX9_falses (many : Int32) (vWorlds : Nat → Int64) (vInWorld : Nat → Int32) (vKind : Nat → Int32) (vSize : Nat → Int32) (vMarks : Nat → Int32) (vSeed : Nat → Int32) (vContents : Nat → Int64) (vContentMany : Nat → Int32) (vRow : Nat → Int32) (vBits : Nat → Int32) (vLayerSize : Nat → Int32) (vRest : Nat → Int64) (vRestMany : Nat → Int32) (sq : Int32) (wi : Int32) : Option (Int32) := (mX9_is many sq).bind fun z2 => if z2 = 0 then (some (-1 : Int32)) else ((mX9_isWorld wi).bind fun z9 => if z9 = 0 then (some (-1 : Int32)) else ((mX9_falses_L22 vWorlds vInWorld vKind vSize vMarks vSeed vContents vContentMany vRow vBits vLayerSize vRest vRestMany sq wi FU (0 : Int32) (0 : Int32)).bind fun o22 => some o22.2))
set_option maxHeartbeats 4000000 in
set_option maxRecDepth 100000 in
theorem k_X9_falses (l : Launch) (D : va_G) (g : Nat → ClassId) {L : List Nat} {f : Nat → va_E} {aAlone aBits aCome aContentMany aContents aGone aInWorld aIsOff aKept aKind aLayerCame aLayerSize aMarks aOffAt aOrder aRest aRestMany aRivals aRow aSeed aSize aWorlds y : Nat} {many : Int32} {vWorlds : Nat → Int64} {vInWorld : Nat → Int32} {vKind : Nat → Int32} {vSize : Nat → Int32} {vMarks : Nat → Int32} {vSeed : Nat → Int32} {vContents : Nat → Int64} {vContentMany : Nat → Int32} {vRow : Nat → Int32} {vBits : Nat → Int32} {vLayerSize : Nat → Int32} {vRest : Nat → Int64} {vRestMany : Nat → Int32} {sq : Int32} {wi : Int32} {z : Int32} (m_y : y ∈ L) (e_y : f y = .inr (7, [.ref aWorlds, .ref aInWorld, .ref aKind, .ref aSize, .ref aMarks, .ref aSeed, .ref aContents, .ref aContentMany, .ref aRow, .ref aBits, .ref aLayerSize, .ref aLayerCame, .ref aRest, .ref aRestMany, .int many, .ref aCome, .ref aRivals, .ref aGone, .ref aOrder, .ref aOffAt, .ref aIsOff, .ref aAlone, .ref aKept])) (m_aWorlds : aWorlds ∈ L) (e_aWorlds : f aWorlds = .inl (g 1, 8000, .inr (.inl vWorlds))) (m_aInWorld : aInWorld ∈ L) (e_aInWorld : f aInWorld = .inl (g 0, 8, .inl vInWorld)) (m_aKind : aKind ∈ L) (e_aKind : f aKind = .inl (g 0, 30, .inl vKind)) (m_aSize : aSize ∈ L) (e_aSize : f aSize = .inl (g 0, 30, .inl vSize)) (m_aMarks : aMarks ∈ L) (e_aMarks : f aMarks = .inl (g 0, 30, .inl vMarks)) (m_aSeed : aSeed ∈ L) (e_aSeed : f aSeed = .inl (g 0, 30, .inl vSeed)) (m_aContents : aContents ∈ L) (e_aContents : f aContents = .inl (g 1, 30000, .inr (.inl vContents))) (m_aContentMany : aContentMany ∈ L) (e_aContentMany : f aContentMany = .inl (g 0, 30, .inl vContentMany)) (m_aRow : aRow ∈ L) (e_aRow : f aRow = .inl (g 0, 122880, .inl vRow)) (m_aBits : aBits ∈ L) (e_aBits : f aBits = .inl (g 0, 76800, .inl vBits)) (m_aLayerSize : aLayerSize ∈ L) (e_aLayerSize : f aLayerSize = .inl (g 0, 600, .inl vLayerSize)) (m_aRest : aRest ∈ L) (e_aRest : f aRest = .inl (g 1, 30000, .inr (.inl vRest))) (m_aRestMany : aRestMany ∈ L) (e_aRestMany : f aRestMany = .inl (g 0, 30, .inl vRestMany))    (hM : mX9_falses many vWorlds vInWorld vKind vSize vMarks vSeed vContents vContentMany vRow vBits vLayerSize vRest vRestMany sq wi = some z) : cI l yX9_falses wsX9_falses { frames := 4, cells := 0, slots := 0, locals := 110 } D g [.ref y, .int sq, .int wi] L f 0 0 (fun x L1 f1 => x = z ∧ L1 = L ∧ f1 = f) := by
  refine cI_of (cc := cX9_falses) (maxL := 7) (ret := (some .int)) (by decide) rfl (Nat.le_of_ble_eq_true rfl) ?_
  intro szz p e s m below meth c hx hb hr hml hts hown hlk hnm S ls hl
  have hl : lv_has ls 7 [(0, .ref y), (1, .int sq), (2, .int wi)] := hl
  have in_X9 : ∀ w ∈ wsX90, w ∈ wsX9_falses := by decide +kernel
  unfold mX9_falses at hM
  refine W_gen (fun QQ hQQ => ?_)
  refine lv_aload_n hx hb dX9_falses_0 rfl (lv_at hl 0 rfl) ?_
  refine lv_iload_n hx hb dX9_falses_1 rfl (lv_at hl 1 rfl) ?_
  obtain ⟨z2, hz2, hM⟩ := bind_some hM
  refine q_vi (As := [.int sq]) (rest := []) ⟨hx, hb, hml, hown, hts⟩ (k_X9_is l D g m_y e_y hz2) (cwV 1 hts gX9_falses_X9_is rfl rfl rfl (by decide +kernel) ⟨Nat.le_of_ble_eq_true rfl, Nat.le_of_ble_eq_true rfl⟩) S m_y e_y (T := TX9) (N := 23) rfl rfl hl.1 rfl (Nat.le_of_ble_eq_true rfl) dX9_falses_2 ⟨Nat.le_of_ble_eq_true rfl, Nat.le_of_ble_eq_true rfl⟩ (fun r3 L1 f2 H locs S w2 => ?_)
  obtain ⟨ex2, eL, ef⟩ := w2
  rw [eL, ef] at S
  replace ex2 := ex2.symm
  subst ex2
  refine lv_if_eq (tgt := 15) hx hb dX9_falses_5 (by decide) (fun b5 => ?_) (fun b5 => ?_)
  · have hM := itT b5 hM
    refine lv_iconst (v := (-1 : Int32)) hx hb dX9_falses_15 (by decide) ?_
    subst hQQ
    exact q_reti (post := fun x L1 f1 => x = z ∧ L1 = L ∧ f1 = f) hx hb hr hlk S dX9_falses_16 (by decide) (by decide) (by have hz := Option.some.inj hM; subst hz; exact ⟨rfl, rfl, rfl⟩)
  · have hM := itF b5 hM
    refine lv_iload_n hx hb dX9_falses_8 rfl (lv_at hl 2 rfl) ?_
    obtain ⟨z9, hz9, hM⟩ := bind_some hM
    refine q_si (As := [.int wi]) (rest := []) ⟨hx, hb, hml, hown, hts⟩ (k_X9_isWorld l D g hz9) (va_cwS 1 hts gX9_falses_X9_isWorld rfl rfl rfl (by decide +kernel) ⟨Nat.le_of_ble_eq_true rfl, Nat.le_of_ble_eq_true rfl⟩) S rfl hl.1 rfl (Nat.le_of_ble_eq_true rfl) dX9_falses_9 ⟨Nat.le_of_ble_eq_true rfl, Nat.le_of_ble_eq_true rfl⟩ (fun r6 L4 f5 H locs S w9 => ?_)
    obtain ⟨ex9, eL, ef⟩ := w9
    rw [eL, ef] at S
    replace ex9 := ex9.symm
    subst ex9
    refine lv_if_ne (tgt := 17) hx hb dX9_falses_12 (by decide) (fun b12 => ?_) (fun b12 => ?_)
    · have hM := itF b12 hM
      refine lv_iconst (v := (0 : Int32)) hx hb dX9_falses_17 (by decide) ?_
      refine lv_istore_n (lv' := [(3, .int (0 : Int32)), (0, .ref y), (1, .int sq), (2, .int wi)]) hx hb dX9_falses_18 rfl hl (by decide) rfl (fun ls hl => ?_)
      refine lv_iconst (v := (0 : Int32)) hx hb dX9_falses_19 (by decide) ?_
      refine lv_istore (lv' := [(4, .int (0 : Int32)), (3, .int (0 : Int32)), (0, .ref y), (1, .int sq), (2, .int wi)]) hx hb dX9_falses_20 hl (by decide) rfl (fun ls hl => ?_)
      obtain ⟨o22, ho22, hM⟩ := bind_some hM
      have EX22 : ∀ (H : Heap) (locs : List Loc) (ls : Array Slot), PS D g (va_A (va_pl L f) szz) s.heap s L f H locs → lv_has ls 7 [(3, .int o22.2)] → W p l e { frames := 4, cells := 0, slots := 0, locals := 110 } s m [.ref y, .int sq, .int wi].toArray below meth c H locs 0 0 QQ (F0 m 82 ls []) := by
        intro H locs ls S hl
        refine lv_iload_n hx hb dX9_falses_82 rfl (lv_at hl 0 rfl) ?_
        subst hQQ
        exact q_reti (post := fun x L1 f1 => x = z ∧ L1 = L ∧ f1 = f) hx hb hr hlk S dX9_falses_83 (by decide) (by decide) (by have hz := Option.some.inj hM; subst hz; exact ⟨rfl, rfl, rfl⟩)
      have LP22 : ∀ (fu : Nat) (x4_22 : Int32) (x3_22 : Int32) (H : Heap) (locs : List Loc) (ls : Array Slot), (mX9_falses_L22 vWorlds vInWorld vKind vSize vMarks vSeed vContents vContentMany vRow vBits vLayerSize vRest vRestMany sq wi) fu x4_22 x3_22 = some o22 → PS D g (va_A (va_pl L f) szz) s.heap s L f H locs → lv_has ls 7 [(4, .int x4_22), (3, .int x3_22), (0, .ref y), (1, .int sq), (2, .int wi)] → W p l e { frames := 4, cells := 0, slots := 0, locals := 110 } s m [.ref y, .int sq, .int wi].toArray below meth c H locs 0 0 QQ (F0 m 22 ls []) := by
        intro fu
        induction fu with
        | zero => intro x4_22 x3_22 H locs ls ho22 S hl; exact no_some ho22
        | succ fu ih22 =>
          intro x4_22 x3_22 H locs ls ho22 S hl
          rw [mX9_falses_L22] at ho22
          refine lv_iload hx hb dX9_falses_22 (lv_at hl 0 rfl) ?_
          refine lv_aload_n hx hb dX9_falses_24 rfl (lv_at hl 2 rfl) ?_
          refine q_get hx hb hts in_X9 hown S m_y e_y (C := RX9) (T := TX9) (N := 23) rfl 1 (by decide) rfl (hts (.fieldLink RX9 13 "SieveCabinetModel" "inWorld" "[I") (by decide +kernel)) dX9_falses_25 ?_
          refine lv_iload_n hx hb dX9_falses_28 rfl (lv_at hl 4 rfl) ?_
          obtain ⟨hi29, ho22⟩ := ckx ho22
          refine q_iald hx hb S m_aInWorld e_aInWorld hi29 dX9_falses_29 ?_
          refine lv_icmp_ge (tgt := 82) hx hb dX9_falses_30 (by decide) (fun b30 => ?_) (fun b30 => ?_)
          · have ho22 := itT b30 ho22
            obtain rfl := Option.some.inj ho22
            exact EX22 _ _ _ S (lv_sub hl [1] rfl)
          · have ho22 := itF b30 ho22
            refine lv_aload_n hx hb dX9_falses_33 rfl (lv_at hl 2 rfl) ?_
            refine q_get hx hb hts in_X9 hown S m_y e_y (C := RX9) (T := TX9) (N := 23) rfl 0 (by decide) rfl (hts (.fieldLink RX9 9 "SieveCabinetModel" "worlds" "[J") (by decide +kernel)) dX9_falses_34 ?_
            refine lv_iload_n hx hb dX9_falses_37 rfl (lv_at hl 4 rfl) ?_
            refine lv_sipush (v := (1000 : Int32)) hx hb dX9_falses_38 (by decide) ?_
            refine lv_imul hx hb dX9_falses_41 ?_
            refine lv_iload hx hb dX9_falses_42 (lv_at hl 0 rfl) ?_
            refine lv_iadd hx hb dX9_falses_44 ?_
            obtain ⟨hi45, ho22⟩ := ckx ho22
            refine q_lald hx hb S m_aWorlds e_aWorlds hi45 dX9_falses_45 ?_
            refine lv_topl (fun y46 ey46 => ?_)
            have ho22 := lt_some ho22 ey46
            refine lv_lstore (lv' := [(5, .long y46), (4, .int x4_22), (3, .int x3_22), (0, .ref y), (1, .int sq), (2, .int wi)]) hx hb dX9_falses_46 hl (by decide) rfl (fun ls hl => ?_)
            refine lv_iload_n hx hb dX9_falses_48 rfl (lv_at hl 2 rfl) ?_
            refine lv_aload_n hx hb dX9_falses_49 rfl (lv_at hl 3 rfl) ?_
            refine lv_iload_n hx hb dX9_falses_50 rfl (lv_at hl 4 rfl) ?_
            refine lv_lload hx hb dX9_falses_51 (lv_at hl 0 rfl) ?_
            obtain ⟨z53, hz53, ho22⟩ := bind_some ho22
            refine q_vi (As := [.int sq, .long y46]) (rest := [.int x3_22]) ⟨hx, hb, hml, hown, hts⟩ (k_X9_letsThrough l D g m_y e_y m_aKind e_aKind m_aSize e_aSize m_aMarks e_aMarks m_aSeed e_aSeed m_aRow e_aRow m_aBits e_aBits m_aLayerSize e_aLayerSize m_aRest e_aRest m_aRestMany e_aRestMany hz53) (cwV 2 hts gX9_falses_X9_letsThrough rfl rfl rfl (by decide +kernel) ⟨Nat.le_of_ble_eq_true rfl, Nat.le_of_ble_eq_true rfl⟩) S m_y e_y (T := TX9) (N := 23) rfl rfl hl.1 rfl (Nat.le_of_ble_eq_true rfl) dX9_falses_53 ⟨Nat.le_of_ble_eq_true rfl, Nat.le_of_ble_eq_true rfl⟩ (fun r9 L7 f8 H locs S w53 => ?_)
            obtain ⟨ex53, eL, ef⟩ := w53
            rw [eL, ef] at S
            replace ex53 := ex53.symm
            subst ex53
            refine lv_if_eq (tgt := 73) hx hb dX9_falses_56 (by decide) (fun b56 => ?_) (fun b56 => ?_)
            · have ho22 := itT b56 ho22
              refine lv_iconst (v := (0 : Int32)) hx hb dX9_falses_73 (by decide) ?_
              refine lv_iadd hx hb dX9_falses_74 ?_
              refine lv_istore_n (lv' := [(3, .int (x3_22 + (0 : Int32))), (5, .long y46), (4, .int x4_22), (0, .ref y), (1, .int sq), (2, .int wi)]) hx hb dX9_falses_75 rfl hl (by decide) rfl (fun ls hl => ?_)
              refine lv_iinc (v := (x4_22 + 1)) (lv' := [(4, .int (x4_22 + 1)), (3, .int (x3_22 + (0 : Int32))), (5, .long y46), (0, .ref y), (1, .int sq), (2, .int wi)]) hx hb dX9_falses_76 hl (k := 2) rfl rfl (by decide) rfl (fun ls hl => ?_)
              refine lv_goto (tgt := 22) hx hb dX9_falses_79 (by decide) ?_
              exact ih22 (x4_22 + 1) (x3_22 + (0 : Int32)) _ _ _ ho22 S (lv_sub hl [0, 1, 3, 4, 5] rfl)
            · have ho22 := itF b56 ho22
              refine lv_aload_n hx hb dX9_falses_59 rfl (lv_at hl 3 rfl) ?_
              refine lv_iload_n hx hb dX9_falses_60 rfl (lv_at hl 4 rfl) ?_
              refine lv_lload hx hb dX9_falses_61 (lv_at hl 0 rfl) ?_
              obtain ⟨z63, hz63, ho22⟩ := bind_some ho22
              refine q_vi (As := [.int sq, .long y46]) (rest := [.int x3_22]) ⟨hx, hb, hml, hown, hts⟩ (k_X9_timesIn l D g m_y e_y m_aContents e_aContents m_aContentMany e_aContentMany hz63) (cwV 2 hts gX9_falses_X9_timesIn rfl rfl rfl (by decide +kernel) ⟨Nat.le_of_ble_eq_true rfl, Nat.le_of_ble_eq_true rfl⟩) S m_y e_y (T := TX9) (N := 23) rfl rfl hl.1 rfl (Nat.le_of_ble_eq_true rfl) dX9_falses_63 ⟨Nat.le_of_ble_eq_true rfl, Nat.le_of_ble_eq_true rfl⟩ (fun r12 L10 f11 H locs S w63 => ?_)
              obtain ⟨ex63, eL, ef⟩ := w63
              rw [eL, ef] at S
              replace ex63 := ex63.symm
              subst ex63
              refine lv_if_ne (tgt := 73) hx hb dX9_falses_66 (by decide) (fun b66 => ?_) (fun b66 => ?_)
              · have ho22 := itF b66 ho22
                refine lv_iconst (v := (0 : Int32)) hx hb dX9_falses_73 (by decide) ?_
                refine lv_iadd hx hb dX9_falses_74 ?_
                refine lv_istore_n (lv' := [(3, .int (x3_22 + (0 : Int32))), (5, .long y46), (4, .int x4_22), (0, .ref y), (1, .int sq), (2, .int wi)]) hx hb dX9_falses_75 rfl hl (by decide) rfl (fun ls hl => ?_)
                refine lv_iinc (v := (x4_22 + 1)) (lv' := [(4, .int (x4_22 + 1)), (3, .int (x3_22 + (0 : Int32))), (5, .long y46), (0, .ref y), (1, .int sq), (2, .int wi)]) hx hb dX9_falses_76 hl (k := 2) rfl rfl (by decide) rfl (fun ls hl => ?_)
                refine lv_goto (tgt := 22) hx hb dX9_falses_79 (by decide) ?_
                exact ih22 (x4_22 + 1) (x3_22 + (0 : Int32)) _ _ _ ho22 S (lv_sub hl [0, 1, 3, 4, 5] rfl)
              · have ho22 := itT b66 ho22
                refine lv_iconst (v := (1 : Int32)) hx hb dX9_falses_69 (by decide) ?_
                refine lv_goto (tgt := 74) hx hb dX9_falses_70 (by decide) ?_
                refine lv_iadd hx hb dX9_falses_74 ?_
                refine lv_istore_n (lv' := [(3, .int (x3_22 + (1 : Int32))), (5, .long y46), (4, .int x4_22), (0, .ref y), (1, .int sq), (2, .int wi)]) hx hb dX9_falses_75 rfl hl (by decide) rfl (fun ls hl => ?_)
                refine lv_iinc (v := (x4_22 + 1)) (lv' := [(4, .int (x4_22 + 1)), (3, .int (x3_22 + (1 : Int32))), (5, .long y46), (0, .ref y), (1, .int sq), (2, .int wi)]) hx hb dX9_falses_76 hl (k := 2) rfl rfl (by decide) rfl (fun ls hl => ?_)
                refine lv_goto (tgt := 22) hx hb dX9_falses_79 (by decide) ?_
                exact ih22 (x4_22 + 1) (x3_22 + (1 : Int32)) _ _ _ ho22 S (lv_sub hl [0, 1, 3, 4, 5] rfl)
      exact LP22 FU (0 : Int32) (0 : Int32) _ _ _ ho22 S (lv_sub hl [0, 1, 2, 3, 4] rfl)
    · have hM := itT b12 hM
      refine lv_iconst (v := (-1 : Int32)) hx hb dX9_falses_15 (by decide) ?_
      subst hQQ
      exact q_reti (post := fun x L1 f1 => x = z ∧ L1 = L ∧ f1 = f) hx hb hr hlk S dX9_falses_16 (by decide) (by decide) (by have hz := Option.some.inj hM; subst hz; exact ⟨rfl, rfl, rfl⟩)

def mX9_falseOne_L27 (vWorlds : Nat → Int64) (vInWorld : Nat → Int32) (vKind : Nat → Int32) (vSize : Nat → Int32) (vMarks : Nat → Int32) (vSeed : Nat → Int32) (vContents : Nat → Int64) (vContentMany : Nat → Int32) (vRow : Nat → Int32) (vBits : Nat → Int32) (vLayerSize : Nat → Int32) (vRest : Nat → Int64) (vRestMany : Nat → Int32) (sq : Int32) (wi : Int32) : Nat → Int32 → Int32 → Option ((Int64) ⊕ (Int32 × Int32))
  | 0, _, _ => none
  | fu + 1, x5_27, x4_27 => if ix wi 8 = true then (if (vInWorld (Int32.toNatClampNeg wi)) ≤ x5_27 then (some (.inr (x5_27, x4_27))) else (if ix ((wi * (1000 : Int32)) + x5_27) 8000 = true then (lt_ (vWorlds (Int32.toNatClampNeg ((wi * (1000 : Int32)) + x5_27))) fun y51 => (mX9_letsThrough vKind vSize vMarks vSeed vRow vBits vLayerSize vRest vRestMany sq y51).bind fun z57 => if z57 = 0 then (mX9_falseOne_L27 vWorlds vInWorld vKind vSize vMarks vSeed vContents vContentMany vRow vBits vLayerSize vRest vRestMany sq wi fu (x5_27 + 1) x4_27) else ((mX9_timesIn vContents vContentMany sq y51).bind fun z67 => if z67 = 0 then (if x4_27 = 0 then (some (.inl y51)) else (mX9_falseOne_L27 vWorlds vInWorld vKind vSize vMarks vSeed vContents vContentMany vRow vBits vLayerSize vRest vRestMany sq wi fu (x5_27 + 1) (x4_27 + (-1)))) else (mX9_falseOne_L27 vWorlds vInWorld vKind vSize vMarks vSeed vContents vContentMany vRow vBits vLayerSize vRest vRestMany sq wi fu (x5_27 + 1) x4_27))) else none)) else none
def mX9_falseOne (many : Int32) (vWorlds : Nat → Int64) (vInWorld : Nat → Int32) (vKind : Nat → Int32) (vSize : Nat → Int32) (vMarks : Nat → Int32) (vSeed : Nat → Int32) (vContents : Nat → Int64) (vContentMany : Nat → Int32) (vRow : Nat → Int32) (vBits : Nat → Int32) (vLayerSize : Nat → Int32) (vRest : Nat → Int64) (vRestMany : Nat → Int32) (sq : Int32) (wi : Int32) (i : Int32) : Option (Int64) := (mX9_is many sq).bind fun z2 => if z2 = 0 then (some (0 : Int64)) else ((mX9_isWorld wi).bind fun z9 => if z9 = 0 then (some (0 : Int64)) else (if 0 ≤ i then ((mX9_falseOne_L27 vWorlds vInWorld vKind vSize vMarks vSeed vContents vContentMany vRow vBits vLayerSize vRest vRestMany sq wi FU (0 : Int32) i).bind fun o27 => Sum.elim (fun r_ => some r_) (fun s27 => some (0 : Int64)) o27) else (some (0 : Int64))))
set_option maxHeartbeats 4000000 in
set_option maxRecDepth 100000 in
theorem k_X9_falseOne (l : Launch) (D : va_G) (g : Nat → ClassId) {L : List Nat} {f : Nat → va_E} {aAlone aBits aCome aContentMany aContents aGone aInWorld aIsOff aKept aKind aLayerCame aLayerSize aMarks aOffAt aOrder aRest aRestMany aRivals aRow aSeed aSize aWorlds y : Nat} {many : Int32} {vWorlds : Nat → Int64} {vInWorld : Nat → Int32} {vKind : Nat → Int32} {vSize : Nat → Int32} {vMarks : Nat → Int32} {vSeed : Nat → Int32} {vContents : Nat → Int64} {vContentMany : Nat → Int32} {vRow : Nat → Int32} {vBits : Nat → Int32} {vLayerSize : Nat → Int32} {vRest : Nat → Int64} {vRestMany : Nat → Int32} {sq : Int32} {wi : Int32} {i : Int32} {z : Int64} (m_y : y ∈ L) (e_y : f y = .inr (7, [.ref aWorlds, .ref aInWorld, .ref aKind, .ref aSize, .ref aMarks, .ref aSeed, .ref aContents, .ref aContentMany, .ref aRow, .ref aBits, .ref aLayerSize, .ref aLayerCame, .ref aRest, .ref aRestMany, .int many, .ref aCome, .ref aRivals, .ref aGone, .ref aOrder, .ref aOffAt, .ref aIsOff, .ref aAlone, .ref aKept])) (m_aWorlds : aWorlds ∈ L) (e_aWorlds : f aWorlds = .inl (g 1, 8000, .inr (.inl vWorlds))) (m_aInWorld : aInWorld ∈ L) (e_aInWorld : f aInWorld = .inl (g 0, 8, .inl vInWorld)) (m_aKind : aKind ∈ L) (e_aKind : f aKind = .inl (g 0, 30, .inl vKind)) (m_aSize : aSize ∈ L) (e_aSize : f aSize = .inl (g 0, 30, .inl vSize)) (m_aMarks : aMarks ∈ L) (e_aMarks : f aMarks = .inl (g 0, 30, .inl vMarks)) (m_aSeed : aSeed ∈ L) (e_aSeed : f aSeed = .inl (g 0, 30, .inl vSeed)) (m_aContents : aContents ∈ L) (e_aContents : f aContents = .inl (g 1, 30000, .inr (.inl vContents))) (m_aContentMany : aContentMany ∈ L) (e_aContentMany : f aContentMany = .inl (g 0, 30, .inl vContentMany)) (m_aRow : aRow ∈ L) (e_aRow : f aRow = .inl (g 0, 122880, .inl vRow)) (m_aBits : aBits ∈ L) (e_aBits : f aBits = .inl (g 0, 76800, .inl vBits)) (m_aLayerSize : aLayerSize ∈ L) (e_aLayerSize : f aLayerSize = .inl (g 0, 600, .inl vLayerSize)) (m_aRest : aRest ∈ L) (e_aRest : f aRest = .inl (g 1, 30000, .inr (.inl vRest))) (m_aRestMany : aRestMany ∈ L) (e_aRestMany : f aRestMany = .inl (g 0, 30, .inl vRestMany))    (hM : mX9_falseOne many vWorlds vInWorld vKind vSize vMarks vSeed vContents vContentMany vRow vBits vLayerSize vRest vRestMany sq wi i = some z) : cL l yX9_falseOne wsX9_falseOne { frames := 4, cells := 0, slots := 0, locals := 110 } D g [.ref y, .int sq, .int wi, .int i] L f 0 0 (fun x L1 f1 => x = z ∧ L1 = L ∧ f1 = f) := by
  refine cL_of (cc := cX9_falseOne) (maxL := 8) (ret := (some .long)) (by decide) rfl (Nat.le_of_ble_eq_true rfl) ?_
  intro szz p e s m below meth c hx hb hr hml hts hown hlk hnm S ls hl
  have hl : lv_has ls 8 [(0, .ref y), (1, .int sq), (2, .int wi), (3, .int i)] := hl
  have in_X9 : ∀ w ∈ wsX90, w ∈ wsX9_falseOne := by decide +kernel
  unfold mX9_falseOne at hM
  refine W_gen (fun QQ hQQ => ?_)
  refine lv_aload_n hx hb dX9_falseOne_0 rfl (lv_at hl 0 rfl) ?_
  refine lv_iload_n hx hb dX9_falseOne_1 rfl (lv_at hl 1 rfl) ?_
  obtain ⟨z2, hz2, hM⟩ := bind_some hM
  refine q_vi (As := [.int sq]) (rest := []) ⟨hx, hb, hml, hown, hts⟩ (k_X9_is l D g m_y e_y hz2) (cwV 1 hts gX9_falseOne_X9_is rfl rfl rfl (by decide +kernel) ⟨Nat.le_of_ble_eq_true rfl, Nat.le_of_ble_eq_true rfl⟩) S m_y e_y (T := TX9) (N := 23) rfl rfl hl.1 rfl (Nat.le_of_ble_eq_true rfl) dX9_falseOne_2 ⟨Nat.le_of_ble_eq_true rfl, Nat.le_of_ble_eq_true rfl⟩ (fun r3 L1 f2 H locs S w2 => ?_)
  obtain ⟨ex2, eL, ef⟩ := w2
  rw [eL, ef] at S
  replace ex2 := ex2.symm
  subst ex2
  refine lv_if_eq (tgt := 19) hx hb dX9_falseOne_5 (by decide) (fun b5 => ?_) (fun b5 => ?_)
  · have hM := itT b5 hM
    refine lv_lconst (v := (0 : Int64)) hx hb dX9_falseOne_19 (by decide) ?_
    subst hQQ
    exact q_retl (post := fun x L1 f1 => x = z ∧ L1 = L ∧ f1 = f) hx hb hr hlk S dX9_falseOne_20 (by decide) (by decide) (by have hz := Option.some.inj hM; subst hz; exact ⟨rfl, rfl, rfl⟩)
  · have hM := itF b5 hM
    refine lv_iload_n hx hb dX9_falseOne_8 rfl (lv_at hl 2 rfl) ?_
    obtain ⟨z9, hz9, hM⟩ := bind_some hM
    refine q_si (As := [.int wi]) (rest := []) ⟨hx, hb, hml, hown, hts⟩ (k_X9_isWorld l D g hz9) (va_cwS 1 hts gX9_falseOne_X9_isWorld rfl rfl rfl (by decide +kernel) ⟨Nat.le_of_ble_eq_true rfl, Nat.le_of_ble_eq_true rfl⟩) S rfl hl.1 rfl (Nat.le_of_ble_eq_true rfl) dX9_falseOne_9 ⟨Nat.le_of_ble_eq_true rfl, Nat.le_of_ble_eq_true rfl⟩ (fun r6 L4 f5 H locs S w9 => ?_)
    obtain ⟨ex9, eL, ef⟩ := w9
    rw [eL, ef] at S
    replace ex9 := ex9.symm
    subst ex9
    refine lv_if_eq (tgt := 19) hx hb dX9_falseOne_12 (by decide) (fun b12 => ?_) (fun b12 => ?_)
    · have hM := itT b12 hM
      refine lv_lconst (v := (0 : Int64)) hx hb dX9_falseOne_19 (by decide) ?_
      subst hQQ
      exact q_retl (post := fun x L1 f1 => x = z ∧ L1 = L ∧ f1 = f) hx hb hr hlk S dX9_falseOne_20 (by decide) (by decide) (by have hz := Option.some.inj hM; subst hz; exact ⟨rfl, rfl, rfl⟩)
    · have hM := itF b12 hM
      refine lv_iload_n hx hb dX9_falseOne_15 rfl (lv_at hl 3 rfl) ?_
      refine lv_if_ge (tgt := 21) hx hb dX9_falseOne_16 (by decide) (fun b16 => ?_) (fun b16 => ?_)
      · have hM := itT b16 hM
        refine lv_iload_n hx hb dX9_falseOne_21 rfl (lv_at hl 3 rfl) ?_
        refine lv_istore (lv' := [(4, .int i), (0, .ref y), (1, .int sq), (2, .int wi), (3, .int i)]) hx hb dX9_falseOne_22 hl (by decide) rfl (fun ls hl => ?_)
        refine lv_iconst (v := (0 : Int32)) hx hb dX9_falseOne_24 (by decide) ?_
        refine lv_istore (lv' := [(5, .int (0 : Int32)), (4, .int i), (0, .ref y), (1, .int sq), (2, .int wi), (3, .int i)]) hx hb dX9_falseOne_25 hl (by decide) rfl (fun ls hl => ?_)
        obtain ⟨o27, ho27, hM⟩ := bind_some hM
        have EX27 : ∀ (s27 : Int32 × Int32), o27 = .inr s27 → ∀ (H : Heap) (locs : List Loc) (ls : Array Slot), PS D g (va_A (va_pl L f) szz) s.heap s L f H locs → lv_has ls 8 [] → W p l e { frames := 4, cells := 0, slots := 0, locals := 110 } s m [.ref y, .int sq, .int wi, .int i].toArray below meth c H locs 0 0 QQ (F0 m 90 ls []) := by
          intro s27 eo27
          rw [eo27] at hM
          simp only [Sum.elim_inr] at hM
          intro H locs ls S hl
          refine lv_lconst (v := (0 : Int64)) hx hb dX9_falseOne_90 (by decide) ?_
          subst hQQ
          exact q_retl (post := fun x L1 f1 => x = z ∧ L1 = L ∧ f1 = f) hx hb hr hlk S dX9_falseOne_91 (by decide) (by decide) (by have hz := Option.some.inj hM; subst hz; exact ⟨rfl, rfl, rfl⟩)
        have LP27 : ∀ (fu : Nat) (x5_27 : Int32) (x4_27 : Int32) (H : Heap) (locs : List Loc) (ls : Array Slot), (mX9_falseOne_L27 vWorlds vInWorld vKind vSize vMarks vSeed vContents vContentMany vRow vBits vLayerSize vRest vRestMany sq wi) fu x5_27 x4_27 = some o27 → PS D g (va_A (va_pl L f) szz) s.heap s L f H locs → lv_has ls 8 [(5, .int x5_27), (4, .int x4_27), (0, .ref y), (1, .int sq), (2, .int wi)] → W p l e { frames := 4, cells := 0, slots := 0, locals := 110 } s m [.ref y, .int sq, .int wi, .int i].toArray below meth c H locs 0 0 QQ (F0 m 27 ls []) := by
          intro fu
          induction fu with
          | zero => intro x5_27 x4_27 H locs ls ho27 S hl; exact no_some ho27
          | succ fu ih27 =>
            intro x5_27 x4_27 H locs ls ho27 S hl
            rw [mX9_falseOne_L27] at ho27
            refine lv_iload hx hb dX9_falseOne_27 (lv_at hl 0 rfl) ?_
            refine lv_aload_n hx hb dX9_falseOne_29 rfl (lv_at hl 2 rfl) ?_
            refine q_get hx hb hts in_X9 hown S m_y e_y (C := RX9) (T := TX9) (N := 23) rfl 1 (by decide) rfl (hts (.fieldLink RX9 13 "SieveCabinetModel" "inWorld" "[I") (by decide +kernel)) dX9_falseOne_30 ?_
            refine lv_iload_n hx hb dX9_falseOne_33 rfl (lv_at hl 4 rfl) ?_
            obtain ⟨hi34, ho27⟩ := ckx ho27
            refine q_iald hx hb S m_aInWorld e_aInWorld hi34 dX9_falseOne_34 ?_
            refine lv_icmp_ge (tgt := 90) hx hb dX9_falseOne_35 (by decide) (fun b35 => ?_) (fun b35 => ?_)
            · have ho27 := itT b35 ho27
              obtain rfl := Option.some.inj ho27
              exact EX27 _ rfl _ _ _ S (lv_sub hl [] rfl)
            · have ho27 := itF b35 ho27
              refine lv_aload_n hx hb dX9_falseOne_38 rfl (lv_at hl 2 rfl) ?_
              refine q_get hx hb hts in_X9 hown S m_y e_y (C := RX9) (T := TX9) (N := 23) rfl 0 (by decide) rfl (hts (.fieldLink RX9 9 "SieveCabinetModel" "worlds" "[J") (by decide +kernel)) dX9_falseOne_39 ?_
              refine lv_iload_n hx hb dX9_falseOne_42 rfl (lv_at hl 4 rfl) ?_
              refine lv_sipush (v := (1000 : Int32)) hx hb dX9_falseOne_43 (by decide) ?_
              refine lv_imul hx hb dX9_falseOne_46 ?_
              refine lv_iload hx hb dX9_falseOne_47 (lv_at hl 0 rfl) ?_
              refine lv_iadd hx hb dX9_falseOne_49 ?_
              obtain ⟨hi50, ho27⟩ := ckx ho27
              refine q_lald hx hb S m_aWorlds e_aWorlds hi50 dX9_falseOne_50 ?_
              refine lv_topl (fun y51 ey51 => ?_)
              have ho27 := lt_some ho27 ey51
              refine lv_lstore (lv' := [(6, .long y51), (5, .int x5_27), (4, .int x4_27), (0, .ref y), (1, .int sq), (2, .int wi)]) hx hb dX9_falseOne_51 hl (by decide) rfl (fun ls hl => ?_)
              refine lv_aload_n hx hb dX9_falseOne_53 rfl (lv_at hl 3 rfl) ?_
              refine lv_iload_n hx hb dX9_falseOne_54 rfl (lv_at hl 4 rfl) ?_
              refine lv_lload hx hb dX9_falseOne_55 (lv_at hl 0 rfl) ?_
              obtain ⟨z57, hz57, ho27⟩ := bind_some ho27
              refine q_vi (As := [.int sq, .long y51]) (rest := []) ⟨hx, hb, hml, hown, hts⟩ (k_X9_letsThrough l D g m_y e_y m_aKind e_aKind m_aSize e_aSize m_aMarks e_aMarks m_aSeed e_aSeed m_aRow e_aRow m_aBits e_aBits m_aLayerSize e_aLayerSize m_aRest e_aRest m_aRestMany e_aRestMany hz57) (cwV 2 hts gX9_falseOne_X9_letsThrough rfl rfl rfl (by decide +kernel) ⟨Nat.le_of_ble_eq_true rfl, Nat.le_of_ble_eq_true rfl⟩) S m_y e_y (T := TX9) (N := 23) rfl rfl hl.1 rfl (Nat.le_of_ble_eq_true rfl) dX9_falseOne_57 ⟨Nat.le_of_ble_eq_true rfl, Nat.le_of_ble_eq_true rfl⟩ (fun r9 L7 f8 H locs S w57 => ?_)
              obtain ⟨ex57, eL, ef⟩ := w57
              rw [eL, ef] at S
              replace ex57 := ex57.symm
              subst ex57
              refine lv_if_eq (tgt := 84) hx hb dX9_falseOne_60 (by decide) (fun b60 => ?_) (fun b60 => ?_)
              · have ho27 := itT b60 ho27
                refine lv_iinc (v := (x5_27 + 1)) (lv' := [(5, .int (x5_27 + 1)), (6, .long y51), (4, .int x4_27), (0, .ref y), (1, .int sq), (2, .int wi)]) hx hb dX9_falseOne_84 hl (k := 1) rfl rfl (by decide) rfl (fun ls hl => ?_)
                refine lv_goto (tgt := 27) hx hb dX9_falseOne_87 (by decide) ?_
                exact ih27 (x5_27 + 1) x4_27 _ _ _ ho27 S (lv_sub hl [0, 2, 3, 4, 5] rfl)
              · have ho27 := itF b60 ho27
                refine lv_aload_n hx hb dX9_falseOne_63 rfl (lv_at hl 3 rfl) ?_
                refine lv_iload_n hx hb dX9_falseOne_64 rfl (lv_at hl 4 rfl) ?_
                refine lv_lload hx hb dX9_falseOne_65 (lv_at hl 0 rfl) ?_
                obtain ⟨z67, hz67, ho27⟩ := bind_some ho27
                refine q_vi (As := [.int sq, .long y51]) (rest := []) ⟨hx, hb, hml, hown, hts⟩ (k_X9_timesIn l D g m_y e_y m_aContents e_aContents m_aContentMany e_aContentMany hz67) (cwV 2 hts gX9_falseOne_X9_timesIn rfl rfl rfl (by decide +kernel) ⟨Nat.le_of_ble_eq_true rfl, Nat.le_of_ble_eq_true rfl⟩) S m_y e_y (T := TX9) (N := 23) rfl rfl hl.1 rfl (Nat.le_of_ble_eq_true rfl) dX9_falseOne_67 ⟨Nat.le_of_ble_eq_true rfl, Nat.le_of_ble_eq_true rfl⟩ (fun r12 L10 f11 H locs S w67 => ?_)
                obtain ⟨ex67, eL, ef⟩ := w67
                rw [eL, ef] at S
                replace ex67 := ex67.symm
                subst ex67
                refine lv_if_ne (tgt := 84) hx hb dX9_falseOne_70 (by decide) (fun b70 => ?_) (fun b70 => ?_)
                · have ho27 := itF b70 ho27
                  refine lv_iinc (v := (x5_27 + 1)) (lv' := [(5, .int (x5_27 + 1)), (6, .long y51), (4, .int x4_27), (0, .ref y), (1, .int sq), (2, .int wi)]) hx hb dX9_falseOne_84 hl (k := 1) rfl rfl (by decide) rfl (fun ls hl => ?_)
                  refine lv_goto (tgt := 27) hx hb dX9_falseOne_87 (by decide) ?_
                  exact ih27 (x5_27 + 1) x4_27 _ _ _ ho27 S (lv_sub hl [0, 2, 3, 4, 5] rfl)
                · have ho27 := itT b70 ho27
                  refine lv_iload hx hb dX9_falseOne_73 (lv_at hl 2 rfl) ?_
                  refine lv_if_ne (tgt := 81) hx hb dX9_falseOne_75 (by decide) (fun b75 => ?_) (fun b75 => ?_)
                  · have ho27 := itF b75 ho27
                    refine lv_iinc (v := (x4_27 + (-1))) (lv' := [(4, .int (x4_27 + (-1))), (6, .long y51), (5, .int x5_27), (0, .ref y), (1, .int sq), (2, .int wi)]) hx hb dX9_falseOne_81 hl (k := 2) rfl rfl (by decide) rfl (fun ls hl => ?_)
                    refine lv_iinc (v := (x5_27 + 1)) (lv' := [(5, .int (x5_27 + 1)), (4, .int (x4_27 + (-1))), (6, .long y51), (0, .ref y), (1, .int sq), (2, .int wi)]) hx hb dX9_falseOne_84 hl (k := 2) rfl rfl (by decide) rfl (fun ls hl => ?_)
                    refine lv_goto (tgt := 27) hx hb dX9_falseOne_87 (by decide) ?_
                    exact ih27 (x5_27 + 1) (x4_27 + (-1)) _ _ _ ho27 S (lv_sub hl [0, 1, 3, 4, 5] rfl)
                  · have ho27 := itT b75 ho27
                    refine lv_lload hx hb dX9_falseOne_78 (lv_at hl 0 rfl) ?_
                    obtain rfl := Option.some.inj ho27
                    simp only [Sum.elim_inl] at hM
                    subst hQQ
                    exact q_retl (post := fun x L1 f1 => x = z ∧ L1 = L ∧ f1 = f) hx hb hr hlk S dX9_falseOne_80 (by decide) (by decide) (by have hz := Option.some.inj hM; subst hz; exact ⟨rfl, rfl, rfl⟩)
        exact LP27 FU (0 : Int32) i _ _ _ ho27 S (lv_sub hl [0, 1, 2, 3, 4] rfl)
      · have hM := itF b16 hM
        refine lv_lconst (v := (0 : Int64)) hx hb dX9_falseOne_19 (by decide) ?_
        subst hQQ
        exact q_retl (post := fun x L1 f1 => x = z ∧ L1 = L ∧ f1 = f) hx hb hr hlk S dX9_falseOne_20 (by decide) (by decide) (by have hz := Option.some.inj hM; subst hz; exact ⟨rfl, rfl, rfl⟩)

def mX9_missed_L14 (vKind : Nat → Int32) (vSize : Nat → Int32) (vMarks : Nat → Int32) (vSeed : Nat → Int32) (vContents : Nat → Int64) (vContentMany : Nat → Int32) (vRow : Nat → Int32) (vBits : Nat → Int32) (vLayerSize : Nat → Int32) (vRest : Nat → Int64) (vRestMany : Nat → Int32) (sq : Int32) : Nat → Int32 → Int32 → Option (Int32 × Int32)
  | 0, _, _ => none
  | fu + 1, x3_14, x2_14 => if ix sq 30 = true then (if (vContentMany (Int32.toNatClampNeg sq)) ≤ x3_14 then (some (x3_14, x2_14)) else (if ix ((sq * (1000 : Int32)) + x3_14) 30000 = true then ((mX9_letsThrough vKind vSize vMarks vSeed vRow vBits vLayerSize vRest vRestMany sq (vContents (Int32.toNatClampNeg ((sq * (1000 : Int32)) + x3_14)))).bind fun z39 => if z39 = 0 then (mX9_missed_L14 vKind vSize vMarks vSeed vContents vContentMany vRow vBits vLayerSize vRest vRestMany sq fu (x3_14 + 1) (x2_14 + (1 : Int32))) else (mX9_missed_L14 vKind vSize vMarks vSeed vContents vContentMany vRow vBits vLayerSize vRest vRestMany sq fu (x3_14 + 1) (x2_14 + (0 : Int32)))) else none)) else none
def mX9_missed (many : Int32) (vKind : Nat → Int32) (vSize : Nat → Int32) (vMarks : Nat → Int32) (vSeed : Nat → Int32) (vContents : Nat → Int64) (vContentMany : Nat → Int32) (vRow : Nat → Int32) (vBits : Nat → Int32) (vLayerSize : Nat → Int32) (vRest : Nat → Int64) (vRestMany : Nat → Int32) (sq : Int32) : Option (Int32) := (mX9_is many sq).bind fun z2 => if z2 = 0 then (some (-1 : Int32)) else ((mX9_missed_L14 vKind vSize vMarks vSeed vContents vContentMany vRow vBits vLayerSize vRest vRestMany sq FU (0 : Int32) (0 : Int32)).bind fun o14 => some o14.2)
set_option maxHeartbeats 4000000 in
set_option maxRecDepth 100000 in
theorem k_X9_missed (l : Launch) (D : va_G) (g : Nat → ClassId) {L : List Nat} {f : Nat → va_E} {aAlone aBits aCome aContentMany aContents aGone aInWorld aIsOff aKept aKind aLayerCame aLayerSize aMarks aOffAt aOrder aRest aRestMany aRivals aRow aSeed aSize aWorlds y : Nat} {many : Int32} {vKind : Nat → Int32} {vSize : Nat → Int32} {vMarks : Nat → Int32} {vSeed : Nat → Int32} {vContents : Nat → Int64} {vContentMany : Nat → Int32} {vRow : Nat → Int32} {vBits : Nat → Int32} {vLayerSize : Nat → Int32} {vRest : Nat → Int64} {vRestMany : Nat → Int32} {sq : Int32} {z : Int32} (m_y : y ∈ L) (e_y : f y = .inr (7, [.ref aWorlds, .ref aInWorld, .ref aKind, .ref aSize, .ref aMarks, .ref aSeed, .ref aContents, .ref aContentMany, .ref aRow, .ref aBits, .ref aLayerSize, .ref aLayerCame, .ref aRest, .ref aRestMany, .int many, .ref aCome, .ref aRivals, .ref aGone, .ref aOrder, .ref aOffAt, .ref aIsOff, .ref aAlone, .ref aKept])) (m_aKind : aKind ∈ L) (e_aKind : f aKind = .inl (g 0, 30, .inl vKind)) (m_aSize : aSize ∈ L) (e_aSize : f aSize = .inl (g 0, 30, .inl vSize)) (m_aMarks : aMarks ∈ L) (e_aMarks : f aMarks = .inl (g 0, 30, .inl vMarks)) (m_aSeed : aSeed ∈ L) (e_aSeed : f aSeed = .inl (g 0, 30, .inl vSeed)) (m_aContents : aContents ∈ L) (e_aContents : f aContents = .inl (g 1, 30000, .inr (.inl vContents))) (m_aContentMany : aContentMany ∈ L) (e_aContentMany : f aContentMany = .inl (g 0, 30, .inl vContentMany)) (m_aRow : aRow ∈ L) (e_aRow : f aRow = .inl (g 0, 122880, .inl vRow)) (m_aBits : aBits ∈ L) (e_aBits : f aBits = .inl (g 0, 76800, .inl vBits)) (m_aLayerSize : aLayerSize ∈ L) (e_aLayerSize : f aLayerSize = .inl (g 0, 600, .inl vLayerSize)) (m_aRest : aRest ∈ L) (e_aRest : f aRest = .inl (g 1, 30000, .inr (.inl vRest))) (m_aRestMany : aRestMany ∈ L) (e_aRestMany : f aRestMany = .inl (g 0, 30, .inl vRestMany))    (hM : mX9_missed many vKind vSize vMarks vSeed vContents vContentMany vRow vBits vLayerSize vRest vRestMany sq = some z) : cI l yX9_missed wsX9_missed { frames := 4, cells := 0, slots := 0, locals := 110 } D g [.ref y, .int sq] L f 0 0 (fun x L1 f1 => x = z ∧ L1 = L ∧ f1 = f) := by
  refine cI_of (cc := cX9_missed) (maxL := 4) (ret := (some .int)) (by decide) rfl (Nat.le_of_ble_eq_true rfl) ?_
  intro szz p e s m below meth c hx hb hr hml hts hown hlk hnm S ls hl
  have hl : lv_has ls 4 [(0, .ref y), (1, .int sq)] := hl
  have in_X9 : ∀ w ∈ wsX90, w ∈ wsX9_missed := by decide +kernel
  unfold mX9_missed at hM
  refine W_gen (fun QQ hQQ => ?_)
  refine lv_aload_n hx hb dX9_missed_0 rfl (lv_at hl 0 rfl) ?_
  refine lv_iload_n hx hb dX9_missed_1 rfl (lv_at hl 1 rfl) ?_
  obtain ⟨z2, hz2, hM⟩ := bind_some hM
  refine q_vi (As := [.int sq]) (rest := []) ⟨hx, hb, hml, hown, hts⟩ (k_X9_is l D g m_y e_y hz2) (cwV 1 hts gX9_missed_X9_is rfl rfl rfl (by decide +kernel) ⟨Nat.le_of_ble_eq_true rfl, Nat.le_of_ble_eq_true rfl⟩) S m_y e_y (T := TX9) (N := 23) rfl rfl hl.1 rfl (Nat.le_of_ble_eq_true rfl) dX9_missed_2 ⟨Nat.le_of_ble_eq_true rfl, Nat.le_of_ble_eq_true rfl⟩ (fun r3 L1 f2 H locs S w2 => ?_)
  obtain ⟨ex2, eL, ef⟩ := w2
  rw [eL, ef] at S
  replace ex2 := ex2.symm
  subst ex2
  refine lv_if_ne (tgt := 10) hx hb dX9_missed_5 (by decide) (fun b5 => ?_) (fun b5 => ?_)
  · have hM := itF b5 hM
    refine lv_iconst (v := (0 : Int32)) hx hb dX9_missed_10 (by decide) ?_
    refine lv_istore_n (lv' := [(2, .int (0 : Int32)), (0, .ref y), (1, .int sq)]) hx hb dX9_missed_11 rfl hl (by decide) rfl (fun ls hl => ?_)
    refine lv_iconst (v := (0 : Int32)) hx hb dX9_missed_12 (by decide) ?_
    refine lv_istore_n (lv' := [(3, .int (0 : Int32)), (2, .int (0 : Int32)), (0, .ref y), (1, .int sq)]) hx hb dX9_missed_13 rfl hl (by decide) rfl (fun ls hl => ?_)
    obtain ⟨o14, ho14, hM⟩ := bind_some hM
    have EX14 : ∀ (H : Heap) (locs : List Loc) (ls : Array Slot), PS D g (va_A (va_pl L f) szz) s.heap s L f H locs → lv_has ls 4 [(2, .int o14.2)] → W p l e { frames := 4, cells := 0, slots := 0, locals := 110 } s m [.ref y, .int sq].toArray below meth c H locs 0 0 QQ (F0 m 58 ls []) := by
      intro H locs ls S hl
      refine lv_iload_n hx hb dX9_missed_58 rfl (lv_at hl 0 rfl) ?_
      subst hQQ
      exact q_reti (post := fun x L1 f1 => x = z ∧ L1 = L ∧ f1 = f) hx hb hr hlk S dX9_missed_59 (by decide) (by decide) (by have hz := Option.some.inj hM; subst hz; exact ⟨rfl, rfl, rfl⟩)
    have LP14 : ∀ (fu : Nat) (x3_14 : Int32) (x2_14 : Int32) (H : Heap) (locs : List Loc) (ls : Array Slot), (mX9_missed_L14 vKind vSize vMarks vSeed vContents vContentMany vRow vBits vLayerSize vRest vRestMany sq) fu x3_14 x2_14 = some o14 → PS D g (va_A (va_pl L f) szz) s.heap s L f H locs → lv_has ls 4 [(3, .int x3_14), (2, .int x2_14), (0, .ref y), (1, .int sq)] → W p l e { frames := 4, cells := 0, slots := 0, locals := 110 } s m [.ref y, .int sq].toArray below meth c H locs 0 0 QQ (F0 m 14 ls []) := by
      intro fu
      induction fu with
      | zero => intro x3_14 x2_14 H locs ls ho14 S hl; exact no_some ho14
      | succ fu ih14 =>
        intro x3_14 x2_14 H locs ls ho14 S hl
        rw [mX9_missed_L14] at ho14
        refine lv_iload_n hx hb dX9_missed_14 rfl (lv_at hl 0 rfl) ?_
        refine lv_aload_n hx hb dX9_missed_15 rfl (lv_at hl 2 rfl) ?_
        refine q_get hx hb hts in_X9 hown S m_y e_y (C := RX9) (T := TX9) (N := 23) rfl 7 (by decide) rfl (hts (.fieldLink RX9 32 "SieveCabinetModel" "contentMany" "[I") (by decide +kernel)) dX9_missed_16 ?_
        refine lv_iload_n hx hb dX9_missed_19 rfl (lv_at hl 3 rfl) ?_
        obtain ⟨hi20, ho14⟩ := ckx ho14
        refine q_iald hx hb S m_aContentMany e_aContentMany hi20 dX9_missed_20 ?_
        refine lv_icmp_ge (tgt := 58) hx hb dX9_missed_21 (by decide) (fun b21 => ?_) (fun b21 => ?_)
        · have ho14 := itT b21 ho14
          obtain rfl := Option.some.inj ho14
          exact EX14 _ _ _ S (lv_sub hl [1] rfl)
        · have ho14 := itF b21 ho14
          refine lv_iload_n hx hb dX9_missed_24 rfl (lv_at hl 1 rfl) ?_
          refine lv_aload_n hx hb dX9_missed_25 rfl (lv_at hl 2 rfl) ?_
          refine lv_iload_n hx hb dX9_missed_26 rfl (lv_at hl 3 rfl) ?_
          refine lv_aload_n hx hb dX9_missed_27 rfl (lv_at hl 2 rfl) ?_
          refine q_get hx hb hts in_X9 hown S m_y e_y (C := RX9) (T := TX9) (N := 23) rfl 6 (by decide) rfl (hts (.fieldLink RX9 29 "SieveCabinetModel" "contents" "[J") (by decide +kernel)) dX9_missed_28 ?_
          refine lv_iload_n hx hb dX9_missed_31 rfl (lv_at hl 3 rfl) ?_
          refine lv_sipush (v := (1000 : Int32)) hx hb dX9_missed_32 (by decide) ?_
          refine lv_imul hx hb dX9_missed_35 ?_
          refine lv_iload_n hx hb dX9_missed_36 rfl (lv_at hl 0 rfl) ?_
          refine lv_iadd hx hb dX9_missed_37 ?_
          obtain ⟨hi38, ho14⟩ := ckx ho14
          refine q_lald hx hb S m_aContents e_aContents hi38 dX9_missed_38 ?_
          obtain ⟨z39, hz39, ho14⟩ := bind_some ho14
          refine q_vi (As := [.int sq, .long (vContents (Int32.toNatClampNeg ((sq * (1000 : Int32)) + x3_14)))]) (rest := [.int x2_14]) ⟨hx, hb, hml, hown, hts⟩ (k_X9_letsThrough l D g m_y e_y m_aKind e_aKind m_aSize e_aSize m_aMarks e_aMarks m_aSeed e_aSeed m_aRow e_aRow m_aBits e_aBits m_aLayerSize e_aLayerSize m_aRest e_aRest m_aRestMany e_aRestMany hz39) (cwV 2 hts gX9_missed_X9_letsThrough rfl rfl rfl (by decide +kernel) ⟨Nat.le_of_ble_eq_true rfl, Nat.le_of_ble_eq_true rfl⟩) S m_y e_y (T := TX9) (N := 23) rfl rfl hl.1 rfl (Nat.le_of_ble_eq_true rfl) dX9_missed_39 ⟨Nat.le_of_ble_eq_true rfl, Nat.le_of_ble_eq_true rfl⟩ (fun r6 L4 f5 H locs S w39 => ?_)
          obtain ⟨ex39, eL, ef⟩ := w39
          rw [eL, ef] at S
          replace ex39 := ex39.symm
          subst ex39
          refine lv_if_eq (tgt := 49) hx hb dX9_missed_42 (by decide) (fun b42 => ?_) (fun b42 => ?_)
          · have ho14 := itT b42 ho14
            refine lv_iconst (v := (1 : Int32)) hx hb dX9_missed_49 (by decide) ?_
            refine lv_iadd hx hb dX9_missed_50 ?_
            refine lv_istore_n (lv' := [(2, .int (x2_14 + (1 : Int32))), (3, .int x3_14), (0, .ref y), (1, .int sq)]) hx hb dX9_missed_51 rfl hl (by decide) rfl (fun ls hl => ?_)
            refine lv_iinc (v := (x3_14 + 1)) (lv' := [(3, .int (x3_14 + 1)), (2, .int (x2_14 + (1 : Int32))), (0, .ref y), (1, .int sq)]) hx hb dX9_missed_52 hl (k := 1) rfl rfl (by decide) rfl (fun ls hl => ?_)
            refine lv_goto (tgt := 14) hx hb dX9_missed_55 (by decide) ?_
            exact ih14 (x3_14 + 1) (x2_14 + (1 : Int32)) _ _ _ ho14 S (lv_sub hl [0, 1, 2, 3] rfl)
          · have ho14 := itF b42 ho14
            refine lv_iconst (v := (0 : Int32)) hx hb dX9_missed_45 (by decide) ?_
            refine lv_goto (tgt := 50) hx hb dX9_missed_46 (by decide) ?_
            refine lv_iadd hx hb dX9_missed_50 ?_
            refine lv_istore_n (lv' := [(2, .int (x2_14 + (0 : Int32))), (3, .int x3_14), (0, .ref y), (1, .int sq)]) hx hb dX9_missed_51 rfl hl (by decide) rfl (fun ls hl => ?_)
            refine lv_iinc (v := (x3_14 + 1)) (lv' := [(3, .int (x3_14 + 1)), (2, .int (x2_14 + (0 : Int32))), (0, .ref y), (1, .int sq)]) hx hb dX9_missed_52 hl (k := 1) rfl rfl (by decide) rfl (fun ls hl => ?_)
            refine lv_goto (tgt := 14) hx hb dX9_missed_55 (by decide) ?_
            exact ih14 (x3_14 + 1) (x2_14 + (0 : Int32)) _ _ _ ho14 S (lv_sub hl [0, 1, 2, 3] rfl)
    exact LP14 FU (0 : Int32) (0 : Int32) _ _ _ ho14 S (lv_sub hl [0, 1, 2, 3] rfl)
  · have hM := itT b5 hM
    refine lv_iconst (v := (-1 : Int32)) hx hb dX9_missed_8 (by decide) ?_
    subst hQQ
    exact q_reti (post := fun x L1 f1 => x = z ∧ L1 = L ∧ f1 = f) hx hb hr hlk S dX9_missed_9 (by decide) (by decide) (by have hz := Option.some.inj hM; subst hz; exact ⟨rfl, rfl, rfl⟩)

def mX9_join_L326 (ho : Int32) (bq : Int32) (z148 : Int32 × Int32 × (Nat → Int32) × (Nat → Int32) × (Nat → Int32) × (Nat → Int32) × (Nat → Int32) × (Nat → Int32) × (Nat → Int32)) : Nat → Int32 → (Nat → Int64) → (Nat → Int32) → Option (Int32 × (Nat → Int64) × (Nat → Int32))
  | 0, _, _, _ => none
  | fu + 1, x5_326, caContents_326, caContentMany_326 => if ix bq 30 = true then (if (caContentMany_326 (Int32.toNatClampNeg bq)) ≤ x5_326 then (some (x5_326, caContents_326, caContentMany_326)) else (if ho = 0 then (if ix z148.1 30 = true then (if ix ((bq * (1000 : Int32)) + x5_326) 30000 = true then (if ix ((z148.1 * (1000 : Int32)) + (caContentMany_326 (Int32.toNatClampNeg z148.1))) 30000 = true then (if ix z148.1 30 = true then (if ix z148.1 30 = true then (mX9_join_L326 ho bq z148 fu (x5_326 + 1) (vp_updL caContents_326 (Int32.toNatClampNeg ((z148.1 * (1000 : Int32)) + (caContentMany_326 (Int32.toNatClampNeg z148.1)))) (caContents_326 (Int32.toNatClampNeg ((bq * (1000 : Int32)) + x5_326)))) (upd caContentMany_326 (Int32.toNatClampNeg z148.1) ((caContentMany_326 (Int32.toNatClampNeg z148.1)) + (1 : Int32)))) else none) else none) else none) else none) else none) else (some (x5_326, caContents_326, caContentMany_326)))) else none
def mX9_join_L237 (ho : Int32) (aq : Int32) (bq : Int32) (z148 : Int32 × Int32 × (Nat → Int32) × (Nat → Int32) × (Nat → Int32) × (Nat → Int32) × (Nat → Int32) × (Nat → Int32) × (Nat → Int32)) : Nat → Int32 → (Nat → Int64) → (Nat → Int32) → Option (Int32 × (Nat → Int64) × (Nat → Int32))
  | 0, _, _, _ => none
  | fu + 1, x5_237, caContents_237, caContentMany_237 => if ix aq 30 = true then (if (caContentMany_237 (Int32.toNatClampNeg aq)) ≤ x5_237 then (some (x5_237, caContents_237, caContentMany_237)) else (if ix ((aq * (1000 : Int32)) + x5_237) 30000 = true then (lt_ (caContents_237 (Int32.toNatClampNeg ((aq * (1000 : Int32)) + x5_237))) fun y261 => if ho = 0 then (if ix z148.1 30 = true then (if ix ((z148.1 * (1000 : Int32)) + (caContentMany_237 (Int32.toNatClampNeg z148.1))) 30000 = true then (if ix z148.1 30 = true then (if ix z148.1 30 = true then (mX9_join_L237 ho aq bq z148 fu (x5_237 + 1) (vp_updL caContents_237 (Int32.toNatClampNeg ((z148.1 * (1000 : Int32)) + (caContentMany_237 (Int32.toNatClampNeg z148.1)))) y261) (upd caContentMany_237 (Int32.toNatClampNeg z148.1) ((caContentMany_237 (Int32.toNatClampNeg z148.1)) + (1 : Int32)))) else none) else none) else none) else none) else ((mX9_timesIn caContents_237 caContentMany_237 z148.1 y261).bind fun z272 => (mX9_timesIn caContents_237 caContentMany_237 bq y261).bind fun z279 => if z279 ≤ z272 then (mX9_join_L237 ho aq bq z148 fu (x5_237 + 1) caContents_237 caContentMany_237) else (if ix z148.1 30 = true then (if ix ((z148.1 * (1000 : Int32)) + (caContentMany_237 (Int32.toNatClampNeg z148.1))) 30000 = true then (if ix z148.1 30 = true then (if ix z148.1 30 = true then (mX9_join_L237 ho aq bq z148 fu (x5_237 + 1) (vp_updL caContents_237 (Int32.toNatClampNeg ((z148.1 * (1000 : Int32)) + (caContentMany_237 (Int32.toNatClampNeg z148.1)))) y261) (upd caContentMany_237 (Int32.toNatClampNeg z148.1) ((caContentMany_237 (Int32.toNatClampNeg z148.1)) + (1 : Int32)))) else none) else none) else none) else none))) else none)) else none
def mX9_join_L156 (ho : Int32) (aq : Int32) (bq : Int32) (z148 : Int32 × Int32 × (Nat → Int32) × (Nat → Int32) × (Nat → Int32) × (Nat → Int32) × (Nat → Int32) × (Nat → Int32) × (Nat → Int32)) : Nat → Int32 → (Nat → Int32) → Option (Int32 × (Nat → Int32))
  | 0, _, _ => none
  | fu + 1, x5_156, caRow_156 => if ix aq 30 = true then (if (z148.2.2.2.1 (Int32.toNatClampNeg aq)) ≤ x5_156 then (some (x5_156, caRow_156)) else (if ix ((aq * (4096 : Int32)) + x5_156) 122880 = true then (lt_ (caRow_156 (Int32.toNatClampNeg ((aq * (4096 : Int32)) + x5_156))) fun y180 => if ix ((bq * (4096 : Int32)) + x5_156) 122880 = true then (lt_ (caRow_156 (Int32.toNatClampNeg ((bq * (4096 : Int32)) + x5_156))) fun y195 => if ho = 0 then (if ix ((z148.1 * (4096 : Int32)) + x5_156) 122880 = true then (mX9_join_L156 ho aq bq z148 fu (x5_156 + 1) (upd caRow_156 (Int32.toNatClampNeg ((z148.1 * (4096 : Int32)) + x5_156)) (y180 ||| y195))) else none) else (if ix ((z148.1 * (4096 : Int32)) + x5_156) 122880 = true then (mX9_join_L156 ho aq bq z148 fu (x5_156 + 1) (upd caRow_156 (Int32.toNatClampNeg ((z148.1 * (4096 : Int32)) + x5_156)) (y180 &&& y195))) else none)) else none) else none)) else none
def mX9_join (many : Int32) (vKind : Nat → Int32) (vSize : Nat → Int32) (vMarks : Nat → Int32) (vSeed : Nat → Int32) (vContents : Nat → Int64) (vContentMany : Nat → Int32) (vRow : Nat → Int32) (vRestMany : Nat → Int32) (ho : Int32) (aq : Int32) (bq : Int32) : Option (Int32 × Int32 × (Nat → Int32) × (Nat → Int32) × (Nat → Int32) × (Nat → Int32) × (Nat → Int64) × (Nat → Int32) × (Nat → Int32) × (Nat → Int32)) := if ho < 0 then (some ((-1 : Int32), many, vKind, vSize, vMarks, vSeed, vContents, vContentMany, vRow, vRestMany)) else (if (1 : Int32) < ho then (some ((-1 : Int32), many, vKind, vSize, vMarks, vSeed, vContents, vContentMany, vRow, vRestMany)) else ((mX9_is many aq).bind fun z11 => if z11 = 0 then (some ((-1 : Int32), many, vKind, vSize, vMarks, vSeed, vContents, vContentMany, vRow, vRestMany)) else ((mX9_is many bq).bind fun z19 => if z19 = 0 then (some ((-1 : Int32), many, vKind, vSize, vMarks, vSeed, vContents, vContentMany, vRow, vRestMany)) else (if ix aq 30 = true then (if (vKind (Int32.toNatClampNeg aq)) = 0 then (if ix bq 30 = true then (if (vKind (Int32.toNatClampNeg bq)) = 0 then (if ix aq 30 = true then (if ix bq 30 = true then (if (vSize (Int32.toNatClampNeg aq)) = (vSize (Int32.toNatClampNeg bq)) then (if ix aq 30 = true then (if ix bq 30 = true then (if (vMarks (Int32.toNatClampNeg aq)) = (vMarks (Int32.toNatClampNeg bq)) then (if ix aq 30 = true then (if ix bq 30 = true then (if (vSeed (Int32.toNatClampNeg aq)) = (vSeed (Int32.toNatClampNeg bq)) then (if many = (30 : Int32) then (some ((-4 : Int32), many, vKind, vSize, vMarks, vSeed, vContents, vContentMany, vRow, vRestMany)) else (if ho = 0 then (if ix aq 30 = true then (if ix bq 30 = true then (if ((vContentMany (Int32.toNatClampNeg aq)) + (vContentMany (Int32.toNatClampNeg bq))) ≤ (1000 : Int32) then (if ix aq 30 = true then (if ix aq 30 = true then (if ix aq 30 = true then ((mX9_begin many vKind vSize vMarks vSeed vContentMany vRow vRestMany (0 : Int32) (vSize (Int32.toNatClampNeg aq)) (vMarks (Int32.toNatClampNeg aq)) (vSeed (Int32.toNatClampNeg aq))).bind fun z148 => (mX9_join_L156 ho aq bq z148 FU (0 : Int32) z148.2.2.2.2.2.2.2.1).bind fun o156 => (mX9_join_L237 ho aq bq z148 FU (0 : Int32) vContents z148.2.2.2.2.2.2.1).bind fun o237 => (mX9_join_L326 ho bq z148 FU (0 : Int32) o237.2.1 o237.2.2).bind fun o326 => some (z148.1, z148.2.1, z148.2.2.1, z148.2.2.2.1, z148.2.2.2.2.1, z148.2.2.2.2.2.1, o326.2.1, o326.2.2, o156.2, z148.2.2.2.2.2.2.2.2)) else none) else none) else none) else (some ((-4 : Int32), many, vKind, vSize, vMarks, vSeed, vContents, vContentMany, vRow, vRestMany))) else none) else none) else (if ix aq 30 = true then (if ix aq 30 = true then (if ix aq 30 = true then ((mX9_begin many vKind vSize vMarks vSeed vContentMany vRow vRestMany (0 : Int32) (vSize (Int32.toNatClampNeg aq)) (vMarks (Int32.toNatClampNeg aq)) (vSeed (Int32.toNatClampNeg aq))).bind fun z148 => (mX9_join_L156 ho aq bq z148 FU (0 : Int32) z148.2.2.2.2.2.2.2.1).bind fun o156 => (mX9_join_L237 ho aq bq z148 FU (0 : Int32) vContents z148.2.2.2.2.2.2.1).bind fun o237 => (mX9_join_L326 ho bq z148 FU (0 : Int32) o237.2.1 o237.2.2).bind fun o326 => some (z148.1, z148.2.1, z148.2.2.1, z148.2.2.2.1, z148.2.2.2.2.1, z148.2.2.2.2.2.1, o326.2.1, o326.2.2, o156.2, z148.2.2.2.2.2.2.2.2)) else none) else none) else none))) else (some ((-2 : Int32), many, vKind, vSize, vMarks, vSeed, vContents, vContentMany, vRow, vRestMany))) else none) else none) else (some ((-2 : Int32), many, vKind, vSize, vMarks, vSeed, vContents, vContentMany, vRow, vRestMany))) else none) else none) else (some ((-2 : Int32), many, vKind, vSize, vMarks, vSeed, vContents, vContentMany, vRow, vRestMany))) else none) else none) else (some ((-2 : Int32), many, vKind, vSize, vMarks, vSeed, vContents, vContentMany, vRow, vRestMany))) else none) else (some ((-2 : Int32), many, vKind, vSize, vMarks, vSeed, vContents, vContentMany, vRow, vRestMany))) else none))))
set_option maxHeartbeats 4000000 in
set_option maxRecDepth 100000 in
theorem k_X9_join (l : Launch) (D : va_G) (g : Nat → ClassId) {L : List Nat} {f : Nat → va_E} {aAlone aBits aCome aContentMany aContents aGone aInWorld aIsOff aKept aKind aLayerCame aLayerSize aMarks aOffAt aOrder aRest aRestMany aRivals aRow aSeed aSize aWorlds y : Nat} {many : Int32} {vWorlds : Nat → Int64} {vInWorld : Nat → Int32} {vKind : Nat → Int32} {vSize : Nat → Int32} {vMarks : Nat → Int32} {vSeed : Nat → Int32} {vContents : Nat → Int64} {vContentMany : Nat → Int32} {vRow : Nat → Int32} {vBits : Nat → Int32} {vLayerSize : Nat → Int32} {vLayerCame : Nat → Int32} {vRest : Nat → Int64} {vRestMany : Nat → Int32} {vCome : Nat → Int64} {vRivals : Nat → Int64} {vGone : Nat → Int64} {vOrder : Nat → Int32} {vOffAt : Nat → Int32} {vIsOff : Nat → Int32} {vAlone : Nat → Int32} {vKept : Nat → Int32} {ho : Int32} {aq : Int32} {bq : Int32} {ρ : Nat → Nat × Nat} {z : Int32 × Int32 × (Nat → Int32) × (Nat → Int32) × (Nat → Int32) × (Nat → Int32) × (Nat → Int64) × (Nat → Int32) × (Nat → Int32) × (Nat → Int32)} (m_y : y ∈ L) (e_y : f y = .inr (7, [.ref aWorlds, .ref aInWorld, .ref aKind, .ref aSize, .ref aMarks, .ref aSeed, .ref aContents, .ref aContentMany, .ref aRow, .ref aBits, .ref aLayerSize, .ref aLayerCame, .ref aRest, .ref aRestMany, .int many, .ref aCome, .ref aRivals, .ref aGone, .ref aOrder, .ref aOffAt, .ref aIsOff, .ref aAlone, .ref aKept])) (m_aWorlds : aWorlds ∈ L) (e_aWorlds : f aWorlds = .inl (g 1, 8000, .inr (.inl vWorlds))) (m_aInWorld : aInWorld ∈ L) (e_aInWorld : f aInWorld = .inl (g 0, 8, .inl vInWorld)) (m_aKind : aKind ∈ L) (e_aKind : f aKind = .inl (g 0, 30, .inl vKind)) (m_aSize : aSize ∈ L) (e_aSize : f aSize = .inl (g 0, 30, .inl vSize)) (m_aMarks : aMarks ∈ L) (e_aMarks : f aMarks = .inl (g 0, 30, .inl vMarks)) (m_aSeed : aSeed ∈ L) (e_aSeed : f aSeed = .inl (g 0, 30, .inl vSeed)) (m_aContents : aContents ∈ L) (e_aContents : f aContents = .inl (g 1, 30000, .inr (.inl vContents))) (m_aContentMany : aContentMany ∈ L) (e_aContentMany : f aContentMany = .inl (g 0, 30, .inl vContentMany)) (m_aRow : aRow ∈ L) (e_aRow : f aRow = .inl (g 0, 122880, .inl vRow)) (m_aBits : aBits ∈ L) (e_aBits : f aBits = .inl (g 0, 76800, .inl vBits)) (m_aLayerSize : aLayerSize ∈ L) (e_aLayerSize : f aLayerSize = .inl (g 0, 600, .inl vLayerSize)) (m_aLayerCame : aLayerCame ∈ L) (e_aLayerCame : f aLayerCame = .inl (g 0, 600, .inl vLayerCame)) (m_aRest : aRest ∈ L) (e_aRest : f aRest = .inl (g 1, 30000, .inr (.inl vRest))) (m_aRestMany : aRestMany ∈ L) (e_aRestMany : f aRestMany = .inl (g 0, 30, .inl vRestMany)) (m_aCome : aCome ∈ L) (e_aCome : f aCome = .inl (g 1, 1000, .inr (.inl vCome))) (m_aRivals : aRivals ∈ L) (e_aRivals : f aRivals = .inl (g 1, 1000, .inr (.inl vRivals))) (m_aGone : aGone ∈ L) (e_aGone : f aGone = .inl (g 1, 1000, .inr (.inl vGone))) (m_aOrder : aOrder ∈ L) (e_aOrder : f aOrder = .inl (g 0, 1000, .inl vOrder)) (m_aOffAt : aOffAt ∈ L) (e_aOffAt : f aOffAt = .inl (g 0, 1000, .inl vOffAt)) (m_aIsOff : aIsOff ∈ L) (e_aIsOff : f aIsOff = .inl (g 2, 1000, .inl vIsOff)) (m_aAlone : aAlone ∈ L) (e_aAlone : f aAlone = .inl (g 0, 4096, .inl vAlone)) (m_aKept : aKept ∈ L) (e_aKept : f aKept = .inl (g 0, 4096, .inl vKept))  (r_aKind : ρ aKind = (500, 3)) (r_aSize : ρ aSize = (500, 4)) (r_aMarks : ρ aMarks = (500, 5)) (r_aSeed : ρ aSeed = (500, 6)) (r_aContents : ρ aContents = (500, 7)) (r_aContentMany : ρ aContentMany = (500, 8)) (r_aRest : ρ aRest = (500, 13)) (r_aRestMany : ρ aRestMany = (500, 14))  (hM : mX9_join many vKind vSize vMarks vSeed vContents vContentMany vRow vRestMany ho aq bq = some z) : cI l yX9_join wsX9_join { frames := 1, cells := 0, slots := 0, locals := 26 } D g [.ref y, .int ho, .int aq, .int bq] L f 0 0 (fun x L1 f1 => x = z.1 ∧ L1 = L ∧ (∀ b, b ∈ L → b ≠ y → b ≠ aKind → b ≠ aSize → b ≠ aMarks → b ≠ aSeed → b ≠ aContents → b ≠ aContentMany → b ≠ aRow → b ≠ aRestMany → f1 b = f b) ∧ f1 y = .inr (7, [.ref aWorlds, .ref aInWorld, .ref aKind, .ref aSize, .ref aMarks, .ref aSeed, .ref aContents, .ref aContentMany, .ref aRow, .ref aBits, .ref aLayerSize, .ref aLayerCame, .ref aRest, .ref aRestMany, .int z.2.1, .ref aCome, .ref aRivals, .ref aGone, .ref aOrder, .ref aOffAt, .ref aIsOff, .ref aAlone, .ref aKept]) ∧ f1 aKind = .inl (g 0, 30, .inl z.2.2.1) ∧ f1 aSize = .inl (g 0, 30, .inl z.2.2.2.1) ∧ f1 aMarks = .inl (g 0, 30, .inl z.2.2.2.2.1) ∧ f1 aSeed = .inl (g 0, 30, .inl z.2.2.2.2.2.1) ∧ f1 aContents = .inl (g 1, 30000, .inr (.inl z.2.2.2.2.2.2.1)) ∧ f1 aContentMany = .inl (g 0, 30, .inl z.2.2.2.2.2.2.2.1) ∧ f1 aRow = .inl (g 0, 122880, .inl z.2.2.2.2.2.2.2.2.1) ∧ f1 aRestMany = .inl (g 0, 30, .inl z.2.2.2.2.2.2.2.2.2)) := by
  refine cI_of (cc := cX9_join) (maxL := 8) (ret := (some .int)) (by decide) rfl (Nat.le_of_ble_eq_true rfl) ?_
  intro szz p e s m below meth c hx hb hr hml hts hown hlk hnm S ls hl
  have hl : lv_has ls 8 [(0, .ref y), (1, .int ho), (2, .int aq), (3, .int bq)] := hl
  have in_X9 : ∀ w ∈ wsX90, w ∈ wsX9_join := by decide +kernel
  have n_aWorlds_y : aWorlds ≠ y := ne_ri e_y e_aWorlds
  have n_aWorlds_aKind : aWorlds ≠ aKind := ne_len e_aKind e_aWorlds (by decide)
  have n_aWorlds_aSize : aWorlds ≠ aSize := ne_len e_aSize e_aWorlds (by decide)
  have n_aWorlds_aMarks : aWorlds ≠ aMarks := ne_len e_aMarks e_aWorlds (by decide)
  have n_aWorlds_aSeed : aWorlds ≠ aSeed := ne_len e_aSeed e_aWorlds (by decide)
  have n_aWorlds_aContentMany : aWorlds ≠ aContentMany := ne_len e_aContentMany e_aWorlds (by decide)
  have n_aWorlds_aRow : aWorlds ≠ aRow := ne_len e_aRow e_aWorlds (by decide)
  have n_aWorlds_aRestMany : aWorlds ≠ aRestMany := ne_len e_aRestMany e_aWorlds (by decide)
  have n_aInWorld_y : aInWorld ≠ y := ne_ri e_y e_aInWorld
  have n_aInWorld_aKind : aInWorld ≠ aKind := ne_len e_aKind e_aInWorld (by decide)
  have n_aInWorld_aSize : aInWorld ≠ aSize := ne_len e_aSize e_aInWorld (by decide)
  have n_aInWorld_aMarks : aInWorld ≠ aMarks := ne_len e_aMarks e_aInWorld (by decide)
  have n_aInWorld_aSeed : aInWorld ≠ aSeed := ne_len e_aSeed e_aInWorld (by decide)
  have n_aInWorld_aContentMany : aInWorld ≠ aContentMany := ne_len e_aContentMany e_aInWorld (by decide)
  have n_aInWorld_aRow : aInWorld ≠ aRow := ne_len e_aRow e_aInWorld (by decide)
  have n_aInWorld_aRestMany : aInWorld ≠ aRestMany := ne_len e_aRestMany e_aInWorld (by decide)
  have n_aContents_y : aContents ≠ y := ne_ri e_y e_aContents
  have n_aContents_aKind : aContents ≠ aKind := ne_len e_aKind e_aContents (by decide)
  have n_aContents_aSize : aContents ≠ aSize := ne_len e_aSize e_aContents (by decide)
  have n_aContents_aMarks : aContents ≠ aMarks := ne_len e_aMarks e_aContents (by decide)
  have n_aContents_aSeed : aContents ≠ aSeed := ne_len e_aSeed e_aContents (by decide)
  have n_aContents_aContentMany : aContents ≠ aContentMany := ne_len e_aContentMany e_aContents (by decide)
  have n_aContents_aRow : aContents ≠ aRow := ne_len e_aRow e_aContents (by decide)
  have n_aContents_aRestMany : aContents ≠ aRestMany := ne_len e_aRestMany e_aContents (by decide)
  have n_aBits_y : aBits ≠ y := ne_ri e_y e_aBits
  have n_aBits_aKind : aBits ≠ aKind := ne_len e_aKind e_aBits (by decide)
  have n_aBits_aSize : aBits ≠ aSize := ne_len e_aSize e_aBits (by decide)
  have n_aBits_aMarks : aBits ≠ aMarks := ne_len e_aMarks e_aBits (by decide)
  have n_aBits_aSeed : aBits ≠ aSeed := ne_len e_aSeed e_aBits (by decide)
  have n_aBits_aContentMany : aBits ≠ aContentMany := ne_len e_aContentMany e_aBits (by decide)
  have n_aBits_aRow : aBits ≠ aRow := ne_len e_aRow e_aBits (by decide)
  have n_aBits_aRestMany : aBits ≠ aRestMany := ne_len e_aRestMany e_aBits (by decide)
  have n_aLayerSize_y : aLayerSize ≠ y := ne_ri e_y e_aLayerSize
  have n_aLayerSize_aKind : aLayerSize ≠ aKind := ne_len e_aKind e_aLayerSize (by decide)
  have n_aLayerSize_aSize : aLayerSize ≠ aSize := ne_len e_aSize e_aLayerSize (by decide)
  have n_aLayerSize_aMarks : aLayerSize ≠ aMarks := ne_len e_aMarks e_aLayerSize (by decide)
  have n_aLayerSize_aSeed : aLayerSize ≠ aSeed := ne_len e_aSeed e_aLayerSize (by decide)
  have n_aLayerSize_aContentMany : aLayerSize ≠ aContentMany := ne_len e_aContentMany e_aLayerSize (by decide)
  have n_aLayerSize_aRow : aLayerSize ≠ aRow := ne_len e_aRow e_aLayerSize (by decide)
  have n_aLayerSize_aRestMany : aLayerSize ≠ aRestMany := ne_len e_aRestMany e_aLayerSize (by decide)
  have n_aLayerCame_y : aLayerCame ≠ y := ne_ri e_y e_aLayerCame
  have n_aLayerCame_aKind : aLayerCame ≠ aKind := ne_len e_aKind e_aLayerCame (by decide)
  have n_aLayerCame_aSize : aLayerCame ≠ aSize := ne_len e_aSize e_aLayerCame (by decide)
  have n_aLayerCame_aMarks : aLayerCame ≠ aMarks := ne_len e_aMarks e_aLayerCame (by decide)
  have n_aLayerCame_aSeed : aLayerCame ≠ aSeed := ne_len e_aSeed e_aLayerCame (by decide)
  have n_aLayerCame_aContentMany : aLayerCame ≠ aContentMany := ne_len e_aContentMany e_aLayerCame (by decide)
  have n_aLayerCame_aRow : aLayerCame ≠ aRow := ne_len e_aRow e_aLayerCame (by decide)
  have n_aLayerCame_aRestMany : aLayerCame ≠ aRestMany := ne_len e_aRestMany e_aLayerCame (by decide)
  have n_aRest_y : aRest ≠ y := ne_ri e_y e_aRest
  have n_aRest_aKind : aRest ≠ aKind := ne_len e_aKind e_aRest (by decide)
  have n_aRest_aSize : aRest ≠ aSize := ne_len e_aSize e_aRest (by decide)
  have n_aRest_aMarks : aRest ≠ aMarks := ne_len e_aMarks e_aRest (by decide)
  have n_aRest_aSeed : aRest ≠ aSeed := ne_len e_aSeed e_aRest (by decide)
  have n_aRest_aContentMany : aRest ≠ aContentMany := ne_len e_aContentMany e_aRest (by decide)
  have n_aRest_aRow : aRest ≠ aRow := ne_len e_aRow e_aRest (by decide)
  have n_aRest_aRestMany : aRest ≠ aRestMany := ne_len e_aRestMany e_aRest (by decide)
  have n_aCome_y : aCome ≠ y := ne_ri e_y e_aCome
  have n_aCome_aKind : aCome ≠ aKind := ne_len e_aKind e_aCome (by decide)
  have n_aCome_aSize : aCome ≠ aSize := ne_len e_aSize e_aCome (by decide)
  have n_aCome_aMarks : aCome ≠ aMarks := ne_len e_aMarks e_aCome (by decide)
  have n_aCome_aSeed : aCome ≠ aSeed := ne_len e_aSeed e_aCome (by decide)
  have n_aCome_aContentMany : aCome ≠ aContentMany := ne_len e_aContentMany e_aCome (by decide)
  have n_aCome_aRow : aCome ≠ aRow := ne_len e_aRow e_aCome (by decide)
  have n_aCome_aRestMany : aCome ≠ aRestMany := ne_len e_aRestMany e_aCome (by decide)
  have n_aRivals_y : aRivals ≠ y := ne_ri e_y e_aRivals
  have n_aRivals_aKind : aRivals ≠ aKind := ne_len e_aKind e_aRivals (by decide)
  have n_aRivals_aSize : aRivals ≠ aSize := ne_len e_aSize e_aRivals (by decide)
  have n_aRivals_aMarks : aRivals ≠ aMarks := ne_len e_aMarks e_aRivals (by decide)
  have n_aRivals_aSeed : aRivals ≠ aSeed := ne_len e_aSeed e_aRivals (by decide)
  have n_aRivals_aContentMany : aRivals ≠ aContentMany := ne_len e_aContentMany e_aRivals (by decide)
  have n_aRivals_aRow : aRivals ≠ aRow := ne_len e_aRow e_aRivals (by decide)
  have n_aRivals_aRestMany : aRivals ≠ aRestMany := ne_len e_aRestMany e_aRivals (by decide)
  have n_aGone_y : aGone ≠ y := ne_ri e_y e_aGone
  have n_aGone_aKind : aGone ≠ aKind := ne_len e_aKind e_aGone (by decide)
  have n_aGone_aSize : aGone ≠ aSize := ne_len e_aSize e_aGone (by decide)
  have n_aGone_aMarks : aGone ≠ aMarks := ne_len e_aMarks e_aGone (by decide)
  have n_aGone_aSeed : aGone ≠ aSeed := ne_len e_aSeed e_aGone (by decide)
  have n_aGone_aContentMany : aGone ≠ aContentMany := ne_len e_aContentMany e_aGone (by decide)
  have n_aGone_aRow : aGone ≠ aRow := ne_len e_aRow e_aGone (by decide)
  have n_aGone_aRestMany : aGone ≠ aRestMany := ne_len e_aRestMany e_aGone (by decide)
  have n_aOrder_y : aOrder ≠ y := ne_ri e_y e_aOrder
  have n_aOrder_aKind : aOrder ≠ aKind := ne_len e_aKind e_aOrder (by decide)
  have n_aOrder_aSize : aOrder ≠ aSize := ne_len e_aSize e_aOrder (by decide)
  have n_aOrder_aMarks : aOrder ≠ aMarks := ne_len e_aMarks e_aOrder (by decide)
  have n_aOrder_aSeed : aOrder ≠ aSeed := ne_len e_aSeed e_aOrder (by decide)
  have n_aOrder_aContentMany : aOrder ≠ aContentMany := ne_len e_aContentMany e_aOrder (by decide)
  have n_aOrder_aRow : aOrder ≠ aRow := ne_len e_aRow e_aOrder (by decide)
  have n_aOrder_aRestMany : aOrder ≠ aRestMany := ne_len e_aRestMany e_aOrder (by decide)
  have n_aOffAt_y : aOffAt ≠ y := ne_ri e_y e_aOffAt
  have n_aOffAt_aKind : aOffAt ≠ aKind := ne_len e_aKind e_aOffAt (by decide)
  have n_aOffAt_aSize : aOffAt ≠ aSize := ne_len e_aSize e_aOffAt (by decide)
  have n_aOffAt_aMarks : aOffAt ≠ aMarks := ne_len e_aMarks e_aOffAt (by decide)
  have n_aOffAt_aSeed : aOffAt ≠ aSeed := ne_len e_aSeed e_aOffAt (by decide)
  have n_aOffAt_aContentMany : aOffAt ≠ aContentMany := ne_len e_aContentMany e_aOffAt (by decide)
  have n_aOffAt_aRow : aOffAt ≠ aRow := ne_len e_aRow e_aOffAt (by decide)
  have n_aOffAt_aRestMany : aOffAt ≠ aRestMany := ne_len e_aRestMany e_aOffAt (by decide)
  have n_aIsOff_y : aIsOff ≠ y := ne_ri e_y e_aIsOff
  have n_aIsOff_aKind : aIsOff ≠ aKind := ne_len e_aKind e_aIsOff (by decide)
  have n_aIsOff_aSize : aIsOff ≠ aSize := ne_len e_aSize e_aIsOff (by decide)
  have n_aIsOff_aMarks : aIsOff ≠ aMarks := ne_len e_aMarks e_aIsOff (by decide)
  have n_aIsOff_aSeed : aIsOff ≠ aSeed := ne_len e_aSeed e_aIsOff (by decide)
  have n_aIsOff_aContentMany : aIsOff ≠ aContentMany := ne_len e_aContentMany e_aIsOff (by decide)
  have n_aIsOff_aRow : aIsOff ≠ aRow := ne_len e_aRow e_aIsOff (by decide)
  have n_aIsOff_aRestMany : aIsOff ≠ aRestMany := ne_len e_aRestMany e_aIsOff (by decide)
  have n_aAlone_y : aAlone ≠ y := ne_ri e_y e_aAlone
  have n_aAlone_aKind : aAlone ≠ aKind := ne_len e_aKind e_aAlone (by decide)
  have n_aAlone_aSize : aAlone ≠ aSize := ne_len e_aSize e_aAlone (by decide)
  have n_aAlone_aMarks : aAlone ≠ aMarks := ne_len e_aMarks e_aAlone (by decide)
  have n_aAlone_aSeed : aAlone ≠ aSeed := ne_len e_aSeed e_aAlone (by decide)
  have n_aAlone_aContentMany : aAlone ≠ aContentMany := ne_len e_aContentMany e_aAlone (by decide)
  have n_aAlone_aRow : aAlone ≠ aRow := ne_len e_aRow e_aAlone (by decide)
  have n_aAlone_aRestMany : aAlone ≠ aRestMany := ne_len e_aRestMany e_aAlone (by decide)
  have n_aKept_y : aKept ≠ y := ne_ri e_y e_aKept
  have n_aKept_aKind : aKept ≠ aKind := ne_len e_aKind e_aKept (by decide)
  have n_aKept_aSize : aKept ≠ aSize := ne_len e_aSize e_aKept (by decide)
  have n_aKept_aMarks : aKept ≠ aMarks := ne_len e_aMarks e_aKept (by decide)
  have n_aKept_aSeed : aKept ≠ aSeed := ne_len e_aSeed e_aKept (by decide)
  have n_aKept_aContentMany : aKept ≠ aContentMany := ne_len e_aContentMany e_aKept (by decide)
  have n_aKept_aRow : aKept ≠ aRow := ne_len e_aRow e_aKept (by decide)
  have n_aKept_aRestMany : aKept ≠ aRestMany := ne_len e_aRestMany e_aKept (by decide)
  have n_y_aContents : y ≠ aContents := ne_ir e_aContents e_y
  have n_aContentMany_aContents : aContentMany ≠ aContents := ne_len e_aContents e_aContentMany (by decide)
  have n_y_aContentMany : y ≠ aContentMany := ne_ir e_aContentMany e_y
  have n_aWorlds_aContents : aWorlds ≠ aContents := ne_len e_aContents e_aWorlds (by decide)
  have n_aInWorld_aContents : aInWorld ≠ aContents := ne_len e_aContents e_aInWorld (by decide)
  have n_aKind_aContents : aKind ≠ aContents := ne_len e_aContents e_aKind (by decide)
  have n_aKind_aContentMany : aKind ≠ aContentMany := role_ne r_aContentMany r_aKind (by decide)
  have n_aSize_aContents : aSize ≠ aContents := ne_len e_aContents e_aSize (by decide)
  have n_aSize_aContentMany : aSize ≠ aContentMany := role_ne r_aContentMany r_aSize (by decide)
  have n_aMarks_aContents : aMarks ≠ aContents := ne_len e_aContents e_aMarks (by decide)
  have n_aMarks_aContentMany : aMarks ≠ aContentMany := role_ne r_aContentMany r_aMarks (by decide)
  have n_aSeed_aContents : aSeed ≠ aContents := ne_len e_aContents e_aSeed (by decide)
  have n_aSeed_aContentMany : aSeed ≠ aContentMany := role_ne r_aContentMany r_aSeed (by decide)
  have n_aRow_aContents : aRow ≠ aContents := ne_len e_aContents e_aRow (by decide)
  have n_aRow_aContentMany : aRow ≠ aContentMany := ne_len e_aContentMany e_aRow (by decide)
  have n_aBits_aContents : aBits ≠ aContents := ne_len e_aContents e_aBits (by decide)
  have n_aLayerSize_aContents : aLayerSize ≠ aContents := ne_len e_aContents e_aLayerSize (by decide)
  have n_aLayerCame_aContents : aLayerCame ≠ aContents := ne_len e_aContents e_aLayerCame (by decide)
  have n_aRest_aContents : aRest ≠ aContents := role_ne r_aContents r_aRest (by decide)
  have n_aRestMany_aContents : aRestMany ≠ aContents := ne_len e_aContents e_aRestMany (by decide)
  have n_aRestMany_aContentMany : aRestMany ≠ aContentMany := role_ne r_aContentMany r_aRestMany (by decide)
  have n_aCome_aContents : aCome ≠ aContents := ne_len e_aContents e_aCome (by decide)
  have n_aRivals_aContents : aRivals ≠ aContents := ne_len e_aContents e_aRivals (by decide)
  have n_aGone_aContents : aGone ≠ aContents := ne_len e_aContents e_aGone (by decide)
  have n_aOrder_aContents : aOrder ≠ aContents := ne_len e_aContents e_aOrder (by decide)
  have n_aOffAt_aContents : aOffAt ≠ aContents := ne_len e_aContents e_aOffAt (by decide)
  have n_aIsOff_aContents : aIsOff ≠ aContents := ne_len e_aContents e_aIsOff (by decide)
  have n_aAlone_aContents : aAlone ≠ aContents := ne_len e_aContents e_aAlone (by decide)
  have n_aKept_aContents : aKept ≠ aContents := ne_len e_aContents e_aKept (by decide)
  have n_y_aRow : y ≠ aRow := ne_ir e_aRow e_y
  have n_aKind_aRow : aKind ≠ aRow := ne_len e_aRow e_aKind (by decide)
  have n_aSize_aRow : aSize ≠ aRow := ne_len e_aRow e_aSize (by decide)
  have n_aMarks_aRow : aMarks ≠ aRow := ne_len e_aRow e_aMarks (by decide)
  have n_aSeed_aRow : aSeed ≠ aRow := ne_len e_aRow e_aSeed (by decide)
  have n_aContentMany_aRow : aContentMany ≠ aRow := ne_len e_aRow e_aContentMany (by decide)
  have n_aRestMany_aRow : aRestMany ≠ aRow := ne_len e_aRow e_aRestMany (by decide)
  have fr : ∀ b, b ∈ L → b ≠ y → b ≠ aKind → b ≠ aSize → b ≠ aMarks → b ≠ aSeed → b ≠ aContents → b ≠ aContentMany → b ≠ aRow → b ≠ aRestMany → f b = f b := fun _ _ _ _ _ _ _ _ _ _ _ => rfl
  unfold mX9_join at hM
  refine W_gen (fun QQ hQQ => ?_)
  refine lv_iload_n hx hb dX9_join_0 rfl (lv_at hl 1 rfl) ?_
  refine lv_if_lt (tgt := 25) hx hb dX9_join_1 (by decide) (fun b1 => ?_) (fun b1 => ?_)
  · have hM := itT b1 hM
    refine lv_iconst (v := (-1 : Int32)) hx hb dX9_join_25 (by decide) ?_
    subst hQQ
    exact q_reti (post := fun x L1 f1 => x = z.1 ∧ L1 = L ∧ (∀ b, b ∈ L → b ≠ y → b ≠ aKind → b ≠ aSize → b ≠ aMarks → b ≠ aSeed → b ≠ aContents → b ≠ aContentMany → b ≠ aRow → b ≠ aRestMany → f1 b = f b) ∧ f1 y = .inr (7, [.ref aWorlds, .ref aInWorld, .ref aKind, .ref aSize, .ref aMarks, .ref aSeed, .ref aContents, .ref aContentMany, .ref aRow, .ref aBits, .ref aLayerSize, .ref aLayerCame, .ref aRest, .ref aRestMany, .int z.2.1, .ref aCome, .ref aRivals, .ref aGone, .ref aOrder, .ref aOffAt, .ref aIsOff, .ref aAlone, .ref aKept]) ∧ f1 aKind = .inl (g 0, 30, .inl z.2.2.1) ∧ f1 aSize = .inl (g 0, 30, .inl z.2.2.2.1) ∧ f1 aMarks = .inl (g 0, 30, .inl z.2.2.2.2.1) ∧ f1 aSeed = .inl (g 0, 30, .inl z.2.2.2.2.2.1) ∧ f1 aContents = .inl (g 1, 30000, .inr (.inl z.2.2.2.2.2.2.1)) ∧ f1 aContentMany = .inl (g 0, 30, .inl z.2.2.2.2.2.2.2.1) ∧ f1 aRow = .inl (g 0, 122880, .inl z.2.2.2.2.2.2.2.2.1) ∧ f1 aRestMany = .inl (g 0, 30, .inl z.2.2.2.2.2.2.2.2.2)) hx hb hr hlk S dX9_join_26 (by decide) (by decide) (by have hz := Option.some.inj hM; subst hz; exact ⟨rfl, rfl, fr, e_y, e_aKind, e_aSize, e_aMarks, e_aSeed, e_aContents, e_aContentMany, e_aRow, e_aRestMany⟩)
  · have hM := itF b1 hM
    refine lv_iload_n hx hb dX9_join_4 rfl (lv_at hl 1 rfl) ?_
    refine lv_iconst (v := (1 : Int32)) hx hb dX9_join_5 (by decide) ?_
    refine lv_icmp_gt (tgt := 25) hx hb dX9_join_6 (by decide) (fun b6 => ?_) (fun b6 => ?_)
    · have hM := itT b6 hM
      refine lv_iconst (v := (-1 : Int32)) hx hb dX9_join_25 (by decide) ?_
      subst hQQ
      exact q_reti (post := fun x L1 f1 => x = z.1 ∧ L1 = L ∧ (∀ b, b ∈ L → b ≠ y → b ≠ aKind → b ≠ aSize → b ≠ aMarks → b ≠ aSeed → b ≠ aContents → b ≠ aContentMany → b ≠ aRow → b ≠ aRestMany → f1 b = f b) ∧ f1 y = .inr (7, [.ref aWorlds, .ref aInWorld, .ref aKind, .ref aSize, .ref aMarks, .ref aSeed, .ref aContents, .ref aContentMany, .ref aRow, .ref aBits, .ref aLayerSize, .ref aLayerCame, .ref aRest, .ref aRestMany, .int z.2.1, .ref aCome, .ref aRivals, .ref aGone, .ref aOrder, .ref aOffAt, .ref aIsOff, .ref aAlone, .ref aKept]) ∧ f1 aKind = .inl (g 0, 30, .inl z.2.2.1) ∧ f1 aSize = .inl (g 0, 30, .inl z.2.2.2.1) ∧ f1 aMarks = .inl (g 0, 30, .inl z.2.2.2.2.1) ∧ f1 aSeed = .inl (g 0, 30, .inl z.2.2.2.2.2.1) ∧ f1 aContents = .inl (g 1, 30000, .inr (.inl z.2.2.2.2.2.2.1)) ∧ f1 aContentMany = .inl (g 0, 30, .inl z.2.2.2.2.2.2.2.1) ∧ f1 aRow = .inl (g 0, 122880, .inl z.2.2.2.2.2.2.2.2.1) ∧ f1 aRestMany = .inl (g 0, 30, .inl z.2.2.2.2.2.2.2.2.2)) hx hb hr hlk S dX9_join_26 (by decide) (by decide) (by have hz := Option.some.inj hM; subst hz; exact ⟨rfl, rfl, fr, e_y, e_aKind, e_aSize, e_aMarks, e_aSeed, e_aContents, e_aContentMany, e_aRow, e_aRestMany⟩)
    · have hM := itF b6 hM
      refine lv_aload_n hx hb dX9_join_9 rfl (lv_at hl 0 rfl) ?_
      refine lv_iload_n hx hb dX9_join_10 rfl (lv_at hl 2 rfl) ?_
      obtain ⟨z11, hz11, hM⟩ := bind_some hM
      refine q_vi (As := [.int aq]) (rest := []) ⟨hx, hb, hml, hown, hts⟩ (k_X9_is l D g m_y e_y hz11) (cwV 1 hts gX9_join_X9_is rfl rfl rfl (by decide +kernel) ⟨Nat.le_of_ble_eq_true rfl, Nat.le_of_ble_eq_true rfl⟩) S m_y e_y (T := TX9) (N := 23) rfl rfl hl.1 rfl (Nat.le_of_ble_eq_true rfl) dX9_join_11 ⟨Nat.le_of_ble_eq_true rfl, Nat.le_of_ble_eq_true rfl⟩ (fun r3 L1 f2 H locs S w11 => ?_)
      obtain ⟨ex11, eL, ef⟩ := w11
      rw [eL, ef] at S
      replace ex11 := ex11.symm
      subst ex11
      refine lv_if_eq (tgt := 25) hx hb dX9_join_14 (by decide) (fun b14 => ?_) (fun b14 => ?_)
      · have hM := itT b14 hM
        refine lv_iconst (v := (-1 : Int32)) hx hb dX9_join_25 (by decide) ?_
        subst hQQ
        exact q_reti (post := fun x L1 f1 => x = z.1 ∧ L1 = L ∧ (∀ b, b ∈ L → b ≠ y → b ≠ aKind → b ≠ aSize → b ≠ aMarks → b ≠ aSeed → b ≠ aContents → b ≠ aContentMany → b ≠ aRow → b ≠ aRestMany → f1 b = f b) ∧ f1 y = .inr (7, [.ref aWorlds, .ref aInWorld, .ref aKind, .ref aSize, .ref aMarks, .ref aSeed, .ref aContents, .ref aContentMany, .ref aRow, .ref aBits, .ref aLayerSize, .ref aLayerCame, .ref aRest, .ref aRestMany, .int z.2.1, .ref aCome, .ref aRivals, .ref aGone, .ref aOrder, .ref aOffAt, .ref aIsOff, .ref aAlone, .ref aKept]) ∧ f1 aKind = .inl (g 0, 30, .inl z.2.2.1) ∧ f1 aSize = .inl (g 0, 30, .inl z.2.2.2.1) ∧ f1 aMarks = .inl (g 0, 30, .inl z.2.2.2.2.1) ∧ f1 aSeed = .inl (g 0, 30, .inl z.2.2.2.2.2.1) ∧ f1 aContents = .inl (g 1, 30000, .inr (.inl z.2.2.2.2.2.2.1)) ∧ f1 aContentMany = .inl (g 0, 30, .inl z.2.2.2.2.2.2.2.1) ∧ f1 aRow = .inl (g 0, 122880, .inl z.2.2.2.2.2.2.2.2.1) ∧ f1 aRestMany = .inl (g 0, 30, .inl z.2.2.2.2.2.2.2.2.2)) hx hb hr hlk S dX9_join_26 (by decide) (by decide) (by have hz := Option.some.inj hM; subst hz; exact ⟨rfl, rfl, fr, e_y, e_aKind, e_aSize, e_aMarks, e_aSeed, e_aContents, e_aContentMany, e_aRow, e_aRestMany⟩)
      · have hM := itF b14 hM
        refine lv_aload_n hx hb dX9_join_17 rfl (lv_at hl 0 rfl) ?_
        refine lv_iload_n hx hb dX9_join_18 rfl (lv_at hl 3 rfl) ?_
        obtain ⟨z19, hz19, hM⟩ := bind_some hM
        refine q_vi (As := [.int bq]) (rest := []) ⟨hx, hb, hml, hown, hts⟩ (k_X9_is l D g m_y e_y hz19) (cwV 1 hts gX9_join_X9_is rfl rfl rfl (by decide +kernel) ⟨Nat.le_of_ble_eq_true rfl, Nat.le_of_ble_eq_true rfl⟩) S m_y e_y (T := TX9) (N := 23) rfl rfl hl.1 rfl (Nat.le_of_ble_eq_true rfl) dX9_join_19 ⟨Nat.le_of_ble_eq_true rfl, Nat.le_of_ble_eq_true rfl⟩ (fun r6 L4 f5 H locs S w19 => ?_)
        obtain ⟨ex19, eL, ef⟩ := w19
        rw [eL, ef] at S
        replace ex19 := ex19.symm
        subst ex19
        refine lv_if_ne (tgt := 27) hx hb dX9_join_22 (by decide) (fun b22 => ?_) (fun b22 => ?_)
        · have hM := itF b22 hM
          refine lv_aload_n hx hb dX9_join_27 rfl (lv_at hl 0 rfl) ?_
          refine q_get hx hb hts in_X9 hown S m_y e_y (C := RX9) (T := TX9) (N := 23) rfl 2 (by decide) rfl (hts (.fieldLink RX9 17 "SieveCabinetModel" "kind" "[I") (by decide +kernel)) dX9_join_28 ?_
          refine lv_iload_n hx hb dX9_join_31 rfl (lv_at hl 2 rfl) ?_
          obtain ⟨hi32, hM⟩ := ckx hM
          refine q_iald hx hb S m_aKind e_aKind hi32 dX9_join_32 ?_
          refine lv_if_ne (tgt := 90) hx hb dX9_join_33 (by decide) (fun b33 => ?_) (fun b33 => ?_)
          · have hM := itF b33 hM
            refine lv_bipush (v := (-2 : Int32)) hx hb dX9_join_90 (by decide) ?_
            subst hQQ
            exact q_reti (post := fun x L1 f1 => x = z.1 ∧ L1 = L ∧ (∀ b, b ∈ L → b ≠ y → b ≠ aKind → b ≠ aSize → b ≠ aMarks → b ≠ aSeed → b ≠ aContents → b ≠ aContentMany → b ≠ aRow → b ≠ aRestMany → f1 b = f b) ∧ f1 y = .inr (7, [.ref aWorlds, .ref aInWorld, .ref aKind, .ref aSize, .ref aMarks, .ref aSeed, .ref aContents, .ref aContentMany, .ref aRow, .ref aBits, .ref aLayerSize, .ref aLayerCame, .ref aRest, .ref aRestMany, .int z.2.1, .ref aCome, .ref aRivals, .ref aGone, .ref aOrder, .ref aOffAt, .ref aIsOff, .ref aAlone, .ref aKept]) ∧ f1 aKind = .inl (g 0, 30, .inl z.2.2.1) ∧ f1 aSize = .inl (g 0, 30, .inl z.2.2.2.1) ∧ f1 aMarks = .inl (g 0, 30, .inl z.2.2.2.2.1) ∧ f1 aSeed = .inl (g 0, 30, .inl z.2.2.2.2.2.1) ∧ f1 aContents = .inl (g 1, 30000, .inr (.inl z.2.2.2.2.2.2.1)) ∧ f1 aContentMany = .inl (g 0, 30, .inl z.2.2.2.2.2.2.2.1) ∧ f1 aRow = .inl (g 0, 122880, .inl z.2.2.2.2.2.2.2.2.1) ∧ f1 aRestMany = .inl (g 0, 30, .inl z.2.2.2.2.2.2.2.2.2)) hx hb hr hlk S dX9_join_92 (by decide) (by decide) (by have hz := Option.some.inj hM; subst hz; exact ⟨rfl, rfl, fr, e_y, e_aKind, e_aSize, e_aMarks, e_aSeed, e_aContents, e_aContentMany, e_aRow, e_aRestMany⟩)
          · have hM := itT b33 hM
            refine lv_aload_n hx hb dX9_join_36 rfl (lv_at hl 0 rfl) ?_
            refine q_get hx hb hts in_X9 hown S m_y e_y (C := RX9) (T := TX9) (N := 23) rfl 2 (by decide) rfl (hts (.fieldLink RX9 17 "SieveCabinetModel" "kind" "[I") (by decide +kernel)) dX9_join_37 ?_
            refine lv_iload_n hx hb dX9_join_40 rfl (lv_at hl 3 rfl) ?_
            obtain ⟨hi41, hM⟩ := ckx hM
            refine q_iald hx hb S m_aKind e_aKind hi41 dX9_join_41 ?_
            refine lv_if_ne (tgt := 90) hx hb dX9_join_42 (by decide) (fun b42 => ?_) (fun b42 => ?_)
            · have hM := itF b42 hM
              refine lv_bipush (v := (-2 : Int32)) hx hb dX9_join_90 (by decide) ?_
              subst hQQ
              exact q_reti (post := fun x L1 f1 => x = z.1 ∧ L1 = L ∧ (∀ b, b ∈ L → b ≠ y → b ≠ aKind → b ≠ aSize → b ≠ aMarks → b ≠ aSeed → b ≠ aContents → b ≠ aContentMany → b ≠ aRow → b ≠ aRestMany → f1 b = f b) ∧ f1 y = .inr (7, [.ref aWorlds, .ref aInWorld, .ref aKind, .ref aSize, .ref aMarks, .ref aSeed, .ref aContents, .ref aContentMany, .ref aRow, .ref aBits, .ref aLayerSize, .ref aLayerCame, .ref aRest, .ref aRestMany, .int z.2.1, .ref aCome, .ref aRivals, .ref aGone, .ref aOrder, .ref aOffAt, .ref aIsOff, .ref aAlone, .ref aKept]) ∧ f1 aKind = .inl (g 0, 30, .inl z.2.2.1) ∧ f1 aSize = .inl (g 0, 30, .inl z.2.2.2.1) ∧ f1 aMarks = .inl (g 0, 30, .inl z.2.2.2.2.1) ∧ f1 aSeed = .inl (g 0, 30, .inl z.2.2.2.2.2.1) ∧ f1 aContents = .inl (g 1, 30000, .inr (.inl z.2.2.2.2.2.2.1)) ∧ f1 aContentMany = .inl (g 0, 30, .inl z.2.2.2.2.2.2.2.1) ∧ f1 aRow = .inl (g 0, 122880, .inl z.2.2.2.2.2.2.2.2.1) ∧ f1 aRestMany = .inl (g 0, 30, .inl z.2.2.2.2.2.2.2.2.2)) hx hb hr hlk S dX9_join_92 (by decide) (by decide) (by have hz := Option.some.inj hM; subst hz; exact ⟨rfl, rfl, fr, e_y, e_aKind, e_aSize, e_aMarks, e_aSeed, e_aContents, e_aContentMany, e_aRow, e_aRestMany⟩)
            · have hM := itT b42 hM
              refine lv_aload_n hx hb dX9_join_45 rfl (lv_at hl 0 rfl) ?_
              refine q_get hx hb hts in_X9 hown S m_y e_y (C := RX9) (T := TX9) (N := 23) rfl 3 (by decide) rfl (hts (.fieldLink RX9 20 "SieveCabinetModel" "size" "[I") (by decide +kernel)) dX9_join_46 ?_
              refine lv_iload_n hx hb dX9_join_49 rfl (lv_at hl 2 rfl) ?_
              obtain ⟨hi50, hM⟩ := ckx hM
              refine q_iald hx hb S m_aSize e_aSize hi50 dX9_join_50 ?_
              refine lv_aload_n hx hb dX9_join_51 rfl (lv_at hl 0 rfl) ?_
              refine q_get hx hb hts in_X9 hown S m_y e_y (C := RX9) (T := TX9) (N := 23) rfl 3 (by decide) rfl (hts (.fieldLink RX9 20 "SieveCabinetModel" "size" "[I") (by decide +kernel)) dX9_join_52 ?_
              refine lv_iload_n hx hb dX9_join_55 rfl (lv_at hl 3 rfl) ?_
              obtain ⟨hi56, hM⟩ := ckx hM
              refine q_iald hx hb S m_aSize e_aSize hi56 dX9_join_56 ?_
              refine lv_icmp_ne (tgt := 90) hx hb dX9_join_57 (by decide) (fun b57 => ?_) (fun b57 => ?_)
              · have hM := itF b57 hM
                refine lv_bipush (v := (-2 : Int32)) hx hb dX9_join_90 (by decide) ?_
                subst hQQ
                exact q_reti (post := fun x L1 f1 => x = z.1 ∧ L1 = L ∧ (∀ b, b ∈ L → b ≠ y → b ≠ aKind → b ≠ aSize → b ≠ aMarks → b ≠ aSeed → b ≠ aContents → b ≠ aContentMany → b ≠ aRow → b ≠ aRestMany → f1 b = f b) ∧ f1 y = .inr (7, [.ref aWorlds, .ref aInWorld, .ref aKind, .ref aSize, .ref aMarks, .ref aSeed, .ref aContents, .ref aContentMany, .ref aRow, .ref aBits, .ref aLayerSize, .ref aLayerCame, .ref aRest, .ref aRestMany, .int z.2.1, .ref aCome, .ref aRivals, .ref aGone, .ref aOrder, .ref aOffAt, .ref aIsOff, .ref aAlone, .ref aKept]) ∧ f1 aKind = .inl (g 0, 30, .inl z.2.2.1) ∧ f1 aSize = .inl (g 0, 30, .inl z.2.2.2.1) ∧ f1 aMarks = .inl (g 0, 30, .inl z.2.2.2.2.1) ∧ f1 aSeed = .inl (g 0, 30, .inl z.2.2.2.2.2.1) ∧ f1 aContents = .inl (g 1, 30000, .inr (.inl z.2.2.2.2.2.2.1)) ∧ f1 aContentMany = .inl (g 0, 30, .inl z.2.2.2.2.2.2.2.1) ∧ f1 aRow = .inl (g 0, 122880, .inl z.2.2.2.2.2.2.2.2.1) ∧ f1 aRestMany = .inl (g 0, 30, .inl z.2.2.2.2.2.2.2.2.2)) hx hb hr hlk S dX9_join_92 (by decide) (by decide) (by have hz := Option.some.inj hM; subst hz; exact ⟨rfl, rfl, fr, e_y, e_aKind, e_aSize, e_aMarks, e_aSeed, e_aContents, e_aContentMany, e_aRow, e_aRestMany⟩)
              · have hM := itT b57 hM
                refine lv_aload_n hx hb dX9_join_60 rfl (lv_at hl 0 rfl) ?_
                refine q_get hx hb hts in_X9 hown S m_y e_y (C := RX9) (T := TX9) (N := 23) rfl 4 (by decide) rfl (hts (.fieldLink RX9 23 "SieveCabinetModel" "marks" "[I") (by decide +kernel)) dX9_join_61 ?_
                refine lv_iload_n hx hb dX9_join_64 rfl (lv_at hl 2 rfl) ?_
                obtain ⟨hi65, hM⟩ := ckx hM
                refine q_iald hx hb S m_aMarks e_aMarks hi65 dX9_join_65 ?_
                refine lv_aload_n hx hb dX9_join_66 rfl (lv_at hl 0 rfl) ?_
                refine q_get hx hb hts in_X9 hown S m_y e_y (C := RX9) (T := TX9) (N := 23) rfl 4 (by decide) rfl (hts (.fieldLink RX9 23 "SieveCabinetModel" "marks" "[I") (by decide +kernel)) dX9_join_67 ?_
                refine lv_iload_n hx hb dX9_join_70 rfl (lv_at hl 3 rfl) ?_
                obtain ⟨hi71, hM⟩ := ckx hM
                refine q_iald hx hb S m_aMarks e_aMarks hi71 dX9_join_71 ?_
                refine lv_icmp_ne (tgt := 90) hx hb dX9_join_72 (by decide) (fun b72 => ?_) (fun b72 => ?_)
                · have hM := itF b72 hM
                  refine lv_bipush (v := (-2 : Int32)) hx hb dX9_join_90 (by decide) ?_
                  subst hQQ
                  exact q_reti (post := fun x L1 f1 => x = z.1 ∧ L1 = L ∧ (∀ b, b ∈ L → b ≠ y → b ≠ aKind → b ≠ aSize → b ≠ aMarks → b ≠ aSeed → b ≠ aContents → b ≠ aContentMany → b ≠ aRow → b ≠ aRestMany → f1 b = f b) ∧ f1 y = .inr (7, [.ref aWorlds, .ref aInWorld, .ref aKind, .ref aSize, .ref aMarks, .ref aSeed, .ref aContents, .ref aContentMany, .ref aRow, .ref aBits, .ref aLayerSize, .ref aLayerCame, .ref aRest, .ref aRestMany, .int z.2.1, .ref aCome, .ref aRivals, .ref aGone, .ref aOrder, .ref aOffAt, .ref aIsOff, .ref aAlone, .ref aKept]) ∧ f1 aKind = .inl (g 0, 30, .inl z.2.2.1) ∧ f1 aSize = .inl (g 0, 30, .inl z.2.2.2.1) ∧ f1 aMarks = .inl (g 0, 30, .inl z.2.2.2.2.1) ∧ f1 aSeed = .inl (g 0, 30, .inl z.2.2.2.2.2.1) ∧ f1 aContents = .inl (g 1, 30000, .inr (.inl z.2.2.2.2.2.2.1)) ∧ f1 aContentMany = .inl (g 0, 30, .inl z.2.2.2.2.2.2.2.1) ∧ f1 aRow = .inl (g 0, 122880, .inl z.2.2.2.2.2.2.2.2.1) ∧ f1 aRestMany = .inl (g 0, 30, .inl z.2.2.2.2.2.2.2.2.2)) hx hb hr hlk S dX9_join_92 (by decide) (by decide) (by have hz := Option.some.inj hM; subst hz; exact ⟨rfl, rfl, fr, e_y, e_aKind, e_aSize, e_aMarks, e_aSeed, e_aContents, e_aContentMany, e_aRow, e_aRestMany⟩)
                · have hM := itT b72 hM
                  refine lv_aload_n hx hb dX9_join_75 rfl (lv_at hl 0 rfl) ?_
                  refine q_get hx hb hts in_X9 hown S m_y e_y (C := RX9) (T := TX9) (N := 23) rfl 5 (by decide) rfl (hts (.fieldLink RX9 26 "SieveCabinetModel" "seed" "[I") (by decide +kernel)) dX9_join_76 ?_
                  refine lv_iload_n hx hb dX9_join_79 rfl (lv_at hl 2 rfl) ?_
                  obtain ⟨hi80, hM⟩ := ckx hM
                  refine q_iald hx hb S m_aSeed e_aSeed hi80 dX9_join_80 ?_
                  refine lv_aload_n hx hb dX9_join_81 rfl (lv_at hl 0 rfl) ?_
                  refine q_get hx hb hts in_X9 hown S m_y e_y (C := RX9) (T := TX9) (N := 23) rfl 5 (by decide) rfl (hts (.fieldLink RX9 26 "SieveCabinetModel" "seed" "[I") (by decide +kernel)) dX9_join_82 ?_
                  refine lv_iload_n hx hb dX9_join_85 rfl (lv_at hl 3 rfl) ?_
                  obtain ⟨hi86, hM⟩ := ckx hM
                  refine q_iald hx hb S m_aSeed e_aSeed hi86 dX9_join_86 ?_
                  refine lv_icmp_eq (tgt := 93) hx hb dX9_join_87 (by decide) (fun b87 => ?_) (fun b87 => ?_)
                  · have hM := itT b87 hM
                    refine lv_aload_n hx hb dX9_join_93 rfl (lv_at hl 0 rfl) ?_
                    refine q_get hx hb hts in_X9 hown S m_y e_y (C := RX9) (T := TX9) (N := 23) rfl 14 (by decide) rfl (hts (.fieldLink RX9 88 "SieveCabinetModel" "many" "I") (by decide +kernel)) dX9_join_94 ?_
                    refine lv_bipush (v := (30 : Int32)) hx hb dX9_join_97 (by decide) ?_
                    refine lv_icmp_eq (tgt := 125) hx hb dX9_join_99 (by decide) (fun b99 => ?_) (fun b99 => ?_)
                    · have hM := itT b99 hM
                      refine lv_bipush (v := (-4 : Int32)) hx hb dX9_join_125 (by decide) ?_
                      subst hQQ
                      exact q_reti (post := fun x L1 f1 => x = z.1 ∧ L1 = L ∧ (∀ b, b ∈ L → b ≠ y → b ≠ aKind → b ≠ aSize → b ≠ aMarks → b ≠ aSeed → b ≠ aContents → b ≠ aContentMany → b ≠ aRow → b ≠ aRestMany → f1 b = f b) ∧ f1 y = .inr (7, [.ref aWorlds, .ref aInWorld, .ref aKind, .ref aSize, .ref aMarks, .ref aSeed, .ref aContents, .ref aContentMany, .ref aRow, .ref aBits, .ref aLayerSize, .ref aLayerCame, .ref aRest, .ref aRestMany, .int z.2.1, .ref aCome, .ref aRivals, .ref aGone, .ref aOrder, .ref aOffAt, .ref aIsOff, .ref aAlone, .ref aKept]) ∧ f1 aKind = .inl (g 0, 30, .inl z.2.2.1) ∧ f1 aSize = .inl (g 0, 30, .inl z.2.2.2.1) ∧ f1 aMarks = .inl (g 0, 30, .inl z.2.2.2.2.1) ∧ f1 aSeed = .inl (g 0, 30, .inl z.2.2.2.2.2.1) ∧ f1 aContents = .inl (g 1, 30000, .inr (.inl z.2.2.2.2.2.2.1)) ∧ f1 aContentMany = .inl (g 0, 30, .inl z.2.2.2.2.2.2.2.1) ∧ f1 aRow = .inl (g 0, 122880, .inl z.2.2.2.2.2.2.2.2.1) ∧ f1 aRestMany = .inl (g 0, 30, .inl z.2.2.2.2.2.2.2.2.2)) hx hb hr hlk S dX9_join_127 (by decide) (by decide) (by have hz := Option.some.inj hM; subst hz; exact ⟨rfl, rfl, fr, e_y, e_aKind, e_aSize, e_aMarks, e_aSeed, e_aContents, e_aContentMany, e_aRow, e_aRestMany⟩)
                    · have hM := itF b99 hM
                      refine lv_iload_n hx hb dX9_join_102 rfl (lv_at hl 1 rfl) ?_
                      refine lv_if_ne (tgt := 128) hx hb dX9_join_103 (by decide) (fun b103 => ?_) (fun b103 => ?_)
                      · have hM := itF b103 hM
                        refine lv_aload_n hx hb dX9_join_128 rfl (lv_at hl 0 rfl) ?_
                        refine lv_iconst (v := (0 : Int32)) hx hb dX9_join_129 (by decide) ?_
                        refine lv_aload_n hx hb dX9_join_130 rfl (lv_at hl 0 rfl) ?_
                        refine q_get hx hb hts in_X9 hown S m_y e_y (C := RX9) (T := TX9) (N := 23) rfl 3 (by decide) rfl (hts (.fieldLink RX9 20 "SieveCabinetModel" "size" "[I") (by decide +kernel)) dX9_join_131 ?_
                        refine lv_iload_n hx hb dX9_join_134 rfl (lv_at hl 2 rfl) ?_
                        obtain ⟨hi135, hM⟩ := ckx hM
                        refine q_iald hx hb S m_aSize e_aSize hi135 dX9_join_135 ?_
                        refine lv_aload_n hx hb dX9_join_136 rfl (lv_at hl 0 rfl) ?_
                        refine q_get hx hb hts in_X9 hown S m_y e_y (C := RX9) (T := TX9) (N := 23) rfl 4 (by decide) rfl (hts (.fieldLink RX9 23 "SieveCabinetModel" "marks" "[I") (by decide +kernel)) dX9_join_137 ?_
                        refine lv_iload_n hx hb dX9_join_140 rfl (lv_at hl 2 rfl) ?_
                        obtain ⟨hi141, hM⟩ := ckx hM
                        refine q_iald hx hb S m_aMarks e_aMarks hi141 dX9_join_141 ?_
                        refine lv_aload_n hx hb dX9_join_142 rfl (lv_at hl 0 rfl) ?_
                        refine q_get hx hb hts in_X9 hown S m_y e_y (C := RX9) (T := TX9) (N := 23) rfl 5 (by decide) rfl (hts (.fieldLink RX9 26 "SieveCabinetModel" "seed" "[I") (by decide +kernel)) dX9_join_143 ?_
                        refine lv_iload_n hx hb dX9_join_146 rfl (lv_at hl 2 rfl) ?_
                        obtain ⟨hi147, hM⟩ := ckx hM
                        refine q_iald hx hb S m_aSeed e_aSeed hi147 dX9_join_147 ?_
                        obtain ⟨z148, hz148, hM⟩ := bind_some hM
                        refine q_vi (As := [.int (0 : Int32), .int (vSize (Int32.toNatClampNeg aq)), .int (vMarks (Int32.toNatClampNeg aq)), .int (vSeed (Int32.toNatClampNeg aq))]) (rest := []) ⟨hx, hb, hml, hown, hts⟩ (k_X9_begin l D g m_y e_y m_aWorlds e_aWorlds m_aInWorld e_aInWorld m_aKind e_aKind m_aSize e_aSize m_aMarks e_aMarks m_aSeed e_aSeed m_aContents e_aContents m_aContentMany e_aContentMany m_aRow e_aRow m_aBits e_aBits m_aLayerSize e_aLayerSize m_aLayerCame e_aLayerCame m_aRest e_aRest m_aRestMany e_aRestMany m_aCome e_aCome m_aRivals e_aRivals m_aGone e_aGone m_aOrder e_aOrder m_aOffAt e_aOffAt m_aIsOff e_aIsOff m_aAlone e_aAlone m_aKept e_aKept r_aKind r_aSize r_aMarks r_aSeed r_aContentMany r_aRestMany hz148) (cwV 4 hts gX9_join_X9_begin rfl rfl rfl (by decide +kernel) ⟨Nat.le_of_ble_eq_true rfl, Nat.le_of_ble_eq_true rfl⟩) S m_y e_y (T := TX9) (N := 23) rfl rfl hl.1 rfl (Nat.le_of_ble_eq_true rfl) dX9_join_148 ⟨Nat.le_of_ble_eq_true rfl, Nat.le_of_ble_eq_true rfl⟩ (fun r9 L7 f8 H locs S w148 => ?_)
                        obtain ⟨ex148, eL, fv148, E_y, E_aKind, E_aSize, E_aMarks, E_aSeed, E_aContentMany, E_aRow, E_aRestMany⟩ := w148
                        rw [eL] at S
                        have fr : ∀ b, b ∈ L → b ≠ y → b ≠ aKind → b ≠ aSize → b ≠ aMarks → b ≠ aSeed → b ≠ aContents → b ≠ aContentMany → b ≠ aRow → b ≠ aRestMany → f8 b = f b := fun b mb nb0 nb1 nb2 nb3 nb4 nb5 nb6 nb7 nb8 => (fv148 b mb nb0 nb1 nb2 nb3 nb4 nb6 nb7 nb8).trans (fr b mb nb0 nb1 nb2 nb3 nb4 nb5 nb6 nb7 nb8)
                        have e_y : f8 y = .inr (7, [.ref aWorlds, .ref aInWorld, .ref aKind, .ref aSize, .ref aMarks, .ref aSeed, .ref aContents, .ref aContentMany, .ref aRow, .ref aBits, .ref aLayerSize, .ref aLayerCame, .ref aRest, .ref aRestMany, .int z148.2.1, .ref aCome, .ref aRivals, .ref aGone, .ref aOrder, .ref aOffAt, .ref aIsOff, .ref aAlone, .ref aKept]) := E_y
                        have e_aKind : f8 aKind = .inl (g 0, 30, .inl z148.2.2.1) := E_aKind
                        have e_aSize : f8 aSize = .inl (g 0, 30, .inl z148.2.2.2.1) := E_aSize
                        have e_aMarks : f8 aMarks = .inl (g 0, 30, .inl z148.2.2.2.2.1) := E_aMarks
                        have e_aSeed : f8 aSeed = .inl (g 0, 30, .inl z148.2.2.2.2.2.1) := E_aSeed
                        have e_aContentMany : f8 aContentMany = .inl (g 0, 30, .inl z148.2.2.2.2.2.2.1) := E_aContentMany
                        have e_aRow : f8 aRow = .inl (g 0, 122880, .inl z148.2.2.2.2.2.2.2.1) := E_aRow
                        have e_aRestMany : f8 aRestMany = .inl (g 0, 30, .inl z148.2.2.2.2.2.2.2.2) := E_aRestMany
                        replace ex148 := ex148.symm
                        subst ex148
                        refine lv_istore (lv' := [(4, .int z148.1), (0, .ref y), (1, .int ho), (2, .int aq), (3, .int bq)]) hx hb dX9_join_151 hl (by decide) rfl (fun ls hl => ?_)
                        refine lv_iconst (v := (0 : Int32)) hx hb dX9_join_153 (by decide) ?_
                        refine lv_istore (lv' := [(5, .int (0 : Int32)), (4, .int z148.1), (0, .ref y), (1, .int ho), (2, .int aq), (3, .int bq)]) hx hb dX9_join_154 hl (by decide) rfl (fun ls hl => ?_)
                        have e_aWorlds := ((fv148 aWorlds m_aWorlds n_aWorlds_y n_aWorlds_aKind n_aWorlds_aSize n_aWorlds_aMarks n_aWorlds_aSeed n_aWorlds_aContentMany n_aWorlds_aRow n_aWorlds_aRestMany).trans e_aWorlds)
                        have e_aInWorld := ((fv148 aInWorld m_aInWorld n_aInWorld_y n_aInWorld_aKind n_aInWorld_aSize n_aInWorld_aMarks n_aInWorld_aSeed n_aInWorld_aContentMany n_aInWorld_aRow n_aInWorld_aRestMany).trans e_aInWorld)
                        have e_aContents := ((fv148 aContents m_aContents n_aContents_y n_aContents_aKind n_aContents_aSize n_aContents_aMarks n_aContents_aSeed n_aContents_aContentMany n_aContents_aRow n_aContents_aRestMany).trans e_aContents)
                        have e_aBits := ((fv148 aBits m_aBits n_aBits_y n_aBits_aKind n_aBits_aSize n_aBits_aMarks n_aBits_aSeed n_aBits_aContentMany n_aBits_aRow n_aBits_aRestMany).trans e_aBits)
                        have e_aLayerSize := ((fv148 aLayerSize m_aLayerSize n_aLayerSize_y n_aLayerSize_aKind n_aLayerSize_aSize n_aLayerSize_aMarks n_aLayerSize_aSeed n_aLayerSize_aContentMany n_aLayerSize_aRow n_aLayerSize_aRestMany).trans e_aLayerSize)
                        have e_aLayerCame := ((fv148 aLayerCame m_aLayerCame n_aLayerCame_y n_aLayerCame_aKind n_aLayerCame_aSize n_aLayerCame_aMarks n_aLayerCame_aSeed n_aLayerCame_aContentMany n_aLayerCame_aRow n_aLayerCame_aRestMany).trans e_aLayerCame)
                        have e_aRest := ((fv148 aRest m_aRest n_aRest_y n_aRest_aKind n_aRest_aSize n_aRest_aMarks n_aRest_aSeed n_aRest_aContentMany n_aRest_aRow n_aRest_aRestMany).trans e_aRest)
                        have e_aCome := ((fv148 aCome m_aCome n_aCome_y n_aCome_aKind n_aCome_aSize n_aCome_aMarks n_aCome_aSeed n_aCome_aContentMany n_aCome_aRow n_aCome_aRestMany).trans e_aCome)
                        have e_aRivals := ((fv148 aRivals m_aRivals n_aRivals_y n_aRivals_aKind n_aRivals_aSize n_aRivals_aMarks n_aRivals_aSeed n_aRivals_aContentMany n_aRivals_aRow n_aRivals_aRestMany).trans e_aRivals)
                        have e_aGone := ((fv148 aGone m_aGone n_aGone_y n_aGone_aKind n_aGone_aSize n_aGone_aMarks n_aGone_aSeed n_aGone_aContentMany n_aGone_aRow n_aGone_aRestMany).trans e_aGone)
                        have e_aOrder := ((fv148 aOrder m_aOrder n_aOrder_y n_aOrder_aKind n_aOrder_aSize n_aOrder_aMarks n_aOrder_aSeed n_aOrder_aContentMany n_aOrder_aRow n_aOrder_aRestMany).trans e_aOrder)
                        have e_aOffAt := ((fv148 aOffAt m_aOffAt n_aOffAt_y n_aOffAt_aKind n_aOffAt_aSize n_aOffAt_aMarks n_aOffAt_aSeed n_aOffAt_aContentMany n_aOffAt_aRow n_aOffAt_aRestMany).trans e_aOffAt)
                        have e_aIsOff := ((fv148 aIsOff m_aIsOff n_aIsOff_y n_aIsOff_aKind n_aIsOff_aSize n_aIsOff_aMarks n_aIsOff_aSeed n_aIsOff_aContentMany n_aIsOff_aRow n_aIsOff_aRestMany).trans e_aIsOff)
                        have e_aAlone := ((fv148 aAlone m_aAlone n_aAlone_y n_aAlone_aKind n_aAlone_aSize n_aAlone_aMarks n_aAlone_aSeed n_aAlone_aContentMany n_aAlone_aRow n_aAlone_aRestMany).trans e_aAlone)
                        have e_aKept := ((fv148 aKept m_aKept n_aKept_y n_aKept_aKind n_aKept_aSize n_aKept_aMarks n_aKept_aSeed n_aKept_aContentMany n_aKept_aRow n_aKept_aRestMany).trans e_aKept)
                        obtain ⟨o156, ho156, hM⟩ := bind_some hM
                        have EX156 : ∀ (fl156 : Nat → va_E) (H : Heap) (locs : List Loc) (ls : Array Slot), PS D g (va_A (va_pl L f) szz) s.heap s L fl156 H locs → fl156 y = .inr (7, [.ref aWorlds, .ref aInWorld, .ref aKind, .ref aSize, .ref aMarks, .ref aSeed, .ref aContents, .ref aContentMany, .ref aRow, .ref aBits, .ref aLayerSize, .ref aLayerCame, .ref aRest, .ref aRestMany, .int z148.2.1, .ref aCome, .ref aRivals, .ref aGone, .ref aOrder, .ref aOffAt, .ref aIsOff, .ref aAlone, .ref aKept]) → fl156 aWorlds = .inl (g 1, 8000, .inr (.inl vWorlds)) → fl156 aInWorld = .inl (g 0, 8, .inl vInWorld) → fl156 aKind = .inl (g 0, 30, .inl z148.2.2.1) → fl156 aSize = .inl (g 0, 30, .inl z148.2.2.2.1) → fl156 aMarks = .inl (g 0, 30, .inl z148.2.2.2.2.1) → fl156 aSeed = .inl (g 0, 30, .inl z148.2.2.2.2.2.1) → fl156 aContents = .inl (g 1, 30000, .inr (.inl vContents)) → fl156 aContentMany = .inl (g 0, 30, .inl z148.2.2.2.2.2.2.1) → fl156 aRow = .inl (g 0, 122880, .inl o156.2) → fl156 aBits = .inl (g 0, 76800, .inl vBits) → fl156 aLayerSize = .inl (g 0, 600, .inl vLayerSize) → fl156 aLayerCame = .inl (g 0, 600, .inl vLayerCame) → fl156 aRest = .inl (g 1, 30000, .inr (.inl vRest)) → fl156 aRestMany = .inl (g 0, 30, .inl z148.2.2.2.2.2.2.2.2) → fl156 aCome = .inl (g 1, 1000, .inr (.inl vCome)) → fl156 aRivals = .inl (g 1, 1000, .inr (.inl vRivals)) → fl156 aGone = .inl (g 1, 1000, .inr (.inl vGone)) → fl156 aOrder = .inl (g 0, 1000, .inl vOrder) → fl156 aOffAt = .inl (g 0, 1000, .inl vOffAt) → fl156 aIsOff = .inl (g 2, 1000, .inl vIsOff) → fl156 aAlone = .inl (g 0, 4096, .inl vAlone) → fl156 aKept = .inl (g 0, 4096, .inl vKept) → (∀ b, b ∈ L → b ≠ y → b ≠ aKind → b ≠ aSize → b ≠ aMarks → b ≠ aSeed → b ≠ aContents → b ≠ aContentMany → b ≠ aRow → b ≠ aRestMany → fl156 b = f b) → lv_has ls 8 [(4, .int z148.1), (0, .ref y), (1, .int ho), (2, .int aq), (3, .int bq)] → W p l e { frames := 1, cells := 0, slots := 0, locals := 26 } s m [.ref y, .int ho, .int aq, .int bq].toArray below meth c H locs 0 0 QQ (F0 m 234 ls []) := by
                          intro fl156 H locs ls S e_y e_aWorlds e_aInWorld e_aKind e_aSize e_aMarks e_aSeed e_aContents e_aContentMany e_aRow e_aBits e_aLayerSize e_aLayerCame e_aRest e_aRestMany e_aCome e_aRivals e_aGone e_aOrder e_aOffAt e_aIsOff e_aAlone e_aKept fr hl
                          refine lv_iconst (v := (0 : Int32)) hx hb dX9_join_234 (by decide) ?_
                          refine lv_istore (lv' := [(5, .int (0 : Int32)), (4, .int z148.1), (0, .ref y), (1, .int ho), (2, .int aq), (3, .int bq)]) hx hb dX9_join_235 hl (by decide) rfl (fun ls hl => ?_)
                          obtain ⟨o237, ho237, hM⟩ := bind_some hM
                          have EX237 : ∀ (fl237 : Nat → va_E) (H : Heap) (locs : List Loc) (ls : Array Slot), PS D g (va_A (va_pl L f) szz) s.heap s L fl237 H locs → fl237 y = .inr (7, [.ref aWorlds, .ref aInWorld, .ref aKind, .ref aSize, .ref aMarks, .ref aSeed, .ref aContents, .ref aContentMany, .ref aRow, .ref aBits, .ref aLayerSize, .ref aLayerCame, .ref aRest, .ref aRestMany, .int z148.2.1, .ref aCome, .ref aRivals, .ref aGone, .ref aOrder, .ref aOffAt, .ref aIsOff, .ref aAlone, .ref aKept]) → fl237 aWorlds = .inl (g 1, 8000, .inr (.inl vWorlds)) → fl237 aInWorld = .inl (g 0, 8, .inl vInWorld) → fl237 aKind = .inl (g 0, 30, .inl z148.2.2.1) → fl237 aSize = .inl (g 0, 30, .inl z148.2.2.2.1) → fl237 aMarks = .inl (g 0, 30, .inl z148.2.2.2.2.1) → fl237 aSeed = .inl (g 0, 30, .inl z148.2.2.2.2.2.1) → fl237 aContents = .inl (g 1, 30000, .inr (.inl o237.2.1)) → fl237 aContentMany = .inl (g 0, 30, .inl o237.2.2) → fl237 aRow = .inl (g 0, 122880, .inl o156.2) → fl237 aBits = .inl (g 0, 76800, .inl vBits) → fl237 aLayerSize = .inl (g 0, 600, .inl vLayerSize) → fl237 aLayerCame = .inl (g 0, 600, .inl vLayerCame) → fl237 aRest = .inl (g 1, 30000, .inr (.inl vRest)) → fl237 aRestMany = .inl (g 0, 30, .inl z148.2.2.2.2.2.2.2.2) → fl237 aCome = .inl (g 1, 1000, .inr (.inl vCome)) → fl237 aRivals = .inl (g 1, 1000, .inr (.inl vRivals)) → fl237 aGone = .inl (g 1, 1000, .inr (.inl vGone)) → fl237 aOrder = .inl (g 0, 1000, .inl vOrder) → fl237 aOffAt = .inl (g 0, 1000, .inl vOffAt) → fl237 aIsOff = .inl (g 2, 1000, .inl vIsOff) → fl237 aAlone = .inl (g 0, 4096, .inl vAlone) → fl237 aKept = .inl (g 0, 4096, .inl vKept) → (∀ b, b ∈ L → b ≠ y → b ≠ aKind → b ≠ aSize → b ≠ aMarks → b ≠ aSeed → b ≠ aContents → b ≠ aContentMany → b ≠ aRow → b ≠ aRestMany → fl237 b = f b) → lv_has ls 8 [(4, .int z148.1), (0, .ref y), (1, .int ho), (3, .int bq)] → W p l e { frames := 1, cells := 0, slots := 0, locals := 26 } s m [.ref y, .int ho, .int aq, .int bq].toArray below meth c H locs 0 0 QQ (F0 m 323 ls []) := by
                            intro fl237 H locs ls S e_y e_aWorlds e_aInWorld e_aKind e_aSize e_aMarks e_aSeed e_aContents e_aContentMany e_aRow e_aBits e_aLayerSize e_aLayerCame e_aRest e_aRestMany e_aCome e_aRivals e_aGone e_aOrder e_aOffAt e_aIsOff e_aAlone e_aKept fr hl
                            refine lv_iconst (v := (0 : Int32)) hx hb dX9_join_323 (by decide) ?_
                            refine lv_istore (lv' := [(5, .int (0 : Int32)), (4, .int z148.1), (0, .ref y), (1, .int ho), (3, .int bq)]) hx hb dX9_join_324 hl (by decide) rfl (fun ls hl => ?_)
                            obtain ⟨o326, ho326, hM⟩ := bind_some hM
                            have EX326 : ∀ (fl326 : Nat → va_E) (H : Heap) (locs : List Loc) (ls : Array Slot), PS D g (va_A (va_pl L f) szz) s.heap s L fl326 H locs → fl326 y = .inr (7, [.ref aWorlds, .ref aInWorld, .ref aKind, .ref aSize, .ref aMarks, .ref aSeed, .ref aContents, .ref aContentMany, .ref aRow, .ref aBits, .ref aLayerSize, .ref aLayerCame, .ref aRest, .ref aRestMany, .int z148.2.1, .ref aCome, .ref aRivals, .ref aGone, .ref aOrder, .ref aOffAt, .ref aIsOff, .ref aAlone, .ref aKept]) → fl326 aWorlds = .inl (g 1, 8000, .inr (.inl vWorlds)) → fl326 aInWorld = .inl (g 0, 8, .inl vInWorld) → fl326 aKind = .inl (g 0, 30, .inl z148.2.2.1) → fl326 aSize = .inl (g 0, 30, .inl z148.2.2.2.1) → fl326 aMarks = .inl (g 0, 30, .inl z148.2.2.2.2.1) → fl326 aSeed = .inl (g 0, 30, .inl z148.2.2.2.2.2.1) → fl326 aContents = .inl (g 1, 30000, .inr (.inl o326.2.1)) → fl326 aContentMany = .inl (g 0, 30, .inl o326.2.2) → fl326 aRow = .inl (g 0, 122880, .inl o156.2) → fl326 aBits = .inl (g 0, 76800, .inl vBits) → fl326 aLayerSize = .inl (g 0, 600, .inl vLayerSize) → fl326 aLayerCame = .inl (g 0, 600, .inl vLayerCame) → fl326 aRest = .inl (g 1, 30000, .inr (.inl vRest)) → fl326 aRestMany = .inl (g 0, 30, .inl z148.2.2.2.2.2.2.2.2) → fl326 aCome = .inl (g 1, 1000, .inr (.inl vCome)) → fl326 aRivals = .inl (g 1, 1000, .inr (.inl vRivals)) → fl326 aGone = .inl (g 1, 1000, .inr (.inl vGone)) → fl326 aOrder = .inl (g 0, 1000, .inl vOrder) → fl326 aOffAt = .inl (g 0, 1000, .inl vOffAt) → fl326 aIsOff = .inl (g 2, 1000, .inl vIsOff) → fl326 aAlone = .inl (g 0, 4096, .inl vAlone) → fl326 aKept = .inl (g 0, 4096, .inl vKept) → (∀ b, b ∈ L → b ≠ y → b ≠ aKind → b ≠ aSize → b ≠ aMarks → b ≠ aSeed → b ≠ aContents → b ≠ aContentMany → b ≠ aRow → b ≠ aRestMany → fl326 b = f b) → lv_has ls 8 [(4, .int z148.1)] → W p l e { frames := 1, cells := 0, slots := 0, locals := 26 } s m [.ref y, .int ho, .int aq, .int bq].toArray below meth c H locs 0 0 QQ (F0 m 390 ls []) := by
                              intro fl326 H locs ls S e_y e_aWorlds e_aInWorld e_aKind e_aSize e_aMarks e_aSeed e_aContents e_aContentMany e_aRow e_aBits e_aLayerSize e_aLayerCame e_aRest e_aRestMany e_aCome e_aRivals e_aGone e_aOrder e_aOffAt e_aIsOff e_aAlone e_aKept fr hl
                              refine lv_iload hx hb dX9_join_390 (lv_at hl 0 rfl) ?_
                              subst hQQ
                              exact q_reti (post := fun x L1 f1 => x = z.1 ∧ L1 = L ∧ (∀ b, b ∈ L → b ≠ y → b ≠ aKind → b ≠ aSize → b ≠ aMarks → b ≠ aSeed → b ≠ aContents → b ≠ aContentMany → b ≠ aRow → b ≠ aRestMany → f1 b = f b) ∧ f1 y = .inr (7, [.ref aWorlds, .ref aInWorld, .ref aKind, .ref aSize, .ref aMarks, .ref aSeed, .ref aContents, .ref aContentMany, .ref aRow, .ref aBits, .ref aLayerSize, .ref aLayerCame, .ref aRest, .ref aRestMany, .int z.2.1, .ref aCome, .ref aRivals, .ref aGone, .ref aOrder, .ref aOffAt, .ref aIsOff, .ref aAlone, .ref aKept]) ∧ f1 aKind = .inl (g 0, 30, .inl z.2.2.1) ∧ f1 aSize = .inl (g 0, 30, .inl z.2.2.2.1) ∧ f1 aMarks = .inl (g 0, 30, .inl z.2.2.2.2.1) ∧ f1 aSeed = .inl (g 0, 30, .inl z.2.2.2.2.2.1) ∧ f1 aContents = .inl (g 1, 30000, .inr (.inl z.2.2.2.2.2.2.1)) ∧ f1 aContentMany = .inl (g 0, 30, .inl z.2.2.2.2.2.2.2.1) ∧ f1 aRow = .inl (g 0, 122880, .inl z.2.2.2.2.2.2.2.2.1) ∧ f1 aRestMany = .inl (g 0, 30, .inl z.2.2.2.2.2.2.2.2.2)) hx hb hr hlk S dX9_join_392 (by decide) (by decide) (by have hz := Option.some.inj hM; subst hz; exact ⟨rfl, rfl, fr, e_y, e_aKind, e_aSize, e_aMarks, e_aSeed, e_aContents, e_aContentMany, e_aRow, e_aRestMany⟩)
                            have LP326 : ∀ (fu : Nat) (x5_326 : Int32) (caContents_326 : Nat → Int64) (caContentMany_326 : Nat → Int32) (fl326 : Nat → va_E) (H : Heap) (locs : List Loc) (ls : Array Slot), (mX9_join_L326 ho bq z148) fu x5_326 caContents_326 caContentMany_326 = some o326 → PS D g (va_A (va_pl L f) szz) s.heap s L fl326 H locs → fl326 y = .inr (7, [.ref aWorlds, .ref aInWorld, .ref aKind, .ref aSize, .ref aMarks, .ref aSeed, .ref aContents, .ref aContentMany, .ref aRow, .ref aBits, .ref aLayerSize, .ref aLayerCame, .ref aRest, .ref aRestMany, .int z148.2.1, .ref aCome, .ref aRivals, .ref aGone, .ref aOrder, .ref aOffAt, .ref aIsOff, .ref aAlone, .ref aKept]) → fl326 aWorlds = .inl (g 1, 8000, .inr (.inl vWorlds)) → fl326 aInWorld = .inl (g 0, 8, .inl vInWorld) → fl326 aKind = .inl (g 0, 30, .inl z148.2.2.1) → fl326 aSize = .inl (g 0, 30, .inl z148.2.2.2.1) → fl326 aMarks = .inl (g 0, 30, .inl z148.2.2.2.2.1) → fl326 aSeed = .inl (g 0, 30, .inl z148.2.2.2.2.2.1) → fl326 aContents = .inl (g 1, 30000, .inr (.inl caContents_326)) → fl326 aContentMany = .inl (g 0, 30, .inl caContentMany_326) → fl326 aRow = .inl (g 0, 122880, .inl o156.2) → fl326 aBits = .inl (g 0, 76800, .inl vBits) → fl326 aLayerSize = .inl (g 0, 600, .inl vLayerSize) → fl326 aLayerCame = .inl (g 0, 600, .inl vLayerCame) → fl326 aRest = .inl (g 1, 30000, .inr (.inl vRest)) → fl326 aRestMany = .inl (g 0, 30, .inl z148.2.2.2.2.2.2.2.2) → fl326 aCome = .inl (g 1, 1000, .inr (.inl vCome)) → fl326 aRivals = .inl (g 1, 1000, .inr (.inl vRivals)) → fl326 aGone = .inl (g 1, 1000, .inr (.inl vGone)) → fl326 aOrder = .inl (g 0, 1000, .inl vOrder) → fl326 aOffAt = .inl (g 0, 1000, .inl vOffAt) → fl326 aIsOff = .inl (g 2, 1000, .inl vIsOff) → fl326 aAlone = .inl (g 0, 4096, .inl vAlone) → fl326 aKept = .inl (g 0, 4096, .inl vKept) → (∀ b, b ∈ L → b ≠ y → b ≠ aKind → b ≠ aSize → b ≠ aMarks → b ≠ aSeed → b ≠ aContents → b ≠ aContentMany → b ≠ aRow → b ≠ aRestMany → fl326 b = f b) → lv_has ls 8 [(5, .int x5_326), (4, .int z148.1), (0, .ref y), (1, .int ho), (3, .int bq)] → W p l e { frames := 1, cells := 0, slots := 0, locals := 26 } s m [.ref y, .int ho, .int aq, .int bq].toArray below meth c H locs 0 0 QQ (F0 m 326 ls []) := by
                              intro fu
                              induction fu with
                              | zero => intro x5_326 caContents_326 caContentMany_326 fl326 H locs ls ho326 S e_y e_aWorlds e_aInWorld e_aKind e_aSize e_aMarks e_aSeed e_aContents e_aContentMany e_aRow e_aBits e_aLayerSize e_aLayerCame e_aRest e_aRestMany e_aCome e_aRivals e_aGone e_aOrder e_aOffAt e_aIsOff e_aAlone e_aKept fr hl; exact no_some ho326
                              | succ fu ih326 =>
                                intro x5_326 caContents_326 caContentMany_326 fl326 H locs ls ho326 S e_y e_aWorlds e_aInWorld e_aKind e_aSize e_aMarks e_aSeed e_aContents e_aContentMany e_aRow e_aBits e_aLayerSize e_aLayerCame e_aRest e_aRestMany e_aCome e_aRivals e_aGone e_aOrder e_aOffAt e_aIsOff e_aAlone e_aKept fr hl
                                rw [mX9_join_L326] at ho326
                                refine lv_iload hx hb dX9_join_326 (lv_at hl 0 rfl) ?_
                                refine lv_aload_n hx hb dX9_join_328 rfl (lv_at hl 2 rfl) ?_
                                refine q_get hx hb hts in_X9 hown S m_y e_y (C := RX9) (T := TX9) (N := 23) rfl 7 (by decide) rfl (hts (.fieldLink RX9 32 "SieveCabinetModel" "contentMany" "[I") (by decide +kernel)) dX9_join_329 ?_
                                refine lv_iload_n hx hb dX9_join_332 rfl (lv_at hl 4 rfl) ?_
                                obtain ⟨hi333, ho326⟩ := ckx ho326
                                refine q_iald hx hb S m_aContentMany e_aContentMany hi333 dX9_join_333 ?_
                                refine lv_icmp_ge (tgt := 390) hx hb dX9_join_334 (by decide) (fun b334 => ?_) (fun b334 => ?_)
                                · have ho326 := itT b334 ho326
                                  obtain rfl := Option.some.inj ho326
                                  exact EX326 fl326 _ _ _ S e_y e_aWorlds e_aInWorld e_aKind e_aSize e_aMarks e_aSeed e_aContents e_aContentMany e_aRow e_aBits e_aLayerSize e_aLayerCame e_aRest e_aRestMany e_aCome e_aRivals e_aGone e_aOrder e_aOffAt e_aIsOff e_aAlone e_aKept fr (lv_sub hl [1] rfl)
                                · have ho326 := itF b334 ho326
                                  refine lv_iload_n hx hb dX9_join_337 rfl (lv_at hl 3 rfl) ?_
                                  refine lv_if_ne (tgt := 390) hx hb dX9_join_338 (by decide) (fun b338 => ?_) (fun b338 => ?_)
                                  · have ho326 := itF b338 ho326
                                    obtain rfl := Option.some.inj ho326
                                    exact EX326 fl326 _ _ _ S e_y e_aWorlds e_aInWorld e_aKind e_aSize e_aMarks e_aSeed e_aContents e_aContentMany e_aRow e_aBits e_aLayerSize e_aLayerCame e_aRest e_aRestMany e_aCome e_aRivals e_aGone e_aOrder e_aOffAt e_aIsOff e_aAlone e_aKept fr (lv_sub hl [1] rfl)
                                  · have ho326 := itT b338 ho326
                                    refine lv_aload_n hx hb dX9_join_341 rfl (lv_at hl 2 rfl) ?_
                                    refine q_get hx hb hts in_X9 hown S m_y e_y (C := RX9) (T := TX9) (N := 23) rfl 6 (by decide) rfl (hts (.fieldLink RX9 29 "SieveCabinetModel" "contents" "[J") (by decide +kernel)) dX9_join_342 ?_
                                    refine lv_iload hx hb dX9_join_345 (lv_at hl 1 rfl) ?_
                                    refine lv_sipush (v := (1000 : Int32)) hx hb dX9_join_347 (by decide) ?_
                                    refine lv_imul hx hb dX9_join_350 ?_
                                    refine lv_aload_n hx hb dX9_join_351 rfl (lv_at hl 2 rfl) ?_
                                    refine q_get hx hb hts in_X9 hown S m_y e_y (C := RX9) (T := TX9) (N := 23) rfl 7 (by decide) rfl (hts (.fieldLink RX9 32 "SieveCabinetModel" "contentMany" "[I") (by decide +kernel)) dX9_join_352 ?_
                                    refine lv_iload hx hb dX9_join_355 (lv_at hl 1 rfl) ?_
                                    obtain ⟨hi357, ho326⟩ := ckx ho326
                                    refine q_iald hx hb S m_aContentMany e_aContentMany hi357 dX9_join_357 ?_
                                    refine lv_iadd hx hb dX9_join_358 ?_
                                    refine lv_aload_n hx hb dX9_join_359 rfl (lv_at hl 2 rfl) ?_
                                    refine q_get hx hb hts in_X9 hown S m_y e_y (C := RX9) (T := TX9) (N := 23) rfl 6 (by decide) rfl (hts (.fieldLink RX9 29 "SieveCabinetModel" "contents" "[J") (by decide +kernel)) dX9_join_360 ?_
                                    refine lv_iload_n hx hb dX9_join_363 rfl (lv_at hl 4 rfl) ?_
                                    refine lv_sipush (v := (1000 : Int32)) hx hb dX9_join_364 (by decide) ?_
                                    refine lv_imul hx hb dX9_join_367 ?_
                                    refine lv_iload hx hb dX9_join_368 (lv_at hl 0 rfl) ?_
                                    refine lv_iadd hx hb dX9_join_370 ?_
                                    obtain ⟨hi371, ho326⟩ := ckx ho326
                                    refine q_lald hx hb S m_aContents e_aContents hi371 dX9_join_371 ?_
                                    obtain ⟨hi372, ho326⟩ := ckx ho326
                                    refine k_last hx hb S m_aContents e_aContents hi372 dX9_join_372 (fun f10 ef10 H locs S => ?_)
                                    have e_aContents := up_self ef10
                                    have fr : ∀ b, b ∈ L → b ≠ y → b ≠ aKind → b ≠ aSize → b ≠ aMarks → b ≠ aSeed → b ≠ aContents → b ≠ aContentMany → b ≠ aRow → b ≠ aRestMany → f10 b = f b := fun b mb nb0 nb1 nb2 nb3 nb4 nb5 nb6 nb7 nb8 => (up_ne ef10 nb5 rfl).trans (fr b mb nb0 nb1 nb2 nb3 nb4 nb5 nb6 nb7 nb8)
                                    refine lv_aload_n hx hb dX9_join_373 rfl (lv_at hl 2 rfl) ?_
                                    have e_y := (up_ne ef10 n_y_aContents e_y)
                                    refine q_get hx hb hts in_X9 hown S m_y e_y (C := RX9) (T := TX9) (N := 23) rfl 7 (by decide) rfl (hts (.fieldLink RX9 32 "SieveCabinetModel" "contentMany" "[I") (by decide +kernel)) dX9_join_374 ?_
                                    refine lv_iload hx hb dX9_join_377 (lv_at hl 1 rfl) ?_
                                    refine lv_dup2_11 hx hb dX9_join_379 rfl rfl ?_
                                    obtain ⟨hi380, ho326⟩ := ckx ho326
                                    have e_aContentMany := (up_ne ef10 n_aContentMany_aContents e_aContentMany)
                                    refine q_iald hx hb S m_aContentMany e_aContentMany hi380 dX9_join_380 ?_
                                    refine lv_iconst (v := (1 : Int32)) hx hb dX9_join_381 (by decide) ?_
                                    refine lv_iadd hx hb dX9_join_382 ?_
                                    obtain ⟨hi383, ho326⟩ := ckx ho326
                                    refine k_iast hx hb S m_aContentMany e_aContentMany hi383 dX9_join_383 (fun f11 ef11 H locs S => ?_)
                                    have e_aContentMany := up_self ef11
                                    have fr : ∀ b, b ∈ L → b ≠ y → b ≠ aKind → b ≠ aSize → b ≠ aMarks → b ≠ aSeed → b ≠ aContents → b ≠ aContentMany → b ≠ aRow → b ≠ aRestMany → f11 b = f b := fun b mb nb0 nb1 nb2 nb3 nb4 nb5 nb6 nb7 nb8 => (up_ne ef11 nb6 rfl).trans (fr b mb nb0 nb1 nb2 nb3 nb4 nb5 nb6 nb7 nb8)
                                    refine lv_iinc (v := (x5_326 + 1)) (lv' := [(5, .int (x5_326 + 1)), (4, .int z148.1), (0, .ref y), (1, .int ho), (3, .int bq)]) hx hb dX9_join_384 hl (k := 0) rfl rfl (by decide) rfl (fun ls hl => ?_)
                                    refine lv_goto (tgt := 326) hx hb dX9_join_387 (by decide) ?_
                                    have e_y := (up_ne ef11 n_y_aContentMany e_y)
                                    have e_aWorlds := (up_ne ef11 n_aWorlds_aContentMany (up_ne ef10 n_aWorlds_aContents e_aWorlds))
                                    have e_aInWorld := (up_ne ef11 n_aInWorld_aContentMany (up_ne ef10 n_aInWorld_aContents e_aInWorld))
                                    have e_aKind := (up_ne ef11 n_aKind_aContentMany (up_ne ef10 n_aKind_aContents e_aKind))
                                    have e_aSize := (up_ne ef11 n_aSize_aContentMany (up_ne ef10 n_aSize_aContents e_aSize))
                                    have e_aMarks := (up_ne ef11 n_aMarks_aContentMany (up_ne ef10 n_aMarks_aContents e_aMarks))
                                    have e_aSeed := (up_ne ef11 n_aSeed_aContentMany (up_ne ef10 n_aSeed_aContents e_aSeed))
                                    have e_aContents := (up_ne ef11 n_aContents_aContentMany e_aContents)
                                    have e_aRow := (up_ne ef11 n_aRow_aContentMany (up_ne ef10 n_aRow_aContents e_aRow))
                                    have e_aBits := (up_ne ef11 n_aBits_aContentMany (up_ne ef10 n_aBits_aContents e_aBits))
                                    have e_aLayerSize := (up_ne ef11 n_aLayerSize_aContentMany (up_ne ef10 n_aLayerSize_aContents e_aLayerSize))
                                    have e_aLayerCame := (up_ne ef11 n_aLayerCame_aContentMany (up_ne ef10 n_aLayerCame_aContents e_aLayerCame))
                                    have e_aRest := (up_ne ef11 n_aRest_aContentMany (up_ne ef10 n_aRest_aContents e_aRest))
                                    have e_aRestMany := (up_ne ef11 n_aRestMany_aContentMany (up_ne ef10 n_aRestMany_aContents e_aRestMany))
                                    have e_aCome := (up_ne ef11 n_aCome_aContentMany (up_ne ef10 n_aCome_aContents e_aCome))
                                    have e_aRivals := (up_ne ef11 n_aRivals_aContentMany (up_ne ef10 n_aRivals_aContents e_aRivals))
                                    have e_aGone := (up_ne ef11 n_aGone_aContentMany (up_ne ef10 n_aGone_aContents e_aGone))
                                    have e_aOrder := (up_ne ef11 n_aOrder_aContentMany (up_ne ef10 n_aOrder_aContents e_aOrder))
                                    have e_aOffAt := (up_ne ef11 n_aOffAt_aContentMany (up_ne ef10 n_aOffAt_aContents e_aOffAt))
                                    have e_aIsOff := (up_ne ef11 n_aIsOff_aContentMany (up_ne ef10 n_aIsOff_aContents e_aIsOff))
                                    have e_aAlone := (up_ne ef11 n_aAlone_aContentMany (up_ne ef10 n_aAlone_aContents e_aAlone))
                                    have e_aKept := (up_ne ef11 n_aKept_aContentMany (up_ne ef10 n_aKept_aContents e_aKept))
                                    exact ih326 (x5_326 + 1) (vp_updL caContents_326 (Int32.toNatClampNeg ((z148.1 * (1000 : Int32)) + (caContentMany_326 (Int32.toNatClampNeg z148.1)))) (caContents_326 (Int32.toNatClampNeg ((bq * (1000 : Int32)) + x5_326)))) (upd caContentMany_326 (Int32.toNatClampNeg z148.1) ((caContentMany_326 (Int32.toNatClampNeg z148.1)) + (1 : Int32))) f11 _ _ _ ho326 S e_y e_aWorlds e_aInWorld e_aKind e_aSize e_aMarks e_aSeed e_aContents e_aContentMany e_aRow e_aBits e_aLayerSize e_aLayerCame e_aRest e_aRestMany e_aCome e_aRivals e_aGone e_aOrder e_aOffAt e_aIsOff e_aAlone e_aKept fr (lv_sub hl [0, 1, 2, 3, 4] rfl)
                            exact LP326 FU (0 : Int32) o237.2.1 o237.2.2 fl237 _ _ _ ho326 S e_y e_aWorlds e_aInWorld e_aKind e_aSize e_aMarks e_aSeed e_aContents e_aContentMany e_aRow e_aBits e_aLayerSize e_aLayerCame e_aRest e_aRestMany e_aCome e_aRivals e_aGone e_aOrder e_aOffAt e_aIsOff e_aAlone e_aKept fr (lv_sub hl [0, 1, 2, 3, 4] rfl)
                          have LP237 : ∀ (fu : Nat) (x5_237 : Int32) (caContents_237 : Nat → Int64) (caContentMany_237 : Nat → Int32) (fl237 : Nat → va_E) (H : Heap) (locs : List Loc) (ls : Array Slot), (mX9_join_L237 ho aq bq z148) fu x5_237 caContents_237 caContentMany_237 = some o237 → PS D g (va_A (va_pl L f) szz) s.heap s L fl237 H locs → fl237 y = .inr (7, [.ref aWorlds, .ref aInWorld, .ref aKind, .ref aSize, .ref aMarks, .ref aSeed, .ref aContents, .ref aContentMany, .ref aRow, .ref aBits, .ref aLayerSize, .ref aLayerCame, .ref aRest, .ref aRestMany, .int z148.2.1, .ref aCome, .ref aRivals, .ref aGone, .ref aOrder, .ref aOffAt, .ref aIsOff, .ref aAlone, .ref aKept]) → fl237 aWorlds = .inl (g 1, 8000, .inr (.inl vWorlds)) → fl237 aInWorld = .inl (g 0, 8, .inl vInWorld) → fl237 aKind = .inl (g 0, 30, .inl z148.2.2.1) → fl237 aSize = .inl (g 0, 30, .inl z148.2.2.2.1) → fl237 aMarks = .inl (g 0, 30, .inl z148.2.2.2.2.1) → fl237 aSeed = .inl (g 0, 30, .inl z148.2.2.2.2.2.1) → fl237 aContents = .inl (g 1, 30000, .inr (.inl caContents_237)) → fl237 aContentMany = .inl (g 0, 30, .inl caContentMany_237) → fl237 aRow = .inl (g 0, 122880, .inl o156.2) → fl237 aBits = .inl (g 0, 76800, .inl vBits) → fl237 aLayerSize = .inl (g 0, 600, .inl vLayerSize) → fl237 aLayerCame = .inl (g 0, 600, .inl vLayerCame) → fl237 aRest = .inl (g 1, 30000, .inr (.inl vRest)) → fl237 aRestMany = .inl (g 0, 30, .inl z148.2.2.2.2.2.2.2.2) → fl237 aCome = .inl (g 1, 1000, .inr (.inl vCome)) → fl237 aRivals = .inl (g 1, 1000, .inr (.inl vRivals)) → fl237 aGone = .inl (g 1, 1000, .inr (.inl vGone)) → fl237 aOrder = .inl (g 0, 1000, .inl vOrder) → fl237 aOffAt = .inl (g 0, 1000, .inl vOffAt) → fl237 aIsOff = .inl (g 2, 1000, .inl vIsOff) → fl237 aAlone = .inl (g 0, 4096, .inl vAlone) → fl237 aKept = .inl (g 0, 4096, .inl vKept) → (∀ b, b ∈ L → b ≠ y → b ≠ aKind → b ≠ aSize → b ≠ aMarks → b ≠ aSeed → b ≠ aContents → b ≠ aContentMany → b ≠ aRow → b ≠ aRestMany → fl237 b = f b) → lv_has ls 8 [(5, .int x5_237), (4, .int z148.1), (0, .ref y), (1, .int ho), (2, .int aq), (3, .int bq)] → W p l e { frames := 1, cells := 0, slots := 0, locals := 26 } s m [.ref y, .int ho, .int aq, .int bq].toArray below meth c H locs 0 0 QQ (F0 m 237 ls []) := by
                            intro fu
                            induction fu with
                            | zero => intro x5_237 caContents_237 caContentMany_237 fl237 H locs ls ho237 S e_y e_aWorlds e_aInWorld e_aKind e_aSize e_aMarks e_aSeed e_aContents e_aContentMany e_aRow e_aBits e_aLayerSize e_aLayerCame e_aRest e_aRestMany e_aCome e_aRivals e_aGone e_aOrder e_aOffAt e_aIsOff e_aAlone e_aKept fr hl; exact no_some ho237
                            | succ fu ih237 =>
                              intro x5_237 caContents_237 caContentMany_237 fl237 H locs ls ho237 S e_y e_aWorlds e_aInWorld e_aKind e_aSize e_aMarks e_aSeed e_aContents e_aContentMany e_aRow e_aBits e_aLayerSize e_aLayerCame e_aRest e_aRestMany e_aCome e_aRivals e_aGone e_aOrder e_aOffAt e_aIsOff e_aAlone e_aKept fr hl
                              rw [mX9_join_L237] at ho237
                              refine lv_iload hx hb dX9_join_237 (lv_at hl 0 rfl) ?_
                              refine lv_aload_n hx hb dX9_join_239 rfl (lv_at hl 2 rfl) ?_
                              refine q_get hx hb hts in_X9 hown S m_y e_y (C := RX9) (T := TX9) (N := 23) rfl 7 (by decide) rfl (hts (.fieldLink RX9 32 "SieveCabinetModel" "contentMany" "[I") (by decide +kernel)) dX9_join_240 ?_
                              refine lv_iload_n hx hb dX9_join_243 rfl (lv_at hl 4 rfl) ?_
                              obtain ⟨hi244, ho237⟩ := ckx ho237
                              refine q_iald hx hb S m_aContentMany e_aContentMany hi244 dX9_join_244 ?_
                              refine lv_icmp_ge (tgt := 323) hx hb dX9_join_245 (by decide) (fun b245 => ?_) (fun b245 => ?_)
                              · have ho237 := itT b245 ho237
                                obtain rfl := Option.some.inj ho237
                                exact EX237 fl237 _ _ _ S e_y e_aWorlds e_aInWorld e_aKind e_aSize e_aMarks e_aSeed e_aContents e_aContentMany e_aRow e_aBits e_aLayerSize e_aLayerCame e_aRest e_aRestMany e_aCome e_aRivals e_aGone e_aOrder e_aOffAt e_aIsOff e_aAlone e_aKept fr (lv_sub hl [1, 2, 3, 5] rfl)
                              · have ho237 := itF b245 ho237
                                refine lv_aload_n hx hb dX9_join_248 rfl (lv_at hl 2 rfl) ?_
                                refine q_get hx hb hts in_X9 hown S m_y e_y (C := RX9) (T := TX9) (N := 23) rfl 6 (by decide) rfl (hts (.fieldLink RX9 29 "SieveCabinetModel" "contents" "[J") (by decide +kernel)) dX9_join_249 ?_
                                refine lv_iload_n hx hb dX9_join_252 rfl (lv_at hl 4 rfl) ?_
                                refine lv_sipush (v := (1000 : Int32)) hx hb dX9_join_253 (by decide) ?_
                                refine lv_imul hx hb dX9_join_256 ?_
                                refine lv_iload hx hb dX9_join_257 (lv_at hl 0 rfl) ?_
                                refine lv_iadd hx hb dX9_join_259 ?_
                                obtain ⟨hi260, ho237⟩ := ckx ho237
                                refine q_lald hx hb S m_aContents e_aContents hi260 dX9_join_260 ?_
                                refine lv_topl (fun y261 ey261 => ?_)
                                have ho237 := lt_some ho237 ey261
                                refine lv_lstore (lv' := [(6, .long y261), (5, .int x5_237), (4, .int z148.1), (0, .ref y), (1, .int ho), (2, .int aq), (3, .int bq)]) hx hb dX9_join_261 hl (by decide) rfl (fun ls hl => ?_)
                                refine lv_iload_n hx hb dX9_join_263 rfl (lv_at hl 4 rfl) ?_
                                refine lv_if_eq (tgt := 285) hx hb dX9_join_264 (by decide) (fun b264 => ?_) (fun b264 => ?_)
                                · have ho237 := itT b264 ho237
                                  refine lv_aload_n hx hb dX9_join_285 rfl (lv_at hl 3 rfl) ?_
                                  refine q_get hx hb hts in_X9 hown S m_y e_y (C := RX9) (T := TX9) (N := 23) rfl 6 (by decide) rfl (hts (.fieldLink RX9 29 "SieveCabinetModel" "contents" "[J") (by decide +kernel)) dX9_join_286 ?_
                                  refine lv_iload hx hb dX9_join_289 (lv_at hl 2 rfl) ?_
                                  refine lv_sipush (v := (1000 : Int32)) hx hb dX9_join_291 (by decide) ?_
                                  refine lv_imul hx hb dX9_join_294 ?_
                                  refine lv_aload_n hx hb dX9_join_295 rfl (lv_at hl 3 rfl) ?_
                                  refine q_get hx hb hts in_X9 hown S m_y e_y (C := RX9) (T := TX9) (N := 23) rfl 7 (by decide) rfl (hts (.fieldLink RX9 32 "SieveCabinetModel" "contentMany" "[I") (by decide +kernel)) dX9_join_296 ?_
                                  refine lv_iload hx hb dX9_join_299 (lv_at hl 2 rfl) ?_
                                  obtain ⟨hi301, ho237⟩ := ckx ho237
                                  refine q_iald hx hb S m_aContentMany e_aContentMany hi301 dX9_join_301 ?_
                                  refine lv_iadd hx hb dX9_join_302 ?_
                                  refine lv_lload hx hb dX9_join_303 (lv_at hl 0 rfl) ?_
                                  obtain ⟨hi305, ho237⟩ := ckx ho237
                                  refine k_last hx hb S m_aContents e_aContents hi305 dX9_join_305 (fun f12 ef12 H locs S => ?_)
                                  have e_aContents := up_self ef12
                                  have fr : ∀ b, b ∈ L → b ≠ y → b ≠ aKind → b ≠ aSize → b ≠ aMarks → b ≠ aSeed → b ≠ aContents → b ≠ aContentMany → b ≠ aRow → b ≠ aRestMany → f12 b = f b := fun b mb nb0 nb1 nb2 nb3 nb4 nb5 nb6 nb7 nb8 => (up_ne ef12 nb5 rfl).trans (fr b mb nb0 nb1 nb2 nb3 nb4 nb5 nb6 nb7 nb8)
                                  refine lv_aload_n hx hb dX9_join_306 rfl (lv_at hl 3 rfl) ?_
                                  have e_y := (up_ne ef12 n_y_aContents e_y)
                                  refine q_get hx hb hts in_X9 hown S m_y e_y (C := RX9) (T := TX9) (N := 23) rfl 7 (by decide) rfl (hts (.fieldLink RX9 32 "SieveCabinetModel" "contentMany" "[I") (by decide +kernel)) dX9_join_307 ?_
                                  refine lv_iload hx hb dX9_join_310 (lv_at hl 2 rfl) ?_
                                  refine lv_dup2_11 hx hb dX9_join_312 rfl rfl ?_
                                  obtain ⟨hi313, ho237⟩ := ckx ho237
                                  have e_aContentMany := (up_ne ef12 n_aContentMany_aContents e_aContentMany)
                                  refine q_iald hx hb S m_aContentMany e_aContentMany hi313 dX9_join_313 ?_
                                  refine lv_iconst (v := (1 : Int32)) hx hb dX9_join_314 (by decide) ?_
                                  refine lv_iadd hx hb dX9_join_315 ?_
                                  obtain ⟨hi316, ho237⟩ := ckx ho237
                                  refine k_iast hx hb S m_aContentMany e_aContentMany hi316 dX9_join_316 (fun f13 ef13 H locs S => ?_)
                                  have e_aContentMany := up_self ef13
                                  have fr : ∀ b, b ∈ L → b ≠ y → b ≠ aKind → b ≠ aSize → b ≠ aMarks → b ≠ aSeed → b ≠ aContents → b ≠ aContentMany → b ≠ aRow → b ≠ aRestMany → f13 b = f b := fun b mb nb0 nb1 nb2 nb3 nb4 nb5 nb6 nb7 nb8 => (up_ne ef13 nb6 rfl).trans (fr b mb nb0 nb1 nb2 nb3 nb4 nb5 nb6 nb7 nb8)
                                  refine lv_iinc (v := (x5_237 + 1)) (lv' := [(5, .int (x5_237 + 1)), (6, .long y261), (4, .int z148.1), (0, .ref y), (1, .int ho), (2, .int aq), (3, .int bq)]) hx hb dX9_join_317 hl (k := 1) rfl rfl (by decide) rfl (fun ls hl => ?_)
                                  refine lv_goto (tgt := 237) hx hb dX9_join_320 (by decide) ?_
                                  have e_y := (up_ne ef13 n_y_aContentMany e_y)
                                  have e_aWorlds := (up_ne ef13 n_aWorlds_aContentMany (up_ne ef12 n_aWorlds_aContents e_aWorlds))
                                  have e_aInWorld := (up_ne ef13 n_aInWorld_aContentMany (up_ne ef12 n_aInWorld_aContents e_aInWorld))
                                  have e_aKind := (up_ne ef13 n_aKind_aContentMany (up_ne ef12 n_aKind_aContents e_aKind))
                                  have e_aSize := (up_ne ef13 n_aSize_aContentMany (up_ne ef12 n_aSize_aContents e_aSize))
                                  have e_aMarks := (up_ne ef13 n_aMarks_aContentMany (up_ne ef12 n_aMarks_aContents e_aMarks))
                                  have e_aSeed := (up_ne ef13 n_aSeed_aContentMany (up_ne ef12 n_aSeed_aContents e_aSeed))
                                  have e_aContents := (up_ne ef13 n_aContents_aContentMany e_aContents)
                                  have e_aRow := (up_ne ef13 n_aRow_aContentMany (up_ne ef12 n_aRow_aContents e_aRow))
                                  have e_aBits := (up_ne ef13 n_aBits_aContentMany (up_ne ef12 n_aBits_aContents e_aBits))
                                  have e_aLayerSize := (up_ne ef13 n_aLayerSize_aContentMany (up_ne ef12 n_aLayerSize_aContents e_aLayerSize))
                                  have e_aLayerCame := (up_ne ef13 n_aLayerCame_aContentMany (up_ne ef12 n_aLayerCame_aContents e_aLayerCame))
                                  have e_aRest := (up_ne ef13 n_aRest_aContentMany (up_ne ef12 n_aRest_aContents e_aRest))
                                  have e_aRestMany := (up_ne ef13 n_aRestMany_aContentMany (up_ne ef12 n_aRestMany_aContents e_aRestMany))
                                  have e_aCome := (up_ne ef13 n_aCome_aContentMany (up_ne ef12 n_aCome_aContents e_aCome))
                                  have e_aRivals := (up_ne ef13 n_aRivals_aContentMany (up_ne ef12 n_aRivals_aContents e_aRivals))
                                  have e_aGone := (up_ne ef13 n_aGone_aContentMany (up_ne ef12 n_aGone_aContents e_aGone))
                                  have e_aOrder := (up_ne ef13 n_aOrder_aContentMany (up_ne ef12 n_aOrder_aContents e_aOrder))
                                  have e_aOffAt := (up_ne ef13 n_aOffAt_aContentMany (up_ne ef12 n_aOffAt_aContents e_aOffAt))
                                  have e_aIsOff := (up_ne ef13 n_aIsOff_aContentMany (up_ne ef12 n_aIsOff_aContents e_aIsOff))
                                  have e_aAlone := (up_ne ef13 n_aAlone_aContentMany (up_ne ef12 n_aAlone_aContents e_aAlone))
                                  have e_aKept := (up_ne ef13 n_aKept_aContentMany (up_ne ef12 n_aKept_aContents e_aKept))
                                  exact ih237 (x5_237 + 1) (vp_updL caContents_237 (Int32.toNatClampNeg ((z148.1 * (1000 : Int32)) + (caContentMany_237 (Int32.toNatClampNeg z148.1)))) y261) (upd caContentMany_237 (Int32.toNatClampNeg z148.1) ((caContentMany_237 (Int32.toNatClampNeg z148.1)) + (1 : Int32))) f13 _ _ _ ho237 S e_y e_aWorlds e_aInWorld e_aKind e_aSize e_aMarks e_aSeed e_aContents e_aContentMany e_aRow e_aBits e_aLayerSize e_aLayerCame e_aRest e_aRestMany e_aCome e_aRivals e_aGone e_aOrder e_aOffAt e_aIsOff e_aAlone e_aKept fr (lv_sub hl [0, 2, 3, 4, 5, 6] rfl)
                                · have ho237 := itF b264 ho237
                                  refine lv_aload_n hx hb dX9_join_267 rfl (lv_at hl 3 rfl) ?_
                                  refine lv_iload hx hb dX9_join_268 (lv_at hl 2 rfl) ?_
                                  refine lv_lload hx hb dX9_join_270 (lv_at hl 0 rfl) ?_
                                  obtain ⟨z272, hz272, ho237⟩ := bind_some ho237
                                  refine q_vi (As := [.int z148.1, .long y261]) (rest := []) ⟨hx, hb, hml, hown, hts⟩ (k_X9_timesIn l D g m_y e_y m_aContents e_aContents m_aContentMany e_aContentMany hz272) (cwV 2 hts gX9_join_X9_timesIn rfl rfl rfl (by decide +kernel) ⟨Nat.le_of_ble_eq_true rfl, Nat.le_of_ble_eq_true rfl⟩) S m_y e_y (T := TX9) (N := 23) rfl rfl hl.1 rfl (Nat.le_of_ble_eq_true rfl) dX9_join_272 ⟨Nat.le_of_ble_eq_true rfl, Nat.le_of_ble_eq_true rfl⟩ (fun r16 L14 f15 H locs S w272 => ?_)
                                  obtain ⟨ex272, eL, ef⟩ := w272
                                  rw [eL, ef] at S
                                  replace ex272 := ex272.symm
                                  subst ex272
                                  refine lv_aload_n hx hb dX9_join_275 rfl (lv_at hl 3 rfl) ?_
                                  refine lv_iload_n hx hb dX9_join_276 rfl (lv_at hl 6 rfl) ?_
                                  refine lv_lload hx hb dX9_join_277 (lv_at hl 0 rfl) ?_
                                  obtain ⟨z279, hz279, ho237⟩ := bind_some ho237
                                  refine q_vi (As := [.int bq, .long y261]) (rest := [.int z272]) ⟨hx, hb, hml, hown, hts⟩ (k_X9_timesIn l D g m_y e_y m_aContents e_aContents m_aContentMany e_aContentMany hz279) (cwV 2 hts gX9_join_X9_timesIn rfl rfl rfl (by decide +kernel) ⟨Nat.le_of_ble_eq_true rfl, Nat.le_of_ble_eq_true rfl⟩) S m_y e_y (T := TX9) (N := 23) rfl rfl hl.1 rfl (Nat.le_of_ble_eq_true rfl) dX9_join_279 ⟨Nat.le_of_ble_eq_true rfl, Nat.le_of_ble_eq_true rfl⟩ (fun r19 L17 f18 H locs S w279 => ?_)
                                  obtain ⟨ex279, eL, ef⟩ := w279
                                  rw [eL, ef] at S
                                  replace ex279 := ex279.symm
                                  subst ex279
                                  refine lv_icmp_ge (tgt := 317) hx hb dX9_join_282 (by decide) (fun b282 => ?_) (fun b282 => ?_)
                                  · have ho237 := itT b282 ho237
                                    refine lv_iinc (v := (x5_237 + 1)) (lv' := [(5, .int (x5_237 + 1)), (6, .long y261), (4, .int z148.1), (0, .ref y), (1, .int ho), (2, .int aq), (3, .int bq)]) hx hb dX9_join_317 hl (k := 1) rfl rfl (by decide) rfl (fun ls hl => ?_)
                                    refine lv_goto (tgt := 237) hx hb dX9_join_320 (by decide) ?_
                                    exact ih237 (x5_237 + 1) caContents_237 caContentMany_237 fl237 _ _ _ ho237 S e_y e_aWorlds e_aInWorld e_aKind e_aSize e_aMarks e_aSeed e_aContents e_aContentMany e_aRow e_aBits e_aLayerSize e_aLayerCame e_aRest e_aRestMany e_aCome e_aRivals e_aGone e_aOrder e_aOffAt e_aIsOff e_aAlone e_aKept fr (lv_sub hl [0, 2, 3, 4, 5, 6] rfl)
                                  · have ho237 := itF b282 ho237
                                    refine lv_aload_n hx hb dX9_join_285 rfl (lv_at hl 3 rfl) ?_
                                    refine q_get hx hb hts in_X9 hown S m_y e_y (C := RX9) (T := TX9) (N := 23) rfl 6 (by decide) rfl (hts (.fieldLink RX9 29 "SieveCabinetModel" "contents" "[J") (by decide +kernel)) dX9_join_286 ?_
                                    refine lv_iload hx hb dX9_join_289 (lv_at hl 2 rfl) ?_
                                    refine lv_sipush (v := (1000 : Int32)) hx hb dX9_join_291 (by decide) ?_
                                    refine lv_imul hx hb dX9_join_294 ?_
                                    refine lv_aload_n hx hb dX9_join_295 rfl (lv_at hl 3 rfl) ?_
                                    refine q_get hx hb hts in_X9 hown S m_y e_y (C := RX9) (T := TX9) (N := 23) rfl 7 (by decide) rfl (hts (.fieldLink RX9 32 "SieveCabinetModel" "contentMany" "[I") (by decide +kernel)) dX9_join_296 ?_
                                    refine lv_iload hx hb dX9_join_299 (lv_at hl 2 rfl) ?_
                                    obtain ⟨hi301, ho237⟩ := ckx ho237
                                    refine q_iald hx hb S m_aContentMany e_aContentMany hi301 dX9_join_301 ?_
                                    refine lv_iadd hx hb dX9_join_302 ?_
                                    refine lv_lload hx hb dX9_join_303 (lv_at hl 0 rfl) ?_
                                    obtain ⟨hi305, ho237⟩ := ckx ho237
                                    refine k_last hx hb S m_aContents e_aContents hi305 dX9_join_305 (fun f20 ef20 H locs S => ?_)
                                    have e_aContents := up_self ef20
                                    have fr : ∀ b, b ∈ L → b ≠ y → b ≠ aKind → b ≠ aSize → b ≠ aMarks → b ≠ aSeed → b ≠ aContents → b ≠ aContentMany → b ≠ aRow → b ≠ aRestMany → f20 b = f b := fun b mb nb0 nb1 nb2 nb3 nb4 nb5 nb6 nb7 nb8 => (up_ne ef20 nb5 rfl).trans (fr b mb nb0 nb1 nb2 nb3 nb4 nb5 nb6 nb7 nb8)
                                    refine lv_aload_n hx hb dX9_join_306 rfl (lv_at hl 3 rfl) ?_
                                    have e_y := (up_ne ef20 n_y_aContents e_y)
                                    refine q_get hx hb hts in_X9 hown S m_y e_y (C := RX9) (T := TX9) (N := 23) rfl 7 (by decide) rfl (hts (.fieldLink RX9 32 "SieveCabinetModel" "contentMany" "[I") (by decide +kernel)) dX9_join_307 ?_
                                    refine lv_iload hx hb dX9_join_310 (lv_at hl 2 rfl) ?_
                                    refine lv_dup2_11 hx hb dX9_join_312 rfl rfl ?_
                                    obtain ⟨hi313, ho237⟩ := ckx ho237
                                    have e_aContentMany := (up_ne ef20 n_aContentMany_aContents e_aContentMany)
                                    refine q_iald hx hb S m_aContentMany e_aContentMany hi313 dX9_join_313 ?_
                                    refine lv_iconst (v := (1 : Int32)) hx hb dX9_join_314 (by decide) ?_
                                    refine lv_iadd hx hb dX9_join_315 ?_
                                    obtain ⟨hi316, ho237⟩ := ckx ho237
                                    refine k_iast hx hb S m_aContentMany e_aContentMany hi316 dX9_join_316 (fun f21 ef21 H locs S => ?_)
                                    have e_aContentMany := up_self ef21
                                    have fr : ∀ b, b ∈ L → b ≠ y → b ≠ aKind → b ≠ aSize → b ≠ aMarks → b ≠ aSeed → b ≠ aContents → b ≠ aContentMany → b ≠ aRow → b ≠ aRestMany → f21 b = f b := fun b mb nb0 nb1 nb2 nb3 nb4 nb5 nb6 nb7 nb8 => (up_ne ef21 nb6 rfl).trans (fr b mb nb0 nb1 nb2 nb3 nb4 nb5 nb6 nb7 nb8)
                                    refine lv_iinc (v := (x5_237 + 1)) (lv' := [(5, .int (x5_237 + 1)), (6, .long y261), (4, .int z148.1), (0, .ref y), (1, .int ho), (2, .int aq), (3, .int bq)]) hx hb dX9_join_317 hl (k := 1) rfl rfl (by decide) rfl (fun ls hl => ?_)
                                    refine lv_goto (tgt := 237) hx hb dX9_join_320 (by decide) ?_
                                    have e_y := (up_ne ef21 n_y_aContentMany e_y)
                                    have e_aWorlds := (up_ne ef21 n_aWorlds_aContentMany (up_ne ef20 n_aWorlds_aContents e_aWorlds))
                                    have e_aInWorld := (up_ne ef21 n_aInWorld_aContentMany (up_ne ef20 n_aInWorld_aContents e_aInWorld))
                                    have e_aKind := (up_ne ef21 n_aKind_aContentMany (up_ne ef20 n_aKind_aContents e_aKind))
                                    have e_aSize := (up_ne ef21 n_aSize_aContentMany (up_ne ef20 n_aSize_aContents e_aSize))
                                    have e_aMarks := (up_ne ef21 n_aMarks_aContentMany (up_ne ef20 n_aMarks_aContents e_aMarks))
                                    have e_aSeed := (up_ne ef21 n_aSeed_aContentMany (up_ne ef20 n_aSeed_aContents e_aSeed))
                                    have e_aContents := (up_ne ef21 n_aContents_aContentMany e_aContents)
                                    have e_aRow := (up_ne ef21 n_aRow_aContentMany (up_ne ef20 n_aRow_aContents e_aRow))
                                    have e_aBits := (up_ne ef21 n_aBits_aContentMany (up_ne ef20 n_aBits_aContents e_aBits))
                                    have e_aLayerSize := (up_ne ef21 n_aLayerSize_aContentMany (up_ne ef20 n_aLayerSize_aContents e_aLayerSize))
                                    have e_aLayerCame := (up_ne ef21 n_aLayerCame_aContentMany (up_ne ef20 n_aLayerCame_aContents e_aLayerCame))
                                    have e_aRest := (up_ne ef21 n_aRest_aContentMany (up_ne ef20 n_aRest_aContents e_aRest))
                                    have e_aRestMany := (up_ne ef21 n_aRestMany_aContentMany (up_ne ef20 n_aRestMany_aContents e_aRestMany))
                                    have e_aCome := (up_ne ef21 n_aCome_aContentMany (up_ne ef20 n_aCome_aContents e_aCome))
                                    have e_aRivals := (up_ne ef21 n_aRivals_aContentMany (up_ne ef20 n_aRivals_aContents e_aRivals))
                                    have e_aGone := (up_ne ef21 n_aGone_aContentMany (up_ne ef20 n_aGone_aContents e_aGone))
                                    have e_aOrder := (up_ne ef21 n_aOrder_aContentMany (up_ne ef20 n_aOrder_aContents e_aOrder))
                                    have e_aOffAt := (up_ne ef21 n_aOffAt_aContentMany (up_ne ef20 n_aOffAt_aContents e_aOffAt))
                                    have e_aIsOff := (up_ne ef21 n_aIsOff_aContentMany (up_ne ef20 n_aIsOff_aContents e_aIsOff))
                                    have e_aAlone := (up_ne ef21 n_aAlone_aContentMany (up_ne ef20 n_aAlone_aContents e_aAlone))
                                    have e_aKept := (up_ne ef21 n_aKept_aContentMany (up_ne ef20 n_aKept_aContents e_aKept))
                                    exact ih237 (x5_237 + 1) (vp_updL caContents_237 (Int32.toNatClampNeg ((z148.1 * (1000 : Int32)) + (caContentMany_237 (Int32.toNatClampNeg z148.1)))) y261) (upd caContentMany_237 (Int32.toNatClampNeg z148.1) ((caContentMany_237 (Int32.toNatClampNeg z148.1)) + (1 : Int32))) f21 _ _ _ ho237 S e_y e_aWorlds e_aInWorld e_aKind e_aSize e_aMarks e_aSeed e_aContents e_aContentMany e_aRow e_aBits e_aLayerSize e_aLayerCame e_aRest e_aRestMany e_aCome e_aRivals e_aGone e_aOrder e_aOffAt e_aIsOff e_aAlone e_aKept fr (lv_sub hl [0, 2, 3, 4, 5, 6] rfl)
                          exact LP237 FU (0 : Int32) vContents z148.2.2.2.2.2.2.1 fl156 _ _ _ ho237 S e_y e_aWorlds e_aInWorld e_aKind e_aSize e_aMarks e_aSeed e_aContents e_aContentMany e_aRow e_aBits e_aLayerSize e_aLayerCame e_aRest e_aRestMany e_aCome e_aRivals e_aGone e_aOrder e_aOffAt e_aIsOff e_aAlone e_aKept fr (lv_sub hl [0, 1, 2, 3, 4, 5] rfl)
                        have LP156 : ∀ (fu : Nat) (x5_156 : Int32) (caRow_156 : Nat → Int32) (fl156 : Nat → va_E) (H : Heap) (locs : List Loc) (ls : Array Slot), (mX9_join_L156 ho aq bq z148) fu x5_156 caRow_156 = some o156 → PS D g (va_A (va_pl L f) szz) s.heap s L fl156 H locs → fl156 y = .inr (7, [.ref aWorlds, .ref aInWorld, .ref aKind, .ref aSize, .ref aMarks, .ref aSeed, .ref aContents, .ref aContentMany, .ref aRow, .ref aBits, .ref aLayerSize, .ref aLayerCame, .ref aRest, .ref aRestMany, .int z148.2.1, .ref aCome, .ref aRivals, .ref aGone, .ref aOrder, .ref aOffAt, .ref aIsOff, .ref aAlone, .ref aKept]) → fl156 aWorlds = .inl (g 1, 8000, .inr (.inl vWorlds)) → fl156 aInWorld = .inl (g 0, 8, .inl vInWorld) → fl156 aKind = .inl (g 0, 30, .inl z148.2.2.1) → fl156 aSize = .inl (g 0, 30, .inl z148.2.2.2.1) → fl156 aMarks = .inl (g 0, 30, .inl z148.2.2.2.2.1) → fl156 aSeed = .inl (g 0, 30, .inl z148.2.2.2.2.2.1) → fl156 aContents = .inl (g 1, 30000, .inr (.inl vContents)) → fl156 aContentMany = .inl (g 0, 30, .inl z148.2.2.2.2.2.2.1) → fl156 aRow = .inl (g 0, 122880, .inl caRow_156) → fl156 aBits = .inl (g 0, 76800, .inl vBits) → fl156 aLayerSize = .inl (g 0, 600, .inl vLayerSize) → fl156 aLayerCame = .inl (g 0, 600, .inl vLayerCame) → fl156 aRest = .inl (g 1, 30000, .inr (.inl vRest)) → fl156 aRestMany = .inl (g 0, 30, .inl z148.2.2.2.2.2.2.2.2) → fl156 aCome = .inl (g 1, 1000, .inr (.inl vCome)) → fl156 aRivals = .inl (g 1, 1000, .inr (.inl vRivals)) → fl156 aGone = .inl (g 1, 1000, .inr (.inl vGone)) → fl156 aOrder = .inl (g 0, 1000, .inl vOrder) → fl156 aOffAt = .inl (g 0, 1000, .inl vOffAt) → fl156 aIsOff = .inl (g 2, 1000, .inl vIsOff) → fl156 aAlone = .inl (g 0, 4096, .inl vAlone) → fl156 aKept = .inl (g 0, 4096, .inl vKept) → (∀ b, b ∈ L → b ≠ y → b ≠ aKind → b ≠ aSize → b ≠ aMarks → b ≠ aSeed → b ≠ aContents → b ≠ aContentMany → b ≠ aRow → b ≠ aRestMany → fl156 b = f b) → lv_has ls 8 [(5, .int x5_156), (4, .int z148.1), (0, .ref y), (1, .int ho), (2, .int aq), (3, .int bq)] → W p l e { frames := 1, cells := 0, slots := 0, locals := 26 } s m [.ref y, .int ho, .int aq, .int bq].toArray below meth c H locs 0 0 QQ (F0 m 156 ls []) := by
                          intro fu
                          induction fu with
                          | zero => intro x5_156 caRow_156 fl156 H locs ls ho156 S e_y e_aWorlds e_aInWorld e_aKind e_aSize e_aMarks e_aSeed e_aContents e_aContentMany e_aRow e_aBits e_aLayerSize e_aLayerCame e_aRest e_aRestMany e_aCome e_aRivals e_aGone e_aOrder e_aOffAt e_aIsOff e_aAlone e_aKept fr hl; exact no_some ho156
                          | succ fu ih156 =>
                            intro x5_156 caRow_156 fl156 H locs ls ho156 S e_y e_aWorlds e_aInWorld e_aKind e_aSize e_aMarks e_aSeed e_aContents e_aContentMany e_aRow e_aBits e_aLayerSize e_aLayerCame e_aRest e_aRestMany e_aCome e_aRivals e_aGone e_aOrder e_aOffAt e_aIsOff e_aAlone e_aKept fr hl
                            rw [mX9_join_L156] at ho156
                            refine lv_iload hx hb dX9_join_156 (lv_at hl 0 rfl) ?_
                            refine lv_aload_n hx hb dX9_join_158 rfl (lv_at hl 2 rfl) ?_
                            refine q_get hx hb hts in_X9 hown S m_y e_y (C := RX9) (T := TX9) (N := 23) rfl 3 (by decide) rfl (hts (.fieldLink RX9 20 "SieveCabinetModel" "size" "[I") (by decide +kernel)) dX9_join_159 ?_
                            refine lv_iload_n hx hb dX9_join_162 rfl (lv_at hl 4 rfl) ?_
                            obtain ⟨hi163, ho156⟩ := ckx ho156
                            refine q_iald hx hb S m_aSize e_aSize hi163 dX9_join_163 ?_
                            refine lv_icmp_ge (tgt := 234) hx hb dX9_join_164 (by decide) (fun b164 => ?_) (fun b164 => ?_)
                            · have ho156 := itT b164 ho156
                              obtain rfl := Option.some.inj ho156
                              exact EX156 fl156 _ _ _ S e_y e_aWorlds e_aInWorld e_aKind e_aSize e_aMarks e_aSeed e_aContents e_aContentMany e_aRow e_aBits e_aLayerSize e_aLayerCame e_aRest e_aRestMany e_aCome e_aRivals e_aGone e_aOrder e_aOffAt e_aIsOff e_aAlone e_aKept fr (lv_sub hl [1, 2, 3, 4, 5] rfl)
                            · have ho156 := itF b164 ho156
                              refine lv_aload_n hx hb dX9_join_167 rfl (lv_at hl 2 rfl) ?_
                              refine q_get hx hb hts in_X9 hown S m_y e_y (C := RX9) (T := TX9) (N := 23) rfl 8 (by decide) rfl (hts (.fieldLink RX9 36 "SieveCabinetModel" "row" "[I") (by decide +kernel)) dX9_join_168 ?_
                              refine lv_iload_n hx hb dX9_join_171 rfl (lv_at hl 4 rfl) ?_
                              refine lv_sipush (v := (4096 : Int32)) hx hb dX9_join_172 (by decide) ?_
                              refine lv_imul hx hb dX9_join_175 ?_
                              refine lv_iload hx hb dX9_join_176 (lv_at hl 0 rfl) ?_
                              refine lv_iadd hx hb dX9_join_178 ?_
                              obtain ⟨hi179, ho156⟩ := ckx ho156
                              refine q_iald hx hb S m_aRow e_aRow hi179 dX9_join_179 ?_
                              refine lv_topi (fun y180 ey180 => ?_)
                              have ho156 := lt_some ho156 ey180
                              refine lv_istore (lv' := [(6, .int y180), (5, .int x5_156), (4, .int z148.1), (0, .ref y), (1, .int ho), (2, .int aq), (3, .int bq)]) hx hb dX9_join_180 hl (by decide) rfl (fun ls hl => ?_)
                              refine lv_aload_n hx hb dX9_join_182 rfl (lv_at hl 3 rfl) ?_
                              refine q_get hx hb hts in_X9 hown S m_y e_y (C := RX9) (T := TX9) (N := 23) rfl 8 (by decide) rfl (hts (.fieldLink RX9 36 "SieveCabinetModel" "row" "[I") (by decide +kernel)) dX9_join_183 ?_
                              refine lv_iload_n hx hb dX9_join_186 rfl (lv_at hl 6 rfl) ?_
                              refine lv_sipush (v := (4096 : Int32)) hx hb dX9_join_187 (by decide) ?_
                              refine lv_imul hx hb dX9_join_190 ?_
                              refine lv_iload hx hb dX9_join_191 (lv_at hl 1 rfl) ?_
                              refine lv_iadd hx hb dX9_join_193 ?_
                              obtain ⟨hi194, ho156⟩ := ckx ho156
                              refine q_iald hx hb S m_aRow e_aRow hi194 dX9_join_194 ?_
                              refine lv_topi (fun y195 ey195 => ?_)
                              have ho156 := lt_some ho156 ey195
                              refine lv_istore (lv' := [(7, .int y195), (6, .int y180), (5, .int x5_156), (4, .int z148.1), (0, .ref y), (1, .int ho), (2, .int aq), (3, .int bq)]) hx hb dX9_join_195 hl (by decide) rfl (fun ls hl => ?_)
                              refine lv_aload_n hx hb dX9_join_197 rfl (lv_at hl 4 rfl) ?_
                              refine q_get hx hb hts in_X9 hown S m_y e_y (C := RX9) (T := TX9) (N := 23) rfl 8 (by decide) rfl (hts (.fieldLink RX9 36 "SieveCabinetModel" "row" "[I") (by decide +kernel)) dX9_join_198 ?_
                              refine lv_iload hx hb dX9_join_201 (lv_at hl 3 rfl) ?_
                              refine lv_sipush (v := (4096 : Int32)) hx hb dX9_join_203 (by decide) ?_
                              refine lv_imul hx hb dX9_join_206 ?_
                              refine lv_iload hx hb dX9_join_207 (lv_at hl 2 rfl) ?_
                              refine lv_iadd hx hb dX9_join_209 ?_
                              refine lv_iload_n hx hb dX9_join_210 rfl (lv_at hl 5 rfl) ?_
                              refine lv_if_ne (tgt := 222) hx hb dX9_join_211 (by decide) (fun b211 => ?_) (fun b211 => ?_)
                              · have ho156 := itF b211 ho156
                                refine lv_iload hx hb dX9_join_222 (lv_at hl 1 rfl) ?_
                                refine lv_iload hx hb dX9_join_224 (lv_at hl 0 rfl) ?_
                                refine lv_iand hx hb dX9_join_226 ?_
                                obtain ⟨hi227, ho156⟩ := ckx ho156
                                refine k_iast hx hb S m_aRow e_aRow hi227 dX9_join_227 (fun f22 ef22 H locs S => ?_)
                                have e_aRow := up_self ef22
                                have fr : ∀ b, b ∈ L → b ≠ y → b ≠ aKind → b ≠ aSize → b ≠ aMarks → b ≠ aSeed → b ≠ aContents → b ≠ aContentMany → b ≠ aRow → b ≠ aRestMany → f22 b = f b := fun b mb nb0 nb1 nb2 nb3 nb4 nb5 nb6 nb7 nb8 => (up_ne ef22 nb7 rfl).trans (fr b mb nb0 nb1 nb2 nb3 nb4 nb5 nb6 nb7 nb8)
                                refine lv_iinc (v := (x5_156 + 1)) (lv' := [(5, .int (x5_156 + 1)), (7, .int y195), (6, .int y180), (4, .int z148.1), (0, .ref y), (1, .int ho), (2, .int aq), (3, .int bq)]) hx hb dX9_join_228 hl (k := 2) rfl rfl (by decide) rfl (fun ls hl => ?_)
                                refine lv_goto (tgt := 156) hx hb dX9_join_231 (by decide) ?_
                                have e_y := (up_ne ef22 n_y_aRow e_y)
                                have e_aWorlds := (up_ne ef22 n_aWorlds_aRow e_aWorlds)
                                have e_aInWorld := (up_ne ef22 n_aInWorld_aRow e_aInWorld)
                                have e_aKind := (up_ne ef22 n_aKind_aRow e_aKind)
                                have e_aSize := (up_ne ef22 n_aSize_aRow e_aSize)
                                have e_aMarks := (up_ne ef22 n_aMarks_aRow e_aMarks)
                                have e_aSeed := (up_ne ef22 n_aSeed_aRow e_aSeed)
                                have e_aContents := (up_ne ef22 n_aContents_aRow e_aContents)
                                have e_aContentMany := (up_ne ef22 n_aContentMany_aRow e_aContentMany)
                                have e_aBits := (up_ne ef22 n_aBits_aRow e_aBits)
                                have e_aLayerSize := (up_ne ef22 n_aLayerSize_aRow e_aLayerSize)
                                have e_aLayerCame := (up_ne ef22 n_aLayerCame_aRow e_aLayerCame)
                                have e_aRest := (up_ne ef22 n_aRest_aRow e_aRest)
                                have e_aRestMany := (up_ne ef22 n_aRestMany_aRow e_aRestMany)
                                have e_aCome := (up_ne ef22 n_aCome_aRow e_aCome)
                                have e_aRivals := (up_ne ef22 n_aRivals_aRow e_aRivals)
                                have e_aGone := (up_ne ef22 n_aGone_aRow e_aGone)
                                have e_aOrder := (up_ne ef22 n_aOrder_aRow e_aOrder)
                                have e_aOffAt := (up_ne ef22 n_aOffAt_aRow e_aOffAt)
                                have e_aIsOff := (up_ne ef22 n_aIsOff_aRow e_aIsOff)
                                have e_aAlone := (up_ne ef22 n_aAlone_aRow e_aAlone)
                                have e_aKept := (up_ne ef22 n_aKept_aRow e_aKept)
                                exact ih156 (x5_156 + 1) (upd caRow_156 (Int32.toNatClampNeg ((z148.1 * (4096 : Int32)) + x5_156)) (y180 &&& y195)) f22 _ _ _ ho156 S e_y e_aWorlds e_aInWorld e_aKind e_aSize e_aMarks e_aSeed e_aContents e_aContentMany e_aRow e_aBits e_aLayerSize e_aLayerCame e_aRest e_aRestMany e_aCome e_aRivals e_aGone e_aOrder e_aOffAt e_aIsOff e_aAlone e_aKept fr (lv_sub hl [0, 3, 4, 5, 6, 7] rfl)
                              · have ho156 := itT b211 ho156
                                refine lv_iload hx hb dX9_join_214 (lv_at hl 1 rfl) ?_
                                refine lv_iload hx hb dX9_join_216 (lv_at hl 0 rfl) ?_
                                refine lv_ior hx hb dX9_join_218 ?_
                                refine lv_goto (tgt := 227) hx hb dX9_join_219 (by decide) ?_
                                obtain ⟨hi227, ho156⟩ := ckx ho156
                                refine k_iast hx hb S m_aRow e_aRow hi227 dX9_join_227 (fun f23 ef23 H locs S => ?_)
                                have e_aRow := up_self ef23
                                have fr : ∀ b, b ∈ L → b ≠ y → b ≠ aKind → b ≠ aSize → b ≠ aMarks → b ≠ aSeed → b ≠ aContents → b ≠ aContentMany → b ≠ aRow → b ≠ aRestMany → f23 b = f b := fun b mb nb0 nb1 nb2 nb3 nb4 nb5 nb6 nb7 nb8 => (up_ne ef23 nb7 rfl).trans (fr b mb nb0 nb1 nb2 nb3 nb4 nb5 nb6 nb7 nb8)
                                refine lv_iinc (v := (x5_156 + 1)) (lv' := [(5, .int (x5_156 + 1)), (7, .int y195), (6, .int y180), (4, .int z148.1), (0, .ref y), (1, .int ho), (2, .int aq), (3, .int bq)]) hx hb dX9_join_228 hl (k := 2) rfl rfl (by decide) rfl (fun ls hl => ?_)
                                refine lv_goto (tgt := 156) hx hb dX9_join_231 (by decide) ?_
                                have e_y := (up_ne ef23 n_y_aRow e_y)
                                have e_aWorlds := (up_ne ef23 n_aWorlds_aRow e_aWorlds)
                                have e_aInWorld := (up_ne ef23 n_aInWorld_aRow e_aInWorld)
                                have e_aKind := (up_ne ef23 n_aKind_aRow e_aKind)
                                have e_aSize := (up_ne ef23 n_aSize_aRow e_aSize)
                                have e_aMarks := (up_ne ef23 n_aMarks_aRow e_aMarks)
                                have e_aSeed := (up_ne ef23 n_aSeed_aRow e_aSeed)
                                have e_aContents := (up_ne ef23 n_aContents_aRow e_aContents)
                                have e_aContentMany := (up_ne ef23 n_aContentMany_aRow e_aContentMany)
                                have e_aBits := (up_ne ef23 n_aBits_aRow e_aBits)
                                have e_aLayerSize := (up_ne ef23 n_aLayerSize_aRow e_aLayerSize)
                                have e_aLayerCame := (up_ne ef23 n_aLayerCame_aRow e_aLayerCame)
                                have e_aRest := (up_ne ef23 n_aRest_aRow e_aRest)
                                have e_aRestMany := (up_ne ef23 n_aRestMany_aRow e_aRestMany)
                                have e_aCome := (up_ne ef23 n_aCome_aRow e_aCome)
                                have e_aRivals := (up_ne ef23 n_aRivals_aRow e_aRivals)
                                have e_aGone := (up_ne ef23 n_aGone_aRow e_aGone)
                                have e_aOrder := (up_ne ef23 n_aOrder_aRow e_aOrder)
                                have e_aOffAt := (up_ne ef23 n_aOffAt_aRow e_aOffAt)
                                have e_aIsOff := (up_ne ef23 n_aIsOff_aRow e_aIsOff)
                                have e_aAlone := (up_ne ef23 n_aAlone_aRow e_aAlone)
                                have e_aKept := (up_ne ef23 n_aKept_aRow e_aKept)
                                exact ih156 (x5_156 + 1) (upd caRow_156 (Int32.toNatClampNeg ((z148.1 * (4096 : Int32)) + x5_156)) (y180 ||| y195)) f23 _ _ _ ho156 S e_y e_aWorlds e_aInWorld e_aKind e_aSize e_aMarks e_aSeed e_aContents e_aContentMany e_aRow e_aBits e_aLayerSize e_aLayerCame e_aRest e_aRestMany e_aCome e_aRivals e_aGone e_aOrder e_aOffAt e_aIsOff e_aAlone e_aKept fr (lv_sub hl [0, 3, 4, 5, 6, 7] rfl)
                        exact LP156 FU (0 : Int32) z148.2.2.2.2.2.2.2.1 f8 _ _ _ ho156 S e_y e_aWorlds e_aInWorld e_aKind e_aSize e_aMarks e_aSeed e_aContents e_aContentMany e_aRow e_aBits e_aLayerSize e_aLayerCame e_aRest e_aRestMany e_aCome e_aRivals e_aGone e_aOrder e_aOffAt e_aIsOff e_aAlone e_aKept fr (lv_sub hl [0, 1, 2, 3, 4, 5] rfl)
                      · have hM := itT b103 hM
                        refine lv_aload_n hx hb dX9_join_106 rfl (lv_at hl 0 rfl) ?_
                        refine q_get hx hb hts in_X9 hown S m_y e_y (C := RX9) (T := TX9) (N := 23) rfl 7 (by decide) rfl (hts (.fieldLink RX9 32 "SieveCabinetModel" "contentMany" "[I") (by decide +kernel)) dX9_join_107 ?_
                        refine lv_iload_n hx hb dX9_join_110 rfl (lv_at hl 2 rfl) ?_
                        obtain ⟨hi111, hM⟩ := ckx hM
                        refine q_iald hx hb S m_aContentMany e_aContentMany hi111 dX9_join_111 ?_
                        refine lv_aload_n hx hb dX9_join_112 rfl (lv_at hl 0 rfl) ?_
                        refine q_get hx hb hts in_X9 hown S m_y e_y (C := RX9) (T := TX9) (N := 23) rfl 7 (by decide) rfl (hts (.fieldLink RX9 32 "SieveCabinetModel" "contentMany" "[I") (by decide +kernel)) dX9_join_113 ?_
                        refine lv_iload_n hx hb dX9_join_116 rfl (lv_at hl 3 rfl) ?_
                        obtain ⟨hi117, hM⟩ := ckx hM
                        refine q_iald hx hb S m_aContentMany e_aContentMany hi117 dX9_join_117 ?_
                        refine lv_iadd hx hb dX9_join_118 ?_
                        refine lv_sipush (v := (1000 : Int32)) hx hb dX9_join_119 (by decide) ?_
                        refine lv_icmp_le (tgt := 128) hx hb dX9_join_122 (by decide) (fun b122 => ?_) (fun b122 => ?_)
                        · have hM := itT b122 hM
                          refine lv_aload_n hx hb dX9_join_128 rfl (lv_at hl 0 rfl) ?_
                          refine lv_iconst (v := (0 : Int32)) hx hb dX9_join_129 (by decide) ?_
                          refine lv_aload_n hx hb dX9_join_130 rfl (lv_at hl 0 rfl) ?_
                          refine q_get hx hb hts in_X9 hown S m_y e_y (C := RX9) (T := TX9) (N := 23) rfl 3 (by decide) rfl (hts (.fieldLink RX9 20 "SieveCabinetModel" "size" "[I") (by decide +kernel)) dX9_join_131 ?_
                          refine lv_iload_n hx hb dX9_join_134 rfl (lv_at hl 2 rfl) ?_
                          obtain ⟨hi135, hM⟩ := ckx hM
                          refine q_iald hx hb S m_aSize e_aSize hi135 dX9_join_135 ?_
                          refine lv_aload_n hx hb dX9_join_136 rfl (lv_at hl 0 rfl) ?_
                          refine q_get hx hb hts in_X9 hown S m_y e_y (C := RX9) (T := TX9) (N := 23) rfl 4 (by decide) rfl (hts (.fieldLink RX9 23 "SieveCabinetModel" "marks" "[I") (by decide +kernel)) dX9_join_137 ?_
                          refine lv_iload_n hx hb dX9_join_140 rfl (lv_at hl 2 rfl) ?_
                          obtain ⟨hi141, hM⟩ := ckx hM
                          refine q_iald hx hb S m_aMarks e_aMarks hi141 dX9_join_141 ?_
                          refine lv_aload_n hx hb dX9_join_142 rfl (lv_at hl 0 rfl) ?_
                          refine q_get hx hb hts in_X9 hown S m_y e_y (C := RX9) (T := TX9) (N := 23) rfl 5 (by decide) rfl (hts (.fieldLink RX9 26 "SieveCabinetModel" "seed" "[I") (by decide +kernel)) dX9_join_143 ?_
                          refine lv_iload_n hx hb dX9_join_146 rfl (lv_at hl 2 rfl) ?_
                          obtain ⟨hi147, hM⟩ := ckx hM
                          refine q_iald hx hb S m_aSeed e_aSeed hi147 dX9_join_147 ?_
                          obtain ⟨z148, hz148, hM⟩ := bind_some hM
                          refine q_vi (As := [.int (0 : Int32), .int (vSize (Int32.toNatClampNeg aq)), .int (vMarks (Int32.toNatClampNeg aq)), .int (vSeed (Int32.toNatClampNeg aq))]) (rest := []) ⟨hx, hb, hml, hown, hts⟩ (k_X9_begin l D g m_y e_y m_aWorlds e_aWorlds m_aInWorld e_aInWorld m_aKind e_aKind m_aSize e_aSize m_aMarks e_aMarks m_aSeed e_aSeed m_aContents e_aContents m_aContentMany e_aContentMany m_aRow e_aRow m_aBits e_aBits m_aLayerSize e_aLayerSize m_aLayerCame e_aLayerCame m_aRest e_aRest m_aRestMany e_aRestMany m_aCome e_aCome m_aRivals e_aRivals m_aGone e_aGone m_aOrder e_aOrder m_aOffAt e_aOffAt m_aIsOff e_aIsOff m_aAlone e_aAlone m_aKept e_aKept r_aKind r_aSize r_aMarks r_aSeed r_aContentMany r_aRestMany hz148) (cwV 4 hts gX9_join_X9_begin rfl rfl rfl (by decide +kernel) ⟨Nat.le_of_ble_eq_true rfl, Nat.le_of_ble_eq_true rfl⟩) S m_y e_y (T := TX9) (N := 23) rfl rfl hl.1 rfl (Nat.le_of_ble_eq_true rfl) dX9_join_148 ⟨Nat.le_of_ble_eq_true rfl, Nat.le_of_ble_eq_true rfl⟩ (fun r26 L24 f25 H locs S w148 => ?_)
                          obtain ⟨ex148, eL, fv148, E_y, E_aKind, E_aSize, E_aMarks, E_aSeed, E_aContentMany, E_aRow, E_aRestMany⟩ := w148
                          rw [eL] at S
                          have fr : ∀ b, b ∈ L → b ≠ y → b ≠ aKind → b ≠ aSize → b ≠ aMarks → b ≠ aSeed → b ≠ aContents → b ≠ aContentMany → b ≠ aRow → b ≠ aRestMany → f25 b = f b := fun b mb nb0 nb1 nb2 nb3 nb4 nb5 nb6 nb7 nb8 => (fv148 b mb nb0 nb1 nb2 nb3 nb4 nb6 nb7 nb8).trans (fr b mb nb0 nb1 nb2 nb3 nb4 nb5 nb6 nb7 nb8)
                          have e_y : f25 y = .inr (7, [.ref aWorlds, .ref aInWorld, .ref aKind, .ref aSize, .ref aMarks, .ref aSeed, .ref aContents, .ref aContentMany, .ref aRow, .ref aBits, .ref aLayerSize, .ref aLayerCame, .ref aRest, .ref aRestMany, .int z148.2.1, .ref aCome, .ref aRivals, .ref aGone, .ref aOrder, .ref aOffAt, .ref aIsOff, .ref aAlone, .ref aKept]) := E_y
                          have e_aKind : f25 aKind = .inl (g 0, 30, .inl z148.2.2.1) := E_aKind
                          have e_aSize : f25 aSize = .inl (g 0, 30, .inl z148.2.2.2.1) := E_aSize
                          have e_aMarks : f25 aMarks = .inl (g 0, 30, .inl z148.2.2.2.2.1) := E_aMarks
                          have e_aSeed : f25 aSeed = .inl (g 0, 30, .inl z148.2.2.2.2.2.1) := E_aSeed
                          have e_aContentMany : f25 aContentMany = .inl (g 0, 30, .inl z148.2.2.2.2.2.2.1) := E_aContentMany
                          have e_aRow : f25 aRow = .inl (g 0, 122880, .inl z148.2.2.2.2.2.2.2.1) := E_aRow
                          have e_aRestMany : f25 aRestMany = .inl (g 0, 30, .inl z148.2.2.2.2.2.2.2.2) := E_aRestMany
                          replace ex148 := ex148.symm
                          subst ex148
                          refine lv_istore (lv' := [(4, .int z148.1), (0, .ref y), (1, .int ho), (2, .int aq), (3, .int bq)]) hx hb dX9_join_151 hl (by decide) rfl (fun ls hl => ?_)
                          refine lv_iconst (v := (0 : Int32)) hx hb dX9_join_153 (by decide) ?_
                          refine lv_istore (lv' := [(5, .int (0 : Int32)), (4, .int z148.1), (0, .ref y), (1, .int ho), (2, .int aq), (3, .int bq)]) hx hb dX9_join_154 hl (by decide) rfl (fun ls hl => ?_)
                          have e_aWorlds := ((fv148 aWorlds m_aWorlds n_aWorlds_y n_aWorlds_aKind n_aWorlds_aSize n_aWorlds_aMarks n_aWorlds_aSeed n_aWorlds_aContentMany n_aWorlds_aRow n_aWorlds_aRestMany).trans e_aWorlds)
                          have e_aInWorld := ((fv148 aInWorld m_aInWorld n_aInWorld_y n_aInWorld_aKind n_aInWorld_aSize n_aInWorld_aMarks n_aInWorld_aSeed n_aInWorld_aContentMany n_aInWorld_aRow n_aInWorld_aRestMany).trans e_aInWorld)
                          have e_aContents := ((fv148 aContents m_aContents n_aContents_y n_aContents_aKind n_aContents_aSize n_aContents_aMarks n_aContents_aSeed n_aContents_aContentMany n_aContents_aRow n_aContents_aRestMany).trans e_aContents)
                          have e_aBits := ((fv148 aBits m_aBits n_aBits_y n_aBits_aKind n_aBits_aSize n_aBits_aMarks n_aBits_aSeed n_aBits_aContentMany n_aBits_aRow n_aBits_aRestMany).trans e_aBits)
                          have e_aLayerSize := ((fv148 aLayerSize m_aLayerSize n_aLayerSize_y n_aLayerSize_aKind n_aLayerSize_aSize n_aLayerSize_aMarks n_aLayerSize_aSeed n_aLayerSize_aContentMany n_aLayerSize_aRow n_aLayerSize_aRestMany).trans e_aLayerSize)
                          have e_aLayerCame := ((fv148 aLayerCame m_aLayerCame n_aLayerCame_y n_aLayerCame_aKind n_aLayerCame_aSize n_aLayerCame_aMarks n_aLayerCame_aSeed n_aLayerCame_aContentMany n_aLayerCame_aRow n_aLayerCame_aRestMany).trans e_aLayerCame)
                          have e_aRest := ((fv148 aRest m_aRest n_aRest_y n_aRest_aKind n_aRest_aSize n_aRest_aMarks n_aRest_aSeed n_aRest_aContentMany n_aRest_aRow n_aRest_aRestMany).trans e_aRest)
                          have e_aCome := ((fv148 aCome m_aCome n_aCome_y n_aCome_aKind n_aCome_aSize n_aCome_aMarks n_aCome_aSeed n_aCome_aContentMany n_aCome_aRow n_aCome_aRestMany).trans e_aCome)
                          have e_aRivals := ((fv148 aRivals m_aRivals n_aRivals_y n_aRivals_aKind n_aRivals_aSize n_aRivals_aMarks n_aRivals_aSeed n_aRivals_aContentMany n_aRivals_aRow n_aRivals_aRestMany).trans e_aRivals)
                          have e_aGone := ((fv148 aGone m_aGone n_aGone_y n_aGone_aKind n_aGone_aSize n_aGone_aMarks n_aGone_aSeed n_aGone_aContentMany n_aGone_aRow n_aGone_aRestMany).trans e_aGone)
                          have e_aOrder := ((fv148 aOrder m_aOrder n_aOrder_y n_aOrder_aKind n_aOrder_aSize n_aOrder_aMarks n_aOrder_aSeed n_aOrder_aContentMany n_aOrder_aRow n_aOrder_aRestMany).trans e_aOrder)
                          have e_aOffAt := ((fv148 aOffAt m_aOffAt n_aOffAt_y n_aOffAt_aKind n_aOffAt_aSize n_aOffAt_aMarks n_aOffAt_aSeed n_aOffAt_aContentMany n_aOffAt_aRow n_aOffAt_aRestMany).trans e_aOffAt)
                          have e_aIsOff := ((fv148 aIsOff m_aIsOff n_aIsOff_y n_aIsOff_aKind n_aIsOff_aSize n_aIsOff_aMarks n_aIsOff_aSeed n_aIsOff_aContentMany n_aIsOff_aRow n_aIsOff_aRestMany).trans e_aIsOff)
                          have e_aAlone := ((fv148 aAlone m_aAlone n_aAlone_y n_aAlone_aKind n_aAlone_aSize n_aAlone_aMarks n_aAlone_aSeed n_aAlone_aContentMany n_aAlone_aRow n_aAlone_aRestMany).trans e_aAlone)
                          have e_aKept := ((fv148 aKept m_aKept n_aKept_y n_aKept_aKind n_aKept_aSize n_aKept_aMarks n_aKept_aSeed n_aKept_aContentMany n_aKept_aRow n_aKept_aRestMany).trans e_aKept)
                          obtain ⟨o156, ho156, hM⟩ := bind_some hM
                          have EX156 : ∀ (fl156 : Nat → va_E) (H : Heap) (locs : List Loc) (ls : Array Slot), PS D g (va_A (va_pl L f) szz) s.heap s L fl156 H locs → fl156 y = .inr (7, [.ref aWorlds, .ref aInWorld, .ref aKind, .ref aSize, .ref aMarks, .ref aSeed, .ref aContents, .ref aContentMany, .ref aRow, .ref aBits, .ref aLayerSize, .ref aLayerCame, .ref aRest, .ref aRestMany, .int z148.2.1, .ref aCome, .ref aRivals, .ref aGone, .ref aOrder, .ref aOffAt, .ref aIsOff, .ref aAlone, .ref aKept]) → fl156 aWorlds = .inl (g 1, 8000, .inr (.inl vWorlds)) → fl156 aInWorld = .inl (g 0, 8, .inl vInWorld) → fl156 aKind = .inl (g 0, 30, .inl z148.2.2.1) → fl156 aSize = .inl (g 0, 30, .inl z148.2.2.2.1) → fl156 aMarks = .inl (g 0, 30, .inl z148.2.2.2.2.1) → fl156 aSeed = .inl (g 0, 30, .inl z148.2.2.2.2.2.1) → fl156 aContents = .inl (g 1, 30000, .inr (.inl vContents)) → fl156 aContentMany = .inl (g 0, 30, .inl z148.2.2.2.2.2.2.1) → fl156 aRow = .inl (g 0, 122880, .inl o156.2) → fl156 aBits = .inl (g 0, 76800, .inl vBits) → fl156 aLayerSize = .inl (g 0, 600, .inl vLayerSize) → fl156 aLayerCame = .inl (g 0, 600, .inl vLayerCame) → fl156 aRest = .inl (g 1, 30000, .inr (.inl vRest)) → fl156 aRestMany = .inl (g 0, 30, .inl z148.2.2.2.2.2.2.2.2) → fl156 aCome = .inl (g 1, 1000, .inr (.inl vCome)) → fl156 aRivals = .inl (g 1, 1000, .inr (.inl vRivals)) → fl156 aGone = .inl (g 1, 1000, .inr (.inl vGone)) → fl156 aOrder = .inl (g 0, 1000, .inl vOrder) → fl156 aOffAt = .inl (g 0, 1000, .inl vOffAt) → fl156 aIsOff = .inl (g 2, 1000, .inl vIsOff) → fl156 aAlone = .inl (g 0, 4096, .inl vAlone) → fl156 aKept = .inl (g 0, 4096, .inl vKept) → (∀ b, b ∈ L → b ≠ y → b ≠ aKind → b ≠ aSize → b ≠ aMarks → b ≠ aSeed → b ≠ aContents → b ≠ aContentMany → b ≠ aRow → b ≠ aRestMany → fl156 b = f b) → lv_has ls 8 [(4, .int z148.1), (0, .ref y), (1, .int ho), (2, .int aq), (3, .int bq)] → W p l e { frames := 1, cells := 0, slots := 0, locals := 26 } s m [.ref y, .int ho, .int aq, .int bq].toArray below meth c H locs 0 0 QQ (F0 m 234 ls []) := by
                            intro fl156 H locs ls S e_y e_aWorlds e_aInWorld e_aKind e_aSize e_aMarks e_aSeed e_aContents e_aContentMany e_aRow e_aBits e_aLayerSize e_aLayerCame e_aRest e_aRestMany e_aCome e_aRivals e_aGone e_aOrder e_aOffAt e_aIsOff e_aAlone e_aKept fr hl
                            refine lv_iconst (v := (0 : Int32)) hx hb dX9_join_234 (by decide) ?_
                            refine lv_istore (lv' := [(5, .int (0 : Int32)), (4, .int z148.1), (0, .ref y), (1, .int ho), (2, .int aq), (3, .int bq)]) hx hb dX9_join_235 hl (by decide) rfl (fun ls hl => ?_)
                            obtain ⟨o237, ho237, hM⟩ := bind_some hM
                            have EX237 : ∀ (fl237 : Nat → va_E) (H : Heap) (locs : List Loc) (ls : Array Slot), PS D g (va_A (va_pl L f) szz) s.heap s L fl237 H locs → fl237 y = .inr (7, [.ref aWorlds, .ref aInWorld, .ref aKind, .ref aSize, .ref aMarks, .ref aSeed, .ref aContents, .ref aContentMany, .ref aRow, .ref aBits, .ref aLayerSize, .ref aLayerCame, .ref aRest, .ref aRestMany, .int z148.2.1, .ref aCome, .ref aRivals, .ref aGone, .ref aOrder, .ref aOffAt, .ref aIsOff, .ref aAlone, .ref aKept]) → fl237 aWorlds = .inl (g 1, 8000, .inr (.inl vWorlds)) → fl237 aInWorld = .inl (g 0, 8, .inl vInWorld) → fl237 aKind = .inl (g 0, 30, .inl z148.2.2.1) → fl237 aSize = .inl (g 0, 30, .inl z148.2.2.2.1) → fl237 aMarks = .inl (g 0, 30, .inl z148.2.2.2.2.1) → fl237 aSeed = .inl (g 0, 30, .inl z148.2.2.2.2.2.1) → fl237 aContents = .inl (g 1, 30000, .inr (.inl o237.2.1)) → fl237 aContentMany = .inl (g 0, 30, .inl o237.2.2) → fl237 aRow = .inl (g 0, 122880, .inl o156.2) → fl237 aBits = .inl (g 0, 76800, .inl vBits) → fl237 aLayerSize = .inl (g 0, 600, .inl vLayerSize) → fl237 aLayerCame = .inl (g 0, 600, .inl vLayerCame) → fl237 aRest = .inl (g 1, 30000, .inr (.inl vRest)) → fl237 aRestMany = .inl (g 0, 30, .inl z148.2.2.2.2.2.2.2.2) → fl237 aCome = .inl (g 1, 1000, .inr (.inl vCome)) → fl237 aRivals = .inl (g 1, 1000, .inr (.inl vRivals)) → fl237 aGone = .inl (g 1, 1000, .inr (.inl vGone)) → fl237 aOrder = .inl (g 0, 1000, .inl vOrder) → fl237 aOffAt = .inl (g 0, 1000, .inl vOffAt) → fl237 aIsOff = .inl (g 2, 1000, .inl vIsOff) → fl237 aAlone = .inl (g 0, 4096, .inl vAlone) → fl237 aKept = .inl (g 0, 4096, .inl vKept) → (∀ b, b ∈ L → b ≠ y → b ≠ aKind → b ≠ aSize → b ≠ aMarks → b ≠ aSeed → b ≠ aContents → b ≠ aContentMany → b ≠ aRow → b ≠ aRestMany → fl237 b = f b) → lv_has ls 8 [(4, .int z148.1), (0, .ref y), (1, .int ho), (3, .int bq)] → W p l e { frames := 1, cells := 0, slots := 0, locals := 26 } s m [.ref y, .int ho, .int aq, .int bq].toArray below meth c H locs 0 0 QQ (F0 m 323 ls []) := by
                              intro fl237 H locs ls S e_y e_aWorlds e_aInWorld e_aKind e_aSize e_aMarks e_aSeed e_aContents e_aContentMany e_aRow e_aBits e_aLayerSize e_aLayerCame e_aRest e_aRestMany e_aCome e_aRivals e_aGone e_aOrder e_aOffAt e_aIsOff e_aAlone e_aKept fr hl
                              refine lv_iconst (v := (0 : Int32)) hx hb dX9_join_323 (by decide) ?_
                              refine lv_istore (lv' := [(5, .int (0 : Int32)), (4, .int z148.1), (0, .ref y), (1, .int ho), (3, .int bq)]) hx hb dX9_join_324 hl (by decide) rfl (fun ls hl => ?_)
                              obtain ⟨o326, ho326, hM⟩ := bind_some hM
                              have EX326 : ∀ (fl326 : Nat → va_E) (H : Heap) (locs : List Loc) (ls : Array Slot), PS D g (va_A (va_pl L f) szz) s.heap s L fl326 H locs → fl326 y = .inr (7, [.ref aWorlds, .ref aInWorld, .ref aKind, .ref aSize, .ref aMarks, .ref aSeed, .ref aContents, .ref aContentMany, .ref aRow, .ref aBits, .ref aLayerSize, .ref aLayerCame, .ref aRest, .ref aRestMany, .int z148.2.1, .ref aCome, .ref aRivals, .ref aGone, .ref aOrder, .ref aOffAt, .ref aIsOff, .ref aAlone, .ref aKept]) → fl326 aWorlds = .inl (g 1, 8000, .inr (.inl vWorlds)) → fl326 aInWorld = .inl (g 0, 8, .inl vInWorld) → fl326 aKind = .inl (g 0, 30, .inl z148.2.2.1) → fl326 aSize = .inl (g 0, 30, .inl z148.2.2.2.1) → fl326 aMarks = .inl (g 0, 30, .inl z148.2.2.2.2.1) → fl326 aSeed = .inl (g 0, 30, .inl z148.2.2.2.2.2.1) → fl326 aContents = .inl (g 1, 30000, .inr (.inl o326.2.1)) → fl326 aContentMany = .inl (g 0, 30, .inl o326.2.2) → fl326 aRow = .inl (g 0, 122880, .inl o156.2) → fl326 aBits = .inl (g 0, 76800, .inl vBits) → fl326 aLayerSize = .inl (g 0, 600, .inl vLayerSize) → fl326 aLayerCame = .inl (g 0, 600, .inl vLayerCame) → fl326 aRest = .inl (g 1, 30000, .inr (.inl vRest)) → fl326 aRestMany = .inl (g 0, 30, .inl z148.2.2.2.2.2.2.2.2) → fl326 aCome = .inl (g 1, 1000, .inr (.inl vCome)) → fl326 aRivals = .inl (g 1, 1000, .inr (.inl vRivals)) → fl326 aGone = .inl (g 1, 1000, .inr (.inl vGone)) → fl326 aOrder = .inl (g 0, 1000, .inl vOrder) → fl326 aOffAt = .inl (g 0, 1000, .inl vOffAt) → fl326 aIsOff = .inl (g 2, 1000, .inl vIsOff) → fl326 aAlone = .inl (g 0, 4096, .inl vAlone) → fl326 aKept = .inl (g 0, 4096, .inl vKept) → (∀ b, b ∈ L → b ≠ y → b ≠ aKind → b ≠ aSize → b ≠ aMarks → b ≠ aSeed → b ≠ aContents → b ≠ aContentMany → b ≠ aRow → b ≠ aRestMany → fl326 b = f b) → lv_has ls 8 [(4, .int z148.1)] → W p l e { frames := 1, cells := 0, slots := 0, locals := 26 } s m [.ref y, .int ho, .int aq, .int bq].toArray below meth c H locs 0 0 QQ (F0 m 390 ls []) := by
                                intro fl326 H locs ls S e_y e_aWorlds e_aInWorld e_aKind e_aSize e_aMarks e_aSeed e_aContents e_aContentMany e_aRow e_aBits e_aLayerSize e_aLayerCame e_aRest e_aRestMany e_aCome e_aRivals e_aGone e_aOrder e_aOffAt e_aIsOff e_aAlone e_aKept fr hl
                                refine lv_iload hx hb dX9_join_390 (lv_at hl 0 rfl) ?_
                                subst hQQ
                                exact q_reti (post := fun x L1 f1 => x = z.1 ∧ L1 = L ∧ (∀ b, b ∈ L → b ≠ y → b ≠ aKind → b ≠ aSize → b ≠ aMarks → b ≠ aSeed → b ≠ aContents → b ≠ aContentMany → b ≠ aRow → b ≠ aRestMany → f1 b = f b) ∧ f1 y = .inr (7, [.ref aWorlds, .ref aInWorld, .ref aKind, .ref aSize, .ref aMarks, .ref aSeed, .ref aContents, .ref aContentMany, .ref aRow, .ref aBits, .ref aLayerSize, .ref aLayerCame, .ref aRest, .ref aRestMany, .int z.2.1, .ref aCome, .ref aRivals, .ref aGone, .ref aOrder, .ref aOffAt, .ref aIsOff, .ref aAlone, .ref aKept]) ∧ f1 aKind = .inl (g 0, 30, .inl z.2.2.1) ∧ f1 aSize = .inl (g 0, 30, .inl z.2.2.2.1) ∧ f1 aMarks = .inl (g 0, 30, .inl z.2.2.2.2.1) ∧ f1 aSeed = .inl (g 0, 30, .inl z.2.2.2.2.2.1) ∧ f1 aContents = .inl (g 1, 30000, .inr (.inl z.2.2.2.2.2.2.1)) ∧ f1 aContentMany = .inl (g 0, 30, .inl z.2.2.2.2.2.2.2.1) ∧ f1 aRow = .inl (g 0, 122880, .inl z.2.2.2.2.2.2.2.2.1) ∧ f1 aRestMany = .inl (g 0, 30, .inl z.2.2.2.2.2.2.2.2.2)) hx hb hr hlk S dX9_join_392 (by decide) (by decide) (by have hz := Option.some.inj hM; subst hz; exact ⟨rfl, rfl, fr, e_y, e_aKind, e_aSize, e_aMarks, e_aSeed, e_aContents, e_aContentMany, e_aRow, e_aRestMany⟩)
                              have LP326 : ∀ (fu : Nat) (x5_326 : Int32) (caContents_326 : Nat → Int64) (caContentMany_326 : Nat → Int32) (fl326 : Nat → va_E) (H : Heap) (locs : List Loc) (ls : Array Slot), (mX9_join_L326 ho bq z148) fu x5_326 caContents_326 caContentMany_326 = some o326 → PS D g (va_A (va_pl L f) szz) s.heap s L fl326 H locs → fl326 y = .inr (7, [.ref aWorlds, .ref aInWorld, .ref aKind, .ref aSize, .ref aMarks, .ref aSeed, .ref aContents, .ref aContentMany, .ref aRow, .ref aBits, .ref aLayerSize, .ref aLayerCame, .ref aRest, .ref aRestMany, .int z148.2.1, .ref aCome, .ref aRivals, .ref aGone, .ref aOrder, .ref aOffAt, .ref aIsOff, .ref aAlone, .ref aKept]) → fl326 aWorlds = .inl (g 1, 8000, .inr (.inl vWorlds)) → fl326 aInWorld = .inl (g 0, 8, .inl vInWorld) → fl326 aKind = .inl (g 0, 30, .inl z148.2.2.1) → fl326 aSize = .inl (g 0, 30, .inl z148.2.2.2.1) → fl326 aMarks = .inl (g 0, 30, .inl z148.2.2.2.2.1) → fl326 aSeed = .inl (g 0, 30, .inl z148.2.2.2.2.2.1) → fl326 aContents = .inl (g 1, 30000, .inr (.inl caContents_326)) → fl326 aContentMany = .inl (g 0, 30, .inl caContentMany_326) → fl326 aRow = .inl (g 0, 122880, .inl o156.2) → fl326 aBits = .inl (g 0, 76800, .inl vBits) → fl326 aLayerSize = .inl (g 0, 600, .inl vLayerSize) → fl326 aLayerCame = .inl (g 0, 600, .inl vLayerCame) → fl326 aRest = .inl (g 1, 30000, .inr (.inl vRest)) → fl326 aRestMany = .inl (g 0, 30, .inl z148.2.2.2.2.2.2.2.2) → fl326 aCome = .inl (g 1, 1000, .inr (.inl vCome)) → fl326 aRivals = .inl (g 1, 1000, .inr (.inl vRivals)) → fl326 aGone = .inl (g 1, 1000, .inr (.inl vGone)) → fl326 aOrder = .inl (g 0, 1000, .inl vOrder) → fl326 aOffAt = .inl (g 0, 1000, .inl vOffAt) → fl326 aIsOff = .inl (g 2, 1000, .inl vIsOff) → fl326 aAlone = .inl (g 0, 4096, .inl vAlone) → fl326 aKept = .inl (g 0, 4096, .inl vKept) → (∀ b, b ∈ L → b ≠ y → b ≠ aKind → b ≠ aSize → b ≠ aMarks → b ≠ aSeed → b ≠ aContents → b ≠ aContentMany → b ≠ aRow → b ≠ aRestMany → fl326 b = f b) → lv_has ls 8 [(5, .int x5_326), (4, .int z148.1), (0, .ref y), (1, .int ho), (3, .int bq)] → W p l e { frames := 1, cells := 0, slots := 0, locals := 26 } s m [.ref y, .int ho, .int aq, .int bq].toArray below meth c H locs 0 0 QQ (F0 m 326 ls []) := by
                                intro fu
                                induction fu with
                                | zero => intro x5_326 caContents_326 caContentMany_326 fl326 H locs ls ho326 S e_y e_aWorlds e_aInWorld e_aKind e_aSize e_aMarks e_aSeed e_aContents e_aContentMany e_aRow e_aBits e_aLayerSize e_aLayerCame e_aRest e_aRestMany e_aCome e_aRivals e_aGone e_aOrder e_aOffAt e_aIsOff e_aAlone e_aKept fr hl; exact no_some ho326
                                | succ fu ih326 =>
                                  intro x5_326 caContents_326 caContentMany_326 fl326 H locs ls ho326 S e_y e_aWorlds e_aInWorld e_aKind e_aSize e_aMarks e_aSeed e_aContents e_aContentMany e_aRow e_aBits e_aLayerSize e_aLayerCame e_aRest e_aRestMany e_aCome e_aRivals e_aGone e_aOrder e_aOffAt e_aIsOff e_aAlone e_aKept fr hl
                                  rw [mX9_join_L326] at ho326
                                  refine lv_iload hx hb dX9_join_326 (lv_at hl 0 rfl) ?_
                                  refine lv_aload_n hx hb dX9_join_328 rfl (lv_at hl 2 rfl) ?_
                                  refine q_get hx hb hts in_X9 hown S m_y e_y (C := RX9) (T := TX9) (N := 23) rfl 7 (by decide) rfl (hts (.fieldLink RX9 32 "SieveCabinetModel" "contentMany" "[I") (by decide +kernel)) dX9_join_329 ?_
                                  refine lv_iload_n hx hb dX9_join_332 rfl (lv_at hl 4 rfl) ?_
                                  obtain ⟨hi333, ho326⟩ := ckx ho326
                                  refine q_iald hx hb S m_aContentMany e_aContentMany hi333 dX9_join_333 ?_
                                  refine lv_icmp_ge (tgt := 390) hx hb dX9_join_334 (by decide) (fun b334 => ?_) (fun b334 => ?_)
                                  · have ho326 := itT b334 ho326
                                    obtain rfl := Option.some.inj ho326
                                    exact EX326 fl326 _ _ _ S e_y e_aWorlds e_aInWorld e_aKind e_aSize e_aMarks e_aSeed e_aContents e_aContentMany e_aRow e_aBits e_aLayerSize e_aLayerCame e_aRest e_aRestMany e_aCome e_aRivals e_aGone e_aOrder e_aOffAt e_aIsOff e_aAlone e_aKept fr (lv_sub hl [1] rfl)
                                  · have ho326 := itF b334 ho326
                                    refine lv_iload_n hx hb dX9_join_337 rfl (lv_at hl 3 rfl) ?_
                                    refine lv_if_ne (tgt := 390) hx hb dX9_join_338 (by decide) (fun b338 => ?_) (fun b338 => ?_)
                                    · have ho326 := itF b338 ho326
                                      obtain rfl := Option.some.inj ho326
                                      exact EX326 fl326 _ _ _ S e_y e_aWorlds e_aInWorld e_aKind e_aSize e_aMarks e_aSeed e_aContents e_aContentMany e_aRow e_aBits e_aLayerSize e_aLayerCame e_aRest e_aRestMany e_aCome e_aRivals e_aGone e_aOrder e_aOffAt e_aIsOff e_aAlone e_aKept fr (lv_sub hl [1] rfl)
                                    · have ho326 := itT b338 ho326
                                      refine lv_aload_n hx hb dX9_join_341 rfl (lv_at hl 2 rfl) ?_
                                      refine q_get hx hb hts in_X9 hown S m_y e_y (C := RX9) (T := TX9) (N := 23) rfl 6 (by decide) rfl (hts (.fieldLink RX9 29 "SieveCabinetModel" "contents" "[J") (by decide +kernel)) dX9_join_342 ?_
                                      refine lv_iload hx hb dX9_join_345 (lv_at hl 1 rfl) ?_
                                      refine lv_sipush (v := (1000 : Int32)) hx hb dX9_join_347 (by decide) ?_
                                      refine lv_imul hx hb dX9_join_350 ?_
                                      refine lv_aload_n hx hb dX9_join_351 rfl (lv_at hl 2 rfl) ?_
                                      refine q_get hx hb hts in_X9 hown S m_y e_y (C := RX9) (T := TX9) (N := 23) rfl 7 (by decide) rfl (hts (.fieldLink RX9 32 "SieveCabinetModel" "contentMany" "[I") (by decide +kernel)) dX9_join_352 ?_
                                      refine lv_iload hx hb dX9_join_355 (lv_at hl 1 rfl) ?_
                                      obtain ⟨hi357, ho326⟩ := ckx ho326
                                      refine q_iald hx hb S m_aContentMany e_aContentMany hi357 dX9_join_357 ?_
                                      refine lv_iadd hx hb dX9_join_358 ?_
                                      refine lv_aload_n hx hb dX9_join_359 rfl (lv_at hl 2 rfl) ?_
                                      refine q_get hx hb hts in_X9 hown S m_y e_y (C := RX9) (T := TX9) (N := 23) rfl 6 (by decide) rfl (hts (.fieldLink RX9 29 "SieveCabinetModel" "contents" "[J") (by decide +kernel)) dX9_join_360 ?_
                                      refine lv_iload_n hx hb dX9_join_363 rfl (lv_at hl 4 rfl) ?_
                                      refine lv_sipush (v := (1000 : Int32)) hx hb dX9_join_364 (by decide) ?_
                                      refine lv_imul hx hb dX9_join_367 ?_
                                      refine lv_iload hx hb dX9_join_368 (lv_at hl 0 rfl) ?_
                                      refine lv_iadd hx hb dX9_join_370 ?_
                                      obtain ⟨hi371, ho326⟩ := ckx ho326
                                      refine q_lald hx hb S m_aContents e_aContents hi371 dX9_join_371 ?_
                                      obtain ⟨hi372, ho326⟩ := ckx ho326
                                      refine k_last hx hb S m_aContents e_aContents hi372 dX9_join_372 (fun f27 ef27 H locs S => ?_)
                                      have e_aContents := up_self ef27
                                      have fr : ∀ b, b ∈ L → b ≠ y → b ≠ aKind → b ≠ aSize → b ≠ aMarks → b ≠ aSeed → b ≠ aContents → b ≠ aContentMany → b ≠ aRow → b ≠ aRestMany → f27 b = f b := fun b mb nb0 nb1 nb2 nb3 nb4 nb5 nb6 nb7 nb8 => (up_ne ef27 nb5 rfl).trans (fr b mb nb0 nb1 nb2 nb3 nb4 nb5 nb6 nb7 nb8)
                                      refine lv_aload_n hx hb dX9_join_373 rfl (lv_at hl 2 rfl) ?_
                                      have e_y := (up_ne ef27 n_y_aContents e_y)
                                      refine q_get hx hb hts in_X9 hown S m_y e_y (C := RX9) (T := TX9) (N := 23) rfl 7 (by decide) rfl (hts (.fieldLink RX9 32 "SieveCabinetModel" "contentMany" "[I") (by decide +kernel)) dX9_join_374 ?_
                                      refine lv_iload hx hb dX9_join_377 (lv_at hl 1 rfl) ?_
                                      refine lv_dup2_11 hx hb dX9_join_379 rfl rfl ?_
                                      obtain ⟨hi380, ho326⟩ := ckx ho326
                                      have e_aContentMany := (up_ne ef27 n_aContentMany_aContents e_aContentMany)
                                      refine q_iald hx hb S m_aContentMany e_aContentMany hi380 dX9_join_380 ?_
                                      refine lv_iconst (v := (1 : Int32)) hx hb dX9_join_381 (by decide) ?_
                                      refine lv_iadd hx hb dX9_join_382 ?_
                                      obtain ⟨hi383, ho326⟩ := ckx ho326
                                      refine k_iast hx hb S m_aContentMany e_aContentMany hi383 dX9_join_383 (fun f28 ef28 H locs S => ?_)
                                      have e_aContentMany := up_self ef28
                                      have fr : ∀ b, b ∈ L → b ≠ y → b ≠ aKind → b ≠ aSize → b ≠ aMarks → b ≠ aSeed → b ≠ aContents → b ≠ aContentMany → b ≠ aRow → b ≠ aRestMany → f28 b = f b := fun b mb nb0 nb1 nb2 nb3 nb4 nb5 nb6 nb7 nb8 => (up_ne ef28 nb6 rfl).trans (fr b mb nb0 nb1 nb2 nb3 nb4 nb5 nb6 nb7 nb8)
                                      refine lv_iinc (v := (x5_326 + 1)) (lv' := [(5, .int (x5_326 + 1)), (4, .int z148.1), (0, .ref y), (1, .int ho), (3, .int bq)]) hx hb dX9_join_384 hl (k := 0) rfl rfl (by decide) rfl (fun ls hl => ?_)
                                      refine lv_goto (tgt := 326) hx hb dX9_join_387 (by decide) ?_
                                      have e_y := (up_ne ef28 n_y_aContentMany e_y)
                                      have e_aWorlds := (up_ne ef28 n_aWorlds_aContentMany (up_ne ef27 n_aWorlds_aContents e_aWorlds))
                                      have e_aInWorld := (up_ne ef28 n_aInWorld_aContentMany (up_ne ef27 n_aInWorld_aContents e_aInWorld))
                                      have e_aKind := (up_ne ef28 n_aKind_aContentMany (up_ne ef27 n_aKind_aContents e_aKind))
                                      have e_aSize := (up_ne ef28 n_aSize_aContentMany (up_ne ef27 n_aSize_aContents e_aSize))
                                      have e_aMarks := (up_ne ef28 n_aMarks_aContentMany (up_ne ef27 n_aMarks_aContents e_aMarks))
                                      have e_aSeed := (up_ne ef28 n_aSeed_aContentMany (up_ne ef27 n_aSeed_aContents e_aSeed))
                                      have e_aContents := (up_ne ef28 n_aContents_aContentMany e_aContents)
                                      have e_aRow := (up_ne ef28 n_aRow_aContentMany (up_ne ef27 n_aRow_aContents e_aRow))
                                      have e_aBits := (up_ne ef28 n_aBits_aContentMany (up_ne ef27 n_aBits_aContents e_aBits))
                                      have e_aLayerSize := (up_ne ef28 n_aLayerSize_aContentMany (up_ne ef27 n_aLayerSize_aContents e_aLayerSize))
                                      have e_aLayerCame := (up_ne ef28 n_aLayerCame_aContentMany (up_ne ef27 n_aLayerCame_aContents e_aLayerCame))
                                      have e_aRest := (up_ne ef28 n_aRest_aContentMany (up_ne ef27 n_aRest_aContents e_aRest))
                                      have e_aRestMany := (up_ne ef28 n_aRestMany_aContentMany (up_ne ef27 n_aRestMany_aContents e_aRestMany))
                                      have e_aCome := (up_ne ef28 n_aCome_aContentMany (up_ne ef27 n_aCome_aContents e_aCome))
                                      have e_aRivals := (up_ne ef28 n_aRivals_aContentMany (up_ne ef27 n_aRivals_aContents e_aRivals))
                                      have e_aGone := (up_ne ef28 n_aGone_aContentMany (up_ne ef27 n_aGone_aContents e_aGone))
                                      have e_aOrder := (up_ne ef28 n_aOrder_aContentMany (up_ne ef27 n_aOrder_aContents e_aOrder))
                                      have e_aOffAt := (up_ne ef28 n_aOffAt_aContentMany (up_ne ef27 n_aOffAt_aContents e_aOffAt))
                                      have e_aIsOff := (up_ne ef28 n_aIsOff_aContentMany (up_ne ef27 n_aIsOff_aContents e_aIsOff))
                                      have e_aAlone := (up_ne ef28 n_aAlone_aContentMany (up_ne ef27 n_aAlone_aContents e_aAlone))
                                      have e_aKept := (up_ne ef28 n_aKept_aContentMany (up_ne ef27 n_aKept_aContents e_aKept))
                                      exact ih326 (x5_326 + 1) (vp_updL caContents_326 (Int32.toNatClampNeg ((z148.1 * (1000 : Int32)) + (caContentMany_326 (Int32.toNatClampNeg z148.1)))) (caContents_326 (Int32.toNatClampNeg ((bq * (1000 : Int32)) + x5_326)))) (upd caContentMany_326 (Int32.toNatClampNeg z148.1) ((caContentMany_326 (Int32.toNatClampNeg z148.1)) + (1 : Int32))) f28 _ _ _ ho326 S e_y e_aWorlds e_aInWorld e_aKind e_aSize e_aMarks e_aSeed e_aContents e_aContentMany e_aRow e_aBits e_aLayerSize e_aLayerCame e_aRest e_aRestMany e_aCome e_aRivals e_aGone e_aOrder e_aOffAt e_aIsOff e_aAlone e_aKept fr (lv_sub hl [0, 1, 2, 3, 4] rfl)
                              exact LP326 FU (0 : Int32) o237.2.1 o237.2.2 fl237 _ _ _ ho326 S e_y e_aWorlds e_aInWorld e_aKind e_aSize e_aMarks e_aSeed e_aContents e_aContentMany e_aRow e_aBits e_aLayerSize e_aLayerCame e_aRest e_aRestMany e_aCome e_aRivals e_aGone e_aOrder e_aOffAt e_aIsOff e_aAlone e_aKept fr (lv_sub hl [0, 1, 2, 3, 4] rfl)
                            have LP237 : ∀ (fu : Nat) (x5_237 : Int32) (caContents_237 : Nat → Int64) (caContentMany_237 : Nat → Int32) (fl237 : Nat → va_E) (H : Heap) (locs : List Loc) (ls : Array Slot), (mX9_join_L237 ho aq bq z148) fu x5_237 caContents_237 caContentMany_237 = some o237 → PS D g (va_A (va_pl L f) szz) s.heap s L fl237 H locs → fl237 y = .inr (7, [.ref aWorlds, .ref aInWorld, .ref aKind, .ref aSize, .ref aMarks, .ref aSeed, .ref aContents, .ref aContentMany, .ref aRow, .ref aBits, .ref aLayerSize, .ref aLayerCame, .ref aRest, .ref aRestMany, .int z148.2.1, .ref aCome, .ref aRivals, .ref aGone, .ref aOrder, .ref aOffAt, .ref aIsOff, .ref aAlone, .ref aKept]) → fl237 aWorlds = .inl (g 1, 8000, .inr (.inl vWorlds)) → fl237 aInWorld = .inl (g 0, 8, .inl vInWorld) → fl237 aKind = .inl (g 0, 30, .inl z148.2.2.1) → fl237 aSize = .inl (g 0, 30, .inl z148.2.2.2.1) → fl237 aMarks = .inl (g 0, 30, .inl z148.2.2.2.2.1) → fl237 aSeed = .inl (g 0, 30, .inl z148.2.2.2.2.2.1) → fl237 aContents = .inl (g 1, 30000, .inr (.inl caContents_237)) → fl237 aContentMany = .inl (g 0, 30, .inl caContentMany_237) → fl237 aRow = .inl (g 0, 122880, .inl o156.2) → fl237 aBits = .inl (g 0, 76800, .inl vBits) → fl237 aLayerSize = .inl (g 0, 600, .inl vLayerSize) → fl237 aLayerCame = .inl (g 0, 600, .inl vLayerCame) → fl237 aRest = .inl (g 1, 30000, .inr (.inl vRest)) → fl237 aRestMany = .inl (g 0, 30, .inl z148.2.2.2.2.2.2.2.2) → fl237 aCome = .inl (g 1, 1000, .inr (.inl vCome)) → fl237 aRivals = .inl (g 1, 1000, .inr (.inl vRivals)) → fl237 aGone = .inl (g 1, 1000, .inr (.inl vGone)) → fl237 aOrder = .inl (g 0, 1000, .inl vOrder) → fl237 aOffAt = .inl (g 0, 1000, .inl vOffAt) → fl237 aIsOff = .inl (g 2, 1000, .inl vIsOff) → fl237 aAlone = .inl (g 0, 4096, .inl vAlone) → fl237 aKept = .inl (g 0, 4096, .inl vKept) → (∀ b, b ∈ L → b ≠ y → b ≠ aKind → b ≠ aSize → b ≠ aMarks → b ≠ aSeed → b ≠ aContents → b ≠ aContentMany → b ≠ aRow → b ≠ aRestMany → fl237 b = f b) → lv_has ls 8 [(5, .int x5_237), (4, .int z148.1), (0, .ref y), (1, .int ho), (2, .int aq), (3, .int bq)] → W p l e { frames := 1, cells := 0, slots := 0, locals := 26 } s m [.ref y, .int ho, .int aq, .int bq].toArray below meth c H locs 0 0 QQ (F0 m 237 ls []) := by
                              intro fu
                              induction fu with
                              | zero => intro x5_237 caContents_237 caContentMany_237 fl237 H locs ls ho237 S e_y e_aWorlds e_aInWorld e_aKind e_aSize e_aMarks e_aSeed e_aContents e_aContentMany e_aRow e_aBits e_aLayerSize e_aLayerCame e_aRest e_aRestMany e_aCome e_aRivals e_aGone e_aOrder e_aOffAt e_aIsOff e_aAlone e_aKept fr hl; exact no_some ho237
                              | succ fu ih237 =>
                                intro x5_237 caContents_237 caContentMany_237 fl237 H locs ls ho237 S e_y e_aWorlds e_aInWorld e_aKind e_aSize e_aMarks e_aSeed e_aContents e_aContentMany e_aRow e_aBits e_aLayerSize e_aLayerCame e_aRest e_aRestMany e_aCome e_aRivals e_aGone e_aOrder e_aOffAt e_aIsOff e_aAlone e_aKept fr hl
                                rw [mX9_join_L237] at ho237
                                refine lv_iload hx hb dX9_join_237 (lv_at hl 0 rfl) ?_
                                refine lv_aload_n hx hb dX9_join_239 rfl (lv_at hl 2 rfl) ?_
                                refine q_get hx hb hts in_X9 hown S m_y e_y (C := RX9) (T := TX9) (N := 23) rfl 7 (by decide) rfl (hts (.fieldLink RX9 32 "SieveCabinetModel" "contentMany" "[I") (by decide +kernel)) dX9_join_240 ?_
                                refine lv_iload_n hx hb dX9_join_243 rfl (lv_at hl 4 rfl) ?_
                                obtain ⟨hi244, ho237⟩ := ckx ho237
                                refine q_iald hx hb S m_aContentMany e_aContentMany hi244 dX9_join_244 ?_
                                refine lv_icmp_ge (tgt := 323) hx hb dX9_join_245 (by decide) (fun b245 => ?_) (fun b245 => ?_)
                                · have ho237 := itT b245 ho237
                                  obtain rfl := Option.some.inj ho237
                                  exact EX237 fl237 _ _ _ S e_y e_aWorlds e_aInWorld e_aKind e_aSize e_aMarks e_aSeed e_aContents e_aContentMany e_aRow e_aBits e_aLayerSize e_aLayerCame e_aRest e_aRestMany e_aCome e_aRivals e_aGone e_aOrder e_aOffAt e_aIsOff e_aAlone e_aKept fr (lv_sub hl [1, 2, 3, 5] rfl)
                                · have ho237 := itF b245 ho237
                                  refine lv_aload_n hx hb dX9_join_248 rfl (lv_at hl 2 rfl) ?_
                                  refine q_get hx hb hts in_X9 hown S m_y e_y (C := RX9) (T := TX9) (N := 23) rfl 6 (by decide) rfl (hts (.fieldLink RX9 29 "SieveCabinetModel" "contents" "[J") (by decide +kernel)) dX9_join_249 ?_
                                  refine lv_iload_n hx hb dX9_join_252 rfl (lv_at hl 4 rfl) ?_
                                  refine lv_sipush (v := (1000 : Int32)) hx hb dX9_join_253 (by decide) ?_
                                  refine lv_imul hx hb dX9_join_256 ?_
                                  refine lv_iload hx hb dX9_join_257 (lv_at hl 0 rfl) ?_
                                  refine lv_iadd hx hb dX9_join_259 ?_
                                  obtain ⟨hi260, ho237⟩ := ckx ho237
                                  refine q_lald hx hb S m_aContents e_aContents hi260 dX9_join_260 ?_
                                  refine lv_topl (fun y261 ey261 => ?_)
                                  have ho237 := lt_some ho237 ey261
                                  refine lv_lstore (lv' := [(6, .long y261), (5, .int x5_237), (4, .int z148.1), (0, .ref y), (1, .int ho), (2, .int aq), (3, .int bq)]) hx hb dX9_join_261 hl (by decide) rfl (fun ls hl => ?_)
                                  refine lv_iload_n hx hb dX9_join_263 rfl (lv_at hl 4 rfl) ?_
                                  refine lv_if_eq (tgt := 285) hx hb dX9_join_264 (by decide) (fun b264 => ?_) (fun b264 => ?_)
                                  · have ho237 := itT b264 ho237
                                    refine lv_aload_n hx hb dX9_join_285 rfl (lv_at hl 3 rfl) ?_
                                    refine q_get hx hb hts in_X9 hown S m_y e_y (C := RX9) (T := TX9) (N := 23) rfl 6 (by decide) rfl (hts (.fieldLink RX9 29 "SieveCabinetModel" "contents" "[J") (by decide +kernel)) dX9_join_286 ?_
                                    refine lv_iload hx hb dX9_join_289 (lv_at hl 2 rfl) ?_
                                    refine lv_sipush (v := (1000 : Int32)) hx hb dX9_join_291 (by decide) ?_
                                    refine lv_imul hx hb dX9_join_294 ?_
                                    refine lv_aload_n hx hb dX9_join_295 rfl (lv_at hl 3 rfl) ?_
                                    refine q_get hx hb hts in_X9 hown S m_y e_y (C := RX9) (T := TX9) (N := 23) rfl 7 (by decide) rfl (hts (.fieldLink RX9 32 "SieveCabinetModel" "contentMany" "[I") (by decide +kernel)) dX9_join_296 ?_
                                    refine lv_iload hx hb dX9_join_299 (lv_at hl 2 rfl) ?_
                                    obtain ⟨hi301, ho237⟩ := ckx ho237
                                    refine q_iald hx hb S m_aContentMany e_aContentMany hi301 dX9_join_301 ?_
                                    refine lv_iadd hx hb dX9_join_302 ?_
                                    refine lv_lload hx hb dX9_join_303 (lv_at hl 0 rfl) ?_
                                    obtain ⟨hi305, ho237⟩ := ckx ho237
                                    refine k_last hx hb S m_aContents e_aContents hi305 dX9_join_305 (fun f29 ef29 H locs S => ?_)
                                    have e_aContents := up_self ef29
                                    have fr : ∀ b, b ∈ L → b ≠ y → b ≠ aKind → b ≠ aSize → b ≠ aMarks → b ≠ aSeed → b ≠ aContents → b ≠ aContentMany → b ≠ aRow → b ≠ aRestMany → f29 b = f b := fun b mb nb0 nb1 nb2 nb3 nb4 nb5 nb6 nb7 nb8 => (up_ne ef29 nb5 rfl).trans (fr b mb nb0 nb1 nb2 nb3 nb4 nb5 nb6 nb7 nb8)
                                    refine lv_aload_n hx hb dX9_join_306 rfl (lv_at hl 3 rfl) ?_
                                    have e_y := (up_ne ef29 n_y_aContents e_y)
                                    refine q_get hx hb hts in_X9 hown S m_y e_y (C := RX9) (T := TX9) (N := 23) rfl 7 (by decide) rfl (hts (.fieldLink RX9 32 "SieveCabinetModel" "contentMany" "[I") (by decide +kernel)) dX9_join_307 ?_
                                    refine lv_iload hx hb dX9_join_310 (lv_at hl 2 rfl) ?_
                                    refine lv_dup2_11 hx hb dX9_join_312 rfl rfl ?_
                                    obtain ⟨hi313, ho237⟩ := ckx ho237
                                    have e_aContentMany := (up_ne ef29 n_aContentMany_aContents e_aContentMany)
                                    refine q_iald hx hb S m_aContentMany e_aContentMany hi313 dX9_join_313 ?_
                                    refine lv_iconst (v := (1 : Int32)) hx hb dX9_join_314 (by decide) ?_
                                    refine lv_iadd hx hb dX9_join_315 ?_
                                    obtain ⟨hi316, ho237⟩ := ckx ho237
                                    refine k_iast hx hb S m_aContentMany e_aContentMany hi316 dX9_join_316 (fun f30 ef30 H locs S => ?_)
                                    have e_aContentMany := up_self ef30
                                    have fr : ∀ b, b ∈ L → b ≠ y → b ≠ aKind → b ≠ aSize → b ≠ aMarks → b ≠ aSeed → b ≠ aContents → b ≠ aContentMany → b ≠ aRow → b ≠ aRestMany → f30 b = f b := fun b mb nb0 nb1 nb2 nb3 nb4 nb5 nb6 nb7 nb8 => (up_ne ef30 nb6 rfl).trans (fr b mb nb0 nb1 nb2 nb3 nb4 nb5 nb6 nb7 nb8)
                                    refine lv_iinc (v := (x5_237 + 1)) (lv' := [(5, .int (x5_237 + 1)), (6, .long y261), (4, .int z148.1), (0, .ref y), (1, .int ho), (2, .int aq), (3, .int bq)]) hx hb dX9_join_317 hl (k := 1) rfl rfl (by decide) rfl (fun ls hl => ?_)
                                    refine lv_goto (tgt := 237) hx hb dX9_join_320 (by decide) ?_
                                    have e_y := (up_ne ef30 n_y_aContentMany e_y)
                                    have e_aWorlds := (up_ne ef30 n_aWorlds_aContentMany (up_ne ef29 n_aWorlds_aContents e_aWorlds))
                                    have e_aInWorld := (up_ne ef30 n_aInWorld_aContentMany (up_ne ef29 n_aInWorld_aContents e_aInWorld))
                                    have e_aKind := (up_ne ef30 n_aKind_aContentMany (up_ne ef29 n_aKind_aContents e_aKind))
                                    have e_aSize := (up_ne ef30 n_aSize_aContentMany (up_ne ef29 n_aSize_aContents e_aSize))
                                    have e_aMarks := (up_ne ef30 n_aMarks_aContentMany (up_ne ef29 n_aMarks_aContents e_aMarks))
                                    have e_aSeed := (up_ne ef30 n_aSeed_aContentMany (up_ne ef29 n_aSeed_aContents e_aSeed))
                                    have e_aContents := (up_ne ef30 n_aContents_aContentMany e_aContents)
                                    have e_aRow := (up_ne ef30 n_aRow_aContentMany (up_ne ef29 n_aRow_aContents e_aRow))
                                    have e_aBits := (up_ne ef30 n_aBits_aContentMany (up_ne ef29 n_aBits_aContents e_aBits))
                                    have e_aLayerSize := (up_ne ef30 n_aLayerSize_aContentMany (up_ne ef29 n_aLayerSize_aContents e_aLayerSize))
                                    have e_aLayerCame := (up_ne ef30 n_aLayerCame_aContentMany (up_ne ef29 n_aLayerCame_aContents e_aLayerCame))
                                    have e_aRest := (up_ne ef30 n_aRest_aContentMany (up_ne ef29 n_aRest_aContents e_aRest))
                                    have e_aRestMany := (up_ne ef30 n_aRestMany_aContentMany (up_ne ef29 n_aRestMany_aContents e_aRestMany))
                                    have e_aCome := (up_ne ef30 n_aCome_aContentMany (up_ne ef29 n_aCome_aContents e_aCome))
                                    have e_aRivals := (up_ne ef30 n_aRivals_aContentMany (up_ne ef29 n_aRivals_aContents e_aRivals))
                                    have e_aGone := (up_ne ef30 n_aGone_aContentMany (up_ne ef29 n_aGone_aContents e_aGone))
                                    have e_aOrder := (up_ne ef30 n_aOrder_aContentMany (up_ne ef29 n_aOrder_aContents e_aOrder))
                                    have e_aOffAt := (up_ne ef30 n_aOffAt_aContentMany (up_ne ef29 n_aOffAt_aContents e_aOffAt))
                                    have e_aIsOff := (up_ne ef30 n_aIsOff_aContentMany (up_ne ef29 n_aIsOff_aContents e_aIsOff))
                                    have e_aAlone := (up_ne ef30 n_aAlone_aContentMany (up_ne ef29 n_aAlone_aContents e_aAlone))
                                    have e_aKept := (up_ne ef30 n_aKept_aContentMany (up_ne ef29 n_aKept_aContents e_aKept))
                                    exact ih237 (x5_237 + 1) (vp_updL caContents_237 (Int32.toNatClampNeg ((z148.1 * (1000 : Int32)) + (caContentMany_237 (Int32.toNatClampNeg z148.1)))) y261) (upd caContentMany_237 (Int32.toNatClampNeg z148.1) ((caContentMany_237 (Int32.toNatClampNeg z148.1)) + (1 : Int32))) f30 _ _ _ ho237 S e_y e_aWorlds e_aInWorld e_aKind e_aSize e_aMarks e_aSeed e_aContents e_aContentMany e_aRow e_aBits e_aLayerSize e_aLayerCame e_aRest e_aRestMany e_aCome e_aRivals e_aGone e_aOrder e_aOffAt e_aIsOff e_aAlone e_aKept fr (lv_sub hl [0, 2, 3, 4, 5, 6] rfl)
                                  · have ho237 := itF b264 ho237
                                    refine lv_aload_n hx hb dX9_join_267 rfl (lv_at hl 3 rfl) ?_
                                    refine lv_iload hx hb dX9_join_268 (lv_at hl 2 rfl) ?_
                                    refine lv_lload hx hb dX9_join_270 (lv_at hl 0 rfl) ?_
                                    obtain ⟨z272, hz272, ho237⟩ := bind_some ho237
                                    refine q_vi (As := [.int z148.1, .long y261]) (rest := []) ⟨hx, hb, hml, hown, hts⟩ (k_X9_timesIn l D g m_y e_y m_aContents e_aContents m_aContentMany e_aContentMany hz272) (cwV 2 hts gX9_join_X9_timesIn rfl rfl rfl (by decide +kernel) ⟨Nat.le_of_ble_eq_true rfl, Nat.le_of_ble_eq_true rfl⟩) S m_y e_y (T := TX9) (N := 23) rfl rfl hl.1 rfl (Nat.le_of_ble_eq_true rfl) dX9_join_272 ⟨Nat.le_of_ble_eq_true rfl, Nat.le_of_ble_eq_true rfl⟩ (fun r33 L31 f32 H locs S w272 => ?_)
                                    obtain ⟨ex272, eL, ef⟩ := w272
                                    rw [eL, ef] at S
                                    replace ex272 := ex272.symm
                                    subst ex272
                                    refine lv_aload_n hx hb dX9_join_275 rfl (lv_at hl 3 rfl) ?_
                                    refine lv_iload_n hx hb dX9_join_276 rfl (lv_at hl 6 rfl) ?_
                                    refine lv_lload hx hb dX9_join_277 (lv_at hl 0 rfl) ?_
                                    obtain ⟨z279, hz279, ho237⟩ := bind_some ho237
                                    refine q_vi (As := [.int bq, .long y261]) (rest := [.int z272]) ⟨hx, hb, hml, hown, hts⟩ (k_X9_timesIn l D g m_y e_y m_aContents e_aContents m_aContentMany e_aContentMany hz279) (cwV 2 hts gX9_join_X9_timesIn rfl rfl rfl (by decide +kernel) ⟨Nat.le_of_ble_eq_true rfl, Nat.le_of_ble_eq_true rfl⟩) S m_y e_y (T := TX9) (N := 23) rfl rfl hl.1 rfl (Nat.le_of_ble_eq_true rfl) dX9_join_279 ⟨Nat.le_of_ble_eq_true rfl, Nat.le_of_ble_eq_true rfl⟩ (fun r36 L34 f35 H locs S w279 => ?_)
                                    obtain ⟨ex279, eL, ef⟩ := w279
                                    rw [eL, ef] at S
                                    replace ex279 := ex279.symm
                                    subst ex279
                                    refine lv_icmp_ge (tgt := 317) hx hb dX9_join_282 (by decide) (fun b282 => ?_) (fun b282 => ?_)
                                    · have ho237 := itT b282 ho237
                                      refine lv_iinc (v := (x5_237 + 1)) (lv' := [(5, .int (x5_237 + 1)), (6, .long y261), (4, .int z148.1), (0, .ref y), (1, .int ho), (2, .int aq), (3, .int bq)]) hx hb dX9_join_317 hl (k := 1) rfl rfl (by decide) rfl (fun ls hl => ?_)
                                      refine lv_goto (tgt := 237) hx hb dX9_join_320 (by decide) ?_
                                      exact ih237 (x5_237 + 1) caContents_237 caContentMany_237 fl237 _ _ _ ho237 S e_y e_aWorlds e_aInWorld e_aKind e_aSize e_aMarks e_aSeed e_aContents e_aContentMany e_aRow e_aBits e_aLayerSize e_aLayerCame e_aRest e_aRestMany e_aCome e_aRivals e_aGone e_aOrder e_aOffAt e_aIsOff e_aAlone e_aKept fr (lv_sub hl [0, 2, 3, 4, 5, 6] rfl)
                                    · have ho237 := itF b282 ho237
                                      refine lv_aload_n hx hb dX9_join_285 rfl (lv_at hl 3 rfl) ?_
                                      refine q_get hx hb hts in_X9 hown S m_y e_y (C := RX9) (T := TX9) (N := 23) rfl 6 (by decide) rfl (hts (.fieldLink RX9 29 "SieveCabinetModel" "contents" "[J") (by decide +kernel)) dX9_join_286 ?_
                                      refine lv_iload hx hb dX9_join_289 (lv_at hl 2 rfl) ?_
                                      refine lv_sipush (v := (1000 : Int32)) hx hb dX9_join_291 (by decide) ?_
                                      refine lv_imul hx hb dX9_join_294 ?_
                                      refine lv_aload_n hx hb dX9_join_295 rfl (lv_at hl 3 rfl) ?_
                                      refine q_get hx hb hts in_X9 hown S m_y e_y (C := RX9) (T := TX9) (N := 23) rfl 7 (by decide) rfl (hts (.fieldLink RX9 32 "SieveCabinetModel" "contentMany" "[I") (by decide +kernel)) dX9_join_296 ?_
                                      refine lv_iload hx hb dX9_join_299 (lv_at hl 2 rfl) ?_
                                      obtain ⟨hi301, ho237⟩ := ckx ho237
                                      refine q_iald hx hb S m_aContentMany e_aContentMany hi301 dX9_join_301 ?_
                                      refine lv_iadd hx hb dX9_join_302 ?_
                                      refine lv_lload hx hb dX9_join_303 (lv_at hl 0 rfl) ?_
                                      obtain ⟨hi305, ho237⟩ := ckx ho237
                                      refine k_last hx hb S m_aContents e_aContents hi305 dX9_join_305 (fun f37 ef37 H locs S => ?_)
                                      have e_aContents := up_self ef37
                                      have fr : ∀ b, b ∈ L → b ≠ y → b ≠ aKind → b ≠ aSize → b ≠ aMarks → b ≠ aSeed → b ≠ aContents → b ≠ aContentMany → b ≠ aRow → b ≠ aRestMany → f37 b = f b := fun b mb nb0 nb1 nb2 nb3 nb4 nb5 nb6 nb7 nb8 => (up_ne ef37 nb5 rfl).trans (fr b mb nb0 nb1 nb2 nb3 nb4 nb5 nb6 nb7 nb8)
                                      refine lv_aload_n hx hb dX9_join_306 rfl (lv_at hl 3 rfl) ?_
                                      have e_y := (up_ne ef37 n_y_aContents e_y)
                                      refine q_get hx hb hts in_X9 hown S m_y e_y (C := RX9) (T := TX9) (N := 23) rfl 7 (by decide) rfl (hts (.fieldLink RX9 32 "SieveCabinetModel" "contentMany" "[I") (by decide +kernel)) dX9_join_307 ?_
                                      refine lv_iload hx hb dX9_join_310 (lv_at hl 2 rfl) ?_
                                      refine lv_dup2_11 hx hb dX9_join_312 rfl rfl ?_
                                      obtain ⟨hi313, ho237⟩ := ckx ho237
                                      have e_aContentMany := (up_ne ef37 n_aContentMany_aContents e_aContentMany)
                                      refine q_iald hx hb S m_aContentMany e_aContentMany hi313 dX9_join_313 ?_
                                      refine lv_iconst (v := (1 : Int32)) hx hb dX9_join_314 (by decide) ?_
                                      refine lv_iadd hx hb dX9_join_315 ?_
                                      obtain ⟨hi316, ho237⟩ := ckx ho237
                                      refine k_iast hx hb S m_aContentMany e_aContentMany hi316 dX9_join_316 (fun f38 ef38 H locs S => ?_)
                                      have e_aContentMany := up_self ef38
                                      have fr : ∀ b, b ∈ L → b ≠ y → b ≠ aKind → b ≠ aSize → b ≠ aMarks → b ≠ aSeed → b ≠ aContents → b ≠ aContentMany → b ≠ aRow → b ≠ aRestMany → f38 b = f b := fun b mb nb0 nb1 nb2 nb3 nb4 nb5 nb6 nb7 nb8 => (up_ne ef38 nb6 rfl).trans (fr b mb nb0 nb1 nb2 nb3 nb4 nb5 nb6 nb7 nb8)
                                      refine lv_iinc (v := (x5_237 + 1)) (lv' := [(5, .int (x5_237 + 1)), (6, .long y261), (4, .int z148.1), (0, .ref y), (1, .int ho), (2, .int aq), (3, .int bq)]) hx hb dX9_join_317 hl (k := 1) rfl rfl (by decide) rfl (fun ls hl => ?_)
                                      refine lv_goto (tgt := 237) hx hb dX9_join_320 (by decide) ?_
                                      have e_y := (up_ne ef38 n_y_aContentMany e_y)
                                      have e_aWorlds := (up_ne ef38 n_aWorlds_aContentMany (up_ne ef37 n_aWorlds_aContents e_aWorlds))
                                      have e_aInWorld := (up_ne ef38 n_aInWorld_aContentMany (up_ne ef37 n_aInWorld_aContents e_aInWorld))
                                      have e_aKind := (up_ne ef38 n_aKind_aContentMany (up_ne ef37 n_aKind_aContents e_aKind))
                                      have e_aSize := (up_ne ef38 n_aSize_aContentMany (up_ne ef37 n_aSize_aContents e_aSize))
                                      have e_aMarks := (up_ne ef38 n_aMarks_aContentMany (up_ne ef37 n_aMarks_aContents e_aMarks))
                                      have e_aSeed := (up_ne ef38 n_aSeed_aContentMany (up_ne ef37 n_aSeed_aContents e_aSeed))
                                      have e_aContents := (up_ne ef38 n_aContents_aContentMany e_aContents)
                                      have e_aRow := (up_ne ef38 n_aRow_aContentMany (up_ne ef37 n_aRow_aContents e_aRow))
                                      have e_aBits := (up_ne ef38 n_aBits_aContentMany (up_ne ef37 n_aBits_aContents e_aBits))
                                      have e_aLayerSize := (up_ne ef38 n_aLayerSize_aContentMany (up_ne ef37 n_aLayerSize_aContents e_aLayerSize))
                                      have e_aLayerCame := (up_ne ef38 n_aLayerCame_aContentMany (up_ne ef37 n_aLayerCame_aContents e_aLayerCame))
                                      have e_aRest := (up_ne ef38 n_aRest_aContentMany (up_ne ef37 n_aRest_aContents e_aRest))
                                      have e_aRestMany := (up_ne ef38 n_aRestMany_aContentMany (up_ne ef37 n_aRestMany_aContents e_aRestMany))
                                      have e_aCome := (up_ne ef38 n_aCome_aContentMany (up_ne ef37 n_aCome_aContents e_aCome))
                                      have e_aRivals := (up_ne ef38 n_aRivals_aContentMany (up_ne ef37 n_aRivals_aContents e_aRivals))
                                      have e_aGone := (up_ne ef38 n_aGone_aContentMany (up_ne ef37 n_aGone_aContents e_aGone))
                                      have e_aOrder := (up_ne ef38 n_aOrder_aContentMany (up_ne ef37 n_aOrder_aContents e_aOrder))
                                      have e_aOffAt := (up_ne ef38 n_aOffAt_aContentMany (up_ne ef37 n_aOffAt_aContents e_aOffAt))
                                      have e_aIsOff := (up_ne ef38 n_aIsOff_aContentMany (up_ne ef37 n_aIsOff_aContents e_aIsOff))
                                      have e_aAlone := (up_ne ef38 n_aAlone_aContentMany (up_ne ef37 n_aAlone_aContents e_aAlone))
                                      have e_aKept := (up_ne ef38 n_aKept_aContentMany (up_ne ef37 n_aKept_aContents e_aKept))
                                      exact ih237 (x5_237 + 1) (vp_updL caContents_237 (Int32.toNatClampNeg ((z148.1 * (1000 : Int32)) + (caContentMany_237 (Int32.toNatClampNeg z148.1)))) y261) (upd caContentMany_237 (Int32.toNatClampNeg z148.1) ((caContentMany_237 (Int32.toNatClampNeg z148.1)) + (1 : Int32))) f38 _ _ _ ho237 S e_y e_aWorlds e_aInWorld e_aKind e_aSize e_aMarks e_aSeed e_aContents e_aContentMany e_aRow e_aBits e_aLayerSize e_aLayerCame e_aRest e_aRestMany e_aCome e_aRivals e_aGone e_aOrder e_aOffAt e_aIsOff e_aAlone e_aKept fr (lv_sub hl [0, 2, 3, 4, 5, 6] rfl)
                            exact LP237 FU (0 : Int32) vContents z148.2.2.2.2.2.2.1 fl156 _ _ _ ho237 S e_y e_aWorlds e_aInWorld e_aKind e_aSize e_aMarks e_aSeed e_aContents e_aContentMany e_aRow e_aBits e_aLayerSize e_aLayerCame e_aRest e_aRestMany e_aCome e_aRivals e_aGone e_aOrder e_aOffAt e_aIsOff e_aAlone e_aKept fr (lv_sub hl [0, 1, 2, 3, 4, 5] rfl)
                          have LP156 : ∀ (fu : Nat) (x5_156 : Int32) (caRow_156 : Nat → Int32) (fl156 : Nat → va_E) (H : Heap) (locs : List Loc) (ls : Array Slot), (mX9_join_L156 ho aq bq z148) fu x5_156 caRow_156 = some o156 → PS D g (va_A (va_pl L f) szz) s.heap s L fl156 H locs → fl156 y = .inr (7, [.ref aWorlds, .ref aInWorld, .ref aKind, .ref aSize, .ref aMarks, .ref aSeed, .ref aContents, .ref aContentMany, .ref aRow, .ref aBits, .ref aLayerSize, .ref aLayerCame, .ref aRest, .ref aRestMany, .int z148.2.1, .ref aCome, .ref aRivals, .ref aGone, .ref aOrder, .ref aOffAt, .ref aIsOff, .ref aAlone, .ref aKept]) → fl156 aWorlds = .inl (g 1, 8000, .inr (.inl vWorlds)) → fl156 aInWorld = .inl (g 0, 8, .inl vInWorld) → fl156 aKind = .inl (g 0, 30, .inl z148.2.2.1) → fl156 aSize = .inl (g 0, 30, .inl z148.2.2.2.1) → fl156 aMarks = .inl (g 0, 30, .inl z148.2.2.2.2.1) → fl156 aSeed = .inl (g 0, 30, .inl z148.2.2.2.2.2.1) → fl156 aContents = .inl (g 1, 30000, .inr (.inl vContents)) → fl156 aContentMany = .inl (g 0, 30, .inl z148.2.2.2.2.2.2.1) → fl156 aRow = .inl (g 0, 122880, .inl caRow_156) → fl156 aBits = .inl (g 0, 76800, .inl vBits) → fl156 aLayerSize = .inl (g 0, 600, .inl vLayerSize) → fl156 aLayerCame = .inl (g 0, 600, .inl vLayerCame) → fl156 aRest = .inl (g 1, 30000, .inr (.inl vRest)) → fl156 aRestMany = .inl (g 0, 30, .inl z148.2.2.2.2.2.2.2.2) → fl156 aCome = .inl (g 1, 1000, .inr (.inl vCome)) → fl156 aRivals = .inl (g 1, 1000, .inr (.inl vRivals)) → fl156 aGone = .inl (g 1, 1000, .inr (.inl vGone)) → fl156 aOrder = .inl (g 0, 1000, .inl vOrder) → fl156 aOffAt = .inl (g 0, 1000, .inl vOffAt) → fl156 aIsOff = .inl (g 2, 1000, .inl vIsOff) → fl156 aAlone = .inl (g 0, 4096, .inl vAlone) → fl156 aKept = .inl (g 0, 4096, .inl vKept) → (∀ b, b ∈ L → b ≠ y → b ≠ aKind → b ≠ aSize → b ≠ aMarks → b ≠ aSeed → b ≠ aContents → b ≠ aContentMany → b ≠ aRow → b ≠ aRestMany → fl156 b = f b) → lv_has ls 8 [(5, .int x5_156), (4, .int z148.1), (0, .ref y), (1, .int ho), (2, .int aq), (3, .int bq)] → W p l e { frames := 1, cells := 0, slots := 0, locals := 26 } s m [.ref y, .int ho, .int aq, .int bq].toArray below meth c H locs 0 0 QQ (F0 m 156 ls []) := by
                            intro fu
                            induction fu with
                            | zero => intro x5_156 caRow_156 fl156 H locs ls ho156 S e_y e_aWorlds e_aInWorld e_aKind e_aSize e_aMarks e_aSeed e_aContents e_aContentMany e_aRow e_aBits e_aLayerSize e_aLayerCame e_aRest e_aRestMany e_aCome e_aRivals e_aGone e_aOrder e_aOffAt e_aIsOff e_aAlone e_aKept fr hl; exact no_some ho156
                            | succ fu ih156 =>
                              intro x5_156 caRow_156 fl156 H locs ls ho156 S e_y e_aWorlds e_aInWorld e_aKind e_aSize e_aMarks e_aSeed e_aContents e_aContentMany e_aRow e_aBits e_aLayerSize e_aLayerCame e_aRest e_aRestMany e_aCome e_aRivals e_aGone e_aOrder e_aOffAt e_aIsOff e_aAlone e_aKept fr hl
                              rw [mX9_join_L156] at ho156
                              refine lv_iload hx hb dX9_join_156 (lv_at hl 0 rfl) ?_
                              refine lv_aload_n hx hb dX9_join_158 rfl (lv_at hl 2 rfl) ?_
                              refine q_get hx hb hts in_X9 hown S m_y e_y (C := RX9) (T := TX9) (N := 23) rfl 3 (by decide) rfl (hts (.fieldLink RX9 20 "SieveCabinetModel" "size" "[I") (by decide +kernel)) dX9_join_159 ?_
                              refine lv_iload_n hx hb dX9_join_162 rfl (lv_at hl 4 rfl) ?_
                              obtain ⟨hi163, ho156⟩ := ckx ho156
                              refine q_iald hx hb S m_aSize e_aSize hi163 dX9_join_163 ?_
                              refine lv_icmp_ge (tgt := 234) hx hb dX9_join_164 (by decide) (fun b164 => ?_) (fun b164 => ?_)
                              · have ho156 := itT b164 ho156
                                obtain rfl := Option.some.inj ho156
                                exact EX156 fl156 _ _ _ S e_y e_aWorlds e_aInWorld e_aKind e_aSize e_aMarks e_aSeed e_aContents e_aContentMany e_aRow e_aBits e_aLayerSize e_aLayerCame e_aRest e_aRestMany e_aCome e_aRivals e_aGone e_aOrder e_aOffAt e_aIsOff e_aAlone e_aKept fr (lv_sub hl [1, 2, 3, 4, 5] rfl)
                              · have ho156 := itF b164 ho156
                                refine lv_aload_n hx hb dX9_join_167 rfl (lv_at hl 2 rfl) ?_
                                refine q_get hx hb hts in_X9 hown S m_y e_y (C := RX9) (T := TX9) (N := 23) rfl 8 (by decide) rfl (hts (.fieldLink RX9 36 "SieveCabinetModel" "row" "[I") (by decide +kernel)) dX9_join_168 ?_
                                refine lv_iload_n hx hb dX9_join_171 rfl (lv_at hl 4 rfl) ?_
                                refine lv_sipush (v := (4096 : Int32)) hx hb dX9_join_172 (by decide) ?_
                                refine lv_imul hx hb dX9_join_175 ?_
                                refine lv_iload hx hb dX9_join_176 (lv_at hl 0 rfl) ?_
                                refine lv_iadd hx hb dX9_join_178 ?_
                                obtain ⟨hi179, ho156⟩ := ckx ho156
                                refine q_iald hx hb S m_aRow e_aRow hi179 dX9_join_179 ?_
                                refine lv_topi (fun y180 ey180 => ?_)
                                have ho156 := lt_some ho156 ey180
                                refine lv_istore (lv' := [(6, .int y180), (5, .int x5_156), (4, .int z148.1), (0, .ref y), (1, .int ho), (2, .int aq), (3, .int bq)]) hx hb dX9_join_180 hl (by decide) rfl (fun ls hl => ?_)
                                refine lv_aload_n hx hb dX9_join_182 rfl (lv_at hl 3 rfl) ?_
                                refine q_get hx hb hts in_X9 hown S m_y e_y (C := RX9) (T := TX9) (N := 23) rfl 8 (by decide) rfl (hts (.fieldLink RX9 36 "SieveCabinetModel" "row" "[I") (by decide +kernel)) dX9_join_183 ?_
                                refine lv_iload_n hx hb dX9_join_186 rfl (lv_at hl 6 rfl) ?_
                                refine lv_sipush (v := (4096 : Int32)) hx hb dX9_join_187 (by decide) ?_
                                refine lv_imul hx hb dX9_join_190 ?_
                                refine lv_iload hx hb dX9_join_191 (lv_at hl 1 rfl) ?_
                                refine lv_iadd hx hb dX9_join_193 ?_
                                obtain ⟨hi194, ho156⟩ := ckx ho156
                                refine q_iald hx hb S m_aRow e_aRow hi194 dX9_join_194 ?_
                                refine lv_topi (fun y195 ey195 => ?_)
                                have ho156 := lt_some ho156 ey195
                                refine lv_istore (lv' := [(7, .int y195), (6, .int y180), (5, .int x5_156), (4, .int z148.1), (0, .ref y), (1, .int ho), (2, .int aq), (3, .int bq)]) hx hb dX9_join_195 hl (by decide) rfl (fun ls hl => ?_)
                                refine lv_aload_n hx hb dX9_join_197 rfl (lv_at hl 4 rfl) ?_
                                refine q_get hx hb hts in_X9 hown S m_y e_y (C := RX9) (T := TX9) (N := 23) rfl 8 (by decide) rfl (hts (.fieldLink RX9 36 "SieveCabinetModel" "row" "[I") (by decide +kernel)) dX9_join_198 ?_
                                refine lv_iload hx hb dX9_join_201 (lv_at hl 3 rfl) ?_
                                refine lv_sipush (v := (4096 : Int32)) hx hb dX9_join_203 (by decide) ?_
                                refine lv_imul hx hb dX9_join_206 ?_
                                refine lv_iload hx hb dX9_join_207 (lv_at hl 2 rfl) ?_
                                refine lv_iadd hx hb dX9_join_209 ?_
                                refine lv_iload_n hx hb dX9_join_210 rfl (lv_at hl 5 rfl) ?_
                                refine lv_if_ne (tgt := 222) hx hb dX9_join_211 (by decide) (fun b211 => ?_) (fun b211 => ?_)
                                · have ho156 := itF b211 ho156
                                  refine lv_iload hx hb dX9_join_222 (lv_at hl 1 rfl) ?_
                                  refine lv_iload hx hb dX9_join_224 (lv_at hl 0 rfl) ?_
                                  refine lv_iand hx hb dX9_join_226 ?_
                                  obtain ⟨hi227, ho156⟩ := ckx ho156
                                  refine k_iast hx hb S m_aRow e_aRow hi227 dX9_join_227 (fun f39 ef39 H locs S => ?_)
                                  have e_aRow := up_self ef39
                                  have fr : ∀ b, b ∈ L → b ≠ y → b ≠ aKind → b ≠ aSize → b ≠ aMarks → b ≠ aSeed → b ≠ aContents → b ≠ aContentMany → b ≠ aRow → b ≠ aRestMany → f39 b = f b := fun b mb nb0 nb1 nb2 nb3 nb4 nb5 nb6 nb7 nb8 => (up_ne ef39 nb7 rfl).trans (fr b mb nb0 nb1 nb2 nb3 nb4 nb5 nb6 nb7 nb8)
                                  refine lv_iinc (v := (x5_156 + 1)) (lv' := [(5, .int (x5_156 + 1)), (7, .int y195), (6, .int y180), (4, .int z148.1), (0, .ref y), (1, .int ho), (2, .int aq), (3, .int bq)]) hx hb dX9_join_228 hl (k := 2) rfl rfl (by decide) rfl (fun ls hl => ?_)
                                  refine lv_goto (tgt := 156) hx hb dX9_join_231 (by decide) ?_
                                  have e_y := (up_ne ef39 n_y_aRow e_y)
                                  have e_aWorlds := (up_ne ef39 n_aWorlds_aRow e_aWorlds)
                                  have e_aInWorld := (up_ne ef39 n_aInWorld_aRow e_aInWorld)
                                  have e_aKind := (up_ne ef39 n_aKind_aRow e_aKind)
                                  have e_aSize := (up_ne ef39 n_aSize_aRow e_aSize)
                                  have e_aMarks := (up_ne ef39 n_aMarks_aRow e_aMarks)
                                  have e_aSeed := (up_ne ef39 n_aSeed_aRow e_aSeed)
                                  have e_aContents := (up_ne ef39 n_aContents_aRow e_aContents)
                                  have e_aContentMany := (up_ne ef39 n_aContentMany_aRow e_aContentMany)
                                  have e_aBits := (up_ne ef39 n_aBits_aRow e_aBits)
                                  have e_aLayerSize := (up_ne ef39 n_aLayerSize_aRow e_aLayerSize)
                                  have e_aLayerCame := (up_ne ef39 n_aLayerCame_aRow e_aLayerCame)
                                  have e_aRest := (up_ne ef39 n_aRest_aRow e_aRest)
                                  have e_aRestMany := (up_ne ef39 n_aRestMany_aRow e_aRestMany)
                                  have e_aCome := (up_ne ef39 n_aCome_aRow e_aCome)
                                  have e_aRivals := (up_ne ef39 n_aRivals_aRow e_aRivals)
                                  have e_aGone := (up_ne ef39 n_aGone_aRow e_aGone)
                                  have e_aOrder := (up_ne ef39 n_aOrder_aRow e_aOrder)
                                  have e_aOffAt := (up_ne ef39 n_aOffAt_aRow e_aOffAt)
                                  have e_aIsOff := (up_ne ef39 n_aIsOff_aRow e_aIsOff)
                                  have e_aAlone := (up_ne ef39 n_aAlone_aRow e_aAlone)
                                  have e_aKept := (up_ne ef39 n_aKept_aRow e_aKept)
                                  exact ih156 (x5_156 + 1) (upd caRow_156 (Int32.toNatClampNeg ((z148.1 * (4096 : Int32)) + x5_156)) (y180 &&& y195)) f39 _ _ _ ho156 S e_y e_aWorlds e_aInWorld e_aKind e_aSize e_aMarks e_aSeed e_aContents e_aContentMany e_aRow e_aBits e_aLayerSize e_aLayerCame e_aRest e_aRestMany e_aCome e_aRivals e_aGone e_aOrder e_aOffAt e_aIsOff e_aAlone e_aKept fr (lv_sub hl [0, 3, 4, 5, 6, 7] rfl)
                                · have ho156 := itT b211 ho156
                                  refine lv_iload hx hb dX9_join_214 (lv_at hl 1 rfl) ?_
                                  refine lv_iload hx hb dX9_join_216 (lv_at hl 0 rfl) ?_
                                  refine lv_ior hx hb dX9_join_218 ?_
                                  refine lv_goto (tgt := 227) hx hb dX9_join_219 (by decide) ?_
                                  obtain ⟨hi227, ho156⟩ := ckx ho156
                                  refine k_iast hx hb S m_aRow e_aRow hi227 dX9_join_227 (fun f40 ef40 H locs S => ?_)
                                  have e_aRow := up_self ef40
                                  have fr : ∀ b, b ∈ L → b ≠ y → b ≠ aKind → b ≠ aSize → b ≠ aMarks → b ≠ aSeed → b ≠ aContents → b ≠ aContentMany → b ≠ aRow → b ≠ aRestMany → f40 b = f b := fun b mb nb0 nb1 nb2 nb3 nb4 nb5 nb6 nb7 nb8 => (up_ne ef40 nb7 rfl).trans (fr b mb nb0 nb1 nb2 nb3 nb4 nb5 nb6 nb7 nb8)
                                  refine lv_iinc (v := (x5_156 + 1)) (lv' := [(5, .int (x5_156 + 1)), (7, .int y195), (6, .int y180), (4, .int z148.1), (0, .ref y), (1, .int ho), (2, .int aq), (3, .int bq)]) hx hb dX9_join_228 hl (k := 2) rfl rfl (by decide) rfl (fun ls hl => ?_)
                                  refine lv_goto (tgt := 156) hx hb dX9_join_231 (by decide) ?_
                                  have e_y := (up_ne ef40 n_y_aRow e_y)
                                  have e_aWorlds := (up_ne ef40 n_aWorlds_aRow e_aWorlds)
                                  have e_aInWorld := (up_ne ef40 n_aInWorld_aRow e_aInWorld)
                                  have e_aKind := (up_ne ef40 n_aKind_aRow e_aKind)
                                  have e_aSize := (up_ne ef40 n_aSize_aRow e_aSize)
                                  have e_aMarks := (up_ne ef40 n_aMarks_aRow e_aMarks)
                                  have e_aSeed := (up_ne ef40 n_aSeed_aRow e_aSeed)
                                  have e_aContents := (up_ne ef40 n_aContents_aRow e_aContents)
                                  have e_aContentMany := (up_ne ef40 n_aContentMany_aRow e_aContentMany)
                                  have e_aBits := (up_ne ef40 n_aBits_aRow e_aBits)
                                  have e_aLayerSize := (up_ne ef40 n_aLayerSize_aRow e_aLayerSize)
                                  have e_aLayerCame := (up_ne ef40 n_aLayerCame_aRow e_aLayerCame)
                                  have e_aRest := (up_ne ef40 n_aRest_aRow e_aRest)
                                  have e_aRestMany := (up_ne ef40 n_aRestMany_aRow e_aRestMany)
                                  have e_aCome := (up_ne ef40 n_aCome_aRow e_aCome)
                                  have e_aRivals := (up_ne ef40 n_aRivals_aRow e_aRivals)
                                  have e_aGone := (up_ne ef40 n_aGone_aRow e_aGone)
                                  have e_aOrder := (up_ne ef40 n_aOrder_aRow e_aOrder)
                                  have e_aOffAt := (up_ne ef40 n_aOffAt_aRow e_aOffAt)
                                  have e_aIsOff := (up_ne ef40 n_aIsOff_aRow e_aIsOff)
                                  have e_aAlone := (up_ne ef40 n_aAlone_aRow e_aAlone)
                                  have e_aKept := (up_ne ef40 n_aKept_aRow e_aKept)
                                  exact ih156 (x5_156 + 1) (upd caRow_156 (Int32.toNatClampNeg ((z148.1 * (4096 : Int32)) + x5_156)) (y180 ||| y195)) f40 _ _ _ ho156 S e_y e_aWorlds e_aInWorld e_aKind e_aSize e_aMarks e_aSeed e_aContents e_aContentMany e_aRow e_aBits e_aLayerSize e_aLayerCame e_aRest e_aRestMany e_aCome e_aRivals e_aGone e_aOrder e_aOffAt e_aIsOff e_aAlone e_aKept fr (lv_sub hl [0, 3, 4, 5, 6, 7] rfl)
                          exact LP156 FU (0 : Int32) z148.2.2.2.2.2.2.2.1 f25 _ _ _ ho156 S e_y e_aWorlds e_aInWorld e_aKind e_aSize e_aMarks e_aSeed e_aContents e_aContentMany e_aRow e_aBits e_aLayerSize e_aLayerCame e_aRest e_aRestMany e_aCome e_aRivals e_aGone e_aOrder e_aOffAt e_aIsOff e_aAlone e_aKept fr (lv_sub hl [0, 1, 2, 3, 4, 5] rfl)
                        · have hM := itF b122 hM
                          refine lv_bipush (v := (-4 : Int32)) hx hb dX9_join_125 (by decide) ?_
                          subst hQQ
                          exact q_reti (post := fun x L1 f1 => x = z.1 ∧ L1 = L ∧ (∀ b, b ∈ L → b ≠ y → b ≠ aKind → b ≠ aSize → b ≠ aMarks → b ≠ aSeed → b ≠ aContents → b ≠ aContentMany → b ≠ aRow → b ≠ aRestMany → f1 b = f b) ∧ f1 y = .inr (7, [.ref aWorlds, .ref aInWorld, .ref aKind, .ref aSize, .ref aMarks, .ref aSeed, .ref aContents, .ref aContentMany, .ref aRow, .ref aBits, .ref aLayerSize, .ref aLayerCame, .ref aRest, .ref aRestMany, .int z.2.1, .ref aCome, .ref aRivals, .ref aGone, .ref aOrder, .ref aOffAt, .ref aIsOff, .ref aAlone, .ref aKept]) ∧ f1 aKind = .inl (g 0, 30, .inl z.2.2.1) ∧ f1 aSize = .inl (g 0, 30, .inl z.2.2.2.1) ∧ f1 aMarks = .inl (g 0, 30, .inl z.2.2.2.2.1) ∧ f1 aSeed = .inl (g 0, 30, .inl z.2.2.2.2.2.1) ∧ f1 aContents = .inl (g 1, 30000, .inr (.inl z.2.2.2.2.2.2.1)) ∧ f1 aContentMany = .inl (g 0, 30, .inl z.2.2.2.2.2.2.2.1) ∧ f1 aRow = .inl (g 0, 122880, .inl z.2.2.2.2.2.2.2.2.1) ∧ f1 aRestMany = .inl (g 0, 30, .inl z.2.2.2.2.2.2.2.2.2)) hx hb hr hlk S dX9_join_127 (by decide) (by decide) (by have hz := Option.some.inj hM; subst hz; exact ⟨rfl, rfl, fr, e_y, e_aKind, e_aSize, e_aMarks, e_aSeed, e_aContents, e_aContentMany, e_aRow, e_aRestMany⟩)
                  · have hM := itF b87 hM
                    refine lv_bipush (v := (-2 : Int32)) hx hb dX9_join_90 (by decide) ?_
                    subst hQQ
                    exact q_reti (post := fun x L1 f1 => x = z.1 ∧ L1 = L ∧ (∀ b, b ∈ L → b ≠ y → b ≠ aKind → b ≠ aSize → b ≠ aMarks → b ≠ aSeed → b ≠ aContents → b ≠ aContentMany → b ≠ aRow → b ≠ aRestMany → f1 b = f b) ∧ f1 y = .inr (7, [.ref aWorlds, .ref aInWorld, .ref aKind, .ref aSize, .ref aMarks, .ref aSeed, .ref aContents, .ref aContentMany, .ref aRow, .ref aBits, .ref aLayerSize, .ref aLayerCame, .ref aRest, .ref aRestMany, .int z.2.1, .ref aCome, .ref aRivals, .ref aGone, .ref aOrder, .ref aOffAt, .ref aIsOff, .ref aAlone, .ref aKept]) ∧ f1 aKind = .inl (g 0, 30, .inl z.2.2.1) ∧ f1 aSize = .inl (g 0, 30, .inl z.2.2.2.1) ∧ f1 aMarks = .inl (g 0, 30, .inl z.2.2.2.2.1) ∧ f1 aSeed = .inl (g 0, 30, .inl z.2.2.2.2.2.1) ∧ f1 aContents = .inl (g 1, 30000, .inr (.inl z.2.2.2.2.2.2.1)) ∧ f1 aContentMany = .inl (g 0, 30, .inl z.2.2.2.2.2.2.2.1) ∧ f1 aRow = .inl (g 0, 122880, .inl z.2.2.2.2.2.2.2.2.1) ∧ f1 aRestMany = .inl (g 0, 30, .inl z.2.2.2.2.2.2.2.2.2)) hx hb hr hlk S dX9_join_92 (by decide) (by decide) (by have hz := Option.some.inj hM; subst hz; exact ⟨rfl, rfl, fr, e_y, e_aKind, e_aSize, e_aMarks, e_aSeed, e_aContents, e_aContentMany, e_aRow, e_aRestMany⟩)
        · have hM := itT b22 hM
          refine lv_iconst (v := (-1 : Int32)) hx hb dX9_join_25 (by decide) ?_
          subst hQQ
          exact q_reti (post := fun x L1 f1 => x = z.1 ∧ L1 = L ∧ (∀ b, b ∈ L → b ≠ y → b ≠ aKind → b ≠ aSize → b ≠ aMarks → b ≠ aSeed → b ≠ aContents → b ≠ aContentMany → b ≠ aRow → b ≠ aRestMany → f1 b = f b) ∧ f1 y = .inr (7, [.ref aWorlds, .ref aInWorld, .ref aKind, .ref aSize, .ref aMarks, .ref aSeed, .ref aContents, .ref aContentMany, .ref aRow, .ref aBits, .ref aLayerSize, .ref aLayerCame, .ref aRest, .ref aRestMany, .int z.2.1, .ref aCome, .ref aRivals, .ref aGone, .ref aOrder, .ref aOffAt, .ref aIsOff, .ref aAlone, .ref aKept]) ∧ f1 aKind = .inl (g 0, 30, .inl z.2.2.1) ∧ f1 aSize = .inl (g 0, 30, .inl z.2.2.2.1) ∧ f1 aMarks = .inl (g 0, 30, .inl z.2.2.2.2.1) ∧ f1 aSeed = .inl (g 0, 30, .inl z.2.2.2.2.2.1) ∧ f1 aContents = .inl (g 1, 30000, .inr (.inl z.2.2.2.2.2.2.1)) ∧ f1 aContentMany = .inl (g 0, 30, .inl z.2.2.2.2.2.2.2.1) ∧ f1 aRow = .inl (g 0, 122880, .inl z.2.2.2.2.2.2.2.2.1) ∧ f1 aRestMany = .inl (g 0, 30, .inl z.2.2.2.2.2.2.2.2.2)) hx hb hr hlk S dX9_join_26 (by decide) (by decide) (by have hz := Option.some.inj hM; subst hz; exact ⟨rfl, rfl, fr, e_y, e_aKind, e_aSize, e_aMarks, e_aSeed, e_aContents, e_aContentMany, e_aRow, e_aRestMany⟩)

def mX9_fold_L133 (oq : Int32) (z69 : Int32 × Int32 × (Nat → Int32) × (Nat → Int32) × (Nat → Int32) × (Nat → Int32) × (Nat → Int32) × (Nat → Int32) × (Nat → Int32)) : Nat → Int32 → (Nat → Int64) → Option (Int32 × (Nat → Int64))
  | 0, _, _ => none
  | fu + 1, x4_133, caContents_133 => if ix oq 30 = true then (if (z69.2.2.2.2.2.2.1 (Int32.toNatClampNeg oq)) ≤ x4_133 then (some (x4_133, caContents_133)) else (if ix ((oq * (1000 : Int32)) + x4_133) 30000 = true then (if ix ((z69.1 * (1000 : Int32)) + x4_133) 30000 = true then (mX9_fold_L133 oq z69 fu (x4_133 + 1) (vp_updL caContents_133 (Int32.toNatClampNeg ((z69.1 * (1000 : Int32)) + x4_133)) (caContents_133 (Int32.toNatClampNeg ((oq * (1000 : Int32)) + x4_133))))) else none) else none)) else none
def mX9_fold_L76 (oq : Int32) (y53 : Int32) (z69 : Int32 × Int32 × (Nat → Int32) × (Nat → Int32) × (Nat → Int32) × (Nat → Int32) × (Nat → Int32) × (Nat → Int32) × (Nat → Int32)) : Nat → Int32 → (Nat → Int32) → Option (Int32 × (Nat → Int32))
  | 0, _, _ => none
  | fu + 1, x4_76, caRow_76 => if y53 ≤ x4_76 then (some (x4_76, caRow_76)) else (if ix ((oq * (4096 : Int32)) + x4_76) 122880 = true then (if ix (((oq * (4096 : Int32)) + y53) + x4_76) 122880 = true then (if ix ((z69.1 * (4096 : Int32)) + x4_76) 122880 = true then (mX9_fold_L76 oq y53 z69 fu (x4_76 + 1) (upd caRow_76 (Int32.toNatClampNeg ((z69.1 * (4096 : Int32)) + x4_76)) ((caRow_76 (Int32.toNatClampNeg ((oq * (4096 : Int32)) + x4_76))) ||| (caRow_76 (Int32.toNatClampNeg (((oq * (4096 : Int32)) + y53) + x4_76)))))) else none) else none) else none)
def mX9_fold (many : Int32) (vKind : Nat → Int32) (vSize : Nat → Int32) (vMarks : Nat → Int32) (vSeed : Nat → Int32) (vContents : Nat → Int64) (vContentMany : Nat → Int32) (vRow : Nat → Int32) (vRestMany : Nat → Int32) (oq : Int32) : Option (Int32 × Int32 × (Nat → Int32) × (Nat → Int32) × (Nat → Int32) × (Nat → Int32) × (Nat → Int64) × (Nat → Int32) × (Nat → Int32) × (Nat → Int32)) := (mX9_is many oq).bind fun z2 => if z2 = 0 then (some ((-1 : Int32), many, vKind, vSize, vMarks, vSeed, vContents, vContentMany, vRow, vRestMany)) else (if ix oq 30 = true then (if (vKind (Int32.toNatClampNeg oq)) = 0 then (if ix oq 30 = true then (if (vSize (Int32.toNatClampNeg oq)) = (8 : Int32) then (some ((-2 : Int32), many, vKind, vSize, vMarks, vSeed, vContents, vContentMany, vRow, vRestMany)) else (if many = (30 : Int32) then (some ((-4 : Int32), many, vKind, vSize, vMarks, vSeed, vContents, vContentMany, vRow, vRestMany)) else (if ix oq 30 = true then (lt_ ((vSize (Int32.toNatClampNeg oq)) / (2 : Int32)) fun y53 => if ix oq 30 = true then (if ix oq 30 = true then ((mX9_begin many vKind vSize vMarks vSeed vContentMany vRow vRestMany (0 : Int32) y53 (vMarks (Int32.toNatClampNeg oq)) (vSeed (Int32.toNatClampNeg oq))).bind fun z69 => (mX9_fold_L76 oq y53 z69 FU (0 : Int32) z69.2.2.2.2.2.2.2.1).bind fun o76 => (mX9_fold_L133 oq z69 FU (0 : Int32) vContents).bind fun o133 => if ix oq 30 = true then (if ix z69.1 30 = true then (some (z69.1, z69.2.1, z69.2.2.1, z69.2.2.2.1, z69.2.2.2.2.1, z69.2.2.2.2.2.1, o133.2, (upd z69.2.2.2.2.2.2.1 (Int32.toNatClampNeg z69.1) (z69.2.2.2.2.2.2.1 (Int32.toNatClampNeg oq))), o76.2, z69.2.2.2.2.2.2.2.2)) else none) else none) else none) else none) else none))) else none) else (some ((-2 : Int32), many, vKind, vSize, vMarks, vSeed, vContents, vContentMany, vRow, vRestMany))) else none)
set_option maxHeartbeats 4000000 in
set_option maxRecDepth 100000 in
theorem k_X9_fold (l : Launch) (D : va_G) (g : Nat → ClassId) {L : List Nat} {f : Nat → va_E} {aAlone aBits aCome aContentMany aContents aGone aInWorld aIsOff aKept aKind aLayerCame aLayerSize aMarks aOffAt aOrder aRest aRestMany aRivals aRow aSeed aSize aWorlds y : Nat} {many : Int32} {vWorlds : Nat → Int64} {vInWorld : Nat → Int32} {vKind : Nat → Int32} {vSize : Nat → Int32} {vMarks : Nat → Int32} {vSeed : Nat → Int32} {vContents : Nat → Int64} {vContentMany : Nat → Int32} {vRow : Nat → Int32} {vBits : Nat → Int32} {vLayerSize : Nat → Int32} {vLayerCame : Nat → Int32} {vRest : Nat → Int64} {vRestMany : Nat → Int32} {vCome : Nat → Int64} {vRivals : Nat → Int64} {vGone : Nat → Int64} {vOrder : Nat → Int32} {vOffAt : Nat → Int32} {vIsOff : Nat → Int32} {vAlone : Nat → Int32} {vKept : Nat → Int32} {oq : Int32} {ρ : Nat → Nat × Nat} {z : Int32 × Int32 × (Nat → Int32) × (Nat → Int32) × (Nat → Int32) × (Nat → Int32) × (Nat → Int64) × (Nat → Int32) × (Nat → Int32) × (Nat → Int32)} (m_y : y ∈ L) (e_y : f y = .inr (7, [.ref aWorlds, .ref aInWorld, .ref aKind, .ref aSize, .ref aMarks, .ref aSeed, .ref aContents, .ref aContentMany, .ref aRow, .ref aBits, .ref aLayerSize, .ref aLayerCame, .ref aRest, .ref aRestMany, .int many, .ref aCome, .ref aRivals, .ref aGone, .ref aOrder, .ref aOffAt, .ref aIsOff, .ref aAlone, .ref aKept])) (m_aWorlds : aWorlds ∈ L) (e_aWorlds : f aWorlds = .inl (g 1, 8000, .inr (.inl vWorlds))) (m_aInWorld : aInWorld ∈ L) (e_aInWorld : f aInWorld = .inl (g 0, 8, .inl vInWorld)) (m_aKind : aKind ∈ L) (e_aKind : f aKind = .inl (g 0, 30, .inl vKind)) (m_aSize : aSize ∈ L) (e_aSize : f aSize = .inl (g 0, 30, .inl vSize)) (m_aMarks : aMarks ∈ L) (e_aMarks : f aMarks = .inl (g 0, 30, .inl vMarks)) (m_aSeed : aSeed ∈ L) (e_aSeed : f aSeed = .inl (g 0, 30, .inl vSeed)) (m_aContents : aContents ∈ L) (e_aContents : f aContents = .inl (g 1, 30000, .inr (.inl vContents))) (m_aContentMany : aContentMany ∈ L) (e_aContentMany : f aContentMany = .inl (g 0, 30, .inl vContentMany)) (m_aRow : aRow ∈ L) (e_aRow : f aRow = .inl (g 0, 122880, .inl vRow)) (m_aBits : aBits ∈ L) (e_aBits : f aBits = .inl (g 0, 76800, .inl vBits)) (m_aLayerSize : aLayerSize ∈ L) (e_aLayerSize : f aLayerSize = .inl (g 0, 600, .inl vLayerSize)) (m_aLayerCame : aLayerCame ∈ L) (e_aLayerCame : f aLayerCame = .inl (g 0, 600, .inl vLayerCame)) (m_aRest : aRest ∈ L) (e_aRest : f aRest = .inl (g 1, 30000, .inr (.inl vRest))) (m_aRestMany : aRestMany ∈ L) (e_aRestMany : f aRestMany = .inl (g 0, 30, .inl vRestMany)) (m_aCome : aCome ∈ L) (e_aCome : f aCome = .inl (g 1, 1000, .inr (.inl vCome))) (m_aRivals : aRivals ∈ L) (e_aRivals : f aRivals = .inl (g 1, 1000, .inr (.inl vRivals))) (m_aGone : aGone ∈ L) (e_aGone : f aGone = .inl (g 1, 1000, .inr (.inl vGone))) (m_aOrder : aOrder ∈ L) (e_aOrder : f aOrder = .inl (g 0, 1000, .inl vOrder)) (m_aOffAt : aOffAt ∈ L) (e_aOffAt : f aOffAt = .inl (g 0, 1000, .inl vOffAt)) (m_aIsOff : aIsOff ∈ L) (e_aIsOff : f aIsOff = .inl (g 2, 1000, .inl vIsOff)) (m_aAlone : aAlone ∈ L) (e_aAlone : f aAlone = .inl (g 0, 4096, .inl vAlone)) (m_aKept : aKept ∈ L) (e_aKept : f aKept = .inl (g 0, 4096, .inl vKept))  (r_aKind : ρ aKind = (500, 3)) (r_aSize : ρ aSize = (500, 4)) (r_aMarks : ρ aMarks = (500, 5)) (r_aSeed : ρ aSeed = (500, 6)) (r_aContents : ρ aContents = (500, 7)) (r_aContentMany : ρ aContentMany = (500, 8)) (r_aRest : ρ aRest = (500, 13)) (r_aRestMany : ρ aRestMany = (500, 14))  (hM : mX9_fold many vKind vSize vMarks vSeed vContents vContentMany vRow vRestMany oq = some z) : cI l yX9_fold wsX9_fold { frames := 1, cells := 0, slots := 0, locals := 26 } D g [.ref y, .int oq] L f 0 0 (fun x L1 f1 => x = z.1 ∧ L1 = L ∧ (∀ b, b ∈ L → b ≠ y → b ≠ aKind → b ≠ aSize → b ≠ aMarks → b ≠ aSeed → b ≠ aContents → b ≠ aContentMany → b ≠ aRow → b ≠ aRestMany → f1 b = f b) ∧ f1 y = .inr (7, [.ref aWorlds, .ref aInWorld, .ref aKind, .ref aSize, .ref aMarks, .ref aSeed, .ref aContents, .ref aContentMany, .ref aRow, .ref aBits, .ref aLayerSize, .ref aLayerCame, .ref aRest, .ref aRestMany, .int z.2.1, .ref aCome, .ref aRivals, .ref aGone, .ref aOrder, .ref aOffAt, .ref aIsOff, .ref aAlone, .ref aKept]) ∧ f1 aKind = .inl (g 0, 30, .inl z.2.2.1) ∧ f1 aSize = .inl (g 0, 30, .inl z.2.2.2.1) ∧ f1 aMarks = .inl (g 0, 30, .inl z.2.2.2.2.1) ∧ f1 aSeed = .inl (g 0, 30, .inl z.2.2.2.2.2.1) ∧ f1 aContents = .inl (g 1, 30000, .inr (.inl z.2.2.2.2.2.2.1)) ∧ f1 aContentMany = .inl (g 0, 30, .inl z.2.2.2.2.2.2.2.1) ∧ f1 aRow = .inl (g 0, 122880, .inl z.2.2.2.2.2.2.2.2.1) ∧ f1 aRestMany = .inl (g 0, 30, .inl z.2.2.2.2.2.2.2.2.2)) := by
  refine cI_of (cc := cX9_fold) (maxL := 5) (ret := (some .int)) (by decide) rfl (Nat.le_of_ble_eq_true rfl) ?_
  intro szz p e s m below meth c hx hb hr hml hts hown hlk hnm S ls hl
  have hl : lv_has ls 5 [(0, .ref y), (1, .int oq)] := hl
  have in_X9 : ∀ w ∈ wsX90, w ∈ wsX9_fold := by decide +kernel
  have n_aWorlds_y : aWorlds ≠ y := ne_ri e_y e_aWorlds
  have n_aWorlds_aKind : aWorlds ≠ aKind := ne_len e_aKind e_aWorlds (by decide)
  have n_aWorlds_aSize : aWorlds ≠ aSize := ne_len e_aSize e_aWorlds (by decide)
  have n_aWorlds_aMarks : aWorlds ≠ aMarks := ne_len e_aMarks e_aWorlds (by decide)
  have n_aWorlds_aSeed : aWorlds ≠ aSeed := ne_len e_aSeed e_aWorlds (by decide)
  have n_aWorlds_aContentMany : aWorlds ≠ aContentMany := ne_len e_aContentMany e_aWorlds (by decide)
  have n_aWorlds_aRow : aWorlds ≠ aRow := ne_len e_aRow e_aWorlds (by decide)
  have n_aWorlds_aRestMany : aWorlds ≠ aRestMany := ne_len e_aRestMany e_aWorlds (by decide)
  have n_aInWorld_y : aInWorld ≠ y := ne_ri e_y e_aInWorld
  have n_aInWorld_aKind : aInWorld ≠ aKind := ne_len e_aKind e_aInWorld (by decide)
  have n_aInWorld_aSize : aInWorld ≠ aSize := ne_len e_aSize e_aInWorld (by decide)
  have n_aInWorld_aMarks : aInWorld ≠ aMarks := ne_len e_aMarks e_aInWorld (by decide)
  have n_aInWorld_aSeed : aInWorld ≠ aSeed := ne_len e_aSeed e_aInWorld (by decide)
  have n_aInWorld_aContentMany : aInWorld ≠ aContentMany := ne_len e_aContentMany e_aInWorld (by decide)
  have n_aInWorld_aRow : aInWorld ≠ aRow := ne_len e_aRow e_aInWorld (by decide)
  have n_aInWorld_aRestMany : aInWorld ≠ aRestMany := ne_len e_aRestMany e_aInWorld (by decide)
  have n_aContents_y : aContents ≠ y := ne_ri e_y e_aContents
  have n_aContents_aKind : aContents ≠ aKind := ne_len e_aKind e_aContents (by decide)
  have n_aContents_aSize : aContents ≠ aSize := ne_len e_aSize e_aContents (by decide)
  have n_aContents_aMarks : aContents ≠ aMarks := ne_len e_aMarks e_aContents (by decide)
  have n_aContents_aSeed : aContents ≠ aSeed := ne_len e_aSeed e_aContents (by decide)
  have n_aContents_aContentMany : aContents ≠ aContentMany := ne_len e_aContentMany e_aContents (by decide)
  have n_aContents_aRow : aContents ≠ aRow := ne_len e_aRow e_aContents (by decide)
  have n_aContents_aRestMany : aContents ≠ aRestMany := ne_len e_aRestMany e_aContents (by decide)
  have n_aBits_y : aBits ≠ y := ne_ri e_y e_aBits
  have n_aBits_aKind : aBits ≠ aKind := ne_len e_aKind e_aBits (by decide)
  have n_aBits_aSize : aBits ≠ aSize := ne_len e_aSize e_aBits (by decide)
  have n_aBits_aMarks : aBits ≠ aMarks := ne_len e_aMarks e_aBits (by decide)
  have n_aBits_aSeed : aBits ≠ aSeed := ne_len e_aSeed e_aBits (by decide)
  have n_aBits_aContentMany : aBits ≠ aContentMany := ne_len e_aContentMany e_aBits (by decide)
  have n_aBits_aRow : aBits ≠ aRow := ne_len e_aRow e_aBits (by decide)
  have n_aBits_aRestMany : aBits ≠ aRestMany := ne_len e_aRestMany e_aBits (by decide)
  have n_aLayerSize_y : aLayerSize ≠ y := ne_ri e_y e_aLayerSize
  have n_aLayerSize_aKind : aLayerSize ≠ aKind := ne_len e_aKind e_aLayerSize (by decide)
  have n_aLayerSize_aSize : aLayerSize ≠ aSize := ne_len e_aSize e_aLayerSize (by decide)
  have n_aLayerSize_aMarks : aLayerSize ≠ aMarks := ne_len e_aMarks e_aLayerSize (by decide)
  have n_aLayerSize_aSeed : aLayerSize ≠ aSeed := ne_len e_aSeed e_aLayerSize (by decide)
  have n_aLayerSize_aContentMany : aLayerSize ≠ aContentMany := ne_len e_aContentMany e_aLayerSize (by decide)
  have n_aLayerSize_aRow : aLayerSize ≠ aRow := ne_len e_aRow e_aLayerSize (by decide)
  have n_aLayerSize_aRestMany : aLayerSize ≠ aRestMany := ne_len e_aRestMany e_aLayerSize (by decide)
  have n_aLayerCame_y : aLayerCame ≠ y := ne_ri e_y e_aLayerCame
  have n_aLayerCame_aKind : aLayerCame ≠ aKind := ne_len e_aKind e_aLayerCame (by decide)
  have n_aLayerCame_aSize : aLayerCame ≠ aSize := ne_len e_aSize e_aLayerCame (by decide)
  have n_aLayerCame_aMarks : aLayerCame ≠ aMarks := ne_len e_aMarks e_aLayerCame (by decide)
  have n_aLayerCame_aSeed : aLayerCame ≠ aSeed := ne_len e_aSeed e_aLayerCame (by decide)
  have n_aLayerCame_aContentMany : aLayerCame ≠ aContentMany := ne_len e_aContentMany e_aLayerCame (by decide)
  have n_aLayerCame_aRow : aLayerCame ≠ aRow := ne_len e_aRow e_aLayerCame (by decide)
  have n_aLayerCame_aRestMany : aLayerCame ≠ aRestMany := ne_len e_aRestMany e_aLayerCame (by decide)
  have n_aRest_y : aRest ≠ y := ne_ri e_y e_aRest
  have n_aRest_aKind : aRest ≠ aKind := ne_len e_aKind e_aRest (by decide)
  have n_aRest_aSize : aRest ≠ aSize := ne_len e_aSize e_aRest (by decide)
  have n_aRest_aMarks : aRest ≠ aMarks := ne_len e_aMarks e_aRest (by decide)
  have n_aRest_aSeed : aRest ≠ aSeed := ne_len e_aSeed e_aRest (by decide)
  have n_aRest_aContentMany : aRest ≠ aContentMany := ne_len e_aContentMany e_aRest (by decide)
  have n_aRest_aRow : aRest ≠ aRow := ne_len e_aRow e_aRest (by decide)
  have n_aRest_aRestMany : aRest ≠ aRestMany := ne_len e_aRestMany e_aRest (by decide)
  have n_aCome_y : aCome ≠ y := ne_ri e_y e_aCome
  have n_aCome_aKind : aCome ≠ aKind := ne_len e_aKind e_aCome (by decide)
  have n_aCome_aSize : aCome ≠ aSize := ne_len e_aSize e_aCome (by decide)
  have n_aCome_aMarks : aCome ≠ aMarks := ne_len e_aMarks e_aCome (by decide)
  have n_aCome_aSeed : aCome ≠ aSeed := ne_len e_aSeed e_aCome (by decide)
  have n_aCome_aContentMany : aCome ≠ aContentMany := ne_len e_aContentMany e_aCome (by decide)
  have n_aCome_aRow : aCome ≠ aRow := ne_len e_aRow e_aCome (by decide)
  have n_aCome_aRestMany : aCome ≠ aRestMany := ne_len e_aRestMany e_aCome (by decide)
  have n_aRivals_y : aRivals ≠ y := ne_ri e_y e_aRivals
  have n_aRivals_aKind : aRivals ≠ aKind := ne_len e_aKind e_aRivals (by decide)
  have n_aRivals_aSize : aRivals ≠ aSize := ne_len e_aSize e_aRivals (by decide)
  have n_aRivals_aMarks : aRivals ≠ aMarks := ne_len e_aMarks e_aRivals (by decide)
  have n_aRivals_aSeed : aRivals ≠ aSeed := ne_len e_aSeed e_aRivals (by decide)
  have n_aRivals_aContentMany : aRivals ≠ aContentMany := ne_len e_aContentMany e_aRivals (by decide)
  have n_aRivals_aRow : aRivals ≠ aRow := ne_len e_aRow e_aRivals (by decide)
  have n_aRivals_aRestMany : aRivals ≠ aRestMany := ne_len e_aRestMany e_aRivals (by decide)
  have n_aGone_y : aGone ≠ y := ne_ri e_y e_aGone
  have n_aGone_aKind : aGone ≠ aKind := ne_len e_aKind e_aGone (by decide)
  have n_aGone_aSize : aGone ≠ aSize := ne_len e_aSize e_aGone (by decide)
  have n_aGone_aMarks : aGone ≠ aMarks := ne_len e_aMarks e_aGone (by decide)
  have n_aGone_aSeed : aGone ≠ aSeed := ne_len e_aSeed e_aGone (by decide)
  have n_aGone_aContentMany : aGone ≠ aContentMany := ne_len e_aContentMany e_aGone (by decide)
  have n_aGone_aRow : aGone ≠ aRow := ne_len e_aRow e_aGone (by decide)
  have n_aGone_aRestMany : aGone ≠ aRestMany := ne_len e_aRestMany e_aGone (by decide)
  have n_aOrder_y : aOrder ≠ y := ne_ri e_y e_aOrder
  have n_aOrder_aKind : aOrder ≠ aKind := ne_len e_aKind e_aOrder (by decide)
  have n_aOrder_aSize : aOrder ≠ aSize := ne_len e_aSize e_aOrder (by decide)
  have n_aOrder_aMarks : aOrder ≠ aMarks := ne_len e_aMarks e_aOrder (by decide)
  have n_aOrder_aSeed : aOrder ≠ aSeed := ne_len e_aSeed e_aOrder (by decide)
  have n_aOrder_aContentMany : aOrder ≠ aContentMany := ne_len e_aContentMany e_aOrder (by decide)
  have n_aOrder_aRow : aOrder ≠ aRow := ne_len e_aRow e_aOrder (by decide)
  have n_aOrder_aRestMany : aOrder ≠ aRestMany := ne_len e_aRestMany e_aOrder (by decide)
  have n_aOffAt_y : aOffAt ≠ y := ne_ri e_y e_aOffAt
  have n_aOffAt_aKind : aOffAt ≠ aKind := ne_len e_aKind e_aOffAt (by decide)
  have n_aOffAt_aSize : aOffAt ≠ aSize := ne_len e_aSize e_aOffAt (by decide)
  have n_aOffAt_aMarks : aOffAt ≠ aMarks := ne_len e_aMarks e_aOffAt (by decide)
  have n_aOffAt_aSeed : aOffAt ≠ aSeed := ne_len e_aSeed e_aOffAt (by decide)
  have n_aOffAt_aContentMany : aOffAt ≠ aContentMany := ne_len e_aContentMany e_aOffAt (by decide)
  have n_aOffAt_aRow : aOffAt ≠ aRow := ne_len e_aRow e_aOffAt (by decide)
  have n_aOffAt_aRestMany : aOffAt ≠ aRestMany := ne_len e_aRestMany e_aOffAt (by decide)
  have n_aIsOff_y : aIsOff ≠ y := ne_ri e_y e_aIsOff
  have n_aIsOff_aKind : aIsOff ≠ aKind := ne_len e_aKind e_aIsOff (by decide)
  have n_aIsOff_aSize : aIsOff ≠ aSize := ne_len e_aSize e_aIsOff (by decide)
  have n_aIsOff_aMarks : aIsOff ≠ aMarks := ne_len e_aMarks e_aIsOff (by decide)
  have n_aIsOff_aSeed : aIsOff ≠ aSeed := ne_len e_aSeed e_aIsOff (by decide)
  have n_aIsOff_aContentMany : aIsOff ≠ aContentMany := ne_len e_aContentMany e_aIsOff (by decide)
  have n_aIsOff_aRow : aIsOff ≠ aRow := ne_len e_aRow e_aIsOff (by decide)
  have n_aIsOff_aRestMany : aIsOff ≠ aRestMany := ne_len e_aRestMany e_aIsOff (by decide)
  have n_aAlone_y : aAlone ≠ y := ne_ri e_y e_aAlone
  have n_aAlone_aKind : aAlone ≠ aKind := ne_len e_aKind e_aAlone (by decide)
  have n_aAlone_aSize : aAlone ≠ aSize := ne_len e_aSize e_aAlone (by decide)
  have n_aAlone_aMarks : aAlone ≠ aMarks := ne_len e_aMarks e_aAlone (by decide)
  have n_aAlone_aSeed : aAlone ≠ aSeed := ne_len e_aSeed e_aAlone (by decide)
  have n_aAlone_aContentMany : aAlone ≠ aContentMany := ne_len e_aContentMany e_aAlone (by decide)
  have n_aAlone_aRow : aAlone ≠ aRow := ne_len e_aRow e_aAlone (by decide)
  have n_aAlone_aRestMany : aAlone ≠ aRestMany := ne_len e_aRestMany e_aAlone (by decide)
  have n_aKept_y : aKept ≠ y := ne_ri e_y e_aKept
  have n_aKept_aKind : aKept ≠ aKind := ne_len e_aKind e_aKept (by decide)
  have n_aKept_aSize : aKept ≠ aSize := ne_len e_aSize e_aKept (by decide)
  have n_aKept_aMarks : aKept ≠ aMarks := ne_len e_aMarks e_aKept (by decide)
  have n_aKept_aSeed : aKept ≠ aSeed := ne_len e_aSeed e_aKept (by decide)
  have n_aKept_aContentMany : aKept ≠ aContentMany := ne_len e_aContentMany e_aKept (by decide)
  have n_aKept_aRow : aKept ≠ aRow := ne_len e_aRow e_aKept (by decide)
  have n_aKept_aRestMany : aKept ≠ aRestMany := ne_len e_aRestMany e_aKept (by decide)
  have n_y_aContentMany : y ≠ aContentMany := ne_ir e_aContentMany e_y
  have n_aKind_aContentMany : aKind ≠ aContentMany := role_ne r_aContentMany r_aKind (by decide)
  have n_aSize_aContentMany : aSize ≠ aContentMany := role_ne r_aContentMany r_aSize (by decide)
  have n_aMarks_aContentMany : aMarks ≠ aContentMany := role_ne r_aContentMany r_aMarks (by decide)
  have n_aSeed_aContentMany : aSeed ≠ aContentMany := role_ne r_aContentMany r_aSeed (by decide)
  have n_aRow_aContentMany : aRow ≠ aContentMany := ne_len e_aContentMany e_aRow (by decide)
  have n_aRestMany_aContentMany : aRestMany ≠ aContentMany := role_ne r_aContentMany r_aRestMany (by decide)
  have n_y_aContents : y ≠ aContents := ne_ir e_aContents e_y
  have n_aWorlds_aContents : aWorlds ≠ aContents := ne_len e_aContents e_aWorlds (by decide)
  have n_aInWorld_aContents : aInWorld ≠ aContents := ne_len e_aContents e_aInWorld (by decide)
  have n_aKind_aContents : aKind ≠ aContents := ne_len e_aContents e_aKind (by decide)
  have n_aSize_aContents : aSize ≠ aContents := ne_len e_aContents e_aSize (by decide)
  have n_aMarks_aContents : aMarks ≠ aContents := ne_len e_aContents e_aMarks (by decide)
  have n_aSeed_aContents : aSeed ≠ aContents := ne_len e_aContents e_aSeed (by decide)
  have n_aContentMany_aContents : aContentMany ≠ aContents := ne_len e_aContents e_aContentMany (by decide)
  have n_aRow_aContents : aRow ≠ aContents := ne_len e_aContents e_aRow (by decide)
  have n_aBits_aContents : aBits ≠ aContents := ne_len e_aContents e_aBits (by decide)
  have n_aLayerSize_aContents : aLayerSize ≠ aContents := ne_len e_aContents e_aLayerSize (by decide)
  have n_aLayerCame_aContents : aLayerCame ≠ aContents := ne_len e_aContents e_aLayerCame (by decide)
  have n_aRest_aContents : aRest ≠ aContents := role_ne r_aContents r_aRest (by decide)
  have n_aRestMany_aContents : aRestMany ≠ aContents := ne_len e_aContents e_aRestMany (by decide)
  have n_aCome_aContents : aCome ≠ aContents := ne_len e_aContents e_aCome (by decide)
  have n_aRivals_aContents : aRivals ≠ aContents := ne_len e_aContents e_aRivals (by decide)
  have n_aGone_aContents : aGone ≠ aContents := ne_len e_aContents e_aGone (by decide)
  have n_aOrder_aContents : aOrder ≠ aContents := ne_len e_aContents e_aOrder (by decide)
  have n_aOffAt_aContents : aOffAt ≠ aContents := ne_len e_aContents e_aOffAt (by decide)
  have n_aIsOff_aContents : aIsOff ≠ aContents := ne_len e_aContents e_aIsOff (by decide)
  have n_aAlone_aContents : aAlone ≠ aContents := ne_len e_aContents e_aAlone (by decide)
  have n_aKept_aContents : aKept ≠ aContents := ne_len e_aContents e_aKept (by decide)
  have n_y_aRow : y ≠ aRow := ne_ir e_aRow e_y
  have n_aKind_aRow : aKind ≠ aRow := ne_len e_aRow e_aKind (by decide)
  have n_aSize_aRow : aSize ≠ aRow := ne_len e_aRow e_aSize (by decide)
  have n_aMarks_aRow : aMarks ≠ aRow := ne_len e_aRow e_aMarks (by decide)
  have n_aSeed_aRow : aSeed ≠ aRow := ne_len e_aRow e_aSeed (by decide)
  have n_aContentMany_aRow : aContentMany ≠ aRow := ne_len e_aRow e_aContentMany (by decide)
  have n_aRestMany_aRow : aRestMany ≠ aRow := ne_len e_aRow e_aRestMany (by decide)
  have fr : ∀ b, b ∈ L → b ≠ y → b ≠ aKind → b ≠ aSize → b ≠ aMarks → b ≠ aSeed → b ≠ aContents → b ≠ aContentMany → b ≠ aRow → b ≠ aRestMany → f b = f b := fun _ _ _ _ _ _ _ _ _ _ _ => rfl
  unfold mX9_fold at hM
  refine W_gen (fun QQ hQQ => ?_)
  refine lv_aload_n hx hb dX9_fold_0 rfl (lv_at hl 0 rfl) ?_
  refine lv_iload_n hx hb dX9_fold_1 rfl (lv_at hl 1 rfl) ?_
  obtain ⟨z2, hz2, hM⟩ := bind_some hM
  refine q_vi (As := [.int oq]) (rest := []) ⟨hx, hb, hml, hown, hts⟩ (k_X9_is l D g m_y e_y hz2) (cwV 1 hts gX9_fold_X9_is rfl rfl rfl (by decide +kernel) ⟨Nat.le_of_ble_eq_true rfl, Nat.le_of_ble_eq_true rfl⟩) S m_y e_y (T := TX9) (N := 23) rfl rfl hl.1 rfl (Nat.le_of_ble_eq_true rfl) dX9_fold_2 ⟨Nat.le_of_ble_eq_true rfl, Nat.le_of_ble_eq_true rfl⟩ (fun r3 L1 f2 H locs S w2 => ?_)
  obtain ⟨ex2, eL, ef⟩ := w2
  rw [eL, ef] at S
  replace ex2 := ex2.symm
  subst ex2
  refine lv_if_ne (tgt := 10) hx hb dX9_fold_5 (by decide) (fun b5 => ?_) (fun b5 => ?_)
  · have hM := itF b5 hM
    refine lv_aload_n hx hb dX9_fold_10 rfl (lv_at hl 0 rfl) ?_
    refine q_get hx hb hts in_X9 hown S m_y e_y (C := RX9) (T := TX9) (N := 23) rfl 2 (by decide) rfl (hts (.fieldLink RX9 17 "SieveCabinetModel" "kind" "[I") (by decide +kernel)) dX9_fold_11 ?_
    refine lv_iload_n hx hb dX9_fold_14 rfl (lv_at hl 1 rfl) ?_
    obtain ⟨hi15, hM⟩ := ckx hM
    refine q_iald hx hb S m_aKind e_aKind hi15 dX9_fold_15 ?_
    refine lv_if_ne (tgt := 30) hx hb dX9_fold_16 (by decide) (fun b16 => ?_) (fun b16 => ?_)
    · have hM := itF b16 hM
      refine lv_bipush (v := (-2 : Int32)) hx hb dX9_fold_30 (by decide) ?_
      subst hQQ
      exact q_reti (post := fun x L1 f1 => x = z.1 ∧ L1 = L ∧ (∀ b, b ∈ L → b ≠ y → b ≠ aKind → b ≠ aSize → b ≠ aMarks → b ≠ aSeed → b ≠ aContents → b ≠ aContentMany → b ≠ aRow → b ≠ aRestMany → f1 b = f b) ∧ f1 y = .inr (7, [.ref aWorlds, .ref aInWorld, .ref aKind, .ref aSize, .ref aMarks, .ref aSeed, .ref aContents, .ref aContentMany, .ref aRow, .ref aBits, .ref aLayerSize, .ref aLayerCame, .ref aRest, .ref aRestMany, .int z.2.1, .ref aCome, .ref aRivals, .ref aGone, .ref aOrder, .ref aOffAt, .ref aIsOff, .ref aAlone, .ref aKept]) ∧ f1 aKind = .inl (g 0, 30, .inl z.2.2.1) ∧ f1 aSize = .inl (g 0, 30, .inl z.2.2.2.1) ∧ f1 aMarks = .inl (g 0, 30, .inl z.2.2.2.2.1) ∧ f1 aSeed = .inl (g 0, 30, .inl z.2.2.2.2.2.1) ∧ f1 aContents = .inl (g 1, 30000, .inr (.inl z.2.2.2.2.2.2.1)) ∧ f1 aContentMany = .inl (g 0, 30, .inl z.2.2.2.2.2.2.2.1) ∧ f1 aRow = .inl (g 0, 122880, .inl z.2.2.2.2.2.2.2.2.1) ∧ f1 aRestMany = .inl (g 0, 30, .inl z.2.2.2.2.2.2.2.2.2)) hx hb hr hlk S dX9_fold_32 (by decide) (by decide) (by have hz := Option.some.inj hM; subst hz; exact ⟨rfl, rfl, fr, e_y, e_aKind, e_aSize, e_aMarks, e_aSeed, e_aContents, e_aContentMany, e_aRow, e_aRestMany⟩)
    · have hM := itT b16 hM
      refine lv_aload_n hx hb dX9_fold_19 rfl (lv_at hl 0 rfl) ?_
      refine q_get hx hb hts in_X9 hown S m_y e_y (C := RX9) (T := TX9) (N := 23) rfl 3 (by decide) rfl (hts (.fieldLink RX9 20 "SieveCabinetModel" "size" "[I") (by decide +kernel)) dX9_fold_20 ?_
      refine lv_iload_n hx hb dX9_fold_23 rfl (lv_at hl 1 rfl) ?_
      obtain ⟨hi24, hM⟩ := ckx hM
      refine q_iald hx hb S m_aSize e_aSize hi24 dX9_fold_24 ?_
      refine lv_bipush (v := (8 : Int32)) hx hb dX9_fold_25 (by decide) ?_
      refine lv_icmp_ne (tgt := 33) hx hb dX9_fold_27 (by decide) (fun b27 => ?_) (fun b27 => ?_)
      · have hM := itF b27 hM
        refine lv_aload_n hx hb dX9_fold_33 rfl (lv_at hl 0 rfl) ?_
        refine q_get hx hb hts in_X9 hown S m_y e_y (C := RX9) (T := TX9) (N := 23) rfl 14 (by decide) rfl (hts (.fieldLink RX9 88 "SieveCabinetModel" "many" "I") (by decide +kernel)) dX9_fold_34 ?_
        refine lv_bipush (v := (30 : Int32)) hx hb dX9_fold_37 (by decide) ?_
        refine lv_icmp_ne (tgt := 45) hx hb dX9_fold_39 (by decide) (fun b39 => ?_) (fun b39 => ?_)
        · have hM := itF b39 hM
          refine lv_aload_n hx hb dX9_fold_45 rfl (lv_at hl 0 rfl) ?_
          refine q_get hx hb hts in_X9 hown S m_y e_y (C := RX9) (T := TX9) (N := 23) rfl 3 (by decide) rfl (hts (.fieldLink RX9 20 "SieveCabinetModel" "size" "[I") (by decide +kernel)) dX9_fold_46 ?_
          refine lv_iload_n hx hb dX9_fold_49 rfl (lv_at hl 1 rfl) ?_
          obtain ⟨hi50, hM⟩ := ckx hM
          refine q_iald hx hb S m_aSize e_aSize hi50 dX9_fold_50 ?_
          refine lv_iconst (v := (2 : Int32)) hx hb dX9_fold_51 (by decide) ?_
          refine lv_idiv hx hb dX9_fold_52 (by decide) ?_
          refine lv_topi (fun y53 ey53 => ?_)
          have hM := lt_some hM ey53
          refine lv_istore_n (lv' := [(2, .int y53), (0, .ref y), (1, .int oq)]) hx hb dX9_fold_53 rfl hl (by decide) rfl (fun ls hl => ?_)
          refine lv_aload_n hx hb dX9_fold_54 rfl (lv_at hl 1 rfl) ?_
          refine lv_iconst (v := (0 : Int32)) hx hb dX9_fold_55 (by decide) ?_
          refine lv_iload_n hx hb dX9_fold_56 rfl (lv_at hl 0 rfl) ?_
          refine lv_aload_n hx hb dX9_fold_57 rfl (lv_at hl 1 rfl) ?_
          refine q_get hx hb hts in_X9 hown S m_y e_y (C := RX9) (T := TX9) (N := 23) rfl 4 (by decide) rfl (hts (.fieldLink RX9 23 "SieveCabinetModel" "marks" "[I") (by decide +kernel)) dX9_fold_58 ?_
          refine lv_iload_n hx hb dX9_fold_61 rfl (lv_at hl 2 rfl) ?_
          obtain ⟨hi62, hM⟩ := ckx hM
          refine q_iald hx hb S m_aMarks e_aMarks hi62 dX9_fold_62 ?_
          refine lv_aload_n hx hb dX9_fold_63 rfl (lv_at hl 1 rfl) ?_
          refine q_get hx hb hts in_X9 hown S m_y e_y (C := RX9) (T := TX9) (N := 23) rfl 5 (by decide) rfl (hts (.fieldLink RX9 26 "SieveCabinetModel" "seed" "[I") (by decide +kernel)) dX9_fold_64 ?_
          refine lv_iload_n hx hb dX9_fold_67 rfl (lv_at hl 2 rfl) ?_
          obtain ⟨hi68, hM⟩ := ckx hM
          refine q_iald hx hb S m_aSeed e_aSeed hi68 dX9_fold_68 ?_
          obtain ⟨z69, hz69, hM⟩ := bind_some hM
          refine q_vi (As := [.int (0 : Int32), .int y53, .int (vMarks (Int32.toNatClampNeg oq)), .int (vSeed (Int32.toNatClampNeg oq))]) (rest := []) ⟨hx, hb, hml, hown, hts⟩ (k_X9_begin l D g m_y e_y m_aWorlds e_aWorlds m_aInWorld e_aInWorld m_aKind e_aKind m_aSize e_aSize m_aMarks e_aMarks m_aSeed e_aSeed m_aContents e_aContents m_aContentMany e_aContentMany m_aRow e_aRow m_aBits e_aBits m_aLayerSize e_aLayerSize m_aLayerCame e_aLayerCame m_aRest e_aRest m_aRestMany e_aRestMany m_aCome e_aCome m_aRivals e_aRivals m_aGone e_aGone m_aOrder e_aOrder m_aOffAt e_aOffAt m_aIsOff e_aIsOff m_aAlone e_aAlone m_aKept e_aKept r_aKind r_aSize r_aMarks r_aSeed r_aContentMany r_aRestMany hz69) (cwV 4 hts gX9_fold_X9_begin rfl rfl rfl (by decide +kernel) ⟨Nat.le_of_ble_eq_true rfl, Nat.le_of_ble_eq_true rfl⟩) S m_y e_y (T := TX9) (N := 23) rfl rfl hl.1 rfl (Nat.le_of_ble_eq_true rfl) dX9_fold_69 ⟨Nat.le_of_ble_eq_true rfl, Nat.le_of_ble_eq_true rfl⟩ (fun r6 L4 f5 H locs S w69 => ?_)
          obtain ⟨ex69, eL, fv69, E_y, E_aKind, E_aSize, E_aMarks, E_aSeed, E_aContentMany, E_aRow, E_aRestMany⟩ := w69
          rw [eL] at S
          have fr : ∀ b, b ∈ L → b ≠ y → b ≠ aKind → b ≠ aSize → b ≠ aMarks → b ≠ aSeed → b ≠ aContents → b ≠ aContentMany → b ≠ aRow → b ≠ aRestMany → f5 b = f b := fun b mb nb0 nb1 nb2 nb3 nb4 nb5 nb6 nb7 nb8 => (fv69 b mb nb0 nb1 nb2 nb3 nb4 nb6 nb7 nb8).trans (fr b mb nb0 nb1 nb2 nb3 nb4 nb5 nb6 nb7 nb8)
          have e_y : f5 y = .inr (7, [.ref aWorlds, .ref aInWorld, .ref aKind, .ref aSize, .ref aMarks, .ref aSeed, .ref aContents, .ref aContentMany, .ref aRow, .ref aBits, .ref aLayerSize, .ref aLayerCame, .ref aRest, .ref aRestMany, .int z69.2.1, .ref aCome, .ref aRivals, .ref aGone, .ref aOrder, .ref aOffAt, .ref aIsOff, .ref aAlone, .ref aKept]) := E_y
          have e_aKind : f5 aKind = .inl (g 0, 30, .inl z69.2.2.1) := E_aKind
          have e_aSize : f5 aSize = .inl (g 0, 30, .inl z69.2.2.2.1) := E_aSize
          have e_aMarks : f5 aMarks = .inl (g 0, 30, .inl z69.2.2.2.2.1) := E_aMarks
          have e_aSeed : f5 aSeed = .inl (g 0, 30, .inl z69.2.2.2.2.2.1) := E_aSeed
          have e_aContentMany : f5 aContentMany = .inl (g 0, 30, .inl z69.2.2.2.2.2.2.1) := E_aContentMany
          have e_aRow : f5 aRow = .inl (g 0, 122880, .inl z69.2.2.2.2.2.2.2.1) := E_aRow
          have e_aRestMany : f5 aRestMany = .inl (g 0, 30, .inl z69.2.2.2.2.2.2.2.2) := E_aRestMany
          replace ex69 := ex69.symm
          subst ex69
          refine lv_istore_n (lv' := [(3, .int z69.1), (2, .int y53), (0, .ref y), (1, .int oq)]) hx hb dX9_fold_72 rfl hl (by decide) rfl (fun ls hl => ?_)
          refine lv_iconst (v := (0 : Int32)) hx hb dX9_fold_73 (by decide) ?_
          refine lv_istore (lv' := [(4, .int (0 : Int32)), (3, .int z69.1), (2, .int y53), (0, .ref y), (1, .int oq)]) hx hb dX9_fold_74 hl (by decide) rfl (fun ls hl => ?_)
          have e_aWorlds := ((fv69 aWorlds m_aWorlds n_aWorlds_y n_aWorlds_aKind n_aWorlds_aSize n_aWorlds_aMarks n_aWorlds_aSeed n_aWorlds_aContentMany n_aWorlds_aRow n_aWorlds_aRestMany).trans e_aWorlds)
          have e_aInWorld := ((fv69 aInWorld m_aInWorld n_aInWorld_y n_aInWorld_aKind n_aInWorld_aSize n_aInWorld_aMarks n_aInWorld_aSeed n_aInWorld_aContentMany n_aInWorld_aRow n_aInWorld_aRestMany).trans e_aInWorld)
          have e_aContents := ((fv69 aContents m_aContents n_aContents_y n_aContents_aKind n_aContents_aSize n_aContents_aMarks n_aContents_aSeed n_aContents_aContentMany n_aContents_aRow n_aContents_aRestMany).trans e_aContents)
          have e_aBits := ((fv69 aBits m_aBits n_aBits_y n_aBits_aKind n_aBits_aSize n_aBits_aMarks n_aBits_aSeed n_aBits_aContentMany n_aBits_aRow n_aBits_aRestMany).trans e_aBits)
          have e_aLayerSize := ((fv69 aLayerSize m_aLayerSize n_aLayerSize_y n_aLayerSize_aKind n_aLayerSize_aSize n_aLayerSize_aMarks n_aLayerSize_aSeed n_aLayerSize_aContentMany n_aLayerSize_aRow n_aLayerSize_aRestMany).trans e_aLayerSize)
          have e_aLayerCame := ((fv69 aLayerCame m_aLayerCame n_aLayerCame_y n_aLayerCame_aKind n_aLayerCame_aSize n_aLayerCame_aMarks n_aLayerCame_aSeed n_aLayerCame_aContentMany n_aLayerCame_aRow n_aLayerCame_aRestMany).trans e_aLayerCame)
          have e_aRest := ((fv69 aRest m_aRest n_aRest_y n_aRest_aKind n_aRest_aSize n_aRest_aMarks n_aRest_aSeed n_aRest_aContentMany n_aRest_aRow n_aRest_aRestMany).trans e_aRest)
          have e_aCome := ((fv69 aCome m_aCome n_aCome_y n_aCome_aKind n_aCome_aSize n_aCome_aMarks n_aCome_aSeed n_aCome_aContentMany n_aCome_aRow n_aCome_aRestMany).trans e_aCome)
          have e_aRivals := ((fv69 aRivals m_aRivals n_aRivals_y n_aRivals_aKind n_aRivals_aSize n_aRivals_aMarks n_aRivals_aSeed n_aRivals_aContentMany n_aRivals_aRow n_aRivals_aRestMany).trans e_aRivals)
          have e_aGone := ((fv69 aGone m_aGone n_aGone_y n_aGone_aKind n_aGone_aSize n_aGone_aMarks n_aGone_aSeed n_aGone_aContentMany n_aGone_aRow n_aGone_aRestMany).trans e_aGone)
          have e_aOrder := ((fv69 aOrder m_aOrder n_aOrder_y n_aOrder_aKind n_aOrder_aSize n_aOrder_aMarks n_aOrder_aSeed n_aOrder_aContentMany n_aOrder_aRow n_aOrder_aRestMany).trans e_aOrder)
          have e_aOffAt := ((fv69 aOffAt m_aOffAt n_aOffAt_y n_aOffAt_aKind n_aOffAt_aSize n_aOffAt_aMarks n_aOffAt_aSeed n_aOffAt_aContentMany n_aOffAt_aRow n_aOffAt_aRestMany).trans e_aOffAt)
          have e_aIsOff := ((fv69 aIsOff m_aIsOff n_aIsOff_y n_aIsOff_aKind n_aIsOff_aSize n_aIsOff_aMarks n_aIsOff_aSeed n_aIsOff_aContentMany n_aIsOff_aRow n_aIsOff_aRestMany).trans e_aIsOff)
          have e_aAlone := ((fv69 aAlone m_aAlone n_aAlone_y n_aAlone_aKind n_aAlone_aSize n_aAlone_aMarks n_aAlone_aSeed n_aAlone_aContentMany n_aAlone_aRow n_aAlone_aRestMany).trans e_aAlone)
          have e_aKept := ((fv69 aKept m_aKept n_aKept_y n_aKept_aKind n_aKept_aSize n_aKept_aMarks n_aKept_aSeed n_aKept_aContentMany n_aKept_aRow n_aKept_aRestMany).trans e_aKept)
          obtain ⟨o76, ho76, hM⟩ := bind_some hM
          have EX76 : ∀ (fl76 : Nat → va_E) (H : Heap) (locs : List Loc) (ls : Array Slot), PS D g (va_A (va_pl L f) szz) s.heap s L fl76 H locs → fl76 y = .inr (7, [.ref aWorlds, .ref aInWorld, .ref aKind, .ref aSize, .ref aMarks, .ref aSeed, .ref aContents, .ref aContentMany, .ref aRow, .ref aBits, .ref aLayerSize, .ref aLayerCame, .ref aRest, .ref aRestMany, .int z69.2.1, .ref aCome, .ref aRivals, .ref aGone, .ref aOrder, .ref aOffAt, .ref aIsOff, .ref aAlone, .ref aKept]) → fl76 aWorlds = .inl (g 1, 8000, .inr (.inl vWorlds)) → fl76 aInWorld = .inl (g 0, 8, .inl vInWorld) → fl76 aKind = .inl (g 0, 30, .inl z69.2.2.1) → fl76 aSize = .inl (g 0, 30, .inl z69.2.2.2.1) → fl76 aMarks = .inl (g 0, 30, .inl z69.2.2.2.2.1) → fl76 aSeed = .inl (g 0, 30, .inl z69.2.2.2.2.2.1) → fl76 aContents = .inl (g 1, 30000, .inr (.inl vContents)) → fl76 aContentMany = .inl (g 0, 30, .inl z69.2.2.2.2.2.2.1) → fl76 aRow = .inl (g 0, 122880, .inl o76.2) → fl76 aBits = .inl (g 0, 76800, .inl vBits) → fl76 aLayerSize = .inl (g 0, 600, .inl vLayerSize) → fl76 aLayerCame = .inl (g 0, 600, .inl vLayerCame) → fl76 aRest = .inl (g 1, 30000, .inr (.inl vRest)) → fl76 aRestMany = .inl (g 0, 30, .inl z69.2.2.2.2.2.2.2.2) → fl76 aCome = .inl (g 1, 1000, .inr (.inl vCome)) → fl76 aRivals = .inl (g 1, 1000, .inr (.inl vRivals)) → fl76 aGone = .inl (g 1, 1000, .inr (.inl vGone)) → fl76 aOrder = .inl (g 0, 1000, .inl vOrder) → fl76 aOffAt = .inl (g 0, 1000, .inl vOffAt) → fl76 aIsOff = .inl (g 2, 1000, .inl vIsOff) → fl76 aAlone = .inl (g 0, 4096, .inl vAlone) → fl76 aKept = .inl (g 0, 4096, .inl vKept) → (∀ b, b ∈ L → b ≠ y → b ≠ aKind → b ≠ aSize → b ≠ aMarks → b ≠ aSeed → b ≠ aContents → b ≠ aContentMany → b ≠ aRow → b ≠ aRestMany → fl76 b = f b) → lv_has ls 5 [(3, .int z69.1), (0, .ref y), (1, .int oq)] → W p l e { frames := 1, cells := 0, slots := 0, locals := 26 } s m [.ref y, .int oq].toArray below meth c H locs 0 0 QQ (F0 m 130 ls []) := by
            intro fl76 H locs ls S e_y e_aWorlds e_aInWorld e_aKind e_aSize e_aMarks e_aSeed e_aContents e_aContentMany e_aRow e_aBits e_aLayerSize e_aLayerCame e_aRest e_aRestMany e_aCome e_aRivals e_aGone e_aOrder e_aOffAt e_aIsOff e_aAlone e_aKept fr hl
            refine lv_iconst (v := (0 : Int32)) hx hb dX9_fold_130 (by decide) ?_
            refine lv_istore (lv' := [(4, .int (0 : Int32)), (3, .int z69.1), (0, .ref y), (1, .int oq)]) hx hb dX9_fold_131 hl (by decide) rfl (fun ls hl => ?_)
            obtain ⟨o133, ho133, hM⟩ := bind_some hM
            have EX133 : ∀ (fl133 : Nat → va_E) (H : Heap) (locs : List Loc) (ls : Array Slot), PS D g (va_A (va_pl L f) szz) s.heap s L fl133 H locs → fl133 y = .inr (7, [.ref aWorlds, .ref aInWorld, .ref aKind, .ref aSize, .ref aMarks, .ref aSeed, .ref aContents, .ref aContentMany, .ref aRow, .ref aBits, .ref aLayerSize, .ref aLayerCame, .ref aRest, .ref aRestMany, .int z69.2.1, .ref aCome, .ref aRivals, .ref aGone, .ref aOrder, .ref aOffAt, .ref aIsOff, .ref aAlone, .ref aKept]) → fl133 aWorlds = .inl (g 1, 8000, .inr (.inl vWorlds)) → fl133 aInWorld = .inl (g 0, 8, .inl vInWorld) → fl133 aKind = .inl (g 0, 30, .inl z69.2.2.1) → fl133 aSize = .inl (g 0, 30, .inl z69.2.2.2.1) → fl133 aMarks = .inl (g 0, 30, .inl z69.2.2.2.2.1) → fl133 aSeed = .inl (g 0, 30, .inl z69.2.2.2.2.2.1) → fl133 aContents = .inl (g 1, 30000, .inr (.inl o133.2)) → fl133 aContentMany = .inl (g 0, 30, .inl z69.2.2.2.2.2.2.1) → fl133 aRow = .inl (g 0, 122880, .inl o76.2) → fl133 aBits = .inl (g 0, 76800, .inl vBits) → fl133 aLayerSize = .inl (g 0, 600, .inl vLayerSize) → fl133 aLayerCame = .inl (g 0, 600, .inl vLayerCame) → fl133 aRest = .inl (g 1, 30000, .inr (.inl vRest)) → fl133 aRestMany = .inl (g 0, 30, .inl z69.2.2.2.2.2.2.2.2) → fl133 aCome = .inl (g 1, 1000, .inr (.inl vCome)) → fl133 aRivals = .inl (g 1, 1000, .inr (.inl vRivals)) → fl133 aGone = .inl (g 1, 1000, .inr (.inl vGone)) → fl133 aOrder = .inl (g 0, 1000, .inl vOrder) → fl133 aOffAt = .inl (g 0, 1000, .inl vOffAt) → fl133 aIsOff = .inl (g 2, 1000, .inl vIsOff) → fl133 aAlone = .inl (g 0, 4096, .inl vAlone) → fl133 aKept = .inl (g 0, 4096, .inl vKept) → (∀ b, b ∈ L → b ≠ y → b ≠ aKind → b ≠ aSize → b ≠ aMarks → b ≠ aSeed → b ≠ aContents → b ≠ aContentMany → b ≠ aRow → b ≠ aRestMany → fl133 b = f b) → lv_has ls 5 [(3, .int z69.1), (0, .ref y), (1, .int oq)] → W p l e { frames := 1, cells := 0, slots := 0, locals := 26 } s m [.ref y, .int oq].toArray below meth c H locs 0 0 QQ (F0 m 176 ls []) := by
              intro fl133 H locs ls S e_y e_aWorlds e_aInWorld e_aKind e_aSize e_aMarks e_aSeed e_aContents e_aContentMany e_aRow e_aBits e_aLayerSize e_aLayerCame e_aRest e_aRestMany e_aCome e_aRivals e_aGone e_aOrder e_aOffAt e_aIsOff e_aAlone e_aKept fr hl
              refine lv_aload_n hx hb dX9_fold_176 rfl (lv_at hl 1 rfl) ?_
              refine q_get hx hb hts in_X9 hown S m_y e_y (C := RX9) (T := TX9) (N := 23) rfl 7 (by decide) rfl (hts (.fieldLink RX9 32 "SieveCabinetModel" "contentMany" "[I") (by decide +kernel)) dX9_fold_177 ?_
              refine lv_iload_n hx hb dX9_fold_180 rfl (lv_at hl 0 rfl) ?_
              refine lv_aload_n hx hb dX9_fold_181 rfl (lv_at hl 1 rfl) ?_
              refine q_get hx hb hts in_X9 hown S m_y e_y (C := RX9) (T := TX9) (N := 23) rfl 7 (by decide) rfl (hts (.fieldLink RX9 32 "SieveCabinetModel" "contentMany" "[I") (by decide +kernel)) dX9_fold_182 ?_
              refine lv_iload_n hx hb dX9_fold_185 rfl (lv_at hl 2 rfl) ?_
              obtain ⟨hi186, hM⟩ := ckx hM
              refine q_iald hx hb S m_aContentMany e_aContentMany hi186 dX9_fold_186 ?_
              obtain ⟨hi187, hM⟩ := ckx hM
              refine k_iast hx hb S m_aContentMany e_aContentMany hi187 dX9_fold_187 (fun f7 ef7 H locs S => ?_)
              have e_aContentMany := up_self ef7
              have fr : ∀ b, b ∈ L → b ≠ y → b ≠ aKind → b ≠ aSize → b ≠ aMarks → b ≠ aSeed → b ≠ aContents → b ≠ aContentMany → b ≠ aRow → b ≠ aRestMany → f7 b = f b := fun b mb nb0 nb1 nb2 nb3 nb4 nb5 nb6 nb7 nb8 => (up_ne ef7 nb6 rfl).trans (fr b mb nb0 nb1 nb2 nb3 nb4 nb5 nb6 nb7 nb8)
              refine lv_iload_n hx hb dX9_fold_188 rfl (lv_at hl 0 rfl) ?_
              have e_y := (up_ne ef7 n_y_aContentMany e_y)
              have e_aKind := (up_ne ef7 n_aKind_aContentMany e_aKind)
              have e_aSize := (up_ne ef7 n_aSize_aContentMany e_aSize)
              have e_aMarks := (up_ne ef7 n_aMarks_aContentMany e_aMarks)
              have e_aSeed := (up_ne ef7 n_aSeed_aContentMany e_aSeed)
              have e_aContents := (up_ne ef7 n_aContents_aContentMany e_aContents)
              have e_aRow := (up_ne ef7 n_aRow_aContentMany e_aRow)
              have e_aRestMany := (up_ne ef7 n_aRestMany_aContentMany e_aRestMany)
              subst hQQ
              exact q_reti (post := fun x L1 f1 => x = z.1 ∧ L1 = L ∧ (∀ b, b ∈ L → b ≠ y → b ≠ aKind → b ≠ aSize → b ≠ aMarks → b ≠ aSeed → b ≠ aContents → b ≠ aContentMany → b ≠ aRow → b ≠ aRestMany → f1 b = f b) ∧ f1 y = .inr (7, [.ref aWorlds, .ref aInWorld, .ref aKind, .ref aSize, .ref aMarks, .ref aSeed, .ref aContents, .ref aContentMany, .ref aRow, .ref aBits, .ref aLayerSize, .ref aLayerCame, .ref aRest, .ref aRestMany, .int z.2.1, .ref aCome, .ref aRivals, .ref aGone, .ref aOrder, .ref aOffAt, .ref aIsOff, .ref aAlone, .ref aKept]) ∧ f1 aKind = .inl (g 0, 30, .inl z.2.2.1) ∧ f1 aSize = .inl (g 0, 30, .inl z.2.2.2.1) ∧ f1 aMarks = .inl (g 0, 30, .inl z.2.2.2.2.1) ∧ f1 aSeed = .inl (g 0, 30, .inl z.2.2.2.2.2.1) ∧ f1 aContents = .inl (g 1, 30000, .inr (.inl z.2.2.2.2.2.2.1)) ∧ f1 aContentMany = .inl (g 0, 30, .inl z.2.2.2.2.2.2.2.1) ∧ f1 aRow = .inl (g 0, 122880, .inl z.2.2.2.2.2.2.2.2.1) ∧ f1 aRestMany = .inl (g 0, 30, .inl z.2.2.2.2.2.2.2.2.2)) hx hb hr hlk S dX9_fold_189 (by decide) (by decide) (by have hz := Option.some.inj hM; subst hz; exact ⟨rfl, rfl, fr, e_y, e_aKind, e_aSize, e_aMarks, e_aSeed, e_aContents, e_aContentMany, e_aRow, e_aRestMany⟩)
            have LP133 : ∀ (fu : Nat) (x4_133 : Int32) (caContents_133 : Nat → Int64) (fl133 : Nat → va_E) (H : Heap) (locs : List Loc) (ls : Array Slot), (mX9_fold_L133 oq z69) fu x4_133 caContents_133 = some o133 → PS D g (va_A (va_pl L f) szz) s.heap s L fl133 H locs → fl133 y = .inr (7, [.ref aWorlds, .ref aInWorld, .ref aKind, .ref aSize, .ref aMarks, .ref aSeed, .ref aContents, .ref aContentMany, .ref aRow, .ref aBits, .ref aLayerSize, .ref aLayerCame, .ref aRest, .ref aRestMany, .int z69.2.1, .ref aCome, .ref aRivals, .ref aGone, .ref aOrder, .ref aOffAt, .ref aIsOff, .ref aAlone, .ref aKept]) → fl133 aWorlds = .inl (g 1, 8000, .inr (.inl vWorlds)) → fl133 aInWorld = .inl (g 0, 8, .inl vInWorld) → fl133 aKind = .inl (g 0, 30, .inl z69.2.2.1) → fl133 aSize = .inl (g 0, 30, .inl z69.2.2.2.1) → fl133 aMarks = .inl (g 0, 30, .inl z69.2.2.2.2.1) → fl133 aSeed = .inl (g 0, 30, .inl z69.2.2.2.2.2.1) → fl133 aContents = .inl (g 1, 30000, .inr (.inl caContents_133)) → fl133 aContentMany = .inl (g 0, 30, .inl z69.2.2.2.2.2.2.1) → fl133 aRow = .inl (g 0, 122880, .inl o76.2) → fl133 aBits = .inl (g 0, 76800, .inl vBits) → fl133 aLayerSize = .inl (g 0, 600, .inl vLayerSize) → fl133 aLayerCame = .inl (g 0, 600, .inl vLayerCame) → fl133 aRest = .inl (g 1, 30000, .inr (.inl vRest)) → fl133 aRestMany = .inl (g 0, 30, .inl z69.2.2.2.2.2.2.2.2) → fl133 aCome = .inl (g 1, 1000, .inr (.inl vCome)) → fl133 aRivals = .inl (g 1, 1000, .inr (.inl vRivals)) → fl133 aGone = .inl (g 1, 1000, .inr (.inl vGone)) → fl133 aOrder = .inl (g 0, 1000, .inl vOrder) → fl133 aOffAt = .inl (g 0, 1000, .inl vOffAt) → fl133 aIsOff = .inl (g 2, 1000, .inl vIsOff) → fl133 aAlone = .inl (g 0, 4096, .inl vAlone) → fl133 aKept = .inl (g 0, 4096, .inl vKept) → (∀ b, b ∈ L → b ≠ y → b ≠ aKind → b ≠ aSize → b ≠ aMarks → b ≠ aSeed → b ≠ aContents → b ≠ aContentMany → b ≠ aRow → b ≠ aRestMany → fl133 b = f b) → lv_has ls 5 [(4, .int x4_133), (3, .int z69.1), (0, .ref y), (1, .int oq)] → W p l e { frames := 1, cells := 0, slots := 0, locals := 26 } s m [.ref y, .int oq].toArray below meth c H locs 0 0 QQ (F0 m 133 ls []) := by
              intro fu
              induction fu with
              | zero => intro x4_133 caContents_133 fl133 H locs ls ho133 S e_y e_aWorlds e_aInWorld e_aKind e_aSize e_aMarks e_aSeed e_aContents e_aContentMany e_aRow e_aBits e_aLayerSize e_aLayerCame e_aRest e_aRestMany e_aCome e_aRivals e_aGone e_aOrder e_aOffAt e_aIsOff e_aAlone e_aKept fr hl; exact no_some ho133
              | succ fu ih133 =>
                intro x4_133 caContents_133 fl133 H locs ls ho133 S e_y e_aWorlds e_aInWorld e_aKind e_aSize e_aMarks e_aSeed e_aContents e_aContentMany e_aRow e_aBits e_aLayerSize e_aLayerCame e_aRest e_aRestMany e_aCome e_aRivals e_aGone e_aOrder e_aOffAt e_aIsOff e_aAlone e_aKept fr hl
                rw [mX9_fold_L133] at ho133
                refine lv_iload hx hb dX9_fold_133 (lv_at hl 0 rfl) ?_
                refine lv_aload_n hx hb dX9_fold_135 rfl (lv_at hl 2 rfl) ?_
                refine q_get hx hb hts in_X9 hown S m_y e_y (C := RX9) (T := TX9) (N := 23) rfl 7 (by decide) rfl (hts (.fieldLink RX9 32 "SieveCabinetModel" "contentMany" "[I") (by decide +kernel)) dX9_fold_136 ?_
                refine lv_iload_n hx hb dX9_fold_139 rfl (lv_at hl 3 rfl) ?_
                obtain ⟨hi140, ho133⟩ := ckx ho133
                refine q_iald hx hb S m_aContentMany e_aContentMany hi140 dX9_fold_140 ?_
                refine lv_icmp_ge (tgt := 176) hx hb dX9_fold_141 (by decide) (fun b141 => ?_) (fun b141 => ?_)
                · have ho133 := itT b141 ho133
                  obtain rfl := Option.some.inj ho133
                  exact EX133 fl133 _ _ _ S e_y e_aWorlds e_aInWorld e_aKind e_aSize e_aMarks e_aSeed e_aContents e_aContentMany e_aRow e_aBits e_aLayerSize e_aLayerCame e_aRest e_aRestMany e_aCome e_aRivals e_aGone e_aOrder e_aOffAt e_aIsOff e_aAlone e_aKept fr (lv_sub hl [1, 2, 3] rfl)
                · have ho133 := itF b141 ho133
                  refine lv_aload_n hx hb dX9_fold_144 rfl (lv_at hl 2 rfl) ?_
                  refine q_get hx hb hts in_X9 hown S m_y e_y (C := RX9) (T := TX9) (N := 23) rfl 6 (by decide) rfl (hts (.fieldLink RX9 29 "SieveCabinetModel" "contents" "[J") (by decide +kernel)) dX9_fold_145 ?_
                  refine lv_iload_n hx hb dX9_fold_148 rfl (lv_at hl 1 rfl) ?_
                  refine lv_sipush (v := (1000 : Int32)) hx hb dX9_fold_149 (by decide) ?_
                  refine lv_imul hx hb dX9_fold_152 ?_
                  refine lv_iload hx hb dX9_fold_153 (lv_at hl 0 rfl) ?_
                  refine lv_iadd hx hb dX9_fold_155 ?_
                  refine lv_aload_n hx hb dX9_fold_156 rfl (lv_at hl 2 rfl) ?_
                  refine q_get hx hb hts in_X9 hown S m_y e_y (C := RX9) (T := TX9) (N := 23) rfl 6 (by decide) rfl (hts (.fieldLink RX9 29 "SieveCabinetModel" "contents" "[J") (by decide +kernel)) dX9_fold_157 ?_
                  refine lv_iload_n hx hb dX9_fold_160 rfl (lv_at hl 3 rfl) ?_
                  refine lv_sipush (v := (1000 : Int32)) hx hb dX9_fold_161 (by decide) ?_
                  refine lv_imul hx hb dX9_fold_164 ?_
                  refine lv_iload hx hb dX9_fold_165 (lv_at hl 0 rfl) ?_
                  refine lv_iadd hx hb dX9_fold_167 ?_
                  obtain ⟨hi168, ho133⟩ := ckx ho133
                  refine q_lald hx hb S m_aContents e_aContents hi168 dX9_fold_168 ?_
                  obtain ⟨hi169, ho133⟩ := ckx ho133
                  refine k_last hx hb S m_aContents e_aContents hi169 dX9_fold_169 (fun f8 ef8 H locs S => ?_)
                  have e_aContents := up_self ef8
                  have fr : ∀ b, b ∈ L → b ≠ y → b ≠ aKind → b ≠ aSize → b ≠ aMarks → b ≠ aSeed → b ≠ aContents → b ≠ aContentMany → b ≠ aRow → b ≠ aRestMany → f8 b = f b := fun b mb nb0 nb1 nb2 nb3 nb4 nb5 nb6 nb7 nb8 => (up_ne ef8 nb5 rfl).trans (fr b mb nb0 nb1 nb2 nb3 nb4 nb5 nb6 nb7 nb8)
                  refine lv_iinc (v := (x4_133 + 1)) (lv' := [(4, .int (x4_133 + 1)), (3, .int z69.1), (0, .ref y), (1, .int oq)]) hx hb dX9_fold_170 hl (k := 0) rfl rfl (by decide) rfl (fun ls hl => ?_)
                  refine lv_goto (tgt := 133) hx hb dX9_fold_173 (by decide) ?_
                  have e_y := (up_ne ef8 n_y_aContents e_y)
                  have e_aWorlds := (up_ne ef8 n_aWorlds_aContents e_aWorlds)
                  have e_aInWorld := (up_ne ef8 n_aInWorld_aContents e_aInWorld)
                  have e_aKind := (up_ne ef8 n_aKind_aContents e_aKind)
                  have e_aSize := (up_ne ef8 n_aSize_aContents e_aSize)
                  have e_aMarks := (up_ne ef8 n_aMarks_aContents e_aMarks)
                  have e_aSeed := (up_ne ef8 n_aSeed_aContents e_aSeed)
                  have e_aContentMany := (up_ne ef8 n_aContentMany_aContents e_aContentMany)
                  have e_aRow := (up_ne ef8 n_aRow_aContents e_aRow)
                  have e_aBits := (up_ne ef8 n_aBits_aContents e_aBits)
                  have e_aLayerSize := (up_ne ef8 n_aLayerSize_aContents e_aLayerSize)
                  have e_aLayerCame := (up_ne ef8 n_aLayerCame_aContents e_aLayerCame)
                  have e_aRest := (up_ne ef8 n_aRest_aContents e_aRest)
                  have e_aRestMany := (up_ne ef8 n_aRestMany_aContents e_aRestMany)
                  have e_aCome := (up_ne ef8 n_aCome_aContents e_aCome)
                  have e_aRivals := (up_ne ef8 n_aRivals_aContents e_aRivals)
                  have e_aGone := (up_ne ef8 n_aGone_aContents e_aGone)
                  have e_aOrder := (up_ne ef8 n_aOrder_aContents e_aOrder)
                  have e_aOffAt := (up_ne ef8 n_aOffAt_aContents e_aOffAt)
                  have e_aIsOff := (up_ne ef8 n_aIsOff_aContents e_aIsOff)
                  have e_aAlone := (up_ne ef8 n_aAlone_aContents e_aAlone)
                  have e_aKept := (up_ne ef8 n_aKept_aContents e_aKept)
                  exact ih133 (x4_133 + 1) (vp_updL caContents_133 (Int32.toNatClampNeg ((z69.1 * (1000 : Int32)) + x4_133)) (caContents_133 (Int32.toNatClampNeg ((oq * (1000 : Int32)) + x4_133)))) f8 _ _ _ ho133 S e_y e_aWorlds e_aInWorld e_aKind e_aSize e_aMarks e_aSeed e_aContents e_aContentMany e_aRow e_aBits e_aLayerSize e_aLayerCame e_aRest e_aRestMany e_aCome e_aRivals e_aGone e_aOrder e_aOffAt e_aIsOff e_aAlone e_aKept fr (lv_sub hl [0, 1, 2, 3] rfl)
            exact LP133 FU (0 : Int32) vContents fl76 _ _ _ ho133 S e_y e_aWorlds e_aInWorld e_aKind e_aSize e_aMarks e_aSeed e_aContents e_aContentMany e_aRow e_aBits e_aLayerSize e_aLayerCame e_aRest e_aRestMany e_aCome e_aRivals e_aGone e_aOrder e_aOffAt e_aIsOff e_aAlone e_aKept fr (lv_sub hl [0, 1, 2, 3] rfl)
          have LP76 : ∀ (fu : Nat) (x4_76 : Int32) (caRow_76 : Nat → Int32) (fl76 : Nat → va_E) (H : Heap) (locs : List Loc) (ls : Array Slot), (mX9_fold_L76 oq y53 z69) fu x4_76 caRow_76 = some o76 → PS D g (va_A (va_pl L f) szz) s.heap s L fl76 H locs → fl76 y = .inr (7, [.ref aWorlds, .ref aInWorld, .ref aKind, .ref aSize, .ref aMarks, .ref aSeed, .ref aContents, .ref aContentMany, .ref aRow, .ref aBits, .ref aLayerSize, .ref aLayerCame, .ref aRest, .ref aRestMany, .int z69.2.1, .ref aCome, .ref aRivals, .ref aGone, .ref aOrder, .ref aOffAt, .ref aIsOff, .ref aAlone, .ref aKept]) → fl76 aWorlds = .inl (g 1, 8000, .inr (.inl vWorlds)) → fl76 aInWorld = .inl (g 0, 8, .inl vInWorld) → fl76 aKind = .inl (g 0, 30, .inl z69.2.2.1) → fl76 aSize = .inl (g 0, 30, .inl z69.2.2.2.1) → fl76 aMarks = .inl (g 0, 30, .inl z69.2.2.2.2.1) → fl76 aSeed = .inl (g 0, 30, .inl z69.2.2.2.2.2.1) → fl76 aContents = .inl (g 1, 30000, .inr (.inl vContents)) → fl76 aContentMany = .inl (g 0, 30, .inl z69.2.2.2.2.2.2.1) → fl76 aRow = .inl (g 0, 122880, .inl caRow_76) → fl76 aBits = .inl (g 0, 76800, .inl vBits) → fl76 aLayerSize = .inl (g 0, 600, .inl vLayerSize) → fl76 aLayerCame = .inl (g 0, 600, .inl vLayerCame) → fl76 aRest = .inl (g 1, 30000, .inr (.inl vRest)) → fl76 aRestMany = .inl (g 0, 30, .inl z69.2.2.2.2.2.2.2.2) → fl76 aCome = .inl (g 1, 1000, .inr (.inl vCome)) → fl76 aRivals = .inl (g 1, 1000, .inr (.inl vRivals)) → fl76 aGone = .inl (g 1, 1000, .inr (.inl vGone)) → fl76 aOrder = .inl (g 0, 1000, .inl vOrder) → fl76 aOffAt = .inl (g 0, 1000, .inl vOffAt) → fl76 aIsOff = .inl (g 2, 1000, .inl vIsOff) → fl76 aAlone = .inl (g 0, 4096, .inl vAlone) → fl76 aKept = .inl (g 0, 4096, .inl vKept) → (∀ b, b ∈ L → b ≠ y → b ≠ aKind → b ≠ aSize → b ≠ aMarks → b ≠ aSeed → b ≠ aContents → b ≠ aContentMany → b ≠ aRow → b ≠ aRestMany → fl76 b = f b) → lv_has ls 5 [(4, .int x4_76), (3, .int z69.1), (2, .int y53), (0, .ref y), (1, .int oq)] → W p l e { frames := 1, cells := 0, slots := 0, locals := 26 } s m [.ref y, .int oq].toArray below meth c H locs 0 0 QQ (F0 m 76 ls []) := by
            intro fu
            induction fu with
            | zero => intro x4_76 caRow_76 fl76 H locs ls ho76 S e_y e_aWorlds e_aInWorld e_aKind e_aSize e_aMarks e_aSeed e_aContents e_aContentMany e_aRow e_aBits e_aLayerSize e_aLayerCame e_aRest e_aRestMany e_aCome e_aRivals e_aGone e_aOrder e_aOffAt e_aIsOff e_aAlone e_aKept fr hl; exact no_some ho76
            | succ fu ih76 =>
              intro x4_76 caRow_76 fl76 H locs ls ho76 S e_y e_aWorlds e_aInWorld e_aKind e_aSize e_aMarks e_aSeed e_aContents e_aContentMany e_aRow e_aBits e_aLayerSize e_aLayerCame e_aRest e_aRestMany e_aCome e_aRivals e_aGone e_aOrder e_aOffAt e_aIsOff e_aAlone e_aKept fr hl
              rw [mX9_fold_L76] at ho76
              refine lv_iload hx hb dX9_fold_76 (lv_at hl 0 rfl) ?_
              refine lv_iload_n hx hb dX9_fold_78 rfl (lv_at hl 2 rfl) ?_
              refine lv_icmp_ge (tgt := 130) hx hb dX9_fold_79 (by decide) (fun b79 => ?_) (fun b79 => ?_)
              · have ho76 := itT b79 ho76
                obtain rfl := Option.some.inj ho76
                exact EX76 fl76 _ _ _ S e_y e_aWorlds e_aInWorld e_aKind e_aSize e_aMarks e_aSeed e_aContents e_aContentMany e_aRow e_aBits e_aLayerSize e_aLayerCame e_aRest e_aRestMany e_aCome e_aRivals e_aGone e_aOrder e_aOffAt e_aIsOff e_aAlone e_aKept fr (lv_sub hl [1, 3, 4] rfl)
              · have ho76 := itF b79 ho76
                refine lv_aload_n hx hb dX9_fold_82 rfl (lv_at hl 3 rfl) ?_
                refine q_get hx hb hts in_X9 hown S m_y e_y (C := RX9) (T := TX9) (N := 23) rfl 8 (by decide) rfl (hts (.fieldLink RX9 36 "SieveCabinetModel" "row" "[I") (by decide +kernel)) dX9_fold_83 ?_
                refine lv_iload_n hx hb dX9_fold_86 rfl (lv_at hl 1 rfl) ?_
                refine lv_sipush (v := (4096 : Int32)) hx hb dX9_fold_87 (by decide) ?_
                refine lv_imul hx hb dX9_fold_90 ?_
                refine lv_iload hx hb dX9_fold_91 (lv_at hl 0 rfl) ?_
                refine lv_iadd hx hb dX9_fold_93 ?_
                refine lv_aload_n hx hb dX9_fold_94 rfl (lv_at hl 3 rfl) ?_
                refine q_get hx hb hts in_X9 hown S m_y e_y (C := RX9) (T := TX9) (N := 23) rfl 8 (by decide) rfl (hts (.fieldLink RX9 36 "SieveCabinetModel" "row" "[I") (by decide +kernel)) dX9_fold_95 ?_
                refine lv_iload_n hx hb dX9_fold_98 rfl (lv_at hl 4 rfl) ?_
                refine lv_sipush (v := (4096 : Int32)) hx hb dX9_fold_99 (by decide) ?_
                refine lv_imul hx hb dX9_fold_102 ?_
                refine lv_iload hx hb dX9_fold_103 (lv_at hl 0 rfl) ?_
                refine lv_iadd hx hb dX9_fold_105 ?_
                obtain ⟨hi106, ho76⟩ := ckx ho76
                refine q_iald hx hb S m_aRow e_aRow hi106 dX9_fold_106 ?_
                refine lv_aload_n hx hb dX9_fold_107 rfl (lv_at hl 3 rfl) ?_
                refine q_get hx hb hts in_X9 hown S m_y e_y (C := RX9) (T := TX9) (N := 23) rfl 8 (by decide) rfl (hts (.fieldLink RX9 36 "SieveCabinetModel" "row" "[I") (by decide +kernel)) dX9_fold_108 ?_
                refine lv_iload_n hx hb dX9_fold_111 rfl (lv_at hl 4 rfl) ?_
                refine lv_sipush (v := (4096 : Int32)) hx hb dX9_fold_112 (by decide) ?_
                refine lv_imul hx hb dX9_fold_115 ?_
                refine lv_iload_n hx hb dX9_fold_116 rfl (lv_at hl 2 rfl) ?_
                refine lv_iadd hx hb dX9_fold_117 ?_
                refine lv_iload hx hb dX9_fold_118 (lv_at hl 0 rfl) ?_
                refine lv_iadd hx hb dX9_fold_120 ?_
                obtain ⟨hi121, ho76⟩ := ckx ho76
                refine q_iald hx hb S m_aRow e_aRow hi121 dX9_fold_121 ?_
                refine lv_ior hx hb dX9_fold_122 ?_
                obtain ⟨hi123, ho76⟩ := ckx ho76
                refine k_iast hx hb S m_aRow e_aRow hi123 dX9_fold_123 (fun f9 ef9 H locs S => ?_)
                have e_aRow := up_self ef9
                have fr : ∀ b, b ∈ L → b ≠ y → b ≠ aKind → b ≠ aSize → b ≠ aMarks → b ≠ aSeed → b ≠ aContents → b ≠ aContentMany → b ≠ aRow → b ≠ aRestMany → f9 b = f b := fun b mb nb0 nb1 nb2 nb3 nb4 nb5 nb6 nb7 nb8 => (up_ne ef9 nb7 rfl).trans (fr b mb nb0 nb1 nb2 nb3 nb4 nb5 nb6 nb7 nb8)
                refine lv_iinc (v := (x4_76 + 1)) (lv' := [(4, .int (x4_76 + 1)), (3, .int z69.1), (2, .int y53), (0, .ref y), (1, .int oq)]) hx hb dX9_fold_124 hl (k := 0) rfl rfl (by decide) rfl (fun ls hl => ?_)
                refine lv_goto (tgt := 76) hx hb dX9_fold_127 (by decide) ?_
                have e_y := (up_ne ef9 n_y_aRow e_y)
                have e_aWorlds := (up_ne ef9 n_aWorlds_aRow e_aWorlds)
                have e_aInWorld := (up_ne ef9 n_aInWorld_aRow e_aInWorld)
                have e_aKind := (up_ne ef9 n_aKind_aRow e_aKind)
                have e_aSize := (up_ne ef9 n_aSize_aRow e_aSize)
                have e_aMarks := (up_ne ef9 n_aMarks_aRow e_aMarks)
                have e_aSeed := (up_ne ef9 n_aSeed_aRow e_aSeed)
                have e_aContents := (up_ne ef9 n_aContents_aRow e_aContents)
                have e_aContentMany := (up_ne ef9 n_aContentMany_aRow e_aContentMany)
                have e_aBits := (up_ne ef9 n_aBits_aRow e_aBits)
                have e_aLayerSize := (up_ne ef9 n_aLayerSize_aRow e_aLayerSize)
                have e_aLayerCame := (up_ne ef9 n_aLayerCame_aRow e_aLayerCame)
                have e_aRest := (up_ne ef9 n_aRest_aRow e_aRest)
                have e_aRestMany := (up_ne ef9 n_aRestMany_aRow e_aRestMany)
                have e_aCome := (up_ne ef9 n_aCome_aRow e_aCome)
                have e_aRivals := (up_ne ef9 n_aRivals_aRow e_aRivals)
                have e_aGone := (up_ne ef9 n_aGone_aRow e_aGone)
                have e_aOrder := (up_ne ef9 n_aOrder_aRow e_aOrder)
                have e_aOffAt := (up_ne ef9 n_aOffAt_aRow e_aOffAt)
                have e_aIsOff := (up_ne ef9 n_aIsOff_aRow e_aIsOff)
                have e_aAlone := (up_ne ef9 n_aAlone_aRow e_aAlone)
                have e_aKept := (up_ne ef9 n_aKept_aRow e_aKept)
                exact ih76 (x4_76 + 1) (upd caRow_76 (Int32.toNatClampNeg ((z69.1 * (4096 : Int32)) + x4_76)) ((caRow_76 (Int32.toNatClampNeg ((oq * (4096 : Int32)) + x4_76))) ||| (caRow_76 (Int32.toNatClampNeg (((oq * (4096 : Int32)) + y53) + x4_76))))) f9 _ _ _ ho76 S e_y e_aWorlds e_aInWorld e_aKind e_aSize e_aMarks e_aSeed e_aContents e_aContentMany e_aRow e_aBits e_aLayerSize e_aLayerCame e_aRest e_aRestMany e_aCome e_aRivals e_aGone e_aOrder e_aOffAt e_aIsOff e_aAlone e_aKept fr (lv_sub hl [0, 1, 2, 3, 4] rfl)
          exact LP76 FU (0 : Int32) z69.2.2.2.2.2.2.2.1 f5 _ _ _ ho76 S e_y e_aWorlds e_aInWorld e_aKind e_aSize e_aMarks e_aSeed e_aContents e_aContentMany e_aRow e_aBits e_aLayerSize e_aLayerCame e_aRest e_aRestMany e_aCome e_aRivals e_aGone e_aOrder e_aOffAt e_aIsOff e_aAlone e_aKept fr (lv_sub hl [0, 1, 2, 3, 4] rfl)
        · have hM := itT b39 hM
          refine lv_bipush (v := (-4 : Int32)) hx hb dX9_fold_42 (by decide) ?_
          subst hQQ
          exact q_reti (post := fun x L1 f1 => x = z.1 ∧ L1 = L ∧ (∀ b, b ∈ L → b ≠ y → b ≠ aKind → b ≠ aSize → b ≠ aMarks → b ≠ aSeed → b ≠ aContents → b ≠ aContentMany → b ≠ aRow → b ≠ aRestMany → f1 b = f b) ∧ f1 y = .inr (7, [.ref aWorlds, .ref aInWorld, .ref aKind, .ref aSize, .ref aMarks, .ref aSeed, .ref aContents, .ref aContentMany, .ref aRow, .ref aBits, .ref aLayerSize, .ref aLayerCame, .ref aRest, .ref aRestMany, .int z.2.1, .ref aCome, .ref aRivals, .ref aGone, .ref aOrder, .ref aOffAt, .ref aIsOff, .ref aAlone, .ref aKept]) ∧ f1 aKind = .inl (g 0, 30, .inl z.2.2.1) ∧ f1 aSize = .inl (g 0, 30, .inl z.2.2.2.1) ∧ f1 aMarks = .inl (g 0, 30, .inl z.2.2.2.2.1) ∧ f1 aSeed = .inl (g 0, 30, .inl z.2.2.2.2.2.1) ∧ f1 aContents = .inl (g 1, 30000, .inr (.inl z.2.2.2.2.2.2.1)) ∧ f1 aContentMany = .inl (g 0, 30, .inl z.2.2.2.2.2.2.2.1) ∧ f1 aRow = .inl (g 0, 122880, .inl z.2.2.2.2.2.2.2.2.1) ∧ f1 aRestMany = .inl (g 0, 30, .inl z.2.2.2.2.2.2.2.2.2)) hx hb hr hlk S dX9_fold_44 (by decide) (by decide) (by have hz := Option.some.inj hM; subst hz; exact ⟨rfl, rfl, fr, e_y, e_aKind, e_aSize, e_aMarks, e_aSeed, e_aContents, e_aContentMany, e_aRow, e_aRestMany⟩)
      · have hM := itT b27 hM
        refine lv_bipush (v := (-2 : Int32)) hx hb dX9_fold_30 (by decide) ?_
        subst hQQ
        exact q_reti (post := fun x L1 f1 => x = z.1 ∧ L1 = L ∧ (∀ b, b ∈ L → b ≠ y → b ≠ aKind → b ≠ aSize → b ≠ aMarks → b ≠ aSeed → b ≠ aContents → b ≠ aContentMany → b ≠ aRow → b ≠ aRestMany → f1 b = f b) ∧ f1 y = .inr (7, [.ref aWorlds, .ref aInWorld, .ref aKind, .ref aSize, .ref aMarks, .ref aSeed, .ref aContents, .ref aContentMany, .ref aRow, .ref aBits, .ref aLayerSize, .ref aLayerCame, .ref aRest, .ref aRestMany, .int z.2.1, .ref aCome, .ref aRivals, .ref aGone, .ref aOrder, .ref aOffAt, .ref aIsOff, .ref aAlone, .ref aKept]) ∧ f1 aKind = .inl (g 0, 30, .inl z.2.2.1) ∧ f1 aSize = .inl (g 0, 30, .inl z.2.2.2.1) ∧ f1 aMarks = .inl (g 0, 30, .inl z.2.2.2.2.1) ∧ f1 aSeed = .inl (g 0, 30, .inl z.2.2.2.2.2.1) ∧ f1 aContents = .inl (g 1, 30000, .inr (.inl z.2.2.2.2.2.2.1)) ∧ f1 aContentMany = .inl (g 0, 30, .inl z.2.2.2.2.2.2.2.1) ∧ f1 aRow = .inl (g 0, 122880, .inl z.2.2.2.2.2.2.2.2.1) ∧ f1 aRestMany = .inl (g 0, 30, .inl z.2.2.2.2.2.2.2.2.2)) hx hb hr hlk S dX9_fold_32 (by decide) (by decide) (by have hz := Option.some.inj hM; subst hz; exact ⟨rfl, rfl, fr, e_y, e_aKind, e_aSize, e_aMarks, e_aSeed, e_aContents, e_aContentMany, e_aRow, e_aRestMany⟩)
  · have hM := itT b5 hM
    refine lv_iconst (v := (-1 : Int32)) hx hb dX9_fold_8 (by decide) ?_
    subst hQQ
    exact q_reti (post := fun x L1 f1 => x = z.1 ∧ L1 = L ∧ (∀ b, b ∈ L → b ≠ y → b ≠ aKind → b ≠ aSize → b ≠ aMarks → b ≠ aSeed → b ≠ aContents → b ≠ aContentMany → b ≠ aRow → b ≠ aRestMany → f1 b = f b) ∧ f1 y = .inr (7, [.ref aWorlds, .ref aInWorld, .ref aKind, .ref aSize, .ref aMarks, .ref aSeed, .ref aContents, .ref aContentMany, .ref aRow, .ref aBits, .ref aLayerSize, .ref aLayerCame, .ref aRest, .ref aRestMany, .int z.2.1, .ref aCome, .ref aRivals, .ref aGone, .ref aOrder, .ref aOffAt, .ref aIsOff, .ref aAlone, .ref aKept]) ∧ f1 aKind = .inl (g 0, 30, .inl z.2.2.1) ∧ f1 aSize = .inl (g 0, 30, .inl z.2.2.2.1) ∧ f1 aMarks = .inl (g 0, 30, .inl z.2.2.2.2.1) ∧ f1 aSeed = .inl (g 0, 30, .inl z.2.2.2.2.2.1) ∧ f1 aContents = .inl (g 1, 30000, .inr (.inl z.2.2.2.2.2.2.1)) ∧ f1 aContentMany = .inl (g 0, 30, .inl z.2.2.2.2.2.2.2.1) ∧ f1 aRow = .inl (g 0, 122880, .inl z.2.2.2.2.2.2.2.2.1) ∧ f1 aRestMany = .inl (g 0, 30, .inl z.2.2.2.2.2.2.2.2.2)) hx hb hr hlk S dX9_fold_9 (by decide) (by decide) (by have hz := Option.some.inj hM; subst hz; exact ⟨rfl, rfl, fr, e_y, e_aKind, e_aSize, e_aMarks, e_aSeed, e_aContents, e_aContentMany, e_aRow, e_aRestMany⟩)
