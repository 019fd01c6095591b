def mX9_emptyPlace_L2 (vOf : Nat → Int32) (at_ : Int32) : Nat → Int32 → Option ((Int32) ⊕ Int32)
  | 0, _ => none
  | fu + 1, x2_2 => if (4 : Int32) ≤ x2_2 then (some (.inr x2_2)) else (if ix (at_ + x2_2) 122880 = true then (if (vOf (Int32.toNatClampNeg (at_ + x2_2))) = 0 then (some (.inl (at_ + x2_2))) else (mX9_emptyPlace_L2 vOf at_ fu (x2_2 + 1))) else none)
def mX9_emptyPlace (vOf : Nat → Int32) (at_ : Int32) : Option (Int32) := (mX9_emptyPlace_L2 vOf at_ FU (0 : Int32)).bind fun o2 => Sum.elim (fun r_ => some r_) (fun s2 => some (-1 : Int32)) o2
set_option maxHeartbeats 4000000 in
set_option maxRecDepth 100000 in
theorem k_X9_emptyPlace (l : Launch) (D : va_G) (g : Nat → ClassId) {L : List Nat} {f : Nat → va_E} {of : Nat} {vOf : Nat → Int32} {at_ : Int32} {z : Int32} (m_of : of ∈ L) (e_of : f of = .inl (g 0, 122880, .inl vOf))    (hM : mX9_emptyPlace vOf at_ = some z) : cI l yX9_emptyPlace wsX9_emptyPlace { frames := 0, cells := 0, slots := 0, locals := 0 } D g [.ref of, .int at_] L f 0 0 (fun x L1 f1 => x = z ∧ L1 = L ∧ f1 = f) := by
  refine cI_of (cc := cX9_emptyPlace) (maxL := 3) (ret := (some .int)) (by decide) rfl (Nat.le_of_ble_eq_true rfl) ?_
  intro szz p e s m below meth c hx hb hr hml hts hown hlk hnm S ls hl
  have hl : lv_has ls 3 [(0, .ref of), (1, .int at_)] := hl
  unfold mX9_emptyPlace at hM
  refine W_gen (fun QQ hQQ => ?_)
  refine lv_iconst (v := (0 : Int32)) hx hb dX9_emptyPlace_0 (by decide) ?_
  refine lv_istore_n (lv' := [(2, .int (0 : Int32)), (0, .ref of), (1, .int at_)]) hx hb dX9_emptyPlace_1 rfl hl (by decide) rfl (fun ls hl => ?_)
  obtain ⟨o2, ho2, hM⟩ := bind_some hM
  have EX2 : ∀ (s2 : Int32), o2 = .inr s2 → ∀ (H : Heap) (locs : List Loc) (ls : Array Slot), PS D g (va_A (va_pl L f) szz) s.heap s L f H locs → lv_has ls 3 [] → W p l e { frames := 0, cells := 0, slots := 0, locals := 0 } s m [.ref of, .int at_].toArray below meth c H locs 0 0 QQ (F0 m 25 ls []) := by
    intro s2 eo2
    rw [eo2] at hM
    simp only [Sum.elim_inr] at hM
    intro H locs ls S hl
    refine lv_iconst (v := (-1 : Int32)) hx hb dX9_emptyPlace_25 (by decide) ?_
    subst hQQ
    exact q_reti (post := fun x L1 f1 => x = z ∧ L1 = L ∧ f1 = f) hx hb hr hlk S dX9_emptyPlace_26 (by decide) (by decide) (by have hz := Option.some.inj hM; subst hz; exact ⟨rfl, rfl, rfl⟩)
  have LP2 : ∀ (fu : Nat) (x2_2 : Int32) (H : Heap) (locs : List Loc) (ls : Array Slot), (mX9_emptyPlace_L2 vOf at_) fu x2_2 = some o2 → PS D g (va_A (va_pl L f) szz) s.heap s L f H locs → lv_has ls 3 [(2, .int x2_2), (0, .ref of), (1, .int at_)] → W p l e { frames := 0, cells := 0, slots := 0, locals := 0 } s m [.ref of, .int at_].toArray below meth c H locs 0 0 QQ (F0 m 2 ls []) := by
    intro fu
    induction fu with
    | zero => intro x2_2 H locs ls ho2 S hl; exact no_some ho2
    | succ fu ih2 =>
      intro x2_2 H locs ls ho2 S hl
      rw [mX9_emptyPlace_L2] at ho2
      refine lv_iload_n hx hb dX9_emptyPlace_2 rfl (lv_at hl 0 rfl) ?_
      refine lv_iconst (v := (4 : Int32)) hx hb dX9_emptyPlace_3 (by decide) ?_
      refine lv_icmp_ge (tgt := 25) hx hb dX9_emptyPlace_4 (by decide) (fun b4 => ?_) (fun b4 => ?_)
      · have ho2 := itT b4 ho2
        obtain rfl := Option.some.inj ho2
        exact EX2 _ rfl _ _ _ S (lv_sub hl [] rfl)
      · have ho2 := itF b4 ho2
        refine lv_aload_n hx hb dX9_emptyPlace_7 rfl (lv_at hl 1 rfl) ?_
        refine lv_iload_n hx hb dX9_emptyPlace_8 rfl (lv_at hl 2 rfl) ?_
        refine lv_iload_n hx hb dX9_emptyPlace_9 rfl (lv_at hl 0 rfl) ?_
        refine lv_iadd hx hb dX9_emptyPlace_10 ?_
        obtain ⟨hi11, ho2⟩ := ckx ho2
        refine q_iald hx hb S m_of e_of hi11 dX9_emptyPlace_11 ?_
        refine lv_if_ne (tgt := 19) hx hb dX9_emptyPlace_12 (by decide) (fun b12 => ?_) (fun b12 => ?_)
        · have ho2 := itF b12 ho2
          refine lv_iinc (v := (x2_2 + 1)) (lv' := [(2, .int (x2_2 + 1)), (0, .ref of), (1, .int at_)]) hx hb dX9_emptyPlace_19 hl (k := 0) rfl rfl (by decide) rfl (fun ls hl => ?_)
          refine lv_goto (tgt := 2) hx hb dX9_emptyPlace_22 (by decide) ?_
          exact ih2 (x2_2 + 1) _ _ _ ho2 S (lv_sub hl [0, 1, 2] rfl)
        · have ho2 := itT b12 ho2
          refine lv_iload_n hx hb dX9_emptyPlace_15 rfl (lv_at hl 2 rfl) ?_
          refine lv_iload_n hx hb dX9_emptyPlace_16 rfl (lv_at hl 0 rfl) ?_
          refine lv_iadd hx hb dX9_emptyPlace_17 ?_
          obtain rfl := Option.some.inj ho2
          simp only [Sum.elim_inl] at hM
          subst hQQ
          exact q_reti (post := fun x L1 f1 => x = z ∧ L1 = L ∧ f1 = f) hx hb hr hlk S dX9_emptyPlace_18 (by decide) (by decide) (by have hz := Option.some.inj hM; subst hz; exact ⟨rfl, rfl, rfl⟩)
  exact LP2 FU (0 : Int32) _ _ _ ho2 S (lv_sub hl [0, 1, 2] rfl)

def mX9_putTag_L76 (vSize : Nat → Int32) (sq : Int32) : Nat → Int32 → Int32 → Int32 → Int32 → (Nat → Int32) → Option (Int32 × Int32 × Int32 × Int32 × (Nat → Int32))
  | 0, _, _, _, _, _ => none
  | fu + 1, x8_76, x7_76, x6_76, x5_76, caRow_76 => if (200 : Int32) ≤ x8_76 then (some (x8_76, x7_76, x6_76, x5_76, caRow_76)) else (if 0 ≤ x7_76 then (some (x8_76, x7_76, x6_76, x5_76, caRow_76)) else (lt_ (((sq * (4096 : Int32)) + ((4 : Int32) * x6_76)) + (irm x8_76 (4 : Int32))) fun y101 => if ix y101 122880 = true then (if ix y101 122880 = true then (if ix sq 30 = true then ((mX9_otherNest x6_76 (caRow_76 (Int32.toNatClampNeg y101)) (vSize (Int32.toNatClampNeg sq))).bind fun z135 => (mX9_emptyPlace (upd caRow_76 (Int32.toNatClampNeg y101) x5_76) ((sq * (4096 : Int32)) + ((4 : Int32) * z135))).bind fun z151 => mX9_putTag_L76 vSize sq fu (x8_76 + 1) z151 z135 (caRow_76 (Int32.toNatClampNeg y101)) (upd caRow_76 (Int32.toNatClampNeg y101) x5_76)) else none) else none) else none))
def mX9_putTag (vSize : Nat → Int32) (vSeed : Nat → Int32) (vRow : Nat → Int32) (sq : Int32) (t : Int64) : Option (Int32 × (Nat → Int32)) := if ix sq 30 = true then ((mX9_mix t (vSeed (Int32.toNatClampNeg sq))).bind fun z14 => (mX9_tagOf z14).bind fun z17 => (mX9_nestOf vSize vSeed sq t (0 : Int32)).bind fun z26 => (mX9_emptyPlace vRow ((sq * (4096 : Int32)) + ((4 : Int32) * z26))).bind fun z42 => if 0 ≤ z42 then ((mX9_putTag_L76 vSize sq FU (0 : Int32) z42 z26 z17 vRow).bind fun o76 => if o76.2.1 < 0 then (if o76.2.1 < 0 then (some ((0 : Int32), o76.2.2.2.2)) else (some ((1 : Int32), o76.2.2.2.2))) else (if ix o76.2.1 122880 = true then (if o76.2.1 < 0 then (some ((0 : Int32), (upd o76.2.2.2.2 (Int32.toNatClampNeg o76.2.1) o76.2.2.2.1))) else (some ((1 : Int32), (upd o76.2.2.2.2 (Int32.toNatClampNeg o76.2.1) o76.2.2.2.1)))) else none)) else ((mX9_nestOf vSize vSeed sq t (1 : Int32)).bind fun z63 => (mX9_emptyPlace vRow ((sq * (4096 : Int32)) + ((4 : Int32) * z63))).bind fun z68 => (mX9_putTag_L76 vSize sq FU (0 : Int32) z68 z26 z17 vRow).bind fun o76 => if o76.2.1 < 0 then (if o76.2.1 < 0 then (some ((0 : Int32), o76.2.2.2.2)) else (some ((1 : Int32), o76.2.2.2.2))) else (if ix o76.2.1 122880 = true then (if o76.2.1 < 0 then (some ((0 : Int32), (upd o76.2.2.2.2 (Int32.toNatClampNeg o76.2.1) o76.2.2.2.1))) else (some ((1 : Int32), (upd o76.2.2.2.2 (Int32.toNatClampNeg o76.2.1) o76.2.2.2.1)))) else none))) else none
set_option maxHeartbeats 4000000 in
set_option maxRecDepth 100000 in
theorem k_X9_putTag (l : Launch) (D : va_G) (g : Nat → ClassId) {L : List Nat} {f : Nat → va_E} {aAlone aBits aCome aContentMany aContents aGone aInWorld aIsOff aKept aKind aLayerCame aLayerSize aMarks aOffAt aOrder aRest aRestMany aRivals aRow aSeed aSize aWorlds y : Nat} {many : Int32} {vWorlds : Nat → Int64} {vInWorld : Nat → Int32} {vKind : Nat → Int32} {vSize : Nat → Int32} {vMarks : Nat → Int32} {vSeed : Nat → Int32} {vContents : Nat → Int64} {vContentMany : Nat → Int32} {vRow : Nat → Int32} {vBits : Nat → Int32} {vLayerSize : Nat → Int32} {vLayerCame : Nat → Int32} {vRest : Nat → Int64} {vRestMany : Nat → Int32} {vCome : Nat → Int64} {vRivals : Nat → Int64} {vGone : Nat → Int64} {vOrder : Nat → Int32} {vOffAt : Nat → Int32} {vIsOff : Nat → Int32} {vAlone : Nat → Int32} {vKept : Nat → Int32} {sq : Int32} {t : Int64} {z : Int32 × (Nat → Int32)} (m_y : y ∈ L) (e_y : f y = .inr (7, [.ref aWorlds, .ref aInWorld, .ref aKind, .ref aSize, .ref aMarks, .ref aSeed, .ref aContents, .ref aContentMany, .ref aRow, .ref aBits, .ref aLayerSize, .ref aLayerCame, .ref aRest, .ref aRestMany, .int many, .ref aCome, .ref aRivals, .ref aGone, .ref aOrder, .ref aOffAt, .ref aIsOff, .ref aAlone, .ref aKept])) (m_aWorlds : aWorlds ∈ L) (e_aWorlds : f aWorlds = .inl (g 1, 8000, .inr (.inl vWorlds))) (m_aInWorld : aInWorld ∈ L) (e_aInWorld : f aInWorld = .inl (g 0, 8, .inl vInWorld)) (m_aKind : aKind ∈ L) (e_aKind : f aKind = .inl (g 0, 30, .inl vKind)) (m_aSize : aSize ∈ L) (e_aSize : f aSize = .inl (g 0, 30, .inl vSize)) (m_aMarks : aMarks ∈ L) (e_aMarks : f aMarks = .inl (g 0, 30, .inl vMarks)) (m_aSeed : aSeed ∈ L) (e_aSeed : f aSeed = .inl (g 0, 30, .inl vSeed)) (m_aContents : aContents ∈ L) (e_aContents : f aContents = .inl (g 1, 30000, .inr (.inl vContents))) (m_aContentMany : aContentMany ∈ L) (e_aContentMany : f aContentMany = .inl (g 0, 30, .inl vContentMany)) (m_aRow : aRow ∈ L) (e_aRow : f aRow = .inl (g 0, 122880, .inl vRow)) (m_aBits : aBits ∈ L) (e_aBits : f aBits = .inl (g 0, 76800, .inl vBits)) (m_aLayerSize : aLayerSize ∈ L) (e_aLayerSize : f aLayerSize = .inl (g 0, 600, .inl vLayerSize)) (m_aLayerCame : aLayerCame ∈ L) (e_aLayerCame : f aLayerCame = .inl (g 0, 600, .inl vLayerCame)) (m_aRest : aRest ∈ L) (e_aRest : f aRest = .inl (g 1, 30000, .inr (.inl vRest))) (m_aRestMany : aRestMany ∈ L) (e_aRestMany : f aRestMany = .inl (g 0, 30, .inl vRestMany)) (m_aCome : aCome ∈ L) (e_aCome : f aCome = .inl (g 1, 1000, .inr (.inl vCome))) (m_aRivals : aRivals ∈ L) (e_aRivals : f aRivals = .inl (g 1, 1000, .inr (.inl vRivals))) (m_aGone : aGone ∈ L) (e_aGone : f aGone = .inl (g 1, 1000, .inr (.inl vGone))) (m_aOrder : aOrder ∈ L) (e_aOrder : f aOrder = .inl (g 0, 1000, .inl vOrder)) (m_aOffAt : aOffAt ∈ L) (e_aOffAt : f aOffAt = .inl (g 0, 1000, .inl vOffAt)) (m_aIsOff : aIsOff ∈ L) (e_aIsOff : f aIsOff = .inl (g 2, 1000, .inl vIsOff)) (m_aAlone : aAlone ∈ L) (e_aAlone : f aAlone = .inl (g 0, 4096, .inl vAlone)) (m_aKept : aKept ∈ L) (e_aKept : f aKept = .inl (g 0, 4096, .inl vKept))    (hM : mX9_putTag vSize vSeed vRow sq t = some z) : cI l yX9_putTag wsX9_putTag { frames := 2, cells := 0, slots := 0, locals := 51 } D g [.ref y, .int sq, .long t] L f 0 0 (fun x L1 f1 => x = z.1 ∧ L1 = L ∧ (∀ b, b ∈ L → b ≠ aRow → f1 b = f b) ∧ f1 aRow = .inl (g 0, 122880, .inl z.2)) := by
  refine cI_of (cc := cX9_putTag) (maxL := 11) (ret := (some .boolean)) (by decide) rfl (Nat.le_of_ble_eq_true rfl) ?_
  intro szz p e s m below meth c hx hb hr hml hts hown hlk hnm S ls hl
  have hl : lv_has ls 11 [(0, .ref y), (1, .int sq), (2, .long t)] := hl
  have in_X9 : ∀ w ∈ wsX90, w ∈ wsX9_putTag := gu_wsX9_putTag_3
  have n_y_aRow : y ≠ aRow := ne_ir e_aRow e_y
  have n_aSize_aRow : aSize ≠ aRow := ne_len e_aRow e_aSize (by decide)
  have n_aWorlds_aRow : aWorlds ≠ aRow := ne_len e_aRow e_aWorlds (by decide)
  have n_aInWorld_aRow : aInWorld ≠ aRow := ne_len e_aRow e_aInWorld (by decide)
  have n_aKind_aRow : aKind ≠ aRow := ne_len e_aRow e_aKind (by decide)
  have n_aMarks_aRow : aMarks ≠ aRow := ne_len e_aRow e_aMarks (by decide)
  have n_aSeed_aRow : aSeed ≠ aRow := ne_len e_aRow e_aSeed (by decide)
  have n_aContents_aRow : aContents ≠ aRow := ne_len e_aRow e_aContents (by decide)
  have n_aContentMany_aRow : aContentMany ≠ aRow := ne_len e_aRow e_aContentMany (by decide)
  have n_aBits_aRow : aBits ≠ aRow := ne_len e_aRow e_aBits (by decide)
  have n_aLayerSize_aRow : aLayerSize ≠ aRow := ne_len e_aRow e_aLayerSize (by decide)
  have n_aLayerCame_aRow : aLayerCame ≠ aRow := ne_len e_aRow e_aLayerCame (by decide)
  have n_aRest_aRow : aRest ≠ aRow := ne_len e_aRow e_aRest (by decide)
  have n_aRestMany_aRow : aRestMany ≠ aRow := ne_len e_aRow e_aRestMany (by decide)
  have n_aCome_aRow : aCome ≠ aRow := ne_len e_aRow e_aCome (by decide)
  have n_aRivals_aRow : aRivals ≠ aRow := ne_len e_aRow e_aRivals (by decide)
  have n_aGone_aRow : aGone ≠ aRow := ne_len e_aRow e_aGone (by decide)
  have n_aOrder_aRow : aOrder ≠ aRow := ne_len e_aRow e_aOrder (by decide)
  have n_aOffAt_aRow : aOffAt ≠ aRow := ne_len e_aRow e_aOffAt (by decide)
  have n_aIsOff_aRow : aIsOff ≠ aRow := ne_len e_aRow e_aIsOff (by decide)
  have n_aAlone_aRow : aAlone ≠ aRow := ne_len e_aRow e_aAlone (by decide)
  have n_aKept_aRow : aKept ≠ aRow := ne_len e_aRow e_aKept (by decide)
  have fr : ∀ b, b ∈ L → b ≠ aRow → f b = f b := fun _ _ _ => rfl
  unfold mX9_putTag at hM
  refine W_gen (fun QQ hQQ => ?_)
  refine lv_iload_n hx hb dX9_putTag_0 rfl (lv_at hl 1 rfl) ?_
  refine lv_sipush (v := (4096 : Int32)) hx hb dX9_putTag_1 (by decide) ?_
  refine lv_imul hx hb dX9_putTag_4 ?_
  refine lv_istore (lv' := [(4, .int (sq * (4096 : Int32))), (0, .ref y), (1, .int sq), (2, .long t)]) hx hb dX9_putTag_5 hl (by decide) rfl (fun ls hl => ?_)
  refine lv_lload_n hx hb dX9_putTag_7 rfl (lv_at hl 3 rfl) ?_
  refine lv_aload_n hx hb dX9_putTag_8 rfl (lv_at hl 1 rfl) ?_
  refine q_get hx hb hts in_X9 hown S m_y e_y (C := RX9) (T := TX9) (N := 23) rfl 5 (by decide) rfl (hts (.fieldLink RX9 26 "SieveCabinetModel" "seed" "[I") (gu_wsX9_putTag_1 _ gm_0)) dX9_putTag_9 ?_
  refine lv_iload_n hx hb dX9_putTag_12 rfl (lv_at hl 2 rfl) ?_
  obtain ⟨hi13, hM⟩ := ckx hM
  refine q_iald hx hb S m_aSeed e_aSeed hi13 dX9_putTag_13 ?_
  obtain ⟨z14, hz14, hM⟩ := bind_some hM
  refine q_sl (As := [.long t, .int (vSeed (Int32.toNatClampNeg sq))]) (rest := []) ⟨hx, hb, hml, hown, hts⟩ (k_X9_mix l D g hz14) (va_cwS 2 hts gX9_putTag_X9_mix rfl rfl rfl (by decide +kernel) ⟨Nat.le_of_ble_eq_true rfl, Nat.le_of_ble_eq_true rfl⟩) S rfl hl.1 rfl (Nat.le_of_ble_eq_true rfl) dX9_putTag_14 ⟨Nat.le_of_ble_eq_true rfl, Nat.le_of_ble_eq_true rfl⟩ (fun r3 L1 f2 H locs S w14 => ?_)
  obtain ⟨ex14, eL, ef⟩ := w14
  rw [eL, ef] at S
  replace ex14 := ex14.symm
  subst ex14
  obtain ⟨z17, hz17, hM⟩ := bind_some hM
  refine q_si (As := [.long z14]) (rest := []) ⟨hx, hb, hml, hown, hts⟩ (k_X9_tagOf l D g hz17) (va_cwS 1 hts gX9_putTag_X9_tagOf rfl rfl rfl (by decide +kernel) ⟨Nat.le_of_ble_eq_true rfl, Nat.le_of_ble_eq_true rfl⟩) S rfl hl.1 rfl (Nat.le_of_ble_eq_true rfl) dX9_putTag_17 ⟨Nat.le_of_ble_eq_true rfl, Nat.le_of_ble_eq_true rfl⟩ (fun r6 L4 f5 H locs S w17 => ?_)
  obtain ⟨ex17, eL, ef⟩ := w17
  rw [eL, ef] at S
  replace ex17 := ex17.symm
  subst ex17
  refine lv_istore (lv' := [(5, .int z17), (4, .int (sq * (4096 : Int32))), (0, .ref y), (1, .int sq), (2, .long t)]) hx hb dX9_putTag_20 hl (by decide) rfl (fun ls hl => ?_)
  refine lv_aload_n hx hb dX9_putTag_22 rfl (lv_at hl 2 rfl) ?_
  refine lv_iload_n hx hb dX9_putTag_23 rfl (lv_at hl 3 rfl) ?_
  refine lv_lload_n hx hb dX9_putTag_24 rfl (lv_at hl 4 rfl) ?_
  refine lv_iconst (v := (0 : Int32)) hx hb dX9_putTag_25 (by decide) ?_
  obtain ⟨z26, hz26, hM⟩ := bind_some hM
  refine q_vi (As := [.int sq, .long t, .int (0 : Int32)]) (rest := []) ⟨hx, hb, hml, hown, hts⟩ (k_X9_nestOf l D g m_y e_y m_aSize e_aSize m_aSeed e_aSeed hz26) (cwV 3 hts gX9_putTag_X9_nestOf rfl rfl rfl (by decide +kernel) ⟨Nat.le_of_ble_eq_true rfl, Nat.le_of_ble_eq_true rfl⟩) S m_y e_y (T := TX9) (N := 23) rfl rfl hl.1 rfl (Nat.le_of_ble_eq_true rfl) dX9_putTag_26 ⟨Nat.le_of_ble_eq_true rfl, Nat.le_of_ble_eq_true rfl⟩ (fun r9 L7 f8 H locs S w26 => ?_)
  obtain ⟨ex26, eL, ef⟩ := w26
  rw [eL, ef] at S
  replace ex26 := ex26.symm
  subst ex26
  refine lv_istore (lv' := [(6, .int z26), (5, .int z17), (4, .int (sq * (4096 : Int32))), (0, .ref y), (1, .int sq), (2, .long t)]) hx hb dX9_putTag_29 hl (by decide) rfl (fun ls hl => ?_)
  refine lv_aload_n hx hb dX9_putTag_31 rfl (lv_at hl 3 rfl) ?_
  refine q_get hx hb hts in_X9 hown S m_y e_y (C := RX9) (T := TX9) (N := 23) rfl 8 (by decide) rfl (hts (.fieldLink RX9 36 "SieveCabinetModel" "row" "[I") (gu_wsX9_putTag_1 _ gm_1)) dX9_putTag_32 ?_
  refine lv_iload hx hb dX9_putTag_35 (lv_at hl 2 rfl) ?_
  refine lv_iconst (v := (4 : Int32)) hx hb dX9_putTag_37 (by decide) ?_
  refine lv_iload hx hb dX9_putTag_38 (lv_at hl 0 rfl) ?_
  refine lv_imul hx hb dX9_putTag_40 ?_
  refine lv_iadd hx hb dX9_putTag_41 ?_
  obtain ⟨z42, hz42, hM⟩ := bind_some hM
  refine q_si (As := [.ref aRow, .int ((sq * (4096 : Int32)) + ((4 : Int32) * z26))]) (rest := []) ⟨hx, hb, hml, hown, hts⟩ (k_X9_emptyPlace l D g m_aRow e_aRow hz42) (va_cwS 2 hts gX9_putTag_X9_emptyPlace rfl rfl rfl (by decide +kernel) ⟨Nat.le_of_ble_eq_true rfl, Nat.le_of_ble_eq_true rfl⟩) S rfl hl.1 rfl (Nat.le_of_ble_eq_true rfl) dX9_putTag_42 ⟨Nat.le_of_ble_eq_true rfl, Nat.le_of_ble_eq_true rfl⟩ (fun r12 L10 f11 H locs S w42 => ?_)
  obtain ⟨ex42, eL, ef⟩ := w42
  rw [eL, ef] at S
  replace ex42 := ex42.symm
  subst ex42
  refine lv_istore (lv' := [(7, .int z42), (6, .int z26), (5, .int z17), (4, .int (sq * (4096 : Int32))), (0, .ref y), (1, .int sq), (2, .long t)]) hx hb dX9_putTag_45 hl (by decide) rfl (fun ls hl => ?_)
  refine lv_iload hx hb dX9_putTag_47 (lv_at hl 0 rfl) ?_
  refine lv_if_ge (tgt := 73) hx hb dX9_putTag_49 (by decide) (fun b49 => ?_) (fun b49 => ?_)
  · have hM := itT b49 hM
    refine lv_iconst (v := (0 : Int32)) hx hb dX9_putTag_73 (by decide) ?_
    refine lv_istore (lv' := [(8, .int (0 : Int32)), (7, .int z42), (6, .int z26), (5, .int z17), (4, .int (sq * (4096 : Int32))), (0, .ref y), (1, .int sq), (2, .long t)]) hx hb dX9_putTag_74 hl (by decide) rfl (fun ls hl => ?_)
    obtain ⟨o76, ho76, hM⟩ := bind_some hM
    have EX76 : ∀ (fl76 : Nat → va_E) (H : Heap) (locs : List Loc) (ls : Array Slot), PS D g (va_A (va_pl L f) szz) s.heap s L fl76 H locs → fl76 y = .inr (7, [.ref aWorlds, .ref aInWorld, .ref aKind, .ref aSize, .ref aMarks, .ref aSeed, .ref aContents, .ref aContentMany, .ref aRow, .ref aBits, .ref aLayerSize, .ref aLayerCame, .ref aRest, .ref aRestMany, .int many, .ref aCome, .ref aRivals, .ref aGone, .ref aOrder, .ref aOffAt, .ref aIsOff, .ref aAlone, .ref aKept]) → fl76 aWorlds = .inl (g 1, 8000, .inr (.inl vWorlds)) → fl76 aInWorld = .inl (g 0, 8, .inl vInWorld) → fl76 aKind = .inl (g 0, 30, .inl vKind) → fl76 aSize = .inl (g 0, 30, .inl vSize) → fl76 aMarks = .inl (g 0, 30, .inl vMarks) → fl76 aSeed = .inl (g 0, 30, .inl vSeed) → fl76 aContents = .inl (g 1, 30000, .inr (.inl vContents)) → fl76 aContentMany = .inl (g 0, 30, .inl vContentMany) → fl76 aRow = .inl (g 0, 122880, .inl o76.2.2.2.2) → fl76 aBits = .inl (g 0, 76800, .inl vBits) → fl76 aLayerSize = .inl (g 0, 600, .inl vLayerSize) → fl76 aLayerCame = .inl (g 0, 600, .inl vLayerCame) → fl76 aRest = .inl (g 1, 30000, .inr (.inl vRest)) → fl76 aRestMany = .inl (g 0, 30, .inl vRestMany) → fl76 aCome = .inl (g 1, 1000, .inr (.inl vCome)) → fl76 aRivals = .inl (g 1, 1000, .inr (.inl vRivals)) → fl76 aGone = .inl (g 1, 1000, .inr (.inl vGone)) → fl76 aOrder = .inl (g 0, 1000, .inl vOrder) → fl76 aOffAt = .inl (g 0, 1000, .inl vOffAt) → fl76 aIsOff = .inl (g 2, 1000, .inl vIsOff) → fl76 aAlone = .inl (g 0, 4096, .inl vAlone) → fl76 aKept = .inl (g 0, 4096, .inl vKept) → (∀ b, b ∈ L → b ≠ aRow → fl76 b = f b) → lv_has ls 11 [(7, .int o76.2.1), (5, .int o76.2.2.2.1), (0, .ref y)] → W p l e { frames := 2, cells := 0, slots := 0, locals := 51 } s m [.ref y, .int sq, .long t].toArray below meth c H locs 0 0 QQ (F0 m 162 ls []) := by
      intro fl76 H locs ls S e_y e_aWorlds e_aInWorld e_aKind e_aSize e_aMarks e_aSeed e_aContents e_aContentMany e_aRow e_aBits e_aLayerSize e_aLayerCame e_aRest e_aRestMany e_aCome e_aRivals e_aGone e_aOrder e_aOffAt e_aIsOff e_aAlone e_aKept fr hl
      refine lv_iload hx hb dX9_putTag_162 (lv_at hl 0 rfl) ?_
      refine lv_if_lt (tgt := 176) hx hb dX9_putTag_164 (by decide) (fun b164 => ?_) (fun b164 => ?_)
      · have hM := itT b164 hM
        refine lv_iload hx hb dX9_putTag_176 (lv_at hl 0 rfl) ?_
        refine lv_if_lt (tgt := 185) hx hb dX9_putTag_178 (by decide) (fun b178 => ?_) (fun b178 => ?_)
        · have hM := itT b178 hM
          refine lv_iconst (v := (0 : Int32)) hx hb dX9_putTag_185 (by decide) ?_
          subst hQQ
          exact q_retz (post := fun x L1 f1 => x = z.1 ∧ L1 = L ∧ (∀ b, b ∈ L → b ≠ aRow → f1 b = f b) ∧ f1 aRow = .inl (g 0, 122880, .inl z.2)) hx hb hr hlk S dX9_putTag_186 (by decide) (by decide) (by decide) (by have hz := Option.some.inj hM; subst hz; exact ⟨rfl, rfl, fr, e_aRow⟩)
        · have hM := itF b178 hM
          refine lv_iconst (v := (1 : Int32)) hx hb dX9_putTag_181 (by decide) ?_
          refine lv_goto (tgt := 186) hx hb dX9_putTag_182 (by decide) ?_
          subst hQQ
          exact q_retz (post := fun x L1 f1 => x = z.1 ∧ L1 = L ∧ (∀ b, b ∈ L → b ≠ aRow → f1 b = f b) ∧ f1 aRow = .inl (g 0, 122880, .inl z.2)) hx hb hr hlk S dX9_putTag_186 (by decide) (by decide) (by decide) (by have hz := Option.some.inj hM; subst hz; exact ⟨rfl, rfl, fr, e_aRow⟩)
      · have hM := itF b164 hM
        refine lv_aload_n hx hb dX9_putTag_167 rfl (lv_at hl 2 rfl) ?_
        refine q_get hx hb hts in_X9 hown S m_y e_y (C := RX9) (T := TX9) (N := 23) rfl 8 (by decide) rfl (hts (.fieldLink RX9 36 "SieveCabinetModel" "row" "[I") (gu_wsX9_putTag_1 _ gm_1)) dX9_putTag_168 ?_
        refine lv_iload hx hb dX9_putTag_171 (lv_at hl 0 rfl) ?_
        refine lv_iload hx hb dX9_putTag_173 (lv_at hl 1 rfl) ?_
        obtain ⟨hi175, hM⟩ := ckx hM
        refine k_iast hx hb S m_aRow e_aRow hi175 dX9_putTag_175 (fun f13 ef13 H locs S => ?_)
        have e_aRow := up_self ef13
        have fr : ∀ b, b ∈ L → b ≠ aRow → f13 b = f b := fun b mb nb0 => (up_ne ef13 nb0 rfl).trans (fr b mb nb0)
        refine lv_iload hx hb dX9_putTag_176 (lv_at hl 0 rfl) ?_
        refine lv_if_lt (tgt := 185) hx hb dX9_putTag_178 (by decide) (fun b178 => ?_) (fun b178 => ?_)
        · have hM := itT b178 hM
          refine lv_iconst (v := (0 : Int32)) hx hb dX9_putTag_185 (by decide) ?_
          subst hQQ
          exact q_retz (post := fun x L1 f1 => x = z.1 ∧ L1 = L ∧ (∀ b, b ∈ L → b ≠ aRow → f1 b = f b) ∧ f1 aRow = .inl (g 0, 122880, .inl z.2)) hx hb hr hlk S dX9_putTag_186 (by decide) (by decide) (by decide) (by have hz := Option.some.inj hM; subst hz; exact ⟨rfl, rfl, fr, e_aRow⟩)
        · have hM := itF b178 hM
          refine lv_iconst (v := (1 : Int32)) hx hb dX9_putTag_181 (by decide) ?_
          refine lv_goto (tgt := 186) hx hb dX9_putTag_182 (by decide) ?_
          subst hQQ
          exact q_retz (post := fun x L1 f1 => x = z.1 ∧ L1 = L ∧ (∀ b, b ∈ L → b ≠ aRow → f1 b = f b) ∧ f1 aRow = .inl (g 0, 122880, .inl z.2)) hx hb hr hlk S dX9_putTag_186 (by decide) (by decide) (by decide) (by have hz := Option.some.inj hM; subst hz; exact ⟨rfl, rfl, fr, e_aRow⟩)
    have LP76 : ∀ (fu : Nat) (x8_76 : Int32) (x7_76 : Int32) (x6_76 : Int32) (x5_76 : Int32) (caRow_76 : Nat → Int32) (fl76 : Nat → va_E) (H : Heap) (locs : List Loc) (ls : Array Slot), (mX9_putTag_L76 vSize sq) fu x8_76 x7_76 x6_76 x5_76 caRow_76 = some o76 → PS D g (va_A (va_pl L f) szz) s.heap s L fl76 H locs → fl76 y = .inr (7, [.ref aWorlds, .ref aInWorld, .ref aKind, .ref aSize, .ref aMarks, .ref aSeed, .ref aContents, .ref aContentMany, .ref aRow, .ref aBits, .ref aLayerSize, .ref aLayerCame, .ref aRest, .ref aRestMany, .int many, .ref aCome, .ref aRivals, .ref aGone, .ref aOrder, .ref aOffAt, .ref aIsOff, .ref aAlone, .ref aKept]) → fl76 aWorlds = .inl (g 1, 8000, .inr (.inl vWorlds)) → fl76 aInWorld = .inl (g 0, 8, .inl vInWorld) → fl76 aKind = .inl (g 0, 30, .inl vKind) → fl76 aSize = .inl (g 0, 30, .inl vSize) → fl76 aMarks = .inl (g 0, 30, .inl vMarks) → fl76 aSeed = .inl (g 0, 30, .inl vSeed) → fl76 aContents = .inl (g 1, 30000, .inr (.inl vContents)) → fl76 aContentMany = .inl (g 0, 30, .inl vContentMany) → fl76 aRow = .inl (g 0, 122880, .inl caRow_76) → fl76 aBits = .inl (g 0, 76800, .inl vBits) → fl76 aLayerSize = .inl (g 0, 600, .inl vLayerSize) → fl76 aLayerCame = .inl (g 0, 600, .inl vLayerCame) → fl76 aRest = .inl (g 1, 30000, .inr (.inl vRest)) → fl76 aRestMany = .inl (g 0, 30, .inl vRestMany) → fl76 aCome = .inl (g 1, 1000, .inr (.inl vCome)) → fl76 aRivals = .inl (g 1, 1000, .inr (.inl vRivals)) → fl76 aGone = .inl (g 1, 1000, .inr (.inl vGone)) → fl76 aOrder = .inl (g 0, 1000, .inl vOrder) → fl76 aOffAt = .inl (g 0, 1000, .inl vOffAt) → fl76 aIsOff = .inl (g 2, 1000, .inl vIsOff) → fl76 aAlone = .inl (g 0, 4096, .inl vAlone) → fl76 aKept = .inl (g 0, 4096, .inl vKept) → (∀ b, b ∈ L → b ≠ aRow → fl76 b = f b) → lv_has ls 11 [(8, .int x8_76), (7, .int x7_76), (6, .int x6_76), (5, .int x5_76), (4, .int (sq * (4096 : Int32))), (0, .ref y), (1, .int sq)] → W p l e { frames := 2, cells := 0, slots := 0, locals := 51 } s m [.ref y, .int sq, .long t].toArray below meth c H locs 0 0 QQ (F0 m 76 ls []) := by
      intro fu
      induction fu with
      | zero => intro x8_76 x7_76 x6_76 x5_76 caRow_76 fl76 H locs ls ho76 S e_y e_aWorlds e_aInWorld e_aKind e_aSize e_aMarks e_aSeed e_aContents e_aContentMany e_aRow e_aBits e_aLayerSize e_aLayerCame e_aRest e_aRestMany e_aCome e_aRivals e_aGone e_aOrder e_aOffAt e_aIsOff e_aAlone e_aKept fr hl; exact no_some ho76
      | succ fu ih76 =>
        intro x8_76 x7_76 x6_76 x5_76 caRow_76 fl76 H locs ls ho76 S e_y e_aWorlds e_aInWorld e_aKind e_aSize e_aMarks e_aSeed e_aContents e_aContentMany e_aRow e_aBits e_aLayerSize e_aLayerCame e_aRest e_aRestMany e_aCome e_aRivals e_aGone e_aOrder e_aOffAt e_aIsOff e_aAlone e_aKept fr hl
        rw [mX9_putTag_L76] at ho76
        refine lv_iload hx hb dX9_putTag_76 (lv_at hl 0 rfl) ?_
        refine lv_sipush (v := (200 : Int32)) hx hb dX9_putTag_78 (by decide) ?_
        refine lv_icmp_ge (tgt := 162) hx hb dX9_putTag_81 (by decide) (fun b81 => ?_) (fun b81 => ?_)
        · have ho76 := itT b81 ho76
          obtain rfl := Option.some.inj ho76
          exact EX76 fl76 _ _ _ S e_y e_aWorlds e_aInWorld e_aKind e_aSize e_aMarks e_aSeed e_aContents e_aContentMany e_aRow e_aBits e_aLayerSize e_aLayerCame e_aRest e_aRestMany e_aCome e_aRivals e_aGone e_aOrder e_aOffAt e_aIsOff e_aAlone e_aKept fr (lv_sub hl [1, 3, 5] rfl)
        · have ho76 := itF b81 ho76
          refine lv_iload hx hb dX9_putTag_84 (lv_at hl 1 rfl) ?_
          refine lv_if_ge (tgt := 162) hx hb dX9_putTag_86 (by decide) (fun b86 => ?_) (fun b86 => ?_)
          · have ho76 := itT b86 ho76
            obtain rfl := Option.some.inj ho76
            exact EX76 fl76 _ _ _ S e_y e_aWorlds e_aInWorld e_aKind e_aSize e_aMarks e_aSeed e_aContents e_aContentMany e_aRow e_aBits e_aLayerSize e_aLayerCame e_aRest e_aRestMany e_aCome e_aRivals e_aGone e_aOrder e_aOffAt e_aIsOff e_aAlone e_aKept fr (lv_sub hl [1, 3, 5] rfl)
          · have ho76 := itF b86 ho76
            refine lv_iload hx hb dX9_putTag_89 (lv_at hl 4 rfl) ?_
            refine lv_iconst (v := (4 : Int32)) hx hb dX9_putTag_91 (by decide) ?_
            refine lv_iload hx hb dX9_putTag_92 (lv_at hl 2 rfl) ?_
            refine lv_imul hx hb dX9_putTag_94 ?_
            refine lv_iadd hx hb dX9_putTag_95 ?_
            refine lv_iload hx hb dX9_putTag_96 (lv_at hl 0 rfl) ?_
            refine lv_iconst (v := (4 : Int32)) hx hb dX9_putTag_98 (by decide) ?_
            refine lv_irem hx hb dX9_putTag_99 (by decide) ?_
            refine W.eq (g2 := F0 m 100 ls [.int (irm x8_76 (4 : Int32)), .int ((sq * (4096 : Int32)) + ((4 : Int32) * x6_76))]) rfl ?_
            refine lv_iadd hx hb dX9_putTag_100 ?_
            refine lv_topi (fun y101 ey101 => ?_)
            have ho76 := lt_some ho76 ey101
            refine lv_istore (lv' := [(9, .int y101), (8, .int x8_76), (7, .int x7_76), (6, .int x6_76), (5, .int x5_76), (4, .int (sq * (4096 : Int32))), (0, .ref y), (1, .int sq)]) hx hb dX9_putTag_101 hl (by decide) rfl (fun ls hl => ?_)
            refine lv_aload_n hx hb dX9_putTag_103 rfl (lv_at hl 6 rfl) ?_
            refine q_get hx hb hts in_X9 hown S m_y e_y (C := RX9) (T := TX9) (N := 23) rfl 8 (by decide) rfl (hts (.fieldLink RX9 36 "SieveCabinetModel" "row" "[I") (gu_wsX9_putTag_1 _ gm_1)) dX9_putTag_104 ?_
            refine lv_iload hx hb dX9_putTag_107 (lv_at hl 0 rfl) ?_
            obtain ⟨hi109, ho76⟩ := ckx ho76
            refine q_iald hx hb S m_aRow e_aRow hi109 dX9_putTag_109 ?_
            refine lv_istore (lv' := [(10, .int (caRow_76 (Int32.toNatClampNeg y101))), (9, .int y101), (8, .int x8_76), (7, .int x7_76), (6, .int x6_76), (5, .int x5_76), (4, .int (sq * (4096 : Int32))), (0, .ref y), (1, .int sq)]) hx hb dX9_putTag_110 hl (by decide) rfl (fun ls hl => ?_)
            refine lv_aload_n hx hb dX9_putTag_112 rfl (lv_at hl 7 rfl) ?_
            refine q_get hx hb hts in_X9 hown S m_y e_y (C := RX9) (T := TX9) (N := 23) rfl 8 (by decide) rfl (hts (.fieldLink RX9 36 "SieveCabinetModel" "row" "[I") (gu_wsX9_putTag_1 _ gm_1)) dX9_putTag_113 ?_
            refine lv_iload hx hb dX9_putTag_116 (lv_at hl 1 rfl) ?_
            refine lv_iload hx hb dX9_putTag_118 (lv_at hl 5 rfl) ?_
            obtain ⟨hi120, ho76⟩ := ckx ho76
            refine k_iast hx hb S m_aRow e_aRow hi120 dX9_putTag_120 (fun f14 ef14 H locs S => ?_)
            have e_aRow := up_self ef14
            have fr : ∀ b, b ∈ L → b ≠ aRow → f14 b = f b := fun b mb nb0 => (up_ne ef14 nb0 rfl).trans (fr b mb nb0)
            refine lv_iload hx hb dX9_putTag_121 (lv_at hl 0 rfl) ?_
            refine lv_istore (lv' := [(5, .int (caRow_76 (Int32.toNatClampNeg y101))), (10, .int (caRow_76 (Int32.toNatClampNeg y101))), (9, .int y101), (8, .int x8_76), (7, .int x7_76), (6, .int x6_76), (4, .int (sq * (4096 : Int32))), (0, .ref y), (1, .int sq)]) hx hb dX9_putTag_123 hl (by decide) rfl (fun ls hl => ?_)
            refine lv_iload hx hb dX9_putTag_125 (lv_at hl 5 rfl) ?_
            refine lv_iload hx hb dX9_putTag_127 (lv_at hl 0 rfl) ?_
            refine lv_aload_n hx hb dX9_putTag_129 rfl (lv_at hl 7 rfl) ?_
            have e_y := (up_ne ef14 n_y_aRow e_y)
            refine q_get hx hb hts in_X9 hown S m_y e_y (C := RX9) (T := TX9) (N := 23) rfl 3 (by decide) rfl (hts (.fieldLink RX9 20 "SieveCabinetModel" "size" "[I") (gu_wsX9_putTag_1 _ gm_2)) dX9_putTag_130 ?_
            refine lv_iload_n hx hb dX9_putTag_133 rfl (lv_at hl 8 rfl) ?_
            obtain ⟨hi134, ho76⟩ := ckx ho76
            have e_aSize := (up_ne ef14 n_aSize_aRow e_aSize)
            refine q_iald hx hb S m_aSize e_aSize hi134 dX9_putTag_134 ?_
            obtain ⟨z135, hz135, ho76⟩ := bind_some ho76
            refine q_si (As := [.int x6_76, .int (caRow_76 (Int32.toNatClampNeg y101)), .int (vSize (Int32.toNatClampNeg sq))]) (rest := []) ⟨hx, hb, hml, hown, hts⟩ (k_X9_otherNest l D g hz135) (va_cwS 3 hts gX9_putTag_X9_otherNest rfl rfl rfl (by decide +kernel) ⟨Nat.le_of_ble_eq_true rfl, Nat.le_of_ble_eq_true rfl⟩) S rfl hl.1 rfl (Nat.le_of_ble_eq_true rfl) dX9_putTag_135 ⟨Nat.le_of_ble_eq_true rfl, Nat.le_of_ble_eq_true rfl⟩ (fun r17 L15 f16 H locs S w135 => ?_)
            obtain ⟨ex135, eL, ef⟩ := w135
            rw [eL, ef] at S
            replace ex135 := ex135.symm
            subst ex135
            refine lv_istore (lv' := [(6, .int z135), (5, .int (caRow_76 (Int32.toNatClampNeg y101))), (10, .int (caRow_76 (Int32.toNatClampNeg y101))), (9, .int y101), (8, .int x8_76), (7, .int x7_76), (4, .int (sq * (4096 : Int32))), (0, .ref y), (1, .int sq)]) hx hb dX9_putTag_138 hl (by decide) rfl (fun ls hl => ?_)
            refine lv_aload_n hx hb dX9_putTag_140 rfl (lv_at hl 7 rfl) ?_
            refine q_get hx hb hts in_X9 hown S m_y e_y (C := RX9) (T := TX9) (N := 23) rfl 8 (by decide) rfl (hts (.fieldLink RX9 36 "SieveCabinetModel" "row" "[I") (gu_wsX9_putTag_1 _ gm_1)) dX9_putTag_141 ?_
            refine lv_iload hx hb dX9_putTag_144 (lv_at hl 6 rfl) ?_
            refine lv_iconst (v := (4 : Int32)) hx hb dX9_putTag_146 (by decide) ?_
            refine lv_iload hx hb dX9_putTag_147 (lv_at hl 0 rfl) ?_
            refine lv_imul hx hb dX9_putTag_149 ?_
            refine lv_iadd hx hb dX9_putTag_150 ?_
            obtain ⟨z151, hz151, ho76⟩ := bind_some ho76
            refine q_si (As := [.ref aRow, .int ((sq * (4096 : Int32)) + ((4 : Int32) * z135))]) (rest := []) ⟨hx, hb, hml, hown, hts⟩ (k_X9_emptyPlace l D g m_aRow e_aRow hz151) (va_cwS 2 hts gX9_putTag_X9_emptyPlace rfl rfl rfl (by decide +kernel) ⟨Nat.le_of_ble_eq_true rfl, Nat.le_of_ble_eq_true rfl⟩) S rfl hl.1 rfl (Nat.le_of_ble_eq_true rfl) dX9_putTag_151 ⟨Nat.le_of_ble_eq_true rfl, Nat.le_of_ble_eq_true rfl⟩ (fun r20 L18 f19 H locs S w151 => ?_)
            obtain ⟨ex151, eL, ef⟩ := w151
            rw [eL, ef] at S
            replace ex151 := ex151.symm
            subst ex151
            refine lv_istore (lv' := [(7, .int z151), (6, .int z135), (5, .int (caRow_76 (Int32.toNatClampNeg y101))), (10, .int (caRow_76 (Int32.toNatClampNeg y101))), (9, .int y101), (8, .int x8_76), (4, .int (sq * (4096 : Int32))), (0, .ref y), (1, .int sq)]) hx hb dX9_putTag_154 hl (by decide) rfl (fun ls hl => ?_)
            refine lv_iinc (v := (x8_76 + 1)) (lv' := [(8, .int (x8_76 + 1)), (7, .int z151), (6, .int z135), (5, .int (caRow_76 (Int32.toNatClampNeg y101))), (10, .int (caRow_76 (Int32.toNatClampNeg y101))), (9, .int y101), (4, .int (sq * (4096 : Int32))), (0, .ref y), (1, .int sq)]) hx hb dX9_putTag_156 hl (k := 5) rfl rfl (by decide) rfl (fun ls hl => ?_)
            refine lv_goto (tgt := 76) hx hb dX9_putTag_159 (by decide) ?_
            have e_aWorlds := (up_ne ef14 n_aWorlds_aRow e_aWorlds)
            have e_aInWorld := (up_ne ef14 n_aInWorld_aRow e_aInWorld)
            have e_aKind := (up_ne ef14 n_aKind_aRow e_aKind)
            have e_aMarks := (up_ne ef14 n_aMarks_aRow e_aMarks)
            have e_aSeed := (up_ne ef14 n_aSeed_aRow e_aSeed)
            have e_aContents := (up_ne ef14 n_aContents_aRow e_aContents)
            have e_aContentMany := (up_ne ef14 n_aContentMany_aRow e_aContentMany)
            have e_aBits := (up_ne ef14 n_aBits_aRow e_aBits)
            have e_aLayerSize := (up_ne ef14 n_aLayerSize_aRow e_aLayerSize)
            have e_aLayerCame := (up_ne ef14 n_aLayerCame_aRow e_aLayerCame)
            have e_aRest := (up_ne ef14 n_aRest_aRow e_aRest)
            have e_aRestMany := (up_ne ef14 n_aRestMany_aRow e_aRestMany)
            have e_aCome := (up_ne ef14 n_aCome_aRow e_aCome)
            have e_aRivals := (up_ne ef14 n_aRivals_aRow e_aRivals)
            have e_aGone := (up_ne ef14 n_aGone_aRow e_aGone)
            have e_aOrder := (up_ne ef14 n_aOrder_aRow e_aOrder)
            have e_aOffAt := (up_ne ef14 n_aOffAt_aRow e_aOffAt)
            have e_aIsOff := (up_ne ef14 n_aIsOff_aRow e_aIsOff)
            have e_aAlone := (up_ne ef14 n_aAlone_aRow e_aAlone)
            have e_aKept := (up_ne ef14 n_aKept_aRow e_aKept)
            exact ih76 (x8_76 + 1) z151 z135 (caRow_76 (Int32.toNatClampNeg y101)) (upd caRow_76 (Int32.toNatClampNeg y101) x5_76) f14 _ _ _ ho76 S e_y e_aWorlds e_aInWorld e_aKind e_aSize e_aMarks e_aSeed e_aContents e_aContentMany e_aRow e_aBits e_aLayerSize e_aLayerCame e_aRest e_aRestMany e_aCome e_aRivals e_aGone e_aOrder e_aOffAt e_aIsOff e_aAlone e_aKept fr (lv_sub hl [0, 1, 2, 3, 6, 7, 8] rfl)
    exact LP76 FU (0 : Int32) z42 z26 z17 vRow f _ _ _ ho76 S e_y e_aWorlds e_aInWorld e_aKind e_aSize e_aMarks e_aSeed e_aContents e_aContentMany e_aRow e_aBits e_aLayerSize e_aLayerCame e_aRest e_aRestMany e_aCome e_aRivals e_aGone e_aOrder e_aOffAt e_aIsOff e_aAlone e_aKept fr (lv_sub hl [0, 1, 2, 3, 4, 5, 6] rfl)
  · have hM := itF b49 hM
    refine lv_aload_n hx hb dX9_putTag_52 rfl (lv_at hl 4 rfl) ?_
    refine q_get hx hb hts in_X9 hown S m_y e_y (C := RX9) (T := TX9) (N := 23) rfl 8 (by decide) rfl (hts (.fieldLink RX9 36 "SieveCabinetModel" "row" "[I") (gu_wsX9_putTag_1 _ gm_1)) dX9_putTag_53 ?_
    refine lv_iload hx hb dX9_putTag_56 (lv_at hl 3 rfl) ?_
    refine lv_iconst (v := (4 : Int32)) hx hb dX9_putTag_58 (by decide) ?_
    refine lv_aload_n hx hb dX9_putTag_59 rfl (lv_at hl 4 rfl) ?_
    refine lv_iload_n hx hb dX9_putTag_60 rfl (lv_at hl 5 rfl) ?_
    refine lv_lload_n hx hb dX9_putTag_61 rfl (lv_at hl 6 rfl) ?_
    refine lv_iconst (v := (1 : Int32)) hx hb dX9_putTag_62 (by decide) ?_
    obtain ⟨z63, hz63, hM⟩ := bind_some hM
    refine q_vi (As := [.int sq, .long t, .int (1 : Int32)]) (rest := [.int (4 : Int32), .int (sq * (4096 : Int32)), .ref aRow]) ⟨hx, hb, hml, hown, hts⟩ (k_X9_nestOf l D g m_y e_y m_aSize e_aSize m_aSeed e_aSeed hz63) (cwV 3 hts gX9_putTag_X9_nestOf rfl rfl rfl (by decide +kernel) ⟨Nat.le_of_ble_eq_true rfl, Nat.le_of_ble_eq_true rfl⟩) S m_y e_y (T := TX9) (N := 23) rfl rfl hl.1 rfl (Nat.le_of_ble_eq_true rfl) dX9_putTag_63 ⟨Nat.le_of_ble_eq_true rfl, Nat.le_of_ble_eq_true rfl⟩ (fun r23 L21 f22 H locs S w63 => ?_)
    obtain ⟨ex63, eL, ef⟩ := w63
    rw [eL, ef] at S
    replace ex63 := ex63.symm
    subst ex63
    refine lv_imul hx hb dX9_putTag_66 ?_
    refine lv_iadd hx hb dX9_putTag_67 ?_
    obtain ⟨z68, hz68, hM⟩ := bind_some hM
    refine q_si (As := [.ref aRow, .int ((sq * (4096 : Int32)) + ((4 : Int32) * z63))]) (rest := []) ⟨hx, hb, hml, hown, hts⟩ (k_X9_emptyPlace l D g m_aRow e_aRow hz68) (va_cwS 2 hts gX9_putTag_X9_emptyPlace rfl rfl rfl (by decide +kernel) ⟨Nat.le_of_ble_eq_true rfl, Nat.le_of_ble_eq_true rfl⟩) S rfl hl.1 rfl (Nat.le_of_ble_eq_true rfl) dX9_putTag_68 ⟨Nat.le_of_ble_eq_true rfl, Nat.le_of_ble_eq_true rfl⟩ (fun r26 L24 f25 H locs S w68 => ?_)
    obtain ⟨ex68, eL, ef⟩ := w68
    rw [eL, ef] at S
    replace ex68 := ex68.symm
    subst ex68
    refine lv_istore (lv' := [(7, .int z68), (6, .int z26), (5, .int z17), (4, .int (sq * (4096 : Int32))), (0, .ref y), (1, .int sq), (2, .long t)]) hx hb dX9_putTag_71 hl (by decide) rfl (fun ls hl => ?_)
    refine lv_iconst (v := (0 : Int32)) hx hb dX9_putTag_73 (by decide) ?_
    refine lv_istore (lv' := [(8, .int (0 : Int32)), (7, .int z68), (6, .int z26), (5, .int z17), (4, .int (sq * (4096 : Int32))), (0, .ref y), (1, .int sq), (2, .long t)]) hx hb dX9_putTag_74 hl (by decide) rfl (fun ls hl => ?_)
    obtain ⟨o76, ho76, hM⟩ := bind_some hM
    have EX76 : ∀ (fl76 : Nat → va_E) (H : Heap) (locs : List Loc) (ls : Array Slot), PS D g (va_A (va_pl L f) szz) s.heap s L fl76 H locs → fl76 y = .inr (7, [.ref aWorlds, .ref aInWorld, .ref aKind, .ref aSize, .ref aMarks, .ref aSeed, .ref aContents, .ref aContentMany, .ref aRow, .ref aBits, .ref aLayerSize, .ref aLayerCame, .ref aRest, .ref aRestMany, .int many, .ref aCome, .ref aRivals, .ref aGone, .ref aOrder, .ref aOffAt, .ref aIsOff, .ref aAlone, .ref aKept]) → fl76 aWorlds = .inl (g 1, 8000, .inr (.inl vWorlds)) → fl76 aInWorld = .inl (g 0, 8, .inl vInWorld) → fl76 aKind = .inl (g 0, 30, .inl vKind) → fl76 aSize = .inl (g 0, 30, .inl vSize) → fl76 aMarks = .inl (g 0, 30, .inl vMarks) → fl76 aSeed = .inl (g 0, 30, .inl vSeed) → fl76 aContents = .inl (g 1, 30000, .inr (.inl vContents)) → fl76 aContentMany = .inl (g 0, 30, .inl vContentMany) → fl76 aRow = .inl (g 0, 122880, .inl o76.2.2.2.2) → fl76 aBits = .inl (g 0, 76800, .inl vBits) → fl76 aLayerSize = .inl (g 0, 600, .inl vLayerSize) → fl76 aLayerCame = .inl (g 0, 600, .inl vLayerCame) → fl76 aRest = .inl (g 1, 30000, .inr (.inl vRest)) → fl76 aRestMany = .inl (g 0, 30, .inl vRestMany) → fl76 aCome = .inl (g 1, 1000, .inr (.inl vCome)) → fl76 aRivals = .inl (g 1, 1000, .inr (.inl vRivals)) → fl76 aGone = .inl (g 1, 1000, .inr (.inl vGone)) → fl76 aOrder = .inl (g 0, 1000, .inl vOrder) → fl76 aOffAt = .inl (g 0, 1000, .inl vOffAt) → fl76 aIsOff = .inl (g 2, 1000, .inl vIsOff) → fl76 aAlone = .inl (g 0, 4096, .inl vAlone) → fl76 aKept = .inl (g 0, 4096, .inl vKept) → (∀ b, b ∈ L → b ≠ aRow → fl76 b = f b) → lv_has ls 11 [(7, .int o76.2.1), (5, .int o76.2.2.2.1), (0, .ref y)] → W p l e { frames := 2, cells := 0, slots := 0, locals := 51 } s m [.ref y, .int sq, .long t].toArray below meth c H locs 0 0 QQ (F0 m 162 ls []) := by
      intro fl76 H locs ls S e_y e_aWorlds e_aInWorld e_aKind e_aSize e_aMarks e_aSeed e_aContents e_aContentMany e_aRow e_aBits e_aLayerSize e_aLayerCame e_aRest e_aRestMany e_aCome e_aRivals e_aGone e_aOrder e_aOffAt e_aIsOff e_aAlone e_aKept fr hl
      refine lv_iload hx hb dX9_putTag_162 (lv_at hl 0 rfl) ?_
      refine lv_if_lt (tgt := 176) hx hb dX9_putTag_164 (by decide) (fun b164 => ?_) (fun b164 => ?_)
      · have hM := itT b164 hM
        refine lv_iload hx hb dX9_putTag_176 (lv_at hl 0 rfl) ?_
        refine lv_if_lt (tgt := 185) hx hb dX9_putTag_178 (by decide) (fun b178 => ?_) (fun b178 => ?_)
        · have hM := itT b178 hM
          refine lv_iconst (v := (0 : Int32)) hx hb dX9_putTag_185 (by decide) ?_
          subst hQQ
          exact q_retz (post := fun x L1 f1 => x = z.1 ∧ L1 = L ∧ (∀ b, b ∈ L → b ≠ aRow → f1 b = f b) ∧ f1 aRow = .inl (g 0, 122880, .inl z.2)) hx hb hr hlk S dX9_putTag_186 (by decide) (by decide) (by decide) (by have hz := Option.some.inj hM; subst hz; exact ⟨rfl, rfl, fr, e_aRow⟩)
        · have hM := itF b178 hM
          refine lv_iconst (v := (1 : Int32)) hx hb dX9_putTag_181 (by decide) ?_
          refine lv_goto (tgt := 186) hx hb dX9_putTag_182 (by decide) ?_
          subst hQQ
          exact q_retz (post := fun x L1 f1 => x = z.1 ∧ L1 = L ∧ (∀ b, b ∈ L → b ≠ aRow → f1 b = f b) ∧ f1 aRow = .inl (g 0, 122880, .inl z.2)) hx hb hr hlk S dX9_putTag_186 (by decide) (by decide) (by decide) (by have hz := Option.some.inj hM; subst hz; exact ⟨rfl, rfl, fr, e_aRow⟩)
      · have hM := itF b164 hM
        refine lv_aload_n hx hb dX9_putTag_167 rfl (lv_at hl 2 rfl) ?_
        refine q_get hx hb hts in_X9 hown S m_y e_y (C := RX9) (T := TX9) (N := 23) rfl 8 (by decide) rfl (hts (.fieldLink RX9 36 "SieveCabinetModel" "row" "[I") (gu_wsX9_putTag_1 _ gm_1)) dX9_putTag_168 ?_
        refine lv_iload hx hb dX9_putTag_171 (lv_at hl 0 rfl) ?_
        refine lv_iload hx hb dX9_putTag_173 (lv_at hl 1 rfl) ?_
        obtain ⟨hi175, hM⟩ := ckx hM
        refine k_iast hx hb S m_aRow e_aRow hi175 dX9_putTag_175 (fun f27 ef27 H locs S => ?_)
        have e_aRow := up_self ef27
        have fr : ∀ b, b ∈ L → b ≠ aRow → f27 b = f b := fun b mb nb0 => (up_ne ef27 nb0 rfl).trans (fr b mb nb0)
        refine lv_iload hx hb dX9_putTag_176 (lv_at hl 0 rfl) ?_
        refine lv_if_lt (tgt := 185) hx hb dX9_putTag_178 (by decide) (fun b178 => ?_) (fun b178 => ?_)
        · have hM := itT b178 hM
          refine lv_iconst (v := (0 : Int32)) hx hb dX9_putTag_185 (by decide) ?_
          subst hQQ
          exact q_retz (post := fun x L1 f1 => x = z.1 ∧ L1 = L ∧ (∀ b, b ∈ L → b ≠ aRow → f1 b = f b) ∧ f1 aRow = .inl (g 0, 122880, .inl z.2)) hx hb hr hlk S dX9_putTag_186 (by decide) (by decide) (by decide) (by have hz := Option.some.inj hM; subst hz; exact ⟨rfl, rfl, fr, e_aRow⟩)
        · have hM := itF b178 hM
          refine lv_iconst (v := (1 : Int32)) hx hb dX9_putTag_181 (by decide) ?_
          refine lv_goto (tgt := 186) hx hb dX9_putTag_182 (by decide) ?_
          subst hQQ
          exact q_retz (post := fun x L1 f1 => x = z.1 ∧ L1 = L ∧ (∀ b, b ∈ L → b ≠ aRow → f1 b = f b) ∧ f1 aRow = .inl (g 0, 122880, .inl z.2)) hx hb hr hlk S dX9_putTag_186 (by decide) (by decide) (by decide) (by have hz := Option.some.inj hM; subst hz; exact ⟨rfl, rfl, fr, e_aRow⟩)
    have LP76 : ∀ (fu : Nat) (x8_76 : Int32) (x7_76 : Int32) (x6_76 : Int32) (x5_76 : Int32) (caRow_76 : Nat → Int32) (fl76 : Nat → va_E) (H : Heap) (locs : List Loc) (ls : Array Slot), (mX9_putTag_L76 vSize sq) fu x8_76 x7_76 x6_76 x5_76 caRow_76 = some o76 → PS D g (va_A (va_pl L f) szz) s.heap s L fl76 H locs → fl76 y = .inr (7, [.ref aWorlds, .ref aInWorld, .ref aKind, .ref aSize, .ref aMarks, .ref aSeed, .ref aContents, .ref aContentMany, .ref aRow, .ref aBits, .ref aLayerSize, .ref aLayerCame, .ref aRest, .ref aRestMany, .int many, .ref aCome, .ref aRivals, .ref aGone, .ref aOrder, .ref aOffAt, .ref aIsOff, .ref aAlone, .ref aKept]) → fl76 aWorlds = .inl (g 1, 8000, .inr (.inl vWorlds)) → fl76 aInWorld = .inl (g 0, 8, .inl vInWorld) → fl76 aKind = .inl (g 0, 30, .inl vKind) → fl76 aSize = .inl (g 0, 30, .inl vSize) → fl76 aMarks = .inl (g 0, 30, .inl vMarks) → fl76 aSeed = .inl (g 0, 30, .inl vSeed) → fl76 aContents = .inl (g 1, 30000, .inr (.inl vContents)) → fl76 aContentMany = .inl (g 0, 30, .inl vContentMany) → fl76 aRow = .inl (g 0, 122880, .inl caRow_76) → fl76 aBits = .inl (g 0, 76800, .inl vBits) → fl76 aLayerSize = .inl (g 0, 600, .inl vLayerSize) → fl76 aLayerCame = .inl (g 0, 600, .inl vLayerCame) → fl76 aRest = .inl (g 1, 30000, .inr (.inl vRest)) → fl76 aRestMany = .inl (g 0, 30, .inl vRestMany) → fl76 aCome = .inl (g 1, 1000, .inr (.inl vCome)) → fl76 aRivals = .inl (g 1, 1000, .inr (.inl vRivals)) → fl76 aGone = .inl (g 1, 1000, .inr (.inl vGone)) → fl76 aOrder = .inl (g 0, 1000, .inl vOrder) → fl76 aOffAt = .inl (g 0, 1000, .inl vOffAt) → fl76 aIsOff = .inl (g 2, 1000, .inl vIsOff) → fl76 aAlone = .inl (g 0, 4096, .inl vAlone) → fl76 aKept = .inl (g 0, 4096, .inl vKept) → (∀ b, b ∈ L → b ≠ aRow → fl76 b = f b) → lv_has ls 11 [(8, .int x8_76), (7, .int x7_76), (6, .int x6_76), (5, .int x5_76), (4, .int (sq * (4096 : Int32))), (0, .ref y), (1, .int sq)] → W p l e { frames := 2, cells := 0, slots := 0, locals := 51 } s m [.ref y, .int sq, .long t].toArray below meth c H locs 0 0 QQ (F0 m 76 ls []) := by
      intro fu
      induction fu with
      | zero => intro x8_76 x7_76 x6_76 x5_76 caRow_76 fl76 H locs ls ho76 S e_y e_aWorlds e_aInWorld e_aKind e_aSize e_aMarks e_aSeed e_aContents e_aContentMany e_aRow e_aBits e_aLayerSize e_aLayerCame e_aRest e_aRestMany e_aCome e_aRivals e_aGone e_aOrder e_aOffAt e_aIsOff e_aAlone e_aKept fr hl; exact no_some ho76
      | succ fu ih76 =>
        intro x8_76 x7_76 x6_76 x5_76 caRow_76 fl76 H locs ls ho76 S e_y e_aWorlds e_aInWorld e_aKind e_aSize e_aMarks e_aSeed e_aContents e_aContentMany e_aRow e_aBits e_aLayerSize e_aLayerCame e_aRest e_aRestMany e_aCome e_aRivals e_aGone e_aOrder e_aOffAt e_aIsOff e_aAlone e_aKept fr hl
        rw [mX9_putTag_L76] at ho76
        refine lv_iload hx hb dX9_putTag_76 (lv_at hl 0 rfl) ?_
        refine lv_sipush (v := (200 : Int32)) hx hb dX9_putTag_78 (by decide) ?_
        refine lv_icmp_ge (tgt := 162) hx hb dX9_putTag_81 (by decide) (fun b81 => ?_) (fun b81 => ?_)
        · have ho76 := itT b81 ho76
          obtain rfl := Option.some.inj ho76
          exact EX76 fl76 _ _ _ S e_y e_aWorlds e_aInWorld e_aKind e_aSize e_aMarks e_aSeed e_aContents e_aContentMany e_aRow e_aBits e_aLayerSize e_aLayerCame e_aRest e_aRestMany e_aCome e_aRivals e_aGone e_aOrder e_aOffAt e_aIsOff e_aAlone e_aKept fr (lv_sub hl [1, 3, 5] rfl)
        · have ho76 := itF b81 ho76
          refine lv_iload hx hb dX9_putTag_84 (lv_at hl 1 rfl) ?_
          refine lv_if_ge (tgt := 162) hx hb dX9_putTag_86 (by decide) (fun b86 => ?_) (fun b86 => ?_)
          · have ho76 := itT b86 ho76
            obtain rfl := Option.some.inj ho76
            exact EX76 fl76 _ _ _ S e_y e_aWorlds e_aInWorld e_aKind e_aSize e_aMarks e_aSeed e_aContents e_aContentMany e_aRow e_aBits e_aLayerSize e_aLayerCame e_aRest e_aRestMany e_aCome e_aRivals e_aGone e_aOrder e_aOffAt e_aIsOff e_aAlone e_aKept fr (lv_sub hl [1, 3, 5] rfl)
          · have ho76 := itF b86 ho76
            refine lv_iload hx hb dX9_putTag_89 (lv_at hl 4 rfl) ?_
            refine lv_iconst (v := (4 : Int32)) hx hb dX9_putTag_91 (by decide) ?_
            refine lv_iload hx hb dX9_putTag_92 (lv_at hl 2 rfl) ?_
            refine lv_imul hx hb dX9_putTag_94 ?_
            refine lv_iadd hx hb dX9_putTag_95 ?_
            refine lv_iload hx hb dX9_putTag_96 (lv_at hl 0 rfl) ?_
            refine lv_iconst (v := (4 : Int32)) hx hb dX9_putTag_98 (by decide) ?_
            refine lv_irem hx hb dX9_putTag_99 (by decide) ?_
            refine W.eq (g2 := F0 m 100 ls [.int (irm x8_76 (4 : Int32)), .int ((sq * (4096 : Int32)) + ((4 : Int32) * x6_76))]) rfl ?_
            refine lv_iadd hx hb dX9_putTag_100 ?_
            refine lv_topi (fun y101 ey101 => ?_)
            have ho76 := lt_some ho76 ey101
            refine lv_istore (lv' := [(9, .int y101), (8, .int x8_76), (7, .int x7_76), (6, .int x6_76), (5, .int x5_76), (4, .int (sq * (4096 : Int32))), (0, .ref y), (1, .int sq)]) hx hb dX9_putTag_101 hl (by decide) rfl (fun ls hl => ?_)
            refine lv_aload_n hx hb dX9_putTag_103 rfl (lv_at hl 6 rfl) ?_
            refine q_get hx hb hts in_X9 hown S m_y e_y (C := RX9) (T := TX9) (N := 23) rfl 8 (by decide) rfl (hts (.fieldLink RX9 36 "SieveCabinetModel" "row" "[I") (gu_wsX9_putTag_1 _ gm_1)) dX9_putTag_104 ?_
            refine lv_iload hx hb dX9_putTag_107 (lv_at hl 0 rfl) ?_
            obtain ⟨hi109, ho76⟩ := ckx ho76
            refine q_iald hx hb S m_aRow e_aRow hi109 dX9_putTag_109 ?_
            refine lv_istore (lv' := [(10, .int (caRow_76 (Int32.toNatClampNeg y101))), (9, .int y101), (8, .int x8_76), (7, .int x7_76), (6, .int x6_76), (5, .int x5_76), (4, .int (sq * (4096 : Int32))), (0, .ref y), (1, .int sq)]) hx hb dX9_putTag_110 hl (by decide) rfl (fun ls hl => ?_)
            refine lv_aload_n hx hb dX9_putTag_112 rfl (lv_at hl 7 rfl) ?_
            refine q_get hx hb hts in_X9 hown S m_y e_y (C := RX9) (T := TX9) (N := 23) rfl 8 (by decide) rfl (hts (.fieldLink RX9 36 "SieveCabinetModel" "row" "[I") (gu_wsX9_putTag_1 _ gm_1)) dX9_putTag_113 ?_
            refine lv_iload hx hb dX9_putTag_116 (lv_at hl 1 rfl) ?_
            refine lv_iload hx hb dX9_putTag_118 (lv_at hl 5 rfl) ?_
            obtain ⟨hi120, ho76⟩ := ckx ho76
            refine k_iast hx hb S m_aRow e_aRow hi120 dX9_putTag_120 (fun f28 ef28 H locs S => ?_)
            have e_aRow := up_self ef28
            have fr : ∀ b, b ∈ L → b ≠ aRow → f28 b = f b := fun b mb nb0 => (up_ne ef28 nb0 rfl).trans (fr b mb nb0)
            refine lv_iload hx hb dX9_putTag_121 (lv_at hl 0 rfl) ?_
            refine lv_istore (lv' := [(5, .int (caRow_76 (Int32.toNatClampNeg y101))), (10, .int (caRow_76 (Int32.toNatClampNeg y101))), (9, .int y101), (8, .int x8_76), (7, .int x7_76), (6, .int x6_76), (4, .int (sq * (4096 : Int32))), (0, .ref y), (1, .int sq)]) hx hb dX9_putTag_123 hl (by decide) rfl (fun ls hl => ?_)
            refine lv_iload hx hb dX9_putTag_125 (lv_at hl 5 rfl) ?_
            refine lv_iload hx hb dX9_putTag_127 (lv_at hl 0 rfl) ?_
            refine lv_aload_n hx hb dX9_putTag_129 rfl (lv_at hl 7 rfl) ?_
            have e_y := (up_ne ef28 n_y_aRow e_y)
            refine q_get hx hb hts in_X9 hown S m_y e_y (C := RX9) (T := TX9) (N := 23) rfl 3 (by decide) rfl (hts (.fieldLink RX9 20 "SieveCabinetModel" "size" "[I") (gu_wsX9_putTag_1 _ gm_2)) dX9_putTag_130 ?_
            refine lv_iload_n hx hb dX9_putTag_133 rfl (lv_at hl 8 rfl) ?_
            obtain ⟨hi134, ho76⟩ := ckx ho76
            have e_aSize := (up_ne ef28 n_aSize_aRow e_aSize)
            refine q_iald hx hb S m_aSize e_aSize hi134 dX9_putTag_134 ?_
            obtain ⟨z135, hz135, ho76⟩ := bind_some ho76
            refine q_si (As := [.int x6_76, .int (caRow_76 (Int32.toNatClampNeg y101)), .int (vSize (Int32.toNatClampNeg sq))]) (rest := []) ⟨hx, hb, hml, hown, hts⟩ (k_X9_otherNest l D g hz135) (va_cwS 3 hts gX9_putTag_X9_otherNest rfl rfl rfl (by decide +kernel) ⟨Nat.le_of_ble_eq_true rfl, Nat.le_of_ble_eq_true rfl⟩) S rfl hl.1 rfl (Nat.le_of_ble_eq_true rfl) dX9_putTag_135 ⟨Nat.le_of_ble_eq_true rfl, Nat.le_of_ble_eq_true rfl⟩ (fun r31 L29 f30 H locs S w135 => ?_)
            obtain ⟨ex135, eL, ef⟩ := w135
            rw [eL, ef] at S
            replace ex135 := ex135.symm
            subst ex135
            refine lv_istore (lv' := [(6, .int z135), (5, .int (caRow_76 (Int32.toNatClampNeg y101))), (10, .int (caRow_76 (Int32.toNatClampNeg y101))), (9, .int y101), (8, .int x8_76), (7, .int x7_76), (4, .int (sq * (4096 : Int32))), (0, .ref y), (1, .int sq)]) hx hb dX9_putTag_138 hl (by decide) rfl (fun ls hl => ?_)
            refine lv_aload_n hx hb dX9_putTag_140 rfl (lv_at hl 7 rfl) ?_
            refine q_get hx hb hts in_X9 hown S m_y e_y (C := RX9) (T := TX9) (N := 23) rfl 8 (by decide) rfl (hts (.fieldLink RX9 36 "SieveCabinetModel" "row" "[I") (gu_wsX9_putTag_1 _ gm_1)) dX9_putTag_141 ?_
            refine lv_iload hx hb dX9_putTag_144 (lv_at hl 6 rfl) ?_
            refine lv_iconst (v := (4 : Int32)) hx hb dX9_putTag_146 (by decide) ?_
            refine lv_iload hx hb dX9_putTag_147 (lv_at hl 0 rfl) ?_
            refine lv_imul hx hb dX9_putTag_149 ?_
            refine lv_iadd hx hb dX9_putTag_150 ?_
            obtain ⟨z151, hz151, ho76⟩ := bind_some ho76
            refine q_si (As := [.ref aRow, .int ((sq * (4096 : Int32)) + ((4 : Int32) * z135))]) (rest := []) ⟨hx, hb, hml, hown, hts⟩ (k_X9_emptyPlace l D g m_aRow e_aRow hz151) (va_cwS 2 hts gX9_putTag_X9_emptyPlace rfl rfl rfl (by decide +kernel) ⟨Nat.le_of_ble_eq_true rfl, Nat.le_of_ble_eq_true rfl⟩) S rfl hl.1 rfl (Nat.le_of_ble_eq_true rfl) dX9_putTag_151 ⟨Nat.le_of_ble_eq_true rfl, Nat.le_of_ble_eq_true rfl⟩ (fun r34 L32 f33 H locs S w151 => ?_)
            obtain ⟨ex151, eL, ef⟩ := w151
            rw [eL, ef] at S
            replace ex151 := ex151.symm
            subst ex151
            refine lv_istore (lv' := [(7, .int z151), (6, .int z135), (5, .int (caRow_76 (Int32.toNatClampNeg y101))), (10, .int (caRow_76 (Int32.toNatClampNeg y101))), (9, .int y101), (8, .int x8_76), (4, .int (sq * (4096 : Int32))), (0, .ref y), (1, .int sq)]) hx hb dX9_putTag_154 hl (by decide) rfl (fun ls hl => ?_)
            refine lv_iinc (v := (x8_76 + 1)) (lv' := [(8, .int (x8_76 + 1)), (7, .int z151), (6, .int z135), (5, .int (caRow_76 (Int32.toNatClampNeg y101))), (10, .int (caRow_76 (Int32.toNatClampNeg y101))), (9, .int y101), (4, .int (sq * (4096 : Int32))), (0, .ref y), (1, .int sq)]) hx hb dX9_putTag_156 hl (k := 5) rfl rfl (by decide) rfl (fun ls hl => ?_)
            refine lv_goto (tgt := 76) hx hb dX9_putTag_159 (by decide) ?_
            have e_aWorlds := (up_ne ef28 n_aWorlds_aRow e_aWorlds)
            have e_aInWorld := (up_ne ef28 n_aInWorld_aRow e_aInWorld)
            have e_aKind := (up_ne ef28 n_aKind_aRow e_aKind)
            have e_aMarks := (up_ne ef28 n_aMarks_aRow e_aMarks)
            have e_aSeed := (up_ne ef28 n_aSeed_aRow e_aSeed)
            have e_aContents := (up_ne ef28 n_aContents_aRow e_aContents)
            have e_aContentMany := (up_ne ef28 n_aContentMany_aRow e_aContentMany)
            have e_aBits := (up_ne ef28 n_aBits_aRow e_aBits)
            have e_aLayerSize := (up_ne ef28 n_aLayerSize_aRow e_aLayerSize)
            have e_aLayerCame := (up_ne ef28 n_aLayerCame_aRow e_aLayerCame)
            have e_aRest := (up_ne ef28 n_aRest_aRow e_aRest)
            have e_aRestMany := (up_ne ef28 n_aRestMany_aRow e_aRestMany)
            have e_aCome := (up_ne ef28 n_aCome_aRow e_aCome)
            have e_aRivals := (up_ne ef28 n_aRivals_aRow e_aRivals)
            have e_aGone := (up_ne ef28 n_aGone_aRow e_aGone)
            have e_aOrder := (up_ne ef28 n_aOrder_aRow e_aOrder)
            have e_aOffAt := (up_ne ef28 n_aOffAt_aRow e_aOffAt)
            have e_aIsOff := (up_ne ef28 n_aIsOff_aRow e_aIsOff)
            have e_aAlone := (up_ne ef28 n_aAlone_aRow e_aAlone)
            have e_aKept := (up_ne ef28 n_aKept_aRow e_aKept)
            exact ih76 (x8_76 + 1) z151 z135 (caRow_76 (Int32.toNatClampNeg y101)) (upd caRow_76 (Int32.toNatClampNeg y101) x5_76) f28 _ _ _ ho76 S e_y e_aWorlds e_aInWorld e_aKind e_aSize e_aMarks e_aSeed e_aContents e_aContentMany e_aRow e_aBits e_aLayerSize e_aLayerCame e_aRest e_aRestMany e_aCome e_aRivals e_aGone e_aOrder e_aOffAt e_aIsOff e_aAlone e_aKept fr (lv_sub hl [0, 1, 2, 3, 6, 7, 8] rfl)
    exact LP76 FU (0 : Int32) z68 z26 z17 vRow f _ _ _ ho76 S e_y e_aWorlds e_aInWorld e_aKind e_aSize e_aMarks e_aSeed e_aContents e_aContentMany e_aRow e_aBits e_aLayerSize e_aLayerCame e_aRest e_aRestMany e_aCome e_aRivals e_aGone e_aOrder e_aOffAt e_aIsOff e_aAlone e_aKept fr (lv_sub hl [0, 1, 2, 3, 4, 5, 6] rfl)

def mX9_doPut_L154 (vSize : Nat → Int32) (vMarks : Nat → Int32) (sq : Int32) (z129 : Int64) : Nat → Int32 → (Nat → Int32) → Option (Int32 × (Nat → Int32))
  | 0, _, _ => none
  | fu + 1, x8_154, caRow_154 => if ix sq 30 = true then (if (vMarks (Int32.toNatClampNeg sq)) ≤ x8_154 then (some (x8_154, caRow_154)) else (if ix sq 30 = true then ((mX9_markOf z129 x8_154 (vSize (Int32.toNatClampNeg sq))).bind fun z177 => if ix ((sq * (4096 : Int32)) + z177) 122880 = true then (if (15 : Int32) ≤ (caRow_154 (Int32.toNatClampNeg ((sq * (4096 : Int32)) + z177))) then (if ix ((sq * (4096 : Int32)) + z177) 122880 = true then (mX9_doPut_L154 vSize vMarks sq z129 fu (x8_154 + 1) (upd caRow_154 (Int32.toNatClampNeg ((sq * (4096 : Int32)) + z177)) (15 : Int32))) else none) else (if ix ((sq * (4096 : Int32)) + z177) 122880 = true then (if ix ((sq * (4096 : Int32)) + z177) 122880 = true then (mX9_doPut_L154 vSize vMarks sq z129 fu (x8_154 + 1) (upd caRow_154 (Int32.toNatClampNeg ((sq * (4096 : Int32)) + z177)) ((caRow_154 (Int32.toNatClampNeg ((sq * (4096 : Int32)) + z177))) + (1 : Int32)))) else none) else none)) else none) else none)) else none
def mX9_doPut_L154_1 (vSize : Nat → Int32) (vMarks : Nat → Int32) (sq : Int32) (z129 : Int64) : Nat → Int32 → (Nat → Int32) → Option (Int32 × (Nat → Int32))
  | 0, _, _ => none
  | fu + 1, x8_154, caRow_154 => if ix sq 30 = true then (if (vMarks (Int32.toNatClampNeg sq)) ≤ x8_154 then (some (x8_154, caRow_154)) else (if ix sq 30 = true then ((mX9_markOf z129 x8_154 (vSize (Int32.toNatClampNeg sq))).bind fun z177 => if ix ((sq * (4096 : Int32)) + z177) 122880 = true then (if (1 : Int32) ≤ (caRow_154 (Int32.toNatClampNeg ((sq * (4096 : Int32)) + z177))) then (if ix ((sq * (4096 : Int32)) + z177) 122880 = true then (mX9_doPut_L154_1 vSize vMarks sq z129 fu (x8_154 + 1) (upd caRow_154 (Int32.toNatClampNeg ((sq * (4096 : Int32)) + z177)) (1 : Int32))) else none) else (if ix ((sq * (4096 : Int32)) + z177) 122880 = true then (if ix ((sq * (4096 : Int32)) + z177) 122880 = true then (mX9_doPut_L154_1 vSize vMarks sq z129 fu (x8_154 + 1) (upd caRow_154 (Int32.toNatClampNeg ((sq * (4096 : Int32)) + z177)) ((caRow_154 (Int32.toNatClampNeg ((sq * (4096 : Int32)) + z177))) + (1 : Int32)))) else none) else none)) else none) else none)) else none
def mX9_doPut_L83 (vSize : Nat → Int32) (sq : Int32) (o35 : Int32 × (Nat → Int32)) : Nat → Int32 → (Nat → Int32) → Option (Int32 × (Nat → Int32))
  | 0, _, _ => none
  | fu + 1, x5_83, caRow_83 => if ix sq 30 = true then (if ((4 : Int32) * (vSize (Int32.toNatClampNeg sq))) ≤ x5_83 then (some (x5_83, caRow_83)) else (if ix x5_83 4096 = true then (if ix ((sq * (4096 : Int32)) + x5_83) 122880 = true then (mX9_doPut_L83 vSize sq o35 fu (x5_83 + 1) (upd caRow_83 (Int32.toNatClampNeg ((sq * (4096 : Int32)) + x5_83)) (o35.2 (Int32.toNatClampNeg x5_83)))) else none) else none)) else none
def mX9_doPut_L35 (vSize : Nat → Int32) (vRow : Nat → Int32) (sq : Int32) : Nat → Int32 → (Nat → Int32) → Option (Int32 × (Nat → Int32))
  | 0, _, _ => none
  | fu + 1, x5_35, caKept_35 => if ix sq 30 = true then (if ((4 : Int32) * (vSize (Int32.toNatClampNeg sq))) ≤ x5_35 then (some (x5_35, caKept_35)) else (if ix ((sq * (4096 : Int32)) + x5_35) 122880 = true then (if ix x5_35 4096 = true then (mX9_doPut_L35 vSize vRow sq fu (x5_35 + 1) (upd caKept_35 (Int32.toNatClampNeg x5_35) (vRow (Int32.toNatClampNeg ((sq * (4096 : Int32)) + x5_35))))) else none) else none)) else none
def mX9_doPut (vKind : Nat → Int32) (vSize : Nat → Int32) (vMarks : Nat → Int32) (vSeed : Nat → Int32) (vContents : Nat → Int64) (vContentMany : Nat → Int32) (vRow : Nat → Int32) (vKept : Nat → Int32) (sq : Int32) (t : Int64) : Option (Int32 × (Nat → Int64) × (Nat → Int32) × (Nat → Int32) × (Nat → Int32)) := if ix sq 30 = true then (if (vContentMany (Int32.toNatClampNeg sq)) = (1000 : Int32) then (some ((-4 : Int32), vContents, vContentMany, vRow, vKept)) else (if ix sq 30 = true then (if (vKind (Int32.toNatClampNeg sq)) = (2 : Int32) then ((mX9_doPut_L35 vSize vRow sq FU (0 : Int32) vKept).bind fun o35 => (mX9_putTag vSize vSeed vRow sq t).bind fun z74 => if z74.1 = 0 then ((mX9_doPut_L83 vSize sq o35 FU (0 : Int32) z74.2).bind fun o83 => some ((-3 : Int32), vContents, vContentMany, o83.2, o35.2)) else (if ix sq 30 = true then (if ix ((sq * (1000 : Int32)) + (vContentMany (Int32.toNatClampNeg sq))) 30000 = true then (if ix sq 30 = true then (if ix sq 30 = true then (if ix sq 30 = true then (some (((upd vContentMany (Int32.toNatClampNeg sq) ((vContentMany (Int32.toNatClampNeg sq)) + (1 : Int32))) (Int32.toNatClampNeg sq)), (vp_updL vContents (Int32.toNatClampNeg ((sq * (1000 : Int32)) + (vContentMany (Int32.toNatClampNeg sq)))) t), (upd vContentMany (Int32.toNatClampNeg sq) ((vContentMany (Int32.toNatClampNeg sq)) + (1 : Int32))), z74.2, o35.2)) else none) else none) else none) else none) else none)) else (if ix sq 30 = true then ((mX9_mix t (vSeed (Int32.toNatClampNeg sq))).bind fun z129 => if ix sq 30 = true then (if (vKind (Int32.toNatClampNeg sq)) = 0 then ((mX9_doPut_L154_1 vSize vMarks sq z129 FU (0 : Int32) vRow).bind fun o154 => if ix sq 30 = true then (if ix ((sq * (1000 : Int32)) + (vContentMany (Int32.toNatClampNeg sq))) 30000 = true then (if ix sq 30 = true then (if ix sq 30 = true then (if ix sq 30 = true then (some (((upd vContentMany (Int32.toNatClampNeg sq) ((vContentMany (Int32.toNatClampNeg sq)) + (1 : Int32))) (Int32.toNatClampNeg sq)), (vp_updL vContents (Int32.toNatClampNeg ((sq * (1000 : Int32)) + (vContentMany (Int32.toNatClampNeg sq)))) t), (upd vContentMany (Int32.toNatClampNeg sq) ((vContentMany (Int32.toNatClampNeg sq)) + (1 : Int32))), o154.2, vKept)) else none) else none) else none) else none) else none) else ((mX9_doPut_L154 vSize vMarks sq z129 FU (0 : Int32) vRow).bind fun o154 => if ix sq 30 = true then (if ix ((sq * (1000 : Int32)) + (vContentMany (Int32.toNatClampNeg sq))) 30000 = true then (if ix sq 30 = true then (if ix sq 30 = true then (if ix sq 30 = true then (some (((upd vContentMany (Int32.toNatClampNeg sq) ((vContentMany (Int32.toNatClampNeg sq)) + (1 : Int32))) (Int32.toNatClampNeg sq)), (vp_updL vContents (Int32.toNatClampNeg ((sq * (1000 : Int32)) + (vContentMany (Int32.toNatClampNeg sq)))) t), (upd vContentMany (Int32.toNatClampNeg sq) ((vContentMany (Int32.toNatClampNeg sq)) + (1 : Int32))), o154.2, vKept)) else none) else none) else none) else none) else none)) else none) else none)) else none)) else none
set_option maxHeartbeats 4000000 in
set_option maxRecDepth 100000 in
theorem k_X9_doPut (l : Launch) (D : va_G) (g : Nat → ClassId) {L : List Nat} {f : Nat → va_E} {aAlone aBits aCome aContentMany aContents aGone aInWorld aIsOff aKept aKind aLayerCame aLayerSize aMarks aOffAt aOrder aRest aRestMany aRivals aRow aSeed aSize aWorlds y : Nat} {many : Int32} {vWorlds : Nat → Int64} {vInWorld : Nat → Int32} {vKind : Nat → Int32} {vSize : Nat → Int32} {vMarks : Nat → Int32} {vSeed : Nat → Int32} {vContents : Nat → Int64} {vContentMany : Nat → Int32} {vRow : Nat → Int32} {vBits : Nat → Int32} {vLayerSize : Nat → Int32} {vLayerCame : Nat → Int32} {vRest : Nat → Int64} {vRestMany : Nat → Int32} {vCome : Nat → Int64} {vRivals : Nat → Int64} {vGone : Nat → Int64} {vOrder : Nat → Int32} {vOffAt : Nat → Int32} {vIsOff : Nat → Int32} {vAlone : Nat → Int32} {vKept : Nat → Int32} {sq : Int32} {t : Int64} {ρ : Nat → Nat × Nat} {z : Int32 × (Nat → Int64) × (Nat → Int32) × (Nat → Int32) × (Nat → Int32)} (m_y : y ∈ L) (e_y : f y = .inr (7, [.ref aWorlds, .ref aInWorld, .ref aKind, .ref aSize, .ref aMarks, .ref aSeed, .ref aContents, .ref aContentMany, .ref aRow, .ref aBits, .ref aLayerSize, .ref aLayerCame, .ref aRest, .ref aRestMany, .int many, .ref aCome, .ref aRivals, .ref aGone, .ref aOrder, .ref aOffAt, .ref aIsOff, .ref aAlone, .ref aKept])) (m_aWorlds : aWorlds ∈ L) (e_aWorlds : f aWorlds = .inl (g 1, 8000, .inr (.inl vWorlds))) (m_aInWorld : aInWorld ∈ L) (e_aInWorld : f aInWorld = .inl (g 0, 8, .inl vInWorld)) (m_aKind : aKind ∈ L) (e_aKind : f aKind = .inl (g 0, 30, .inl vKind)) (m_aSize : aSize ∈ L) (e_aSize : f aSize = .inl (g 0, 30, .inl vSize)) (m_aMarks : aMarks ∈ L) (e_aMarks : f aMarks = .inl (g 0, 30, .inl vMarks)) (m_aSeed : aSeed ∈ L) (e_aSeed : f aSeed = .inl (g 0, 30, .inl vSeed)) (m_aContents : aContents ∈ L) (e_aContents : f aContents = .inl (g 1, 30000, .inr (.inl vContents))) (m_aContentMany : aContentMany ∈ L) (e_aContentMany : f aContentMany = .inl (g 0, 30, .inl vContentMany)) (m_aRow : aRow ∈ L) (e_aRow : f aRow = .inl (g 0, 122880, .inl vRow)) (m_aBits : aBits ∈ L) (e_aBits : f aBits = .inl (g 0, 76800, .inl vBits)) (m_aLayerSize : aLayerSize ∈ L) (e_aLayerSize : f aLayerSize = .inl (g 0, 600, .inl vLayerSize)) (m_aLayerCame : aLayerCame ∈ L) (e_aLayerCame : f aLayerCame = .inl (g 0, 600, .inl vLayerCame)) (m_aRest : aRest ∈ L) (e_aRest : f aRest = .inl (g 1, 30000, .inr (.inl vRest))) (m_aRestMany : aRestMany ∈ L) (e_aRestMany : f aRestMany = .inl (g 0, 30, .inl vRestMany)) (m_aCome : aCome ∈ L) (e_aCome : f aCome = .inl (g 1, 1000, .inr (.inl vCome))) (m_aRivals : aRivals ∈ L) (e_aRivals : f aRivals = .inl (g 1, 1000, .inr (.inl vRivals))) (m_aGone : aGone ∈ L) (e_aGone : f aGone = .inl (g 1, 1000, .inr (.inl vGone))) (m_aOrder : aOrder ∈ L) (e_aOrder : f aOrder = .inl (g 0, 1000, .inl vOrder)) (m_aOffAt : aOffAt ∈ L) (e_aOffAt : f aOffAt = .inl (g 0, 1000, .inl vOffAt)) (m_aIsOff : aIsOff ∈ L) (e_aIsOff : f aIsOff = .inl (g 2, 1000, .inl vIsOff)) (m_aAlone : aAlone ∈ L) (e_aAlone : f aAlone = .inl (g 0, 4096, .inl vAlone)) (m_aKept : aKept ∈ L) (e_aKept : f aKept = .inl (g 0, 4096, .inl vKept))  (r_aAlone : ρ aAlone = (500, 22)) (r_aKept : ρ aKept = (500, 23))  (hM : mX9_doPut vKind vSize vMarks vSeed vContents vContentMany vRow vKept sq t = some z) : cI l yX9_doPut wsX9_doPut { frames := 3, cells := 0, slots := 0, locals := 81 } D g [.ref y, .int sq, .long t] L f 0 0 (fun x L1 f1 => x = z.1 ∧ L1 = L ∧ (∀ b, b ∈ L → b ≠ aContents → b ≠ aContentMany → b ≠ aRow → b ≠ aKept → f1 b = f b) ∧ f1 aContents = .inl (g 1, 30000, .inr (.inl z.2.1)) ∧ f1 aContentMany = .inl (g 0, 30, .inl z.2.2.1) ∧ f1 aRow = .inl (g 0, 122880, .inl z.2.2.2.1) ∧ f1 aKept = .inl (g 0, 4096, .inl z.2.2.2.2)) := by
  refine cI_of (cc := cX9_doPut) (maxL := 10) (ret := (some .int)) (by decide) rfl (Nat.le_of_ble_eq_true rfl) ?_
  intro szz p e s m below meth c hx hb hr hml hts hown hlk hnm S ls hl
  have hl : lv_has ls 10 [(0, .ref y), (1, .int sq), (2, .long t)] := hl
  have in_X9 : ∀ w ∈ wsX90, w ∈ wsX9_doPut := gu_wsX9_doPut_3
  have n_y_aContents : y ≠ aContents := ne_ir e_aContents e_y
  have n_aContentMany_aContents : aContentMany ≠ aContents := ne_len e_aContents e_aContentMany (by decide)
  have n_y_aContentMany : y ≠ aContentMany := ne_ir e_aContentMany e_y
  have n_aContents_aContentMany : aContents ≠ aContentMany := ne_len e_aContentMany e_aContents (by decide)
  have n_aRow_aContents : aRow ≠ aContents := ne_len e_aContents e_aRow (by decide)
  have n_aRow_aContentMany : aRow ≠ aContentMany := ne_len e_aContentMany e_aRow (by decide)
  have n_aKept_aContents : aKept ≠ aContents := ne_len e_aContents e_aKept (by decide)
  have n_aKept_aContentMany : aKept ≠ aContentMany := ne_len e_aContentMany e_aKept (by decide)
  have n_y_aRow : y ≠ aRow := ne_ir e_aRow e_y
  have n_aWorlds_aRow : aWorlds ≠ aRow := ne_len e_aRow e_aWorlds (by decide)
  have n_aInWorld_aRow : aInWorld ≠ aRow := ne_len e_aRow e_aInWorld (by decide)
  have n_aKind_aRow : aKind ≠ aRow := ne_len e_aRow e_aKind (by decide)
  have n_aSize_aRow : aSize ≠ aRow := ne_len e_aRow e_aSize (by decide)
  have n_aMarks_aRow : aMarks ≠ aRow := ne_len e_aRow e_aMarks (by decide)
  have n_aSeed_aRow : aSeed ≠ aRow := ne_len e_aRow e_aSeed (by decide)
  have n_aContents_aRow : aContents ≠ aRow := ne_len e_aRow e_aContents (by decide)
  have n_aContentMany_aRow : aContentMany ≠ aRow := ne_len e_aRow e_aContentMany (by decide)
  have n_aBits_aRow : aBits ≠ aRow := ne_len e_aRow e_aBits (by decide)
  have n_aLayerSize_aRow : aLayerSize ≠ aRow := ne_len e_aRow e_aLayerSize (by decide)
  have n_aLayerCame_aRow : aLayerCame ≠ aRow := ne_len e_aRow e_aLayerCame (by decide)
  have n_aRest_aRow : aRest ≠ aRow := ne_len e_aRow e_aRest (by decide)
  have n_aRestMany_aRow : aRestMany ≠ aRow := ne_len e_aRow e_aRestMany (by decide)
  have n_aCome_aRow : aCome ≠ aRow := ne_len e_aRow e_aCome (by decide)
  have n_aRivals_aRow : aRivals ≠ aRow := ne_len e_aRow e_aRivals (by decide)
  have n_aGone_aRow : aGone ≠ aRow := ne_len e_aRow e_aGone (by decide)
  have n_aOrder_aRow : aOrder ≠ aRow := ne_len e_aRow e_aOrder (by decide)
  have n_aOffAt_aRow : aOffAt ≠ aRow := ne_len e_aRow e_aOffAt (by decide)
  have n_aIsOff_aRow : aIsOff ≠ aRow := ne_len e_aRow e_aIsOff (by decide)
  have n_aAlone_aRow : aAlone ≠ aRow := ne_len e_aRow e_aAlone (by decide)
  have n_aKept_aRow : aKept ≠ aRow := ne_len e_aRow e_aKept (by decide)
  have n_y_aKept : y ≠ aKept := ne_ir e_aKept e_y
  have n_aWorlds_aKept : aWorlds ≠ aKept := ne_len e_aKept e_aWorlds (by decide)
  have n_aInWorld_aKept : aInWorld ≠ aKept := ne_len e_aKept e_aInWorld (by decide)
  have n_aKind_aKept : aKind ≠ aKept := ne_len e_aKept e_aKind (by decide)
  have n_aSize_aKept : aSize ≠ aKept := ne_len e_aKept e_aSize (by decide)
  have n_aMarks_aKept : aMarks ≠ aKept := ne_len e_aKept e_aMarks (by decide)
  have n_aSeed_aKept : aSeed ≠ aKept := ne_len e_aKept e_aSeed (by decide)
  have n_aContents_aKept : aContents ≠ aKept := ne_len e_aKept e_aContents (by decide)
  have n_aContentMany_aKept : aContentMany ≠ aKept := ne_len e_aKept e_aContentMany (by decide)
  have n_aRow_aKept : aRow ≠ aKept := ne_len e_aKept e_aRow (by decide)
  have n_aBits_aKept : aBits ≠ aKept := ne_len e_aKept e_aBits (by decide)
  have n_aLayerSize_aKept : aLayerSize ≠ aKept := ne_len e_aKept e_aLayerSize (by decide)
  have n_aLayerCame_aKept : aLayerCame ≠ aKept := ne_len e_aKept e_aLayerCame (by decide)
  have n_aRest_aKept : aRest ≠ aKept := ne_len e_aKept e_aRest (by decide)
  have n_aRestMany_aKept : aRestMany ≠ aKept := ne_len e_aKept e_aRestMany (by decide)
  have n_aCome_aKept : aCome ≠ aKept := ne_len e_aKept e_aCome (by decide)
  have n_aRivals_aKept : aRivals ≠ aKept := ne_len e_aKept e_aRivals (by decide)
  have n_aGone_aKept : aGone ≠ aKept := ne_len e_aKept e_aGone (by decide)
  have n_aOrder_aKept : aOrder ≠ aKept := ne_len e_aKept e_aOrder (by decide)
  have n_aOffAt_aKept : aOffAt ≠ aKept := ne_len e_aKept e_aOffAt (by decide)
  have n_aIsOff_aKept : aIsOff ≠ aKept := ne_len e_aKept e_aIsOff (by decide)
  have n_aAlone_aKept : aAlone ≠ aKept := role_ne r_aKept r_aAlone (by decide)
  have fr : ∀ b, b ∈ L → b ≠ aContents → b ≠ aContentMany → b ≠ aRow → b ≠ aKept → f b = f b := fun _ _ _ _ _ _ => rfl
  unfold mX9_doPut at hM
  refine W_gen (fun QQ hQQ => ?_)
  refine lv_aload_n hx hb dX9_doPut_0 rfl (lv_at hl 0 rfl) ?_
  refine q_get hx hb hts in_X9 hown S m_y e_y (C := RX9) (T := TX9) (N := 23) rfl 7 (by decide) rfl (hts (.fieldLink RX9 32 "SieveCabinetModel" "contentMany" "[I") (gu_wsX9_doPut_1 _ gm_0)) dX9_doPut_1 ?_
  refine lv_iload_n hx hb dX9_doPut_4 rfl (lv_at hl 1 rfl) ?_
  obtain ⟨hi5, hM⟩ := ckx hM
  refine q_iald hx hb S m_aContentMany e_aContentMany hi5 dX9_doPut_5 ?_
  refine lv_sipush (v := (1000 : Int32)) hx hb dX9_doPut_6 (by decide) ?_
  refine lv_icmp_ne (tgt := 15) hx hb dX9_doPut_9 (by decide) (fun b9 => ?_) (fun b9 => ?_)
  · have hM := itF b9 hM
    refine lv_iload_n hx hb dX9_doPut_15 rfl (lv_at hl 1 rfl) ?_
    refine lv_sipush (v := (4096 : Int32)) hx hb dX9_doPut_16 (by decide) ?_
    refine lv_imul hx hb dX9_doPut_19 ?_
    refine lv_istore (lv' := [(4, .int (sq * (4096 : Int32))), (0, .ref y), (1, .int sq), (2, .long t)]) hx hb dX9_doPut_20 hl (by decide) rfl (fun ls hl => ?_)
    refine lv_aload_n hx hb dX9_doPut_22 rfl (lv_at hl 1 rfl) ?_
    refine q_get hx hb hts in_X9 hown S m_y e_y (C := RX9) (T := TX9) (N := 23) rfl 2 (by decide) rfl (hts (.fieldLink RX9 17 "SieveCabinetModel" "kind" "[I") (gu_wsX9_doPut_1 _ gm_1)) dX9_doPut_23 ?_
    refine lv_iload_n hx hb dX9_doPut_26 rfl (lv_at hl 2 rfl) ?_
    obtain ⟨hi27, hM⟩ := ckx hM
    refine q_iald hx hb S m_aKind e_aKind hi27 dX9_doPut_27 ?_
    refine lv_iconst (v := (2 : Int32)) hx hb dX9_doPut_28 (by decide) ?_
    refine lv_icmp_ne (tgt := 122) hx hb dX9_doPut_29 (by decide) (fun b29 => ?_) (fun b29 => ?_)
    · have hM := itF b29 hM
      refine lv_lload_n hx hb dX9_doPut_122 rfl (lv_at hl 3 rfl) ?_
      refine lv_aload_n hx hb dX9_doPut_123 rfl (lv_at hl 1 rfl) ?_
      refine q_get hx hb hts in_X9 hown S m_y e_y (C := RX9) (T := TX9) (N := 23) rfl 5 (by decide) rfl (hts (.fieldLink RX9 26 "SieveCabinetModel" "seed" "[I") (gu_wsX9_doPut_1 _ gm_5)) dX9_doPut_124 ?_
      refine lv_iload_n hx hb dX9_doPut_127 rfl (lv_at hl 2 rfl) ?_
      obtain ⟨hi128, hM⟩ := ckx hM
      refine q_iald hx hb S m_aSeed e_aSeed hi128 dX9_doPut_128 ?_
      obtain ⟨z129, hz129, hM⟩ := bind_some hM
      refine q_sl (As := [.long t, .int (vSeed (Int32.toNatClampNeg sq))]) (rest := []) ⟨hx, hb, hml, hown, hts⟩ (k_X9_mix l D g hz129) (va_cwS 2 hts gX9_doPut_X9_mix rfl rfl rfl (by decide +kernel) ⟨Nat.le_of_ble_eq_true rfl, Nat.le_of_ble_eq_true rfl⟩) S rfl hl.1 rfl (Nat.le_of_ble_eq_true rfl) dX9_doPut_129 ⟨Nat.le_of_ble_eq_true rfl, Nat.le_of_ble_eq_true rfl⟩ (fun r3 L1 f2 H locs S w129 => ?_)
      obtain ⟨ex129, eL, ef⟩ := w129
      rw [eL, ef] at S
      replace ex129 := ex129.symm
      subst ex129
      refine lv_lstore (lv' := [(5, .long z129), (4, .int (sq * (4096 : Int32))), (0, .ref y), (1, .int sq), (2, .long t)]) hx hb dX9_doPut_132 hl (by decide) rfl (fun ls hl => ?_)
      refine lv_aload_n hx hb dX9_doPut_134 rfl (lv_at hl 2 rfl) ?_
      refine q_get hx hb hts in_X9 hown S m_y e_y (C := RX9) (T := TX9) (N := 23) rfl 2 (by decide) rfl (hts (.fieldLink RX9 17 "SieveCabinetModel" "kind" "[I") (gu_wsX9_doPut_1 _ gm_1)) dX9_doPut_135 ?_
      refine lv_iload_n hx hb dX9_doPut_138 rfl (lv_at hl 3 rfl) ?_
      obtain ⟨hi139, hM⟩ := ckx hM
      refine q_iald hx hb S m_aKind e_aKind hi139 dX9_doPut_139 ?_
      refine lv_if_ne (tgt := 147) hx hb dX9_doPut_140 (by decide) (fun b140 => ?_) (fun b140 => ?_)
      · have hM := itF b140 hM
        refine lv_bipush (v := (15 : Int32)) hx hb dX9_doPut_147 (by decide) ?_
        refine lv_istore (lv' := [(7, .int (15 : Int32)), (5, .long z129), (4, .int (sq * (4096 : Int32))), (0, .ref y), (1, .int sq), (2, .long t)]) hx hb dX9_doPut_149 hl (by decide) rfl (fun ls hl => ?_)
        refine lv_iconst (v := (0 : Int32)) hx hb dX9_doPut_151 (by decide) ?_
        refine lv_istore (lv' := [(8, .int (0 : Int32)), (7, .int (15 : Int32)), (5, .long z129), (4, .int (sq * (4096 : Int32))), (0, .ref y), (1, .int sq), (2, .long t)]) hx hb dX9_doPut_152 hl (by decide) rfl (fun ls hl => ?_)
        obtain ⟨o154, ho154, hM⟩ := bind_some hM
        have EX154 : ∀ (fl154 : Nat → va_E) (H : Heap) (locs : List Loc) (ls : Array Slot), PS D g (va_A (va_pl L f) szz) s.heap s L fl154 H locs → fl154 y = .inr (7, [.ref aWorlds, .ref aInWorld, .ref aKind, .ref aSize, .ref aMarks, .ref aSeed, .ref aContents, .ref aContentMany, .ref aRow, .ref aBits, .ref aLayerSize, .ref aLayerCame, .ref aRest, .ref aRestMany, .int many, .ref aCome, .ref aRivals, .ref aGone, .ref aOrder, .ref aOffAt, .ref aIsOff, .ref aAlone, .ref aKept]) → fl154 aWorlds = .inl (g 1, 8000, .inr (.inl vWorlds)) → fl154 aInWorld = .inl (g 0, 8, .inl vInWorld) → fl154 aKind = .inl (g 0, 30, .inl vKind) → fl154 aSize = .inl (g 0, 30, .inl vSize) → fl154 aMarks = .inl (g 0, 30, .inl vMarks) → fl154 aSeed = .inl (g 0, 30, .inl vSeed) → fl154 aContents = .inl (g 1, 30000, .inr (.inl vContents)) → fl154 aContentMany = .inl (g 0, 30, .inl vContentMany) → fl154 aRow = .inl (g 0, 122880, .inl o154.2) → fl154 aBits = .inl (g 0, 76800, .inl vBits) → fl154 aLayerSize = .inl (g 0, 600, .inl vLayerSize) → fl154 aLayerCame = .inl (g 0, 600, .inl vLayerCame) → fl154 aRest = .inl (g 1, 30000, .inr (.inl vRest)) → fl154 aRestMany = .inl (g 0, 30, .inl vRestMany) → fl154 aCome = .inl (g 1, 1000, .inr (.inl vCome)) → fl154 aRivals = .inl (g 1, 1000, .inr (.inl vRivals)) → fl154 aGone = .inl (g 1, 1000, .inr (.inl vGone)) → fl154 aOrder = .inl (g 0, 1000, .inl vOrder) → fl154 aOffAt = .inl (g 0, 1000, .inl vOffAt) → fl154 aIsOff = .inl (g 2, 1000, .inl vIsOff) → fl154 aAlone = .inl (g 0, 4096, .inl vAlone) → fl154 aKept = .inl (g 0, 4096, .inl vKept) → (∀ b, b ∈ L → b ≠ aContents → b ≠ aContentMany → b ≠ aRow → b ≠ aKept → fl154 b = f b) → lv_has ls 10 [(0, .ref y), (1, .int sq), (2, .long t)] → W p l e { frames := 3, cells := 0, slots := 0, locals := 81 } s m [.ref y, .int sq, .long t].toArray below meth c H locs 0 0 QQ (F0 m 222 ls []) := by
          intro fl154 H locs ls S e_y e_aWorlds e_aInWorld e_aKind e_aSize e_aMarks e_aSeed e_aContents e_aContentMany e_aRow e_aBits e_aLayerSize e_aLayerCame e_aRest e_aRestMany e_aCome e_aRivals e_aGone e_aOrder e_aOffAt e_aIsOff e_aAlone e_aKept fr hl
          refine lv_aload_n hx hb dX9_doPut_222 rfl (lv_at hl 0 rfl) ?_
          refine q_get hx hb hts in_X9 hown S m_y e_y (C := RX9) (T := TX9) (N := 23) rfl 6 (by decide) rfl (hts (.fieldLink RX9 29 "SieveCabinetModel" "contents" "[J") (gu_wsX9_doPut_1 _ gm_7)) dX9_doPut_223 ?_
          refine lv_iload_n hx hb dX9_doPut_226 rfl (lv_at hl 1 rfl) ?_
          refine lv_sipush (v := (1000 : Int32)) hx hb dX9_doPut_227 (by decide) ?_
          refine lv_imul hx hb dX9_doPut_230 ?_
          refine lv_aload_n hx hb dX9_doPut_231 rfl (lv_at hl 0 rfl) ?_
          refine q_get hx hb hts in_X9 hown S m_y e_y (C := RX9) (T := TX9) (N := 23) rfl 7 (by decide) rfl (hts (.fieldLink RX9 32 "SieveCabinetModel" "contentMany" "[I") (gu_wsX9_doPut_1 _ gm_0)) dX9_doPut_232 ?_
          refine lv_iload_n hx hb dX9_doPut_235 rfl (lv_at hl 1 rfl) ?_
          obtain ⟨hi236, hM⟩ := ckx hM
          refine q_iald hx hb S m_aContentMany e_aContentMany hi236 dX9_doPut_236 ?_
          refine lv_iadd hx hb dX9_doPut_237 ?_
          refine lv_lload_n hx hb dX9_doPut_238 rfl (lv_at hl 2 rfl) ?_
          obtain ⟨hi239, hM⟩ := ckx hM
          refine k_last hx hb S m_aContents e_aContents hi239 dX9_doPut_239 (fun f4 ef4 H locs S => ?_)
          have e_aContents := up_self ef4
          have fr : ∀ b, b ∈ L → b ≠ aContents → b ≠ aContentMany → b ≠ aRow → b ≠ aKept → f4 b = f b := fun b mb nb0 nb1 nb2 nb3 => (up_ne ef4 nb0 rfl).trans (fr b mb nb0 nb1 nb2 nb3)
          refine lv_aload_n hx hb dX9_doPut_240 rfl (lv_at hl 0 rfl) ?_
          have e_y := (up_ne ef4 n_y_aContents e_y)
          refine q_get hx hb hts in_X9 hown S m_y e_y (C := RX9) (T := TX9) (N := 23) rfl 7 (by decide) rfl (hts (.fieldLink RX9 32 "SieveCabinetModel" "contentMany" "[I") (gu_wsX9_doPut_1 _ gm_0)) dX9_doPut_241 ?_
          refine lv_iload_n hx hb dX9_doPut_244 rfl (lv_at hl 1 rfl) ?_
          refine lv_dup2_11 hx hb dX9_doPut_245 rfl rfl ?_
          obtain ⟨hi246, hM⟩ := ckx hM
          have e_aContentMany := (up_ne ef4 n_aContentMany_aContents e_aContentMany)
          refine q_iald hx hb S m_aContentMany e_aContentMany hi246 dX9_doPut_246 ?_
          refine lv_iconst (v := (1 : Int32)) hx hb dX9_doPut_247 (by decide) ?_
          refine lv_iadd hx hb dX9_doPut_248 ?_
          obtain ⟨hi249, hM⟩ := ckx hM
          refine k_iast hx hb S m_aContentMany e_aContentMany hi249 dX9_doPut_249 (fun f5 ef5 H locs S => ?_)
          have e_aContentMany := up_self ef5
          have fr : ∀ b, b ∈ L → b ≠ aContents → b ≠ aContentMany → b ≠ aRow → b ≠ aKept → f5 b = f b := fun b mb nb0 nb1 nb2 nb3 => (up_ne ef5 nb1 rfl).trans (fr b mb nb0 nb1 nb2 nb3)
          refine lv_aload_n hx hb dX9_doPut_250 rfl (lv_at hl 0 rfl) ?_
          have e_y := (up_ne ef5 n_y_aContentMany e_y)
          refine q_get hx hb hts in_X9 hown S m_y e_y (C := RX9) (T := TX9) (N := 23) rfl 7 (by decide) rfl (hts (.fieldLink RX9 32 "SieveCabinetModel" "contentMany" "[I") (gu_wsX9_doPut_1 _ gm_0)) dX9_doPut_251 ?_
          refine lv_iload_n hx hb dX9_doPut_254 rfl (lv_at hl 1 rfl) ?_
          obtain ⟨hi255, hM⟩ := ckx hM
          refine q_iald hx hb S m_aContentMany e_aContentMany hi255 dX9_doPut_255 ?_
          have e_aContents := (up_ne ef5 n_aContents_aContentMany e_aContents)
          have e_aRow := (up_ne ef5 n_aRow_aContentMany (up_ne ef4 n_aRow_aContents e_aRow))
          have e_aKept := (up_ne ef5 n_aKept_aContentMany (up_ne ef4 n_aKept_aContents e_aKept))
          subst hQQ
          exact q_reti (post := fun x L1 f1 => x = z.1 ∧ L1 = L ∧ (∀ b, b ∈ L → b ≠ aContents → b ≠ aContentMany → b ≠ aRow → b ≠ aKept → f1 b = f b) ∧ f1 aContents = .inl (g 1, 30000, .inr (.inl z.2.1)) ∧ f1 aContentMany = .inl (g 0, 30, .inl z.2.2.1) ∧ f1 aRow = .inl (g 0, 122880, .inl z.2.2.2.1) ∧ f1 aKept = .inl (g 0, 4096, .inl z.2.2.2.2)) hx hb hr hlk S dX9_doPut_256 (by decide) (by decide) (by have hz := Option.some.inj hM; subst hz; exact ⟨rfl, rfl, fr, e_aContents, e_aContentMany, e_aRow, e_aKept⟩)
        have LP154 : ∀ (fu : Nat) (x8_154 : Int32) (caRow_154 : Nat → Int32) (fl154 : Nat → va_E) (H : Heap) (locs : List Loc) (ls : Array Slot), (mX9_doPut_L154 vSize vMarks sq z129) fu x8_154 caRow_154 = some o154 → PS D g (va_A (va_pl L f) szz) s.heap s L fl154 H locs → fl154 y = .inr (7, [.ref aWorlds, .ref aInWorld, .ref aKind, .ref aSize, .ref aMarks, .ref aSeed, .ref aContents, .ref aContentMany, .ref aRow, .ref aBits, .ref aLayerSize, .ref aLayerCame, .ref aRest, .ref aRestMany, .int many, .ref aCome, .ref aRivals, .ref aGone, .ref aOrder, .ref aOffAt, .ref aIsOff, .ref aAlone, .ref aKept]) → fl154 aWorlds = .inl (g 1, 8000, .inr (.inl vWorlds)) → fl154 aInWorld = .inl (g 0, 8, .inl vInWorld) → fl154 aKind = .inl (g 0, 30, .inl vKind) → fl154 aSize = .inl (g 0, 30, .inl vSize) → fl154 aMarks = .inl (g 0, 30, .inl vMarks) → fl154 aSeed = .inl (g 0, 30, .inl vSeed) → fl154 aContents = .inl (g 1, 30000, .inr (.inl vContents)) → fl154 aContentMany = .inl (g 0, 30, .inl vContentMany) → fl154 aRow = .inl (g 0, 122880, .inl caRow_154) → fl154 aBits = .inl (g 0, 76800, .inl vBits) → fl154 aLayerSize = .inl (g 0, 600, .inl vLayerSize) → fl154 aLayerCame = .inl (g 0, 600, .inl vLayerCame) → fl154 aRest = .inl (g 1, 30000, .inr (.inl vRest)) → fl154 aRestMany = .inl (g 0, 30, .inl vRestMany) → fl154 aCome = .inl (g 1, 1000, .inr (.inl vCome)) → fl154 aRivals = .inl (g 1, 1000, .inr (.inl vRivals)) → fl154 aGone = .inl (g 1, 1000, .inr (.inl vGone)) → fl154 aOrder = .inl (g 0, 1000, .inl vOrder) → fl154 aOffAt = .inl (g 0, 1000, .inl vOffAt) → fl154 aIsOff = .inl (g 2, 1000, .inl vIsOff) → fl154 aAlone = .inl (g 0, 4096, .inl vAlone) → fl154 aKept = .inl (g 0, 4096, .inl vKept) → (∀ b, b ∈ L → b ≠ aContents → b ≠ aContentMany → b ≠ aRow → b ≠ aKept → fl154 b = f b) → lv_has ls 10 [(8, .int x8_154), (7, .int (15 : Int32)), (5, .long z129), (4, .int (sq * (4096 : Int32))), (0, .ref y), (1, .int sq), (2, .long t)] → W p l e { frames := 3, cells := 0, slots := 0, locals := 81 } s m [.ref y, .int sq, .long t].toArray below meth c H locs 0 0 QQ (F0 m 154 ls []) := by
          intro fu
          induction fu with
          | zero => intro x8_154 caRow_154 fl154 H locs ls ho154 S e_y e_aWorlds e_aInWorld e_aKind e_aSize e_aMarks e_aSeed e_aContents e_aContentMany e_aRow e_aBits e_aLayerSize e_aLayerCame e_aRest e_aRestMany e_aCome e_aRivals e_aGone e_aOrder e_aOffAt e_aIsOff e_aAlone e_aKept fr hl; exact no_some ho154
          | succ fu ih154 =>
            intro x8_154 caRow_154 fl154 H locs ls ho154 S e_y e_aWorlds e_aInWorld e_aKind e_aSize e_aMarks e_aSeed e_aContents e_aContentMany e_aRow e_aBits e_aLayerSize e_aLayerCame e_aRest e_aRestMany e_aCome e_aRivals e_aGone e_aOrder e_aOffAt e_aIsOff e_aAlone e_aKept fr hl
            rw [mX9_doPut_L154] at ho154
            refine lv_iload hx hb dX9_doPut_154 (lv_at hl 0 rfl) ?_
            refine lv_aload_n hx hb dX9_doPut_156 rfl (lv_at hl 4 rfl) ?_
            refine q_get hx hb hts in_X9 hown S m_y e_y (C := RX9) (T := TX9) (N := 23) rfl 4 (by decide) rfl (hts (.fieldLink RX9 23 "SieveCabinetModel" "marks" "[I") (gu_wsX9_doPut_1 _ gm_6)) dX9_doPut_157 ?_
            refine lv_iload_n hx hb dX9_doPut_160 rfl (lv_at hl 5 rfl) ?_
            obtain ⟨hi161, ho154⟩ := ckx ho154
            refine q_iald hx hb S m_aMarks e_aMarks hi161 dX9_doPut_161 ?_
            refine lv_icmp_ge (tgt := 222) hx hb dX9_doPut_162 (by decide) (fun b162 => ?_) (fun b162 => ?_)
            · have ho154 := itT b162 ho154
              obtain rfl := Option.some.inj ho154
              exact EX154 fl154 _ _ _ S e_y e_aWorlds e_aInWorld e_aKind e_aSize e_aMarks e_aSeed e_aContents e_aContentMany e_aRow e_aBits e_aLayerSize e_aLayerCame e_aRest e_aRestMany e_aCome e_aRivals e_aGone e_aOrder e_aOffAt e_aIsOff e_aAlone e_aKept fr (lv_sub hl [4, 5, 6] rfl)
            · have ho154 := itF b162 ho154
              refine lv_iload hx hb dX9_doPut_165 (lv_at hl 3 rfl) ?_
              refine lv_lload hx hb dX9_doPut_167 (lv_at hl 2 rfl) ?_
              refine lv_iload hx hb dX9_doPut_169 (lv_at hl 0 rfl) ?_
              refine lv_aload_n hx hb dX9_doPut_171 rfl (lv_at hl 4 rfl) ?_
              refine q_get hx hb hts in_X9 hown S m_y e_y (C := RX9) (T := TX9) (N := 23) rfl 3 (by decide) rfl (hts (.fieldLink RX9 20 "SieveCabinetModel" "size" "[I") (gu_wsX9_doPut_1 _ gm_2)) dX9_doPut_172 ?_
              refine lv_iload_n hx hb dX9_doPut_175 rfl (lv_at hl 5 rfl) ?_
              obtain ⟨hi176, ho154⟩ := ckx ho154
              refine q_iald hx hb S m_aSize e_aSize hi176 dX9_doPut_176 ?_
              obtain ⟨z177, hz177, ho154⟩ := bind_some ho154
              refine q_si (As := [.long z129, .int x8_154, .int (vSize (Int32.toNatClampNeg sq))]) (rest := [.int (sq * (4096 : Int32))]) ⟨hx, hb, hml, hown, hts⟩ (k_X9_markOf l D g hz177) (va_cwS 3 hts gX9_doPut_X9_markOf rfl rfl rfl (by decide +kernel) ⟨Nat.le_of_ble_eq_true rfl, Nat.le_of_ble_eq_true rfl⟩) S rfl hl.1 rfl (Nat.le_of_ble_eq_true rfl) dX9_doPut_177 ⟨Nat.le_of_ble_eq_true rfl, Nat.le_of_ble_eq_true rfl⟩ (fun r8 L6 f7 H locs S w177 => ?_)
              obtain ⟨ex177, eL, ef⟩ := w177
              rw [eL, ef] at S
              replace ex177 := ex177.symm
              subst ex177
              refine lv_iadd hx hb dX9_doPut_180 ?_
              refine lv_istore (lv' := [(9, .int ((sq * (4096 : Int32)) + z177)), (8, .int x8_154), (7, .int (15 : Int32)), (5, .long z129), (4, .int (sq * (4096 : Int32))), (0, .ref y), (1, .int sq), (2, .long t)]) hx hb dX9_doPut_181 hl (by decide) rfl (fun ls hl => ?_)
              refine lv_aload_n hx hb dX9_doPut_183 rfl (lv_at hl 5 rfl) ?_
              refine q_get hx hb hts in_X9 hown S m_y e_y (C := RX9) (T := TX9) (N := 23) rfl 8 (by decide) rfl (hts (.fieldLink RX9 36 "SieveCabinetModel" "row" "[I") (gu_wsX9_doPut_1 _ gm_4)) dX9_doPut_184 ?_
              refine lv_iload hx hb dX9_doPut_187 (lv_at hl 0 rfl) ?_
              refine lv_aload_n hx hb dX9_doPut_189 rfl (lv_at hl 5 rfl) ?_
              refine q_get hx hb hts in_X9 hown S m_y e_y (C := RX9) (T := TX9) (N := 23) rfl 8 (by decide) rfl (hts (.fieldLink RX9 36 "SieveCabinetModel" "row" "[I") (gu_wsX9_doPut_1 _ gm_4)) dX9_doPut_190 ?_
              refine lv_iload hx hb dX9_doPut_193 (lv_at hl 0 rfl) ?_
              obtain ⟨hi195, ho154⟩ := ckx ho154
              refine q_iald hx hb S m_aRow e_aRow hi195 dX9_doPut_195 ?_
              refine lv_iload hx hb dX9_doPut_196 (lv_at hl 2 rfl) ?_
              refine lv_icmp_ge (tgt := 213) hx hb dX9_doPut_198 (by decide) (fun b198 => ?_) (fun b198 => ?_)
              · have ho154 := itT b198 ho154
                refine lv_iload hx hb dX9_doPut_213 (lv_at hl 2 rfl) ?_
                obtain ⟨hi215, ho154⟩ := ckx ho154
                refine k_iast hx hb S m_aRow e_aRow hi215 dX9_doPut_215 (fun f9 ef9 H locs S => ?_)
                have e_aRow := up_self ef9
                have fr : ∀ b, b ∈ L → b ≠ aContents → b ≠ aContentMany → b ≠ aRow → b ≠ aKept → f9 b = f b := fun b mb nb0 nb1 nb2 nb3 => (up_ne ef9 nb2 rfl).trans (fr b mb nb0 nb1 nb2 nb3)
                refine lv_iinc (v := (x8_154 + 1)) (lv' := [(8, .int (x8_154 + 1)), (9, .int ((sq * (4096 : Int32)) + z177)), (7, .int (15 : Int32)), (5, .long z129), (4, .int (sq * (4096 : Int32))), (0, .ref y), (1, .int sq), (2, .long t)]) hx hb dX9_doPut_216 hl (k := 1) rfl rfl (by decide) rfl (fun ls hl => ?_)
                refine lv_goto (tgt := 154) hx hb dX9_doPut_219 (by decide) ?_
                have e_y := (up_ne ef9 n_y_aRow e_y)
                have e_aWorlds := (up_ne ef9 n_aWorlds_aRow e_aWorlds)
                have e_aInWorld := (up_ne ef9 n_aInWorld_aRow e_aInWorld)
                have e_aKind := (up_ne ef9 n_aKind_aRow e_aKind)
                have e_aSize := (up_ne ef9 n_aSize_aRow e_aSize)
                have e_aMarks := (up_ne ef9 n_aMarks_aRow e_aMarks)
                have e_aSeed := (up_ne ef9 n_aSeed_aRow e_aSeed)
                have e_aContents := (up_ne ef9 n_aContents_aRow e_aContents)
                have e_aContentMany := (up_ne ef9 n_aContentMany_aRow e_aContentMany)
                have e_aBits := (up_ne ef9 n_aBits_aRow e_aBits)
                have e_aLayerSize := (up_ne ef9 n_aLayerSize_aRow e_aLayerSize)
                have e_aLayerCame := (up_ne ef9 n_aLayerCame_aRow e_aLayerCame)
                have e_aRest := (up_ne ef9 n_aRest_aRow e_aRest)
                have e_aRestMany := (up_ne ef9 n_aRestMany_aRow e_aRestMany)
                have e_aCome := (up_ne ef9 n_aCome_aRow e_aCome)
                have e_aRivals := (up_ne ef9 n_aRivals_aRow e_aRivals)
                have e_aGone := (up_ne ef9 n_aGone_aRow e_aGone)
                have e_aOrder := (up_ne ef9 n_aOrder_aRow e_aOrder)
                have e_aOffAt := (up_ne ef9 n_aOffAt_aRow e_aOffAt)
                have e_aIsOff := (up_ne ef9 n_aIsOff_aRow e_aIsOff)
                have e_aAlone := (up_ne ef9 n_aAlone_aRow e_aAlone)
                have e_aKept := (up_ne ef9 n_aKept_aRow e_aKept)
                exact ih154 (x8_154 + 1) (upd caRow_154 (Int32.toNatClampNeg ((sq * (4096 : Int32)) + z177)) (15 : Int32)) f9 _ _ _ ho154 S e_y e_aWorlds e_aInWorld e_aKind e_aSize e_aMarks e_aSeed e_aContents e_aContentMany e_aRow e_aBits e_aLayerSize e_aLayerCame e_aRest e_aRestMany e_aCome e_aRivals e_aGone e_aOrder e_aOffAt e_aIsOff e_aAlone e_aKept fr (lv_sub hl [0, 2, 3, 4, 5, 6, 7] rfl)
              · have ho154 := itF b198 ho154
                refine lv_aload_n hx hb dX9_doPut_201 rfl (lv_at hl 5 rfl) ?_
                refine q_get hx hb hts in_X9 hown S m_y e_y (C := RX9) (T := TX9) (N := 23) rfl 8 (by decide) rfl (hts (.fieldLink RX9 36 "SieveCabinetModel" "row" "[I") (gu_wsX9_doPut_1 _ gm_4)) dX9_doPut_202 ?_
                refine lv_iload hx hb dX9_doPut_205 (lv_at hl 0 rfl) ?_
                obtain ⟨hi207, ho154⟩ := ckx ho154
                refine q_iald hx hb S m_aRow e_aRow hi207 dX9_doPut_207 ?_
                refine lv_iconst (v := (1 : Int32)) hx hb dX9_doPut_208 (by decide) ?_
                refine lv_iadd hx hb dX9_doPut_209 ?_
                refine lv_goto (tgt := 215) hx hb dX9_doPut_210 (by decide) ?_
                obtain ⟨hi215, ho154⟩ := ckx ho154
                refine k_iast hx hb S m_aRow e_aRow hi215 dX9_doPut_215 (fun f10 ef10 H locs S => ?_)
                have e_aRow := up_self ef10
                have fr : ∀ b, b ∈ L → b ≠ aContents → b ≠ aContentMany → b ≠ aRow → b ≠ aKept → f10 b = f b := fun b mb nb0 nb1 nb2 nb3 => (up_ne ef10 nb2 rfl).trans (fr b mb nb0 nb1 nb2 nb3)
                refine lv_iinc (v := (x8_154 + 1)) (lv' := [(8, .int (x8_154 + 1)), (9, .int ((sq * (4096 : Int32)) + z177)), (7, .int (15 : Int32)), (5, .long z129), (4, .int (sq * (4096 : Int32))), (0, .ref y), (1, .int sq), (2, .long t)]) hx hb dX9_doPut_216 hl (k := 1) rfl rfl (by decide) rfl (fun ls hl => ?_)
                refine lv_goto (tgt := 154) hx hb dX9_doPut_219 (by decide) ?_
                have e_y := (up_ne ef10 n_y_aRow e_y)
                have e_aWorlds := (up_ne ef10 n_aWorlds_aRow e_aWorlds)
                have e_aInWorld := (up_ne ef10 n_aInWorld_aRow e_aInWorld)
                have e_aKind := (up_ne ef10 n_aKind_aRow e_aKind)
                have e_aSize := (up_ne ef10 n_aSize_aRow e_aSize)
                have e_aMarks := (up_ne ef10 n_aMarks_aRow e_aMarks)
                have e_aSeed := (up_ne ef10 n_aSeed_aRow e_aSeed)
                have e_aContents := (up_ne ef10 n_aContents_aRow e_aContents)
                have e_aContentMany := (up_ne ef10 n_aContentMany_aRow e_aContentMany)
                have e_aBits := (up_ne ef10 n_aBits_aRow e_aBits)
                have e_aLayerSize := (up_ne ef10 n_aLayerSize_aRow e_aLayerSize)
                have e_aLayerCame := (up_ne ef10 n_aLayerCame_aRow e_aLayerCame)
                have e_aRest := (up_ne ef10 n_aRest_aRow e_aRest)
                have e_aRestMany := (up_ne ef10 n_aRestMany_aRow e_aRestMany)
                have e_aCome := (up_ne ef10 n_aCome_aRow e_aCome)
                have e_aRivals := (up_ne ef10 n_aRivals_aRow e_aRivals)
                have e_aGone := (up_ne ef10 n_aGone_aRow e_aGone)
                have e_aOrder := (up_ne ef10 n_aOrder_aRow e_aOrder)
                have e_aOffAt := (up_ne ef10 n_aOffAt_aRow e_aOffAt)
                have e_aIsOff := (up_ne ef10 n_aIsOff_aRow e_aIsOff)
                have e_aAlone := (up_ne ef10 n_aAlone_aRow e_aAlone)
                have e_aKept := (up_ne ef10 n_aKept_aRow e_aKept)
                exact ih154 (x8_154 + 1) (upd caRow_154 (Int32.toNatClampNeg ((sq * (4096 : Int32)) + z177)) ((caRow_154 (Int32.toNatClampNeg ((sq * (4096 : Int32)) + z177))) + (1 : Int32))) f10 _ _ _ ho154 S e_y e_aWorlds e_aInWorld e_aKind e_aSize e_aMarks e_aSeed e_aContents e_aContentMany e_aRow e_aBits e_aLayerSize e_aLayerCame e_aRest e_aRestMany e_aCome e_aRivals e_aGone e_aOrder e_aOffAt e_aIsOff e_aAlone e_aKept fr (lv_sub hl [0, 2, 3, 4, 5, 6, 7] rfl)
        exact LP154 FU (0 : Int32) vRow f _ _ _ ho154 S e_y e_aWorlds e_aInWorld e_aKind e_aSize e_aMarks e_aSeed e_aContents e_aContentMany e_aRow e_aBits e_aLayerSize e_aLayerCame e_aRest e_aRestMany e_aCome e_aRivals e_aGone e_aOrder e_aOffAt e_aIsOff e_aAlone e_aKept fr (lv_sub hl [0, 1, 2, 3, 4, 5, 6] rfl)
      · have hM := itT b140 hM
        refine lv_iconst (v := (1 : Int32)) hx hb dX9_doPut_143 (by decide) ?_
        refine lv_goto (tgt := 149) hx hb dX9_doPut_144 (by decide) ?_
        refine lv_istore (lv' := [(7, .int (1 : Int32)), (5, .long z129), (4, .int (sq * (4096 : Int32))), (0, .ref y), (1, .int sq), (2, .long t)]) hx hb dX9_doPut_149 hl (by decide) rfl (fun ls hl => ?_)
        refine lv_iconst (v := (0 : Int32)) hx hb dX9_doPut_151 (by decide) ?_
        refine lv_istore (lv' := [(8, .int (0 : Int32)), (7, .int (1 : Int32)), (5, .long z129), (4, .int (sq * (4096 : Int32))), (0, .ref y), (1, .int sq), (2, .long t)]) hx hb dX9_doPut_152 hl (by decide) rfl (fun ls hl => ?_)
        obtain ⟨o154, ho154, hM⟩ := bind_some hM
        have EX154 : ∀ (fl154 : Nat → va_E) (H : Heap) (locs : List Loc) (ls : Array Slot), PS D g (va_A (va_pl L f) szz) s.heap s L fl154 H locs → fl154 y = .inr (7, [.ref aWorlds, .ref aInWorld, .ref aKind, .ref aSize, .ref aMarks, .ref aSeed, .ref aContents, .ref aContentMany, .ref aRow, .ref aBits, .ref aLayerSize, .ref aLayerCame, .ref aRest, .ref aRestMany, .int many, .ref aCome, .ref aRivals, .ref aGone, .ref aOrder, .ref aOffAt, .ref aIsOff, .ref aAlone, .ref aKept]) → fl154 aWorlds = .inl (g 1, 8000, .inr (.inl vWorlds)) → fl154 aInWorld = .inl (g 0, 8, .inl vInWorld) → fl154 aKind = .inl (g 0, 30, .inl vKind) → fl154 aSize = .inl (g 0, 30, .inl vSize) → fl154 aMarks = .inl (g 0, 30, .inl vMarks) → fl154 aSeed = .inl (g 0, 30, .inl vSeed) → fl154 aContents = .inl (g 1, 30000, .inr (.inl vContents)) → fl154 aContentMany = .inl (g 0, 30, .inl vContentMany) → fl154 aRow = .inl (g 0, 122880, .inl o154.2) → fl154 aBits = .inl (g 0, 76800, .inl vBits) → fl154 aLayerSize = .inl (g 0, 600, .inl vLayerSize) → fl154 aLayerCame = .inl (g 0, 600, .inl vLayerCame) → fl154 aRest = .inl (g 1, 30000, .inr (.inl vRest)) → fl154 aRestMany = .inl (g 0, 30, .inl vRestMany) → fl154 aCome = .inl (g 1, 1000, .inr (.inl vCome)) → fl154 aRivals = .inl (g 1, 1000, .inr (.inl vRivals)) → fl154 aGone = .inl (g 1, 1000, .inr (.inl vGone)) → fl154 aOrder = .inl (g 0, 1000, .inl vOrder) → fl154 aOffAt = .inl (g 0, 1000, .inl vOffAt) → fl154 aIsOff = .inl (g 2, 1000, .inl vIsOff) → fl154 aAlone = .inl (g 0, 4096, .inl vAlone) → fl154 aKept = .inl (g 0, 4096, .inl vKept) → (∀ b, b ∈ L → b ≠ aContents → b ≠ aContentMany → b ≠ aRow → b ≠ aKept → fl154 b = f b) → lv_has ls 10 [(0, .ref y), (1, .int sq), (2, .long t)] → W p l e { frames := 3, cells := 0, slots := 0, locals := 81 } s m [.ref y, .int sq, .long t].toArray below meth c H locs 0 0 QQ (F0 m 222 ls []) := by
          intro fl154 H locs ls S e_y e_aWorlds e_aInWorld e_aKind e_aSize e_aMarks e_aSeed e_aContents e_aContentMany e_aRow e_aBits e_aLayerSize e_aLayerCame e_aRest e_aRestMany e_aCome e_aRivals e_aGone e_aOrder e_aOffAt e_aIsOff e_aAlone e_aKept fr hl
          refine lv_aload_n hx hb dX9_doPut_222 rfl (lv_at hl 0 rfl) ?_
          refine q_get hx hb hts in_X9 hown S m_y e_y (C := RX9) (T := TX9) (N := 23) rfl 6 (by decide) rfl (hts (.fieldLink RX9 29 "SieveCabinetModel" "contents" "[J") (gu_wsX9_doPut_1 _ gm_7)) dX9_doPut_223 ?_
          refine lv_iload_n hx hb dX9_doPut_226 rfl (lv_at hl 1 rfl) ?_
          refine lv_sipush (v := (1000 : Int32)) hx hb dX9_doPut_227 (by decide) ?_
          refine lv_imul hx hb dX9_doPut_230 ?_
          refine lv_aload_n hx hb dX9_doPut_231 rfl (lv_at hl 0 rfl) ?_
          refine q_get hx hb hts in_X9 hown S m_y e_y (C := RX9) (T := TX9) (N := 23) rfl 7 (by decide) rfl (hts (.fieldLink RX9 32 "SieveCabinetModel" "contentMany" "[I") (gu_wsX9_doPut_1 _ gm_0)) dX9_doPut_232 ?_
          refine lv_iload_n hx hb dX9_doPut_235 rfl (lv_at hl 1 rfl) ?_
          obtain ⟨hi236, hM⟩ := ckx hM
          refine q_iald hx hb S m_aContentMany e_aContentMany hi236 dX9_doPut_236 ?_
          refine lv_iadd hx hb dX9_doPut_237 ?_
          refine lv_lload_n hx hb dX9_doPut_238 rfl (lv_at hl 2 rfl) ?_
          obtain ⟨hi239, hM⟩ := ckx hM
          refine k_last hx hb S m_aContents e_aContents hi239 dX9_doPut_239 (fun f11 ef11 H locs S => ?_)
          have e_aContents := up_self ef11
          have fr : ∀ b, b ∈ L → b ≠ aContents → b ≠ aContentMany → b ≠ aRow → b ≠ aKept → f11 b = f b := fun b mb nb0 nb1 nb2 nb3 => (up_ne ef11 nb0 rfl).trans (fr b mb nb0 nb1 nb2 nb3)
          refine lv_aload_n hx hb dX9_doPut_240 rfl (lv_at hl 0 rfl) ?_
          have e_y := (up_ne ef11 n_y_aContents e_y)
          refine q_get hx hb hts in_X9 hown S m_y e_y (C := RX9) (T := TX9) (N := 23) rfl 7 (by decide) rfl (hts (.fieldLink RX9 32 "SieveCabinetModel" "contentMany" "[I") (gu_wsX9_doPut_1 _ gm_0)) dX9_doPut_241 ?_
          refine lv_iload_n hx hb dX9_doPut_244 rfl (lv_at hl 1 rfl) ?_
          refine lv_dup2_11 hx hb dX9_doPut_245 rfl rfl ?_
          obtain ⟨hi246, hM⟩ := ckx hM
          have e_aContentMany := (up_ne ef11 n_aContentMany_aContents e_aContentMany)
          refine q_iald hx hb S m_aContentMany e_aContentMany hi246 dX9_doPut_246 ?_
          refine lv_iconst (v := (1 : Int32)) hx hb dX9_doPut_247 (by decide) ?_
          refine lv_iadd hx hb dX9_doPut_248 ?_
          obtain ⟨hi249, hM⟩ := ckx hM
          refine k_iast hx hb S m_aContentMany e_aContentMany hi249 dX9_doPut_249 (fun f12 ef12 H locs S => ?_)
          have e_aContentMany := up_self ef12
          have fr : ∀ b, b ∈ L → b ≠ aContents → b ≠ aContentMany → b ≠ aRow → b ≠ aKept → f12 b = f b := fun b mb nb0 nb1 nb2 nb3 => (up_ne ef12 nb1 rfl).trans (fr b mb nb0 nb1 nb2 nb3)
          refine lv_aload_n hx hb dX9_doPut_250 rfl (lv_at hl 0 rfl) ?_
          have e_y := (up_ne ef12 n_y_aContentMany e_y)
          refine q_get hx hb hts in_X9 hown S m_y e_y (C := RX9) (T := TX9) (N := 23) rfl 7 (by decide) rfl (hts (.fieldLink RX9 32 "SieveCabinetModel" "contentMany" "[I") (gu_wsX9_doPut_1 _ gm_0)) dX9_doPut_251 ?_
          refine lv_iload_n hx hb dX9_doPut_254 rfl (lv_at hl 1 rfl) ?_
          obtain ⟨hi255, hM⟩ := ckx hM
          refine q_iald hx hb S m_aContentMany e_aContentMany hi255 dX9_doPut_255 ?_
          have e_aContents := (up_ne ef12 n_aContents_aContentMany e_aContents)
          have e_aRow := (up_ne ef12 n_aRow_aContentMany (up_ne ef11 n_aRow_aContents e_aRow))
          have e_aKept := (up_ne ef12 n_aKept_aContentMany (up_ne ef11 n_aKept_aContents e_aKept))
          subst hQQ
          exact q_reti (post := fun x L1 f1 => x = z.1 ∧ L1 = L ∧ (∀ b, b ∈ L → b ≠ aContents → b ≠ aContentMany → b ≠ aRow → b ≠ aKept → f1 b = f b) ∧ f1 aContents = .inl (g 1, 30000, .inr (.inl z.2.1)) ∧ f1 aContentMany = .inl (g 0, 30, .inl z.2.2.1) ∧ f1 aRow = .inl (g 0, 122880, .inl z.2.2.2.1) ∧ f1 aKept = .inl (g 0, 4096, .inl z.2.2.2.2)) hx hb hr hlk S dX9_doPut_256 (by decide) (by decide) (by have hz := Option.some.inj hM; subst hz; exact ⟨rfl, rfl, fr, e_aContents, e_aContentMany, e_aRow, e_aKept⟩)
        have LP154 : ∀ (fu : Nat) (x8_154 : Int32) (caRow_154 : Nat → Int32) (fl154 : Nat → va_E) (H : Heap) (locs : List Loc) (ls : Array Slot), (mX9_doPut_L154_1 vSize vMarks sq z129) fu x8_154 caRow_154 = some o154 → PS D g (va_A (va_pl L f) szz) s.heap s L fl154 H locs → fl154 y = .inr (7, [.ref aWorlds, .ref aInWorld, .ref aKind, .ref aSize, .ref aMarks, .ref aSeed, .ref aContents, .ref aContentMany, .ref aRow, .ref aBits, .ref aLayerSize, .ref aLayerCame, .ref aRest, .ref aRestMany, .int many, .ref aCome, .ref aRivals, .ref aGone, .ref aOrder, .ref aOffAt, .ref aIsOff, .ref aAlone, .ref aKept]) → fl154 aWorlds = .inl (g 1, 8000, .inr (.inl vWorlds)) → fl154 aInWorld = .inl (g 0, 8, .inl vInWorld) → fl154 aKind = .inl (g 0, 30, .inl vKind) → fl154 aSize = .inl (g 0, 30, .inl vSize) → fl154 aMarks = .inl (g 0, 30, .inl vMarks) → fl154 aSeed = .inl (g 0, 30, .inl vSeed) → fl154 aContents = .inl (g 1, 30000, .inr (.inl vContents)) → fl154 aContentMany = .inl (g 0, 30, .inl vContentMany) → fl154 aRow = .inl (g 0, 122880, .inl caRow_154) → fl154 aBits = .inl (g 0, 76800, .inl vBits) → fl154 aLayerSize = .inl (g 0, 600, .inl vLayerSize) → fl154 aLayerCame = .inl (g 0, 600, .inl vLayerCame) → fl154 aRest = .inl (g 1, 30000, .inr (.inl vRest)) → fl154 aRestMany = .inl (g 0, 30, .inl vRestMany) → fl154 aCome = .inl (g 1, 1000, .inr (.inl vCome)) → fl154 aRivals = .inl (g 1, 1000, .inr (.inl vRivals)) → fl154 aGone = .inl (g 1, 1000, .inr (.inl vGone)) → fl154 aOrder = .inl (g 0, 1000, .inl vOrder) → fl154 aOffAt = .inl (g 0, 1000, .inl vOffAt) → fl154 aIsOff = .inl (g 2, 1000, .inl vIsOff) → fl154 aAlone = .inl (g 0, 4096, .inl vAlone) → fl154 aKept = .inl (g 0, 4096, .inl vKept) → (∀ b, b ∈ L → b ≠ aContents → b ≠ aContentMany → b ≠ aRow → b ≠ aKept → fl154 b = f b) → lv_has ls 10 [(8, .int x8_154), (7, .int (1 : Int32)), (5, .long z129), (4, .int (sq * (4096 : Int32))), (0, .ref y), (1, .int sq), (2, .long t)] → W p l e { frames := 3, cells := 0, slots := 0, locals := 81 } s m [.ref y, .int sq, .long t].toArray below meth c H locs 0 0 QQ (F0 m 154 ls []) := by
          intro fu
          induction fu with
          | zero => intro x8_154 caRow_154 fl154 H locs ls ho154 S e_y e_aWorlds e_aInWorld e_aKind e_aSize e_aMarks e_aSeed e_aContents e_aContentMany e_aRow e_aBits e_aLayerSize e_aLayerCame e_aRest e_aRestMany e_aCome e_aRivals e_aGone e_aOrder e_aOffAt e_aIsOff e_aAlone e_aKept fr hl; exact no_some ho154
          | succ fu ih154 =>
            intro x8_154 caRow_154 fl154 H locs ls ho154 S e_y e_aWorlds e_aInWorld e_aKind e_aSize e_aMarks e_aSeed e_aContents e_aContentMany e_aRow e_aBits e_aLayerSize e_aLayerCame e_aRest e_aRestMany e_aCome e_aRivals e_aGone e_aOrder e_aOffAt e_aIsOff e_aAlone e_aKept fr hl
            rw [mX9_doPut_L154_1] at ho154
            refine lv_iload hx hb dX9_doPut_154 (lv_at hl 0 rfl) ?_
            refine lv_aload_n hx hb dX9_doPut_156 rfl (lv_at hl 4 rfl) ?_
            refine q_get hx hb hts in_X9 hown S m_y e_y (C := RX9) (T := TX9) (N := 23) rfl 4 (by decide) rfl (hts (.fieldLink RX9 23 "SieveCabinetModel" "marks" "[I") (gu_wsX9_doPut_1 _ gm_6)) dX9_doPut_157 ?_
            refine lv_iload_n hx hb dX9_doPut_160 rfl (lv_at hl 5 rfl) ?_
            obtain ⟨hi161, ho154⟩ := ckx ho154
            refine q_iald hx hb S m_aMarks e_aMarks hi161 dX9_doPut_161 ?_
            refine lv_icmp_ge (tgt := 222) hx hb dX9_doPut_162 (by decide) (fun b162 => ?_) (fun b162 => ?_)
            · have ho154 := itT b162 ho154
              obtain rfl := Option.some.inj ho154
              exact EX154 fl154 _ _ _ S e_y e_aWorlds e_aInWorld e_aKind e_aSize e_aMarks e_aSeed e_aContents e_aContentMany e_aRow e_aBits e_aLayerSize e_aLayerCame e_aRest e_aRestMany e_aCome e_aRivals e_aGone e_aOrder e_aOffAt e_aIsOff e_aAlone e_aKept fr (lv_sub hl [4, 5, 6] rfl)
            · have ho154 := itF b162 ho154
              refine lv_iload hx hb dX9_doPut_165 (lv_at hl 3 rfl) ?_
              refine lv_lload hx hb dX9_doPut_167 (lv_at hl 2 rfl) ?_
              refine lv_iload hx hb dX9_doPut_169 (lv_at hl 0 rfl) ?_
              refine lv_aload_n hx hb dX9_doPut_171 rfl (lv_at hl 4 rfl) ?_
              refine q_get hx hb hts in_X9 hown S m_y e_y (C := RX9) (T := TX9) (N := 23) rfl 3 (by decide) rfl (hts (.fieldLink RX9 20 "SieveCabinetModel" "size" "[I") (gu_wsX9_doPut_1 _ gm_2)) dX9_doPut_172 ?_
              refine lv_iload_n hx hb dX9_doPut_175 rfl (lv_at hl 5 rfl) ?_
              obtain ⟨hi176, ho154⟩ := ckx ho154
              refine q_iald hx hb S m_aSize e_aSize hi176 dX9_doPut_176 ?_
              obtain ⟨z177, hz177, ho154⟩ := bind_some ho154
              refine q_si (As := [.long z129, .int x8_154, .int (vSize (Int32.toNatClampNeg sq))]) (rest := [.int (sq * (4096 : Int32))]) ⟨hx, hb, hml, hown, hts⟩ (k_X9_markOf l D g hz177) (va_cwS 3 hts gX9_doPut_X9_markOf rfl rfl rfl (by decide +kernel) ⟨Nat.le_of_ble_eq_true rfl, Nat.le_of_ble_eq_true rfl⟩) S rfl hl.1 rfl (Nat.le_of_ble_eq_true rfl) dX9_doPut_177 ⟨Nat.le_of_ble_eq_true rfl, Nat.le_of_ble_eq_true rfl⟩ (fun r15 L13 f14 H locs S w177 => ?_)
              obtain ⟨ex177, eL, ef⟩ := w177
              rw [eL, ef] at S
              replace ex177 := ex177.symm
              subst ex177
              refine lv_iadd hx hb dX9_doPut_180 ?_
              refine lv_istore (lv' := [(9, .int ((sq * (4096 : Int32)) + z177)), (8, .int x8_154), (7, .int (1 : Int32)), (5, .long z129), (4, .int (sq * (4096 : Int32))), (0, .ref y), (1, .int sq), (2, .long t)]) hx hb dX9_doPut_181 hl (by decide) rfl (fun ls hl => ?_)
              refine lv_aload_n hx hb dX9_doPut_183 rfl (lv_at hl 5 rfl) ?_
              refine q_get hx hb hts in_X9 hown S m_y e_y (C := RX9) (T := TX9) (N := 23) rfl 8 (by decide) rfl (hts (.fieldLink RX9 36 "SieveCabinetModel" "row" "[I") (gu_wsX9_doPut_1 _ gm_4)) dX9_doPut_184 ?_
              refine lv_iload hx hb dX9_doPut_187 (lv_at hl 0 rfl) ?_
              refine lv_aload_n hx hb dX9_doPut_189 rfl (lv_at hl 5 rfl) ?_
              refine q_get hx hb hts in_X9 hown S m_y e_y (C := RX9) (T := TX9) (N := 23) rfl 8 (by decide) rfl (hts (.fieldLink RX9 36 "SieveCabinetModel" "row" "[I") (gu_wsX9_doPut_1 _ gm_4)) dX9_doPut_190 ?_
              refine lv_iload hx hb dX9_doPut_193 (lv_at hl 0 rfl) ?_
              obtain ⟨hi195, ho154⟩ := ckx ho154
              refine q_iald hx hb S m_aRow e_aRow hi195 dX9_doPut_195 ?_
              refine lv_iload hx hb dX9_doPut_196 (lv_at hl 2 rfl) ?_
              refine lv_icmp_ge (tgt := 213) hx hb dX9_doPut_198 (by decide) (fun b198 => ?_) (fun b198 => ?_)
              · have ho154 := itT b198 ho154
                refine lv_iload hx hb dX9_doPut_213 (lv_at hl 2 rfl) ?_
                obtain ⟨hi215, ho154⟩ := ckx ho154
                refine k_iast hx hb S m_aRow e_aRow hi215 dX9_doPut_215 (fun f16 ef16 H locs S => ?_)
                have e_aRow := up_self ef16
                have fr : ∀ b, b ∈ L → b ≠ aContents → b ≠ aContentMany → b ≠ aRow → b ≠ aKept → f16 b = f b := fun b mb nb0 nb1 nb2 nb3 => (up_ne ef16 nb2 rfl).trans (fr b mb nb0 nb1 nb2 nb3)
                refine lv_iinc (v := (x8_154 + 1)) (lv' := [(8, .int (x8_154 + 1)), (9, .int ((sq * (4096 : Int32)) + z177)), (7, .int (1 : Int32)), (5, .long z129), (4, .int (sq * (4096 : Int32))), (0, .ref y), (1, .int sq), (2, .long t)]) hx hb dX9_doPut_216 hl (k := 1) rfl rfl (by decide) rfl (fun ls hl => ?_)
                refine lv_goto (tgt := 154) hx hb dX9_doPut_219 (by decide) ?_
                have e_y := (up_ne ef16 n_y_aRow e_y)
                have e_aWorlds := (up_ne ef16 n_aWorlds_aRow e_aWorlds)
                have e_aInWorld := (up_ne ef16 n_aInWorld_aRow e_aInWorld)
                have e_aKind := (up_ne ef16 n_aKind_aRow e_aKind)
                have e_aSize := (up_ne ef16 n_aSize_aRow e_aSize)
                have e_aMarks := (up_ne ef16 n_aMarks_aRow e_aMarks)
                have e_aSeed := (up_ne ef16 n_aSeed_aRow e_aSeed)
                have e_aContents := (up_ne ef16 n_aContents_aRow e_aContents)
                have e_aContentMany := (up_ne ef16 n_aContentMany_aRow e_aContentMany)
                have e_aBits := (up_ne ef16 n_aBits_aRow e_aBits)
                have e_aLayerSize := (up_ne ef16 n_aLayerSize_aRow e_aLayerSize)
                have e_aLayerCame := (up_ne ef16 n_aLayerCame_aRow e_aLayerCame)
                have e_aRest := (up_ne ef16 n_aRest_aRow e_aRest)
                have e_aRestMany := (up_ne ef16 n_aRestMany_aRow e_aRestMany)
                have e_aCome := (up_ne ef16 n_aCome_aRow e_aCome)
                have e_aRivals := (up_ne ef16 n_aRivals_aRow e_aRivals)
                have e_aGone := (up_ne ef16 n_aGone_aRow e_aGone)
                have e_aOrder := (up_ne ef16 n_aOrder_aRow e_aOrder)
                have e_aOffAt := (up_ne ef16 n_aOffAt_aRow e_aOffAt)
                have e_aIsOff := (up_ne ef16 n_aIsOff_aRow e_aIsOff)
                have e_aAlone := (up_ne ef16 n_aAlone_aRow e_aAlone)
                have e_aKept := (up_ne ef16 n_aKept_aRow e_aKept)
                exact ih154 (x8_154 + 1) (upd caRow_154 (Int32.toNatClampNeg ((sq * (4096 : Int32)) + z177)) (1 : Int32)) f16 _ _ _ ho154 S e_y e_aWorlds e_aInWorld e_aKind e_aSize e_aMarks e_aSeed e_aContents e_aContentMany e_aRow e_aBits e_aLayerSize e_aLayerCame e_aRest e_aRestMany e_aCome e_aRivals e_aGone e_aOrder e_aOffAt e_aIsOff e_aAlone e_aKept fr (lv_sub hl [0, 2, 3, 4, 5, 6, 7] rfl)
              · have ho154 := itF b198 ho154
                refine lv_aload_n hx hb dX9_doPut_201 rfl (lv_at hl 5 rfl) ?_
                refine q_get hx hb hts in_X9 hown S m_y e_y (C := RX9) (T := TX9) (N := 23) rfl 8 (by decide) rfl (hts (.fieldLink RX9 36 "SieveCabinetModel" "row" "[I") (gu_wsX9_doPut_1 _ gm_4)) dX9_doPut_202 ?_
                refine lv_iload hx hb dX9_doPut_205 (lv_at hl 0 rfl) ?_
                obtain ⟨hi207, ho154⟩ := ckx ho154
                refine q_iald hx hb S m_aRow e_aRow hi207 dX9_doPut_207 ?_
                refine lv_iconst (v := (1 : Int32)) hx hb dX9_doPut_208 (by decide) ?_
                refine lv_iadd hx hb dX9_doPut_209 ?_
                refine lv_goto (tgt := 215) hx hb dX9_doPut_210 (by decide) ?_
                obtain ⟨hi215, ho154⟩ := ckx ho154
                refine k_iast hx hb S m_aRow e_aRow hi215 dX9_doPut_215 (fun f17 ef17 H locs S => ?_)
                have e_aRow := up_self ef17
                have fr : ∀ b, b ∈ L → b ≠ aContents → b ≠ aContentMany → b ≠ aRow → b ≠ aKept → f17 b = f b := fun b mb nb0 nb1 nb2 nb3 => (up_ne ef17 nb2 rfl).trans (fr b mb nb0 nb1 nb2 nb3)
                refine lv_iinc (v := (x8_154 + 1)) (lv' := [(8, .int (x8_154 + 1)), (9, .int ((sq * (4096 : Int32)) + z177)), (7, .int (1 : Int32)), (5, .long z129), (4, .int (sq * (4096 : Int32))), (0, .ref y), (1, .int sq), (2, .long t)]) hx hb dX9_doPut_216 hl (k := 1) rfl rfl (by decide) rfl (fun ls hl => ?_)
                refine lv_goto (tgt := 154) hx hb dX9_doPut_219 (by decide) ?_
                have e_y := (up_ne ef17 n_y_aRow e_y)
                have e_aWorlds := (up_ne ef17 n_aWorlds_aRow e_aWorlds)
                have e_aInWorld := (up_ne ef17 n_aInWorld_aRow e_aInWorld)
                have e_aKind := (up_ne ef17 n_aKind_aRow e_aKind)
                have e_aSize := (up_ne ef17 n_aSize_aRow e_aSize)
                have e_aMarks := (up_ne ef17 n_aMarks_aRow e_aMarks)
                have e_aSeed := (up_ne ef17 n_aSeed_aRow e_aSeed)
                have e_aContents := (up_ne ef17 n_aContents_aRow e_aContents)
                have e_aContentMany := (up_ne ef17 n_aContentMany_aRow e_aContentMany)
                have e_aBits := (up_ne ef17 n_aBits_aRow e_aBits)
                have e_aLayerSize := (up_ne ef17 n_aLayerSize_aRow e_aLayerSize)
                have e_aLayerCame := (up_ne ef17 n_aLayerCame_aRow e_aLayerCame)
                have e_aRest := (up_ne ef17 n_aRest_aRow e_aRest)
                have e_aRestMany := (up_ne ef17 n_aRestMany_aRow e_aRestMany)
                have e_aCome := (up_ne ef17 n_aCome_aRow e_aCome)
                have e_aRivals := (up_ne ef17 n_aRivals_aRow e_aRivals)
                have e_aGone := (up_ne ef17 n_aGone_aRow e_aGone)
                have e_aOrder := (up_ne ef17 n_aOrder_aRow e_aOrder)
                have e_aOffAt := (up_ne ef17 n_aOffAt_aRow e_aOffAt)
                have e_aIsOff := (up_ne ef17 n_aIsOff_aRow e_aIsOff)
                have e_aAlone := (up_ne ef17 n_aAlone_aRow e_aAlone)
                have e_aKept := (up_ne ef17 n_aKept_aRow e_aKept)
                exact ih154 (x8_154 + 1) (upd caRow_154 (Int32.toNatClampNeg ((sq * (4096 : Int32)) + z177)) ((caRow_154 (Int32.toNatClampNeg ((sq * (4096 : Int32)) + z177))) + (1 : Int32))) f17 _ _ _ ho154 S e_y e_aWorlds e_aInWorld e_aKind e_aSize e_aMarks e_aSeed e_aContents e_aContentMany e_aRow e_aBits e_aLayerSize e_aLayerCame e_aRest e_aRestMany e_aCome e_aRivals e_aGone e_aOrder e_aOffAt e_aIsOff e_aAlone e_aKept fr (lv_sub hl [0, 2, 3, 4, 5, 6, 7] rfl)
        exact LP154 FU (0 : Int32) vRow f _ _ _ ho154 S e_y e_aWorlds e_aInWorld e_aKind e_aSize e_aMarks e_aSeed e_aContents e_aContentMany e_aRow e_aBits e_aLayerSize e_aLayerCame e_aRest e_aRestMany e_aCome e_aRivals e_aGone e_aOrder e_aOffAt e_aIsOff e_aAlone e_aKept fr (lv_sub hl [0, 1, 2, 3, 4, 5, 6] rfl)
    · have hM := itT b29 hM
      refine lv_iconst (v := (0 : Int32)) hx hb dX9_doPut_32 (by decide) ?_
      refine lv_istore (lv' := [(5, .int (0 : Int32)), (4, .int (sq * (4096 : Int32))), (0, .ref y), (1, .int sq), (2, .long t)]) hx hb dX9_doPut_33 hl (by decide) rfl (fun ls hl => ?_)
      obtain ⟨o35, ho35, hM⟩ := bind_some hM
      have EX35 : ∀ (fl35 : Nat → va_E) (H : Heap) (locs : List Loc) (ls : Array Slot), PS D g (va_A (va_pl L f) szz) s.heap s L fl35 H locs → fl35 y = .inr (7, [.ref aWorlds, .ref aInWorld, .ref aKind, .ref aSize, .ref aMarks, .ref aSeed, .ref aContents, .ref aContentMany, .ref aRow, .ref aBits, .ref aLayerSize, .ref aLayerCame, .ref aRest, .ref aRestMany, .int many, .ref aCome, .ref aRivals, .ref aGone, .ref aOrder, .ref aOffAt, .ref aIsOff, .ref aAlone, .ref aKept]) → fl35 aWorlds = .inl (g 1, 8000, .inr (.inl vWorlds)) → fl35 aInWorld = .inl (g 0, 8, .inl vInWorld) → fl35 aKind = .inl (g 0, 30, .inl vKind) → fl35 aSize = .inl (g 0, 30, .inl vSize) → fl35 aMarks = .inl (g 0, 30, .inl vMarks) → fl35 aSeed = .inl (g 0, 30, .inl vSeed) → fl35 aContents = .inl (g 1, 30000, .inr (.inl vContents)) → fl35 aContentMany = .inl (g 0, 30, .inl vContentMany) → fl35 aRow = .inl (g 0, 122880, .inl vRow) → fl35 aBits = .inl (g 0, 76800, .inl vBits) → fl35 aLayerSize = .inl (g 0, 600, .inl vLayerSize) → fl35 aLayerCame = .inl (g 0, 600, .inl vLayerCame) → fl35 aRest = .inl (g 1, 30000, .inr (.inl vRest)) → fl35 aRestMany = .inl (g 0, 30, .inl vRestMany) → fl35 aCome = .inl (g 1, 1000, .inr (.inl vCome)) → fl35 aRivals = .inl (g 1, 1000, .inr (.inl vRivals)) → fl35 aGone = .inl (g 1, 1000, .inr (.inl vGone)) → fl35 aOrder = .inl (g 0, 1000, .inl vOrder) → fl35 aOffAt = .inl (g 0, 1000, .inl vOffAt) → fl35 aIsOff = .inl (g 2, 1000, .inl vIsOff) → fl35 aAlone = .inl (g 0, 4096, .inl vAlone) → fl35 aKept = .inl (g 0, 4096, .inl o35.2) → (∀ b, b ∈ L → b ≠ aContents → b ≠ aContentMany → b ≠ aRow → b ≠ aKept → fl35 b = f b) → lv_has ls 10 [(4, .int (sq * (4096 : Int32))), (0, .ref y), (1, .int sq), (2, .long t)] → W p l e { frames := 3, cells := 0, slots := 0, locals := 81 } s m [.ref y, .int sq, .long t].toArray below meth c H locs 0 0 QQ (F0 m 71 ls []) := by
        intro fl35 H locs ls S e_y e_aWorlds e_aInWorld e_aKind e_aSize e_aMarks e_aSeed e_aContents e_aContentMany e_aRow e_aBits e_aLayerSize e_aLayerCame e_aRest e_aRestMany e_aCome e_aRivals e_aGone e_aOrder e_aOffAt e_aIsOff e_aAlone e_aKept fr hl
        refine lv_aload_n hx hb dX9_doPut_71 rfl (lv_at hl 1 rfl) ?_
        refine lv_iload_n hx hb dX9_doPut_72 rfl (lv_at hl 2 rfl) ?_
        refine lv_lload_n hx hb dX9_doPut_73 rfl (lv_at hl 3 rfl) ?_
        obtain ⟨z74, hz74, hM⟩ := bind_some hM
        refine q_vi (As := [.int sq, .long t]) (rest := []) ⟨hx, hb, hml, hown, hts⟩ (k_X9_putTag l D g m_y e_y m_aWorlds e_aWorlds m_aInWorld e_aInWorld m_aKind e_aKind m_aSize e_aSize m_aMarks e_aMarks m_aSeed e_aSeed m_aContents e_aContents m_aContentMany e_aContentMany m_aRow e_aRow m_aBits e_aBits m_aLayerSize e_aLayerSize m_aLayerCame e_aLayerCame m_aRest e_aRest m_aRestMany e_aRestMany m_aCome e_aCome m_aRivals e_aRivals m_aGone e_aGone m_aOrder e_aOrder m_aOffAt e_aOffAt m_aIsOff e_aIsOff m_aAlone e_aAlone m_aKept e_aKept hz74) (cwV 2 hts gX9_doPut_X9_putTag rfl rfl rfl (by decide +kernel) ⟨Nat.le_of_ble_eq_true rfl, Nat.le_of_ble_eq_true rfl⟩) S m_y e_y (T := TX9) (N := 23) rfl rfl hl.1 rfl (Nat.le_of_ble_eq_true rfl) dX9_doPut_74 ⟨Nat.le_of_ble_eq_true rfl, Nat.le_of_ble_eq_true rfl⟩ (fun r20 L18 f19 H locs S w74 => ?_)
        obtain ⟨ex74, eL, fv74, E_aRow⟩ := w74
        rw [eL] at S
        have fr : ∀ b, b ∈ L → b ≠ aContents → b ≠ aContentMany → b ≠ aRow → b ≠ aKept → f19 b = f b := fun b mb nb0 nb1 nb2 nb3 => (fv74 b mb nb2).trans (fr b mb nb0 nb1 nb2 nb3)
        have e_aRow : f19 aRow = .inl (g 0, 122880, .inl z74.2) := E_aRow
        replace ex74 := ex74.symm
        subst ex74
        refine lv_if_ne (tgt := 222) hx hb dX9_doPut_77 (by decide) (fun b77 => ?_) (fun b77 => ?_)
        · have hM := itF b77 hM
          refine lv_aload_n hx hb dX9_doPut_222 rfl (lv_at hl 1 rfl) ?_
          have e_y := ((fv74 y m_y n_y_aRow).trans e_y)
          refine q_get hx hb hts in_X9 hown S m_y e_y (C := RX9) (T := TX9) (N := 23) rfl 6 (by decide) rfl (hts (.fieldLink RX9 29 "SieveCabinetModel" "contents" "[J") (gu_wsX9_doPut_1 _ gm_7)) dX9_doPut_223 ?_
          refine lv_iload_n hx hb dX9_doPut_226 rfl (lv_at hl 2 rfl) ?_
          refine lv_sipush (v := (1000 : Int32)) hx hb dX9_doPut_227 (by decide) ?_
          refine lv_imul hx hb dX9_doPut_230 ?_
          refine lv_aload_n hx hb dX9_doPut_231 rfl (lv_at hl 1 rfl) ?_
          refine q_get hx hb hts in_X9 hown S m_y e_y (C := RX9) (T := TX9) (N := 23) rfl 7 (by decide) rfl (hts (.fieldLink RX9 32 "SieveCabinetModel" "contentMany" "[I") (gu_wsX9_doPut_1 _ gm_0)) dX9_doPut_232 ?_
          refine lv_iload_n hx hb dX9_doPut_235 rfl (lv_at hl 2 rfl) ?_
          obtain ⟨hi236, hM⟩ := ckx hM
          have e_aContentMany := ((fv74 aContentMany m_aContentMany n_aContentMany_aRow).trans e_aContentMany)
          refine q_iald hx hb S m_aContentMany e_aContentMany hi236 dX9_doPut_236 ?_
          refine lv_iadd hx hb dX9_doPut_237 ?_
          refine lv_lload_n hx hb dX9_doPut_238 rfl (lv_at hl 3 rfl) ?_
          obtain ⟨hi239, hM⟩ := ckx hM
          have e_aContents := ((fv74 aContents m_aContents n_aContents_aRow).trans e_aContents)
          refine k_last hx hb S m_aContents e_aContents hi239 dX9_doPut_239 (fun f21 ef21 H locs S => ?_)
          have e_aContents := up_self ef21
          have fr : ∀ b, b ∈ L → b ≠ aContents → b ≠ aContentMany → b ≠ aRow → b ≠ aKept → f21 b = f b := fun b mb nb0 nb1 nb2 nb3 => (up_ne ef21 nb0 rfl).trans (fr b mb nb0 nb1 nb2 nb3)
          refine lv_aload_n hx hb dX9_doPut_240 rfl (lv_at hl 1 rfl) ?_
          have e_y := (up_ne ef21 n_y_aContents e_y)
          refine q_get hx hb hts in_X9 hown S m_y e_y (C := RX9) (T := TX9) (N := 23) rfl 7 (by decide) rfl (hts (.fieldLink RX9 32 "SieveCabinetModel" "contentMany" "[I") (gu_wsX9_doPut_1 _ gm_0)) dX9_doPut_241 ?_
          refine lv_iload_n hx hb dX9_doPut_244 rfl (lv_at hl 2 rfl) ?_
          refine lv_dup2_11 hx hb dX9_doPut_245 rfl rfl ?_
          obtain ⟨hi246, hM⟩ := ckx hM
          have e_aContentMany := (up_ne ef21 n_aContentMany_aContents e_aContentMany)
          refine q_iald hx hb S m_aContentMany e_aContentMany hi246 dX9_doPut_246 ?_
          refine lv_iconst (v := (1 : Int32)) hx hb dX9_doPut_247 (by decide) ?_
          refine lv_iadd hx hb dX9_doPut_248 ?_
          obtain ⟨hi249, hM⟩ := ckx hM
          refine k_iast hx hb S m_aContentMany e_aContentMany hi249 dX9_doPut_249 (fun f22 ef22 H locs S => ?_)
          have e_aContentMany := up_self ef22
          have fr : ∀ b, b ∈ L → b ≠ aContents → b ≠ aContentMany → b ≠ aRow → b ≠ aKept → f22 b = f b := fun b mb nb0 nb1 nb2 nb3 => (up_ne ef22 nb1 rfl).trans (fr b mb nb0 nb1 nb2 nb3)
          refine lv_aload_n hx hb dX9_doPut_250 rfl (lv_at hl 1 rfl) ?_
          have e_y := (up_ne ef22 n_y_aContentMany e_y)
          refine q_get hx hb hts in_X9 hown S m_y e_y (C := RX9) (T := TX9) (N := 23) rfl 7 (by decide) rfl (hts (.fieldLink RX9 32 "SieveCabinetModel" "contentMany" "[I") (gu_wsX9_doPut_1 _ gm_0)) dX9_doPut_251 ?_
          refine lv_iload_n hx hb dX9_doPut_254 rfl (lv_at hl 2 rfl) ?_
          obtain ⟨hi255, hM⟩ := ckx hM
          refine q_iald hx hb S m_aContentMany e_aContentMany hi255 dX9_doPut_255 ?_
          have e_aContents := (up_ne ef22 n_aContents_aContentMany e_aContents)
          have e_aRow := (up_ne ef22 n_aRow_aContentMany (up_ne ef21 n_aRow_aContents e_aRow))
          have e_aKept := (up_ne ef22 n_aKept_aContentMany (up_ne ef21 n_aKept_aContents ((fv74 aKept m_aKept n_aKept_aRow).trans e_aKept)))
          subst hQQ
          exact q_reti (post := fun x L1 f1 => x = z.1 ∧ L1 = L ∧ (∀ b, b ∈ L → b ≠ aContents → b ≠ aContentMany → b ≠ aRow → b ≠ aKept → f1 b = f b) ∧ f1 aContents = .inl (g 1, 30000, .inr (.inl z.2.1)) ∧ f1 aContentMany = .inl (g 0, 30, .inl z.2.2.1) ∧ f1 aRow = .inl (g 0, 122880, .inl z.2.2.2.1) ∧ f1 aKept = .inl (g 0, 4096, .inl z.2.2.2.2)) hx hb hr hlk S dX9_doPut_256 (by decide) (by decide) (by have hz := Option.some.inj hM; subst hz; exact ⟨rfl, rfl, fr, e_aContents, e_aContentMany, e_aRow, e_aKept⟩)
        · have hM := itT b77 hM
          refine lv_iconst (v := (0 : Int32)) hx hb dX9_doPut_80 (by decide) ?_
          refine lv_istore (lv' := [(5, .int (0 : Int32)), (4, .int (sq * (4096 : Int32))), (0, .ref y), (1, .int sq), (2, .long t)]) hx hb dX9_doPut_81 hl (by decide) rfl (fun ls hl => ?_)
          have e_y := ((fv74 y m_y n_y_aRow).trans e_y)
          have e_aWorlds := ((fv74 aWorlds m_aWorlds n_aWorlds_aRow).trans e_aWorlds)
          have e_aInWorld := ((fv74 aInWorld m_aInWorld n_aInWorld_aRow).trans e_aInWorld)
          have e_aKind := ((fv74 aKind m_aKind n_aKind_aRow).trans e_aKind)
          have e_aSize := ((fv74 aSize m_aSize n_aSize_aRow).trans e_aSize)
          have e_aMarks := ((fv74 aMarks m_aMarks n_aMarks_aRow).trans e_aMarks)
          have e_aSeed := ((fv74 aSeed m_aSeed n_aSeed_aRow).trans e_aSeed)
          have e_aContents := ((fv74 aContents m_aContents n_aContents_aRow).trans e_aContents)
          have e_aContentMany := ((fv74 aContentMany m_aContentMany n_aContentMany_aRow).trans e_aContentMany)
          have e_aBits := ((fv74 aBits m_aBits n_aBits_aRow).trans e_aBits)
          have e_aLayerSize := ((fv74 aLayerSize m_aLayerSize n_aLayerSize_aRow).trans e_aLayerSize)
          have e_aLayerCame := ((fv74 aLayerCame m_aLayerCame n_aLayerCame_aRow).trans e_aLayerCame)
          have e_aRest := ((fv74 aRest m_aRest n_aRest_aRow).trans e_aRest)
          have e_aRestMany := ((fv74 aRestMany m_aRestMany n_aRestMany_aRow).trans e_aRestMany)
          have e_aCome := ((fv74 aCome m_aCome n_aCome_aRow).trans e_aCome)
          have e_aRivals := ((fv74 aRivals m_aRivals n_aRivals_aRow).trans e_aRivals)
          have e_aGone := ((fv74 aGone m_aGone n_aGone_aRow).trans e_aGone)
          have e_aOrder := ((fv74 aOrder m_aOrder n_aOrder_aRow).trans e_aOrder)
          have e_aOffAt := ((fv74 aOffAt m_aOffAt n_aOffAt_aRow).trans e_aOffAt)
          have e_aIsOff := ((fv74 aIsOff m_aIsOff n_aIsOff_aRow).trans e_aIsOff)
          have e_aAlone := ((fv74 aAlone m_aAlone n_aAlone_aRow).trans e_aAlone)
          have e_aKept := ((fv74 aKept m_aKept n_aKept_aRow).trans e_aKept)
          obtain ⟨o83, ho83, hM⟩ := bind_some hM
          have EX83 : ∀ (fl83 : Nat → va_E) (H : Heap) (locs : List Loc) (ls : Array Slot), PS D g (va_A (va_pl L f) szz) s.heap s L fl83 H locs → fl83 y = .inr (7, [.ref aWorlds, .ref aInWorld, .ref aKind, .ref aSize, .ref aMarks, .ref aSeed, .ref aContents, .ref aContentMany, .ref aRow, .ref aBits, .ref aLayerSize, .ref aLayerCame, .ref aRest, .ref aRestMany, .int many, .ref aCome, .ref aRivals, .ref aGone, .ref aOrder, .ref aOffAt, .ref aIsOff, .ref aAlone, .ref aKept]) → fl83 aWorlds = .inl (g 1, 8000, .inr (.inl vWorlds)) → fl83 aInWorld = .inl (g 0, 8, .inl vInWorld) → fl83 aKind = .inl (g 0, 30, .inl vKind) → fl83 aSize = .inl (g 0, 30, .inl vSize) → fl83 aMarks = .inl (g 0, 30, .inl vMarks) → fl83 aSeed = .inl (g 0, 30, .inl vSeed) → fl83 aContents = .inl (g 1, 30000, .inr (.inl vContents)) → fl83 aContentMany = .inl (g 0, 30, .inl vContentMany) → fl83 aRow = .inl (g 0, 122880, .inl o83.2) → fl83 aBits = .inl (g 0, 76800, .inl vBits) → fl83 aLayerSize = .inl (g 0, 600, .inl vLayerSize) → fl83 aLayerCame = .inl (g 0, 600, .inl vLayerCame) → fl83 aRest = .inl (g 1, 30000, .inr (.inl vRest)) → fl83 aRestMany = .inl (g 0, 30, .inl vRestMany) → fl83 aCome = .inl (g 1, 1000, .inr (.inl vCome)) → fl83 aRivals = .inl (g 1, 1000, .inr (.inl vRivals)) → fl83 aGone = .inl (g 1, 1000, .inr (.inl vGone)) → fl83 aOrder = .inl (g 0, 1000, .inl vOrder) → fl83 aOffAt = .inl (g 0, 1000, .inl vOffAt) → fl83 aIsOff = .inl (g 2, 1000, .inl vIsOff) → fl83 aAlone = .inl (g 0, 4096, .inl vAlone) → fl83 aKept = .inl (g 0, 4096, .inl o35.2) → (∀ b, b ∈ L → b ≠ aContents → b ≠ aContentMany → b ≠ aRow → b ≠ aKept → fl83 b = f b) → lv_has ls 10 [] → W p l e { frames := 3, cells := 0, slots := 0, locals := 81 } s m [.ref y, .int sq, .long t].toArray below meth c H locs 0 0 QQ (F0 m 119 ls []) := by
            intro fl83 H locs ls S e_y e_aWorlds e_aInWorld e_aKind e_aSize e_aMarks e_aSeed e_aContents e_aContentMany e_aRow e_aBits e_aLayerSize e_aLayerCame e_aRest e_aRestMany e_aCome e_aRivals e_aGone e_aOrder e_aOffAt e_aIsOff e_aAlone e_aKept fr hl
            refine lv_bipush (v := (-3 : Int32)) hx hb dX9_doPut_119 (by decide) ?_
            subst hQQ
            exact q_reti (post := fun x L1 f1 => x = z.1 ∧ L1 = L ∧ (∀ b, b ∈ L → b ≠ aContents → b ≠ aContentMany → b ≠ aRow → b ≠ aKept → f1 b = f b) ∧ f1 aContents = .inl (g 1, 30000, .inr (.inl z.2.1)) ∧ f1 aContentMany = .inl (g 0, 30, .inl z.2.2.1) ∧ f1 aRow = .inl (g 0, 122880, .inl z.2.2.2.1) ∧ f1 aKept = .inl (g 0, 4096, .inl z.2.2.2.2)) hx hb hr hlk S dX9_doPut_121 (by decide) (by decide) (by have hz := Option.some.inj hM; subst hz; exact ⟨rfl, rfl, fr, e_aContents, e_aContentMany, e_aRow, e_aKept⟩)
          have LP83 : ∀ (fu : Nat) (x5_83 : Int32) (caRow_83 : Nat → Int32) (fl83 : Nat → va_E) (H : Heap) (locs : List Loc) (ls : Array Slot), (mX9_doPut_L83 vSize sq o35) fu x5_83 caRow_83 = some o83 → PS D g (va_A (va_pl L f) szz) s.heap s L fl83 H locs → fl83 y = .inr (7, [.ref aWorlds, .ref aInWorld, .ref aKind, .ref aSize, .ref aMarks, .ref aSeed, .ref aContents, .ref aContentMany, .ref aRow, .ref aBits, .ref aLayerSize, .ref aLayerCame, .ref aRest, .ref aRestMany, .int many, .ref aCome, .ref aRivals, .ref aGone, .ref aOrder, .ref aOffAt, .ref aIsOff, .ref aAlone, .ref aKept]) → fl83 aWorlds = .inl (g 1, 8000, .inr (.inl vWorlds)) → fl83 aInWorld = .inl (g 0, 8, .inl vInWorld) → fl83 aKind = .inl (g 0, 30, .inl vKind) → fl83 aSize = .inl (g 0, 30, .inl vSize) → fl83 aMarks = .inl (g 0, 30, .inl vMarks) → fl83 aSeed = .inl (g 0, 30, .inl vSeed) → fl83 aContents = .inl (g 1, 30000, .inr (.inl vContents)) → fl83 aContentMany = .inl (g 0, 30, .inl vContentMany) → fl83 aRow = .inl (g 0, 122880, .inl caRow_83) → fl83 aBits = .inl (g 0, 76800, .inl vBits) → fl83 aLayerSize = .inl (g 0, 600, .inl vLayerSize) → fl83 aLayerCame = .inl (g 0, 600, .inl vLayerCame) → fl83 aRest = .inl (g 1, 30000, .inr (.inl vRest)) → fl83 aRestMany = .inl (g 0, 30, .inl vRestMany) → fl83 aCome = .inl (g 1, 1000, .inr (.inl vCome)) → fl83 aRivals = .inl (g 1, 1000, .inr (.inl vRivals)) → fl83 aGone = .inl (g 1, 1000, .inr (.inl vGone)) → fl83 aOrder = .inl (g 0, 1000, .inl vOrder) → fl83 aOffAt = .inl (g 0, 1000, .inl vOffAt) → fl83 aIsOff = .inl (g 2, 1000, .inl vIsOff) → fl83 aAlone = .inl (g 0, 4096, .inl vAlone) → fl83 aKept = .inl (g 0, 4096, .inl o35.2) → (∀ b, b ∈ L → b ≠ aContents → b ≠ aContentMany → b ≠ aRow → b ≠ aKept → fl83 b = f b) → lv_has ls 10 [(5, .int x5_83), (4, .int (sq * (4096 : Int32))), (0, .ref y), (1, .int sq)] → W p l e { frames := 3, cells := 0, slots := 0, locals := 81 } s m [.ref y, .int sq, .long t].toArray below meth c H locs 0 0 QQ (F0 m 83 ls []) := by
            intro fu
            induction fu with
            | zero => intro x5_83 caRow_83 fl83 H locs ls ho83 S e_y e_aWorlds e_aInWorld e_aKind e_aSize e_aMarks e_aSeed e_aContents e_aContentMany e_aRow e_aBits e_aLayerSize e_aLayerCame e_aRest e_aRestMany e_aCome e_aRivals e_aGone e_aOrder e_aOffAt e_aIsOff e_aAlone e_aKept fr hl; exact no_some ho83
            | succ fu ih83 =>
              intro x5_83 caRow_83 fl83 H locs ls ho83 S e_y e_aWorlds e_aInWorld e_aKind e_aSize e_aMarks e_aSeed e_aContents e_aContentMany e_aRow e_aBits e_aLayerSize e_aLayerCame e_aRest e_aRestMany e_aCome e_aRivals e_aGone e_aOrder e_aOffAt e_aIsOff e_aAlone e_aKept fr hl
              rw [mX9_doPut_L83] at ho83
              refine lv_iload hx hb dX9_doPut_83 (lv_at hl 0 rfl) ?_
              refine lv_iconst (v := (4 : Int32)) hx hb dX9_doPut_85 (by decide) ?_
              refine lv_aload_n hx hb dX9_doPut_86 rfl (lv_at hl 2 rfl) ?_
              refine q_get hx hb hts in_X9 hown S m_y e_y (C := RX9) (T := TX9) (N := 23) rfl 3 (by decide) rfl (hts (.fieldLink RX9 20 "SieveCabinetModel" "size" "[I") (gu_wsX9_doPut_1 _ gm_2)) dX9_doPut_87 ?_
              refine lv_iload_n hx hb dX9_doPut_90 rfl (lv_at hl 3 rfl) ?_
              obtain ⟨hi91, ho83⟩ := ckx ho83
              refine q_iald hx hb S m_aSize e_aSize hi91 dX9_doPut_91 ?_
              refine lv_imul hx hb dX9_doPut_92 ?_
              refine lv_icmp_ge (tgt := 119) hx hb dX9_doPut_93 (by decide) (fun b93 => ?_) (fun b93 => ?_)
              · have ho83 := itT b93 ho83
                obtain rfl := Option.some.inj ho83
                exact EX83 fl83 _ _ _ S e_y e_aWorlds e_aInWorld e_aKind e_aSize e_aMarks e_aSeed e_aContents e_aContentMany e_aRow e_aBits e_aLayerSize e_aLayerCame e_aRest e_aRestMany e_aCome e_aRivals e_aGone e_aOrder e_aOffAt e_aIsOff e_aAlone e_aKept fr (lv_sub hl [] rfl)
              · have ho83 := itF b93 ho83
                refine lv_aload_n hx hb dX9_doPut_96 rfl (lv_at hl 2 rfl) ?_
                refine q_get hx hb hts in_X9 hown S m_y e_y (C := RX9) (T := TX9) (N := 23) rfl 8 (by decide) rfl (hts (.fieldLink RX9 36 "SieveCabinetModel" "row" "[I") (gu_wsX9_doPut_1 _ gm_4)) dX9_doPut_97 ?_
                refine lv_iload hx hb dX9_doPut_100 (lv_at hl 1 rfl) ?_
                refine lv_iload hx hb dX9_doPut_102 (lv_at hl 0 rfl) ?_
                refine lv_iadd hx hb dX9_doPut_104 ?_
                refine lv_aload_n hx hb dX9_doPut_105 rfl (lv_at hl 2 rfl) ?_
                refine q_get hx hb hts in_X9 hown S m_y e_y (C := RX9) (T := TX9) (N := 23) rfl 22 (by decide) rfl (hts (.fieldLink RX9 77 "SieveCabinetModel" "kept" "[I") (gu_wsX9_doPut_1 _ gm_3)) dX9_doPut_106 ?_
                refine lv_iload hx hb dX9_doPut_109 (lv_at hl 0 rfl) ?_
                obtain ⟨hi111, ho83⟩ := ckx ho83
                refine q_iald hx hb S m_aKept e_aKept hi111 dX9_doPut_111 ?_
                obtain ⟨hi112, ho83⟩ := ckx ho83
                refine k_iast hx hb S m_aRow e_aRow hi112 dX9_doPut_112 (fun f23 ef23 H locs S => ?_)
                have e_aRow := up_self ef23
                have fr : ∀ b, b ∈ L → b ≠ aContents → b ≠ aContentMany → b ≠ aRow → b ≠ aKept → f23 b = f b := fun b mb nb0 nb1 nb2 nb3 => (up_ne ef23 nb2 rfl).trans (fr b mb nb0 nb1 nb2 nb3)
                refine lv_iinc (v := (x5_83 + 1)) (lv' := [(5, .int (x5_83 + 1)), (4, .int (sq * (4096 : Int32))), (0, .ref y), (1, .int sq)]) hx hb dX9_doPut_113 hl (k := 0) rfl rfl (by decide) rfl (fun ls hl => ?_)
                refine lv_goto (tgt := 83) hx hb dX9_doPut_116 (by decide) ?_
                have e_y := (up_ne ef23 n_y_aRow e_y)
                have e_aWorlds := (up_ne ef23 n_aWorlds_aRow e_aWorlds)
                have e_aInWorld := (up_ne ef23 n_aInWorld_aRow e_aInWorld)
                have e_aKind := (up_ne ef23 n_aKind_aRow e_aKind)
                have e_aSize := (up_ne ef23 n_aSize_aRow e_aSize)
                have e_aMarks := (up_ne ef23 n_aMarks_aRow e_aMarks)
                have e_aSeed := (up_ne ef23 n_aSeed_aRow e_aSeed)
                have e_aContents := (up_ne ef23 n_aContents_aRow e_aContents)
                have e_aContentMany := (up_ne ef23 n_aContentMany_aRow e_aContentMany)
                have e_aBits := (up_ne ef23 n_aBits_aRow e_aBits)
                have e_aLayerSize := (up_ne ef23 n_aLayerSize_aRow e_aLayerSize)
                have e_aLayerCame := (up_ne ef23 n_aLayerCame_aRow e_aLayerCame)
                have e_aRest := (up_ne ef23 n_aRest_aRow e_aRest)
                have e_aRestMany := (up_ne ef23 n_aRestMany_aRow e_aRestMany)
                have e_aCome := (up_ne ef23 n_aCome_aRow e_aCome)
                have e_aRivals := (up_ne ef23 n_aRivals_aRow e_aRivals)
                have e_aGone := (up_ne ef23 n_aGone_aRow e_aGone)
                have e_aOrder := (up_ne ef23 n_aOrder_aRow e_aOrder)
                have e_aOffAt := (up_ne ef23 n_aOffAt_aRow e_aOffAt)
                have e_aIsOff := (up_ne ef23 n_aIsOff_aRow e_aIsOff)
                have e_aAlone := (up_ne ef23 n_aAlone_aRow e_aAlone)
                have e_aKept := (up_ne ef23 n_aKept_aRow e_aKept)
                exact ih83 (x5_83 + 1) (upd caRow_83 (Int32.toNatClampNeg ((sq * (4096 : Int32)) + x5_83)) (o35.2 (Int32.toNatClampNeg x5_83))) f23 _ _ _ ho83 S e_y e_aWorlds e_aInWorld e_aKind e_aSize e_aMarks e_aSeed e_aContents e_aContentMany e_aRow e_aBits e_aLayerSize e_aLayerCame e_aRest e_aRestMany e_aCome e_aRivals e_aGone e_aOrder e_aOffAt e_aIsOff e_aAlone e_aKept fr (lv_sub hl [0, 1, 2, 3] rfl)
          exact LP83 FU (0 : Int32) z74.2 f19 _ _ _ ho83 S e_y e_aWorlds e_aInWorld e_aKind e_aSize e_aMarks e_aSeed e_aContents e_aContentMany e_aRow e_aBits e_aLayerSize e_aLayerCame e_aRest e_aRestMany e_aCome e_aRivals e_aGone e_aOrder e_aOffAt e_aIsOff e_aAlone e_aKept fr (lv_sub hl [0, 1, 2, 3] rfl)
      have LP35 : ∀ (fu : Nat) (x5_35 : Int32) (caKept_35 : Nat → Int32) (fl35 : Nat → va_E) (H : Heap) (locs : List Loc) (ls : Array Slot), (mX9_doPut_L35 vSize vRow sq) fu x5_35 caKept_35 = some o35 → PS D g (va_A (va_pl L f) szz) s.heap s L fl35 H locs → fl35 y = .inr (7, [.ref aWorlds, .ref aInWorld, .ref aKind, .ref aSize, .ref aMarks, .ref aSeed, .ref aContents, .ref aContentMany, .ref aRow, .ref aBits, .ref aLayerSize, .ref aLayerCame, .ref aRest, .ref aRestMany, .int many, .ref aCome, .ref aRivals, .ref aGone, .ref aOrder, .ref aOffAt, .ref aIsOff, .ref aAlone, .ref aKept]) → fl35 aWorlds = .inl (g 1, 8000, .inr (.inl vWorlds)) → fl35 aInWorld = .inl (g 0, 8, .inl vInWorld) → fl35 aKind = .inl (g 0, 30, .inl vKind) → fl35 aSize = .inl (g 0, 30, .inl vSize) → fl35 aMarks = .inl (g 0, 30, .inl vMarks) → fl35 aSeed = .inl (g 0, 30, .inl vSeed) → fl35 aContents = .inl (g 1, 30000, .inr (.inl vContents)) → fl35 aContentMany = .inl (g 0, 30, .inl vContentMany) → fl35 aRow = .inl (g 0, 122880, .inl vRow) → fl35 aBits = .inl (g 0, 76800, .inl vBits) → fl35 aLayerSize = .inl (g 0, 600, .inl vLayerSize) → fl35 aLayerCame = .inl (g 0, 600, .inl vLayerCame) → fl35 aRest = .inl (g 1, 30000, .inr (.inl vRest)) → fl35 aRestMany = .inl (g 0, 30, .inl vRestMany) → fl35 aCome = .inl (g 1, 1000, .inr (.inl vCome)) → fl35 aRivals = .inl (g 1, 1000, .inr (.inl vRivals)) → fl35 aGone = .inl (g 1, 1000, .inr (.inl vGone)) → fl35 aOrder = .inl (g 0, 1000, .inl vOrder) → fl35 aOffAt = .inl (g 0, 1000, .inl vOffAt) → fl35 aIsOff = .inl (g 2, 1000, .inl vIsOff) → fl35 aAlone = .inl (g 0, 4096, .inl vAlone) → fl35 aKept = .inl (g 0, 4096, .inl caKept_35) → (∀ b, b ∈ L → b ≠ aContents → b ≠ aContentMany → b ≠ aRow → b ≠ aKept → fl35 b = f b) → lv_has ls 10 [(5, .int x5_35), (4, .int (sq * (4096 : Int32))), (0, .ref y), (1, .int sq), (2, .long t)] → W p l e { frames := 3, cells := 0, slots := 0, locals := 81 } s m [.ref y, .int sq, .long t].toArray below meth c H locs 0 0 QQ (F0 m 35 ls []) := by
        intro fu
        induction fu with
        | zero => intro x5_35 caKept_35 fl35 H locs ls ho35 S e_y e_aWorlds e_aInWorld e_aKind e_aSize e_aMarks e_aSeed e_aContents e_aContentMany e_aRow e_aBits e_aLayerSize e_aLayerCame e_aRest e_aRestMany e_aCome e_aRivals e_aGone e_aOrder e_aOffAt e_aIsOff e_aAlone e_aKept fr hl; exact no_some ho35
        | succ fu ih35 =>
          intro x5_35 caKept_35 fl35 H locs ls ho35 S e_y e_aWorlds e_aInWorld e_aKind e_aSize e_aMarks e_aSeed e_aContents e_aContentMany e_aRow e_aBits e_aLayerSize e_aLayerCame e_aRest e_aRestMany e_aCome e_aRivals e_aGone e_aOrder e_aOffAt e_aIsOff e_aAlone e_aKept fr hl
          rw [mX9_doPut_L35] at ho35
          refine lv_iload hx hb dX9_doPut_35 (lv_at hl 0 rfl) ?_
          refine lv_iconst (v := (4 : Int32)) hx hb dX9_doPut_37 (by decide) ?_
          refine lv_aload_n hx hb dX9_doPut_38 rfl (lv_at hl 2 rfl) ?_
          refine q_get hx hb hts in_X9 hown S m_y e_y (C := RX9) (T := TX9) (N := 23) rfl 3 (by decide) rfl (hts (.fieldLink RX9 20 "SieveCabinetModel" "size" "[I") (gu_wsX9_doPut_1 _ gm_2)) dX9_doPut_39 ?_
          refine lv_iload_n hx hb dX9_doPut_42 rfl (lv_at hl 3 rfl) ?_
          obtain ⟨hi43, ho35⟩ := ckx ho35
          refine q_iald hx hb S m_aSize e_aSize hi43 dX9_doPut_43 ?_
          refine lv_imul hx hb dX9_doPut_44 ?_
          refine lv_icmp_ge (tgt := 71) hx hb dX9_doPut_45 (by decide) (fun b45 => ?_) (fun b45 => ?_)
          · have ho35 := itT b45 ho35
            obtain rfl := Option.some.inj ho35
            exact EX35 fl35 _ _ _ S e_y e_aWorlds e_aInWorld e_aKind e_aSize e_aMarks e_aSeed e_aContents e_aContentMany e_aRow e_aBits e_aLayerSize e_aLayerCame e_aRest e_aRestMany e_aCome e_aRivals e_aGone e_aOrder e_aOffAt e_aIsOff e_aAlone e_aKept fr (lv_sub hl [1, 2, 3, 4] rfl)
          · have ho35 := itF b45 ho35
            refine lv_aload_n hx hb dX9_doPut_48 rfl (lv_at hl 2 rfl) ?_
            refine q_get hx hb hts in_X9 hown S m_y e_y (C := RX9) (T := TX9) (N := 23) rfl 22 (by decide) rfl (hts (.fieldLink RX9 77 "SieveCabinetModel" "kept" "[I") (gu_wsX9_doPut_1 _ gm_3)) dX9_doPut_49 ?_
            refine lv_iload hx hb dX9_doPut_52 (lv_at hl 0 rfl) ?_
            refine lv_aload_n hx hb dX9_doPut_54 rfl (lv_at hl 2 rfl) ?_
            refine q_get hx hb hts in_X9 hown S m_y e_y (C := RX9) (T := TX9) (N := 23) rfl 8 (by decide) rfl (hts (.fieldLink RX9 36 "SieveCabinetModel" "row" "[I") (gu_wsX9_doPut_1 _ gm_4)) dX9_doPut_55 ?_
            refine lv_iload hx hb dX9_doPut_58 (lv_at hl 1 rfl) ?_
            refine lv_iload hx hb dX9_doPut_60 (lv_at hl 0 rfl) ?_
            refine lv_iadd hx hb dX9_doPut_62 ?_
            obtain ⟨hi63, ho35⟩ := ckx ho35
            refine q_iald hx hb S m_aRow e_aRow hi63 dX9_doPut_63 ?_
            obtain ⟨hi64, ho35⟩ := ckx ho35
            refine k_iast hx hb S m_aKept e_aKept hi64 dX9_doPut_64 (fun f24 ef24 H locs S => ?_)
            have e_aKept := up_self ef24
            have fr : ∀ b, b ∈ L → b ≠ aContents → b ≠ aContentMany → b ≠ aRow → b ≠ aKept → f24 b = f b := fun b mb nb0 nb1 nb2 nb3 => (up_ne ef24 nb3 rfl).trans (fr b mb nb0 nb1 nb2 nb3)
            refine lv_iinc (v := (x5_35 + 1)) (lv' := [(5, .int (x5_35 + 1)), (4, .int (sq * (4096 : Int32))), (0, .ref y), (1, .int sq), (2, .long t)]) hx hb dX9_doPut_65 hl (k := 0) rfl rfl (by decide) rfl (fun ls hl => ?_)
            refine lv_goto (tgt := 35) hx hb dX9_doPut_68 (by decide) ?_
            have e_y := (up_ne ef24 n_y_aKept e_y)
            have e_aWorlds := (up_ne ef24 n_aWorlds_aKept e_aWorlds)
            have e_aInWorld := (up_ne ef24 n_aInWorld_aKept e_aInWorld)
            have e_aKind := (up_ne ef24 n_aKind_aKept e_aKind)
            have e_aSize := (up_ne ef24 n_aSize_aKept e_aSize)
            have e_aMarks := (up_ne ef24 n_aMarks_aKept e_aMarks)
            have e_aSeed := (up_ne ef24 n_aSeed_aKept e_aSeed)
            have e_aContents := (up_ne ef24 n_aContents_aKept e_aContents)
            have e_aContentMany := (up_ne ef24 n_aContentMany_aKept e_aContentMany)
            have e_aRow := (up_ne ef24 n_aRow_aKept e_aRow)
            have e_aBits := (up_ne ef24 n_aBits_aKept e_aBits)
            have e_aLayerSize := (up_ne ef24 n_aLayerSize_aKept e_aLayerSize)
            have e_aLayerCame := (up_ne ef24 n_aLayerCame_aKept e_aLayerCame)
            have e_aRest := (up_ne ef24 n_aRest_aKept e_aRest)
            have e_aRestMany := (up_ne ef24 n_aRestMany_aKept e_aRestMany)
            have e_aCome := (up_ne ef24 n_aCome_aKept e_aCome)
            have e_aRivals := (up_ne ef24 n_aRivals_aKept e_aRivals)
            have e_aGone := (up_ne ef24 n_aGone_aKept e_aGone)
            have e_aOrder := (up_ne ef24 n_aOrder_aKept e_aOrder)
            have e_aOffAt := (up_ne ef24 n_aOffAt_aKept e_aOffAt)
            have e_aIsOff := (up_ne ef24 n_aIsOff_aKept e_aIsOff)
            have e_aAlone := (up_ne ef24 n_aAlone_aKept e_aAlone)
            exact ih35 (x5_35 + 1) (upd caKept_35 (Int32.toNatClampNeg x5_35) (vRow (Int32.toNatClampNeg ((sq * (4096 : Int32)) + x5_35)))) f24 _ _ _ ho35 S e_y e_aWorlds e_aInWorld e_aKind e_aSize e_aMarks e_aSeed e_aContents e_aContentMany e_aRow e_aBits e_aLayerSize e_aLayerCame e_aRest e_aRestMany e_aCome e_aRivals e_aGone e_aOrder e_aOffAt e_aIsOff e_aAlone e_aKept fr (lv_sub hl [0, 1, 2, 3, 4] rfl)
      exact LP35 FU (0 : Int32) vKept f _ _ _ ho35 S e_y e_aWorlds e_aInWorld e_aKind e_aSize e_aMarks e_aSeed e_aContents e_aContentMany e_aRow e_aBits e_aLayerSize e_aLayerCame e_aRest e_aRestMany e_aCome e_aRivals e_aGone e_aOrder e_aOffAt e_aIsOff e_aAlone e_aKept fr (lv_sub hl [0, 1, 2, 3, 4] rfl)
  · have hM := itT b9 hM
    refine lv_bipush (v := (-4 : Int32)) hx hb dX9_doPut_12 (by decide) ?_
    subst hQQ
    exact q_reti (post := fun x L1 f1 => x = z.1 ∧ L1 = L ∧ (∀ b, b ∈ L → b ≠ aContents → b ≠ aContentMany → b ≠ aRow → b ≠ aKept → f1 b = f b) ∧ f1 aContents = .inl (g 1, 30000, .inr (.inl z.2.1)) ∧ f1 aContentMany = .inl (g 0, 30, .inl z.2.2.1) ∧ f1 aRow = .inl (g 0, 122880, .inl z.2.2.2.1) ∧ f1 aKept = .inl (g 0, 4096, .inl z.2.2.2.2)) hx hb hr hlk S dX9_doPut_14 (by decide) (by decide) (by have hz := Option.some.inj hM; subst hz; exact ⟨rfl, rfl, fr, e_aContents, e_aContentMany, e_aRow, e_aKept⟩)

def mX9_put (many : Int32) (vKind : Nat → Int32) (vSize : Nat → Int32) (vMarks : Nat → Int32) (vSeed : Nat → Int32) (vContents : Nat → Int64) (vContentMany : Nat → Int32) (vRow : Nat → Int32) (vKept : Nat → Int32) (sq : Int32) (t : Int64) : Option (Int32 × (Nat → Int64) × (Nat → Int32) × (Nat → Int32) × (Nat → Int32)) := (mX9_is many sq).bind fun z2 => if z2 = 0 then (some ((-1 : Int32), vContents, vContentMany, vRow, vKept)) else (if ix sq 30 = true then (if (vKind (Int32.toNatClampNeg sq)) ≤ (2 : Int32) then ((mX9_doPut vKind vSize vMarks vSeed vContents vContentMany vRow vKept sq t).bind fun z28 => some (z28.1, z28.2.1, z28.2.2.1, z28.2.2.2.1, z28.2.2.2.2)) else (some ((-2 : Int32), vContents, vContentMany, vRow, vKept))) else none)
set_option maxHeartbeats 4000000 in
set_option maxRecDepth 100000 in
theorem k_X9_put (l : Launch) (D : va_G) (g : Nat → ClassId) {L : List Nat} {f : Nat → va_E} {aAlone aBits aCome aContentMany aContents aGone aInWorld aIsOff aKept aKind aLayerCame aLayerSize aMarks aOffAt aOrder aRest aRestMany aRivals aRow aSeed aSize aWorlds y : Nat} {many : Int32} {vWorlds : Nat → Int64} {vInWorld : Nat → Int32} {vKind : Nat → Int32} {vSize : Nat → Int32} {vMarks : Nat → Int32} {vSeed : Nat → Int32} {vContents : Nat → Int64} {vContentMany : Nat → Int32} {vRow : Nat → Int32} {vBits : Nat → Int32} {vLayerSize : Nat → Int32} {vLayerCame : Nat → Int32} {vRest : Nat → Int64} {vRestMany : Nat → Int32} {vCome : Nat → Int64} {vRivals : Nat → Int64} {vGone : Nat → Int64} {vOrder : Nat → Int32} {vOffAt : Nat → Int32} {vIsOff : Nat → Int32} {vAlone : Nat → Int32} {vKept : Nat → Int32} {sq : Int32} {t : Int64} {ρ : Nat → Nat × Nat} {z : Int32 × (Nat → Int64) × (Nat → Int32) × (Nat → Int32) × (Nat → Int32)} (m_y : y ∈ L) (e_y : f y = .inr (7, [.ref aWorlds, .ref aInWorld, .ref aKind, .ref aSize, .ref aMarks, .ref aSeed, .ref aContents, .ref aContentMany, .ref aRow, .ref aBits, .ref aLayerSize, .ref aLayerCame, .ref aRest, .ref aRestMany, .int many, .ref aCome, .ref aRivals, .ref aGone, .ref aOrder, .ref aOffAt, .ref aIsOff, .ref aAlone, .ref aKept])) (m_aWorlds : aWorlds ∈ L) (e_aWorlds : f aWorlds = .inl (g 1, 8000, .inr (.inl vWorlds))) (m_aInWorld : aInWorld ∈ L) (e_aInWorld : f aInWorld = .inl (g 0, 8, .inl vInWorld)) (m_aKind : aKind ∈ L) (e_aKind : f aKind = .inl (g 0, 30, .inl vKind)) (m_aSize : aSize ∈ L) (e_aSize : f aSize = .inl (g 0, 30, .inl vSize)) (m_aMarks : aMarks ∈ L) (e_aMarks : f aMarks = .inl (g 0, 30, .inl vMarks)) (m_aSeed : aSeed ∈ L) (e_aSeed : f aSeed = .inl (g 0, 30, .inl vSeed)) (m_aContents : aContents ∈ L) (e_aContents : f aContents = .inl (g 1, 30000, .inr (.inl vContents))) (m_aContentMany : aContentMany ∈ L) (e_aContentMany : f aContentMany = .inl (g 0, 30, .inl vContentMany)) (m_aRow : aRow ∈ L) (e_aRow : f aRow = .inl (g 0, 122880, .inl vRow)) (m_aBits : aBits ∈ L) (e_aBits : f aBits = .inl (g 0, 76800, .inl vBits)) (m_aLayerSize : aLayerSize ∈ L) (e_aLayerSize : f aLayerSize = .inl (g 0, 600, .inl vLayerSize)) (m_aLayerCame : aLayerCame ∈ L) (e_aLayerCame : f aLayerCame = .inl (g 0, 600, .inl vLayerCame)) (m_aRest : aRest ∈ L) (e_aRest : f aRest = .inl (g 1, 30000, .inr (.inl vRest))) (m_aRestMany : aRestMany ∈ L) (e_aRestMany : f aRestMany = .inl (g 0, 30, .inl vRestMany)) (m_aCome : aCome ∈ L) (e_aCome : f aCome = .inl (g 1, 1000, .inr (.inl vCome))) (m_aRivals : aRivals ∈ L) (e_aRivals : f aRivals = .inl (g 1, 1000, .inr (.inl vRivals))) (m_aGone : aGone ∈ L) (e_aGone : f aGone = .inl (g 1, 1000, .inr (.inl vGone))) (m_aOrder : aOrder ∈ L) (e_aOrder : f aOrder = .inl (g 0, 1000, .inl vOrder)) (m_aOffAt : aOffAt ∈ L) (e_aOffAt : f aOffAt = .inl (g 0, 1000, .inl vOffAt)) (m_aIsOff : aIsOff ∈ L) (e_aIsOff : f aIsOff = .inl (g 2, 1000, .inl vIsOff)) (m_aAlone : aAlone ∈ L) (e_aAlone : f aAlone = .inl (g 0, 4096, .inl vAlone)) (m_aKept : aKept ∈ L) (e_aKept : f aKept = .inl (g 0, 4096, .inl vKept))  (r_aAlone : ρ aAlone = (500, 22)) (r_aKept : ρ aKept = (500, 23))  (hM : mX9_put many vKind vSize vMarks vSeed vContents vContentMany vRow vKept sq t = some z) : cI l yX9_put wsX9_put { frames := 4, cells := 0, slots := 0, locals := 110 } D g [.ref y, .int sq, .long t] L f 0 0 (fun x L1 f1 => x = z.1 ∧ L1 = L ∧ (∀ b, b ∈ L → b ≠ aContents → b ≠ aContentMany → b ≠ aRow → b ≠ aKept → f1 b = f b) ∧ f1 aContents = .inl (g 1, 30000, .inr (.inl z.2.1)) ∧ f1 aContentMany = .inl (g 0, 30, .inl z.2.2.1) ∧ f1 aRow = .inl (g 0, 122880, .inl z.2.2.2.1) ∧ f1 aKept = .inl (g 0, 4096, .inl z.2.2.2.2)) := by
  refine cI_of (cc := cX9_put) (maxL := 4) (ret := (some .int)) (by decide) rfl (Nat.le_of_ble_eq_true rfl) ?_
  intro szz p e s m below meth c hx hb hr hml hts hown hlk hnm S ls hl
  have hl : lv_has ls 4 [(0, .ref y), (1, .int sq), (2, .long t)] := hl
  have in_X9 : ∀ w ∈ wsX90, w ∈ wsX9_put := gu_wsX9_put_3
  have fr : ∀ b, b ∈ L → b ≠ aContents → b ≠ aContentMany → b ≠ aRow → b ≠ aKept → f b = f b := fun _ _ _ _ _ _ => rfl
  unfold mX9_put at hM
  refine W_gen (fun QQ hQQ => ?_)
  refine lv_aload_n hx hb dX9_put_0 rfl (lv_at hl 0 rfl) ?_
  refine lv_iload_n hx hb dX9_put_1 rfl (lv_at hl 1 rfl) ?_
  obtain ⟨z2, hz2, hM⟩ := bind_some hM
  refine q_vi (As := [.int sq]) (rest := []) ⟨hx, hb, hml, hown, hts⟩ (k_X9_is l D g m_y e_y hz2) (cwV 1 hts gX9_put_X9_is rfl rfl rfl (by decide +kernel) ⟨Nat.le_of_ble_eq_true rfl, Nat.le_of_ble_eq_true rfl⟩) S m_y e_y (T := TX9) (N := 23) rfl rfl hl.1 rfl (Nat.le_of_ble_eq_true rfl) dX9_put_2 ⟨Nat.le_of_ble_eq_true rfl, Nat.le_of_ble_eq_true rfl⟩ (fun r3 L1 f2 H locs S w2 => ?_)
  obtain ⟨ex2, eL, ef⟩ := w2
  rw [eL, ef] at S
  replace ex2 := ex2.symm
  subst ex2
  refine lv_if_ne (tgt := 10) hx hb dX9_put_5 (by decide) (fun b5 => ?_) (fun b5 => ?_)
  · have hM := itF b5 hM
    refine lv_aload_n hx hb dX9_put_10 rfl (lv_at hl 0 rfl) ?_
    refine q_get hx hb hts in_X9 hown S m_y e_y (C := RX9) (T := TX9) (N := 23) rfl 2 (by decide) rfl (hts (.fieldLink RX9 17 "SieveCabinetModel" "kind" "[I") (gu_wsX9_put_1 _ gm_0)) dX9_put_11 ?_
    refine lv_iload_n hx hb dX9_put_14 rfl (lv_at hl 1 rfl) ?_
    obtain ⟨hi15, hM⟩ := ckx hM
    refine q_iald hx hb S m_aKind e_aKind hi15 dX9_put_15 ?_
    refine lv_iconst (v := (2 : Int32)) hx hb dX9_put_16 (by decide) ?_
    refine lv_icmp_le (tgt := 25) hx hb dX9_put_17 (by decide) (fun b17 => ?_) (fun b17 => ?_)
    · have hM := itT b17 hM
      refine lv_aload_n hx hb dX9_put_25 rfl (lv_at hl 0 rfl) ?_
      refine lv_iload_n hx hb dX9_put_26 rfl (lv_at hl 1 rfl) ?_
      refine lv_lload_n hx hb dX9_put_27 rfl (lv_at hl 2 rfl) ?_
      obtain ⟨z28, hz28, hM⟩ := bind_some hM
      refine q_vi (As := [.int sq, .long t]) (rest := []) ⟨hx, hb, hml, hown, hts⟩ (k_X9_doPut l D g m_y e_y m_aWorlds e_aWorlds m_aInWorld e_aInWorld m_aKind e_aKind m_aSize e_aSize m_aMarks e_aMarks m_aSeed e_aSeed m_aContents e_aContents m_aContentMany e_aContentMany m_aRow e_aRow m_aBits e_aBits m_aLayerSize e_aLayerSize m_aLayerCame e_aLayerCame m_aRest e_aRest m_aRestMany e_aRestMany m_aCome e_aCome m_aRivals e_aRivals m_aGone e_aGone m_aOrder e_aOrder m_aOffAt e_aOffAt m_aIsOff e_aIsOff m_aAlone e_aAlone m_aKept e_aKept r_aAlone r_aKept hz28) (cwV 2 hts gX9_put_X9_doPut rfl rfl rfl (by decide +kernel) ⟨Nat.le_of_ble_eq_true rfl, Nat.le_of_ble_eq_true rfl⟩) S m_y e_y (T := TX9) (N := 23) rfl rfl hl.1 rfl (Nat.le_of_ble_eq_true rfl) dX9_put_28 ⟨Nat.le_of_ble_eq_true rfl, Nat.le_of_ble_eq_true rfl⟩ (fun r6 L4 f5 H locs S w28 => ?_)
      obtain ⟨ex28, eL, fv28, E_aContents, E_aContentMany, E_aRow, E_aKept⟩ := w28
      rw [eL] at S
      have fr : ∀ b, b ∈ L → b ≠ aContents → b ≠ aContentMany → b ≠ aRow → b ≠ aKept → f5 b = f b := fun b mb nb0 nb1 nb2 nb3 => (fv28 b mb nb0 nb1 nb2 nb3).trans (fr b mb nb0 nb1 nb2 nb3)
      have e_aContents : f5 aContents = .inl (g 1, 30000, .inr (.inl z28.2.1)) := E_aContents
      have e_aContentMany : f5 aContentMany = .inl (g 0, 30, .inl z28.2.2.1) := E_aContentMany
      have e_aRow : f5 aRow = .inl (g 0, 122880, .inl z28.2.2.2.1) := E_aRow
      have e_aKept : f5 aKept = .inl (g 0, 4096, .inl z28.2.2.2.2) := E_aKept
      replace ex28 := ex28.symm
      subst ex28
      subst hQQ
      exact q_reti (post := fun x L1 f1 => x = z.1 ∧ L1 = L ∧ (∀ b, b ∈ L → b ≠ aContents → b ≠ aContentMany → b ≠ aRow → b ≠ aKept → f1 b = f b) ∧ f1 aContents = .inl (g 1, 30000, .inr (.inl z.2.1)) ∧ f1 aContentMany = .inl (g 0, 30, .inl z.2.2.1) ∧ f1 aRow = .inl (g 0, 122880, .inl z.2.2.2.1) ∧ f1 aKept = .inl (g 0, 4096, .inl z.2.2.2.2)) hx hb hr hlk S dX9_put_31 (by decide) (by decide) (by have hz := Option.some.inj hM; subst hz; exact ⟨rfl, rfl, fr, e_aContents, e_aContentMany, e_aRow, e_aKept⟩)
    · have hM := itF b17 hM
      refine lv_bipush (v := (-2 : Int32)) hx hb dX9_put_20 (by decide) ?_
      refine lv_goto (tgt := 31) hx hb dX9_put_22 (by decide) ?_
      subst hQQ
      exact q_reti (post := fun x L1 f1 => x = z.1 ∧ L1 = L ∧ (∀ b, b ∈ L → b ≠ aContents → b ≠ aContentMany → b ≠ aRow → b ≠ aKept → f1 b = f b) ∧ f1 aContents = .inl (g 1, 30000, .inr (.inl z.2.1)) ∧ f1 aContentMany = .inl (g 0, 30, .inl z.2.2.1) ∧ f1 aRow = .inl (g 0, 122880, .inl z.2.2.2.1) ∧ f1 aKept = .inl (g 0, 4096, .inl z.2.2.2.2)) hx hb hr hlk S dX9_put_31 (by decide) (by decide) (by have hz := Option.some.inj hM; subst hz; exact ⟨rfl, rfl, fr, e_aContents, e_aContentMany, e_aRow, e_aKept⟩)
  · have hM := itT b5 hM
    refine lv_iconst (v := (-1 : Int32)) hx hb dX9_put_8 (by decide) ?_
    subst hQQ
    exact q_reti (post := fun x L1 f1 => x = z.1 ∧ L1 = L ∧ (∀ b, b ∈ L → b ≠ aContents → b ≠ aContentMany → b ≠ aRow → b ≠ aKept → f1 b = f b) ∧ f1 aContents = .inl (g 1, 30000, .inr (.inl z.2.1)) ∧ f1 aContentMany = .inl (g 0, 30, .inl z.2.2.1) ∧ f1 aRow = .inl (g 0, 122880, .inl z.2.2.2.1) ∧ f1 aKept = .inl (g 0, 4096, .inl z.2.2.2.2)) hx hb hr hlk S dX9_put_9 (by decide) (by decide) (by have hz := Option.some.inj hM; subst hz; exact ⟨rfl, rfl, fr, e_aContents, e_aContentMany, e_aRow, e_aKept⟩)

def mX9_putAll_L32 (vWorlds : Nat → Int64) (vInWorld : Nat → Int32) (vKind : Nat → Int32) (vSize : Nat → Int32) (vMarks : Nat → Int32) (vSeed : Nat → Int32) (sq : Int32) (wi : Int32) : Nat → Int32 → (Nat → Int64) → (Nat → Int32) → (Nat → Int32) → (Nat → Int32) → Option (Int32 × (Nat → Int64) × (Nat → Int32) × (Nat → Int32) × (Nat → Int32))
  | 0, _, _, _, _, _ => none
  | fu + 1, x3_32, caContents_32, caContentMany_32, caRow_32, caKept_32 => if ix wi 8 = true then (if (vInWorld (Int32.toNatClampNeg wi)) ≤ x3_32 then (some (x3_32, caContents_32, caContentMany_32, caRow_32, caKept_32)) else (if ix ((wi * (1000 : Int32)) + x3_32) 8000 = true then ((mX9_doPut vKind vSize vMarks vSeed caContents_32 caContentMany_32 caRow_32 caKept_32 sq (vWorlds (Int32.toNatClampNeg ((wi * (1000 : Int32)) + x3_32)))).bind fun z56 => if z56.1 ≤ 0 then (some (x3_32, z56.2.1, z56.2.2.1, z56.2.2.2.1, z56.2.2.2.2)) else (mX9_putAll_L32 vWorlds vInWorld vKind vSize vMarks vSeed sq wi fu (x3_32 + 1) z56.2.1 z56.2.2.1 z56.2.2.2.1 z56.2.2.2.2)) else none)) else none
def mX9_putAll (many : Int32) (vWorlds : Nat → Int64) (vInWorld : Nat → Int32) (vKind : Nat → Int32) (vSize : Nat → Int32) (vMarks : Nat → Int32) (vSeed : Nat → Int32) (vContents : Nat → Int64) (vContentMany : Nat → Int32) (vRow : Nat → Int32) (vKept : Nat → Int32) (sq : Int32) (wi : Int32) : Option (Int32 × (Nat → Int64) × (Nat → Int32) × (Nat → Int32) × (Nat → Int32)) := (mX9_is many sq).bind fun z2 => if z2 = 0 then (some ((-1 : Int32), vContents, vContentMany, vRow, vKept)) else ((mX9_isWorld wi).bind fun z9 => if z9 = 0 then (some ((-1 : Int32), vContents, vContentMany, vRow, vKept)) else (if ix sq 30 = true then (if (vKind (Int32.toNatClampNeg sq)) ≤ (2 : Int32) then ((mX9_putAll_L32 vWorlds vInWorld vKind vSize vMarks vSeed sq wi FU (0 : Int32) vContents vContentMany vRow vKept).bind fun o32 => some (o32.1, o32.2.1, o32.2.2.1, o32.2.2.2.1, o32.2.2.2.2)) else (some ((-2 : Int32), vContents, vContentMany, vRow, vKept))) else none))
set_option maxHeartbeats 4000000 in
set_option maxRecDepth 100000 in
theorem k_X9_putAll (l : Launch) (D : va_G) (g : Nat → ClassId) {L : List Nat} {f : Nat → va_E} {aAlone aBits aCome aContentMany aContents aGone aInWorld aIsOff aKept aKind aLayerCame aLayerSize aMarks aOffAt aOrder aRest aRestMany aRivals aRow aSeed aSize aWorlds y : Nat} {many : Int32} {vWorlds : Nat → Int64} {vInWorld : Nat → Int32} {vKind : Nat → Int32} {vSize : Nat → Int32} {vMarks : Nat → Int32} {vSeed : Nat → Int32} {vContents : Nat → Int64} {vContentMany : Nat → Int32} {vRow : Nat → Int32} {vBits : Nat → Int32} {vLayerSize : Nat → Int32} {vLayerCame : Nat → Int32} {vRest : Nat → Int64} {vRestMany : Nat → Int32} {vCome : Nat → Int64} {vRivals : Nat → Int64} {vGone : Nat → Int64} {vOrder : Nat → Int32} {vOffAt : Nat → Int32} {vIsOff : Nat → Int32} {vAlone : Nat → Int32} {vKept : Nat → Int32} {sq : Int32} {wi : Int32} {ρ : Nat → Nat × Nat} {z : Int32 × (Nat → Int64) × (Nat → Int32) × (Nat → Int32) × (Nat → Int32)} (m_y : y ∈ L) (e_y : f y = .inr (7, [.ref aWorlds, .ref aInWorld, .ref aKind, .ref aSize, .ref aMarks, .ref aSeed, .ref aContents, .ref aContentMany, .ref aRow, .ref aBits, .ref aLayerSize, .ref aLayerCame, .ref aRest, .ref aRestMany, .int many, .ref aCome, .ref aRivals, .ref aGone, .ref aOrder, .ref aOffAt, .ref aIsOff, .ref aAlone, .ref aKept])) (m_aWorlds : aWorlds ∈ L) (e_aWorlds : f aWorlds = .inl (g 1, 8000, .inr (.inl vWorlds))) (m_aInWorld : aInWorld ∈ L) (e_aInWorld : f aInWorld = .inl (g 0, 8, .inl vInWorld)) (m_aKind : aKind ∈ L) (e_aKind : f aKind = .inl (g 0, 30, .inl vKind)) (m_aSize : aSize ∈ L) (e_aSize : f aSize = .inl (g 0, 30, .inl vSize)) (m_aMarks : aMarks ∈ L) (e_aMarks : f aMarks = .inl (g 0, 30, .inl vMarks)) (m_aSeed : aSeed ∈ L) (e_aSeed : f aSeed = .inl (g 0, 30, .inl vSeed)) (m_aContents : aContents ∈ L) (e_aContents : f aContents = .inl (g 1, 30000, .inr (.inl vContents))) (m_aContentMany : aContentMany ∈ L) (e_aContentMany : f aContentMany = .inl (g 0, 30, .inl vContentMany)) (m_aRow : aRow ∈ L) (e_aRow : f aRow = .inl (g 0, 122880, .inl vRow)) (m_aBits : aBits ∈ L) (e_aBits : f aBits = .inl (g 0, 76800, .inl vBits)) (m_aLayerSize : aLayerSize ∈ L) (e_aLayerSize : f aLayerSize = .inl (g 0, 600, .inl vLayerSize)) (m_aLayerCame : aLayerCame ∈ L) (e_aLayerCame : f aLayerCame = .inl (g 0, 600, .inl vLayerCame)) (m_aRest : aRest ∈ L) (e_aRest : f aRest = .inl (g 1, 30000, .inr (.inl vRest))) (m_aRestMany : aRestMany ∈ L) (e_aRestMany : f aRestMany = .inl (g 0, 30, .inl vRestMany)) (m_aCome : aCome ∈ L) (e_aCome : f aCome = .inl (g 1, 1000, .inr (.inl vCome))) (m_aRivals : aRivals ∈ L) (e_aRivals : f aRivals = .inl (g 1, 1000, .inr (.inl vRivals))) (m_aGone : aGone ∈ L) (e_aGone : f aGone = .inl (g 1, 1000, .inr (.inl vGone))) (m_aOrder : aOrder ∈ L) (e_aOrder : f aOrder = .inl (g 0, 1000, .inl vOrder)) (m_aOffAt : aOffAt ∈ L) (e_aOffAt : f aOffAt = .inl (g 0, 1000, .inl vOffAt)) (m_aIsOff : aIsOff ∈ L) (e_aIsOff : f aIsOff = .inl (g 2, 1000, .inl vIsOff)) (m_aAlone : aAlone ∈ L) (e_aAlone : f aAlone = .inl (g 0, 4096, .inl vAlone)) (m_aKept : aKept ∈ L) (e_aKept : f aKept = .inl (g 0, 4096, .inl vKept))  (r_aKind : ρ aKind = (500, 3)) (r_aSize : ρ aSize = (500, 4)) (r_aMarks : ρ aMarks = (500, 5)) (r_aSeed : ρ aSeed = (500, 6)) (r_aContents : ρ aContents = (500, 7)) (r_aContentMany : ρ aContentMany = (500, 8)) (r_aRest : ρ aRest = (500, 13)) (r_aRestMany : ρ aRestMany = (500, 14)) (r_aAlone : ρ aAlone = (500, 22)) (r_aKept : ρ aKept = (500, 23))  (hM : mX9_putAll many vWorlds vInWorld vKind vSize vMarks vSeed vContents vContentMany vRow vKept sq wi = some z) : cI l yX9_putAll wsX9_putAll { frames := 4, cells := 0, slots := 0, locals := 110 } D g [.ref y, .int sq, .int wi] L f 0 0 (fun x L1 f1 => x = z.1 ∧ L1 = L ∧ (∀ b, b ∈ L → b ≠ aContents → b ≠ aContentMany → b ≠ aRow → b ≠ aKept → f1 b = f b) ∧ f1 aContents = .inl (g 1, 30000, .inr (.inl z.2.1)) ∧ f1 aContentMany = .inl (g 0, 30, .inl z.2.2.1) ∧ f1 aRow = .inl (g 0, 122880, .inl z.2.2.2.1) ∧ f1 aKept = .inl (g 0, 4096, .inl z.2.2.2.2)) := by
  refine cI_of (cc := cX9_putAll) (maxL := 4) (ret := (some .int)) (by decide) rfl (Nat.le_of_ble_eq_true rfl) ?_
  intro szz p e s m below meth c hx hb hr hml hts hown hlk hnm S ls hl
  have hl : lv_has ls 4 [(0, .ref y), (1, .int sq), (2, .int wi)] := hl
  have in_X9 : ∀ w ∈ wsX90, w ∈ wsX9_putAll := gu_wsX9_putAll_4
  have n_y_aContents : y ≠ aContents := ne_ir e_aContents e_y
  have n_y_aContentMany : y ≠ aContentMany := ne_ir e_aContentMany e_y
  have n_y_aRow : y ≠ aRow := ne_ir e_aRow e_y
  have n_y_aKept : y ≠ aKept := ne_ir e_aKept e_y
  have n_aWorlds_aContents : aWorlds ≠ aContents := ne_len e_aContents e_aWorlds (by decide)
  have n_aWorlds_aContentMany : aWorlds ≠ aContentMany := ne_len e_aContentMany e_aWorlds (by decide)
  have n_aWorlds_aRow : aWorlds ≠ aRow := ne_len e_aRow e_aWorlds (by decide)
  have n_aWorlds_aKept : aWorlds ≠ aKept := ne_len e_aKept e_aWorlds (by decide)
  have n_aInWorld_aContents : aInWorld ≠ aContents := ne_len e_aContents e_aInWorld (by decide)
  have n_aInWorld_aContentMany : aInWorld ≠ aContentMany := ne_len e_aContentMany e_aInWorld (by decide)
  have n_aInWorld_aRow : aInWorld ≠ aRow := ne_len e_aRow e_aInWorld (by decide)
  have n_aInWorld_aKept : aInWorld ≠ aKept := ne_len e_aKept e_aInWorld (by decide)
  have n_aKind_aContents : aKind ≠ aContents := ne_len e_aContents e_aKind (by decide)
  have n_aKind_aContentMany : aKind ≠ aContentMany := role_ne r_aContentMany r_aKind (by decide)
  have n_aKind_aRow : aKind ≠ aRow := ne_len e_aRow e_aKind (by decide)
  have n_aKind_aKept : aKind ≠ aKept := ne_len e_aKept e_aKind (by decide)
  have n_aSize_aContents : aSize ≠ aContents := ne_len e_aContents e_aSize (by decide)
  have n_aSize_aContentMany : aSize ≠ aContentMany := role_ne r_aContentMany r_aSize (by decide)
  have n_aSize_aRow : aSize ≠ aRow := ne_len e_aRow e_aSize (by decide)
  have n_aSize_aKept : aSize ≠ aKept := ne_len e_aKept e_aSize (by decide)
  have n_aMarks_aContents : aMarks ≠ aContents := ne_len e_aContents e_aMarks (by decide)
  have n_aMarks_aContentMany : aMarks ≠ aContentMany := role_ne r_aContentMany r_aMarks (by decide)
  have n_aMarks_aRow : aMarks ≠ aRow := ne_len e_aRow e_aMarks (by decide)
  have n_aMarks_aKept : aMarks ≠ aKept := ne_len e_aKept e_aMarks (by decide)
  have n_aSeed_aContents : aSeed ≠ aContents := ne_len e_aContents e_aSeed (by decide)
  have n_aSeed_aContentMany : aSeed ≠ aContentMany := role_ne r_aContentMany r_aSeed (by decide)
  have n_aSeed_aRow : aSeed ≠ aRow := ne_len e_aRow e_aSeed (by decide)
  have n_aSeed_aKept : aSeed ≠ aKept := ne_len e_aKept e_aSeed (by decide)
  have n_aBits_aContents : aBits ≠ aContents := ne_len e_aContents e_aBits (by decide)
  have n_aBits_aContentMany : aBits ≠ aContentMany := ne_len e_aContentMany e_aBits (by decide)
  have n_aBits_aRow : aBits ≠ aRow := ne_len e_aRow e_aBits (by decide)
  have n_aBits_aKept : aBits ≠ aKept := ne_len e_aKept e_aBits (by decide)
  have n_aLayerSize_aContents : aLayerSize ≠ aContents := ne_len e_aContents e_aLayerSize (by decide)
  have n_aLayerSize_aContentMany : aLayerSize ≠ aContentMany := ne_len e_aContentMany e_aLayerSize (by decide)
  have n_aLayerSize_aRow : aLayerSize ≠ aRow := ne_len e_aRow e_aLayerSize (by decide)
  have n_aLayerSize_aKept : aLayerSize ≠ aKept := ne_len e_aKept e_aLayerSize (by decide)
  have n_aLayerCame_aContents : aLayerCame ≠ aContents := ne_len e_aContents e_aLayerCame (by decide)
  have n_aLayerCame_aContentMany : aLayerCame ≠ aContentMany := ne_len e_aContentMany e_aLayerCame (by decide)
  have n_aLayerCame_aRow : aLayerCame ≠ aRow := ne_len e_aRow e_aLayerCame (by decide)
  have n_aLayerCame_aKept : aLayerCame ≠ aKept := ne_len e_aKept e_aLayerCame (by decide)
  have n_aRest_aContents : aRest ≠ aContents := role_ne r_aContents r_aRest (by decide)
  have n_aRest_aContentMany : aRest ≠ aContentMany := ne_len e_aContentMany e_aRest (by decide)
  have n_aRest_aRow : aRest ≠ aRow := ne_len e_aRow e_aRest (by decide)
  have n_aRest_aKept : aRest ≠ aKept := ne_len e_aKept e_aRest (by decide)
  have n_aRestMany_aContents : aRestMany ≠ aContents := ne_len e_aContents e_aRestMany (by decide)
  have n_aRestMany_aContentMany : aRestMany ≠ aContentMany := role_ne r_aContentMany r_aRestMany (by decide)
  have n_aRestMany_aRow : aRestMany ≠ aRow := ne_len e_aRow e_aRestMany (by decide)
  have n_aRestMany_aKept : aRestMany ≠ aKept := ne_len e_aKept e_aRestMany (by decide)
  have n_aCome_aContents : aCome ≠ aContents := ne_len e_aContents e_aCome (by decide)
  have n_aCome_aContentMany : aCome ≠ aContentMany := ne_len e_aContentMany e_aCome (by decide)
  have n_aCome_aRow : aCome ≠ aRow := ne_len e_aRow e_aCome (by decide)
  have n_aCome_aKept : aCome ≠ aKept := ne_len e_aKept e_aCome (by decide)
  have n_aRivals_aContents : aRivals ≠ aContents := ne_len e_aContents e_aRivals (by decide)
  have n_aRivals_aContentMany : aRivals ≠ aContentMany := ne_len e_aContentMany e_aRivals (by decide)
  have n_aRivals_aRow : aRivals ≠ aRow := ne_len e_aRow e_aRivals (by decide)
  have n_aRivals_aKept : aRivals ≠ aKept := ne_len e_aKept e_aRivals (by decide)
  have n_aGone_aContents : aGone ≠ aContents := ne_len e_aContents e_aGone (by decide)
  have n_aGone_aContentMany : aGone ≠ aContentMany := ne_len e_aContentMany e_aGone (by decide)
  have n_aGone_aRow : aGone ≠ aRow := ne_len e_aRow e_aGone (by decide)
  have n_aGone_aKept : aGone ≠ aKept := ne_len e_aKept e_aGone (by decide)
  have n_aOrder_aContents : aOrder ≠ aContents := ne_len e_aContents e_aOrder (by decide)
  have n_aOrder_aContentMany : aOrder ≠ aContentMany := ne_len e_aContentMany e_aOrder (by decide)
  have n_aOrder_aRow : aOrder ≠ aRow := ne_len e_aRow e_aOrder (by decide)
  have n_aOrder_aKept : aOrder ≠ aKept := ne_len e_aKept e_aOrder (by decide)
  have n_aOffAt_aContents : aOffAt ≠ aContents := ne_len e_aContents e_aOffAt (by decide)
  have n_aOffAt_aContentMany : aOffAt ≠ aContentMany := ne_len e_aContentMany e_aOffAt (by decide)
  have n_aOffAt_aRow : aOffAt ≠ aRow := ne_len e_aRow e_aOffAt (by decide)
  have n_aOffAt_aKept : aOffAt ≠ aKept := ne_len e_aKept e_aOffAt (by decide)
  have n_aIsOff_aContents : aIsOff ≠ aContents := ne_len e_aContents e_aIsOff (by decide)
  have n_aIsOff_aContentMany : aIsOff ≠ aContentMany := ne_len e_aContentMany e_aIsOff (by decide)
  have n_aIsOff_aRow : aIsOff ≠ aRow := ne_len e_aRow e_aIsOff (by decide)
  have n_aIsOff_aKept : aIsOff ≠ aKept := ne_len e_aKept e_aIsOff (by decide)
  have n_aAlone_aContents : aAlone ≠ aContents := ne_len e_aContents e_aAlone (by decide)
  have n_aAlone_aContentMany : aAlone ≠ aContentMany := ne_len e_aContentMany e_aAlone (by decide)
  have n_aAlone_aRow : aAlone ≠ aRow := ne_len e_aRow e_aAlone (by decide)
  have n_aAlone_aKept : aAlone ≠ aKept := role_ne r_aKept r_aAlone (by decide)
  have fr : ∀ b, b ∈ L → b ≠ aContents → b ≠ aContentMany → b ≠ aRow → b ≠ aKept → f b = f b := fun _ _ _ _ _ _ => rfl
  unfold mX9_putAll at hM
  refine W_gen (fun QQ hQQ => ?_)
  refine lv_aload_n hx hb dX9_putAll_0 rfl (lv_at hl 0 rfl) ?_
  refine lv_iload_n hx hb dX9_putAll_1 rfl (lv_at hl 1 rfl) ?_
  obtain ⟨z2, hz2, hM⟩ := bind_some hM
  refine q_vi (As := [.int sq]) (rest := []) ⟨hx, hb, hml, hown, hts⟩ (k_X9_is l D g m_y e_y hz2) (cwV 1 hts gX9_putAll_X9_is rfl rfl rfl (by decide +kernel) ⟨Nat.le_of_ble_eq_true rfl, Nat.le_of_ble_eq_true rfl⟩) S m_y e_y (T := TX9) (N := 23) rfl rfl hl.1 rfl (Nat.le_of_ble_eq_true rfl) dX9_putAll_2 ⟨Nat.le_of_ble_eq_true rfl, Nat.le_of_ble_eq_true rfl⟩ (fun r3 L1 f2 H locs S w2 => ?_)
  obtain ⟨ex2, eL, ef⟩ := w2
  rw [eL, ef] at S
  replace ex2 := ex2.symm
  subst ex2
  refine lv_if_eq (tgt := 15) hx hb dX9_putAll_5 (by decide) (fun b5 => ?_) (fun b5 => ?_)
  · have hM := itT b5 hM
    refine lv_iconst (v := (-1 : Int32)) hx hb dX9_putAll_15 (by decide) ?_
    subst hQQ
    exact q_reti (post := fun x L1 f1 => x = z.1 ∧ L1 = L ∧ (∀ b, b ∈ L → b ≠ aContents → b ≠ aContentMany → b ≠ aRow → b ≠ aKept → f1 b = f b) ∧ f1 aContents = .inl (g 1, 30000, .inr (.inl z.2.1)) ∧ f1 aContentMany = .inl (g 0, 30, .inl z.2.2.1) ∧ f1 aRow = .inl (g 0, 122880, .inl z.2.2.2.1) ∧ f1 aKept = .inl (g 0, 4096, .inl z.2.2.2.2)) hx hb hr hlk S dX9_putAll_16 (by decide) (by decide) (by have hz := Option.some.inj hM; subst hz; exact ⟨rfl, rfl, fr, e_aContents, e_aContentMany, e_aRow, e_aKept⟩)
  · have hM := itF b5 hM
    refine lv_iload_n hx hb dX9_putAll_8 rfl (lv_at hl 2 rfl) ?_
    obtain ⟨z9, hz9, hM⟩ := bind_some hM
    refine q_si (As := [.int wi]) (rest := []) ⟨hx, hb, hml, hown, hts⟩ (k_X9_isWorld l D g hz9) (va_cwS 1 hts gX9_putAll_X9_isWorld rfl rfl rfl (by decide +kernel) ⟨Nat.le_of_ble_eq_true rfl, Nat.le_of_ble_eq_true rfl⟩) S rfl hl.1 rfl (Nat.le_of_ble_eq_true rfl) dX9_putAll_9 ⟨Nat.le_of_ble_eq_true rfl, Nat.le_of_ble_eq_true rfl⟩ (fun r6 L4 f5 H locs S w9 => ?_)
    obtain ⟨ex9, eL, ef⟩ := w9
    rw [eL, ef] at S
    replace ex9 := ex9.symm
    subst ex9
    refine lv_if_ne (tgt := 17) hx hb dX9_putAll_12 (by decide) (fun b12 => ?_) (fun b12 => ?_)
    · have hM := itF b12 hM
      refine lv_aload_n hx hb dX9_putAll_17 rfl (lv_at hl 0 rfl) ?_
      refine q_get hx hb hts in_X9 hown S m_y e_y (C := RX9) (T := TX9) (N := 23) rfl 2 (by decide) rfl (hts (.fieldLink RX9 17 "SieveCabinetModel" "kind" "[I") (gu_wsX9_putAll_1 _ gm_0)) dX9_putAll_18 ?_
      refine lv_iload_n hx hb dX9_putAll_21 rfl (lv_at hl 1 rfl) ?_
      obtain ⟨hi22, hM⟩ := ckx hM
      refine q_iald hx hb S m_aKind e_aKind hi22 dX9_putAll_22 ?_
      refine lv_iconst (v := (2 : Int32)) hx hb dX9_putAll_23 (by decide) ?_
      refine lv_icmp_le (tgt := 30) hx hb dX9_putAll_24 (by decide) (fun b24 => ?_) (fun b24 => ?_)
      · have hM := itT b24 hM
        refine lv_iconst (v := (0 : Int32)) hx hb dX9_putAll_30 (by decide) ?_
        refine lv_istore_n (lv' := [(3, .int (0 : Int32)), (0, .ref y), (1, .int sq), (2, .int wi)]) hx hb dX9_putAll_31 rfl hl (by decide) rfl (fun ls hl => ?_)
        obtain ⟨o32, ho32, hM⟩ := bind_some hM
        have EX32 : ∀ (fl32 : Nat → va_E) (H : Heap) (locs : List Loc) (ls : Array Slot), PS D g (va_A (va_pl L f) szz) s.heap s L fl32 H locs → fl32 y = .inr (7, [.ref aWorlds, .ref aInWorld, .ref aKind, .ref aSize, .ref aMarks, .ref aSeed, .ref aContents, .ref aContentMany, .ref aRow, .ref aBits, .ref aLayerSize, .ref aLayerCame, .ref aRest, .ref aRestMany, .int many, .ref aCome, .ref aRivals, .ref aGone, .ref aOrder, .ref aOffAt, .ref aIsOff, .ref aAlone, .ref aKept]) → fl32 aWorlds = .inl (g 1, 8000, .inr (.inl vWorlds)) → fl32 aInWorld = .inl (g 0, 8, .inl vInWorld) → fl32 aKind = .inl (g 0, 30, .inl vKind) → fl32 aSize = .inl (g 0, 30, .inl vSize) → fl32 aMarks = .inl (g 0, 30, .inl vMarks) → fl32 aSeed = .inl (g 0, 30, .inl vSeed) → fl32 aContents = .inl (g 1, 30000, .inr (.inl o32.2.1)) → fl32 aContentMany = .inl (g 0, 30, .inl o32.2.2.1) → fl32 aRow = .inl (g 0, 122880, .inl o32.2.2.2.1) → fl32 aBits = .inl (g 0, 76800, .inl vBits) → fl32 aLayerSize = .inl (g 0, 600, .inl vLayerSize) → fl32 aLayerCame = .inl (g 0, 600, .inl vLayerCame) → fl32 aRest = .inl (g 1, 30000, .inr (.inl vRest)) → fl32 aRestMany = .inl (g 0, 30, .inl vRestMany) → fl32 aCome = .inl (g 1, 1000, .inr (.inl vCome)) → fl32 aRivals = .inl (g 1, 1000, .inr (.inl vRivals)) → fl32 aGone = .inl (g 1, 1000, .inr (.inl vGone)) → fl32 aOrder = .inl (g 0, 1000, .inl vOrder) → fl32 aOffAt = .inl (g 0, 1000, .inl vOffAt) → fl32 aIsOff = .inl (g 2, 1000, .inl vIsOff) → fl32 aAlone = .inl (g 0, 4096, .inl vAlone) → fl32 aKept = .inl (g 0, 4096, .inl o32.2.2.2.2) → (∀ b, b ∈ L → b ≠ aContents → b ≠ aContentMany → b ≠ aRow → b ≠ aKept → fl32 b = f b) → lv_has ls 4 [(3, .int o32.1)] → W p l e { frames := 4, cells := 0, slots := 0, locals := 110 } s m [.ref y, .int sq, .int wi].toArray below meth c H locs 0 0 QQ (F0 m 68 ls []) := by
          intro fl32 H locs ls S e_y e_aWorlds e_aInWorld e_aKind e_aSize e_aMarks e_aSeed e_aContents e_aContentMany e_aRow e_aBits e_aLayerSize e_aLayerCame e_aRest e_aRestMany e_aCome e_aRivals e_aGone e_aOrder e_aOffAt e_aIsOff e_aAlone e_aKept fr hl
          refine lv_iload_n hx hb dX9_putAll_68 rfl (lv_at hl 0 rfl) ?_
          subst hQQ
          exact q_reti (post := fun x L1 f1 => x = z.1 ∧ L1 = L ∧ (∀ b, b ∈ L → b ≠ aContents → b ≠ aContentMany → b ≠ aRow → b ≠ aKept → f1 b = f b) ∧ f1 aContents = .inl (g 1, 30000, .inr (.inl z.2.1)) ∧ f1 aContentMany = .inl (g 0, 30, .inl z.2.2.1) ∧ f1 aRow = .inl (g 0, 122880, .inl z.2.2.2.1) ∧ f1 aKept = .inl (g 0, 4096, .inl z.2.2.2.2)) hx hb hr hlk S dX9_putAll_69 (by decide) (by decide) (by have hz := Option.some.inj hM; subst hz; exact ⟨rfl, rfl, fr, e_aContents, e_aContentMany, e_aRow, e_aKept⟩)
        have LP32 : ∀ (fu : Nat) (x3_32 : Int32) (caContents_32 : Nat → Int64) (caContentMany_32 : Nat → Int32) (caRow_32 : Nat → Int32) (caKept_32 : Nat → Int32) (fl32 : Nat → va_E) (H : Heap) (locs : List Loc) (ls : Array Slot), (mX9_putAll_L32 vWorlds vInWorld vKind vSize vMarks vSeed sq wi) fu x3_32 caContents_32 caContentMany_32 caRow_32 caKept_32 = some o32 → PS D g (va_A (va_pl L f) szz) s.heap s L fl32 H locs → fl32 y = .inr (7, [.ref aWorlds, .ref aInWorld, .ref aKind, .ref aSize, .ref aMarks, .ref aSeed, .ref aContents, .ref aContentMany, .ref aRow, .ref aBits, .ref aLayerSize, .ref aLayerCame, .ref aRest, .ref aRestMany, .int many, .ref aCome, .ref aRivals, .ref aGone, .ref aOrder, .ref aOffAt, .ref aIsOff, .ref aAlone, .ref aKept]) → fl32 aWorlds = .inl (g 1, 8000, .inr (.inl vWorlds)) → fl32 aInWorld = .inl (g 0, 8, .inl vInWorld) → fl32 aKind = .inl (g 0, 30, .inl vKind) → fl32 aSize = .inl (g 0, 30, .inl vSize) → fl32 aMarks = .inl (g 0, 30, .inl vMarks) → fl32 aSeed = .inl (g 0, 30, .inl vSeed) → fl32 aContents = .inl (g 1, 30000, .inr (.inl caContents_32)) → fl32 aContentMany = .inl (g 0, 30, .inl caContentMany_32) → fl32 aRow = .inl (g 0, 122880, .inl caRow_32) → fl32 aBits = .inl (g 0, 76800, .inl vBits) → fl32 aLayerSize = .inl (g 0, 600, .inl vLayerSize) → fl32 aLayerCame = .inl (g 0, 600, .inl vLayerCame) → fl32 aRest = .inl (g 1, 30000, .inr (.inl vRest)) → fl32 aRestMany = .inl (g 0, 30, .inl vRestMany) → fl32 aCome = .inl (g 1, 1000, .inr (.inl vCome)) → fl32 aRivals = .inl (g 1, 1000, .inr (.inl vRivals)) → fl32 aGone = .inl (g 1, 1000, .inr (.inl vGone)) → fl32 aOrder = .inl (g 0, 1000, .inl vOrder) → fl32 aOffAt = .inl (g 0, 1000, .inl vOffAt) → fl32 aIsOff = .inl (g 2, 1000, .inl vIsOff) → fl32 aAlone = .inl (g 0, 4096, .inl vAlone) → fl32 aKept = .inl (g 0, 4096, .inl caKept_32) → (∀ b, b ∈ L → b ≠ aContents → b ≠ aContentMany → b ≠ aRow → b ≠ aKept → fl32 b = f b) → lv_has ls 4 [(3, .int x3_32), (0, .ref y), (1, .int sq), (2, .int wi)] → W p l e { frames := 4, cells := 0, slots := 0, locals := 110 } s m [.ref y, .int sq, .int wi].toArray below meth c H locs 0 0 QQ (F0 m 32 ls []) := by
          intro fu
          induction fu with
          | zero => intro x3_32 caContents_32 caContentMany_32 caRow_32 caKept_32 fl32 H locs ls ho32 S e_y e_aWorlds e_aInWorld e_aKind e_aSize e_aMarks e_aSeed e_aContents e_aContentMany e_aRow e_aBits e_aLayerSize e_aLayerCame e_aRest e_aRestMany e_aCome e_aRivals e_aGone e_aOrder e_aOffAt e_aIsOff e_aAlone e_aKept fr hl; exact no_some ho32
          | succ fu ih32 =>
            intro x3_32 caContents_32 caContentMany_32 caRow_32 caKept_32 fl32 H locs ls ho32 S e_y e_aWorlds e_aInWorld e_aKind e_aSize e_aMarks e_aSeed e_aContents e_aContentMany e_aRow e_aBits e_aLayerSize e_aLayerCame e_aRest e_aRestMany e_aCome e_aRivals e_aGone e_aOrder e_aOffAt e_aIsOff e_aAlone e_aKept fr hl
            rw [mX9_putAll_L32] at ho32
            refine lv_iload_n hx hb dX9_putAll_32 rfl (lv_at hl 0 rfl) ?_
            refine lv_aload_n hx hb dX9_putAll_33 rfl (lv_at hl 1 rfl) ?_
            refine q_get hx hb hts in_X9 hown S m_y e_y (C := RX9) (T := TX9) (N := 23) rfl 1 (by decide) rfl (hts (.fieldLink RX9 13 "SieveCabinetModel" "inWorld" "[I") (gu_wsX9_putAll_1 _ gm_1)) dX9_putAll_34 ?_
            refine lv_iload_n hx hb dX9_putAll_37 rfl (lv_at hl 3 rfl) ?_
            obtain ⟨hi38, ho32⟩ := ckx ho32
            refine q_iald hx hb S m_aInWorld e_aInWorld hi38 dX9_putAll_38 ?_
            refine lv_icmp_ge (tgt := 68) hx hb dX9_putAll_39 (by decide) (fun b39 => ?_) (fun b39 => ?_)
            · have ho32 := itT b39 ho32
              obtain rfl := Option.some.inj ho32
              exact EX32 fl32 _ _ _ S e_y e_aWorlds e_aInWorld e_aKind e_aSize e_aMarks e_aSeed e_aContents e_aContentMany e_aRow e_aBits e_aLayerSize e_aLayerCame e_aRest e_aRestMany e_aCome e_aRivals e_aGone e_aOrder e_aOffAt e_aIsOff e_aAlone e_aKept fr (lv_sub hl [0] rfl)
            · have ho32 := itF b39 ho32
              refine lv_aload_n hx hb dX9_putAll_42 rfl (lv_at hl 1 rfl) ?_
              refine lv_iload_n hx hb dX9_putAll_43 rfl (lv_at hl 2 rfl) ?_
              refine lv_aload_n hx hb dX9_putAll_44 rfl (lv_at hl 1 rfl) ?_
              refine q_get hx hb hts in_X9 hown S m_y e_y (C := RX9) (T := TX9) (N := 23) rfl 0 (by decide) rfl (hts (.fieldLink RX9 9 "SieveCabinetModel" "worlds" "[J") (gu_wsX9_putAll_1 _ gm_2)) dX9_putAll_45 ?_
              refine lv_iload_n hx hb dX9_putAll_48 rfl (lv_at hl 3 rfl) ?_
              refine lv_sipush (v := (1000 : Int32)) hx hb dX9_putAll_49 (by decide) ?_
              refine lv_imul hx hb dX9_putAll_52 ?_
              refine lv_iload_n hx hb dX9_putAll_53 rfl (lv_at hl 0 rfl) ?_
              refine lv_iadd hx hb dX9_putAll_54 ?_
              obtain ⟨hi55, ho32⟩ := ckx ho32
              refine q_lald hx hb S m_aWorlds e_aWorlds hi55 dX9_putAll_55 ?_
              obtain ⟨z56, hz56, ho32⟩ := bind_some ho32
              refine q_vi (As := [.int sq, .long (vWorlds (Int32.toNatClampNeg ((wi * (1000 : Int32)) + x3_32)))]) (rest := []) ⟨hx, hb, hml, hown, hts⟩ (k_X9_doPut l D g m_y e_y m_aWorlds e_aWorlds m_aInWorld e_aInWorld m_aKind e_aKind m_aSize e_aSize m_aMarks e_aMarks m_aSeed e_aSeed m_aContents e_aContents m_aContentMany e_aContentMany m_aRow e_aRow m_aBits e_aBits m_aLayerSize e_aLayerSize m_aLayerCame e_aLayerCame m_aRest e_aRest m_aRestMany e_aRestMany m_aCome e_aCome m_aRivals e_aRivals m_aGone e_aGone m_aOrder e_aOrder m_aOffAt e_aOffAt m_aIsOff e_aIsOff m_aAlone e_aAlone m_aKept e_aKept r_aAlone r_aKept hz56) (cwV 2 hts gX9_putAll_X9_doPut rfl rfl rfl (by decide +kernel) ⟨Nat.le_of_ble_eq_true rfl, Nat.le_of_ble_eq_true rfl⟩) S m_y e_y (T := TX9) (N := 23) rfl rfl hl.1 rfl (Nat.le_of_ble_eq_true rfl) dX9_putAll_56 ⟨Nat.le_of_ble_eq_true rfl, Nat.le_of_ble_eq_true rfl⟩ (fun r9 L7 f8 H locs S w56 => ?_)
              obtain ⟨ex56, eL, fv56, E_aContents, E_aContentMany, E_aRow, E_aKept⟩ := w56
              rw [eL] at S
              have fr : ∀ b, b ∈ L → b ≠ aContents → b ≠ aContentMany → b ≠ aRow → b ≠ aKept → f8 b = f b := fun b mb nb0 nb1 nb2 nb3 => (fv56 b mb nb0 nb1 nb2 nb3).trans (fr b mb nb0 nb1 nb2 nb3)
              have e_aContents : f8 aContents = .inl (g 1, 30000, .inr (.inl z56.2.1)) := E_aContents
              have e_aContentMany : f8 aContentMany = .inl (g 0, 30, .inl z56.2.2.1) := E_aContentMany
              have e_aRow : f8 aRow = .inl (g 0, 122880, .inl z56.2.2.2.1) := E_aRow
              have e_aKept : f8 aKept = .inl (g 0, 4096, .inl z56.2.2.2.2) := E_aKept
              replace ex56 := ex56.symm
              subst ex56
              refine lv_if_le (tgt := 68) hx hb dX9_putAll_59 (by decide) (fun b59 => ?_) (fun b59 => ?_)
              · have ho32 := itT b59 ho32
                have e_y := ((fv56 y m_y n_y_aContents n_y_aContentMany n_y_aRow n_y_aKept).trans e_y)
                have e_aWorlds := ((fv56 aWorlds m_aWorlds n_aWorlds_aContents n_aWorlds_aContentMany n_aWorlds_aRow n_aWorlds_aKept).trans e_aWorlds)
                have e_aInWorld := ((fv56 aInWorld m_aInWorld n_aInWorld_aContents n_aInWorld_aContentMany n_aInWorld_aRow n_aInWorld_aKept).trans e_aInWorld)
                have e_aKind := ((fv56 aKind m_aKind n_aKind_aContents n_aKind_aContentMany n_aKind_aRow n_aKind_aKept).trans e_aKind)
                have e_aSize := ((fv56 aSize m_aSize n_aSize_aContents n_aSize_aContentMany n_aSize_aRow n_aSize_aKept).trans e_aSize)
                have e_aMarks := ((fv56 aMarks m_aMarks n_aMarks_aContents n_aMarks_aContentMany n_aMarks_aRow n_aMarks_aKept).trans e_aMarks)
                have e_aSeed := ((fv56 aSeed m_aSeed n_aSeed_aContents n_aSeed_aContentMany n_aSeed_aRow n_aSeed_aKept).trans e_aSeed)
                have e_aBits := ((fv56 aBits m_aBits n_aBits_aContents n_aBits_aContentMany n_aBits_aRow n_aBits_aKept).trans e_aBits)
                have e_aLayerSize := ((fv56 aLayerSize m_aLayerSize n_aLayerSize_aContents n_aLayerSize_aContentMany n_aLayerSize_aRow n_aLayerSize_aKept).trans e_aLayerSize)
                have e_aLayerCame := ((fv56 aLayerCame m_aLayerCame n_aLayerCame_aContents n_aLayerCame_aContentMany n_aLayerCame_aRow n_aLayerCame_aKept).trans e_aLayerCame)
                have e_aRest := ((fv56 aRest m_aRest n_aRest_aContents n_aRest_aContentMany n_aRest_aRow n_aRest_aKept).trans e_aRest)
                have e_aRestMany := ((fv56 aRestMany m_aRestMany n_aRestMany_aContents n_aRestMany_aContentMany n_aRestMany_aRow n_aRestMany_aKept).trans e_aRestMany)
                have e_aCome := ((fv56 aCome m_aCome n_aCome_aContents n_aCome_aContentMany n_aCome_aRow n_aCome_aKept).trans e_aCome)
                have e_aRivals := ((fv56 aRivals m_aRivals n_aRivals_aContents n_aRivals_aContentMany n_aRivals_aRow n_aRivals_aKept).trans e_aRivals)
                have e_aGone := ((fv56 aGone m_aGone n_aGone_aContents n_aGone_aContentMany n_aGone_aRow n_aGone_aKept).trans e_aGone)
                have e_aOrder := ((fv56 aOrder m_aOrder n_aOrder_aContents n_aOrder_aContentMany n_aOrder_aRow n_aOrder_aKept).trans e_aOrder)
                have e_aOffAt := ((fv56 aOffAt m_aOffAt n_aOffAt_aContents n_aOffAt_aContentMany n_aOffAt_aRow n_aOffAt_aKept).trans e_aOffAt)
                have e_aIsOff := ((fv56 aIsOff m_aIsOff n_aIsOff_aContents n_aIsOff_aContentMany n_aIsOff_aRow n_aIsOff_aKept).trans e_aIsOff)
                have e_aAlone := ((fv56 aAlone m_aAlone n_aAlone_aContents n_aAlone_aContentMany n_aAlone_aRow n_aAlone_aKept).trans e_aAlone)
                obtain rfl := Option.some.inj ho32
                exact EX32 f8 _ _ _ S e_y e_aWorlds e_aInWorld e_aKind e_aSize e_aMarks e_aSeed e_aContents e_aContentMany e_aRow e_aBits e_aLayerSize e_aLayerCame e_aRest e_aRestMany e_aCome e_aRivals e_aGone e_aOrder e_aOffAt e_aIsOff e_aAlone e_aKept fr (lv_sub hl [0] rfl)
              · have ho32 := itF b59 ho32
                refine lv_iinc (v := (x3_32 + 1)) (lv' := [(3, .int (x3_32 + 1)), (0, .ref y), (1, .int sq), (2, .int wi)]) hx hb dX9_putAll_62 hl (k := 0) rfl rfl (by decide) rfl (fun ls hl => ?_)
                refine lv_goto (tgt := 32) hx hb dX9_putAll_65 (by decide) ?_
                have e_y := ((fv56 y m_y n_y_aContents n_y_aContentMany n_y_aRow n_y_aKept).trans e_y)
                have e_aWorlds := ((fv56 aWorlds m_aWorlds n_aWorlds_aContents n_aWorlds_aContentMany n_aWorlds_aRow n_aWorlds_aKept).trans e_aWorlds)
                have e_aInWorld := ((fv56 aInWorld m_aInWorld n_aInWorld_aContents n_aInWorld_aContentMany n_aInWorld_aRow n_aInWorld_aKept).trans e_aInWorld)
                have e_aKind := ((fv56 aKind m_aKind n_aKind_aContents n_aKind_aContentMany n_aKind_aRow n_aKind_aKept).trans e_aKind)
                have e_aSize := ((fv56 aSize m_aSize n_aSize_aContents n_aSize_aContentMany n_aSize_aRow n_aSize_aKept).trans e_aSize)
                have e_aMarks := ((fv56 aMarks m_aMarks n_aMarks_aContents n_aMarks_aContentMany n_aMarks_aRow n_aMarks_aKept).trans e_aMarks)
                have e_aSeed := ((fv56 aSeed m_aSeed n_aSeed_aContents n_aSeed_aContentMany n_aSeed_aRow n_aSeed_aKept).trans e_aSeed)
                have e_aBits := ((fv56 aBits m_aBits n_aBits_aContents n_aBits_aContentMany n_aBits_aRow n_aBits_aKept).trans e_aBits)
                have e_aLayerSize := ((fv56 aLayerSize m_aLayerSize n_aLayerSize_aContents n_aLayerSize_aContentMany n_aLayerSize_aRow n_aLayerSize_aKept).trans e_aLayerSize)
                have e_aLayerCame := ((fv56 aLayerCame m_aLayerCame n_aLayerCame_aContents n_aLayerCame_aContentMany n_aLayerCame_aRow n_aLayerCame_aKept).trans e_aLayerCame)
                have e_aRest := ((fv56 aRest m_aRest n_aRest_aContents n_aRest_aContentMany n_aRest_aRow n_aRest_aKept).trans e_aRest)
                have e_aRestMany := ((fv56 aRestMany m_aRestMany n_aRestMany_aContents n_aRestMany_aContentMany n_aRestMany_aRow n_aRestMany_aKept).trans e_aRestMany)
                have e_aCome := ((fv56 aCome m_aCome n_aCome_aContents n_aCome_aContentMany n_aCome_aRow n_aCome_aKept).trans e_aCome)
                have e_aRivals := ((fv56 aRivals m_aRivals n_aRivals_aContents n_aRivals_aContentMany n_aRivals_aRow n_aRivals_aKept).trans e_aRivals)
                have e_aGone := ((fv56 aGone m_aGone n_aGone_aContents n_aGone_aContentMany n_aGone_aRow n_aGone_aKept).trans e_aGone)
                have e_aOrder := ((fv56 aOrder m_aOrder n_aOrder_aContents n_aOrder_aContentMany n_aOrder_aRow n_aOrder_aKept).trans e_aOrder)
                have e_aOffAt := ((fv56 aOffAt m_aOffAt n_aOffAt_aContents n_aOffAt_aContentMany n_aOffAt_aRow n_aOffAt_aKept).trans e_aOffAt)
                have e_aIsOff := ((fv56 aIsOff m_aIsOff n_aIsOff_aContents n_aIsOff_aContentMany n_aIsOff_aRow n_aIsOff_aKept).trans e_aIsOff)
                have e_aAlone := ((fv56 aAlone m_aAlone n_aAlone_aContents n_aAlone_aContentMany n_aAlone_aRow n_aAlone_aKept).trans e_aAlone)
                exact ih32 (x3_32 + 1) z56.2.1 z56.2.2.1 z56.2.2.2.1 z56.2.2.2.2 f8 _ _ _ ho32 S e_y e_aWorlds e_aInWorld e_aKind e_aSize e_aMarks e_aSeed e_aContents e_aContentMany e_aRow e_aBits e_aLayerSize e_aLayerCame e_aRest e_aRestMany e_aCome e_aRivals e_aGone e_aOrder e_aOffAt e_aIsOff e_aAlone e_aKept fr (lv_sub hl [0, 1, 2, 3] rfl)
        exact LP32 FU (0 : Int32) vContents vContentMany vRow vKept f _ _ _ ho32 S e_y e_aWorlds e_aInWorld e_aKind e_aSize e_aMarks e_aSeed e_aContents e_aContentMany e_aRow e_aBits e_aLayerSize e_aLayerCame e_aRest e_aRestMany e_aCome e_aRivals e_aGone e_aOrder e_aOffAt e_aIsOff e_aAlone e_aKept fr (lv_sub hl [0, 1, 2, 3] rfl)
      · have hM := itF b24 hM
        refine lv_bipush (v := (-2 : Int32)) hx hb dX9_putAll_27 (by decide) ?_
        subst hQQ
        exact q_reti (post := fun x L1 f1 => x = z.1 ∧ L1 = L ∧ (∀ b, b ∈ L → b ≠ aContents → b ≠ aContentMany → b ≠ aRow → b ≠ aKept → f1 b = f b) ∧ f1 aContents = .inl (g 1, 30000, .inr (.inl z.2.1)) ∧ f1 aContentMany = .inl (g 0, 30, .inl z.2.2.1) ∧ f1 aRow = .inl (g 0, 122880, .inl z.2.2.2.1) ∧ f1 aKept = .inl (g 0, 4096, .inl z.2.2.2.2)) hx hb hr hlk S dX9_putAll_29 (by decide) (by decide) (by have hz := Option.some.inj hM; subst hz; exact ⟨rfl, rfl, fr, e_aContents, e_aContentMany, e_aRow, e_aKept⟩)
    · have hM := itT b12 hM
      refine lv_iconst (v := (-1 : Int32)) hx hb dX9_putAll_15 (by decide) ?_
      subst hQQ
      exact q_reti (post := fun x L1 f1 => x = z.1 ∧ L1 = L ∧ (∀ b, b ∈ L → b ≠ aContents → b ≠ aContentMany → b ≠ aRow → b ≠ aKept → f1 b = f b) ∧ f1 aContents = .inl (g 1, 30000, .inr (.inl z.2.1)) ∧ f1 aContentMany = .inl (g 0, 30, .inl z.2.2.1) ∧ f1 aRow = .inl (g 0, 122880, .inl z.2.2.2.1) ∧ f1 aKept = .inl (g 0, 4096, .inl z.2.2.2.2)) hx hb hr hlk S dX9_putAll_16 (by decide) (by decide) (by have hz := Option.some.inj hM; subst hz; exact ⟨rfl, rfl, fr, e_aContents, e_aContentMany, e_aRow, e_aKept⟩)

def mX9_drop_L236 (vContents : Nat → Int64) (vContentMany : Nat → Int32) (sq : Int32) (t : Int64) : Nat → Int32 → Option (Int32)
  | 0, _ => none
  | fu + 1, x6_236 => if ix sq 30 = true then (if (vContentMany (Int32.toNatClampNeg sq)) ≤ x6_236 then (some x6_236) else (if ix ((sq * (1000 : Int32)) + x6_236) 30000 = true then (if (lg_cmp (vContents (Int32.toNatClampNeg ((sq * (1000 : Int32)) + x6_236))) t) = 0 then (some x6_236) else (mX9_drop_L236 vContents vContentMany sq t fu (x6_236 + 1))) else none)) else none
def mX9_drop_L162 (vSize : Nat → Int32) (vSeed : Nat → Int32) (vRow : Nat → Int32) (sq : Int32) (t : Int64) (z52 : Int64) : Nat → Int32 → Option (Int32)
  | 0, _ => none
  | fu + 1, x6_162 => (mX9_nestOf vSize vSeed sq t (x6_162 / (4 : Int32))).bind fun z179 => if ix (((sq * (4096 : Int32)) + ((4 : Int32) * z179)) + (irm x6_162 (4 : Int32))) 122880 = true then ((mX9_tagOf z52).bind fun z192 => if (vRow (Int32.toNatClampNeg (((sq * (4096 : Int32)) + ((4 : Int32) * z179)) + (irm x6_162 (4 : Int32))))) = z192 then (some x6_162) else (mX9_drop_L162 vSize vSeed vRow sq t z52 fu (x6_162 + 1))) else none
def mX9_drop_L70 (vSize : Nat → Int32) (vMarks : Nat → Int32) (sq : Int32) (z52 : Int64) : Nat → Int32 → (Nat → Int32) → Option (Int32 × (Nat → Int32))
  | 0, _, _ => none
  | fu + 1, x6_70, caRow_70 => if ix sq 30 = true then (if (vMarks (Int32.toNatClampNeg sq)) ≤ x6_70 then (some (x6_70, caRow_70)) else (if ix sq 30 = true then ((mX9_markOf z52 x6_70 (vSize (Int32.toNatClampNeg sq))).bind fun z96 => if ix ((sq * (4096 : Int32)) + z96) 122880 = true then (if (caRow_70 (Int32.toNatClampNeg ((sq * (4096 : Int32)) + z96))) = (15 : Int32) then (if ix ((sq * (4096 : Int32)) + z96) 122880 = true then (if ix ((sq * (4096 : Int32)) + z96) 122880 = true then (mX9_drop_L70 vSize vMarks sq z52 fu (x6_70 + 1) (upd caRow_70 (Int32.toNatClampNeg ((sq * (4096 : Int32)) + z96)) (caRow_70 (Int32.toNatClampNeg ((sq * (4096 : Int32)) + z96))))) else none) else none) else (if ix ((sq * (4096 : Int32)) + z96) 122880 = true then (if (caRow_70 (Int32.toNatClampNeg ((sq * (4096 : Int32)) + z96))) = 0 then (if ix ((sq * (4096 : Int32)) + z96) 122880 = true then (if ix ((sq * (4096 : Int32)) + z96) 122880 = true then (mX9_drop_L70 vSize vMarks sq z52 fu (x6_70 + 1) (upd caRow_70 (Int32.toNatClampNeg ((sq * (4096 : Int32)) + z96)) (caRow_70 (Int32.toNatClampNeg ((sq * (4096 : Int32)) + z96))))) else none) else none) else (if ix ((sq * (4096 : Int32)) + z96) 122880 = true then (if ix ((sq * (4096 : Int32)) + z96) 122880 = true then (mX9_drop_L70 vSize vMarks sq z52 fu (x6_70 + 1) (upd caRow_70 (Int32.toNatClampNeg ((sq * (4096 : Int32)) + z96)) ((caRow_70 (Int32.toNatClampNeg ((sq * (4096 : Int32)) + z96))) - (1 : Int32)))) else none) else none)) else none)) else none) else none)) else none
def mX9_drop (many : Int32) (vKind : Nat → Int32) (vSize : Nat → Int32) (vMarks : Nat → Int32) (vSeed : Nat → Int32) (vContents : Nat → Int64) (vContentMany : Nat → Int32) (vRow : Nat → Int32) (vBits : Nat → Int32) (vLayerSize : Nat → Int32) (vRest : Nat → Int64) (vRestMany : Nat → Int32) (sq : Int32) (t : Int64) : Option (Int32 × (Nat → Int64) × (Nat → Int32) × (Nat → Int32)) := (mX9_is many sq).bind fun z2 => if z2 = 0 then (some ((-1 : Int32), vContents, vContentMany, vRow)) else (if ix sq 30 = true then (if (vKind (Int32.toNatClampNeg sq)) = (1 : Int32) then ((mX9_letsThrough vKind vSize vMarks vSeed vRow vBits vLayerSize vRest vRestMany sq t).bind fun z36 => if z36 = 0 then (some ((-5 : Int32), vContents, vContentMany, vRow)) else (if ix sq 30 = true then ((mX9_mix t (vSeed (Int32.toNatClampNeg sq))).bind fun z52 => if ix sq 30 = true then (if (vKind (Int32.toNatClampNeg sq)) = (1 : Int32) then ((mX9_drop_L70 vSize vMarks sq z52 FU (0 : Int32) vRow).bind fun o70 => (mX9_drop_L236 vContents vContentMany sq t FU (0 : Int32)).bind fun o236 => if ix sq 30 = true then (if (vContentMany (Int32.toNatClampNeg sq)) ≤ o236 then (if ix sq 30 = true then (some ((vContentMany (Int32.toNatClampNeg sq)), vContents, vContentMany, o70.2)) else none) else (if ix sq 30 = true then (if ix sq 30 = true then (if ix sq 30 = true then (if ix ((sq * (1000 : Int32)) + ((upd vContentMany (Int32.toNatClampNeg sq) ((vContentMany (Int32.toNatClampNeg sq)) - (1 : Int32))) (Int32.toNatClampNeg sq))) 30000 = true then (if ix ((sq * (1000 : Int32)) + o236) 30000 = true then (if ix sq 30 = true then (some (((upd vContentMany (Int32.toNatClampNeg sq) ((vContentMany (Int32.toNatClampNeg sq)) - (1 : Int32))) (Int32.toNatClampNeg sq)), (vp_updL vContents (Int32.toNatClampNeg ((sq * (1000 : Int32)) + o236)) (vContents (Int32.toNatClampNeg ((sq * (1000 : Int32)) + ((upd vContentMany (Int32.toNatClampNeg sq) ((vContentMany (Int32.toNatClampNeg sq)) - (1 : Int32))) (Int32.toNatClampNeg sq)))))), (upd vContentMany (Int32.toNatClampNeg sq) ((vContentMany (Int32.toNatClampNeg sq)) - (1 : Int32))), o70.2)) else none) else none) else none) else none) else none) else none)) else none) else ((mX9_drop_L162 vSize vSeed vRow sq t z52 FU (0 : Int32)).bind fun o162 => (mX9_nestOf vSize vSeed sq t (o162 / (4 : Int32))).bind fun z221 => if ix (((sq * (4096 : Int32)) + ((4 : Int32) * z221)) + (irm o162 (4 : Int32))) 122880 = true then ((mX9_drop_L236 vContents vContentMany sq t FU (0 : Int32)).bind fun o236 => if ix sq 30 = true then (if (vContentMany (Int32.toNatClampNeg sq)) ≤ o236 then (if ix sq 30 = true then (some ((vContentMany (Int32.toNatClampNeg sq)), vContents, vContentMany, (upd vRow (Int32.toNatClampNeg (((sq * (4096 : Int32)) + ((4 : Int32) * z221)) + (irm o162 (4 : Int32)))) (0 : Int32)))) else none) else (if ix sq 30 = true then (if ix sq 30 = true then (if ix sq 30 = true then (if ix ((sq * (1000 : Int32)) + ((upd vContentMany (Int32.toNatClampNeg sq) ((vContentMany (Int32.toNatClampNeg sq)) - (1 : Int32))) (Int32.toNatClampNeg sq))) 30000 = true then (if ix ((sq * (1000 : Int32)) + o236) 30000 = true then (if ix sq 30 = true then (some (((upd vContentMany (Int32.toNatClampNeg sq) ((vContentMany (Int32.toNatClampNeg sq)) - (1 : Int32))) (Int32.toNatClampNeg sq)), (vp_updL vContents (Int32.toNatClampNeg ((sq * (1000 : Int32)) + o236)) (vContents (Int32.toNatClampNeg ((sq * (1000 : Int32)) + ((upd vContentMany (Int32.toNatClampNeg sq) ((vContentMany (Int32.toNatClampNeg sq)) - (1 : Int32))) (Int32.toNatClampNeg sq)))))), (upd vContentMany (Int32.toNatClampNeg sq) ((vContentMany (Int32.toNatClampNeg sq)) - (1 : Int32))), (upd vRow (Int32.toNatClampNeg (((sq * (4096 : Int32)) + ((4 : Int32) * z221)) + (irm o162 (4 : Int32)))) (0 : Int32)))) else none) else none) else none) else none) else none) else none)) else none) else none)) else none) else none)) else (if ix sq 30 = true then (if (vKind (Int32.toNatClampNeg sq)) = (2 : Int32) then ((mX9_letsThrough vKind vSize vMarks vSeed vRow vBits vLayerSize vRest vRestMany sq t).bind fun z36 => if z36 = 0 then (some ((-5 : Int32), vContents, vContentMany, vRow)) else (if ix sq 30 = true then ((mX9_mix t (vSeed (Int32.toNatClampNeg sq))).bind fun z52 => if ix sq 30 = true then (if (vKind (Int32.toNatClampNeg sq)) = (1 : Int32) then ((mX9_drop_L70 vSize vMarks sq z52 FU (0 : Int32) vRow).bind fun o70 => (mX9_drop_L236 vContents vContentMany sq t FU (0 : Int32)).bind fun o236 => if ix sq 30 = true then (if (vContentMany (Int32.toNatClampNeg sq)) ≤ o236 then (if ix sq 30 = true then (some ((vContentMany (Int32.toNatClampNeg sq)), vContents, vContentMany, o70.2)) else none) else (if ix sq 30 = true then (if ix sq 30 = true then (if ix sq 30 = true then (if ix ((sq * (1000 : Int32)) + ((upd vContentMany (Int32.toNatClampNeg sq) ((vContentMany (Int32.toNatClampNeg sq)) - (1 : Int32))) (Int32.toNatClampNeg sq))) 30000 = true then (if ix ((sq * (1000 : Int32)) + o236) 30000 = true then (if ix sq 30 = true then (some (((upd vContentMany (Int32.toNatClampNeg sq) ((vContentMany (Int32.toNatClampNeg sq)) - (1 : Int32))) (Int32.toNatClampNeg sq)), (vp_updL vContents (Int32.toNatClampNeg ((sq * (1000 : Int32)) + o236)) (vContents (Int32.toNatClampNeg ((sq * (1000 : Int32)) + ((upd vContentMany (Int32.toNatClampNeg sq) ((vContentMany (Int32.toNatClampNeg sq)) - (1 : Int32))) (Int32.toNatClampNeg sq)))))), (upd vContentMany (Int32.toNatClampNeg sq) ((vContentMany (Int32.toNatClampNeg sq)) - (1 : Int32))), o70.2)) else none) else none) else none) else none) else none) else none)) else none) else ((mX9_drop_L162 vSize vSeed vRow sq t z52 FU (0 : Int32)).bind fun o162 => (mX9_nestOf vSize vSeed sq t (o162 / (4 : Int32))).bind fun z221 => if ix (((sq * (4096 : Int32)) + ((4 : Int32) * z221)) + (irm o162 (4 : Int32))) 122880 = true then ((mX9_drop_L236 vContents vContentMany sq t FU (0 : Int32)).bind fun o236 => if ix sq 30 = true then (if (vContentMany (Int32.toNatClampNeg sq)) ≤ o236 then (if ix sq 30 = true then (some ((vContentMany (Int32.toNatClampNeg sq)), vContents, vContentMany, (upd vRow (Int32.toNatClampNeg (((sq * (4096 : Int32)) + ((4 : Int32) * z221)) + (irm o162 (4 : Int32)))) (0 : Int32)))) else none) else (if ix sq 30 = true then (if ix sq 30 = true then (if ix sq 30 = true then (if ix ((sq * (1000 : Int32)) + ((upd vContentMany (Int32.toNatClampNeg sq) ((vContentMany (Int32.toNatClampNeg sq)) - (1 : Int32))) (Int32.toNatClampNeg sq))) 30000 = true then (if ix ((sq * (1000 : Int32)) + o236) 30000 = true then (if ix sq 30 = true then (some (((upd vContentMany (Int32.toNatClampNeg sq) ((vContentMany (Int32.toNatClampNeg sq)) - (1 : Int32))) (Int32.toNatClampNeg sq)), (vp_updL vContents (Int32.toNatClampNeg ((sq * (1000 : Int32)) + o236)) (vContents (Int32.toNatClampNeg ((sq * (1000 : Int32)) + ((upd vContentMany (Int32.toNatClampNeg sq) ((vContentMany (Int32.toNatClampNeg sq)) - (1 : Int32))) (Int32.toNatClampNeg sq)))))), (upd vContentMany (Int32.toNatClampNeg sq) ((vContentMany (Int32.toNatClampNeg sq)) - (1 : Int32))), (upd vRow (Int32.toNatClampNeg (((sq * (4096 : Int32)) + ((4 : Int32) * z221)) + (irm o162 (4 : Int32)))) (0 : Int32)))) else none) else none) else none) else none) else none) else none)) else none) else none)) else none) else none)) else (some ((-2 : Int32), vContents, vContentMany, vRow))) else none)) else none)
set_option maxHeartbeats 4000000 in
set_option maxRecDepth 100000 in
theorem k_X9_drop (l : Launch) (D : va_G) (g : Nat → ClassId) {L : List Nat} {f : Nat → va_E} {aAlone aBits aCome aContentMany aContents aGone aInWorld aIsOff aKept aKind aLayerCame aLayerSize aMarks aOffAt aOrder aRest aRestMany aRivals aRow aSeed aSize aWorlds y : Nat} {many : Int32} {vWorlds : Nat → Int64} {vInWorld : Nat → Int32} {vKind : Nat → Int32} {vSize : Nat → Int32} {vMarks : Nat → Int32} {vSeed : Nat → Int32} {vContents : Nat → Int64} {vContentMany : Nat → Int32} {vRow : Nat → Int32} {vBits : Nat → Int32} {vLayerSize : Nat → Int32} {vLayerCame : Nat → Int32} {vRest : Nat → Int64} {vRestMany : Nat → Int32} {vCome : Nat → Int64} {vRivals : Nat → Int64} {vGone : Nat → Int64} {vOrder : Nat → Int32} {vOffAt : Nat → Int32} {vIsOff : Nat → Int32} {vAlone : Nat → Int32} {vKept : Nat → Int32} {sq : Int32} {t : Int64} {z : Int32 × (Nat → Int64) × (Nat → Int32) × (Nat → Int32)} (m_y : y ∈ L) (e_y : f y = .inr (7, [.ref aWorlds, .ref aInWorld, .ref aKind, .ref aSize, .ref aMarks, .ref aSeed, .ref aContents, .ref aContentMany, .ref aRow, .ref aBits, .ref aLayerSize, .ref aLayerCame, .ref aRest, .ref aRestMany, .int many, .ref aCome, .ref aRivals, .ref aGone, .ref aOrder, .ref aOffAt, .ref aIsOff, .ref aAlone, .ref aKept])) (m_aWorlds : aWorlds ∈ L) (e_aWorlds : f aWorlds = .inl (g 1, 8000, .inr (.inl vWorlds))) (m_aInWorld : aInWorld ∈ L) (e_aInWorld : f aInWorld = .inl (g 0, 8, .inl vInWorld)) (m_aKind : aKind ∈ L) (e_aKind : f aKind = .inl (g 0, 30, .inl vKind)) (m_aSize : aSize ∈ L) (e_aSize : f aSize = .inl (g 0, 30, .inl vSize)) (m_aMarks : aMarks ∈ L) (e_aMarks : f aMarks = .inl (g 0, 30, .inl vMarks)) (m_aSeed : aSeed ∈ L) (e_aSeed : f aSeed = .inl (g 0, 30, .inl vSeed)) (m_aContents : aContents ∈ L) (e_aContents : f aContents = .inl (g 1, 30000, .inr (.inl vContents))) (m_aContentMany : aContentMany ∈ L) (e_aContentMany : f aContentMany = .inl (g 0, 30, .inl vContentMany)) (m_aRow : aRow ∈ L) (e_aRow : f aRow = .inl (g 0, 122880, .inl vRow)) (m_aBits : aBits ∈ L) (e_aBits : f aBits = .inl (g 0, 76800, .inl vBits)) (m_aLayerSize : aLayerSize ∈ L) (e_aLayerSize : f aLayerSize = .inl (g 0, 600, .inl vLayerSize)) (m_aLayerCame : aLayerCame ∈ L) (e_aLayerCame : f aLayerCame = .inl (g 0, 600, .inl vLayerCame)) (m_aRest : aRest ∈ L) (e_aRest : f aRest = .inl (g 1, 30000, .inr (.inl vRest))) (m_aRestMany : aRestMany ∈ L) (e_aRestMany : f aRestMany = .inl (g 0, 30, .inl vRestMany)) (m_aCome : aCome ∈ L) (e_aCome : f aCome = .inl (g 1, 1000, .inr (.inl vCome))) (m_aRivals : aRivals ∈ L) (e_aRivals : f aRivals = .inl (g 1, 1000, .inr (.inl vRivals))) (m_aGone : aGone ∈ L) (e_aGone : f aGone = .inl (g 1, 1000, .inr (.inl vGone))) (m_aOrder : aOrder ∈ L) (e_aOrder : f aOrder = .inl (g 0, 1000, .inl vOrder)) (m_aOffAt : aOffAt ∈ L) (e_aOffAt : f aOffAt = .inl (g 0, 1000, .inl vOffAt)) (m_aIsOff : aIsOff ∈ L) (e_aIsOff : f aIsOff = .inl (g 2, 1000, .inl vIsOff)) (m_aAlone : aAlone ∈ L) (e_aAlone : f aAlone = .inl (g 0, 4096, .inl vAlone)) (m_aKept : aKept ∈ L) (e_aKept : f aKept = .inl (g 0, 4096, .inl vKept))    (hM : mX9_drop many vKind vSize vMarks vSeed vContents vContentMany vRow vBits vLayerSize vRest vRestMany sq t = some z) : cI l yX9_drop wsX9_drop { frames := 4, cells := 0, slots := 0, locals := 110 } D g [.ref y, .int sq, .long t] L f 0 0 (fun x L1 f1 => x = z.1 ∧ L1 = L ∧ (∀ b, b ∈ L → b ≠ aContents → b ≠ aContentMany → b ≠ aRow → f1 b = f b) ∧ f1 aContents = .inl (g 1, 30000, .inr (.inl z.2.1)) ∧ f1 aContentMany = .inl (g 0, 30, .inl z.2.2.1) ∧ f1 aRow = .inl (g 0, 122880, .inl z.2.2.2)) := by
  refine cI_of (cc := cX9_drop) (maxL := 8) (ret := (some .int)) (by decide) rfl (Nat.le_of_ble_eq_true rfl) ?_
  intro szz p e s m below meth c hx hb hr hml hts hown hlk hnm S ls hl
  have hl : lv_has ls 8 [(0, .ref y), (1, .int sq), (2, .long t)] := hl
  have in_X9 : ∀ w ∈ wsX90, w ∈ wsX9_drop := gu_wsX9_drop_4
  have n_y_aRow : y ≠ aRow := ne_ir e_aRow e_y
  have n_aContentMany_aRow : aContentMany ≠ aRow := ne_len e_aRow e_aContentMany (by decide)
  have n_aContents_aRow : aContents ≠ aRow := ne_len e_aRow e_aContents (by decide)
  have n_y_aContentMany : y ≠ aContentMany := ne_ir e_aContentMany e_y
  have n_aContents_aContentMany : aContents ≠ aContentMany := ne_len e_aContentMany e_aContents (by decide)
  have n_y_aContents : y ≠ aContents := ne_ir e_aContents e_y
  have n_aContentMany_aContents : aContentMany ≠ aContents := ne_len e_aContents e_aContentMany (by decide)
  have n_aRow_aContentMany : aRow ≠ aContentMany := ne_len e_aContentMany e_aRow (by decide)
  have n_aRow_aContents : aRow ≠ aContents := ne_len e_aContents e_aRow (by decide)
  have n_aWorlds_aRow : aWorlds ≠ aRow := ne_len e_aRow e_aWorlds (by decide)
  have n_aInWorld_aRow : aInWorld ≠ aRow := ne_len e_aRow e_aInWorld (by decide)
  have n_aKind_aRow : aKind ≠ aRow := ne_len e_aRow e_aKind (by decide)
  have n_aSize_aRow : aSize ≠ aRow := ne_len e_aRow e_aSize (by decide)
  have n_aMarks_aRow : aMarks ≠ aRow := ne_len e_aRow e_aMarks (by decide)
  have n_aSeed_aRow : aSeed ≠ aRow := ne_len e_aRow e_aSeed (by decide)
  have n_aBits_aRow : aBits ≠ aRow := ne_len e_aRow e_aBits (by decide)
  have n_aLayerSize_aRow : aLayerSize ≠ aRow := ne_len e_aRow e_aLayerSize (by decide)
  have n_aLayerCame_aRow : aLayerCame ≠ aRow := ne_len e_aRow e_aLayerCame (by decide)
  have n_aRest_aRow : aRest ≠ aRow := ne_len e_aRow e_aRest (by decide)
  have n_aRestMany_aRow : aRestMany ≠ aRow := ne_len e_aRow e_aRestMany (by decide)
  have n_aCome_aRow : aCome ≠ aRow := ne_len e_aRow e_aCome (by decide)
  have n_aRivals_aRow : aRivals ≠ aRow := ne_len e_aRow e_aRivals (by decide)
  have n_aGone_aRow : aGone ≠ aRow := ne_len e_aRow e_aGone (by decide)
  have n_aOrder_aRow : aOrder ≠ aRow := ne_len e_aRow e_aOrder (by decide)
  have n_aOffAt_aRow : aOffAt ≠ aRow := ne_len e_aRow e_aOffAt (by decide)
  have n_aIsOff_aRow : aIsOff ≠ aRow := ne_len e_aRow e_aIsOff (by decide)
  have n_aAlone_aRow : aAlone ≠ aRow := ne_len e_aRow e_aAlone (by decide)
  have n_aKept_aRow : aKept ≠ aRow := ne_len e_aRow e_aKept (by decide)
  have fr : ∀ b, b ∈ L → b ≠ aContents → b ≠ aContentMany → b ≠ aRow → f b = f b := fun _ _ _ _ _ => rfl
  unfold mX9_drop at hM
  refine W_gen (fun QQ hQQ => ?_)
  refine lv_aload_n hx hb dX9_drop_0 rfl (lv_at hl 0 rfl) ?_
  refine lv_iload_n hx hb dX9_drop_1 rfl (lv_at hl 1 rfl) ?_
  obtain ⟨z2, hz2, hM⟩ := bind_some hM
  refine q_vi (As := [.int sq]) (rest := []) ⟨hx, hb, hml, hown, hts⟩ (k_X9_is l D g m_y e_y hz2) (cwV 1 hts gX9_drop_X9_is rfl rfl rfl (by decide +kernel) ⟨Nat.le_of_ble_eq_true rfl, Nat.le_of_ble_eq_true rfl⟩) S m_y e_y (T := TX9) (N := 23) rfl rfl hl.1 rfl (Nat.le_of_ble_eq_true rfl) dX9_drop_2 ⟨Nat.le_of_ble_eq_true rfl, Nat.le_of_ble_eq_true rfl⟩ (fun r3 L1 f2 H locs S w2 => ?_)
  obtain ⟨ex2, eL, ef⟩ := w2
  rw [eL, ef] at S
  replace ex2 := ex2.symm
  subst ex2
  refine lv_if_ne (tgt := 10) hx hb dX9_drop_5 (by decide) (fun b5 => ?_) (fun b5 => ?_)
  · have hM := itF b5 hM
    refine lv_aload_n hx hb dX9_drop_10 rfl (lv_at hl 0 rfl) ?_
    refine q_get hx hb hts in_X9 hown S m_y e_y (C := RX9) (T := TX9) (N := 23) rfl 2 (by decide) rfl (hts (.fieldLink RX9 17 "SieveCabinetModel" "kind" "[I") (gu_wsX9_drop_1 _ gm_0)) dX9_drop_11 ?_
    refine lv_iload_n hx hb dX9_drop_14 rfl (lv_at hl 1 rfl) ?_
    obtain ⟨hi15, hM⟩ := ckx hM
    refine q_iald hx hb S m_aKind e_aKind hi15 dX9_drop_15 ?_
    refine lv_iconst (v := (1 : Int32)) hx hb dX9_drop_16 (by decide) ?_
    refine lv_icmp_eq (tgt := 33) hx hb dX9_drop_17 (by decide) (fun b17 => ?_) (fun b17 => ?_)
    · have hM := itT b17 hM
      refine lv_aload_n hx hb dX9_drop_33 rfl (lv_at hl 0 rfl) ?_
      refine lv_iload_n hx hb dX9_drop_34 rfl (lv_at hl 1 rfl) ?_
      refine lv_lload_n hx hb dX9_drop_35 rfl (lv_at hl 2 rfl) ?_
      obtain ⟨z36, hz36, hM⟩ := bind_some hM
      refine q_vi (As := [.int sq, .long t]) (rest := []) ⟨hx, hb, hml, hown, hts⟩ (k_X9_letsThrough l D g m_y e_y m_aKind e_aKind m_aSize e_aSize m_aMarks e_aMarks m_aSeed e_aSeed m_aRow e_aRow m_aBits e_aBits m_aLayerSize e_aLayerSize m_aRest e_aRest m_aRestMany e_aRestMany hz36) (cwV 2 hts gX9_drop_X9_letsThrough rfl rfl rfl (by decide +kernel) ⟨Nat.le_of_ble_eq_true rfl, Nat.le_of_ble_eq_true rfl⟩) S m_y e_y (T := TX9) (N := 23) rfl rfl hl.1 rfl (Nat.le_of_ble_eq_true rfl) dX9_drop_36 ⟨Nat.le_of_ble_eq_true rfl, Nat.le_of_ble_eq_true rfl⟩ (fun r6 L4 f5 H locs S w36 => ?_)
      obtain ⟨ex36, eL, ef⟩ := w36
      rw [eL, ef] at S
      replace ex36 := ex36.symm
      subst ex36
      refine lv_if_ne (tgt := 45) hx hb dX9_drop_39 (by decide) (fun b39 => ?_) (fun b39 => ?_)
      · have hM := itF b39 hM
        refine lv_lload_n hx hb dX9_drop_45 rfl (lv_at hl 2 rfl) ?_
        refine lv_aload_n hx hb dX9_drop_46 rfl (lv_at hl 0 rfl) ?_
        refine q_get hx hb hts in_X9 hown S m_y e_y (C := RX9) (T := TX9) (N := 23) rfl 5 (by decide) rfl (hts (.fieldLink RX9 26 "SieveCabinetModel" "seed" "[I") (gu_wsX9_drop_1 _ gm_1)) dX9_drop_47 ?_
        refine lv_iload_n hx hb dX9_drop_50 rfl (lv_at hl 1 rfl) ?_
        obtain ⟨hi51, hM⟩ := ckx hM
        refine q_iald hx hb S m_aSeed e_aSeed hi51 dX9_drop_51 ?_
        obtain ⟨z52, hz52, hM⟩ := bind_some hM
        refine q_sl (As := [.long t, .int (vSeed (Int32.toNatClampNeg sq))]) (rest := []) ⟨hx, hb, hml, hown, hts⟩ (k_X9_mix l D g hz52) (va_cwS 2 hts gX9_drop_X9_mix rfl rfl rfl (by decide +kernel) ⟨Nat.le_of_ble_eq_true rfl, Nat.le_of_ble_eq_true rfl⟩) S rfl hl.1 rfl (Nat.le_of_ble_eq_true rfl) dX9_drop_52 ⟨Nat.le_of_ble_eq_true rfl, Nat.le_of_ble_eq_true rfl⟩ (fun r9 L7 f8 H locs S w52 => ?_)
        obtain ⟨ex52, eL, ef⟩ := w52
        rw [eL, ef] at S
        replace ex52 := ex52.symm
        subst ex52
        refine lv_lstore (lv' := [(4, .long z52), (0, .ref y), (1, .int sq), (2, .long t)]) hx hb dX9_drop_55 hl (by decide) rfl (fun ls hl => ?_)
        refine lv_aload_n hx hb dX9_drop_57 rfl (lv_at hl 1 rfl) ?_
        refine q_get hx hb hts in_X9 hown S m_y e_y (C := RX9) (T := TX9) (N := 23) rfl 2 (by decide) rfl (hts (.fieldLink RX9 17 "SieveCabinetModel" "kind" "[I") (gu_wsX9_drop_1 _ gm_0)) dX9_drop_58 ?_
        refine lv_iload_n hx hb dX9_drop_61 rfl (lv_at hl 2 rfl) ?_
        obtain ⟨hi62, hM⟩ := ckx hM
        refine q_iald hx hb S m_aKind e_aKind hi62 dX9_drop_62 ?_
        refine lv_iconst (v := (1 : Int32)) hx hb dX9_drop_63 (by decide) ?_
        refine lv_icmp_ne (tgt := 159) hx hb dX9_drop_64 (by decide) (fun b64 => ?_) (fun b64 => ?_)
        · have hM := itF b64 hM
          refine lv_iconst (v := (0 : Int32)) hx hb dX9_drop_159 (by decide) ?_
          refine lv_istore (lv' := [(6, .int (0 : Int32)), (4, .long z52), (0, .ref y), (1, .int sq), (2, .long t)]) hx hb dX9_drop_160 hl (by decide) rfl (fun ls hl => ?_)
          obtain ⟨o162, ho162, hM⟩ := bind_some hM
          have EX162 : ∀ (H : Heap) (locs : List Loc) (ls : Array Slot), PS D g (va_A (va_pl L f) szz) s.heap s L f H locs → lv_has ls 8 [(6, .int o162), (0, .ref y), (1, .int sq), (2, .long t)] → W p l e { frames := 4, cells := 0, slots := 0, locals := 110 } s m [.ref y, .int sq, .long t].toArray below meth c H locs 0 0 QQ (F0 m 204 ls []) := by
            intro H locs ls S hl
            refine lv_aload_n hx hb dX9_drop_204 rfl (lv_at hl 1 rfl) ?_
            refine q_get hx hb hts in_X9 hown S m_y e_y (C := RX9) (T := TX9) (N := 23) rfl 8 (by decide) rfl (hts (.fieldLink RX9 36 "SieveCabinetModel" "row" "[I") (gu_wsX9_drop_1 _ gm_4)) dX9_drop_205 ?_
            refine lv_iload_n hx hb dX9_drop_208 rfl (lv_at hl 2 rfl) ?_
            refine lv_sipush (v := (4096 : Int32)) hx hb dX9_drop_209 (by decide) ?_
            refine lv_imul hx hb dX9_drop_212 ?_
            refine lv_iconst (v := (4 : Int32)) hx hb dX9_drop_213 (by decide) ?_
            refine lv_aload_n hx hb dX9_drop_214 rfl (lv_at hl 1 rfl) ?_
            refine lv_iload_n hx hb dX9_drop_215 rfl (lv_at hl 2 rfl) ?_
            refine lv_lload_n hx hb dX9_drop_216 rfl (lv_at hl 3 rfl) ?_
            refine lv_iload hx hb dX9_drop_217 (lv_at hl 0 rfl) ?_
            refine lv_iconst (v := (4 : Int32)) hx hb dX9_drop_219 (by decide) ?_
            refine lv_idiv hx hb dX9_drop_220 (by decide) ?_
            obtain ⟨z221, hz221, hM⟩ := bind_some hM
            refine q_vi (As := [.int sq, .long t, .int (o162 / (4 : Int32))]) (rest := [.int (4 : Int32), .int (sq * (4096 : Int32)), .ref aRow]) ⟨hx, hb, hml, hown, hts⟩ (k_X9_nestOf l D g m_y e_y m_aSize e_aSize m_aSeed e_aSeed hz221) (cwV 3 hts gX9_drop_X9_nestOf rfl rfl rfl (by decide +kernel) ⟨Nat.le_of_ble_eq_true rfl, Nat.le_of_ble_eq_true rfl⟩) S m_y e_y (T := TX9) (N := 23) rfl rfl hl.1 rfl (Nat.le_of_ble_eq_true rfl) dX9_drop_221 ⟨Nat.le_of_ble_eq_true rfl, Nat.le_of_ble_eq_true rfl⟩ (fun r12 L10 f11 H locs S w221 => ?_)
            obtain ⟨ex221, eL, ef⟩ := w221
            rw [eL, ef] at S
            replace ex221 := ex221.symm
            subst ex221
            refine lv_imul hx hb dX9_drop_224 ?_
            refine lv_iadd hx hb dX9_drop_225 ?_
            refine lv_iload hx hb dX9_drop_226 (lv_at hl 0 rfl) ?_
            refine lv_iconst (v := (4 : Int32)) hx hb dX9_drop_228 (by decide) ?_
            refine lv_irem hx hb dX9_drop_229 (by decide) ?_
            refine W.eq (g2 := F0 m 230 ls [.int (irm o162 (4 : Int32)), .int ((sq * (4096 : Int32)) + ((4 : Int32) * z221)), .ref aRow]) rfl ?_
            refine lv_iadd hx hb dX9_drop_230 ?_
            refine lv_iconst (v := (0 : Int32)) hx hb dX9_drop_231 (by decide) ?_
            obtain ⟨hi232, hM⟩ := ckx hM
            refine k_iast hx hb S m_aRow e_aRow hi232 dX9_drop_232 (fun f13 ef13 H locs S => ?_)
            have e_aRow := up_self ef13
            have fr : ∀ b, b ∈ L → b ≠ aContents → b ≠ aContentMany → b ≠ aRow → f13 b = f b := fun b mb nb0 nb1 nb2 => (up_ne ef13 nb2 rfl).trans (fr b mb nb0 nb1 nb2)
            refine lv_iconst (v := (0 : Int32)) hx hb dX9_drop_233 (by decide) ?_
            refine lv_istore (lv' := [(6, .int (0 : Int32)), (0, .ref y), (1, .int sq), (2, .long t)]) hx hb dX9_drop_234 hl (by decide) rfl (fun ls hl => ?_)
            obtain ⟨o236, ho236, hM⟩ := bind_some hM
            have EX236 : ∀ (H : Heap) (locs : List Loc) (ls : Array Slot), PS D g (va_A (va_pl L f) szz) s.heap s L f13 H locs → lv_has ls 8 [(6, .int o236), (0, .ref y), (1, .int sq)] → W p l e { frames := 4, cells := 0, slots := 0, locals := 110 } s m [.ref y, .int sq, .long t].toArray below meth c H locs 0 0 QQ (F0 m 271 ls []) := by
              intro H locs ls S hl
              refine lv_iload hx hb dX9_drop_271 (lv_at hl 0 rfl) ?_
              refine lv_aload_n hx hb dX9_drop_273 rfl (lv_at hl 1 rfl) ?_
              have e_y := (up_ne ef13 n_y_aRow e_y)
              refine q_get hx hb hts in_X9 hown S m_y e_y (C := RX9) (T := TX9) (N := 23) rfl 7 (by decide) rfl (hts (.fieldLink RX9 32 "SieveCabinetModel" "contentMany" "[I") (gu_wsX9_drop_1 _ gm_5)) dX9_drop_274 ?_
              refine lv_iload_n hx hb dX9_drop_277 rfl (lv_at hl 2 rfl) ?_
              obtain ⟨hi278, hM⟩ := ckx hM
              have e_aContentMany := (up_ne ef13 n_aContentMany_aRow e_aContentMany)
              refine q_iald hx hb S m_aContentMany e_aContentMany hi278 dX9_drop_278 ?_
              refine lv_icmp_ge (tgt := 322) hx hb dX9_drop_279 (by decide) (fun b279 => ?_) (fun b279 => ?_)
              · have hM := itT b279 hM
                refine lv_aload_n hx hb dX9_drop_322 rfl (lv_at hl 1 rfl) ?_
                refine q_get hx hb hts in_X9 hown S m_y e_y (C := RX9) (T := TX9) (N := 23) rfl 7 (by decide) rfl (hts (.fieldLink RX9 32 "SieveCabinetModel" "contentMany" "[I") (gu_wsX9_drop_1 _ gm_5)) dX9_drop_323 ?_
                refine lv_iload_n hx hb dX9_drop_326 rfl (lv_at hl 2 rfl) ?_
                obtain ⟨hi327, hM⟩ := ckx hM
                refine q_iald hx hb S m_aContentMany e_aContentMany hi327 dX9_drop_327 ?_
                have e_aContents := (up_ne ef13 n_aContents_aRow e_aContents)
                subst hQQ
                exact q_reti (post := fun x L1 f1 => x = z.1 ∧ L1 = L ∧ (∀ b, b ∈ L → b ≠ aContents → b ≠ aContentMany → b ≠ aRow → f1 b = f b) ∧ f1 aContents = .inl (g 1, 30000, .inr (.inl z.2.1)) ∧ f1 aContentMany = .inl (g 0, 30, .inl z.2.2.1) ∧ f1 aRow = .inl (g 0, 122880, .inl z.2.2.2)) hx hb hr hlk S dX9_drop_328 (by decide) (by decide) (by have hz := Option.some.inj hM; subst hz; exact ⟨rfl, rfl, fr, e_aContents, e_aContentMany, e_aRow⟩)
              · have hM := itF b279 hM
                refine lv_aload_n hx hb dX9_drop_282 rfl (lv_at hl 1 rfl) ?_
                refine q_get hx hb hts in_X9 hown S m_y e_y (C := RX9) (T := TX9) (N := 23) rfl 7 (by decide) rfl (hts (.fieldLink RX9 32 "SieveCabinetModel" "contentMany" "[I") (gu_wsX9_drop_1 _ gm_5)) dX9_drop_283 ?_
                refine lv_iload_n hx hb dX9_drop_286 rfl (lv_at hl 2 rfl) ?_
                refine lv_dup2_11 hx hb dX9_drop_287 rfl rfl ?_
                obtain ⟨hi288, hM⟩ := ckx hM
                refine q_iald hx hb S m_aContentMany e_aContentMany hi288 dX9_drop_288 ?_
                refine lv_iconst (v := (1 : Int32)) hx hb dX9_drop_289 (by decide) ?_
                refine lv_isub hx hb dX9_drop_290 ?_
                obtain ⟨hi291, hM⟩ := ckx hM
                refine k_iast hx hb S m_aContentMany e_aContentMany hi291 dX9_drop_291 (fun f14 ef14 H locs S => ?_)
                have e_aContentMany := up_self ef14
                have fr : ∀ b, b ∈ L → b ≠ aContents → b ≠ aContentMany → b ≠ aRow → f14 b = f b := fun b mb nb0 nb1 nb2 => (up_ne ef14 nb1 rfl).trans (fr b mb nb0 nb1 nb2)
                refine lv_aload_n hx hb dX9_drop_292 rfl (lv_at hl 1 rfl) ?_
                have e_y := (up_ne ef14 n_y_aContentMany e_y)
                refine q_get hx hb hts in_X9 hown S m_y e_y (C := RX9) (T := TX9) (N := 23) rfl 6 (by decide) rfl (hts (.fieldLink RX9 29 "SieveCabinetModel" "contents" "[J") (gu_wsX9_drop_1 _ gm_6)) dX9_drop_293 ?_
                refine lv_iload_n hx hb dX9_drop_296 rfl (lv_at hl 2 rfl) ?_
                refine lv_sipush (v := (1000 : Int32)) hx hb dX9_drop_297 (by decide) ?_
                refine lv_imul hx hb dX9_drop_300 ?_
                refine lv_iload hx hb dX9_drop_301 (lv_at hl 0 rfl) ?_
                refine lv_iadd hx hb dX9_drop_303 ?_
                refine lv_aload_n hx hb dX9_drop_304 rfl (lv_at hl 1 rfl) ?_
                refine q_get hx hb hts in_X9 hown S m_y e_y (C := RX9) (T := TX9) (N := 23) rfl 6 (by decide) rfl (hts (.fieldLink RX9 29 "SieveCabinetModel" "contents" "[J") (gu_wsX9_drop_1 _ gm_6)) dX9_drop_305 ?_
                refine lv_iload_n hx hb dX9_drop_308 rfl (lv_at hl 2 rfl) ?_
                refine lv_sipush (v := (1000 : Int32)) hx hb dX9_drop_309 (by decide) ?_
                refine lv_imul hx hb dX9_drop_312 ?_
                refine lv_aload_n hx hb dX9_drop_313 rfl (lv_at hl 1 rfl) ?_
                refine q_get hx hb hts in_X9 hown S m_y e_y (C := RX9) (T := TX9) (N := 23) rfl 7 (by decide) rfl (hts (.fieldLink RX9 32 "SieveCabinetModel" "contentMany" "[I") (gu_wsX9_drop_1 _ gm_5)) dX9_drop_314 ?_
                refine lv_iload_n hx hb dX9_drop_317 rfl (lv_at hl 2 rfl) ?_
                obtain ⟨hi318, hM⟩ := ckx hM
                refine q_iald hx hb S m_aContentMany e_aContentMany hi318 dX9_drop_318 ?_
                refine lv_iadd hx hb dX9_drop_319 ?_
                obtain ⟨hi320, hM⟩ := ckx hM
                have e_aContents := (up_ne ef14 n_aContents_aContentMany (up_ne ef13 n_aContents_aRow e_aContents))
                refine q_lald hx hb S m_aContents e_aContents hi320 dX9_drop_320 ?_
                obtain ⟨hi321, hM⟩ := ckx hM
                refine k_last hx hb S m_aContents e_aContents hi321 dX9_drop_321 (fun f15 ef15 H locs S => ?_)
                have e_aContents := up_self ef15
                have fr : ∀ b, b ∈ L → b ≠ aContents → b ≠ aContentMany → b ≠ aRow → f15 b = f b := fun b mb nb0 nb1 nb2 => (up_ne ef15 nb0 rfl).trans (fr b mb nb0 nb1 nb2)
                refine lv_aload_n hx hb dX9_drop_322 rfl (lv_at hl 1 rfl) ?_
                have e_y := (up_ne ef15 n_y_aContents e_y)
                refine q_get hx hb hts in_X9 hown S m_y e_y (C := RX9) (T := TX9) (N := 23) rfl 7 (by decide) rfl (hts (.fieldLink RX9 32 "SieveCabinetModel" "contentMany" "[I") (gu_wsX9_drop_1 _ gm_5)) dX9_drop_323 ?_
                refine lv_iload_n hx hb dX9_drop_326 rfl (lv_at hl 2 rfl) ?_
                obtain ⟨hi327, hM⟩ := ckx hM
                have e_aContentMany := (up_ne ef15 n_aContentMany_aContents e_aContentMany)
                refine q_iald hx hb S m_aContentMany e_aContentMany hi327 dX9_drop_327 ?_
                have e_aRow := (up_ne ef15 n_aRow_aContents (up_ne ef14 n_aRow_aContentMany e_aRow))
                subst hQQ
                exact q_reti (post := fun x L1 f1 => x = z.1 ∧ L1 = L ∧ (∀ b, b ∈ L → b ≠ aContents → b ≠ aContentMany → b ≠ aRow → f1 b = f b) ∧ f1 aContents = .inl (g 1, 30000, .inr (.inl z.2.1)) ∧ f1 aContentMany = .inl (g 0, 30, .inl z.2.2.1) ∧ f1 aRow = .inl (g 0, 122880, .inl z.2.2.2)) hx hb hr hlk S dX9_drop_328 (by decide) (by decide) (by have hz := Option.some.inj hM; subst hz; exact ⟨rfl, rfl, fr, e_aContents, e_aContentMany, e_aRow⟩)
            have LP236 : ∀ (fu : Nat) (x6_236 : Int32) (H : Heap) (locs : List Loc) (ls : Array Slot), (mX9_drop_L236 vContents vContentMany sq t) fu x6_236 = some o236 → PS D g (va_A (va_pl L f) szz) s.heap s L f13 H locs → lv_has ls 8 [(6, .int x6_236), (0, .ref y), (1, .int sq), (2, .long t)] → W p l e { frames := 4, cells := 0, slots := 0, locals := 110 } s m [.ref y, .int sq, .long t].toArray below meth c H locs 0 0 QQ (F0 m 236 ls []) := by
              intro fu
              induction fu with
              | zero => intro x6_236 H locs ls ho236 S hl; exact no_some ho236
              | succ fu ih236 =>
                intro x6_236 H locs ls ho236 S hl
                rw [mX9_drop_L236] at ho236
                refine lv_iload hx hb dX9_drop_236 (lv_at hl 0 rfl) ?_
                refine lv_aload_n hx hb dX9_drop_238 rfl (lv_at hl 1 rfl) ?_
                have e_y := (up_ne ef13 n_y_aRow e_y)
                refine q_get hx hb hts in_X9 hown S m_y e_y (C := RX9) (T := TX9) (N := 23) rfl 7 (by decide) rfl (hts (.fieldLink RX9 32 "SieveCabinetModel" "contentMany" "[I") (gu_wsX9_drop_1 _ gm_5)) dX9_drop_239 ?_
                refine lv_iload_n hx hb dX9_drop_242 rfl (lv_at hl 2 rfl) ?_
                obtain ⟨hi243, ho236⟩ := ckx ho236
                have e_aContentMany := (up_ne ef13 n_aContentMany_aRow e_aContentMany)
                refine q_iald hx hb S m_aContentMany e_aContentMany hi243 dX9_drop_243 ?_
                refine lv_icmp_ge (tgt := 271) hx hb dX9_drop_244 (by decide) (fun b244 => ?_) (fun b244 => ?_)
                · have ho236 := itT b244 ho236
                  obtain rfl := Option.some.inj ho236
                  exact EX236 _ _ _ S (lv_sub hl [0, 1, 2] rfl)
                · have ho236 := itF b244 ho236
                  refine lv_aload_n hx hb dX9_drop_247 rfl (lv_at hl 1 rfl) ?_
                  refine q_get hx hb hts in_X9 hown S m_y e_y (C := RX9) (T := TX9) (N := 23) rfl 6 (by decide) rfl (hts (.fieldLink RX9 29 "SieveCabinetModel" "contents" "[J") (gu_wsX9_drop_1 _ gm_6)) dX9_drop_248 ?_
                  refine lv_iload_n hx hb dX9_drop_251 rfl (lv_at hl 2 rfl) ?_
                  refine lv_sipush (v := (1000 : Int32)) hx hb dX9_drop_252 (by decide) ?_
                  refine lv_imul hx hb dX9_drop_255 ?_
                  refine lv_iload hx hb dX9_drop_256 (lv_at hl 0 rfl) ?_
                  refine lv_iadd hx hb dX9_drop_258 ?_
                  obtain ⟨hi259, ho236⟩ := ckx ho236
                  have e_aContents := (up_ne ef13 n_aContents_aRow e_aContents)
                  refine q_lald hx hb S m_aContents e_aContents hi259 dX9_drop_259 ?_
                  refine lv_lload_n hx hb dX9_drop_260 rfl (lv_at hl 3 rfl) ?_
                  refine W.lcmp hx hb dX9_drop_261 ?_
                  refine lv_if_eq (tgt := 271) hx hb dX9_drop_262 (by decide) (fun b262 => ?_) (fun b262 => ?_)
                  · have ho236 := itT b262 ho236
                    obtain rfl := Option.some.inj ho236
                    exact EX236 _ _ _ S (lv_sub hl [0, 1, 2] rfl)
                  · have ho236 := itF b262 ho236
                    refine lv_iinc (v := (x6_236 + 1)) (lv' := [(6, .int (x6_236 + 1)), (0, .ref y), (1, .int sq), (2, .long t)]) hx hb dX9_drop_265 hl (k := 0) rfl rfl (by decide) rfl (fun ls hl => ?_)
                    refine lv_goto (tgt := 236) hx hb dX9_drop_268 (by decide) ?_
                    exact ih236 (x6_236 + 1) _ _ _ ho236 S (lv_sub hl [0, 1, 2, 3] rfl)
            exact LP236 FU (0 : Int32) _ _ _ ho236 S (lv_sub hl [0, 1, 2, 3] rfl)
          have LP162 : ∀ (fu : Nat) (x6_162 : Int32) (H : Heap) (locs : List Loc) (ls : Array Slot), (mX9_drop_L162 vSize vSeed vRow sq t z52) fu x6_162 = some o162 → PS D g (va_A (va_pl L f) szz) s.heap s L f H locs → lv_has ls 8 [(6, .int x6_162), (4, .long z52), (0, .ref y), (1, .int sq), (2, .long t)] → W p l e { frames := 4, cells := 0, slots := 0, locals := 110 } s m [.ref y, .int sq, .long t].toArray below meth c H locs 0 0 QQ (F0 m 162 ls []) := by
            intro fu
            induction fu with
            | zero => intro x6_162 H locs ls ho162 S hl; exact no_some ho162
            | succ fu ih162 =>
              intro x6_162 H locs ls ho162 S hl
              rw [mX9_drop_L162] at ho162
              refine lv_aload_n hx hb dX9_drop_162 rfl (lv_at hl 2 rfl) ?_
              refine q_get hx hb hts in_X9 hown S m_y e_y (C := RX9) (T := TX9) (N := 23) rfl 8 (by decide) rfl (hts (.fieldLink RX9 36 "SieveCabinetModel" "row" "[I") (gu_wsX9_drop_1 _ gm_4)) dX9_drop_163 ?_
              refine lv_iload_n hx hb dX9_drop_166 rfl (lv_at hl 3 rfl) ?_
              refine lv_sipush (v := (4096 : Int32)) hx hb dX9_drop_167 (by decide) ?_
              refine lv_imul hx hb dX9_drop_170 ?_
              refine lv_iconst (v := (4 : Int32)) hx hb dX9_drop_171 (by decide) ?_
              refine lv_aload_n hx hb dX9_drop_172 rfl (lv_at hl 2 rfl) ?_
              refine lv_iload_n hx hb dX9_drop_173 rfl (lv_at hl 3 rfl) ?_
              refine lv_lload_n hx hb dX9_drop_174 rfl (lv_at hl 4 rfl) ?_
              refine lv_iload hx hb dX9_drop_175 (lv_at hl 0 rfl) ?_
              refine lv_iconst (v := (4 : Int32)) hx hb dX9_drop_177 (by decide) ?_
              refine lv_idiv hx hb dX9_drop_178 (by decide) ?_
              obtain ⟨z179, hz179, ho162⟩ := bind_some ho162
              refine q_vi (As := [.int sq, .long t, .int (x6_162 / (4 : Int32))]) (rest := [.int (4 : Int32), .int (sq * (4096 : Int32)), .ref aRow]) ⟨hx, hb, hml, hown, hts⟩ (k_X9_nestOf l D g m_y e_y m_aSize e_aSize m_aSeed e_aSeed hz179) (cwV 3 hts gX9_drop_X9_nestOf rfl rfl rfl (by decide +kernel) ⟨Nat.le_of_ble_eq_true rfl, Nat.le_of_ble_eq_true rfl⟩) S m_y e_y (T := TX9) (N := 23) rfl rfl hl.1 rfl (Nat.le_of_ble_eq_true rfl) dX9_drop_179 ⟨Nat.le_of_ble_eq_true rfl, Nat.le_of_ble_eq_true rfl⟩ (fun r18 L16 f17 H locs S w179 => ?_)
              obtain ⟨ex179, eL, ef⟩ := w179
              rw [eL, ef] at S
              replace ex179 := ex179.symm
              subst ex179
              refine lv_imul hx hb dX9_drop_182 ?_
              refine lv_iadd hx hb dX9_drop_183 ?_
              refine lv_iload hx hb dX9_drop_184 (lv_at hl 0 rfl) ?_
              refine lv_iconst (v := (4 : Int32)) hx hb dX9_drop_186 (by decide) ?_
              refine lv_irem hx hb dX9_drop_187 (by decide) ?_
              refine W.eq (g2 := F0 m 188 ls [.int (irm x6_162 (4 : Int32)), .int ((sq * (4096 : Int32)) + ((4 : Int32) * z179)), .ref aRow]) rfl ?_
              refine lv_iadd hx hb dX9_drop_188 ?_
              obtain ⟨hi189, ho162⟩ := ckx ho162
              refine q_iald hx hb S m_aRow e_aRow hi189 dX9_drop_189 ?_
              refine lv_lload hx hb dX9_drop_190 (lv_at hl 1 rfl) ?_
              obtain ⟨z192, hz192, ho162⟩ := bind_some ho162
              refine q_si (As := [.long z52]) (rest := [.int (vRow (Int32.toNatClampNeg (((sq * (4096 : Int32)) + ((4 : Int32) * z179)) + (irm x6_162 (4 : Int32)))))]) ⟨hx, hb, hml, hown, hts⟩ (k_X9_tagOf l D g hz192) (va_cwS 1 hts gX9_drop_X9_tagOf rfl rfl rfl (by decide +kernel) ⟨Nat.le_of_ble_eq_true rfl, Nat.le_of_ble_eq_true rfl⟩) S rfl hl.1 rfl (Nat.le_of_ble_eq_true rfl) dX9_drop_192 ⟨Nat.le_of_ble_eq_true rfl, Nat.le_of_ble_eq_true rfl⟩ (fun r21 L19 f20 H locs S w192 => ?_)
              obtain ⟨ex192, eL, ef⟩ := w192
              rw [eL, ef] at S
              replace ex192 := ex192.symm
              subst ex192
              refine lv_icmp_eq (tgt := 204) hx hb dX9_drop_195 (by decide) (fun b195 => ?_) (fun b195 => ?_)
              · have ho162 := itT b195 ho162
                obtain rfl := Option.some.inj ho162
                exact EX162 _ _ _ S (lv_sub hl [0, 2, 3, 4] rfl)
              · have ho162 := itF b195 ho162
                refine lv_iinc (v := (x6_162 + 1)) (lv' := [(6, .int (x6_162 + 1)), (4, .long z52), (0, .ref y), (1, .int sq), (2, .long t)]) hx hb dX9_drop_198 hl (k := 0) rfl rfl (by decide) rfl (fun ls hl => ?_)
                refine lv_goto (tgt := 162) hx hb dX9_drop_201 (by decide) ?_
                exact ih162 (x6_162 + 1) _ _ _ ho162 S (lv_sub hl [0, 1, 2, 3, 4] rfl)
          exact LP162 FU (0 : Int32) _ _ _ ho162 S (lv_sub hl [0, 1, 2, 3, 4] rfl)
        · have hM := itT b64 hM
          refine lv_iconst (v := (0 : Int32)) hx hb dX9_drop_67 (by decide) ?_
          refine lv_istore (lv' := [(6, .int (0 : Int32)), (4, .long z52), (0, .ref y), (1, .int sq), (2, .long t)]) hx hb dX9_drop_68 hl (by decide) rfl (fun ls hl => ?_)
          obtain ⟨o70, ho70, hM⟩ := bind_some hM
          have EX70 : ∀ (fl70 : Nat → va_E) (H : Heap) (locs : List Loc) (ls : Array Slot), PS D g (va_A (va_pl L f) szz) s.heap s L fl70 H locs → fl70 y = .inr (7, [.ref aWorlds, .ref aInWorld, .ref aKind, .ref aSize, .ref aMarks, .ref aSeed, .ref aContents, .ref aContentMany, .ref aRow, .ref aBits, .ref aLayerSize, .ref aLayerCame, .ref aRest, .ref aRestMany, .int many, .ref aCome, .ref aRivals, .ref aGone, .ref aOrder, .ref aOffAt, .ref aIsOff, .ref aAlone, .ref aKept]) → fl70 aWorlds = .inl (g 1, 8000, .inr (.inl vWorlds)) → fl70 aInWorld = .inl (g 0, 8, .inl vInWorld) → fl70 aKind = .inl (g 0, 30, .inl vKind) → fl70 aSize = .inl (g 0, 30, .inl vSize) → fl70 aMarks = .inl (g 0, 30, .inl vMarks) → fl70 aSeed = .inl (g 0, 30, .inl vSeed) → fl70 aContents = .inl (g 1, 30000, .inr (.inl vContents)) → fl70 aContentMany = .inl (g 0, 30, .inl vContentMany) → fl70 aRow = .inl (g 0, 122880, .inl o70.2) → fl70 aBits = .inl (g 0, 76800, .inl vBits) → fl70 aLayerSize = .inl (g 0, 600, .inl vLayerSize) → fl70 aLayerCame = .inl (g 0, 600, .inl vLayerCame) → fl70 aRest = .inl (g 1, 30000, .inr (.inl vRest)) → fl70 aRestMany = .inl (g 0, 30, .inl vRestMany) → fl70 aCome = .inl (g 1, 1000, .inr (.inl vCome)) → fl70 aRivals = .inl (g 1, 1000, .inr (.inl vRivals)) → fl70 aGone = .inl (g 1, 1000, .inr (.inl vGone)) → fl70 aOrder = .inl (g 0, 1000, .inl vOrder) → fl70 aOffAt = .inl (g 0, 1000, .inl vOffAt) → fl70 aIsOff = .inl (g 2, 1000, .inl vIsOff) → fl70 aAlone = .inl (g 0, 4096, .inl vAlone) → fl70 aKept = .inl (g 0, 4096, .inl vKept) → (∀ b, b ∈ L → b ≠ aContents → b ≠ aContentMany → b ≠ aRow → fl70 b = f b) → lv_has ls 8 [(0, .ref y), (1, .int sq), (2, .long t)] → W p l e { frames := 4, cells := 0, slots := 0, locals := 110 } s m [.ref y, .int sq, .long t].toArray below meth c H locs 0 0 QQ (F0 m 156 ls []) := by
            intro fl70 H locs ls S e_y e_aWorlds e_aInWorld e_aKind e_aSize e_aMarks e_aSeed e_aContents e_aContentMany e_aRow e_aBits e_aLayerSize e_aLayerCame e_aRest e_aRestMany e_aCome e_aRivals e_aGone e_aOrder e_aOffAt e_aIsOff e_aAlone e_aKept fr hl
            refine lv_goto (tgt := 233) hx hb dX9_drop_156 (by decide) ?_
            refine lv_iconst (v := (0 : Int32)) hx hb dX9_drop_233 (by decide) ?_
            refine lv_istore (lv' := [(6, .int (0 : Int32)), (0, .ref y), (1, .int sq), (2, .long t)]) hx hb dX9_drop_234 hl (by decide) rfl (fun ls hl => ?_)
            obtain ⟨o236, ho236, hM⟩ := bind_some hM
            have EX236 : ∀ (H : Heap) (locs : List Loc) (ls : Array Slot), PS D g (va_A (va_pl L f) szz) s.heap s L fl70 H locs → lv_has ls 8 [(6, .int o236), (0, .ref y), (1, .int sq)] → W p l e { frames := 4, cells := 0, slots := 0, locals := 110 } s m [.ref y, .int sq, .long t].toArray below meth c H locs 0 0 QQ (F0 m 271 ls []) := by
              intro H locs ls S hl
              refine lv_iload hx hb dX9_drop_271 (lv_at hl 0 rfl) ?_
              refine lv_aload_n hx hb dX9_drop_273 rfl (lv_at hl 1 rfl) ?_
              refine q_get hx hb hts in_X9 hown S m_y e_y (C := RX9) (T := TX9) (N := 23) rfl 7 (by decide) rfl (hts (.fieldLink RX9 32 "SieveCabinetModel" "contentMany" "[I") (gu_wsX9_drop_1 _ gm_5)) dX9_drop_274 ?_
              refine lv_iload_n hx hb dX9_drop_277 rfl (lv_at hl 2 rfl) ?_
              obtain ⟨hi278, hM⟩ := ckx hM
              refine q_iald hx hb S m_aContentMany e_aContentMany hi278 dX9_drop_278 ?_
              refine lv_icmp_ge (tgt := 322) hx hb dX9_drop_279 (by decide) (fun b279 => ?_) (fun b279 => ?_)
              · have hM := itT b279 hM
                refine lv_aload_n hx hb dX9_drop_322 rfl (lv_at hl 1 rfl) ?_
                refine q_get hx hb hts in_X9 hown S m_y e_y (C := RX9) (T := TX9) (N := 23) rfl 7 (by decide) rfl (hts (.fieldLink RX9 32 "SieveCabinetModel" "contentMany" "[I") (gu_wsX9_drop_1 _ gm_5)) dX9_drop_323 ?_
                refine lv_iload_n hx hb dX9_drop_326 rfl (lv_at hl 2 rfl) ?_
                obtain ⟨hi327, hM⟩ := ckx hM
                refine q_iald hx hb S m_aContentMany e_aContentMany hi327 dX9_drop_327 ?_
                subst hQQ
                exact q_reti (post := fun x L1 f1 => x = z.1 ∧ L1 = L ∧ (∀ b, b ∈ L → b ≠ aContents → b ≠ aContentMany → b ≠ aRow → f1 b = f b) ∧ f1 aContents = .inl (g 1, 30000, .inr (.inl z.2.1)) ∧ f1 aContentMany = .inl (g 0, 30, .inl z.2.2.1) ∧ f1 aRow = .inl (g 0, 122880, .inl z.2.2.2)) hx hb hr hlk S dX9_drop_328 (by decide) (by decide) (by have hz := Option.some.inj hM; subst hz; exact ⟨rfl, rfl, fr, e_aContents, e_aContentMany, e_aRow⟩)
              · have hM := itF b279 hM
                refine lv_aload_n hx hb dX9_drop_282 rfl (lv_at hl 1 rfl) ?_
                refine q_get hx hb hts in_X9 hown S m_y e_y (C := RX9) (T := TX9) (N := 23) rfl 7 (by decide) rfl (hts (.fieldLink RX9 32 "SieveCabinetModel" "contentMany" "[I") (gu_wsX9_drop_1 _ gm_5)) dX9_drop_283 ?_
                refine lv_iload_n hx hb dX9_drop_286 rfl (lv_at hl 2 rfl) ?_
                refine lv_dup2_11 hx hb dX9_drop_287 rfl rfl ?_
                obtain ⟨hi288, hM⟩ := ckx hM
                refine q_iald hx hb S m_aContentMany e_aContentMany hi288 dX9_drop_288 ?_
                refine lv_iconst (v := (1 : Int32)) hx hb dX9_drop_289 (by decide) ?_
                refine lv_isub hx hb dX9_drop_290 ?_
                obtain ⟨hi291, hM⟩ := ckx hM
                refine k_iast hx hb S m_aContentMany e_aContentMany hi291 dX9_drop_291 (fun f22 ef22 H locs S => ?_)
                have e_aContentMany := up_self ef22
                have fr : ∀ b, b ∈ L → b ≠ aContents → b ≠ aContentMany → b ≠ aRow → f22 b = f b := fun b mb nb0 nb1 nb2 => (up_ne ef22 nb1 rfl).trans (fr b mb nb0 nb1 nb2)
                refine lv_aload_n hx hb dX9_drop_292 rfl (lv_at hl 1 rfl) ?_
                have e_y := (up_ne ef22 n_y_aContentMany e_y)
                refine q_get hx hb hts in_X9 hown S m_y e_y (C := RX9) (T := TX9) (N := 23) rfl 6 (by decide) rfl (hts (.fieldLink RX9 29 "SieveCabinetModel" "contents" "[J") (gu_wsX9_drop_1 _ gm_6)) dX9_drop_293 ?_
                refine lv_iload_n hx hb dX9_drop_296 rfl (lv_at hl 2 rfl) ?_
                refine lv_sipush (v := (1000 : Int32)) hx hb dX9_drop_297 (by decide) ?_
                refine lv_imul hx hb dX9_drop_300 ?_
                refine lv_iload hx hb dX9_drop_301 (lv_at hl 0 rfl) ?_
                refine lv_iadd hx hb dX9_drop_303 ?_
                refine lv_aload_n hx hb dX9_drop_304 rfl (lv_at hl 1 rfl) ?_
                refine q_get hx hb hts in_X9 hown S m_y e_y (C := RX9) (T := TX9) (N := 23) rfl 6 (by decide) rfl (hts (.fieldLink RX9 29 "SieveCabinetModel" "contents" "[J") (gu_wsX9_drop_1 _ gm_6)) dX9_drop_305 ?_
                refine lv_iload_n hx hb dX9_drop_308 rfl (lv_at hl 2 rfl) ?_
                refine lv_sipush (v := (1000 : Int32)) hx hb dX9_drop_309 (by decide) ?_
                refine lv_imul hx hb dX9_drop_312 ?_
                refine lv_aload_n hx hb dX9_drop_313 rfl (lv_at hl 1 rfl) ?_
                refine q_get hx hb hts in_X9 hown S m_y e_y (C := RX9) (T := TX9) (N := 23) rfl 7 (by decide) rfl (hts (.fieldLink RX9 32 "SieveCabinetModel" "contentMany" "[I") (gu_wsX9_drop_1 _ gm_5)) dX9_drop_314 ?_
                refine lv_iload_n hx hb dX9_drop_317 rfl (lv_at hl 2 rfl) ?_
                obtain ⟨hi318, hM⟩ := ckx hM
                refine q_iald hx hb S m_aContentMany e_aContentMany hi318 dX9_drop_318 ?_
                refine lv_iadd hx hb dX9_drop_319 ?_
                obtain ⟨hi320, hM⟩ := ckx hM
                have e_aContents := (up_ne ef22 n_aContents_aContentMany e_aContents)
                refine q_lald hx hb S m_aContents e_aContents hi320 dX9_drop_320 ?_
                obtain ⟨hi321, hM⟩ := ckx hM
                refine k_last hx hb S m_aContents e_aContents hi321 dX9_drop_321 (fun f23 ef23 H locs S => ?_)
                have e_aContents := up_self ef23
                have fr : ∀ b, b ∈ L → b ≠ aContents → b ≠ aContentMany → b ≠ aRow → f23 b = f b := fun b mb nb0 nb1 nb2 => (up_ne ef23 nb0 rfl).trans (fr b mb nb0 nb1 nb2)
                refine lv_aload_n hx hb dX9_drop_322 rfl (lv_at hl 1 rfl) ?_
                have e_y := (up_ne ef23 n_y_aContents e_y)
                refine q_get hx hb hts in_X9 hown S m_y e_y (C := RX9) (T := TX9) (N := 23) rfl 7 (by decide) rfl (hts (.fieldLink RX9 32 "SieveCabinetModel" "contentMany" "[I") (gu_wsX9_drop_1 _ gm_5)) dX9_drop_323 ?_
                refine lv_iload_n hx hb dX9_drop_326 rfl (lv_at hl 2 rfl) ?_
                obtain ⟨hi327, hM⟩ := ckx hM
                have e_aContentMany := (up_ne ef23 n_aContentMany_aContents e_aContentMany)
                refine q_iald hx hb S m_aContentMany e_aContentMany hi327 dX9_drop_327 ?_
                have e_aRow := (up_ne ef23 n_aRow_aContents (up_ne ef22 n_aRow_aContentMany e_aRow))
                subst hQQ
                exact q_reti (post := fun x L1 f1 => x = z.1 ∧ L1 = L ∧ (∀ b, b ∈ L → b ≠ aContents → b ≠ aContentMany → b ≠ aRow → f1 b = f b) ∧ f1 aContents = .inl (g 1, 30000, .inr (.inl z.2.1)) ∧ f1 aContentMany = .inl (g 0, 30, .inl z.2.2.1) ∧ f1 aRow = .inl (g 0, 122880, .inl z.2.2.2)) hx hb hr hlk S dX9_drop_328 (by decide) (by decide) (by have hz := Option.some.inj hM; subst hz; exact ⟨rfl, rfl, fr, e_aContents, e_aContentMany, e_aRow⟩)
            have LP236 : ∀ (fu : Nat) (x6_236 : Int32) (H : Heap) (locs : List Loc) (ls : Array Slot), (mX9_drop_L236 vContents vContentMany sq t) fu x6_236 = some o236 → PS D g (va_A (va_pl L f) szz) s.heap s L fl70 H locs → lv_has ls 8 [(6, .int x6_236), (0, .ref y), (1, .int sq), (2, .long t)] → W p l e { frames := 4, cells := 0, slots := 0, locals := 110 } s m [.ref y, .int sq, .long t].toArray below meth c H locs 0 0 QQ (F0 m 236 ls []) := by
              intro fu
              induction fu with
              | zero => intro x6_236 H locs ls ho236 S hl; exact no_some ho236
              | succ fu ih236 =>
                intro x6_236 H locs ls ho236 S hl
                rw [mX9_drop_L236] at ho236
                refine lv_iload hx hb dX9_drop_236 (lv_at hl 0 rfl) ?_
                refine lv_aload_n hx hb dX9_drop_238 rfl (lv_at hl 1 rfl) ?_
                refine q_get hx hb hts in_X9 hown S m_y e_y (C := RX9) (T := TX9) (N := 23) rfl 7 (by decide) rfl (hts (.fieldLink RX9 32 "SieveCabinetModel" "contentMany" "[I") (gu_wsX9_drop_1 _ gm_5)) dX9_drop_239 ?_
                refine lv_iload_n hx hb dX9_drop_242 rfl (lv_at hl 2 rfl) ?_
                obtain ⟨hi243, ho236⟩ := ckx ho236
                refine q_iald hx hb S m_aContentMany e_aContentMany hi243 dX9_drop_243 ?_
                refine lv_icmp_ge (tgt := 271) hx hb dX9_drop_244 (by decide) (fun b244 => ?_) (fun b244 => ?_)
                · have ho236 := itT b244 ho236
                  obtain rfl := Option.some.inj ho236
                  exact EX236 _ _ _ S (lv_sub hl [0, 1, 2] rfl)
                · have ho236 := itF b244 ho236
                  refine lv_aload_n hx hb dX9_drop_247 rfl (lv_at hl 1 rfl) ?_
                  refine q_get hx hb hts in_X9 hown S m_y e_y (C := RX9) (T := TX9) (N := 23) rfl 6 (by decide) rfl (hts (.fieldLink RX9 29 "SieveCabinetModel" "contents" "[J") (gu_wsX9_drop_1 _ gm_6)) dX9_drop_248 ?_
                  refine lv_iload_n hx hb dX9_drop_251 rfl (lv_at hl 2 rfl) ?_
                  refine lv_sipush (v := (1000 : Int32)) hx hb dX9_drop_252 (by decide) ?_
                  refine lv_imul hx hb dX9_drop_255 ?_
                  refine lv_iload hx hb dX9_drop_256 (lv_at hl 0 rfl) ?_
                  refine lv_iadd hx hb dX9_drop_258 ?_
                  obtain ⟨hi259, ho236⟩ := ckx ho236
                  refine q_lald hx hb S m_aContents e_aContents hi259 dX9_drop_259 ?_
                  refine lv_lload_n hx hb dX9_drop_260 rfl (lv_at hl 3 rfl) ?_
                  refine W.lcmp hx hb dX9_drop_261 ?_
                  refine lv_if_eq (tgt := 271) hx hb dX9_drop_262 (by decide) (fun b262 => ?_) (fun b262 => ?_)
                  · have ho236 := itT b262 ho236
                    obtain rfl := Option.some.inj ho236
                    exact EX236 _ _ _ S (lv_sub hl [0, 1, 2] rfl)
                  · have ho236 := itF b262 ho236
                    refine lv_iinc (v := (x6_236 + 1)) (lv' := [(6, .int (x6_236 + 1)), (0, .ref y), (1, .int sq), (2, .long t)]) hx hb dX9_drop_265 hl (k := 0) rfl rfl (by decide) rfl (fun ls hl => ?_)
                    refine lv_goto (tgt := 236) hx hb dX9_drop_268 (by decide) ?_
                    exact ih236 (x6_236 + 1) _ _ _ ho236 S (lv_sub hl [0, 1, 2, 3] rfl)
            exact LP236 FU (0 : Int32) _ _ _ ho236 S (lv_sub hl [0, 1, 2, 3] rfl)
          have LP70 : ∀ (fu : Nat) (x6_70 : Int32) (caRow_70 : Nat → Int32) (fl70 : Nat → va_E) (H : Heap) (locs : List Loc) (ls : Array Slot), (mX9_drop_L70 vSize vMarks sq z52) fu x6_70 caRow_70 = some o70 → PS D g (va_A (va_pl L f) szz) s.heap s L fl70 H locs → fl70 y = .inr (7, [.ref aWorlds, .ref aInWorld, .ref aKind, .ref aSize, .ref aMarks, .ref aSeed, .ref aContents, .ref aContentMany, .ref aRow, .ref aBits, .ref aLayerSize, .ref aLayerCame, .ref aRest, .ref aRestMany, .int many, .ref aCome, .ref aRivals, .ref aGone, .ref aOrder, .ref aOffAt, .ref aIsOff, .ref aAlone, .ref aKept]) → fl70 aWorlds = .inl (g 1, 8000, .inr (.inl vWorlds)) → fl70 aInWorld = .inl (g 0, 8, .inl vInWorld) → fl70 aKind = .inl (g 0, 30, .inl vKind) → fl70 aSize = .inl (g 0, 30, .inl vSize) → fl70 aMarks = .inl (g 0, 30, .inl vMarks) → fl70 aSeed = .inl (g 0, 30, .inl vSeed) → fl70 aContents = .inl (g 1, 30000, .inr (.inl vContents)) → fl70 aContentMany = .inl (g 0, 30, .inl vContentMany) → fl70 aRow = .inl (g 0, 122880, .inl caRow_70) → fl70 aBits = .inl (g 0, 76800, .inl vBits) → fl70 aLayerSize = .inl (g 0, 600, .inl vLayerSize) → fl70 aLayerCame = .inl (g 0, 600, .inl vLayerCame) → fl70 aRest = .inl (g 1, 30000, .inr (.inl vRest)) → fl70 aRestMany = .inl (g 0, 30, .inl vRestMany) → fl70 aCome = .inl (g 1, 1000, .inr (.inl vCome)) → fl70 aRivals = .inl (g 1, 1000, .inr (.inl vRivals)) → fl70 aGone = .inl (g 1, 1000, .inr (.inl vGone)) → fl70 aOrder = .inl (g 0, 1000, .inl vOrder) → fl70 aOffAt = .inl (g 0, 1000, .inl vOffAt) → fl70 aIsOff = .inl (g 2, 1000, .inl vIsOff) → fl70 aAlone = .inl (g 0, 4096, .inl vAlone) → fl70 aKept = .inl (g 0, 4096, .inl vKept) → (∀ b, b ∈ L → b ≠ aContents → b ≠ aContentMany → b ≠ aRow → fl70 b = f b) → lv_has ls 8 [(6, .int x6_70), (4, .long z52), (0, .ref y), (1, .int sq), (2, .long t)] → W p l e { frames := 4, cells := 0, slots := 0, locals := 110 } s m [.ref y, .int sq, .long t].toArray below meth c H locs 0 0 QQ (F0 m 70 ls []) := by
            intro fu
            induction fu with
            | zero => intro x6_70 caRow_70 fl70 H locs ls ho70 S e_y e_aWorlds e_aInWorld e_aKind e_aSize e_aMarks e_aSeed e_aContents e_aContentMany e_aRow e_aBits e_aLayerSize e_aLayerCame e_aRest e_aRestMany e_aCome e_aRivals e_aGone e_aOrder e_aOffAt e_aIsOff e_aAlone e_aKept fr hl; exact no_some ho70
            | succ fu ih70 =>
              intro x6_70 caRow_70 fl70 H locs ls ho70 S e_y e_aWorlds e_aInWorld e_aKind e_aSize e_aMarks e_aSeed e_aContents e_aContentMany e_aRow e_aBits e_aLayerSize e_aLayerCame e_aRest e_aRestMany e_aCome e_aRivals e_aGone e_aOrder e_aOffAt e_aIsOff e_aAlone e_aKept fr hl
              rw [mX9_drop_L70] at ho70
              refine lv_iload hx hb dX9_drop_70 (lv_at hl 0 rfl) ?_
              refine lv_aload_n hx hb dX9_drop_72 rfl (lv_at hl 2 rfl) ?_
              refine q_get hx hb hts in_X9 hown S m_y e_y (C := RX9) (T := TX9) (N := 23) rfl 4 (by decide) rfl (hts (.fieldLink RX9 23 "SieveCabinetModel" "marks" "[I") (gu_wsX9_drop_1 _ gm_2)) dX9_drop_73 ?_
              refine lv_iload_n hx hb dX9_drop_76 rfl (lv_at hl 3 rfl) ?_
              obtain ⟨hi77, ho70⟩ := ckx ho70
              refine q_iald hx hb S m_aMarks e_aMarks hi77 dX9_drop_77 ?_
              refine lv_icmp_ge (tgt := 156) hx hb dX9_drop_78 (by decide) (fun b78 => ?_) (fun b78 => ?_)
              · have ho70 := itT b78 ho70
                obtain rfl := Option.some.inj ho70
                exact EX70 fl70 _ _ _ S e_y e_aWorlds e_aInWorld e_aKind e_aSize e_aMarks e_aSeed e_aContents e_aContentMany e_aRow e_aBits e_aLayerSize e_aLayerCame e_aRest e_aRestMany e_aCome e_aRivals e_aGone e_aOrder e_aOffAt e_aIsOff e_aAlone e_aKept fr (lv_sub hl [2, 3, 4] rfl)
              · have ho70 := itF b78 ho70
                refine lv_iload_n hx hb dX9_drop_81 rfl (lv_at hl 3 rfl) ?_
                refine lv_sipush (v := (4096 : Int32)) hx hb dX9_drop_82 (by decide) ?_
                refine lv_imul hx hb dX9_drop_85 ?_
                refine lv_lload hx hb dX9_drop_86 (lv_at hl 1 rfl) ?_
                refine lv_iload hx hb dX9_drop_88 (lv_at hl 0 rfl) ?_
                refine lv_aload_n hx hb dX9_drop_90 rfl (lv_at hl 2 rfl) ?_
                refine q_get hx hb hts in_X9 hown S m_y e_y (C := RX9) (T := TX9) (N := 23) rfl 3 (by decide) rfl (hts (.fieldLink RX9 20 "SieveCabinetModel" "size" "[I") (gu_wsX9_drop_1 _ gm_3)) dX9_drop_91 ?_
                refine lv_iload_n hx hb dX9_drop_94 rfl (lv_at hl 3 rfl) ?_
                obtain ⟨hi95, ho70⟩ := ckx ho70
                refine q_iald hx hb S m_aSize e_aSize hi95 dX9_drop_95 ?_
                obtain ⟨z96, hz96, ho70⟩ := bind_some ho70
                refine q_si (As := [.long z52, .int x6_70, .int (vSize (Int32.toNatClampNeg sq))]) (rest := [.int (sq * (4096 : Int32))]) ⟨hx, hb, hml, hown, hts⟩ (k_X9_markOf l D g hz96) (va_cwS 3 hts gX9_drop_X9_markOf rfl rfl rfl (by decide +kernel) ⟨Nat.le_of_ble_eq_true rfl, Nat.le_of_ble_eq_true rfl⟩) S rfl hl.1 rfl (Nat.le_of_ble_eq_true rfl) dX9_drop_96 ⟨Nat.le_of_ble_eq_true rfl, Nat.le_of_ble_eq_true rfl⟩ (fun r26 L24 f25 H locs S w96 => ?_)
                obtain ⟨ex96, eL, ef⟩ := w96
                rw [eL, ef] at S
                replace ex96 := ex96.symm
                subst ex96
                refine lv_iadd hx hb dX9_drop_99 ?_
                refine lv_istore (lv' := [(7, .int ((sq * (4096 : Int32)) + z96)), (6, .int x6_70), (4, .long z52), (0, .ref y), (1, .int sq), (2, .long t)]) hx hb dX9_drop_100 hl (by decide) rfl (fun ls hl => ?_)
                refine lv_aload_n hx hb dX9_drop_102 rfl (lv_at hl 3 rfl) ?_
                refine q_get hx hb hts in_X9 hown S m_y e_y (C := RX9) (T := TX9) (N := 23) rfl 8 (by decide) rfl (hts (.fieldLink RX9 36 "SieveCabinetModel" "row" "[I") (gu_wsX9_drop_1 _ gm_4)) dX9_drop_103 ?_
                refine lv_iload hx hb dX9_drop_106 (lv_at hl 0 rfl) ?_
                refine lv_aload_n hx hb dX9_drop_108 rfl (lv_at hl 3 rfl) ?_
                refine q_get hx hb hts in_X9 hown S m_y e_y (C := RX9) (T := TX9) (N := 23) rfl 8 (by decide) rfl (hts (.fieldLink RX9 36 "SieveCabinetModel" "row" "[I") (gu_wsX9_drop_1 _ gm_4)) dX9_drop_109 ?_
                refine lv_iload hx hb dX9_drop_112 (lv_at hl 0 rfl) ?_
                obtain ⟨hi114, ho70⟩ := ckx ho70
                refine q_iald hx hb S m_aRow e_aRow hi114 dX9_drop_114 ?_
                refine lv_bipush (v := (15 : Int32)) hx hb dX9_drop_115 (by decide) ?_
                refine lv_icmp_eq (tgt := 130) hx hb dX9_drop_117 (by decide) (fun b117 => ?_) (fun b117 => ?_)
                · have ho70 := itT b117 ho70
                  refine lv_aload_n hx hb dX9_drop_130 rfl (lv_at hl 3 rfl) ?_
                  refine q_get hx hb hts in_X9 hown S m_y e_y (C := RX9) (T := TX9) (N := 23) rfl 8 (by decide) rfl (hts (.fieldLink RX9 36 "SieveCabinetModel" "row" "[I") (gu_wsX9_drop_1 _ gm_4)) dX9_drop_131 ?_
                  refine lv_iload hx hb dX9_drop_134 (lv_at hl 0 rfl) ?_
                  obtain ⟨hi136, ho70⟩ := ckx ho70
                  refine q_iald hx hb S m_aRow e_aRow hi136 dX9_drop_136 ?_
                  refine lv_goto (tgt := 149) hx hb dX9_drop_137 (by decide) ?_
                  obtain ⟨hi149, ho70⟩ := ckx ho70
                  refine k_iast hx hb S m_aRow e_aRow hi149 dX9_drop_149 (fun f27 ef27 H locs S => ?_)
                  have e_aRow := up_self ef27
                  have fr : ∀ b, b ∈ L → b ≠ aContents → b ≠ aContentMany → b ≠ aRow → f27 b = f b := fun b mb nb0 nb1 nb2 => (up_ne ef27 nb2 rfl).trans (fr b mb nb0 nb1 nb2)
                  refine lv_iinc (v := (x6_70 + 1)) (lv' := [(6, .int (x6_70 + 1)), (7, .int ((sq * (4096 : Int32)) + z96)), (4, .long z52), (0, .ref y), (1, .int sq), (2, .long t)]) hx hb dX9_drop_150 hl (k := 1) rfl rfl (by decide) rfl (fun ls hl => ?_)
                  refine lv_goto (tgt := 70) hx hb dX9_drop_153 (by decide) ?_
                  have e_y := (up_ne ef27 n_y_aRow e_y)
                  have e_aWorlds := (up_ne ef27 n_aWorlds_aRow e_aWorlds)
                  have e_aInWorld := (up_ne ef27 n_aInWorld_aRow e_aInWorld)
                  have e_aKind := (up_ne ef27 n_aKind_aRow e_aKind)
                  have e_aSize := (up_ne ef27 n_aSize_aRow e_aSize)
                  have e_aMarks := (up_ne ef27 n_aMarks_aRow e_aMarks)
                  have e_aSeed := (up_ne ef27 n_aSeed_aRow e_aSeed)
                  have e_aContents := (up_ne ef27 n_aContents_aRow e_aContents)
                  have e_aContentMany := (up_ne ef27 n_aContentMany_aRow e_aContentMany)
                  have e_aBits := (up_ne ef27 n_aBits_aRow e_aBits)
                  have e_aLayerSize := (up_ne ef27 n_aLayerSize_aRow e_aLayerSize)
                  have e_aLayerCame := (up_ne ef27 n_aLayerCame_aRow e_aLayerCame)
                  have e_aRest := (up_ne ef27 n_aRest_aRow e_aRest)
                  have e_aRestMany := (up_ne ef27 n_aRestMany_aRow e_aRestMany)
                  have e_aCome := (up_ne ef27 n_aCome_aRow e_aCome)
                  have e_aRivals := (up_ne ef27 n_aRivals_aRow e_aRivals)
                  have e_aGone := (up_ne ef27 n_aGone_aRow e_aGone)
                  have e_aOrder := (up_ne ef27 n_aOrder_aRow e_aOrder)
                  have e_aOffAt := (up_ne ef27 n_aOffAt_aRow e_aOffAt)
                  have e_aIsOff := (up_ne ef27 n_aIsOff_aRow e_aIsOff)
                  have e_aAlone := (up_ne ef27 n_aAlone_aRow e_aAlone)
                  have e_aKept := (up_ne ef27 n_aKept_aRow e_aKept)
                  exact ih70 (x6_70 + 1) (upd caRow_70 (Int32.toNatClampNeg ((sq * (4096 : Int32)) + z96)) (caRow_70 (Int32.toNatClampNeg ((sq * (4096 : Int32)) + z96)))) f27 _ _ _ ho70 S e_y e_aWorlds e_aInWorld e_aKind e_aSize e_aMarks e_aSeed e_aContents e_aContentMany e_aRow e_aBits e_aLayerSize e_aLayerCame e_aRest e_aRestMany e_aCome e_aRivals e_aGone e_aOrder e_aOffAt e_aIsOff e_aAlone e_aKept fr (lv_sub hl [0, 2, 3, 4, 5] rfl)
                · have ho70 := itF b117 ho70
                  refine lv_aload_n hx hb dX9_drop_120 rfl (lv_at hl 3 rfl) ?_
                  refine q_get hx hb hts in_X9 hown S m_y e_y (C := RX9) (T := TX9) (N := 23) rfl 8 (by decide) rfl (hts (.fieldLink RX9 36 "SieveCabinetModel" "row" "[I") (gu_wsX9_drop_1 _ gm_4)) dX9_drop_121 ?_
                  refine lv_iload hx hb dX9_drop_124 (lv_at hl 0 rfl) ?_
                  obtain ⟨hi126, ho70⟩ := ckx ho70
                  refine q_iald hx hb S m_aRow e_aRow hi126 dX9_drop_126 ?_
                  refine lv_if_ne (tgt := 140) hx hb dX9_drop_127 (by decide) (fun b127 => ?_) (fun b127 => ?_)
                  · have ho70 := itF b127 ho70
                    refine lv_aload_n hx hb dX9_drop_140 rfl (lv_at hl 3 rfl) ?_
                    refine q_get hx hb hts in_X9 hown S m_y e_y (C := RX9) (T := TX9) (N := 23) rfl 8 (by decide) rfl (hts (.fieldLink RX9 36 "SieveCabinetModel" "row" "[I") (gu_wsX9_drop_1 _ gm_4)) dX9_drop_141 ?_
                    refine lv_iload hx hb dX9_drop_144 (lv_at hl 0 rfl) ?_
                    obtain ⟨hi146, ho70⟩ := ckx ho70
                    refine q_iald hx hb S m_aRow e_aRow hi146 dX9_drop_146 ?_
                    refine lv_iconst (v := (1 : Int32)) hx hb dX9_drop_147 (by decide) ?_
                    refine lv_isub hx hb dX9_drop_148 ?_
                    obtain ⟨hi149, ho70⟩ := ckx ho70
                    refine k_iast hx hb S m_aRow e_aRow hi149 dX9_drop_149 (fun f28 ef28 H locs S => ?_)
                    have e_aRow := up_self ef28
                    have fr : ∀ b, b ∈ L → b ≠ aContents → b ≠ aContentMany → b ≠ aRow → f28 b = f b := fun b mb nb0 nb1 nb2 => (up_ne ef28 nb2 rfl).trans (fr b mb nb0 nb1 nb2)
                    refine lv_iinc (v := (x6_70 + 1)) (lv' := [(6, .int (x6_70 + 1)), (7, .int ((sq * (4096 : Int32)) + z96)), (4, .long z52), (0, .ref y), (1, .int sq), (2, .long t)]) hx hb dX9_drop_150 hl (k := 1) rfl rfl (by decide) rfl (fun ls hl => ?_)
                    refine lv_goto (tgt := 70) hx hb dX9_drop_153 (by decide) ?_
                    have e_y := (up_ne ef28 n_y_aRow e_y)
                    have e_aWorlds := (up_ne ef28 n_aWorlds_aRow e_aWorlds)
                    have e_aInWorld := (up_ne ef28 n_aInWorld_aRow e_aInWorld)
                    have e_aKind := (up_ne ef28 n_aKind_aRow e_aKind)
                    have e_aSize := (up_ne ef28 n_aSize_aRow e_aSize)
                    have e_aMarks := (up_ne ef28 n_aMarks_aRow e_aMarks)
                    have e_aSeed := (up_ne ef28 n_aSeed_aRow e_aSeed)
                    have e_aContents := (up_ne ef28 n_aContents_aRow e_aContents)
                    have e_aContentMany := (up_ne ef28 n_aContentMany_aRow e_aContentMany)
                    have e_aBits := (up_ne ef28 n_aBits_aRow e_aBits)
                    have e_aLayerSize := (up_ne ef28 n_aLayerSize_aRow e_aLayerSize)
                    have e_aLayerCame := (up_ne ef28 n_aLayerCame_aRow e_aLayerCame)
                    have e_aRest := (up_ne ef28 n_aRest_aRow e_aRest)
                    have e_aRestMany := (up_ne ef28 n_aRestMany_aRow e_aRestMany)
                    have e_aCome := (up_ne ef28 n_aCome_aRow e_aCome)
                    have e_aRivals := (up_ne ef28 n_aRivals_aRow e_aRivals)
                    have e_aGone := (up_ne ef28 n_aGone_aRow e_aGone)
                    have e_aOrder := (up_ne ef28 n_aOrder_aRow e_aOrder)
                    have e_aOffAt := (up_ne ef28 n_aOffAt_aRow e_aOffAt)
                    have e_aIsOff := (up_ne ef28 n_aIsOff_aRow e_aIsOff)
                    have e_aAlone := (up_ne ef28 n_aAlone_aRow e_aAlone)
                    have e_aKept := (up_ne ef28 n_aKept_aRow e_aKept)
                    exact ih70 (x6_70 + 1) (upd caRow_70 (Int32.toNatClampNeg ((sq * (4096 : Int32)) + z96)) ((caRow_70 (Int32.toNatClampNeg ((sq * (4096 : Int32)) + z96))) - (1 : Int32))) f28 _ _ _ ho70 S e_y e_aWorlds e_aInWorld e_aKind e_aSize e_aMarks e_aSeed e_aContents e_aContentMany e_aRow e_aBits e_aLayerSize e_aLayerCame e_aRest e_aRestMany e_aCome e_aRivals e_aGone e_aOrder e_aOffAt e_aIsOff e_aAlone e_aKept fr (lv_sub hl [0, 2, 3, 4, 5] rfl)
                  · have ho70 := itT b127 ho70
                    refine lv_aload_n hx hb dX9_drop_130 rfl (lv_at hl 3 rfl) ?_
                    refine q_get hx hb hts in_X9 hown S m_y e_y (C := RX9) (T := TX9) (N := 23) rfl 8 (by decide) rfl (hts (.fieldLink RX9 36 "SieveCabinetModel" "row" "[I") (gu_wsX9_drop_1 _ gm_4)) dX9_drop_131 ?_
                    refine lv_iload hx hb dX9_drop_134 (lv_at hl 0 rfl) ?_
                    obtain ⟨hi136, ho70⟩ := ckx ho70
                    refine q_iald hx hb S m_aRow e_aRow hi136 dX9_drop_136 ?_
                    refine lv_goto (tgt := 149) hx hb dX9_drop_137 (by decide) ?_
                    obtain ⟨hi149, ho70⟩ := ckx ho70
                    refine k_iast hx hb S m_aRow e_aRow hi149 dX9_drop_149 (fun f29 ef29 H locs S => ?_)
                    have e_aRow := up_self ef29
                    have fr : ∀ b, b ∈ L → b ≠ aContents → b ≠ aContentMany → b ≠ aRow → f29 b = f b := fun b mb nb0 nb1 nb2 => (up_ne ef29 nb2 rfl).trans (fr b mb nb0 nb1 nb2)
                    refine lv_iinc (v := (x6_70 + 1)) (lv' := [(6, .int (x6_70 + 1)), (7, .int ((sq * (4096 : Int32)) + z96)), (4, .long z52), (0, .ref y), (1, .int sq), (2, .long t)]) hx hb dX9_drop_150 hl (k := 1) rfl rfl (by decide) rfl (fun ls hl => ?_)
                    refine lv_goto (tgt := 70) hx hb dX9_drop_153 (by decide) ?_
                    have e_y := (up_ne ef29 n_y_aRow e_y)
                    have e_aWorlds := (up_ne ef29 n_aWorlds_aRow e_aWorlds)
                    have e_aInWorld := (up_ne ef29 n_aInWorld_aRow e_aInWorld)
                    have e_aKind := (up_ne ef29 n_aKind_aRow e_aKind)
                    have e_aSize := (up_ne ef29 n_aSize_aRow e_aSize)
                    have e_aMarks := (up_ne ef29 n_aMarks_aRow e_aMarks)
                    have e_aSeed := (up_ne ef29 n_aSeed_aRow e_aSeed)
                    have e_aContents := (up_ne ef29 n_aContents_aRow e_aContents)
                    have e_aContentMany := (up_ne ef29 n_aContentMany_aRow e_aContentMany)
                    have e_aBits := (up_ne ef29 n_aBits_aRow e_aBits)
                    have e_aLayerSize := (up_ne ef29 n_aLayerSize_aRow e_aLayerSize)
                    have e_aLayerCame := (up_ne ef29 n_aLayerCame_aRow e_aLayerCame)
                    have e_aRest := (up_ne ef29 n_aRest_aRow e_aRest)
                    have e_aRestMany := (up_ne ef29 n_aRestMany_aRow e_aRestMany)
                    have e_aCome := (up_ne ef29 n_aCome_aRow e_aCome)
                    have e_aRivals := (up_ne ef29 n_aRivals_aRow e_aRivals)
                    have e_aGone := (up_ne ef29 n_aGone_aRow e_aGone)
                    have e_aOrder := (up_ne ef29 n_aOrder_aRow e_aOrder)
                    have e_aOffAt := (up_ne ef29 n_aOffAt_aRow e_aOffAt)
                    have e_aIsOff := (up_ne ef29 n_aIsOff_aRow e_aIsOff)
                    have e_aAlone := (up_ne ef29 n_aAlone_aRow e_aAlone)
                    have e_aKept := (up_ne ef29 n_aKept_aRow e_aKept)
                    exact ih70 (x6_70 + 1) (upd caRow_70 (Int32.toNatClampNeg ((sq * (4096 : Int32)) + z96)) (caRow_70 (Int32.toNatClampNeg ((sq * (4096 : Int32)) + z96)))) f29 _ _ _ ho70 S e_y e_aWorlds e_aInWorld e_aKind e_aSize e_aMarks e_aSeed e_aContents e_aContentMany e_aRow e_aBits e_aLayerSize e_aLayerCame e_aRest e_aRestMany e_aCome e_aRivals e_aGone e_aOrder e_aOffAt e_aIsOff e_aAlone e_aKept fr (lv_sub hl [0, 2, 3, 4, 5] rfl)
          exact LP70 FU (0 : Int32) vRow f _ _ _ ho70 S e_y e_aWorlds e_aInWorld e_aKind e_aSize e_aMarks e_aSeed e_aContents e_aContentMany e_aRow e_aBits e_aLayerSize e_aLayerCame e_aRest e_aRestMany e_aCome e_aRivals e_aGone e_aOrder e_aOffAt e_aIsOff e_aAlone e_aKept fr (lv_sub hl [0, 1, 2, 3, 4] rfl)
      · have hM := itT b39 hM
        refine lv_bipush (v := (-5 : Int32)) hx hb dX9_drop_42 (by decide) ?_
        subst hQQ
        exact q_reti (post := fun x L1 f1 => x = z.1 ∧ L1 = L ∧ (∀ b, b ∈ L → b ≠ aContents → b ≠ aContentMany → b ≠ aRow → f1 b = f b) ∧ f1 aContents = .inl (g 1, 30000, .inr (.inl z.2.1)) ∧ f1 aContentMany = .inl (g 0, 30, .inl z.2.2.1) ∧ f1 aRow = .inl (g 0, 122880, .inl z.2.2.2)) hx hb hr hlk S dX9_drop_44 (by decide) (by decide) (by have hz := Option.some.inj hM; subst hz; exact ⟨rfl, rfl, fr, e_aContents, e_aContentMany, e_aRow⟩)
    · have hM := itF b17 hM
      refine lv_aload_n hx hb dX9_drop_20 rfl (lv_at hl 0 rfl) ?_
      refine q_get hx hb hts in_X9 hown S m_y e_y (C := RX9) (T := TX9) (N := 23) rfl 2 (by decide) rfl (hts (.fieldLink RX9 17 "SieveCabinetModel" "kind" "[I") (gu_wsX9_drop_1 _ gm_0)) dX9_drop_21 ?_
      refine lv_iload_n hx hb dX9_drop_24 rfl (lv_at hl 1 rfl) ?_
      obtain ⟨hi25, hM⟩ := ckx hM
      refine q_iald hx hb S m_aKind e_aKind hi25 dX9_drop_25 ?_
      refine lv_iconst (v := (2 : Int32)) hx hb dX9_drop_26 (by decide) ?_
      refine lv_icmp_eq (tgt := 33) hx hb dX9_drop_27 (by decide) (fun b27 => ?_) (fun b27 => ?_)
      · have hM := itT b27 hM
        refine lv_aload_n hx hb dX9_drop_33 rfl (lv_at hl 0 rfl) ?_
        refine lv_iload_n hx hb dX9_drop_34 rfl (lv_at hl 1 rfl) ?_
        refine lv_lload_n hx hb dX9_drop_35 rfl (lv_at hl 2 rfl) ?_
        obtain ⟨z36, hz36, hM⟩ := bind_some hM
        refine q_vi (As := [.int sq, .long t]) (rest := []) ⟨hx, hb, hml, hown, hts⟩ (k_X9_letsThrough l D g m_y e_y m_aKind e_aKind m_aSize e_aSize m_aMarks e_aMarks m_aSeed e_aSeed m_aRow e_aRow m_aBits e_aBits m_aLayerSize e_aLayerSize m_aRest e_aRest m_aRestMany e_aRestMany hz36) (cwV 2 hts gX9_drop_X9_letsThrough rfl rfl rfl (by decide +kernel) ⟨Nat.le_of_ble_eq_true rfl, Nat.le_of_ble_eq_true rfl⟩) S m_y e_y (T := TX9) (N := 23) rfl rfl hl.1 rfl (Nat.le_of_ble_eq_true rfl) dX9_drop_36 ⟨Nat.le_of_ble_eq_true rfl, Nat.le_of_ble_eq_true rfl⟩ (fun r32 L30 f31 H locs S w36 => ?_)
        obtain ⟨ex36, eL, ef⟩ := w36
        rw [eL, ef] at S
        replace ex36 := ex36.symm
        subst ex36
        refine lv_if_ne (tgt := 45) hx hb dX9_drop_39 (by decide) (fun b39 => ?_) (fun b39 => ?_)
        · have hM := itF b39 hM
          refine lv_lload_n hx hb dX9_drop_45 rfl (lv_at hl 2 rfl) ?_
          refine lv_aload_n hx hb dX9_drop_46 rfl (lv_at hl 0 rfl) ?_
          refine q_get hx hb hts in_X9 hown S m_y e_y (C := RX9) (T := TX9) (N := 23) rfl 5 (by decide) rfl (hts (.fieldLink RX9 26 "SieveCabinetModel" "seed" "[I") (gu_wsX9_drop_1 _ gm_1)) dX9_drop_47 ?_
          refine lv_iload_n hx hb dX9_drop_50 rfl (lv_at hl 1 rfl) ?_
          obtain ⟨hi51, hM⟩ := ckx hM
          refine q_iald hx hb S m_aSeed e_aSeed hi51 dX9_drop_51 ?_
          obtain ⟨z52, hz52, hM⟩ := bind_some hM
          refine q_sl (As := [.long t, .int (vSeed (Int32.toNatClampNeg sq))]) (rest := []) ⟨hx, hb, hml, hown, hts⟩ (k_X9_mix l D g hz52) (va_cwS 2 hts gX9_drop_X9_mix rfl rfl rfl (by decide +kernel) ⟨Nat.le_of_ble_eq_true rfl, Nat.le_of_ble_eq_true rfl⟩) S rfl hl.1 rfl (Nat.le_of_ble_eq_true rfl) dX9_drop_52 ⟨Nat.le_of_ble_eq_true rfl, Nat.le_of_ble_eq_true rfl⟩ (fun r35 L33 f34 H locs S w52 => ?_)
          obtain ⟨ex52, eL, ef⟩ := w52
          rw [eL, ef] at S
          replace ex52 := ex52.symm
          subst ex52
          refine lv_lstore (lv' := [(4, .long z52), (0, .ref y), (1, .int sq), (2, .long t)]) hx hb dX9_drop_55 hl (by decide) rfl (fun ls hl => ?_)
          refine lv_aload_n hx hb dX9_drop_57 rfl (lv_at hl 1 rfl) ?_
          refine q_get hx hb hts in_X9 hown S m_y e_y (C := RX9) (T := TX9) (N := 23) rfl 2 (by decide) rfl (hts (.fieldLink RX9 17 "SieveCabinetModel" "kind" "[I") (gu_wsX9_drop_1 _ gm_0)) dX9_drop_58 ?_
          refine lv_iload_n hx hb dX9_drop_61 rfl (lv_at hl 2 rfl) ?_
          obtain ⟨hi62, hM⟩ := ckx hM
          refine q_iald hx hb S m_aKind e_aKind hi62 dX9_drop_62 ?_
          refine lv_iconst (v := (1 : Int32)) hx hb dX9_drop_63 (by decide) ?_
          refine lv_icmp_ne (tgt := 159) hx hb dX9_drop_64 (by decide) (fun b64 => ?_) (fun b64 => ?_)
          · have hM := itF b64 hM
            refine lv_iconst (v := (0 : Int32)) hx hb dX9_drop_159 (by decide) ?_
            refine lv_istore (lv' := [(6, .int (0 : Int32)), (4, .long z52), (0, .ref y), (1, .int sq), (2, .long t)]) hx hb dX9_drop_160 hl (by decide) rfl (fun ls hl => ?_)
            obtain ⟨o162, ho162, hM⟩ := bind_some hM
            have EX162 : ∀ (H : Heap) (locs : List Loc) (ls : Array Slot), PS D g (va_A (va_pl L f) szz) s.heap s L f H locs → lv_has ls 8 [(6, .int o162), (0, .ref y), (1, .int sq), (2, .long t)] → W p l e { frames := 4, cells := 0, slots := 0, locals := 110 } s m [.ref y, .int sq, .long t].toArray below meth c H locs 0 0 QQ (F0 m 204 ls []) := by
              intro H locs ls S hl
              refine lv_aload_n hx hb dX9_drop_204 rfl (lv_at hl 1 rfl) ?_
              refine q_get hx hb hts in_X9 hown S m_y e_y (C := RX9) (T := TX9) (N := 23) rfl 8 (by decide) rfl (hts (.fieldLink RX9 36 "SieveCabinetModel" "row" "[I") (gu_wsX9_drop_1 _ gm_4)) dX9_drop_205 ?_
              refine lv_iload_n hx hb dX9_drop_208 rfl (lv_at hl 2 rfl) ?_
              refine lv_sipush (v := (4096 : Int32)) hx hb dX9_drop_209 (by decide) ?_
              refine lv_imul hx hb dX9_drop_212 ?_
              refine lv_iconst (v := (4 : Int32)) hx hb dX9_drop_213 (by decide) ?_
              refine lv_aload_n hx hb dX9_drop_214 rfl (lv_at hl 1 rfl) ?_
              refine lv_iload_n hx hb dX9_drop_215 rfl (lv_at hl 2 rfl) ?_
              refine lv_lload_n hx hb dX9_drop_216 rfl (lv_at hl 3 rfl) ?_
              refine lv_iload hx hb dX9_drop_217 (lv_at hl 0 rfl) ?_
              refine lv_iconst (v := (4 : Int32)) hx hb dX9_drop_219 (by decide) ?_
              refine lv_idiv hx hb dX9_drop_220 (by decide) ?_
              obtain ⟨z221, hz221, hM⟩ := bind_some hM
              refine q_vi (As := [.int sq, .long t, .int (o162 / (4 : Int32))]) (rest := [.int (4 : Int32), .int (sq * (4096 : Int32)), .ref aRow]) ⟨hx, hb, hml, hown, hts⟩ (k_X9_nestOf l D g m_y e_y m_aSize e_aSize m_aSeed e_aSeed hz221) (cwV 3 hts gX9_drop_X9_nestOf rfl rfl rfl (by decide +kernel) ⟨Nat.le_of_ble_eq_true rfl, Nat.le_of_ble_eq_true rfl⟩) S m_y e_y (T := TX9) (N := 23) rfl rfl hl.1 rfl (Nat.le_of_ble_eq_true rfl) dX9_drop_221 ⟨Nat.le_of_ble_eq_true rfl, Nat.le_of_ble_eq_true rfl⟩ (fun r38 L36 f37 H locs S w221 => ?_)
              obtain ⟨ex221, eL, ef⟩ := w221
              rw [eL, ef] at S
              replace ex221 := ex221.symm
              subst ex221
              refine lv_imul hx hb dX9_drop_224 ?_
              refine lv_iadd hx hb dX9_drop_225 ?_
              refine lv_iload hx hb dX9_drop_226 (lv_at hl 0 rfl) ?_
              refine lv_iconst (v := (4 : Int32)) hx hb dX9_drop_228 (by decide) ?_
              refine lv_irem hx hb dX9_drop_229 (by decide) ?_
              refine W.eq (g2 := F0 m 230 ls [.int (irm o162 (4 : Int32)), .int ((sq * (4096 : Int32)) + ((4 : Int32) * z221)), .ref aRow]) rfl ?_
              refine lv_iadd hx hb dX9_drop_230 ?_
              refine lv_iconst (v := (0 : Int32)) hx hb dX9_drop_231 (by decide) ?_
              obtain ⟨hi232, hM⟩ := ckx hM
              refine k_iast hx hb S m_aRow e_aRow hi232 dX9_drop_232 (fun f39 ef39 H locs S => ?_)
              have e_aRow := up_self ef39
              have fr : ∀ b, b ∈ L → b ≠ aContents → b ≠ aContentMany → b ≠ aRow → f39 b = f b := fun b mb nb0 nb1 nb2 => (up_ne ef39 nb2 rfl).trans (fr b mb nb0 nb1 nb2)
              refine lv_iconst (v := (0 : Int32)) hx hb dX9_drop_233 (by decide) ?_
              refine lv_istore (lv' := [(6, .int (0 : Int32)), (0, .ref y), (1, .int sq), (2, .long t)]) hx hb dX9_drop_234 hl (by decide) rfl (fun ls hl => ?_)
              obtain ⟨o236, ho236, hM⟩ := bind_some hM
              have EX236 : ∀ (H : Heap) (locs : List Loc) (ls : Array Slot), PS D g (va_A (va_pl L f) szz) s.heap s L f39 H locs → lv_has ls 8 [(6, .int o236), (0, .ref y), (1, .int sq)] → W p l e { frames := 4, cells := 0, slots := 0, locals := 110 } s m [.ref y, .int sq, .long t].toArray below meth c H locs 0 0 QQ (F0 m 271 ls []) := by
                intro H locs ls S hl
                refine lv_iload hx hb dX9_drop_271 (lv_at hl 0 rfl) ?_
                refine lv_aload_n hx hb dX9_drop_273 rfl (lv_at hl 1 rfl) ?_
                have e_y := (up_ne ef39 n_y_aRow e_y)
                refine q_get hx hb hts in_X9 hown S m_y e_y (C := RX9) (T := TX9) (N := 23) rfl 7 (by decide) rfl (hts (.fieldLink RX9 32 "SieveCabinetModel" "contentMany" "[I") (gu_wsX9_drop_1 _ gm_5)) dX9_drop_274 ?_
                refine lv_iload_n hx hb dX9_drop_277 rfl (lv_at hl 2 rfl) ?_
                obtain ⟨hi278, hM⟩ := ckx hM
                have e_aContentMany := (up_ne ef39 n_aContentMany_aRow e_aContentMany)
                refine q_iald hx hb S m_aContentMany e_aContentMany hi278 dX9_drop_278 ?_
                refine lv_icmp_ge (tgt := 322) hx hb dX9_drop_279 (by decide) (fun b279 => ?_) (fun b279 => ?_)
                · have hM := itT b279 hM
                  refine lv_aload_n hx hb dX9_drop_322 rfl (lv_at hl 1 rfl) ?_
                  refine q_get hx hb hts in_X9 hown S m_y e_y (C := RX9) (T := TX9) (N := 23) rfl 7 (by decide) rfl (hts (.fieldLink RX9 32 "SieveCabinetModel" "contentMany" "[I") (gu_wsX9_drop_1 _ gm_5)) dX9_drop_323 ?_
                  refine lv_iload_n hx hb dX9_drop_326 rfl (lv_at hl 2 rfl) ?_
                  obtain ⟨hi327, hM⟩ := ckx hM
                  refine q_iald hx hb S m_aContentMany e_aContentMany hi327 dX9_drop_327 ?_
                  have e_aContents := (up_ne ef39 n_aContents_aRow e_aContents)
                  subst hQQ
                  exact q_reti (post := fun x L1 f1 => x = z.1 ∧ L1 = L ∧ (∀ b, b ∈ L → b ≠ aContents → b ≠ aContentMany → b ≠ aRow → f1 b = f b) ∧ f1 aContents = .inl (g 1, 30000, .inr (.inl z.2.1)) ∧ f1 aContentMany = .inl (g 0, 30, .inl z.2.2.1) ∧ f1 aRow = .inl (g 0, 122880, .inl z.2.2.2)) hx hb hr hlk S dX9_drop_328 (by decide) (by decide) (by have hz := Option.some.inj hM; subst hz; exact ⟨rfl, rfl, fr, e_aContents, e_aContentMany, e_aRow⟩)
                · have hM := itF b279 hM
                  refine lv_aload_n hx hb dX9_drop_282 rfl (lv_at hl 1 rfl) ?_
                  refine q_get hx hb hts in_X9 hown S m_y e_y (C := RX9) (T := TX9) (N := 23) rfl 7 (by decide) rfl (hts (.fieldLink RX9 32 "SieveCabinetModel" "contentMany" "[I") (gu_wsX9_drop_1 _ gm_5)) dX9_drop_283 ?_
                  refine lv_iload_n hx hb dX9_drop_286 rfl (lv_at hl 2 rfl) ?_
                  refine lv_dup2_11 hx hb dX9_drop_287 rfl rfl ?_
                  obtain ⟨hi288, hM⟩ := ckx hM
                  refine q_iald hx hb S m_aContentMany e_aContentMany hi288 dX9_drop_288 ?_
                  refine lv_iconst (v := (1 : Int32)) hx hb dX9_drop_289 (by decide) ?_
                  refine lv_isub hx hb dX9_drop_290 ?_
                  obtain ⟨hi291, hM⟩ := ckx hM
                  refine k_iast hx hb S m_aContentMany e_aContentMany hi291 dX9_drop_291 (fun f40 ef40 H locs S => ?_)
                  have e_aContentMany := up_self ef40
                  have fr : ∀ b, b ∈ L → b ≠ aContents → b ≠ aContentMany → b ≠ aRow → f40 b = f b := fun b mb nb0 nb1 nb2 => (up_ne ef40 nb1 rfl).trans (fr b mb nb0 nb1 nb2)
                  refine lv_aload_n hx hb dX9_drop_292 rfl (lv_at hl 1 rfl) ?_
                  have e_y := (up_ne ef40 n_y_aContentMany e_y)
                  refine q_get hx hb hts in_X9 hown S m_y e_y (C := RX9) (T := TX9) (N := 23) rfl 6 (by decide) rfl (hts (.fieldLink RX9 29 "SieveCabinetModel" "contents" "[J") (gu_wsX9_drop_1 _ gm_6)) dX9_drop_293 ?_
                  refine lv_iload_n hx hb dX9_drop_296 rfl (lv_at hl 2 rfl) ?_
                  refine lv_sipush (v := (1000 : Int32)) hx hb dX9_drop_297 (by decide) ?_
                  refine lv_imul hx hb dX9_drop_300 ?_
                  refine lv_iload hx hb dX9_drop_301 (lv_at hl 0 rfl) ?_
                  refine lv_iadd hx hb dX9_drop_303 ?_
                  refine lv_aload_n hx hb dX9_drop_304 rfl (lv_at hl 1 rfl) ?_
                  refine q_get hx hb hts in_X9 hown S m_y e_y (C := RX9) (T := TX9) (N := 23) rfl 6 (by decide) rfl (hts (.fieldLink RX9 29 "SieveCabinetModel" "contents" "[J") (gu_wsX9_drop_1 _ gm_6)) dX9_drop_305 ?_
                  refine lv_iload_n hx hb dX9_drop_308 rfl (lv_at hl 2 rfl) ?_
                  refine lv_sipush (v := (1000 : Int32)) hx hb dX9_drop_309 (by decide) ?_
                  refine lv_imul hx hb dX9_drop_312 ?_
                  refine lv_aload_n hx hb dX9_drop_313 rfl (lv_at hl 1 rfl) ?_
                  refine q_get hx hb hts in_X9 hown S m_y e_y (C := RX9) (T := TX9) (N := 23) rfl 7 (by decide) rfl (hts (.fieldLink RX9 32 "SieveCabinetModel" "contentMany" "[I") (gu_wsX9_drop_1 _ gm_5)) dX9_drop_314 ?_
                  refine lv_iload_n hx hb dX9_drop_317 rfl (lv_at hl 2 rfl) ?_
                  obtain ⟨hi318, hM⟩ := ckx hM
                  refine q_iald hx hb S m_aContentMany e_aContentMany hi318 dX9_drop_318 ?_
                  refine lv_iadd hx hb dX9_drop_319 ?_
                  obtain ⟨hi320, hM⟩ := ckx hM
                  have e_aContents := (up_ne ef40 n_aContents_aContentMany (up_ne ef39 n_aContents_aRow e_aContents))
                  refine q_lald hx hb S m_aContents e_aContents hi320 dX9_drop_320 ?_
                  obtain ⟨hi321, hM⟩ := ckx hM
                  refine k_last hx hb S m_aContents e_aContents hi321 dX9_drop_321 (fun f41 ef41 H locs S => ?_)
                  have e_aContents := up_self ef41
                  have fr : ∀ b, b ∈ L → b ≠ aContents → b ≠ aContentMany → b ≠ aRow → f41 b = f b := fun b mb nb0 nb1 nb2 => (up_ne ef41 nb0 rfl).trans (fr b mb nb0 nb1 nb2)
                  refine lv_aload_n hx hb dX9_drop_322 rfl (lv_at hl 1 rfl) ?_
                  have e_y := (up_ne ef41 n_y_aContents e_y)
                  refine q_get hx hb hts in_X9 hown S m_y e_y (C := RX9) (T := TX9) (N := 23) rfl 7 (by decide) rfl (hts (.fieldLink RX9 32 "SieveCabinetModel" "contentMany" "[I") (gu_wsX9_drop_1 _ gm_5)) dX9_drop_323 ?_
                  refine lv_iload_n hx hb dX9_drop_326 rfl (lv_at hl 2 rfl) ?_
                  obtain ⟨hi327, hM⟩ := ckx hM
                  have e_aContentMany := (up_ne ef41 n_aContentMany_aContents e_aContentMany)
                  refine q_iald hx hb S m_aContentMany e_aContentMany hi327 dX9_drop_327 ?_
                  have e_aRow := (up_ne ef41 n_aRow_aContents (up_ne ef40 n_aRow_aContentMany e_aRow))
                  subst hQQ
                  exact q_reti (post := fun x L1 f1 => x = z.1 ∧ L1 = L ∧ (∀ b, b ∈ L → b ≠ aContents → b ≠ aContentMany → b ≠ aRow → f1 b = f b) ∧ f1 aContents = .inl (g 1, 30000, .inr (.inl z.2.1)) ∧ f1 aContentMany = .inl (g 0, 30, .inl z.2.2.1) ∧ f1 aRow = .inl (g 0, 122880, .inl z.2.2.2)) hx hb hr hlk S dX9_drop_328 (by decide) (by decide) (by have hz := Option.some.inj hM; subst hz; exact ⟨rfl, rfl, fr, e_aContents, e_aContentMany, e_aRow⟩)
              have LP236 : ∀ (fu : Nat) (x6_236 : Int32) (H : Heap) (locs : List Loc) (ls : Array Slot), (mX9_drop_L236 vContents vContentMany sq t) fu x6_236 = some o236 → PS D g (va_A (va_pl L f) szz) s.heap s L f39 H locs → lv_has ls 8 [(6, .int x6_236), (0, .ref y), (1, .int sq), (2, .long t)] → W p l e { frames := 4, cells := 0, slots := 0, locals := 110 } s m [.ref y, .int sq, .long t].toArray below meth c H locs 0 0 QQ (F0 m 236 ls []) := by
                intro fu
                induction fu with
                | zero => intro x6_236 H locs ls ho236 S hl; exact no_some ho236
                | succ fu ih236 =>
                  intro x6_236 H locs ls ho236 S hl
                  rw [mX9_drop_L236] at ho236
                  refine lv_iload hx hb dX9_drop_236 (lv_at hl 0 rfl) ?_
                  refine lv_aload_n hx hb dX9_drop_238 rfl (lv_at hl 1 rfl) ?_
                  have e_y := (up_ne ef39 n_y_aRow e_y)
                  refine q_get hx hb hts in_X9 hown S m_y e_y (C := RX9) (T := TX9) (N := 23) rfl 7 (by decide) rfl (hts (.fieldLink RX9 32 "SieveCabinetModel" "contentMany" "[I") (gu_wsX9_drop_1 _ gm_5)) dX9_drop_239 ?_
                  refine lv_iload_n hx hb dX9_drop_242 rfl (lv_at hl 2 rfl) ?_
                  obtain ⟨hi243, ho236⟩ := ckx ho236
                  have e_aContentMany := (up_ne ef39 n_aContentMany_aRow e_aContentMany)
                  refine q_iald hx hb S m_aContentMany e_aContentMany hi243 dX9_drop_243 ?_
                  refine lv_icmp_ge (tgt := 271) hx hb dX9_drop_244 (by decide) (fun b244 => ?_) (fun b244 => ?_)
                  · have ho236 := itT b244 ho236
                    obtain rfl := Option.some.inj ho236
                    exact EX236 _ _ _ S (lv_sub hl [0, 1, 2] rfl)
                  · have ho236 := itF b244 ho236
                    refine lv_aload_n hx hb dX9_drop_247 rfl (lv_at hl 1 rfl) ?_
                    refine q_get hx hb hts in_X9 hown S m_y e_y (C := RX9) (T := TX9) (N := 23) rfl 6 (by decide) rfl (hts (.fieldLink RX9 29 "SieveCabinetModel" "contents" "[J") (gu_wsX9_drop_1 _ gm_6)) dX9_drop_248 ?_
                    refine lv_iload_n hx hb dX9_drop_251 rfl (lv_at hl 2 rfl) ?_
                    refine lv_sipush (v := (1000 : Int32)) hx hb dX9_drop_252 (by decide) ?_
                    refine lv_imul hx hb dX9_drop_255 ?_
                    refine lv_iload hx hb dX9_drop_256 (lv_at hl 0 rfl) ?_
                    refine lv_iadd hx hb dX9_drop_258 ?_
                    obtain ⟨hi259, ho236⟩ := ckx ho236
                    have e_aContents := (up_ne ef39 n_aContents_aRow e_aContents)
                    refine q_lald hx hb S m_aContents e_aContents hi259 dX9_drop_259 ?_
                    refine lv_lload_n hx hb dX9_drop_260 rfl (lv_at hl 3 rfl) ?_
                    refine W.lcmp hx hb dX9_drop_261 ?_
                    refine lv_if_eq (tgt := 271) hx hb dX9_drop_262 (by decide) (fun b262 => ?_) (fun b262 => ?_)
                    · have ho236 := itT b262 ho236
                      obtain rfl := Option.some.inj ho236
                      exact EX236 _ _ _ S (lv_sub hl [0, 1, 2] rfl)
                    · have ho236 := itF b262 ho236
                      refine lv_iinc (v := (x6_236 + 1)) (lv' := [(6, .int (x6_236 + 1)), (0, .ref y), (1, .int sq), (2, .long t)]) hx hb dX9_drop_265 hl (k := 0) rfl rfl (by decide) rfl (fun ls hl => ?_)
                      refine lv_goto (tgt := 236) hx hb dX9_drop_268 (by decide) ?_
                      exact ih236 (x6_236 + 1) _ _ _ ho236 S (lv_sub hl [0, 1, 2, 3] rfl)
              exact LP236 FU (0 : Int32) _ _ _ ho236 S (lv_sub hl [0, 1, 2, 3] rfl)
            have LP162 : ∀ (fu : Nat) (x6_162 : Int32) (H : Heap) (locs : List Loc) (ls : Array Slot), (mX9_drop_L162 vSize vSeed vRow sq t z52) fu x6_162 = some o162 → PS D g (va_A (va_pl L f) szz) s.heap s L f H locs → lv_has ls 8 [(6, .int x6_162), (4, .long z52), (0, .ref y), (1, .int sq), (2, .long t)] → W p l e { frames := 4, cells := 0, slots := 0, locals := 110 } s m [.ref y, .int sq, .long t].toArray below meth c H locs 0 0 QQ (F0 m 162 ls []) := by
              intro fu
              induction fu with
              | zero => intro x6_162 H locs ls ho162 S hl; exact no_some ho162
              | succ fu ih162 =>
                intro x6_162 H locs ls ho162 S hl
                rw [mX9_drop_L162] at ho162
                refine lv_aload_n hx hb dX9_drop_162 rfl (lv_at hl 2 rfl) ?_
                refine q_get hx hb hts in_X9 hown S m_y e_y (C := RX9) (T := TX9) (N := 23) rfl 8 (by decide) rfl (hts (.fieldLink RX9 36 "SieveCabinetModel" "row" "[I") (gu_wsX9_drop_1 _ gm_4)) dX9_drop_163 ?_
                refine lv_iload_n hx hb dX9_drop_166 rfl (lv_at hl 3 rfl) ?_
                refine lv_sipush (v := (4096 : Int32)) hx hb dX9_drop_167 (by decide) ?_
                refine lv_imul hx hb dX9_drop_170 ?_
                refine lv_iconst (v := (4 : Int32)) hx hb dX9_drop_171 (by decide) ?_
                refine lv_aload_n hx hb dX9_drop_172 rfl (lv_at hl 2 rfl) ?_
                refine lv_iload_n hx hb dX9_drop_173 rfl (lv_at hl 3 rfl) ?_
                refine lv_lload_n hx hb dX9_drop_174 rfl (lv_at hl 4 rfl) ?_
                refine lv_iload hx hb dX9_drop_175 (lv_at hl 0 rfl) ?_
                refine lv_iconst (v := (4 : Int32)) hx hb dX9_drop_177 (by decide) ?_
                refine lv_idiv hx hb dX9_drop_178 (by decide) ?_
                obtain ⟨z179, hz179, ho162⟩ := bind_some ho162
                refine q_vi (As := [.int sq, .long t, .int (x6_162 / (4 : Int32))]) (rest := [.int (4 : Int32), .int (sq * (4096 : Int32)), .ref aRow]) ⟨hx, hb, hml, hown, hts⟩ (k_X9_nestOf l D g m_y e_y m_aSize e_aSize m_aSeed e_aSeed hz179) (cwV 3 hts gX9_drop_X9_nestOf rfl rfl rfl (by decide +kernel) ⟨Nat.le_of_ble_eq_true rfl, Nat.le_of_ble_eq_true rfl⟩) S m_y e_y (T := TX9) (N := 23) rfl rfl hl.1 rfl (Nat.le_of_ble_eq_true rfl) dX9_drop_179 ⟨Nat.le_of_ble_eq_true rfl, Nat.le_of_ble_eq_true rfl⟩ (fun r44 L42 f43 H locs S w179 => ?_)
                obtain ⟨ex179, eL, ef⟩ := w179
                rw [eL, ef] at S
                replace ex179 := ex179.symm
                subst ex179
                refine lv_imul hx hb dX9_drop_182 ?_
                refine lv_iadd hx hb dX9_drop_183 ?_
                refine lv_iload hx hb dX9_drop_184 (lv_at hl 0 rfl) ?_
                refine lv_iconst (v := (4 : Int32)) hx hb dX9_drop_186 (by decide) ?_
                refine lv_irem hx hb dX9_drop_187 (by decide) ?_
                refine W.eq (g2 := F0 m 188 ls [.int (irm x6_162 (4 : Int32)), .int ((sq * (4096 : Int32)) + ((4 : Int32) * z179)), .ref aRow]) rfl ?_
                refine lv_iadd hx hb dX9_drop_188 ?_
                obtain ⟨hi189, ho162⟩ := ckx ho162
                refine q_iald hx hb S m_aRow e_aRow hi189 dX9_drop_189 ?_
                refine lv_lload hx hb dX9_drop_190 (lv_at hl 1 rfl) ?_
                obtain ⟨z192, hz192, ho162⟩ := bind_some ho162
                refine q_si (As := [.long z52]) (rest := [.int (vRow (Int32.toNatClampNeg (((sq * (4096 : Int32)) + ((4 : Int32) * z179)) + (irm x6_162 (4 : Int32)))))]) ⟨hx, hb, hml, hown, hts⟩ (k_X9_tagOf l D g hz192) (va_cwS 1 hts gX9_drop_X9_tagOf rfl rfl rfl (by decide +kernel) ⟨Nat.le_of_ble_eq_true rfl, Nat.le_of_ble_eq_true rfl⟩) S rfl hl.1 rfl (Nat.le_of_ble_eq_true rfl) dX9_drop_192 ⟨Nat.le_of_ble_eq_true rfl, Nat.le_of_ble_eq_true rfl⟩ (fun r47 L45 f46 H locs S w192 => ?_)
                obtain ⟨ex192, eL, ef⟩ := w192
                rw [eL, ef] at S
                replace ex192 := ex192.symm
                subst ex192
                refine lv_icmp_eq (tgt := 204) hx hb dX9_drop_195 (by decide) (fun b195 => ?_) (fun b195 => ?_)
                · have ho162 := itT b195 ho162
                  obtain rfl := Option.some.inj ho162
                  exact EX162 _ _ _ S (lv_sub hl [0, 2, 3, 4] rfl)
                · have ho162 := itF b195 ho162
                  refine lv_iinc (v := (x6_162 + 1)) (lv' := [(6, .int (x6_162 + 1)), (4, .long z52), (0, .ref y), (1, .int sq), (2, .long t)]) hx hb dX9_drop_198 hl (k := 0) rfl rfl (by decide) rfl (fun ls hl => ?_)
                  refine lv_goto (tgt := 162) hx hb dX9_drop_201 (by decide) ?_
                  exact ih162 (x6_162 + 1) _ _ _ ho162 S (lv_sub hl [0, 1, 2, 3, 4] rfl)
            exact LP162 FU (0 : Int32) _ _ _ ho162 S (lv_sub hl [0, 1, 2, 3, 4] rfl)
          · have hM := itT b64 hM
            refine lv_iconst (v := (0 : Int32)) hx hb dX9_drop_67 (by decide) ?_
            refine lv_istore (lv' := [(6, .int (0 : Int32)), (4, .long z52), (0, .ref y), (1, .int sq), (2, .long t)]) hx hb dX9_drop_68 hl (by decide) rfl (fun ls hl => ?_)
            obtain ⟨o70, ho70, hM⟩ := bind_some hM
            have EX70 : ∀ (fl70 : Nat → va_E) (H : Heap) (locs : List Loc) (ls : Array Slot), PS D g (va_A (va_pl L f) szz) s.heap s L fl70 H locs → fl70 y = .inr (7, [.ref aWorlds, .ref aInWorld, .ref aKind, .ref aSize, .ref aMarks, .ref aSeed, .ref aContents, .ref aContentMany, .ref aRow, .ref aBits, .ref aLayerSize, .ref aLayerCame, .ref aRest, .ref aRestMany, .int many, .ref aCome, .ref aRivals, .ref aGone, .ref aOrder, .ref aOffAt, .ref aIsOff, .ref aAlone, .ref aKept]) → fl70 aWorlds = .inl (g 1, 8000, .inr (.inl vWorlds)) → fl70 aInWorld = .inl (g 0, 8, .inl vInWorld) → fl70 aKind = .inl (g 0, 30, .inl vKind) → fl70 aSize = .inl (g 0, 30, .inl vSize) → fl70 aMarks = .inl (g 0, 30, .inl vMarks) → fl70 aSeed = .inl (g 0, 30, .inl vSeed) → fl70 aContents = .inl (g 1, 30000, .inr (.inl vContents)) → fl70 aContentMany = .inl (g 0, 30, .inl vContentMany) → fl70 aRow = .inl (g 0, 122880, .inl o70.2) → fl70 aBits = .inl (g 0, 76800, .inl vBits) → fl70 aLayerSize = .inl (g 0, 600, .inl vLayerSize) → fl70 aLayerCame = .inl (g 0, 600, .inl vLayerCame) → fl70 aRest = .inl (g 1, 30000, .inr (.inl vRest)) → fl70 aRestMany = .inl (g 0, 30, .inl vRestMany) → fl70 aCome = .inl (g 1, 1000, .inr (.inl vCome)) → fl70 aRivals = .inl (g 1, 1000, .inr (.inl vRivals)) → fl70 aGone = .inl (g 1, 1000, .inr (.inl vGone)) → fl70 aOrder = .inl (g 0, 1000, .inl vOrder) → fl70 aOffAt = .inl (g 0, 1000, .inl vOffAt) → fl70 aIsOff = .inl (g 2, 1000, .inl vIsOff) → fl70 aAlone = .inl (g 0, 4096, .inl vAlone) → fl70 aKept = .inl (g 0, 4096, .inl vKept) → (∀ b, b ∈ L → b ≠ aContents → b ≠ aContentMany → b ≠ aRow → fl70 b = f b) → lv_has ls 8 [(0, .ref y), (1, .int sq), (2, .long t)] → W p l e { frames := 4, cells := 0, slots := 0, locals := 110 } s m [.ref y, .int sq, .long t].toArray below meth c H locs 0 0 QQ (F0 m 156 ls []) := by
              intro fl70 H locs ls S e_y e_aWorlds e_aInWorld e_aKind e_aSize e_aMarks e_aSeed e_aContents e_aContentMany e_aRow e_aBits e_aLayerSize e_aLayerCame e_aRest e_aRestMany e_aCome e_aRivals e_aGone e_aOrder e_aOffAt e_aIsOff e_aAlone e_aKept fr hl
              refine lv_goto (tgt := 233) hx hb dX9_drop_156 (by decide) ?_
              refine lv_iconst (v := (0 : Int32)) hx hb dX9_drop_233 (by decide) ?_
              refine lv_istore (lv' := [(6, .int (0 : Int32)), (0, .ref y), (1, .int sq), (2, .long t)]) hx hb dX9_drop_234 hl (by decide) rfl (fun ls hl => ?_)
              obtain ⟨o236, ho236, hM⟩ := bind_some hM
              have EX236 : ∀ (H : Heap) (locs : List Loc) (ls : Array Slot), PS D g (va_A (va_pl L f) szz) s.heap s L fl70 H locs → lv_has ls 8 [(6, .int o236), (0, .ref y), (1, .int sq)] → W p l e { frames := 4, cells := 0, slots := 0, locals := 110 } s m [.ref y, .int sq, .long t].toArray below meth c H locs 0 0 QQ (F0 m 271 ls []) := by
                intro H locs ls S hl
                refine lv_iload hx hb dX9_drop_271 (lv_at hl 0 rfl) ?_
                refine lv_aload_n hx hb dX9_drop_273 rfl (lv_at hl 1 rfl) ?_
                refine q_get hx hb hts in_X9 hown S m_y e_y (C := RX9) (T := TX9) (N := 23) rfl 7 (by decide) rfl (hts (.fieldLink RX9 32 "SieveCabinetModel" "contentMany" "[I") (gu_wsX9_drop_1 _ gm_5)) dX9_drop_274 ?_
                refine lv_iload_n hx hb dX9_drop_277 rfl (lv_at hl 2 rfl) ?_
                obtain ⟨hi278, hM⟩ := ckx hM
                refine q_iald hx hb S m_aContentMany e_aContentMany hi278 dX9_drop_278 ?_
                refine lv_icmp_ge (tgt := 322) hx hb dX9_drop_279 (by decide) (fun b279 => ?_) (fun b279 => ?_)
                · have hM := itT b279 hM
                  refine lv_aload_n hx hb dX9_drop_322 rfl (lv_at hl 1 rfl) ?_
                  refine q_get hx hb hts in_X9 hown S m_y e_y (C := RX9) (T := TX9) (N := 23) rfl 7 (by decide) rfl (hts (.fieldLink RX9 32 "SieveCabinetModel" "contentMany" "[I") (gu_wsX9_drop_1 _ gm_5)) dX9_drop_323 ?_
                  refine lv_iload_n hx hb dX9_drop_326 rfl (lv_at hl 2 rfl) ?_
                  obtain ⟨hi327, hM⟩ := ckx hM
                  refine q_iald hx hb S m_aContentMany e_aContentMany hi327 dX9_drop_327 ?_
                  subst hQQ
                  exact q_reti (post := fun x L1 f1 => x = z.1 ∧ L1 = L ∧ (∀ b, b ∈ L → b ≠ aContents → b ≠ aContentMany → b ≠ aRow → f1 b = f b) ∧ f1 aContents = .inl (g 1, 30000, .inr (.inl z.2.1)) ∧ f1 aContentMany = .inl (g 0, 30, .inl z.2.2.1) ∧ f1 aRow = .inl (g 0, 122880, .inl z.2.2.2)) hx hb hr hlk S dX9_drop_328 (by decide) (by decide) (by have hz := Option.some.inj hM; subst hz; exact ⟨rfl, rfl, fr, e_aContents, e_aContentMany, e_aRow⟩)
                · have hM := itF b279 hM
                  refine lv_aload_n hx hb dX9_drop_282 rfl (lv_at hl 1 rfl) ?_
                  refine q_get hx hb hts in_X9 hown S m_y e_y (C := RX9) (T := TX9) (N := 23) rfl 7 (by decide) rfl (hts (.fieldLink RX9 32 "SieveCabinetModel" "contentMany" "[I") (gu_wsX9_drop_1 _ gm_5)) dX9_drop_283 ?_
                  refine lv_iload_n hx hb dX9_drop_286 rfl (lv_at hl 2 rfl) ?_
                  refine lv_dup2_11 hx hb dX9_drop_287 rfl rfl ?_
                  obtain ⟨hi288, hM⟩ := ckx hM
                  refine q_iald hx hb S m_aContentMany e_aContentMany hi288 dX9_drop_288 ?_
                  refine lv_iconst (v := (1 : Int32)) hx hb dX9_drop_289 (by decide) ?_
                  refine lv_isub hx hb dX9_drop_290 ?_
                  obtain ⟨hi291, hM⟩ := ckx hM
                  refine k_iast hx hb S m_aContentMany e_aContentMany hi291 dX9_drop_291 (fun f48 ef48 H locs S => ?_)
                  have e_aContentMany := up_self ef48
                  have fr : ∀ b, b ∈ L → b ≠ aContents → b ≠ aContentMany → b ≠ aRow → f48 b = f b := fun b mb nb0 nb1 nb2 => (up_ne ef48 nb1 rfl).trans (fr b mb nb0 nb1 nb2)
                  refine lv_aload_n hx hb dX9_drop_292 rfl (lv_at hl 1 rfl) ?_
                  have e_y := (up_ne ef48 n_y_aContentMany e_y)
                  refine q_get hx hb hts in_X9 hown S m_y e_y (C := RX9) (T := TX9) (N := 23) rfl 6 (by decide) rfl (hts (.fieldLink RX9 29 "SieveCabinetModel" "contents" "[J") (gu_wsX9_drop_1 _ gm_6)) dX9_drop_293 ?_
                  refine lv_iload_n hx hb dX9_drop_296 rfl (lv_at hl 2 rfl) ?_
                  refine lv_sipush (v := (1000 : Int32)) hx hb dX9_drop_297 (by decide) ?_
                  refine lv_imul hx hb dX9_drop_300 ?_
                  refine lv_iload hx hb dX9_drop_301 (lv_at hl 0 rfl) ?_
                  refine lv_iadd hx hb dX9_drop_303 ?_
                  refine lv_aload_n hx hb dX9_drop_304 rfl (lv_at hl 1 rfl) ?_
                  refine q_get hx hb hts in_X9 hown S m_y e_y (C := RX9) (T := TX9) (N := 23) rfl 6 (by decide) rfl (hts (.fieldLink RX9 29 "SieveCabinetModel" "contents" "[J") (gu_wsX9_drop_1 _ gm_6)) dX9_drop_305 ?_
                  refine lv_iload_n hx hb dX9_drop_308 rfl (lv_at hl 2 rfl) ?_
                  refine lv_sipush (v := (1000 : Int32)) hx hb dX9_drop_309 (by decide) ?_
                  refine lv_imul hx hb dX9_drop_312 ?_
                  refine lv_aload_n hx hb dX9_drop_313 rfl (lv_at hl 1 rfl) ?_
                  refine q_get hx hb hts in_X9 hown S m_y e_y (C := RX9) (T := TX9) (N := 23) rfl 7 (by decide) rfl (hts (.fieldLink RX9 32 "SieveCabinetModel" "contentMany" "[I") (gu_wsX9_drop_1 _ gm_5)) dX9_drop_314 ?_
                  refine lv_iload_n hx hb dX9_drop_317 rfl (lv_at hl 2 rfl) ?_
                  obtain ⟨hi318, hM⟩ := ckx hM
                  refine q_iald hx hb S m_aContentMany e_aContentMany hi318 dX9_drop_318 ?_
                  refine lv_iadd hx hb dX9_drop_319 ?_
                  obtain ⟨hi320, hM⟩ := ckx hM
                  have e_aContents := (up_ne ef48 n_aContents_aContentMany e_aContents)
                  refine q_lald hx hb S m_aContents e_aContents hi320 dX9_drop_320 ?_
                  obtain ⟨hi321, hM⟩ := ckx hM
                  refine k_last hx hb S m_aContents e_aContents hi321 dX9_drop_321 (fun f49 ef49 H locs S => ?_)
                  have e_aContents := up_self ef49
                  have fr : ∀ b, b ∈ L → b ≠ aContents → b ≠ aContentMany → b ≠ aRow → f49 b = f b := fun b mb nb0 nb1 nb2 => (up_ne ef49 nb0 rfl).trans (fr b mb nb0 nb1 nb2)
                  refine lv_aload_n hx hb dX9_drop_322 rfl (lv_at hl 1 rfl) ?_
                  have e_y := (up_ne ef49 n_y_aContents e_y)
                  refine q_get hx hb hts in_X9 hown S m_y e_y (C := RX9) (T := TX9) (N := 23) rfl 7 (by decide) rfl (hts (.fieldLink RX9 32 "SieveCabinetModel" "contentMany" "[I") (gu_wsX9_drop_1 _ gm_5)) dX9_drop_323 ?_
                  refine lv_iload_n hx hb dX9_drop_326 rfl (lv_at hl 2 rfl) ?_
                  obtain ⟨hi327, hM⟩ := ckx hM
                  have e_aContentMany := (up_ne ef49 n_aContentMany_aContents e_aContentMany)
                  refine q_iald hx hb S m_aContentMany e_aContentMany hi327 dX9_drop_327 ?_
                  have e_aRow := (up_ne ef49 n_aRow_aContents (up_ne ef48 n_aRow_aContentMany e_aRow))
                  subst hQQ
                  exact q_reti (post := fun x L1 f1 => x = z.1 ∧ L1 = L ∧ (∀ b, b ∈ L → b ≠ aContents → b ≠ aContentMany → b ≠ aRow → f1 b = f b) ∧ f1 aContents = .inl (g 1, 30000, .inr (.inl z.2.1)) ∧ f1 aContentMany = .inl (g 0, 30, .inl z.2.2.1) ∧ f1 aRow = .inl (g 0, 122880, .inl z.2.2.2)) hx hb hr hlk S dX9_drop_328 (by decide) (by decide) (by have hz := Option.some.inj hM; subst hz; exact ⟨rfl, rfl, fr, e_aContents, e_aContentMany, e_aRow⟩)
              have LP236 : ∀ (fu : Nat) (x6_236 : Int32) (H : Heap) (locs : List Loc) (ls : Array Slot), (mX9_drop_L236 vContents vContentMany sq t) fu x6_236 = some o236 → PS D g (va_A (va_pl L f) szz) s.heap s L fl70 H locs → lv_has ls 8 [(6, .int x6_236), (0, .ref y), (1, .int sq), (2, .long t)] → W p l e { frames := 4, cells := 0, slots := 0, locals := 110 } s m [.ref y, .int sq, .long t].toArray below meth c H locs 0 0 QQ (F0 m 236 ls []) := by
                intro fu
                induction fu with
                | zero => intro x6_236 H locs ls ho236 S hl; exact no_some ho236
                | succ fu ih236 =>
                  intro x6_236 H locs ls ho236 S hl
                  rw [mX9_drop_L236] at ho236
                  refine lv_iload hx hb dX9_drop_236 (lv_at hl 0 rfl) ?_
                  refine lv_aload_n hx hb dX9_drop_238 rfl (lv_at hl 1 rfl) ?_
                  refine q_get hx hb hts in_X9 hown S m_y e_y (C := RX9) (T := TX9) (N := 23) rfl 7 (by decide) rfl (hts (.fieldLink RX9 32 "SieveCabinetModel" "contentMany" "[I") (gu_wsX9_drop_1 _ gm_5)) dX9_drop_239 ?_
                  refine lv_iload_n hx hb dX9_drop_242 rfl (lv_at hl 2 rfl) ?_
                  obtain ⟨hi243, ho236⟩ := ckx ho236
                  refine q_iald hx hb S m_aContentMany e_aContentMany hi243 dX9_drop_243 ?_
                  refine lv_icmp_ge (tgt := 271) hx hb dX9_drop_244 (by decide) (fun b244 => ?_) (fun b244 => ?_)
                  · have ho236 := itT b244 ho236
                    obtain rfl := Option.some.inj ho236
                    exact EX236 _ _ _ S (lv_sub hl [0, 1, 2] rfl)
                  · have ho236 := itF b244 ho236
                    refine lv_aload_n hx hb dX9_drop_247 rfl (lv_at hl 1 rfl) ?_
                    refine q_get hx hb hts in_X9 hown S m_y e_y (C := RX9) (T := TX9) (N := 23) rfl 6 (by decide) rfl (hts (.fieldLink RX9 29 "SieveCabinetModel" "contents" "[J") (gu_wsX9_drop_1 _ gm_6)) dX9_drop_248 ?_
                    refine lv_iload_n hx hb dX9_drop_251 rfl (lv_at hl 2 rfl) ?_
                    refine lv_sipush (v := (1000 : Int32)) hx hb dX9_drop_252 (by decide) ?_
                    refine lv_imul hx hb dX9_drop_255 ?_
                    refine lv_iload hx hb dX9_drop_256 (lv_at hl 0 rfl) ?_
                    refine lv_iadd hx hb dX9_drop_258 ?_
                    obtain ⟨hi259, ho236⟩ := ckx ho236
                    refine q_lald hx hb S m_aContents e_aContents hi259 dX9_drop_259 ?_
                    refine lv_lload_n hx hb dX9_drop_260 rfl (lv_at hl 3 rfl) ?_
                    refine W.lcmp hx hb dX9_drop_261 ?_
                    refine lv_if_eq (tgt := 271) hx hb dX9_drop_262 (by decide) (fun b262 => ?_) (fun b262 => ?_)
                    · have ho236 := itT b262 ho236
                      obtain rfl := Option.some.inj ho236
                      exact EX236 _ _ _ S (lv_sub hl [0, 1, 2] rfl)
                    · have ho236 := itF b262 ho236
                      refine lv_iinc (v := (x6_236 + 1)) (lv' := [(6, .int (x6_236 + 1)), (0, .ref y), (1, .int sq), (2, .long t)]) hx hb dX9_drop_265 hl (k := 0) rfl rfl (by decide) rfl (fun ls hl => ?_)
                      refine lv_goto (tgt := 236) hx hb dX9_drop_268 (by decide) ?_
                      exact ih236 (x6_236 + 1) _ _ _ ho236 S (lv_sub hl [0, 1, 2, 3] rfl)
              exact LP236 FU (0 : Int32) _ _ _ ho236 S (lv_sub hl [0, 1, 2, 3] rfl)
            have LP70 : ∀ (fu : Nat) (x6_70 : Int32) (caRow_70 : Nat → Int32) (fl70 : Nat → va_E) (H : Heap) (locs : List Loc) (ls : Array Slot), (mX9_drop_L70 vSize vMarks sq z52) fu x6_70 caRow_70 = some o70 → PS D g (va_A (va_pl L f) szz) s.heap s L fl70 H locs → fl70 y = .inr (7, [.ref aWorlds, .ref aInWorld, .ref aKind, .ref aSize, .ref aMarks, .ref aSeed, .ref aContents, .ref aContentMany, .ref aRow, .ref aBits, .ref aLayerSize, .ref aLayerCame, .ref aRest, .ref aRestMany, .int many, .ref aCome, .ref aRivals, .ref aGone, .ref aOrder, .ref aOffAt, .ref aIsOff, .ref aAlone, .ref aKept]) → fl70 aWorlds = .inl (g 1, 8000, .inr (.inl vWorlds)) → fl70 aInWorld = .inl (g 0, 8, .inl vInWorld) → fl70 aKind = .inl (g 0, 30, .inl vKind) → fl70 aSize = .inl (g 0, 30, .inl vSize) → fl70 aMarks = .inl (g 0, 30, .inl vMarks) → fl70 aSeed = .inl (g 0, 30, .inl vSeed) → fl70 aContents = .inl (g 1, 30000, .inr (.inl vContents)) → fl70 aContentMany = .inl (g 0, 30, .inl vContentMany) → fl70 aRow = .inl (g 0, 122880, .inl caRow_70) → fl70 aBits = .inl (g 0, 76800, .inl vBits) → fl70 aLayerSize = .inl (g 0, 600, .inl vLayerSize) → fl70 aLayerCame = .inl (g 0, 600, .inl vLayerCame) → fl70 aRest = .inl (g 1, 30000, .inr (.inl vRest)) → fl70 aRestMany = .inl (g 0, 30, .inl vRestMany) → fl70 aCome = .inl (g 1, 1000, .inr (.inl vCome)) → fl70 aRivals = .inl (g 1, 1000, .inr (.inl vRivals)) → fl70 aGone = .inl (g 1, 1000, .inr (.inl vGone)) → fl70 aOrder = .inl (g 0, 1000, .inl vOrder) → fl70 aOffAt = .inl (g 0, 1000, .inl vOffAt) → fl70 aIsOff = .inl (g 2, 1000, .inl vIsOff) → fl70 aAlone = .inl (g 0, 4096, .inl vAlone) → fl70 aKept = .inl (g 0, 4096, .inl vKept) → (∀ b, b ∈ L → b ≠ aContents → b ≠ aContentMany → b ≠ aRow → fl70 b = f b) → lv_has ls 8 [(6, .int x6_70), (4, .long z52), (0, .ref y), (1, .int sq), (2, .long t)] → W p l e { frames := 4, cells := 0, slots := 0, locals := 110 } s m [.ref y, .int sq, .long t].toArray below meth c H locs 0 0 QQ (F0 m 70 ls []) := by
              intro fu
              induction fu with
              | zero => intro x6_70 caRow_70 fl70 H locs ls ho70 S e_y e_aWorlds e_aInWorld e_aKind e_aSize e_aMarks e_aSeed e_aContents e_aContentMany e_aRow e_aBits e_aLayerSize e_aLayerCame e_aRest e_aRestMany e_aCome e_aRivals e_aGone e_aOrder e_aOffAt e_aIsOff e_aAlone e_aKept fr hl; exact no_some ho70
              | succ fu ih70 =>
                intro x6_70 caRow_70 fl70 H locs ls ho70 S e_y e_aWorlds e_aInWorld e_aKind e_aSize e_aMarks e_aSeed e_aContents e_aContentMany e_aRow e_aBits e_aLayerSize e_aLayerCame e_aRest e_aRestMany e_aCome e_aRivals e_aGone e_aOrder e_aOffAt e_aIsOff e_aAlone e_aKept fr hl
                rw [mX9_drop_L70] at ho70
                refine lv_iload hx hb dX9_drop_70 (lv_at hl 0 rfl) ?_
                refine lv_aload_n hx hb dX9_drop_72 rfl (lv_at hl 2 rfl) ?_
                refine q_get hx hb hts in_X9 hown S m_y e_y (C := RX9) (T := TX9) (N := 23) rfl 4 (by decide) rfl (hts (.fieldLink RX9 23 "SieveCabinetModel" "marks" "[I") (gu_wsX9_drop_1 _ gm_2)) dX9_drop_73 ?_
                refine lv_iload_n hx hb dX9_drop_76 rfl (lv_at hl 3 rfl) ?_
                obtain ⟨hi77, ho70⟩ := ckx ho70
                refine q_iald hx hb S m_aMarks e_aMarks hi77 dX9_drop_77 ?_
                refine lv_icmp_ge (tgt := 156) hx hb dX9_drop_78 (by decide) (fun b78 => ?_) (fun b78 => ?_)
                · have ho70 := itT b78 ho70
                  obtain rfl := Option.some.inj ho70
                  exact EX70 fl70 _ _ _ S e_y e_aWorlds e_aInWorld e_aKind e_aSize e_aMarks e_aSeed e_aContents e_aContentMany e_aRow e_aBits e_aLayerSize e_aLayerCame e_aRest e_aRestMany e_aCome e_aRivals e_aGone e_aOrder e_aOffAt e_aIsOff e_aAlone e_aKept fr (lv_sub hl [2, 3, 4] rfl)
                · have ho70 := itF b78 ho70
                  refine lv_iload_n hx hb dX9_drop_81 rfl (lv_at hl 3 rfl) ?_
                  refine lv_sipush (v := (4096 : Int32)) hx hb dX9_drop_82 (by decide) ?_
                  refine lv_imul hx hb dX9_drop_85 ?_
                  refine lv_lload hx hb dX9_drop_86 (lv_at hl 1 rfl) ?_
                  refine lv_iload hx hb dX9_drop_88 (lv_at hl 0 rfl) ?_
                  refine lv_aload_n hx hb dX9_drop_90 rfl (lv_at hl 2 rfl) ?_
                  refine q_get hx hb hts in_X9 hown S m_y e_y (C := RX9) (T := TX9) (N := 23) rfl 3 (by decide) rfl (hts (.fieldLink RX9 20 "SieveCabinetModel" "size" "[I") (gu_wsX9_drop_1 _ gm_3)) dX9_drop_91 ?_
                  refine lv_iload_n hx hb dX9_drop_94 rfl (lv_at hl 3 rfl) ?_
                  obtain ⟨hi95, ho70⟩ := ckx ho70
                  refine q_iald hx hb S m_aSize e_aSize hi95 dX9_drop_95 ?_
                  obtain ⟨z96, hz96, ho70⟩ := bind_some ho70
                  refine q_si (As := [.long z52, .int x6_70, .int (vSize (Int32.toNatClampNeg sq))]) (rest := [.int (sq * (4096 : Int32))]) ⟨hx, hb, hml, hown, hts⟩ (k_X9_markOf l D g hz96) (va_cwS 3 hts gX9_drop_X9_markOf rfl rfl rfl (by decide +kernel) ⟨Nat.le_of_ble_eq_true rfl, Nat.le_of_ble_eq_true rfl⟩) S rfl hl.1 rfl (Nat.le_of_ble_eq_true rfl) dX9_drop_96 ⟨Nat.le_of_ble_eq_true rfl, Nat.le_of_ble_eq_true rfl⟩ (fun r52 L50 f51 H locs S w96 => ?_)
                  obtain ⟨ex96, eL, ef⟩ := w96
                  rw [eL, ef] at S
                  replace ex96 := ex96.symm
                  subst ex96
                  refine lv_iadd hx hb dX9_drop_99 ?_
                  refine lv_istore (lv' := [(7, .int ((sq * (4096 : Int32)) + z96)), (6, .int x6_70), (4, .long z52), (0, .ref y), (1, .int sq), (2, .long t)]) hx hb dX9_drop_100 hl (by decide) rfl (fun ls hl => ?_)
                  refine lv_aload_n hx hb dX9_drop_102 rfl (lv_at hl 3 rfl) ?_
                  refine q_get hx hb hts in_X9 hown S m_y e_y (C := RX9) (T := TX9) (N := 23) rfl 8 (by decide) rfl (hts (.fieldLink RX9 36 "SieveCabinetModel" "row" "[I") (gu_wsX9_drop_1 _ gm_4)) dX9_drop_103 ?_
                  refine lv_iload hx hb dX9_drop_106 (lv_at hl 0 rfl) ?_
                  refine lv_aload_n hx hb dX9_drop_108 rfl (lv_at hl 3 rfl) ?_
                  refine q_get hx hb hts in_X9 hown S m_y e_y (C := RX9) (T := TX9) (N := 23) rfl 8 (by decide) rfl (hts (.fieldLink RX9 36 "SieveCabinetModel" "row" "[I") (gu_wsX9_drop_1 _ gm_4)) dX9_drop_109 ?_
                  refine lv_iload hx hb dX9_drop_112 (lv_at hl 0 rfl) ?_
                  obtain ⟨hi114, ho70⟩ := ckx ho70
                  refine q_iald hx hb S m_aRow e_aRow hi114 dX9_drop_114 ?_
                  refine lv_bipush (v := (15 : Int32)) hx hb dX9_drop_115 (by decide) ?_
                  refine lv_icmp_eq (tgt := 130) hx hb dX9_drop_117 (by decide) (fun b117 => ?_) (fun b117 => ?_)
                  · have ho70 := itT b117 ho70
                    refine lv_aload_n hx hb dX9_drop_130 rfl (lv_at hl 3 rfl) ?_
                    refine q_get hx hb hts in_X9 hown S m_y e_y (C := RX9) (T := TX9) (N := 23) rfl 8 (by decide) rfl (hts (.fieldLink RX9 36 "SieveCabinetModel" "row" "[I") (gu_wsX9_drop_1 _ gm_4)) dX9_drop_131 ?_
                    refine lv_iload hx hb dX9_drop_134 (lv_at hl 0 rfl) ?_
                    obtain ⟨hi136, ho70⟩ := ckx ho70
                    refine q_iald hx hb S m_aRow e_aRow hi136 dX9_drop_136 ?_
                    refine lv_goto (tgt := 149) hx hb dX9_drop_137 (by decide) ?_
                    obtain ⟨hi149, ho70⟩ := ckx ho70
                    refine k_iast hx hb S m_aRow e_aRow hi149 dX9_drop_149 (fun f53 ef53 H locs S => ?_)
                    have e_aRow := up_self ef53
                    have fr : ∀ b, b ∈ L → b ≠ aContents → b ≠ aContentMany → b ≠ aRow → f53 b = f b := fun b mb nb0 nb1 nb2 => (up_ne ef53 nb2 rfl).trans (fr b mb nb0 nb1 nb2)
                    refine lv_iinc (v := (x6_70 + 1)) (lv' := [(6, .int (x6_70 + 1)), (7, .int ((sq * (4096 : Int32)) + z96)), (4, .long z52), (0, .ref y), (1, .int sq), (2, .long t)]) hx hb dX9_drop_150 hl (k := 1) rfl rfl (by decide) rfl (fun ls hl => ?_)
                    refine lv_goto (tgt := 70) hx hb dX9_drop_153 (by decide) ?_
                    have e_y := (up_ne ef53 n_y_aRow e_y)
                    have e_aWorlds := (up_ne ef53 n_aWorlds_aRow e_aWorlds)
                    have e_aInWorld := (up_ne ef53 n_aInWorld_aRow e_aInWorld)
                    have e_aKind := (up_ne ef53 n_aKind_aRow e_aKind)
                    have e_aSize := (up_ne ef53 n_aSize_aRow e_aSize)
                    have e_aMarks := (up_ne ef53 n_aMarks_aRow e_aMarks)
                    have e_aSeed := (up_ne ef53 n_aSeed_aRow e_aSeed)
                    have e_aContents := (up_ne ef53 n_aContents_aRow e_aContents)
                    have e_aContentMany := (up_ne ef53 n_aContentMany_aRow e_aContentMany)
                    have e_aBits := (up_ne ef53 n_aBits_aRow e_aBits)
                    have e_aLayerSize := (up_ne ef53 n_aLayerSize_aRow e_aLayerSize)
                    have e_aLayerCame := (up_ne ef53 n_aLayerCame_aRow e_aLayerCame)
                    have e_aRest := (up_ne ef53 n_aRest_aRow e_aRest)
                    have e_aRestMany := (up_ne ef53 n_aRestMany_aRow e_aRestMany)
                    have e_aCome := (up_ne ef53 n_aCome_aRow e_aCome)
                    have e_aRivals := (up_ne ef53 n_aRivals_aRow e_aRivals)
                    have e_aGone := (up_ne ef53 n_aGone_aRow e_aGone)
                    have e_aOrder := (up_ne ef53 n_aOrder_aRow e_aOrder)
                    have e_aOffAt := (up_ne ef53 n_aOffAt_aRow e_aOffAt)
                    have e_aIsOff := (up_ne ef53 n_aIsOff_aRow e_aIsOff)
                    have e_aAlone := (up_ne ef53 n_aAlone_aRow e_aAlone)
                    have e_aKept := (up_ne ef53 n_aKept_aRow e_aKept)
                    exact ih70 (x6_70 + 1) (upd caRow_70 (Int32.toNatClampNeg ((sq * (4096 : Int32)) + z96)) (caRow_70 (Int32.toNatClampNeg ((sq * (4096 : Int32)) + z96)))) f53 _ _ _ ho70 S e_y e_aWorlds e_aInWorld e_aKind e_aSize e_aMarks e_aSeed e_aContents e_aContentMany e_aRow e_aBits e_aLayerSize e_aLayerCame e_aRest e_aRestMany e_aCome e_aRivals e_aGone e_aOrder e_aOffAt e_aIsOff e_aAlone e_aKept fr (lv_sub hl [0, 2, 3, 4, 5] rfl)
                  · have ho70 := itF b117 ho70
                    refine lv_aload_n hx hb dX9_drop_120 rfl (lv_at hl 3 rfl) ?_
                    refine q_get hx hb hts in_X9 hown S m_y e_y (C := RX9) (T := TX9) (N := 23) rfl 8 (by decide) rfl (hts (.fieldLink RX9 36 "SieveCabinetModel" "row" "[I") (gu_wsX9_drop_1 _ gm_4)) dX9_drop_121 ?_
                    refine lv_iload hx hb dX9_drop_124 (lv_at hl 0 rfl) ?_
                    obtain ⟨hi126, ho70⟩ := ckx ho70
                    refine q_iald hx hb S m_aRow e_aRow hi126 dX9_drop_126 ?_
                    refine lv_if_ne (tgt := 140) hx hb dX9_drop_127 (by decide) (fun b127 => ?_) (fun b127 => ?_)
                    · have ho70 := itF b127 ho70
                      refine lv_aload_n hx hb dX9_drop_140 rfl (lv_at hl 3 rfl) ?_
                      refine q_get hx hb hts in_X9 hown S m_y e_y (C := RX9) (T := TX9) (N := 23) rfl 8 (by decide) rfl (hts (.fieldLink RX9 36 "SieveCabinetModel" "row" "[I") (gu_wsX9_drop_1 _ gm_4)) dX9_drop_141 ?_
                      refine lv_iload hx hb dX9_drop_144 (lv_at hl 0 rfl) ?_
                      obtain ⟨hi146, ho70⟩ := ckx ho70
                      refine q_iald hx hb S m_aRow e_aRow hi146 dX9_drop_146 ?_
                      refine lv_iconst (v := (1 : Int32)) hx hb dX9_drop_147 (by decide) ?_
                      refine lv_isub hx hb dX9_drop_148 ?_
                      obtain ⟨hi149, ho70⟩ := ckx ho70
                      refine k_iast hx hb S m_aRow e_aRow hi149 dX9_drop_149 (fun f54 ef54 H locs S => ?_)
                      have e_aRow := up_self ef54
                      have fr : ∀ b, b ∈ L → b ≠ aContents → b ≠ aContentMany → b ≠ aRow → f54 b = f b := fun b mb nb0 nb1 nb2 => (up_ne ef54 nb2 rfl).trans (fr b mb nb0 nb1 nb2)
                      refine lv_iinc (v := (x6_70 + 1)) (lv' := [(6, .int (x6_70 + 1)), (7, .int ((sq * (4096 : Int32)) + z96)), (4, .long z52), (0, .ref y), (1, .int sq), (2, .long t)]) hx hb dX9_drop_150 hl (k := 1) rfl rfl (by decide) rfl (fun ls hl => ?_)
                      refine lv_goto (tgt := 70) hx hb dX9_drop_153 (by decide) ?_
                      have e_y := (up_ne ef54 n_y_aRow e_y)
                      have e_aWorlds := (up_ne ef54 n_aWorlds_aRow e_aWorlds)
                      have e_aInWorld := (up_ne ef54 n_aInWorld_aRow e_aInWorld)
                      have e_aKind := (up_ne ef54 n_aKind_aRow e_aKind)
                      have e_aSize := (up_ne ef54 n_aSize_aRow e_aSize)
                      have e_aMarks := (up_ne ef54 n_aMarks_aRow e_aMarks)
                      have e_aSeed := (up_ne ef54 n_aSeed_aRow e_aSeed)
                      have e_aContents := (up_ne ef54 n_aContents_aRow e_aContents)
                      have e_aContentMany := (up_ne ef54 n_aContentMany_aRow e_aContentMany)
                      have e_aBits := (up_ne ef54 n_aBits_aRow e_aBits)
                      have e_aLayerSize := (up_ne ef54 n_aLayerSize_aRow e_aLayerSize)
                      have e_aLayerCame := (up_ne ef54 n_aLayerCame_aRow e_aLayerCame)
                      have e_aRest := (up_ne ef54 n_aRest_aRow e_aRest)
                      have e_aRestMany := (up_ne ef54 n_aRestMany_aRow e_aRestMany)
                      have e_aCome := (up_ne ef54 n_aCome_aRow e_aCome)
                      have e_aRivals := (up_ne ef54 n_aRivals_aRow e_aRivals)
                      have e_aGone := (up_ne ef54 n_aGone_aRow e_aGone)
                      have e_aOrder := (up_ne ef54 n_aOrder_aRow e_aOrder)
                      have e_aOffAt := (up_ne ef54 n_aOffAt_aRow e_aOffAt)
                      have e_aIsOff := (up_ne ef54 n_aIsOff_aRow e_aIsOff)
                      have e_aAlone := (up_ne ef54 n_aAlone_aRow e_aAlone)
                      have e_aKept := (up_ne ef54 n_aKept_aRow e_aKept)
                      exact ih70 (x6_70 + 1) (upd caRow_70 (Int32.toNatClampNeg ((sq * (4096 : Int32)) + z96)) ((caRow_70 (Int32.toNatClampNeg ((sq * (4096 : Int32)) + z96))) - (1 : Int32))) f54 _ _ _ ho70 S e_y e_aWorlds e_aInWorld e_aKind e_aSize e_aMarks e_aSeed e_aContents e_aContentMany e_aRow e_aBits e_aLayerSize e_aLayerCame e_aRest e_aRestMany e_aCome e_aRivals e_aGone e_aOrder e_aOffAt e_aIsOff e_aAlone e_aKept fr (lv_sub hl [0, 2, 3, 4, 5] rfl)
                    · have ho70 := itT b127 ho70
                      refine lv_aload_n hx hb dX9_drop_130 rfl (lv_at hl 3 rfl) ?_
                      refine q_get hx hb hts in_X9 hown S m_y e_y (C := RX9) (T := TX9) (N := 23) rfl 8 (by decide) rfl (hts (.fieldLink RX9 36 "SieveCabinetModel" "row" "[I") (gu_wsX9_drop_1 _ gm_4)) dX9_drop_131 ?_
                      refine lv_iload hx hb dX9_drop_134 (lv_at hl 0 rfl) ?_
                      obtain ⟨hi136, ho70⟩ := ckx ho70
                      refine q_iald hx hb S m_aRow e_aRow hi136 dX9_drop_136 ?_
                      refine lv_goto (tgt := 149) hx hb dX9_drop_137 (by decide) ?_
                      obtain ⟨hi149, ho70⟩ := ckx ho70
                      refine k_iast hx hb S m_aRow e_aRow hi149 dX9_drop_149 (fun f55 ef55 H locs S => ?_)
                      have e_aRow := up_self ef55
                      have fr : ∀ b, b ∈ L → b ≠ aContents → b ≠ aContentMany → b ≠ aRow → f55 b = f b := fun b mb nb0 nb1 nb2 => (up_ne ef55 nb2 rfl).trans (fr b mb nb0 nb1 nb2)
                      refine lv_iinc (v := (x6_70 + 1)) (lv' := [(6, .int (x6_70 + 1)), (7, .int ((sq * (4096 : Int32)) + z96)), (4, .long z52), (0, .ref y), (1, .int sq), (2, .long t)]) hx hb dX9_drop_150 hl (k := 1) rfl rfl (by decide) rfl (fun ls hl => ?_)
                      refine lv_goto (tgt := 70) hx hb dX9_drop_153 (by decide) ?_
                      have e_y := (up_ne ef55 n_y_aRow e_y)
                      have e_aWorlds := (up_ne ef55 n_aWorlds_aRow e_aWorlds)
                      have e_aInWorld := (up_ne ef55 n_aInWorld_aRow e_aInWorld)
                      have e_aKind := (up_ne ef55 n_aKind_aRow e_aKind)
                      have e_aSize := (up_ne ef55 n_aSize_aRow e_aSize)
                      have e_aMarks := (up_ne ef55 n_aMarks_aRow e_aMarks)
                      have e_aSeed := (up_ne ef55 n_aSeed_aRow e_aSeed)
                      have e_aContents := (up_ne ef55 n_aContents_aRow e_aContents)
                      have e_aContentMany := (up_ne ef55 n_aContentMany_aRow e_aContentMany)
                      have e_aBits := (up_ne ef55 n_aBits_aRow e_aBits)
                      have e_aLayerSize := (up_ne ef55 n_aLayerSize_aRow e_aLayerSize)
                      have e_aLayerCame := (up_ne ef55 n_aLayerCame_aRow e_aLayerCame)
                      have e_aRest := (up_ne ef55 n_aRest_aRow e_aRest)
                      have e_aRestMany := (up_ne ef55 n_aRestMany_aRow e_aRestMany)
                      have e_aCome := (up_ne ef55 n_aCome_aRow e_aCome)
                      have e_aRivals := (up_ne ef55 n_aRivals_aRow e_aRivals)
                      have e_aGone := (up_ne ef55 n_aGone_aRow e_aGone)
                      have e_aOrder := (up_ne ef55 n_aOrder_aRow e_aOrder)
                      have e_aOffAt := (up_ne ef55 n_aOffAt_aRow e_aOffAt)
                      have e_aIsOff := (up_ne ef55 n_aIsOff_aRow e_aIsOff)
                      have e_aAlone := (up_ne ef55 n_aAlone_aRow e_aAlone)
                      have e_aKept := (up_ne ef55 n_aKept_aRow e_aKept)
                      exact ih70 (x6_70 + 1) (upd caRow_70 (Int32.toNatClampNeg ((sq * (4096 : Int32)) + z96)) (caRow_70 (Int32.toNatClampNeg ((sq * (4096 : Int32)) + z96)))) f55 _ _ _ ho70 S e_y e_aWorlds e_aInWorld e_aKind e_aSize e_aMarks e_aSeed e_aContents e_aContentMany e_aRow e_aBits e_aLayerSize e_aLayerCame e_aRest e_aRestMany e_aCome e_aRivals e_aGone e_aOrder e_aOffAt e_aIsOff e_aAlone e_aKept fr (lv_sub hl [0, 2, 3, 4, 5] rfl)
            exact LP70 FU (0 : Int32) vRow f _ _ _ ho70 S e_y e_aWorlds e_aInWorld e_aKind e_aSize e_aMarks e_aSeed e_aContents e_aContentMany e_aRow e_aBits e_aLayerSize e_aLayerCame e_aRest e_aRestMany e_aCome e_aRivals e_aGone e_aOrder e_aOffAt e_aIsOff e_aAlone e_aKept fr (lv_sub hl [0, 1, 2, 3, 4] rfl)
        · have hM := itT b39 hM
          refine lv_bipush (v := (-5 : Int32)) hx hb dX9_drop_42 (by decide) ?_
          subst hQQ
          exact q_reti (post := fun x L1 f1 => x = z.1 ∧ L1 = L ∧ (∀ b, b ∈ L → b ≠ aContents → b ≠ aContentMany → b ≠ aRow → f1 b = f b) ∧ f1 aContents = .inl (g 1, 30000, .inr (.inl z.2.1)) ∧ f1 aContentMany = .inl (g 0, 30, .inl z.2.2.1) ∧ f1 aRow = .inl (g 0, 122880, .inl z.2.2.2)) hx hb hr hlk S dX9_drop_44 (by decide) (by decide) (by have hz := Option.some.inj hM; subst hz; exact ⟨rfl, rfl, fr, e_aContents, e_aContentMany, e_aRow⟩)
      · have hM := itF b27 hM
        refine lv_bipush (v := (-2 : Int32)) hx hb dX9_drop_30 (by decide) ?_
        subst hQQ
        exact q_reti (post := fun x L1 f1 => x = z.1 ∧ L1 = L ∧ (∀ b, b ∈ L → b ≠ aContents → b ≠ aContentMany → b ≠ aRow → f1 b = f b) ∧ f1 aContents = .inl (g 1, 30000, .inr (.inl z.2.1)) ∧ f1 aContentMany = .inl (g 0, 30, .inl z.2.2.1) ∧ f1 aRow = .inl (g 0, 122880, .inl z.2.2.2)) hx hb hr hlk S dX9_drop_32 (by decide) (by decide) (by have hz := Option.some.inj hM; subst hz; exact ⟨rfl, rfl, fr, e_aContents, e_aContentMany, e_aRow⟩)
  · have hM := itT b5 hM
    refine lv_iconst (v := (-1 : Int32)) hx hb dX9_drop_8 (by decide) ?_
    subst hQQ
    exact q_reti (post := fun x L1 f1 => x = z.1 ∧ L1 = L ∧ (∀ b, b ∈ L → b ≠ aContents → b ≠ aContentMany → b ≠ aRow → f1 b = f b) ∧ f1 aContents = .inl (g 1, 30000, .inr (.inl z.2.1)) ∧ f1 aContentMany = .inl (g 0, 30, .inl z.2.2.1) ∧ f1 aRow = .inl (g 0, 122880, .inl z.2.2.2)) hx hb hr hlk S dX9_drop_9 (by decide) (by decide) (by have hz := Option.some.inj hM; subst hz; exact ⟨rfl, rfl, fr, e_aContents, e_aContentMany, e_aRow⟩)
