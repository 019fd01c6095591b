def mX9_solve_L153 (y24 : Int32) (z101 : Int32 × Int32 × (Nat → Int32) × (Nat → Int32) × (Nat → Int32) × (Nat → Int32) × (Nat → Int32) × (Nat → Int32) × (Nat → Int32)) (z138 : Int64) (caRow_111 : Nat → Int32) : Nat → Int32 → Int32 → Option (Int32 × Int32)
  | 0, _, _ => none
  | fu + 1, x11_153, x10_153 => if (3 : Int32) ≤ x11_153 then (some (x11_153, x10_153)) else ((mX9_solvedPlace z138 x11_153 y24).bind fun z177 => if ix ((z101.1 * (4096 : Int32)) + z177) 122880 = true then (lt_ (x10_153 ^^^ (caRow_111 (Int32.toNatClampNeg ((z101.1 * (4096 : Int32)) + z177)))) fun y183 => mX9_solve_L153 y24 z101 z138 caRow_111 fu (x11_153 + 1) y183) else none)
def mX9_solve_L111 (vWorlds : Nat → Int64) (wi : Int32) (by_ : Int32) (y24 : Int32) (o32 : Int32 × Int32 × (Nat → Int32) × (Nat → Int32) × (Nat → Int32) × (Nat → Int32)) (z101 : Int32 × Int32 × (Nat → Int32) × (Nat → Int32) × (Nat → Int32) × (Nat → Int32) × (Nat → Int32) × (Nat → Int32) × (Nat → Int32)) : Nat → Int32 → (Nat → Int32) → Option (Int32 × (Nat → Int32))
  | 0, _, _ => none
  | fu + 1, x7_111, caRow_111 => if x7_111 < 0 then (some (x7_111, caRow_111)) else (if ix x7_111 1000 = true then (if ix ((wi * (1000 : Int32)) + (o32.2.2.1 (Int32.toNatClampNeg x7_111))) 8000 = true then ((mX9_mix (vWorlds (Int32.toNatClampNeg ((wi * (1000 : Int32)) + (o32.2.2.1 (Int32.toNatClampNeg x7_111))))) (by_ + o32.2.1)).bind fun z138 => (mX9_solvedTag z138).bind fun z145 => (mX9_solve_L153 y24 z101 z138 caRow_111 FU (0 : Int32) z145).bind fun o153 => if ix x7_111 1000 = true then (if ix ((z101.1 * (4096 : Int32)) + (o32.2.2.2.1 (Int32.toNatClampNeg x7_111))) 122880 = true then (mX9_solve_L111 vWorlds wi by_ y24 o32 z101 fu (x7_111 + (-1)) (upd caRow_111 (Int32.toNatClampNeg ((z101.1 * (4096 : Int32)) + (o32.2.2.2.1 (Int32.toNatClampNeg x7_111)))) o153.2)) else none) else none) else none) else none)
def mX9_solve_L32 (vWorlds : Nat → Int64) (vInWorld : Nat → Int32) (wi : Int32) (by_ : Int32) (y24 : Int32) : Nat → Int32 → Int32 → (Nat → Int32) → (Nat → Int32) → (Nat → Int32) → (Nat → Int32) → Option (Int32 × Int32 × (Nat → Int32) × (Nat → Int32) × (Nat → Int32) × (Nat → Int32))
  | 0, _, _, _, _, _, _ => none
  | fu + 1, x6_32, x5_32, caOrder_32, caOffAt_32, caIsOff_32, caAlone_32 => if (50 : Int32) ≤ x6_32 then (some (x6_32, x5_32, caOrder_32, caOffAt_32, caIsOff_32, caAlone_32)) else (if 0 ≤ x5_32 then (some (x6_32, x5_32, caOrder_32, caOffAt_32, caIsOff_32, caAlone_32)) else ((mX9_takeOff vWorlds vInWorld caOrder_32 caOffAt_32 caIsOff_32 caAlone_32 wi (by_ + x6_32) y24).bind fun z52 => if z52.1 = 0 then (mX9_solve_L32 vWorlds vInWorld wi by_ y24 fu (x6_32 + 1) (-1 : Int32) z52.2.1 z52.2.2.1 z52.2.2.2.1 z52.2.2.2.2) else (mX9_solve_L32 vWorlds vInWorld wi by_ y24 fu (x6_32 + 1) x6_32 z52.2.1 z52.2.2.1 z52.2.2.2.1 z52.2.2.2.2)))
def mX9_solve (many : Int32) (vWorlds : Nat → Int64) (vInWorld : Nat → Int32) (vKind : Nat → Int32) (vSize : Nat → Int32) (vMarks : Nat → Int32) (vSeed : Nat → Int32) (vContents : Nat → Int64) (vContentMany : Nat → Int32) (vRow : Nat → Int32) (vRestMany : Nat → Int32) (vOrder : Nat → Int32) (vOffAt : Nat → Int32) (vIsOff : Nat → Int32) (vAlone : Nat → Int32) (wi : Int32) (by_ : Int32) : Option (Int32 × Int32 × (Nat → Int32) × (Nat → Int32) × (Nat → Int32) × (Nat → Int32) × (Nat → Int64) × (Nat → Int32) × (Nat → Int32) × (Nat → Int32) × (Nat → Int32) × (Nat → Int32) × (Nat → Int32) × (Nat → Int32)) := (mX9_isWorld wi).bind fun z1 => if z1 = 0 then (some ((-1 : Int32), many, vKind, vSize, vMarks, vSeed, vContents, vContentMany, vRow, vRestMany, vOrder, vOffAt, vIsOff, vAlone)) else (if ix wi 8 = true then (lt_ (((vInWorld (Int32.toNatClampNeg wi)) + ((vInWorld (Int32.toNatClampNeg wi)) / (4 : Int32))) + (8 : Int32)) fun y24 => (mX9_solve_L32 vWorlds vInWorld wi by_ y24 FU (0 : Int32) (-1 : Int32) vOrder vOffAt vIsOff vAlone).bind fun o32 => if 0 ≤ o32.2.1 then (if many = (30 : Int32) then (some ((-4 : Int32), many, vKind, vSize, vMarks, vSeed, vContents, vContentMany, vRow, vRestMany, o32.2.2.1, o32.2.2.2.1, o32.2.2.2.2.1, o32.2.2.2.2.2)) else ((mX9_begin many vKind vSize vMarks vSeed vContentMany vRow vRestMany (3 : Int32) y24 (0 : Int32) (by_ + o32.2.1)).bind fun z101 => lt_ ((vInWorld (Int32.toNatClampNeg wi)) - (1 : Int32)) fun y109 => (mX9_solve_L111 vWorlds wi by_ y24 o32 z101 FU y109 z101.2.2.2.2.2.2.2.1).bind fun o111 => (mX9_fillFrom vWorlds vInWorld vContents z101.2.2.2.2.2.2.1 z101.1 wi).bind fun z222 => some (z101.1, z101.2.1, z101.2.2.1, z101.2.2.2.1, z101.2.2.2.2.1, z101.2.2.2.2.2.1, z222.1, z222.2, o111.2, z101.2.2.2.2.2.2.2.2, o32.2.2.1, o32.2.2.2.1, o32.2.2.2.2.1, o32.2.2.2.2.2))) else (some ((-3 : Int32), many, vKind, vSize, vMarks, vSeed, vContents, vContentMany, vRow, vRestMany, o32.2.2.1, o32.2.2.2.1, o32.2.2.2.2.1, o32.2.2.2.2.2))) else none)
set_option maxHeartbeats 4000000 in
set_option maxRecDepth 100000 in
theorem k_X9_solve (l : Launch) (D : va_G) (g : Nat → ClassId) {L : List Nat} {f : Nat → va_E} {aAlone aBits aCome aContentMany aContents aGone aInWorld aIsOff aKept aKind aLayerCame aLayerSize aMarks aOffAt aOrder aRest aRestMany aRivals aRow aSeed aSize aWorlds y : Nat} {many : Int32} {vWorlds : Nat → Int64} {vInWorld : Nat → Int32} {vKind : Nat → Int32} {vSize : Nat → Int32} {vMarks : Nat → Int32} {vSeed : Nat → Int32} {vContents : Nat → Int64} {vContentMany : Nat → Int32} {vRow : Nat → Int32} {vBits : Nat → Int32} {vLayerSize : Nat → Int32} {vLayerCame : Nat → Int32} {vRest : Nat → Int64} {vRestMany : Nat → Int32} {vCome : Nat → Int64} {vRivals : Nat → Int64} {vGone : Nat → Int64} {vOrder : Nat → Int32} {vOffAt : Nat → Int32} {vIsOff : Nat → Int32} {vAlone : Nat → Int32} {vKept : Nat → Int32} {wi : Int32} {by_ : Int32} {ρ : Nat → Nat × Nat} {z : Int32 × Int32 × (Nat → Int32) × (Nat → Int32) × (Nat → Int32) × (Nat → Int32) × (Nat → Int64) × (Nat → Int32) × (Nat → Int32) × (Nat → Int32) × (Nat → Int32) × (Nat → Int32) × (Nat → Int32) × (Nat → Int32)} (m_y : y ∈ L) (e_y : f y = .inr (7, [.ref aWorlds, .ref aInWorld, .ref aKind, .ref aSize, .ref aMarks, .ref aSeed, .ref aContents, .ref aContentMany, .ref aRow, .ref aBits, .ref aLayerSize, .ref aLayerCame, .ref aRest, .ref aRestMany, .int many, .ref aCome, .ref aRivals, .ref aGone, .ref aOrder, .ref aOffAt, .ref aIsOff, .ref aAlone, .ref aKept])) (m_aWorlds : aWorlds ∈ L) (e_aWorlds : f aWorlds = .inl (g 1, 8000, .inr (.inl vWorlds))) (m_aInWorld : aInWorld ∈ L) (e_aInWorld : f aInWorld = .inl (g 0, 8, .inl vInWorld)) (m_aKind : aKind ∈ L) (e_aKind : f aKind = .inl (g 0, 30, .inl vKind)) (m_aSize : aSize ∈ L) (e_aSize : f aSize = .inl (g 0, 30, .inl vSize)) (m_aMarks : aMarks ∈ L) (e_aMarks : f aMarks = .inl (g 0, 30, .inl vMarks)) (m_aSeed : aSeed ∈ L) (e_aSeed : f aSeed = .inl (g 0, 30, .inl vSeed)) (m_aContents : aContents ∈ L) (e_aContents : f aContents = .inl (g 1, 30000, .inr (.inl vContents))) (m_aContentMany : aContentMany ∈ L) (e_aContentMany : f aContentMany = .inl (g 0, 30, .inl vContentMany)) (m_aRow : aRow ∈ L) (e_aRow : f aRow = .inl (g 0, 122880, .inl vRow)) (m_aBits : aBits ∈ L) (e_aBits : f aBits = .inl (g 0, 76800, .inl vBits)) (m_aLayerSize : aLayerSize ∈ L) (e_aLayerSize : f aLayerSize = .inl (g 0, 600, .inl vLayerSize)) (m_aLayerCame : aLayerCame ∈ L) (e_aLayerCame : f aLayerCame = .inl (g 0, 600, .inl vLayerCame)) (m_aRest : aRest ∈ L) (e_aRest : f aRest = .inl (g 1, 30000, .inr (.inl vRest))) (m_aRestMany : aRestMany ∈ L) (e_aRestMany : f aRestMany = .inl (g 0, 30, .inl vRestMany)) (m_aCome : aCome ∈ L) (e_aCome : f aCome = .inl (g 1, 1000, .inr (.inl vCome))) (m_aRivals : aRivals ∈ L) (e_aRivals : f aRivals = .inl (g 1, 1000, .inr (.inl vRivals))) (m_aGone : aGone ∈ L) (e_aGone : f aGone = .inl (g 1, 1000, .inr (.inl vGone))) (m_aOrder : aOrder ∈ L) (e_aOrder : f aOrder = .inl (g 0, 1000, .inl vOrder)) (m_aOffAt : aOffAt ∈ L) (e_aOffAt : f aOffAt = .inl (g 0, 1000, .inl vOffAt)) (m_aIsOff : aIsOff ∈ L) (e_aIsOff : f aIsOff = .inl (g 2, 1000, .inl vIsOff)) (m_aAlone : aAlone ∈ L) (e_aAlone : f aAlone = .inl (g 0, 4096, .inl vAlone)) (m_aKept : aKept ∈ L) (e_aKept : f aKept = .inl (g 0, 4096, .inl vKept))  (r_aKind : ρ aKind = (500, 3)) (r_aSize : ρ aSize = (500, 4)) (r_aMarks : ρ aMarks = (500, 5)) (r_aSeed : ρ aSeed = (500, 6)) (r_aContents : ρ aContents = (500, 7)) (r_aContentMany : ρ aContentMany = (500, 8)) (r_aRest : ρ aRest = (500, 13)) (r_aRestMany : ρ aRestMany = (500, 14)) (r_aOrder : ρ aOrder = (500, 19)) (r_aOffAt : ρ aOffAt = (500, 20)) (r_aIsOff : ρ aIsOff = (500, 21)) (r_aAlone : ρ aAlone = (500, 22)) (r_aKept : ρ aKept = (500, 23))  (hM : mX9_solve many vWorlds vInWorld vKind vSize vMarks vSeed vContents vContentMany vRow vRestMany vOrder vOffAt vIsOff vAlone wi by_ = some z) : cI l yX9_solve wsX9_solve { frames := 2, cells := 0, slots := 0, locals := 52 } D g [.ref y, .int wi, .int by_] L f 0 0 (fun x L1 f1 => x = z.1 ∧ L1 = L ∧ (∀ b, b ∈ L → b ≠ y → b ≠ aKind → b ≠ aSize → b ≠ aMarks → b ≠ aSeed → b ≠ aContents → b ≠ aContentMany → b ≠ aRow → b ≠ aRestMany → b ≠ aOrder → b ≠ aOffAt → b ≠ aIsOff → b ≠ aAlone → f1 b = f b) ∧ f1 y = .inr (7, [.ref aWorlds, .ref aInWorld, .ref aKind, .ref aSize, .ref aMarks, .ref aSeed, .ref aContents, .ref aContentMany, .ref aRow, .ref aBits, .ref aLayerSize, .ref aLayerCame, .ref aRest, .ref aRestMany, .int z.2.1, .ref aCome, .ref aRivals, .ref aGone, .ref aOrder, .ref aOffAt, .ref aIsOff, .ref aAlone, .ref aKept]) ∧ f1 aKind = .inl (g 0, 30, .inl z.2.2.1) ∧ f1 aSize = .inl (g 0, 30, .inl z.2.2.2.1) ∧ f1 aMarks = .inl (g 0, 30, .inl z.2.2.2.2.1) ∧ f1 aSeed = .inl (g 0, 30, .inl z.2.2.2.2.2.1) ∧ f1 aContents = .inl (g 1, 30000, .inr (.inl z.2.2.2.2.2.2.1)) ∧ f1 aContentMany = .inl (g 0, 30, .inl z.2.2.2.2.2.2.2.1) ∧ f1 aRow = .inl (g 0, 122880, .inl z.2.2.2.2.2.2.2.2.1) ∧ f1 aRestMany = .inl (g 0, 30, .inl z.2.2.2.2.2.2.2.2.2.1) ∧ f1 aOrder = .inl (g 0, 1000, .inl z.2.2.2.2.2.2.2.2.2.2.1) ∧ f1 aOffAt = .inl (g 0, 1000, .inl z.2.2.2.2.2.2.2.2.2.2.2.1) ∧ f1 aIsOff = .inl (g 2, 1000, .inl z.2.2.2.2.2.2.2.2.2.2.2.2.1) ∧ f1 aAlone = .inl (g 0, 4096, .inl z.2.2.2.2.2.2.2.2.2.2.2.2.2)) := by
  refine cI_of (cc := cX9_solve) (maxL := 12) (ret := (some .int)) (by decide) rfl (Nat.le_of_ble_eq_true rfl) ?_
  intro szz p e s m below meth c hx hb hr hml hts hown hlk hnm S ls hl
  have hl : lv_has ls 12 [(0, .ref y), (1, .int wi), (2, .int by_)] := hl
  have in_X9 : ∀ w ∈ wsX90, w ∈ wsX9_solve := by decide +kernel
  have n_aWorlds_y : aWorlds ≠ y := ne_ri e_y e_aWorlds
  have n_aWorlds_aKind : aWorlds ≠ aKind := ne_len e_aKind e_aWorlds (by decide)
  have n_aWorlds_aSize : aWorlds ≠ aSize := ne_len e_aSize e_aWorlds (by decide)
  have n_aWorlds_aMarks : aWorlds ≠ aMarks := ne_len e_aMarks e_aWorlds (by decide)
  have n_aWorlds_aSeed : aWorlds ≠ aSeed := ne_len e_aSeed e_aWorlds (by decide)
  have n_aWorlds_aContentMany : aWorlds ≠ aContentMany := ne_len e_aContentMany e_aWorlds (by decide)
  have n_aWorlds_aRow : aWorlds ≠ aRow := ne_len e_aRow e_aWorlds (by decide)
  have n_aWorlds_aRestMany : aWorlds ≠ aRestMany := ne_len e_aRestMany e_aWorlds (by decide)
  have n_aInWorld_y : aInWorld ≠ y := ne_ri e_y e_aInWorld
  have n_aInWorld_aKind : aInWorld ≠ aKind := ne_len e_aKind e_aInWorld (by decide)
  have n_aInWorld_aSize : aInWorld ≠ aSize := ne_len e_aSize e_aInWorld (by decide)
  have n_aInWorld_aMarks : aInWorld ≠ aMarks := ne_len e_aMarks e_aInWorld (by decide)
  have n_aInWorld_aSeed : aInWorld ≠ aSeed := ne_len e_aSeed e_aInWorld (by decide)
  have n_aInWorld_aContentMany : aInWorld ≠ aContentMany := ne_len e_aContentMany e_aInWorld (by decide)
  have n_aInWorld_aRow : aInWorld ≠ aRow := ne_len e_aRow e_aInWorld (by decide)
  have n_aInWorld_aRestMany : aInWorld ≠ aRestMany := ne_len e_aRestMany e_aInWorld (by decide)
  have n_aContents_y : aContents ≠ y := ne_ri e_y e_aContents
  have n_aContents_aKind : aContents ≠ aKind := ne_len e_aKind e_aContents (by decide)
  have n_aContents_aSize : aContents ≠ aSize := ne_len e_aSize e_aContents (by decide)
  have n_aContents_aMarks : aContents ≠ aMarks := ne_len e_aMarks e_aContents (by decide)
  have n_aContents_aSeed : aContents ≠ aSeed := ne_len e_aSeed e_aContents (by decide)
  have n_aContents_aContentMany : aContents ≠ aContentMany := ne_len e_aContentMany e_aContents (by decide)
  have n_aContents_aRow : aContents ≠ aRow := ne_len e_aRow e_aContents (by decide)
  have n_aContents_aRestMany : aContents ≠ aRestMany := ne_len e_aRestMany e_aContents (by decide)
  have n_aBits_y : aBits ≠ y := ne_ri e_y e_aBits
  have n_aBits_aKind : aBits ≠ aKind := ne_len e_aKind e_aBits (by decide)
  have n_aBits_aSize : aBits ≠ aSize := ne_len e_aSize e_aBits (by decide)
  have n_aBits_aMarks : aBits ≠ aMarks := ne_len e_aMarks e_aBits (by decide)
  have n_aBits_aSeed : aBits ≠ aSeed := ne_len e_aSeed e_aBits (by decide)
  have n_aBits_aContentMany : aBits ≠ aContentMany := ne_len e_aContentMany e_aBits (by decide)
  have n_aBits_aRow : aBits ≠ aRow := ne_len e_aRow e_aBits (by decide)
  have n_aBits_aRestMany : aBits ≠ aRestMany := ne_len e_aRestMany e_aBits (by decide)
  have n_aLayerSize_y : aLayerSize ≠ y := ne_ri e_y e_aLayerSize
  have n_aLayerSize_aKind : aLayerSize ≠ aKind := ne_len e_aKind e_aLayerSize (by decide)
  have n_aLayerSize_aSize : aLayerSize ≠ aSize := ne_len e_aSize e_aLayerSize (by decide)
  have n_aLayerSize_aMarks : aLayerSize ≠ aMarks := ne_len e_aMarks e_aLayerSize (by decide)
  have n_aLayerSize_aSeed : aLayerSize ≠ aSeed := ne_len e_aSeed e_aLayerSize (by decide)
  have n_aLayerSize_aContentMany : aLayerSize ≠ aContentMany := ne_len e_aContentMany e_aLayerSize (by decide)
  have n_aLayerSize_aRow : aLayerSize ≠ aRow := ne_len e_aRow e_aLayerSize (by decide)
  have n_aLayerSize_aRestMany : aLayerSize ≠ aRestMany := ne_len e_aRestMany e_aLayerSize (by decide)
  have n_aLayerCame_y : aLayerCame ≠ y := ne_ri e_y e_aLayerCame
  have n_aLayerCame_aKind : aLayerCame ≠ aKind := ne_len e_aKind e_aLayerCame (by decide)
  have n_aLayerCame_aSize : aLayerCame ≠ aSize := ne_len e_aSize e_aLayerCame (by decide)
  have n_aLayerCame_aMarks : aLayerCame ≠ aMarks := ne_len e_aMarks e_aLayerCame (by decide)
  have n_aLayerCame_aSeed : aLayerCame ≠ aSeed := ne_len e_aSeed e_aLayerCame (by decide)
  have n_aLayerCame_aContentMany : aLayerCame ≠ aContentMany := ne_len e_aContentMany e_aLayerCame (by decide)
  have n_aLayerCame_aRow : aLayerCame ≠ aRow := ne_len e_aRow e_aLayerCame (by decide)
  have n_aLayerCame_aRestMany : aLayerCame ≠ aRestMany := ne_len e_aRestMany e_aLayerCame (by decide)
  have n_aRest_y : aRest ≠ y := ne_ri e_y e_aRest
  have n_aRest_aKind : aRest ≠ aKind := ne_len e_aKind e_aRest (by decide)
  have n_aRest_aSize : aRest ≠ aSize := ne_len e_aSize e_aRest (by decide)
  have n_aRest_aMarks : aRest ≠ aMarks := ne_len e_aMarks e_aRest (by decide)
  have n_aRest_aSeed : aRest ≠ aSeed := ne_len e_aSeed e_aRest (by decide)
  have n_aRest_aContentMany : aRest ≠ aContentMany := ne_len e_aContentMany e_aRest (by decide)
  have n_aRest_aRow : aRest ≠ aRow := ne_len e_aRow e_aRest (by decide)
  have n_aRest_aRestMany : aRest ≠ aRestMany := ne_len e_aRestMany e_aRest (by decide)
  have n_aCome_y : aCome ≠ y := ne_ri e_y e_aCome
  have n_aCome_aKind : aCome ≠ aKind := ne_len e_aKind e_aCome (by decide)
  have n_aCome_aSize : aCome ≠ aSize := ne_len e_aSize e_aCome (by decide)
  have n_aCome_aMarks : aCome ≠ aMarks := ne_len e_aMarks e_aCome (by decide)
  have n_aCome_aSeed : aCome ≠ aSeed := ne_len e_aSeed e_aCome (by decide)
  have n_aCome_aContentMany : aCome ≠ aContentMany := ne_len e_aContentMany e_aCome (by decide)
  have n_aCome_aRow : aCome ≠ aRow := ne_len e_aRow e_aCome (by decide)
  have n_aCome_aRestMany : aCome ≠ aRestMany := ne_len e_aRestMany e_aCome (by decide)
  have n_aRivals_y : aRivals ≠ y := ne_ri e_y e_aRivals
  have n_aRivals_aKind : aRivals ≠ aKind := ne_len e_aKind e_aRivals (by decide)
  have n_aRivals_aSize : aRivals ≠ aSize := ne_len e_aSize e_aRivals (by decide)
  have n_aRivals_aMarks : aRivals ≠ aMarks := ne_len e_aMarks e_aRivals (by decide)
  have n_aRivals_aSeed : aRivals ≠ aSeed := ne_len e_aSeed e_aRivals (by decide)
  have n_aRivals_aContentMany : aRivals ≠ aContentMany := ne_len e_aContentMany e_aRivals (by decide)
  have n_aRivals_aRow : aRivals ≠ aRow := ne_len e_aRow e_aRivals (by decide)
  have n_aRivals_aRestMany : aRivals ≠ aRestMany := ne_len e_aRestMany e_aRivals (by decide)
  have n_aGone_y : aGone ≠ y := ne_ri e_y e_aGone
  have n_aGone_aKind : aGone ≠ aKind := ne_len e_aKind e_aGone (by decide)
  have n_aGone_aSize : aGone ≠ aSize := ne_len e_aSize e_aGone (by decide)
  have n_aGone_aMarks : aGone ≠ aMarks := ne_len e_aMarks e_aGone (by decide)
  have n_aGone_aSeed : aGone ≠ aSeed := ne_len e_aSeed e_aGone (by decide)
  have n_aGone_aContentMany : aGone ≠ aContentMany := ne_len e_aContentMany e_aGone (by decide)
  have n_aGone_aRow : aGone ≠ aRow := ne_len e_aRow e_aGone (by decide)
  have n_aGone_aRestMany : aGone ≠ aRestMany := ne_len e_aRestMany e_aGone (by decide)
  have n_aOrder_y : aOrder ≠ y := ne_ri e_y e_aOrder
  have n_aOrder_aKind : aOrder ≠ aKind := ne_len e_aKind e_aOrder (by decide)
  have n_aOrder_aSize : aOrder ≠ aSize := ne_len e_aSize e_aOrder (by decide)
  have n_aOrder_aMarks : aOrder ≠ aMarks := ne_len e_aMarks e_aOrder (by decide)
  have n_aOrder_aSeed : aOrder ≠ aSeed := ne_len e_aSeed e_aOrder (by decide)
  have n_aOrder_aContentMany : aOrder ≠ aContentMany := ne_len e_aContentMany e_aOrder (by decide)
  have n_aOrder_aRow : aOrder ≠ aRow := ne_len e_aRow e_aOrder (by decide)
  have n_aOrder_aRestMany : aOrder ≠ aRestMany := ne_len e_aRestMany e_aOrder (by decide)
  have n_aOffAt_y : aOffAt ≠ y := ne_ri e_y e_aOffAt
  have n_aOffAt_aKind : aOffAt ≠ aKind := ne_len e_aKind e_aOffAt (by decide)
  have n_aOffAt_aSize : aOffAt ≠ aSize := ne_len e_aSize e_aOffAt (by decide)
  have n_aOffAt_aMarks : aOffAt ≠ aMarks := ne_len e_aMarks e_aOffAt (by decide)
  have n_aOffAt_aSeed : aOffAt ≠ aSeed := ne_len e_aSeed e_aOffAt (by decide)
  have n_aOffAt_aContentMany : aOffAt ≠ aContentMany := ne_len e_aContentMany e_aOffAt (by decide)
  have n_aOffAt_aRow : aOffAt ≠ aRow := ne_len e_aRow e_aOffAt (by decide)
  have n_aOffAt_aRestMany : aOffAt ≠ aRestMany := ne_len e_aRestMany e_aOffAt (by decide)
  have n_aIsOff_y : aIsOff ≠ y := ne_ri e_y e_aIsOff
  have n_aIsOff_aKind : aIsOff ≠ aKind := ne_len e_aKind e_aIsOff (by decide)
  have n_aIsOff_aSize : aIsOff ≠ aSize := ne_len e_aSize e_aIsOff (by decide)
  have n_aIsOff_aMarks : aIsOff ≠ aMarks := ne_len e_aMarks e_aIsOff (by decide)
  have n_aIsOff_aSeed : aIsOff ≠ aSeed := ne_len e_aSeed e_aIsOff (by decide)
  have n_aIsOff_aContentMany : aIsOff ≠ aContentMany := ne_len e_aContentMany e_aIsOff (by decide)
  have n_aIsOff_aRow : aIsOff ≠ aRow := ne_len e_aRow e_aIsOff (by decide)
  have n_aIsOff_aRestMany : aIsOff ≠ aRestMany := ne_len e_aRestMany e_aIsOff (by decide)
  have n_aAlone_y : aAlone ≠ y := ne_ri e_y e_aAlone
  have n_aAlone_aKind : aAlone ≠ aKind := ne_len e_aKind e_aAlone (by decide)
  have n_aAlone_aSize : aAlone ≠ aSize := ne_len e_aSize e_aAlone (by decide)
  have n_aAlone_aMarks : aAlone ≠ aMarks := ne_len e_aMarks e_aAlone (by decide)
  have n_aAlone_aSeed : aAlone ≠ aSeed := ne_len e_aSeed e_aAlone (by decide)
  have n_aAlone_aContentMany : aAlone ≠ aContentMany := ne_len e_aContentMany e_aAlone (by decide)
  have n_aAlone_aRow : aAlone ≠ aRow := ne_len e_aRow e_aAlone (by decide)
  have n_aAlone_aRestMany : aAlone ≠ aRestMany := ne_len e_aRestMany e_aAlone (by decide)
  have n_aKept_y : aKept ≠ y := ne_ri e_y e_aKept
  have n_aKept_aKind : aKept ≠ aKind := ne_len e_aKind e_aKept (by decide)
  have n_aKept_aSize : aKept ≠ aSize := ne_len e_aSize e_aKept (by decide)
  have n_aKept_aMarks : aKept ≠ aMarks := ne_len e_aMarks e_aKept (by decide)
  have n_aKept_aSeed : aKept ≠ aSeed := ne_len e_aSeed e_aKept (by decide)
  have n_aKept_aContentMany : aKept ≠ aContentMany := ne_len e_aContentMany e_aKept (by decide)
  have n_aKept_aRow : aKept ≠ aRow := ne_len e_aRow e_aKept (by decide)
  have n_aKept_aRestMany : aKept ≠ aRestMany := ne_len e_aRestMany e_aKept (by decide)
  have n_y_aContents : y ≠ aContents := ne_ir e_aContents e_y
  have n_y_aContentMany : y ≠ aContentMany := ne_ir e_aContentMany e_y
  have n_aKind_aContents : aKind ≠ aContents := ne_len e_aContents e_aKind (by decide)
  have n_aKind_aContentMany : aKind ≠ aContentMany := role_ne r_aContentMany r_aKind (by decide)
  have n_aSize_aContents : aSize ≠ aContents := ne_len e_aContents e_aSize (by decide)
  have n_aSize_aContentMany : aSize ≠ aContentMany := role_ne r_aContentMany r_aSize (by decide)
  have n_aMarks_aContents : aMarks ≠ aContents := ne_len e_aContents e_aMarks (by decide)
  have n_aMarks_aContentMany : aMarks ≠ aContentMany := role_ne r_aContentMany r_aMarks (by decide)
  have n_aSeed_aContents : aSeed ≠ aContents := ne_len e_aContents e_aSeed (by decide)
  have n_aSeed_aContentMany : aSeed ≠ aContentMany := role_ne r_aContentMany r_aSeed (by decide)
  have n_aRow_aContents : aRow ≠ aContents := ne_len e_aContents e_aRow (by decide)
  have n_aRow_aContentMany : aRow ≠ aContentMany := ne_len e_aContentMany e_aRow (by decide)
  have n_aRestMany_aContents : aRestMany ≠ aContents := ne_len e_aContents e_aRestMany (by decide)
  have n_aRestMany_aContentMany : aRestMany ≠ aContentMany := role_ne r_aContentMany r_aRestMany (by decide)
  have n_aOrder_aContents : aOrder ≠ aContents := ne_len e_aContents e_aOrder (by decide)
  have n_aOffAt_aContents : aOffAt ≠ aContents := ne_len e_aContents e_aOffAt (by decide)
  have n_aIsOff_aContents : aIsOff ≠ aContents := ne_len e_aContents e_aIsOff (by decide)
  have n_aAlone_aContents : aAlone ≠ aContents := ne_len e_aContents e_aAlone (by decide)
  have n_y_aRow : y ≠ aRow := ne_ir e_aRow e_y
  have n_aKind_aRow : aKind ≠ aRow := ne_len e_aRow e_aKind (by decide)
  have n_aSize_aRow : aSize ≠ aRow := ne_len e_aRow e_aSize (by decide)
  have n_aMarks_aRow : aMarks ≠ aRow := ne_len e_aRow e_aMarks (by decide)
  have n_aSeed_aRow : aSeed ≠ aRow := ne_len e_aRow e_aSeed (by decide)
  have n_aContentMany_aRow : aContentMany ≠ aRow := ne_len e_aRow e_aContentMany (by decide)
  have n_aRestMany_aRow : aRestMany ≠ aRow := ne_len e_aRow e_aRestMany (by decide)
  have n_y_aOrder : y ≠ aOrder := ne_ir e_aOrder e_y
  have n_y_aOffAt : y ≠ aOffAt := ne_ir e_aOffAt e_y
  have n_y_aIsOff : y ≠ aIsOff := ne_ir e_aIsOff e_y
  have n_y_aAlone : y ≠ aAlone := ne_ir e_aAlone e_y
  have n_aWorlds_aOrder : aWorlds ≠ aOrder := ne_len e_aOrder e_aWorlds (by decide)
  have n_aWorlds_aOffAt : aWorlds ≠ aOffAt := ne_len e_aOffAt e_aWorlds (by decide)
  have n_aWorlds_aIsOff : aWorlds ≠ aIsOff := ne_len e_aIsOff e_aWorlds (by decide)
  have n_aWorlds_aAlone : aWorlds ≠ aAlone := ne_len e_aAlone e_aWorlds (by decide)
  have n_aInWorld_aOrder : aInWorld ≠ aOrder := ne_len e_aOrder e_aInWorld (by decide)
  have n_aInWorld_aOffAt : aInWorld ≠ aOffAt := ne_len e_aOffAt e_aInWorld (by decide)
  have n_aInWorld_aIsOff : aInWorld ≠ aIsOff := ne_len e_aIsOff e_aInWorld (by decide)
  have n_aInWorld_aAlone : aInWorld ≠ aAlone := ne_len e_aAlone e_aInWorld (by decide)
  have n_aKind_aOrder : aKind ≠ aOrder := ne_len e_aOrder e_aKind (by decide)
  have n_aKind_aOffAt : aKind ≠ aOffAt := ne_len e_aOffAt e_aKind (by decide)
  have n_aKind_aIsOff : aKind ≠ aIsOff := ne_len e_aIsOff e_aKind (by decide)
  have n_aKind_aAlone : aKind ≠ aAlone := ne_len e_aAlone e_aKind (by decide)
  have n_aSize_aOrder : aSize ≠ aOrder := ne_len e_aOrder e_aSize (by decide)
  have n_aSize_aOffAt : aSize ≠ aOffAt := ne_len e_aOffAt e_aSize (by decide)
  have n_aSize_aIsOff : aSize ≠ aIsOff := ne_len e_aIsOff e_aSize (by decide)
  have n_aSize_aAlone : aSize ≠ aAlone := ne_len e_aAlone e_aSize (by decide)
  have n_aMarks_aOrder : aMarks ≠ aOrder := ne_len e_aOrder e_aMarks (by decide)
  have n_aMarks_aOffAt : aMarks ≠ aOffAt := ne_len e_aOffAt e_aMarks (by decide)
  have n_aMarks_aIsOff : aMarks ≠ aIsOff := ne_len e_aIsOff e_aMarks (by decide)
  have n_aMarks_aAlone : aMarks ≠ aAlone := ne_len e_aAlone e_aMarks (by decide)
  have n_aSeed_aOrder : aSeed ≠ aOrder := ne_len e_aOrder e_aSeed (by decide)
  have n_aSeed_aOffAt : aSeed ≠ aOffAt := ne_len e_aOffAt e_aSeed (by decide)
  have n_aSeed_aIsOff : aSeed ≠ aIsOff := ne_len e_aIsOff e_aSeed (by decide)
  have n_aSeed_aAlone : aSeed ≠ aAlone := ne_len e_aAlone e_aSeed (by decide)
  have n_aContents_aOrder : aContents ≠ aOrder := ne_len e_aOrder e_aContents (by decide)
  have n_aContents_aOffAt : aContents ≠ aOffAt := ne_len e_aOffAt e_aContents (by decide)
  have n_aContents_aIsOff : aContents ≠ aIsOff := ne_len e_aIsOff e_aContents (by decide)
  have n_aContents_aAlone : aContents ≠ aAlone := ne_len e_aAlone e_aContents (by decide)
  have n_aContentMany_aOrder : aContentMany ≠ aOrder := ne_len e_aOrder e_aContentMany (by decide)
  have n_aContentMany_aOffAt : aContentMany ≠ aOffAt := ne_len e_aOffAt e_aContentMany (by decide)
  have n_aContentMany_aIsOff : aContentMany ≠ aIsOff := ne_len e_aIsOff e_aContentMany (by decide)
  have n_aContentMany_aAlone : aContentMany ≠ aAlone := ne_len e_aAlone e_aContentMany (by decide)
  have n_aRow_aOrder : aRow ≠ aOrder := ne_len e_aOrder e_aRow (by decide)
  have n_aRow_aOffAt : aRow ≠ aOffAt := ne_len e_aOffAt e_aRow (by decide)
  have n_aRow_aIsOff : aRow ≠ aIsOff := ne_len e_aIsOff e_aRow (by decide)
  have n_aRow_aAlone : aRow ≠ aAlone := ne_len e_aAlone e_aRow (by decide)
  have n_aBits_aOrder : aBits ≠ aOrder := ne_len e_aOrder e_aBits (by decide)
  have n_aBits_aOffAt : aBits ≠ aOffAt := ne_len e_aOffAt e_aBits (by decide)
  have n_aBits_aIsOff : aBits ≠ aIsOff := ne_len e_aIsOff e_aBits (by decide)
  have n_aBits_aAlone : aBits ≠ aAlone := ne_len e_aAlone e_aBits (by decide)
  have n_aLayerSize_aOrder : aLayerSize ≠ aOrder := ne_len e_aOrder e_aLayerSize (by decide)
  have n_aLayerSize_aOffAt : aLayerSize ≠ aOffAt := ne_len e_aOffAt e_aLayerSize (by decide)
  have n_aLayerSize_aIsOff : aLayerSize ≠ aIsOff := ne_len e_aIsOff e_aLayerSize (by decide)
  have n_aLayerSize_aAlone : aLayerSize ≠ aAlone := ne_len e_aAlone e_aLayerSize (by decide)
  have n_aLayerCame_aOrder : aLayerCame ≠ aOrder := ne_len e_aOrder e_aLayerCame (by decide)
  have n_aLayerCame_aOffAt : aLayerCame ≠ aOffAt := ne_len e_aOffAt e_aLayerCame (by decide)
  have n_aLayerCame_aIsOff : aLayerCame ≠ aIsOff := ne_len e_aIsOff e_aLayerCame (by decide)
  have n_aLayerCame_aAlone : aLayerCame ≠ aAlone := ne_len e_aAlone e_aLayerCame (by decide)
  have n_aRest_aOrder : aRest ≠ aOrder := ne_len e_aOrder e_aRest (by decide)
  have n_aRest_aOffAt : aRest ≠ aOffAt := ne_len e_aOffAt e_aRest (by decide)
  have n_aRest_aIsOff : aRest ≠ aIsOff := ne_len e_aIsOff e_aRest (by decide)
  have n_aRest_aAlone : aRest ≠ aAlone := ne_len e_aAlone e_aRest (by decide)
  have n_aRestMany_aOrder : aRestMany ≠ aOrder := ne_len e_aOrder e_aRestMany (by decide)
  have n_aRestMany_aOffAt : aRestMany ≠ aOffAt := ne_len e_aOffAt e_aRestMany (by decide)
  have n_aRestMany_aIsOff : aRestMany ≠ aIsOff := ne_len e_aIsOff e_aRestMany (by decide)
  have n_aRestMany_aAlone : aRestMany ≠ aAlone := ne_len e_aAlone e_aRestMany (by decide)
  have n_aCome_aOrder : aCome ≠ aOrder := ne_01 e_aOrder e_aCome
  have n_aCome_aOffAt : aCome ≠ aOffAt := ne_01 e_aOffAt e_aCome
  have n_aCome_aIsOff : aCome ≠ aIsOff := ne_01 e_aIsOff e_aCome
  have n_aCome_aAlone : aCome ≠ aAlone := ne_len e_aAlone e_aCome (by decide)
  have n_aRivals_aOrder : aRivals ≠ aOrder := ne_01 e_aOrder e_aRivals
  have n_aRivals_aOffAt : aRivals ≠ aOffAt := ne_01 e_aOffAt e_aRivals
  have n_aRivals_aIsOff : aRivals ≠ aIsOff := ne_01 e_aIsOff e_aRivals
  have n_aRivals_aAlone : aRivals ≠ aAlone := ne_len e_aAlone e_aRivals (by decide)
  have n_aGone_aOrder : aGone ≠ aOrder := ne_01 e_aOrder e_aGone
  have n_aGone_aOffAt : aGone ≠ aOffAt := ne_01 e_aOffAt e_aGone
  have n_aGone_aIsOff : aGone ≠ aIsOff := ne_01 e_aIsOff e_aGone
  have n_aGone_aAlone : aGone ≠ aAlone := ne_len e_aAlone e_aGone (by decide)
  have n_aKept_aOrder : aKept ≠ aOrder := ne_len e_aOrder e_aKept (by decide)
  have n_aKept_aOffAt : aKept ≠ aOffAt := ne_len e_aOffAt e_aKept (by decide)
  have n_aKept_aIsOff : aKept ≠ aIsOff := ne_len e_aIsOff e_aKept (by decide)
  have n_aKept_aAlone : aKept ≠ aAlone := role_ne r_aAlone r_aKept (by decide)
  have fr : ∀ b, b ∈ L → b ≠ y → b ≠ aKind → b ≠ aSize → b ≠ aMarks → b ≠ aSeed → b ≠ aContents → b ≠ aContentMany → b ≠ aRow → b ≠ aRestMany → b ≠ aOrder → b ≠ aOffAt → b ≠ aIsOff → b ≠ aAlone → f b = f b := fun _ _ _ _ _ _ _ _ _ _ _ _ _ _ _ => rfl
  unfold mX9_solve at hM
  refine W_gen (fun QQ hQQ => ?_)
  refine lv_iload_n hx hb dX9_solve_0 rfl (lv_at hl 1 rfl) ?_
  obtain ⟨z1, hz1, hM⟩ := bind_some hM
  refine q_si (As := [.int wi]) (rest := []) ⟨hx, hb, hml, hown, hts⟩ (k_X9_isWorld l D g hz1) (va_cwS 1 hts gX9_solve_X9_isWorld rfl rfl rfl (by decide +kernel) ⟨Nat.le_of_ble_eq_true rfl, Nat.le_of_ble_eq_true rfl⟩) S rfl hl.1 rfl (Nat.le_of_ble_eq_true rfl) dX9_solve_1 ⟨Nat.le_of_ble_eq_true rfl, Nat.le_of_ble_eq_true rfl⟩ (fun r3 L1 f2 H locs S w1 => ?_)
  obtain ⟨ex1, eL, ef⟩ := w1
  rw [eL, ef] at S
  replace ex1 := ex1.symm
  subst ex1
  refine lv_if_ne (tgt := 9) hx hb dX9_solve_4 (by decide) (fun b4 => ?_) (fun b4 => ?_)
  · have hM := itF b4 hM
    refine lv_aload_n hx hb dX9_solve_9 rfl (lv_at hl 0 rfl) ?_
    refine q_get hx hb hts in_X9 hown S m_y e_y (C := RX9) (T := TX9) (N := 23) rfl 1 (by decide) rfl (hts (.fieldLink RX9 13 "SieveCabinetModel" "inWorld" "[I") (by decide +kernel)) dX9_solve_10 ?_
    refine lv_iload_n hx hb dX9_solve_13 rfl (lv_at hl 1 rfl) ?_
    obtain ⟨hi14, hM⟩ := ckx hM
    refine q_iald hx hb S m_aInWorld e_aInWorld hi14 dX9_solve_14 ?_
    refine lv_istore_n (lv' := [(3, .int (vInWorld (Int32.toNatClampNeg wi))), (0, .ref y), (1, .int wi), (2, .int by_)]) hx hb dX9_solve_15 rfl hl (by decide) rfl (fun ls hl => ?_)
    refine lv_iload_n hx hb dX9_solve_16 rfl (lv_at hl 0 rfl) ?_
    refine lv_iload_n hx hb dX9_solve_17 rfl (lv_at hl 0 rfl) ?_
    refine lv_iconst (v := (4 : Int32)) hx hb dX9_solve_18 (by decide) ?_
    refine lv_idiv hx hb dX9_solve_19 (by decide) ?_
    refine lv_iadd hx hb dX9_solve_20 ?_
    refine lv_bipush (v := (8 : Int32)) hx hb dX9_solve_21 (by decide) ?_
    refine lv_iadd hx hb dX9_solve_23 ?_
    refine lv_topi (fun y24 ey24 => ?_)
    have hM := lt_some hM ey24
    refine lv_istore (lv' := [(4, .int y24), (3, .int (vInWorld (Int32.toNatClampNeg wi))), (0, .ref y), (1, .int wi), (2, .int by_)]) hx hb dX9_solve_24 hl (by decide) rfl (fun ls hl => ?_)
    refine lv_iconst (v := (-1 : Int32)) hx hb dX9_solve_26 (by decide) ?_
    refine lv_istore (lv' := [(5, .int (-1 : Int32)), (4, .int y24), (3, .int (vInWorld (Int32.toNatClampNeg wi))), (0, .ref y), (1, .int wi), (2, .int by_)]) hx hb dX9_solve_27 hl (by decide) rfl (fun ls hl => ?_)
    refine lv_iconst (v := (0 : Int32)) hx hb dX9_solve_29 (by decide) ?_
    refine lv_istore (lv' := [(6, .int (0 : Int32)), (5, .int (-1 : Int32)), (4, .int y24), (3, .int (vInWorld (Int32.toNatClampNeg wi))), (0, .ref y), (1, .int wi), (2, .int by_)]) hx hb dX9_solve_30 hl (by decide) rfl (fun ls hl => ?_)
    obtain ⟨o32, ho32, hM⟩ := bind_some hM
    have EX32 : ∀ (fl32 : Nat → va_E) (H : Heap) (locs : List Loc) (ls : Array Slot), PS D g (va_A (va_pl L f) szz) s.heap s L fl32 H locs → fl32 y = .inr (7, [.ref aWorlds, .ref aInWorld, .ref aKind, .ref aSize, .ref aMarks, .ref aSeed, .ref aContents, .ref aContentMany, .ref aRow, .ref aBits, .ref aLayerSize, .ref aLayerCame, .ref aRest, .ref aRestMany, .int many, .ref aCome, .ref aRivals, .ref aGone, .ref aOrder, .ref aOffAt, .ref aIsOff, .ref aAlone, .ref aKept]) → fl32 aWorlds = .inl (g 1, 8000, .inr (.inl vWorlds)) → fl32 aInWorld = .inl (g 0, 8, .inl vInWorld) → fl32 aKind = .inl (g 0, 30, .inl vKind) → fl32 aSize = .inl (g 0, 30, .inl vSize) → fl32 aMarks = .inl (g 0, 30, .inl vMarks) → fl32 aSeed = .inl (g 0, 30, .inl vSeed) → fl32 aContents = .inl (g 1, 30000, .inr (.inl vContents)) → fl32 aContentMany = .inl (g 0, 30, .inl vContentMany) → fl32 aRow = .inl (g 0, 122880, .inl vRow) → fl32 aBits = .inl (g 0, 76800, .inl vBits) → fl32 aLayerSize = .inl (g 0, 600, .inl vLayerSize) → fl32 aLayerCame = .inl (g 0, 600, .inl vLayerCame) → fl32 aRest = .inl (g 1, 30000, .inr (.inl vRest)) → fl32 aRestMany = .inl (g 0, 30, .inl vRestMany) → fl32 aCome = .inl (g 1, 1000, .inr (.inl vCome)) → fl32 aRivals = .inl (g 1, 1000, .inr (.inl vRivals)) → fl32 aGone = .inl (g 1, 1000, .inr (.inl vGone)) → fl32 aOrder = .inl (g 0, 1000, .inl o32.2.2.1) → fl32 aOffAt = .inl (g 0, 1000, .inl o32.2.2.2.1) → fl32 aIsOff = .inl (g 2, 1000, .inl o32.2.2.2.2.1) → fl32 aAlone = .inl (g 0, 4096, .inl o32.2.2.2.2.2) → fl32 aKept = .inl (g 0, 4096, .inl vKept) → (∀ b, b ∈ L → b ≠ y → b ≠ aKind → b ≠ aSize → b ≠ aMarks → b ≠ aSeed → b ≠ aContents → b ≠ aContentMany → b ≠ aRow → b ≠ aRestMany → b ≠ aOrder → b ≠ aOffAt → b ≠ aIsOff → b ≠ aAlone → fl32 b = f b) → lv_has ls 12 [(5, .int o32.2.1), (4, .int y24), (3, .int (vInWorld (Int32.toNatClampNeg wi))), (0, .ref y), (1, .int wi), (2, .int by_)] → W p l e { frames := 2, cells := 0, slots := 0, locals := 52 } s m [.ref y, .int wi, .int by_].toArray below meth c H locs 0 0 QQ (F0 m 72 ls []) := by
      intro fl32 H locs ls S e_y e_aWorlds e_aInWorld e_aKind e_aSize e_aMarks e_aSeed e_aContents e_aContentMany e_aRow e_aBits e_aLayerSize e_aLayerCame e_aRest e_aRestMany e_aCome e_aRivals e_aGone e_aOrder e_aOffAt e_aIsOff e_aAlone e_aKept fr hl
      refine lv_iload hx hb dX9_solve_72 (lv_at hl 0 rfl) ?_
      refine lv_if_ge (tgt := 80) hx hb dX9_solve_74 (by decide) (fun b74 => ?_) (fun b74 => ?_)
      · have hM := itT b74 hM
        refine lv_aload_n hx hb dX9_solve_80 rfl (lv_at hl 3 rfl) ?_
        refine q_get hx hb hts in_X9 hown S m_y e_y (C := RX9) (T := TX9) (N := 23) rfl 14 (by decide) rfl (hts (.fieldLink RX9 88 "SieveCabinetModel" "many" "I") (by decide +kernel)) dX9_solve_81 ?_
        refine lv_bipush (v := (30 : Int32)) hx hb dX9_solve_84 (by decide) ?_
        refine lv_icmp_ne (tgt := 92) hx hb dX9_solve_86 (by decide) (fun b86 => ?_) (fun b86 => ?_)
        · have hM := itF b86 hM
          refine lv_aload_n hx hb dX9_solve_92 rfl (lv_at hl 3 rfl) ?_
          refine lv_iconst (v := (3 : Int32)) hx hb dX9_solve_93 (by decide) ?_
          refine lv_iload hx hb dX9_solve_94 (lv_at hl 1 rfl) ?_
          refine lv_iconst (v := (0 : Int32)) hx hb dX9_solve_96 (by decide) ?_
          refine lv_iload_n hx hb dX9_solve_97 rfl (lv_at hl 5 rfl) ?_
          refine lv_iload hx hb dX9_solve_98 (lv_at hl 0 rfl) ?_
          refine lv_iadd hx hb dX9_solve_100 ?_
          obtain ⟨z101, hz101, hM⟩ := bind_some hM
          refine q_vi (As := [.int (3 : Int32), .int y24, .int (0 : Int32), .int (by_ + o32.2.1)]) (rest := []) ⟨hx, hb, hml, hown, hts⟩ (k_X9_begin l D g m_y e_y m_aWorlds e_aWorlds m_aInWorld e_aInWorld m_aKind e_aKind m_aSize e_aSize m_aMarks e_aMarks m_aSeed e_aSeed m_aContents e_aContents m_aContentMany e_aContentMany m_aRow e_aRow m_aBits e_aBits m_aLayerSize e_aLayerSize m_aLayerCame e_aLayerCame m_aRest e_aRest m_aRestMany e_aRestMany m_aCome e_aCome m_aRivals e_aRivals m_aGone e_aGone m_aOrder e_aOrder m_aOffAt e_aOffAt m_aIsOff e_aIsOff m_aAlone e_aAlone m_aKept e_aKept r_aKind r_aSize r_aMarks r_aSeed r_aContentMany r_aRestMany hz101) (cwV 4 hts gX9_solve_X9_begin rfl rfl rfl (by decide +kernel) ⟨Nat.le_of_ble_eq_true rfl, Nat.le_of_ble_eq_true rfl⟩) S m_y e_y (T := TX9) (N := 23) rfl rfl hl.1 rfl (Nat.le_of_ble_eq_true rfl) dX9_solve_101 ⟨Nat.le_of_ble_eq_true rfl, Nat.le_of_ble_eq_true rfl⟩ (fun r6 L4 f5 H locs S w101 => ?_)
          obtain ⟨ex101, eL, fv101, E_y, E_aKind, E_aSize, E_aMarks, E_aSeed, E_aContentMany, E_aRow, E_aRestMany⟩ := w101
          rw [eL] at S
          have fr : ∀ b, b ∈ L → b ≠ y → b ≠ aKind → b ≠ aSize → b ≠ aMarks → b ≠ aSeed → b ≠ aContents → b ≠ aContentMany → b ≠ aRow → b ≠ aRestMany → b ≠ aOrder → b ≠ aOffAt → b ≠ aIsOff → b ≠ aAlone → f5 b = f b := fun b mb nb0 nb1 nb2 nb3 nb4 nb5 nb6 nb7 nb8 nb9 nb10 nb11 nb12 => (fv101 b mb nb0 nb1 nb2 nb3 nb4 nb6 nb7 nb8).trans (fr b mb nb0 nb1 nb2 nb3 nb4 nb5 nb6 nb7 nb8 nb9 nb10 nb11 nb12)
          have e_y : f5 y = .inr (7, [.ref aWorlds, .ref aInWorld, .ref aKind, .ref aSize, .ref aMarks, .ref aSeed, .ref aContents, .ref aContentMany, .ref aRow, .ref aBits, .ref aLayerSize, .ref aLayerCame, .ref aRest, .ref aRestMany, .int z101.2.1, .ref aCome, .ref aRivals, .ref aGone, .ref aOrder, .ref aOffAt, .ref aIsOff, .ref aAlone, .ref aKept]) := E_y
          have e_aKind : f5 aKind = .inl (g 0, 30, .inl z101.2.2.1) := E_aKind
          have e_aSize : f5 aSize = .inl (g 0, 30, .inl z101.2.2.2.1) := E_aSize
          have e_aMarks : f5 aMarks = .inl (g 0, 30, .inl z101.2.2.2.2.1) := E_aMarks
          have e_aSeed : f5 aSeed = .inl (g 0, 30, .inl z101.2.2.2.2.2.1) := E_aSeed
          have e_aContentMany : f5 aContentMany = .inl (g 0, 30, .inl z101.2.2.2.2.2.2.1) := E_aContentMany
          have e_aRow : f5 aRow = .inl (g 0, 122880, .inl z101.2.2.2.2.2.2.2.1) := E_aRow
          have e_aRestMany : f5 aRestMany = .inl (g 0, 30, .inl z101.2.2.2.2.2.2.2.2) := E_aRestMany
          replace ex101 := ex101.symm
          subst ex101
          refine lv_istore (lv' := [(6, .int z101.1), (5, .int o32.2.1), (4, .int y24), (3, .int (vInWorld (Int32.toNatClampNeg wi))), (0, .ref y), (1, .int wi), (2, .int by_)]) hx hb dX9_solve_104 hl (by decide) rfl (fun ls hl => ?_)
          refine lv_iload_n hx hb dX9_solve_106 rfl (lv_at hl 3 rfl) ?_
          refine lv_iconst (v := (1 : Int32)) hx hb dX9_solve_107 (by decide) ?_
          refine lv_isub hx hb dX9_solve_108 ?_
          refine lv_topi (fun y109 ey109 => ?_)
          have hM := lt_some hM ey109
          refine lv_istore (lv' := [(7, .int y109), (6, .int z101.1), (5, .int o32.2.1), (4, .int y24), (3, .int (vInWorld (Int32.toNatClampNeg wi))), (0, .ref y), (1, .int wi), (2, .int by_)]) hx hb dX9_solve_109 hl (by decide) rfl (fun ls hl => ?_)
          have e_aWorlds := ((fv101 aWorlds m_aWorlds n_aWorlds_y n_aWorlds_aKind n_aWorlds_aSize n_aWorlds_aMarks n_aWorlds_aSeed n_aWorlds_aContentMany n_aWorlds_aRow n_aWorlds_aRestMany).trans e_aWorlds)
          have e_aInWorld := ((fv101 aInWorld m_aInWorld n_aInWorld_y n_aInWorld_aKind n_aInWorld_aSize n_aInWorld_aMarks n_aInWorld_aSeed n_aInWorld_aContentMany n_aInWorld_aRow n_aInWorld_aRestMany).trans e_aInWorld)
          have e_aContents := ((fv101 aContents m_aContents n_aContents_y n_aContents_aKind n_aContents_aSize n_aContents_aMarks n_aContents_aSeed n_aContents_aContentMany n_aContents_aRow n_aContents_aRestMany).trans e_aContents)
          have e_aBits := ((fv101 aBits m_aBits n_aBits_y n_aBits_aKind n_aBits_aSize n_aBits_aMarks n_aBits_aSeed n_aBits_aContentMany n_aBits_aRow n_aBits_aRestMany).trans e_aBits)
          have e_aLayerSize := ((fv101 aLayerSize m_aLayerSize n_aLayerSize_y n_aLayerSize_aKind n_aLayerSize_aSize n_aLayerSize_aMarks n_aLayerSize_aSeed n_aLayerSize_aContentMany n_aLayerSize_aRow n_aLayerSize_aRestMany).trans e_aLayerSize)
          have e_aLayerCame := ((fv101 aLayerCame m_aLayerCame n_aLayerCame_y n_aLayerCame_aKind n_aLayerCame_aSize n_aLayerCame_aMarks n_aLayerCame_aSeed n_aLayerCame_aContentMany n_aLayerCame_aRow n_aLayerCame_aRestMany).trans e_aLayerCame)
          have e_aRest := ((fv101 aRest m_aRest n_aRest_y n_aRest_aKind n_aRest_aSize n_aRest_aMarks n_aRest_aSeed n_aRest_aContentMany n_aRest_aRow n_aRest_aRestMany).trans e_aRest)
          have e_aCome := ((fv101 aCome m_aCome n_aCome_y n_aCome_aKind n_aCome_aSize n_aCome_aMarks n_aCome_aSeed n_aCome_aContentMany n_aCome_aRow n_aCome_aRestMany).trans e_aCome)
          have e_aRivals := ((fv101 aRivals m_aRivals n_aRivals_y n_aRivals_aKind n_aRivals_aSize n_aRivals_aMarks n_aRivals_aSeed n_aRivals_aContentMany n_aRivals_aRow n_aRivals_aRestMany).trans e_aRivals)
          have e_aGone := ((fv101 aGone m_aGone n_aGone_y n_aGone_aKind n_aGone_aSize n_aGone_aMarks n_aGone_aSeed n_aGone_aContentMany n_aGone_aRow n_aGone_aRestMany).trans e_aGone)
          have e_aOrder := ((fv101 aOrder m_aOrder n_aOrder_y n_aOrder_aKind n_aOrder_aSize n_aOrder_aMarks n_aOrder_aSeed n_aOrder_aContentMany n_aOrder_aRow n_aOrder_aRestMany).trans e_aOrder)
          have e_aOffAt := ((fv101 aOffAt m_aOffAt n_aOffAt_y n_aOffAt_aKind n_aOffAt_aSize n_aOffAt_aMarks n_aOffAt_aSeed n_aOffAt_aContentMany n_aOffAt_aRow n_aOffAt_aRestMany).trans e_aOffAt)
          have e_aIsOff := ((fv101 aIsOff m_aIsOff n_aIsOff_y n_aIsOff_aKind n_aIsOff_aSize n_aIsOff_aMarks n_aIsOff_aSeed n_aIsOff_aContentMany n_aIsOff_aRow n_aIsOff_aRestMany).trans e_aIsOff)
          have e_aAlone := ((fv101 aAlone m_aAlone n_aAlone_y n_aAlone_aKind n_aAlone_aSize n_aAlone_aMarks n_aAlone_aSeed n_aAlone_aContentMany n_aAlone_aRow n_aAlone_aRestMany).trans e_aAlone)
          have e_aKept := ((fv101 aKept m_aKept n_aKept_y n_aKept_aKind n_aKept_aSize n_aKept_aMarks n_aKept_aSeed n_aKept_aContentMany n_aKept_aRow n_aKept_aRestMany).trans e_aKept)
          obtain ⟨o111, ho111, hM⟩ := bind_some hM
          have EX111 : ∀ (fl111 : Nat → va_E) (H : Heap) (locs : List Loc) (ls : Array Slot), PS D g (va_A (va_pl L f) szz) s.heap s L fl111 H locs → fl111 y = .inr (7, [.ref aWorlds, .ref aInWorld, .ref aKind, .ref aSize, .ref aMarks, .ref aSeed, .ref aContents, .ref aContentMany, .ref aRow, .ref aBits, .ref aLayerSize, .ref aLayerCame, .ref aRest, .ref aRestMany, .int z101.2.1, .ref aCome, .ref aRivals, .ref aGone, .ref aOrder, .ref aOffAt, .ref aIsOff, .ref aAlone, .ref aKept]) → fl111 aWorlds = .inl (g 1, 8000, .inr (.inl vWorlds)) → fl111 aInWorld = .inl (g 0, 8, .inl vInWorld) → fl111 aKind = .inl (g 0, 30, .inl z101.2.2.1) → fl111 aSize = .inl (g 0, 30, .inl z101.2.2.2.1) → fl111 aMarks = .inl (g 0, 30, .inl z101.2.2.2.2.1) → fl111 aSeed = .inl (g 0, 30, .inl z101.2.2.2.2.2.1) → fl111 aContents = .inl (g 1, 30000, .inr (.inl vContents)) → fl111 aContentMany = .inl (g 0, 30, .inl z101.2.2.2.2.2.2.1) → fl111 aRow = .inl (g 0, 122880, .inl o111.2) → fl111 aBits = .inl (g 0, 76800, .inl vBits) → fl111 aLayerSize = .inl (g 0, 600, .inl vLayerSize) → fl111 aLayerCame = .inl (g 0, 600, .inl vLayerCame) → fl111 aRest = .inl (g 1, 30000, .inr (.inl vRest)) → fl111 aRestMany = .inl (g 0, 30, .inl z101.2.2.2.2.2.2.2.2) → fl111 aCome = .inl (g 1, 1000, .inr (.inl vCome)) → fl111 aRivals = .inl (g 1, 1000, .inr (.inl vRivals)) → fl111 aGone = .inl (g 1, 1000, .inr (.inl vGone)) → fl111 aOrder = .inl (g 0, 1000, .inl o32.2.2.1) → fl111 aOffAt = .inl (g 0, 1000, .inl o32.2.2.2.1) → fl111 aIsOff = .inl (g 2, 1000, .inl o32.2.2.2.2.1) → fl111 aAlone = .inl (g 0, 4096, .inl o32.2.2.2.2.2) → fl111 aKept = .inl (g 0, 4096, .inl vKept) → (∀ b, b ∈ L → b ≠ y → b ≠ aKind → b ≠ aSize → b ≠ aMarks → b ≠ aSeed → b ≠ aContents → b ≠ aContentMany → b ≠ aRow → b ≠ aRestMany → b ≠ aOrder → b ≠ aOffAt → b ≠ aIsOff → b ≠ aAlone → fl111 b = f b) → lv_has ls 12 [(6, .int z101.1), (0, .ref y), (1, .int wi)] → W p l e { frames := 2, cells := 0, slots := 0, locals := 52 } s m [.ref y, .int wi, .int by_].toArray below meth c H locs 0 0 QQ (F0 m 218 ls []) := by
            intro fl111 H locs ls S e_y e_aWorlds e_aInWorld e_aKind e_aSize e_aMarks e_aSeed e_aContents e_aContentMany e_aRow e_aBits e_aLayerSize e_aLayerCame e_aRest e_aRestMany e_aCome e_aRivals e_aGone e_aOrder e_aOffAt e_aIsOff e_aAlone e_aKept fr hl
            refine lv_aload_n hx hb dX9_solve_218 rfl (lv_at hl 1 rfl) ?_
            refine lv_iload hx hb dX9_solve_219 (lv_at hl 0 rfl) ?_
            refine lv_iload_n hx hb dX9_solve_221 rfl (lv_at hl 2 rfl) ?_
            obtain ⟨z222, hz222, hM⟩ := bind_some hM
            refine q_vv (As := [.int z101.1, .int wi]) (rest := []) ⟨hx, hb, hml, hown, hts⟩ (k_X9_fillFrom l D g m_y e_y m_aWorlds e_aWorlds m_aInWorld e_aInWorld m_aKind e_aKind m_aSize e_aSize m_aMarks e_aMarks m_aSeed e_aSeed m_aContents e_aContents m_aContentMany e_aContentMany m_aRow e_aRow m_aBits e_aBits m_aLayerSize e_aLayerSize m_aLayerCame e_aLayerCame m_aRest e_aRest m_aRestMany e_aRestMany m_aCome e_aCome m_aRivals e_aRivals m_aGone e_aGone m_aOrder e_aOrder m_aOffAt e_aOffAt m_aIsOff e_aIsOff m_aAlone e_aAlone m_aKept e_aKept r_aKind r_aSize r_aMarks r_aSeed r_aContents r_aContentMany r_aRest r_aRestMany hz222) (cwV 2 hts gX9_solve_X9_fillFrom rfl rfl rfl (by decide +kernel) ⟨Nat.le_of_ble_eq_true rfl, Nat.le_of_ble_eq_true rfl⟩) S m_y e_y (T := TX9) (N := 23) rfl rfl hl.1 rfl (Nat.le_of_ble_eq_true rfl) dX9_solve_222 ⟨Nat.le_of_ble_eq_true rfl, Nat.le_of_ble_eq_true rfl⟩ (fun L7 f8 H locs S w222 => ?_)
            obtain ⟨eL, fv222, E_aContents, E_aContentMany⟩ := w222
            rw [eL] at S
            have fr : ∀ b, b ∈ L → b ≠ y → b ≠ aKind → b ≠ aSize → b ≠ aMarks → b ≠ aSeed → b ≠ aContents → b ≠ aContentMany → b ≠ aRow → b ≠ aRestMany → b ≠ aOrder → b ≠ aOffAt → b ≠ aIsOff → b ≠ aAlone → f8 b = f b := fun b mb nb0 nb1 nb2 nb3 nb4 nb5 nb6 nb7 nb8 nb9 nb10 nb11 nb12 => (fv222 b mb nb5 nb6).trans (fr b mb nb0 nb1 nb2 nb3 nb4 nb5 nb6 nb7 nb8 nb9 nb10 nb11 nb12)
            have e_aContents : f8 aContents = .inl (g 1, 30000, .inr (.inl z222.1)) := E_aContents
            have e_aContentMany : f8 aContentMany = .inl (g 0, 30, .inl z222.2) := E_aContentMany
            refine lv_iload hx hb dX9_solve_225 (lv_at hl 0 rfl) ?_
            have e_y := ((fv222 y m_y n_y_aContents n_y_aContentMany).trans e_y)
            have e_aKind := ((fv222 aKind m_aKind n_aKind_aContents n_aKind_aContentMany).trans e_aKind)
            have e_aSize := ((fv222 aSize m_aSize n_aSize_aContents n_aSize_aContentMany).trans e_aSize)
            have e_aMarks := ((fv222 aMarks m_aMarks n_aMarks_aContents n_aMarks_aContentMany).trans e_aMarks)
            have e_aSeed := ((fv222 aSeed m_aSeed n_aSeed_aContents n_aSeed_aContentMany).trans e_aSeed)
            have e_aRow := ((fv222 aRow m_aRow n_aRow_aContents n_aRow_aContentMany).trans e_aRow)
            have e_aRestMany := ((fv222 aRestMany m_aRestMany n_aRestMany_aContents n_aRestMany_aContentMany).trans e_aRestMany)
            have e_aOrder := ((fv222 aOrder m_aOrder n_aOrder_aContents n_aOrder_aContentMany).trans e_aOrder)
            have e_aOffAt := ((fv222 aOffAt m_aOffAt n_aOffAt_aContents n_aOffAt_aContentMany).trans e_aOffAt)
            have e_aIsOff := ((fv222 aIsOff m_aIsOff n_aIsOff_aContents n_aIsOff_aContentMany).trans e_aIsOff)
            have e_aAlone := ((fv222 aAlone m_aAlone n_aAlone_aContents n_aAlone_aContentMany).trans e_aAlone)
            subst hQQ
            exact q_reti (post := fun x L1 f1 => x = z.1 ∧ L1 = L ∧ (∀ b, b ∈ L → b ≠ y → b ≠ aKind → b ≠ aSize → b ≠ aMarks → b ≠ aSeed → b ≠ aContents → b ≠ aContentMany → b ≠ aRow → b ≠ aRestMany → b ≠ aOrder → b ≠ aOffAt → b ≠ aIsOff → b ≠ aAlone → f1 b = f b) ∧ f1 y = .inr (7, [.ref aWorlds, .ref aInWorld, .ref aKind, .ref aSize, .ref aMarks, .ref aSeed, .ref aContents, .ref aContentMany, .ref aRow, .ref aBits, .ref aLayerSize, .ref aLayerCame, .ref aRest, .ref aRestMany, .int z.2.1, .ref aCome, .ref aRivals, .ref aGone, .ref aOrder, .ref aOffAt, .ref aIsOff, .ref aAlone, .ref aKept]) ∧ f1 aKind = .inl (g 0, 30, .inl z.2.2.1) ∧ f1 aSize = .inl (g 0, 30, .inl z.2.2.2.1) ∧ f1 aMarks = .inl (g 0, 30, .inl z.2.2.2.2.1) ∧ f1 aSeed = .inl (g 0, 30, .inl z.2.2.2.2.2.1) ∧ f1 aContents = .inl (g 1, 30000, .inr (.inl z.2.2.2.2.2.2.1)) ∧ f1 aContentMany = .inl (g 0, 30, .inl z.2.2.2.2.2.2.2.1) ∧ f1 aRow = .inl (g 0, 122880, .inl z.2.2.2.2.2.2.2.2.1) ∧ f1 aRestMany = .inl (g 0, 30, .inl z.2.2.2.2.2.2.2.2.2.1) ∧ f1 aOrder = .inl (g 0, 1000, .inl z.2.2.2.2.2.2.2.2.2.2.1) ∧ f1 aOffAt = .inl (g 0, 1000, .inl z.2.2.2.2.2.2.2.2.2.2.2.1) ∧ f1 aIsOff = .inl (g 2, 1000, .inl z.2.2.2.2.2.2.2.2.2.2.2.2.1) ∧ f1 aAlone = .inl (g 0, 4096, .inl z.2.2.2.2.2.2.2.2.2.2.2.2.2)) hx hb hr hlk S dX9_solve_227 (by decide) (by decide) (by have hz := Option.some.inj hM; subst hz; exact ⟨rfl, rfl, fr, e_y, e_aKind, e_aSize, e_aMarks, e_aSeed, e_aContents, e_aContentMany, e_aRow, e_aRestMany, e_aOrder, e_aOffAt, e_aIsOff, e_aAlone⟩)
          have LP111 : ∀ (fu : Nat) (x7_111 : Int32) (caRow_111 : Nat → Int32) (fl111 : Nat → va_E) (H : Heap) (locs : List Loc) (ls : Array Slot), (mX9_solve_L111 vWorlds wi by_ y24 o32 z101) fu x7_111 caRow_111 = some o111 → PS D g (va_A (va_pl L f) szz) s.heap s L fl111 H locs → fl111 y = .inr (7, [.ref aWorlds, .ref aInWorld, .ref aKind, .ref aSize, .ref aMarks, .ref aSeed, .ref aContents, .ref aContentMany, .ref aRow, .ref aBits, .ref aLayerSize, .ref aLayerCame, .ref aRest, .ref aRestMany, .int z101.2.1, .ref aCome, .ref aRivals, .ref aGone, .ref aOrder, .ref aOffAt, .ref aIsOff, .ref aAlone, .ref aKept]) → fl111 aWorlds = .inl (g 1, 8000, .inr (.inl vWorlds)) → fl111 aInWorld = .inl (g 0, 8, .inl vInWorld) → fl111 aKind = .inl (g 0, 30, .inl z101.2.2.1) → fl111 aSize = .inl (g 0, 30, .inl z101.2.2.2.1) → fl111 aMarks = .inl (g 0, 30, .inl z101.2.2.2.2.1) → fl111 aSeed = .inl (g 0, 30, .inl z101.2.2.2.2.2.1) → fl111 aContents = .inl (g 1, 30000, .inr (.inl vContents)) → fl111 aContentMany = .inl (g 0, 30, .inl z101.2.2.2.2.2.2.1) → fl111 aRow = .inl (g 0, 122880, .inl caRow_111) → fl111 aBits = .inl (g 0, 76800, .inl vBits) → fl111 aLayerSize = .inl (g 0, 600, .inl vLayerSize) → fl111 aLayerCame = .inl (g 0, 600, .inl vLayerCame) → fl111 aRest = .inl (g 1, 30000, .inr (.inl vRest)) → fl111 aRestMany = .inl (g 0, 30, .inl z101.2.2.2.2.2.2.2.2) → fl111 aCome = .inl (g 1, 1000, .inr (.inl vCome)) → fl111 aRivals = .inl (g 1, 1000, .inr (.inl vRivals)) → fl111 aGone = .inl (g 1, 1000, .inr (.inl vGone)) → fl111 aOrder = .inl (g 0, 1000, .inl o32.2.2.1) → fl111 aOffAt = .inl (g 0, 1000, .inl o32.2.2.2.1) → fl111 aIsOff = .inl (g 2, 1000, .inl o32.2.2.2.2.1) → fl111 aAlone = .inl (g 0, 4096, .inl o32.2.2.2.2.2) → fl111 aKept = .inl (g 0, 4096, .inl vKept) → (∀ b, b ∈ L → b ≠ y → b ≠ aKind → b ≠ aSize → b ≠ aMarks → b ≠ aSeed → b ≠ aContents → b ≠ aContentMany → b ≠ aRow → b ≠ aRestMany → b ≠ aOrder → b ≠ aOffAt → b ≠ aIsOff → b ≠ aAlone → fl111 b = f b) → lv_has ls 12 [(7, .int x7_111), (6, .int z101.1), (5, .int o32.2.1), (4, .int y24), (0, .ref y), (1, .int wi), (2, .int by_)] → W p l e { frames := 2, cells := 0, slots := 0, locals := 52 } s m [.ref y, .int wi, .int by_].toArray below meth c H locs 0 0 QQ (F0 m 111 ls []) := by
            intro fu
            induction fu with
            | zero => intro x7_111 caRow_111 fl111 H locs ls ho111 S e_y e_aWorlds e_aInWorld e_aKind e_aSize e_aMarks e_aSeed e_aContents e_aContentMany e_aRow e_aBits e_aLayerSize e_aLayerCame e_aRest e_aRestMany e_aCome e_aRivals e_aGone e_aOrder e_aOffAt e_aIsOff e_aAlone e_aKept fr hl; exact no_some ho111
            | succ fu ih111 =>
              intro x7_111 caRow_111 fl111 H locs ls ho111 S e_y e_aWorlds e_aInWorld e_aKind e_aSize e_aMarks e_aSeed e_aContents e_aContentMany e_aRow e_aBits e_aLayerSize e_aLayerCame e_aRest e_aRestMany e_aCome e_aRivals e_aGone e_aOrder e_aOffAt e_aIsOff e_aAlone e_aKept fr hl
              rw [mX9_solve_L111] at ho111
              refine lv_iload hx hb dX9_solve_111 (lv_at hl 0 rfl) ?_
              refine lv_if_lt (tgt := 218) hx hb dX9_solve_113 (by decide) (fun b113 => ?_) (fun b113 => ?_)
              · have ho111 := itT b113 ho111
                obtain rfl := Option.some.inj ho111
                exact EX111 fl111 _ _ _ S e_y e_aWorlds e_aInWorld e_aKind e_aSize e_aMarks e_aSeed e_aContents e_aContentMany e_aRow e_aBits e_aLayerSize e_aLayerCame e_aRest e_aRestMany e_aCome e_aRivals e_aGone e_aOrder e_aOffAt e_aIsOff e_aAlone e_aKept fr (lv_sub hl [1, 4, 5] rfl)
              · have ho111 := itF b113 ho111
                refine lv_aload_n hx hb dX9_solve_116 rfl (lv_at hl 4 rfl) ?_
                refine q_get hx hb hts in_X9 hown S m_y e_y (C := RX9) (T := TX9) (N := 23) rfl 0 (by decide) rfl (hts (.fieldLink RX9 9 "SieveCabinetModel" "worlds" "[J") (by decide +kernel)) dX9_solve_117 ?_
                refine lv_iload_n hx hb dX9_solve_120 rfl (lv_at hl 5 rfl) ?_
                refine lv_sipush (v := (1000 : Int32)) hx hb dX9_solve_121 (by decide) ?_
                refine lv_imul hx hb dX9_solve_124 ?_
                refine lv_aload_n hx hb dX9_solve_125 rfl (lv_at hl 4 rfl) ?_
                refine q_get hx hb hts in_X9 hown S m_y e_y (C := RX9) (T := TX9) (N := 23) rfl 18 (by decide) rfl (hts (.fieldLink RX9 64 "SieveCabinetModel" "order" "[I") (by decide +kernel)) dX9_solve_126 ?_
                refine lv_iload hx hb dX9_solve_129 (lv_at hl 0 rfl) ?_
                obtain ⟨hi131, ho111⟩ := ckx ho111
                refine q_iald hx hb S m_aOrder e_aOrder hi131 dX9_solve_131 ?_
                refine lv_iadd hx hb dX9_solve_132 ?_
                obtain ⟨hi133, ho111⟩ := ckx ho111
                refine q_lald hx hb S m_aWorlds e_aWorlds hi133 dX9_solve_133 ?_
                refine lv_iload_n hx hb dX9_solve_134 rfl (lv_at hl 6 rfl) ?_
                refine lv_iload hx hb dX9_solve_135 (lv_at hl 2 rfl) ?_
                refine lv_iadd hx hb dX9_solve_137 ?_
                obtain ⟨z138, hz138, ho111⟩ := bind_some ho111
                refine q_sl (As := [.long (vWorlds (Int32.toNatClampNeg ((wi * (1000 : Int32)) + (o32.2.2.1 (Int32.toNatClampNeg x7_111))))), .int (by_ + o32.2.1)]) (rest := []) ⟨hx, hb, hml, hown, hts⟩ (k_X9_mix l D g hz138) (va_cwS 2 hts gX9_solve_X9_mix rfl rfl rfl (by decide +kernel) ⟨Nat.le_of_ble_eq_true rfl, Nat.le_of_ble_eq_true rfl⟩) S rfl hl.1 rfl (Nat.le_of_ble_eq_true rfl) dX9_solve_138 ⟨Nat.le_of_ble_eq_true rfl, Nat.le_of_ble_eq_true rfl⟩ (fun r12 L10 f11 H locs S w138 => ?_)
                obtain ⟨ex138, eL, ef⟩ := w138
                rw [eL, ef] at S
                replace ex138 := ex138.symm
                subst ex138
                refine lv_lstore (lv' := [(8, .long z138), (7, .int x7_111), (6, .int z101.1), (5, .int o32.2.1), (4, .int y24), (0, .ref y), (1, .int wi), (2, .int by_)]) hx hb dX9_solve_141 hl (by decide) rfl (fun ls hl => ?_)
                refine lv_lload hx hb dX9_solve_143 (lv_at hl 0 rfl) ?_
                obtain ⟨z145, hz145, ho111⟩ := bind_some ho111
                refine q_si (As := [.long z138]) (rest := []) ⟨hx, hb, hml, hown, hts⟩ (k_X9_solvedTag l D g hz145) (va_cwS 1 hts gX9_solve_X9_solvedTag rfl rfl rfl (by decide +kernel) ⟨Nat.le_of_ble_eq_true rfl, Nat.le_of_ble_eq_true rfl⟩) S rfl hl.1 rfl (Nat.le_of_ble_eq_true rfl) dX9_solve_145 ⟨Nat.le_of_ble_eq_true rfl, Nat.le_of_ble_eq_true rfl⟩ (fun r15 L13 f14 H locs S w145 => ?_)
                obtain ⟨ex145, eL, ef⟩ := w145
                rw [eL, ef] at S
                replace ex145 := ex145.symm
                subst ex145
                refine lv_istore (lv' := [(10, .int z145), (8, .long z138), (7, .int x7_111), (6, .int z101.1), (5, .int o32.2.1), (4, .int y24), (0, .ref y), (1, .int wi), (2, .int by_)]) hx hb dX9_solve_148 hl (by decide) rfl (fun ls hl => ?_)
                refine lv_iconst (v := (0 : Int32)) hx hb dX9_solve_150 (by decide) ?_
                refine lv_istore (lv' := [(11, .int (0 : Int32)), (10, .int z145), (8, .long z138), (7, .int x7_111), (6, .int z101.1), (5, .int o32.2.1), (4, .int y24), (0, .ref y), (1, .int wi), (2, .int by_)]) hx hb dX9_solve_151 hl (by decide) rfl (fun ls hl => ?_)
                obtain ⟨o153, ho153, ho111⟩ := bind_some ho111
                have EX153 : ∀ (H : Heap) (locs : List Loc) (ls : Array Slot), PS D g (va_A (va_pl L f) szz) s.heap s L fl111 H locs → lv_has ls 12 [(10, .int o153.2), (7, .int x7_111), (6, .int z101.1), (5, .int o32.2.1), (4, .int y24), (0, .ref y), (1, .int wi), (2, .int by_)] → W p l e { frames := 2, cells := 0, slots := 0, locals := 52 } s m [.ref y, .int wi, .int by_].toArray below meth c H locs 0 0 QQ (F0 m 191 ls []) := by
                  intro H locs ls S hl
                  refine lv_aload_n hx hb dX9_solve_191 rfl (lv_at hl 5 rfl) ?_
                  refine q_get hx hb hts in_X9 hown S m_y e_y (C := RX9) (T := TX9) (N := 23) rfl 8 (by decide) rfl (hts (.fieldLink RX9 36 "SieveCabinetModel" "row" "[I") (by decide +kernel)) dX9_solve_192 ?_
                  refine lv_iload hx hb dX9_solve_195 (lv_at hl 2 rfl) ?_
                  refine lv_sipush (v := (4096 : Int32)) hx hb dX9_solve_197 (by decide) ?_
                  refine lv_imul hx hb dX9_solve_200 ?_
                  refine lv_aload_n hx hb dX9_solve_201 rfl (lv_at hl 5 rfl) ?_
                  refine q_get hx hb hts in_X9 hown S m_y e_y (C := RX9) (T := TX9) (N := 23) rfl 19 (by decide) rfl (hts (.fieldLink RX9 67 "SieveCabinetModel" "offAt" "[I") (by decide +kernel)) dX9_solve_202 ?_
                  refine lv_iload hx hb dX9_solve_205 (lv_at hl 1 rfl) ?_
                  obtain ⟨hi207, ho111⟩ := ckx ho111
                  refine q_iald hx hb S m_aOffAt e_aOffAt hi207 dX9_solve_207 ?_
                  refine lv_iadd hx hb dX9_solve_208 ?_
                  refine lv_iload hx hb dX9_solve_209 (lv_at hl 0 rfl) ?_
                  obtain ⟨hi211, ho111⟩ := ckx ho111
                  refine k_iast hx hb S m_aRow e_aRow hi211 dX9_solve_211 (fun f16 ef16 H locs S => ?_)
                  have e_aRow := up_self ef16
                  have fr : ∀ b, b ∈ L → b ≠ y → b ≠ aKind → b ≠ aSize → b ≠ aMarks → b ≠ aSeed → b ≠ aContents → b ≠ aContentMany → b ≠ aRow → b ≠ aRestMany → b ≠ aOrder → b ≠ aOffAt → b ≠ aIsOff → b ≠ aAlone → f16 b = f b := fun b mb nb0 nb1 nb2 nb3 nb4 nb5 nb6 nb7 nb8 nb9 nb10 nb11 nb12 => (up_ne ef16 nb7 rfl).trans (fr b mb nb0 nb1 nb2 nb3 nb4 nb5 nb6 nb7 nb8 nb9 nb10 nb11 nb12)
                  refine lv_iinc (v := (x7_111 + (-1))) (lv' := [(7, .int (x7_111 + (-1))), (10, .int o153.2), (6, .int z101.1), (5, .int o32.2.1), (4, .int y24), (0, .ref y), (1, .int wi), (2, .int by_)]) hx hb dX9_solve_212 hl (k := 1) rfl rfl (by decide) rfl (fun ls hl => ?_)
                  refine lv_goto (tgt := 111) hx hb dX9_solve_215 (by decide) ?_
                  have e_y := (up_ne ef16 n_y_aRow e_y)
                  have e_aWorlds := (up_ne ef16 n_aWorlds_aRow e_aWorlds)
                  have e_aInWorld := (up_ne ef16 n_aInWorld_aRow e_aInWorld)
                  have e_aKind := (up_ne ef16 n_aKind_aRow e_aKind)
                  have e_aSize := (up_ne ef16 n_aSize_aRow e_aSize)
                  have e_aMarks := (up_ne ef16 n_aMarks_aRow e_aMarks)
                  have e_aSeed := (up_ne ef16 n_aSeed_aRow e_aSeed)
                  have e_aContents := (up_ne ef16 n_aContents_aRow e_aContents)
                  have e_aContentMany := (up_ne ef16 n_aContentMany_aRow e_aContentMany)
                  have e_aBits := (up_ne ef16 n_aBits_aRow e_aBits)
                  have e_aLayerSize := (up_ne ef16 n_aLayerSize_aRow e_aLayerSize)
                  have e_aLayerCame := (up_ne ef16 n_aLayerCame_aRow e_aLayerCame)
                  have e_aRest := (up_ne ef16 n_aRest_aRow e_aRest)
                  have e_aRestMany := (up_ne ef16 n_aRestMany_aRow e_aRestMany)
                  have e_aCome := (up_ne ef16 n_aCome_aRow e_aCome)
                  have e_aRivals := (up_ne ef16 n_aRivals_aRow e_aRivals)
                  have e_aGone := (up_ne ef16 n_aGone_aRow e_aGone)
                  have e_aOrder := (up_ne ef16 n_aOrder_aRow e_aOrder)
                  have e_aOffAt := (up_ne ef16 n_aOffAt_aRow e_aOffAt)
                  have e_aIsOff := (up_ne ef16 n_aIsOff_aRow e_aIsOff)
                  have e_aAlone := (up_ne ef16 n_aAlone_aRow e_aAlone)
                  have e_aKept := (up_ne ef16 n_aKept_aRow e_aKept)
                  exact ih111 (x7_111 + (-1)) (upd caRow_111 (Int32.toNatClampNeg ((z101.1 * (4096 : Int32)) + (o32.2.2.2.1 (Int32.toNatClampNeg x7_111)))) o153.2) f16 _ _ _ ho111 S e_y e_aWorlds e_aInWorld e_aKind e_aSize e_aMarks e_aSeed e_aContents e_aContentMany e_aRow e_aBits e_aLayerSize e_aLayerCame e_aRest e_aRestMany e_aCome e_aRivals e_aGone e_aOrder e_aOffAt e_aIsOff e_aAlone e_aKept fr (lv_sub hl [0, 2, 3, 4, 5, 6, 7] rfl)
                have LP153 : ∀ (fu : Nat) (x11_153 : Int32) (x10_153 : Int32) (H : Heap) (locs : List Loc) (ls : Array Slot), (mX9_solve_L153 y24 z101 z138 caRow_111) fu x11_153 x10_153 = some o153 → PS D g (va_A (va_pl L f) szz) s.heap s L fl111 H locs → lv_has ls 12 [(11, .int x11_153), (10, .int x10_153), (8, .long z138), (7, .int x7_111), (6, .int z101.1), (5, .int o32.2.1), (4, .int y24), (0, .ref y), (1, .int wi), (2, .int by_)] → W p l e { frames := 2, cells := 0, slots := 0, locals := 52 } s m [.ref y, .int wi, .int by_].toArray below meth c H locs 0 0 QQ (F0 m 153 ls []) := by
                  intro fu
                  induction fu with
                  | zero => intro x11_153 x10_153 H locs ls ho153 S hl; exact no_some ho153
                  | succ fu ih153 =>
                    intro x11_153 x10_153 H locs ls ho153 S hl
                    rw [mX9_solve_L153] at ho153
                    refine lv_iload hx hb dX9_solve_153 (lv_at hl 0 rfl) ?_
                    refine lv_iconst (v := (3 : Int32)) hx hb dX9_solve_155 (by decide) ?_
                    refine lv_icmp_ge (tgt := 191) hx hb dX9_solve_156 (by decide) (fun b156 => ?_) (fun b156 => ?_)
                    · have ho153 := itT b156 ho153
                      obtain rfl := Option.some.inj ho153
                      exact EX153 _ _ _ S (lv_sub hl [1, 3, 4, 5, 6, 7, 8, 9] rfl)
                    · have ho153 := itF b156 ho153
                      refine lv_iload hx hb dX9_solve_159 (lv_at hl 1 rfl) ?_
                      refine lv_aload_n hx hb dX9_solve_161 rfl (lv_at hl 7 rfl) ?_
                      refine q_get hx hb hts in_X9 hown S m_y e_y (C := RX9) (T := TX9) (N := 23) rfl 8 (by decide) rfl (hts (.fieldLink RX9 36 "SieveCabinetModel" "row" "[I") (by decide +kernel)) dX9_solve_162 ?_
                      refine lv_iload hx hb dX9_solve_165 (lv_at hl 4 rfl) ?_
                      refine lv_sipush (v := (4096 : Int32)) hx hb dX9_solve_167 (by decide) ?_
                      refine lv_imul hx hb dX9_solve_170 ?_
                      refine lv_lload hx hb dX9_solve_171 (lv_at hl 2 rfl) ?_
                      refine lv_iload hx hb dX9_solve_173 (lv_at hl 0 rfl) ?_
                      refine lv_iload hx hb dX9_solve_175 (lv_at hl 6 rfl) ?_
                      obtain ⟨z177, hz177, ho153⟩ := bind_some ho153
                      refine q_si (As := [.long z138, .int x11_153, .int y24]) (rest := [.int (z101.1 * (4096 : Int32)), .ref aRow, .int x10_153]) ⟨hx, hb, hml, hown, hts⟩ (k_X9_solvedPlace l D g hz177) (va_cwS 3 hts gX9_solve_X9_solvedPlace rfl rfl rfl (by decide +kernel) ⟨Nat.le_of_ble_eq_true rfl, Nat.le_of_ble_eq_true rfl⟩) S rfl hl.1 rfl (Nat.le_of_ble_eq_true rfl) dX9_solve_177 ⟨Nat.le_of_ble_eq_true rfl, Nat.le_of_ble_eq_true rfl⟩ (fun r19 L17 f18 H locs S w177 => ?_)
                      obtain ⟨ex177, eL, ef⟩ := w177
                      rw [eL, ef] at S
                      replace ex177 := ex177.symm
                      subst ex177
                      refine lv_iadd hx hb dX9_solve_180 ?_
                      obtain ⟨hi181, ho153⟩ := ckx ho153
                      refine q_iald hx hb S m_aRow e_aRow hi181 dX9_solve_181 ?_
                      refine lv_ixor hx hb dX9_solve_182 ?_
                      refine lv_topi (fun y183 ey183 => ?_)
                      have ho153 := lt_some ho153 ey183
                      refine lv_istore (lv' := [(10, .int y183), (11, .int x11_153), (8, .long z138), (7, .int x7_111), (6, .int z101.1), (5, .int o32.2.1), (4, .int y24), (0, .ref y), (1, .int wi), (2, .int by_)]) hx hb dX9_solve_183 hl (by decide) rfl (fun ls hl => ?_)
                      refine lv_iinc (v := (x11_153 + 1)) (lv' := [(11, .int (x11_153 + 1)), (10, .int y183), (8, .long z138), (7, .int x7_111), (6, .int z101.1), (5, .int o32.2.1), (4, .int y24), (0, .ref y), (1, .int wi), (2, .int by_)]) hx hb dX9_solve_185 hl (k := 1) rfl rfl (by decide) rfl (fun ls hl => ?_)
                      refine lv_goto (tgt := 153) hx hb dX9_solve_188 (by decide) ?_
                      exact ih153 (x11_153 + 1) y183 _ _ _ ho153 S (lv_sub hl [0, 1, 2, 3, 4, 5, 6, 7, 8, 9] rfl)
                exact LP153 FU (0 : Int32) z145 _ _ _ ho153 S (lv_sub hl [0, 1, 2, 3, 4, 5, 6, 7, 8, 9] rfl)
          exact LP111 FU y109 z101.2.2.2.2.2.2.2.1 f5 _ _ _ ho111 S e_y e_aWorlds e_aInWorld e_aKind e_aSize e_aMarks e_aSeed e_aContents e_aContentMany e_aRow e_aBits e_aLayerSize e_aLayerCame e_aRest e_aRestMany e_aCome e_aRivals e_aGone e_aOrder e_aOffAt e_aIsOff e_aAlone e_aKept fr (lv_sub hl [0, 1, 2, 3, 5, 6, 7] rfl)
        · have hM := itT b86 hM
          refine lv_bipush (v := (-4 : Int32)) hx hb dX9_solve_89 (by decide) ?_
          subst hQQ
          exact q_reti (post := fun x L1 f1 => x = z.1 ∧ L1 = L ∧ (∀ b, b ∈ L → b ≠ y → b ≠ aKind → b ≠ aSize → b ≠ aMarks → b ≠ aSeed → b ≠ aContents → b ≠ aContentMany → b ≠ aRow → b ≠ aRestMany → b ≠ aOrder → b ≠ aOffAt → b ≠ aIsOff → b ≠ aAlone → f1 b = f b) ∧ f1 y = .inr (7, [.ref aWorlds, .ref aInWorld, .ref aKind, .ref aSize, .ref aMarks, .ref aSeed, .ref aContents, .ref aContentMany, .ref aRow, .ref aBits, .ref aLayerSize, .ref aLayerCame, .ref aRest, .ref aRestMany, .int z.2.1, .ref aCome, .ref aRivals, .ref aGone, .ref aOrder, .ref aOffAt, .ref aIsOff, .ref aAlone, .ref aKept]) ∧ f1 aKind = .inl (g 0, 30, .inl z.2.2.1) ∧ f1 aSize = .inl (g 0, 30, .inl z.2.2.2.1) ∧ f1 aMarks = .inl (g 0, 30, .inl z.2.2.2.2.1) ∧ f1 aSeed = .inl (g 0, 30, .inl z.2.2.2.2.2.1) ∧ f1 aContents = .inl (g 1, 30000, .inr (.inl z.2.2.2.2.2.2.1)) ∧ f1 aContentMany = .inl (g 0, 30, .inl z.2.2.2.2.2.2.2.1) ∧ f1 aRow = .inl (g 0, 122880, .inl z.2.2.2.2.2.2.2.2.1) ∧ f1 aRestMany = .inl (g 0, 30, .inl z.2.2.2.2.2.2.2.2.2.1) ∧ f1 aOrder = .inl (g 0, 1000, .inl z.2.2.2.2.2.2.2.2.2.2.1) ∧ f1 aOffAt = .inl (g 0, 1000, .inl z.2.2.2.2.2.2.2.2.2.2.2.1) ∧ f1 aIsOff = .inl (g 2, 1000, .inl z.2.2.2.2.2.2.2.2.2.2.2.2.1) ∧ f1 aAlone = .inl (g 0, 4096, .inl z.2.2.2.2.2.2.2.2.2.2.2.2.2)) hx hb hr hlk S dX9_solve_91 (by decide) (by decide) (by have hz := Option.some.inj hM; subst hz; exact ⟨rfl, rfl, fr, e_y, e_aKind, e_aSize, e_aMarks, e_aSeed, e_aContents, e_aContentMany, e_aRow, e_aRestMany, e_aOrder, e_aOffAt, e_aIsOff, e_aAlone⟩)
      · have hM := itF b74 hM
        refine lv_bipush (v := (-3 : Int32)) hx hb dX9_solve_77 (by decide) ?_
        subst hQQ
        exact q_reti (post := fun x L1 f1 => x = z.1 ∧ L1 = L ∧ (∀ b, b ∈ L → b ≠ y → b ≠ aKind → b ≠ aSize → b ≠ aMarks → b ≠ aSeed → b ≠ aContents → b ≠ aContentMany → b ≠ aRow → b ≠ aRestMany → b ≠ aOrder → b ≠ aOffAt → b ≠ aIsOff → b ≠ aAlone → f1 b = f b) ∧ f1 y = .inr (7, [.ref aWorlds, .ref aInWorld, .ref aKind, .ref aSize, .ref aMarks, .ref aSeed, .ref aContents, .ref aContentMany, .ref aRow, .ref aBits, .ref aLayerSize, .ref aLayerCame, .ref aRest, .ref aRestMany, .int z.2.1, .ref aCome, .ref aRivals, .ref aGone, .ref aOrder, .ref aOffAt, .ref aIsOff, .ref aAlone, .ref aKept]) ∧ f1 aKind = .inl (g 0, 30, .inl z.2.2.1) ∧ f1 aSize = .inl (g 0, 30, .inl z.2.2.2.1) ∧ f1 aMarks = .inl (g 0, 30, .inl z.2.2.2.2.1) ∧ f1 aSeed = .inl (g 0, 30, .inl z.2.2.2.2.2.1) ∧ f1 aContents = .inl (g 1, 30000, .inr (.inl z.2.2.2.2.2.2.1)) ∧ f1 aContentMany = .inl (g 0, 30, .inl z.2.2.2.2.2.2.2.1) ∧ f1 aRow = .inl (g 0, 122880, .inl z.2.2.2.2.2.2.2.2.1) ∧ f1 aRestMany = .inl (g 0, 30, .inl z.2.2.2.2.2.2.2.2.2.1) ∧ f1 aOrder = .inl (g 0, 1000, .inl z.2.2.2.2.2.2.2.2.2.2.1) ∧ f1 aOffAt = .inl (g 0, 1000, .inl z.2.2.2.2.2.2.2.2.2.2.2.1) ∧ f1 aIsOff = .inl (g 2, 1000, .inl z.2.2.2.2.2.2.2.2.2.2.2.2.1) ∧ f1 aAlone = .inl (g 0, 4096, .inl z.2.2.2.2.2.2.2.2.2.2.2.2.2)) hx hb hr hlk S dX9_solve_79 (by decide) (by decide) (by have hz := Option.some.inj hM; subst hz; exact ⟨rfl, rfl, fr, e_y, e_aKind, e_aSize, e_aMarks, e_aSeed, e_aContents, e_aContentMany, e_aRow, e_aRestMany, e_aOrder, e_aOffAt, e_aIsOff, e_aAlone⟩)
    have LP32 : ∀ (fu : Nat) (x6_32 : Int32) (x5_32 : Int32) (caOrder_32 : Nat → Int32) (caOffAt_32 : Nat → Int32) (caIsOff_32 : Nat → Int32) (caAlone_32 : Nat → Int32) (fl32 : Nat → va_E) (H : Heap) (locs : List Loc) (ls : Array Slot), (mX9_solve_L32 vWorlds vInWorld wi by_ y24) fu x6_32 x5_32 caOrder_32 caOffAt_32 caIsOff_32 caAlone_32 = some o32 → PS D g (va_A (va_pl L f) szz) s.heap s L fl32 H locs → fl32 y = .inr (7, [.ref aWorlds, .ref aInWorld, .ref aKind, .ref aSize, .ref aMarks, .ref aSeed, .ref aContents, .ref aContentMany, .ref aRow, .ref aBits, .ref aLayerSize, .ref aLayerCame, .ref aRest, .ref aRestMany, .int many, .ref aCome, .ref aRivals, .ref aGone, .ref aOrder, .ref aOffAt, .ref aIsOff, .ref aAlone, .ref aKept]) → fl32 aWorlds = .inl (g 1, 8000, .inr (.inl vWorlds)) → fl32 aInWorld = .inl (g 0, 8, .inl vInWorld) → fl32 aKind = .inl (g 0, 30, .inl vKind) → fl32 aSize = .inl (g 0, 30, .inl vSize) → fl32 aMarks = .inl (g 0, 30, .inl vMarks) → fl32 aSeed = .inl (g 0, 30, .inl vSeed) → fl32 aContents = .inl (g 1, 30000, .inr (.inl vContents)) → fl32 aContentMany = .inl (g 0, 30, .inl vContentMany) → fl32 aRow = .inl (g 0, 122880, .inl vRow) → fl32 aBits = .inl (g 0, 76800, .inl vBits) → fl32 aLayerSize = .inl (g 0, 600, .inl vLayerSize) → fl32 aLayerCame = .inl (g 0, 600, .inl vLayerCame) → fl32 aRest = .inl (g 1, 30000, .inr (.inl vRest)) → fl32 aRestMany = .inl (g 0, 30, .inl vRestMany) → fl32 aCome = .inl (g 1, 1000, .inr (.inl vCome)) → fl32 aRivals = .inl (g 1, 1000, .inr (.inl vRivals)) → fl32 aGone = .inl (g 1, 1000, .inr (.inl vGone)) → fl32 aOrder = .inl (g 0, 1000, .inl caOrder_32) → fl32 aOffAt = .inl (g 0, 1000, .inl caOffAt_32) → fl32 aIsOff = .inl (g 2, 1000, .inl caIsOff_32) → fl32 aAlone = .inl (g 0, 4096, .inl caAlone_32) → fl32 aKept = .inl (g 0, 4096, .inl vKept) → (∀ b, b ∈ L → b ≠ y → b ≠ aKind → b ≠ aSize → b ≠ aMarks → b ≠ aSeed → b ≠ aContents → b ≠ aContentMany → b ≠ aRow → b ≠ aRestMany → b ≠ aOrder → b ≠ aOffAt → b ≠ aIsOff → b ≠ aAlone → fl32 b = f b) → lv_has ls 12 [(6, .int x6_32), (5, .int x5_32), (4, .int y24), (3, .int (vInWorld (Int32.toNatClampNeg wi))), (0, .ref y), (1, .int wi), (2, .int by_)] → W p l e { frames := 2, cells := 0, slots := 0, locals := 52 } s m [.ref y, .int wi, .int by_].toArray below meth c H locs 0 0 QQ (F0 m 32 ls []) := by
      intro fu
      induction fu with
      | zero => intro x6_32 x5_32 caOrder_32 caOffAt_32 caIsOff_32 caAlone_32 fl32 H locs ls ho32 S e_y e_aWorlds e_aInWorld e_aKind e_aSize e_aMarks e_aSeed e_aContents e_aContentMany e_aRow e_aBits e_aLayerSize e_aLayerCame e_aRest e_aRestMany e_aCome e_aRivals e_aGone e_aOrder e_aOffAt e_aIsOff e_aAlone e_aKept fr hl; exact no_some ho32
      | succ fu ih32 =>
        intro x6_32 x5_32 caOrder_32 caOffAt_32 caIsOff_32 caAlone_32 fl32 H locs ls ho32 S e_y e_aWorlds e_aInWorld e_aKind e_aSize e_aMarks e_aSeed e_aContents e_aContentMany e_aRow e_aBits e_aLayerSize e_aLayerCame e_aRest e_aRestMany e_aCome e_aRivals e_aGone e_aOrder e_aOffAt e_aIsOff e_aAlone e_aKept fr hl
        rw [mX9_solve_L32] at ho32
        refine lv_iload hx hb dX9_solve_32 (lv_at hl 0 rfl) ?_
        refine lv_bipush (v := (50 : Int32)) hx hb dX9_solve_34 (by decide) ?_
        refine lv_icmp_ge (tgt := 72) hx hb dX9_solve_36 (by decide) (fun b36 => ?_) (fun b36 => ?_)
        · have ho32 := itT b36 ho32
          obtain rfl := Option.some.inj ho32
          exact EX32 fl32 _ _ _ S e_y e_aWorlds e_aInWorld e_aKind e_aSize e_aMarks e_aSeed e_aContents e_aContentMany e_aRow e_aBits e_aLayerSize e_aLayerCame e_aRest e_aRestMany e_aCome e_aRivals e_aGone e_aOrder e_aOffAt e_aIsOff e_aAlone e_aKept fr (lv_sub hl [1, 2, 3, 4, 5, 6] rfl)
        · have ho32 := itF b36 ho32
          refine lv_iload hx hb dX9_solve_39 (lv_at hl 1 rfl) ?_
          refine lv_if_ge (tgt := 72) hx hb dX9_solve_41 (by decide) (fun b41 => ?_) (fun b41 => ?_)
          · have ho32 := itT b41 ho32
            obtain rfl := Option.some.inj ho32
            exact EX32 fl32 _ _ _ S e_y e_aWorlds e_aInWorld e_aKind e_aSize e_aMarks e_aSeed e_aContents e_aContentMany e_aRow e_aBits e_aLayerSize e_aLayerCame e_aRest e_aRestMany e_aCome e_aRivals e_aGone e_aOrder e_aOffAt e_aIsOff e_aAlone e_aKept fr (lv_sub hl [1, 2, 3, 4, 5, 6] rfl)
          · have ho32 := itF b41 ho32
            refine lv_aload_n hx hb dX9_solve_44 rfl (lv_at hl 4 rfl) ?_
            refine lv_iload_n hx hb dX9_solve_45 rfl (lv_at hl 5 rfl) ?_
            refine lv_iload_n hx hb dX9_solve_46 rfl (lv_at hl 6 rfl) ?_
            refine lv_iload hx hb dX9_solve_47 (lv_at hl 0 rfl) ?_
            refine lv_iadd hx hb dX9_solve_49 ?_
            refine lv_iload hx hb dX9_solve_50 (lv_at hl 2 rfl) ?_
            obtain ⟨z52, hz52, ho32⟩ := bind_some ho32
            refine q_vi (As := [.int wi, .int (by_ + x6_32), .int y24]) (rest := []) ⟨hx, hb, hml, hown, hts⟩ (k_X9_takeOff l D g m_y e_y m_aWorlds e_aWorlds m_aInWorld e_aInWorld m_aKind e_aKind m_aSize e_aSize m_aMarks e_aMarks m_aSeed e_aSeed m_aContents e_aContents m_aContentMany e_aContentMany m_aRow e_aRow m_aBits e_aBits m_aLayerSize e_aLayerSize m_aLayerCame e_aLayerCame m_aRest e_aRest m_aRestMany e_aRestMany m_aCome e_aCome m_aRivals e_aRivals m_aGone e_aGone m_aOrder e_aOrder m_aOffAt e_aOffAt m_aIsOff e_aIsOff m_aAlone e_aAlone m_aKept e_aKept r_aOrder r_aOffAt r_aIsOff r_aAlone r_aKept hz52) (cwV 3 hts gX9_solve_X9_takeOff rfl rfl rfl (by decide +kernel) ⟨Nat.le_of_ble_eq_true rfl, Nat.le_of_ble_eq_true rfl⟩) S m_y e_y (T := TX9) (N := 23) rfl rfl hl.1 rfl (Nat.le_of_ble_eq_true rfl) dX9_solve_52 ⟨Nat.le_of_ble_eq_true rfl, Nat.le_of_ble_eq_true rfl⟩ (fun r22 L20 f21 H locs S w52 => ?_)
            obtain ⟨ex52, eL, fv52, E_aOrder, E_aOffAt, E_aIsOff, E_aAlone⟩ := w52
            rw [eL] at S
            have fr : ∀ b, b ∈ L → b ≠ y → b ≠ aKind → b ≠ aSize → b ≠ aMarks → b ≠ aSeed → b ≠ aContents → b ≠ aContentMany → b ≠ aRow → b ≠ aRestMany → b ≠ aOrder → b ≠ aOffAt → b ≠ aIsOff → b ≠ aAlone → f21 b = f b := fun b mb nb0 nb1 nb2 nb3 nb4 nb5 nb6 nb7 nb8 nb9 nb10 nb11 nb12 => (fv52 b mb nb9 nb10 nb11 nb12).trans (fr b mb nb0 nb1 nb2 nb3 nb4 nb5 nb6 nb7 nb8 nb9 nb10 nb11 nb12)
            have e_aOrder : f21 aOrder = .inl (g 0, 1000, .inl z52.2.1) := E_aOrder
            have e_aOffAt : f21 aOffAt = .inl (g 0, 1000, .inl z52.2.2.1) := E_aOffAt
            have e_aIsOff : f21 aIsOff = .inl (g 2, 1000, .inl z52.2.2.2.1) := E_aIsOff
            have e_aAlone : f21 aAlone = .inl (g 0, 4096, .inl z52.2.2.2.2) := E_aAlone
            replace ex52 := ex52.symm
            subst ex52
            refine lv_if_eq (tgt := 63) hx hb dX9_solve_55 (by decide) (fun b55 => ?_) (fun b55 => ?_)
            · have ho32 := itT b55 ho32
              refine lv_iconst (v := (-1 : Int32)) hx hb dX9_solve_63 (by decide) ?_
              refine lv_istore (lv' := [(5, .int (-1 : Int32)), (6, .int x6_32), (4, .int y24), (3, .int (vInWorld (Int32.toNatClampNeg wi))), (0, .ref y), (1, .int wi), (2, .int by_)]) hx hb dX9_solve_64 hl (by decide) rfl (fun ls hl => ?_)
              refine lv_iinc (v := (x6_32 + 1)) (lv' := [(6, .int (x6_32 + 1)), (5, .int (-1 : Int32)), (4, .int y24), (3, .int (vInWorld (Int32.toNatClampNeg wi))), (0, .ref y), (1, .int wi), (2, .int by_)]) hx hb dX9_solve_66 hl (k := 1) rfl rfl (by decide) rfl (fun ls hl => ?_)
              refine lv_goto (tgt := 32) hx hb dX9_solve_69 (by decide) ?_
              have e_y := ((fv52 y m_y n_y_aOrder n_y_aOffAt n_y_aIsOff n_y_aAlone).trans e_y)
              have e_aWorlds := ((fv52 aWorlds m_aWorlds n_aWorlds_aOrder n_aWorlds_aOffAt n_aWorlds_aIsOff n_aWorlds_aAlone).trans e_aWorlds)
              have e_aInWorld := ((fv52 aInWorld m_aInWorld n_aInWorld_aOrder n_aInWorld_aOffAt n_aInWorld_aIsOff n_aInWorld_aAlone).trans e_aInWorld)
              have e_aKind := ((fv52 aKind m_aKind n_aKind_aOrder n_aKind_aOffAt n_aKind_aIsOff n_aKind_aAlone).trans e_aKind)
              have e_aSize := ((fv52 aSize m_aSize n_aSize_aOrder n_aSize_aOffAt n_aSize_aIsOff n_aSize_aAlone).trans e_aSize)
              have e_aMarks := ((fv52 aMarks m_aMarks n_aMarks_aOrder n_aMarks_aOffAt n_aMarks_aIsOff n_aMarks_aAlone).trans e_aMarks)
              have e_aSeed := ((fv52 aSeed m_aSeed n_aSeed_aOrder n_aSeed_aOffAt n_aSeed_aIsOff n_aSeed_aAlone).trans e_aSeed)
              have e_aContents := ((fv52 aContents m_aContents n_aContents_aOrder n_aContents_aOffAt n_aContents_aIsOff n_aContents_aAlone).trans e_aContents)
              have e_aContentMany := ((fv52 aContentMany m_aContentMany n_aContentMany_aOrder n_aContentMany_aOffAt n_aContentMany_aIsOff n_aContentMany_aAlone).trans e_aContentMany)
              have e_aRow := ((fv52 aRow m_aRow n_aRow_aOrder n_aRow_aOffAt n_aRow_aIsOff n_aRow_aAlone).trans e_aRow)
              have e_aBits := ((fv52 aBits m_aBits n_aBits_aOrder n_aBits_aOffAt n_aBits_aIsOff n_aBits_aAlone).trans e_aBits)
              have e_aLayerSize := ((fv52 aLayerSize m_aLayerSize n_aLayerSize_aOrder n_aLayerSize_aOffAt n_aLayerSize_aIsOff n_aLayerSize_aAlone).trans e_aLayerSize)
              have e_aLayerCame := ((fv52 aLayerCame m_aLayerCame n_aLayerCame_aOrder n_aLayerCame_aOffAt n_aLayerCame_aIsOff n_aLayerCame_aAlone).trans e_aLayerCame)
              have e_aRest := ((fv52 aRest m_aRest n_aRest_aOrder n_aRest_aOffAt n_aRest_aIsOff n_aRest_aAlone).trans e_aRest)
              have e_aRestMany := ((fv52 aRestMany m_aRestMany n_aRestMany_aOrder n_aRestMany_aOffAt n_aRestMany_aIsOff n_aRestMany_aAlone).trans e_aRestMany)
              have e_aCome := ((fv52 aCome m_aCome n_aCome_aOrder n_aCome_aOffAt n_aCome_aIsOff n_aCome_aAlone).trans e_aCome)
              have e_aRivals := ((fv52 aRivals m_aRivals n_aRivals_aOrder n_aRivals_aOffAt n_aRivals_aIsOff n_aRivals_aAlone).trans e_aRivals)
              have e_aGone := ((fv52 aGone m_aGone n_aGone_aOrder n_aGone_aOffAt n_aGone_aIsOff n_aGone_aAlone).trans e_aGone)
              have e_aKept := ((fv52 aKept m_aKept n_aKept_aOrder n_aKept_aOffAt n_aKept_aIsOff n_aKept_aAlone).trans e_aKept)
              exact ih32 (x6_32 + 1) (-1 : Int32) z52.2.1 z52.2.2.1 z52.2.2.2.1 z52.2.2.2.2 f21 _ _ _ ho32 S e_y e_aWorlds e_aInWorld e_aKind e_aSize e_aMarks e_aSeed e_aContents e_aContentMany e_aRow e_aBits e_aLayerSize e_aLayerCame e_aRest e_aRestMany e_aCome e_aRivals e_aGone e_aOrder e_aOffAt e_aIsOff e_aAlone e_aKept fr (lv_sub hl [0, 1, 2, 3, 4, 5, 6] rfl)
            · have ho32 := itF b55 ho32
              refine lv_iload hx hb dX9_solve_58 (lv_at hl 0 rfl) ?_
              refine lv_goto (tgt := 64) hx hb dX9_solve_60 (by decide) ?_
              refine lv_istore (lv' := [(5, .int x6_32), (6, .int x6_32), (4, .int y24), (3, .int (vInWorld (Int32.toNatClampNeg wi))), (0, .ref y), (1, .int wi), (2, .int by_)]) hx hb dX9_solve_64 hl (by decide) rfl (fun ls hl => ?_)
              refine lv_iinc (v := (x6_32 + 1)) (lv' := [(6, .int (x6_32 + 1)), (5, .int x6_32), (4, .int y24), (3, .int (vInWorld (Int32.toNatClampNeg wi))), (0, .ref y), (1, .int wi), (2, .int by_)]) hx hb dX9_solve_66 hl (k := 1) rfl rfl (by decide) rfl (fun ls hl => ?_)
              refine lv_goto (tgt := 32) hx hb dX9_solve_69 (by decide) ?_
              have e_y := ((fv52 y m_y n_y_aOrder n_y_aOffAt n_y_aIsOff n_y_aAlone).trans e_y)
              have e_aWorlds := ((fv52 aWorlds m_aWorlds n_aWorlds_aOrder n_aWorlds_aOffAt n_aWorlds_aIsOff n_aWorlds_aAlone).trans e_aWorlds)
              have e_aInWorld := ((fv52 aInWorld m_aInWorld n_aInWorld_aOrder n_aInWorld_aOffAt n_aInWorld_aIsOff n_aInWorld_aAlone).trans e_aInWorld)
              have e_aKind := ((fv52 aKind m_aKind n_aKind_aOrder n_aKind_aOffAt n_aKind_aIsOff n_aKind_aAlone).trans e_aKind)
              have e_aSize := ((fv52 aSize m_aSize n_aSize_aOrder n_aSize_aOffAt n_aSize_aIsOff n_aSize_aAlone).trans e_aSize)
              have e_aMarks := ((fv52 aMarks m_aMarks n_aMarks_aOrder n_aMarks_aOffAt n_aMarks_aIsOff n_aMarks_aAlone).trans e_aMarks)
              have e_aSeed := ((fv52 aSeed m_aSeed n_aSeed_aOrder n_aSeed_aOffAt n_aSeed_aIsOff n_aSeed_aAlone).trans e_aSeed)
              have e_aContents := ((fv52 aContents m_aContents n_aContents_aOrder n_aContents_aOffAt n_aContents_aIsOff n_aContents_aAlone).trans e_aContents)
              have e_aContentMany := ((fv52 aContentMany m_aContentMany n_aContentMany_aOrder n_aContentMany_aOffAt n_aContentMany_aIsOff n_aContentMany_aAlone).trans e_aContentMany)
              have e_aRow := ((fv52 aRow m_aRow n_aRow_aOrder n_aRow_aOffAt n_aRow_aIsOff n_aRow_aAlone).trans e_aRow)
              have e_aBits := ((fv52 aBits m_aBits n_aBits_aOrder n_aBits_aOffAt n_aBits_aIsOff n_aBits_aAlone).trans e_aBits)
              have e_aLayerSize := ((fv52 aLayerSize m_aLayerSize n_aLayerSize_aOrder n_aLayerSize_aOffAt n_aLayerSize_aIsOff n_aLayerSize_aAlone).trans e_aLayerSize)
              have e_aLayerCame := ((fv52 aLayerCame m_aLayerCame n_aLayerCame_aOrder n_aLayerCame_aOffAt n_aLayerCame_aIsOff n_aLayerCame_aAlone).trans e_aLayerCame)
              have e_aRest := ((fv52 aRest m_aRest n_aRest_aOrder n_aRest_aOffAt n_aRest_aIsOff n_aRest_aAlone).trans e_aRest)
              have e_aRestMany := ((fv52 aRestMany m_aRestMany n_aRestMany_aOrder n_aRestMany_aOffAt n_aRestMany_aIsOff n_aRestMany_aAlone).trans e_aRestMany)
              have e_aCome := ((fv52 aCome m_aCome n_aCome_aOrder n_aCome_aOffAt n_aCome_aIsOff n_aCome_aAlone).trans e_aCome)
              have e_aRivals := ((fv52 aRivals m_aRivals n_aRivals_aOrder n_aRivals_aOffAt n_aRivals_aIsOff n_aRivals_aAlone).trans e_aRivals)
              have e_aGone := ((fv52 aGone m_aGone n_aGone_aOrder n_aGone_aOffAt n_aGone_aIsOff n_aGone_aAlone).trans e_aGone)
              have e_aKept := ((fv52 aKept m_aKept n_aKept_aOrder n_aKept_aOffAt n_aKept_aIsOff n_aKept_aAlone).trans e_aKept)
              exact ih32 (x6_32 + 1) x6_32 z52.2.1 z52.2.2.1 z52.2.2.2.1 z52.2.2.2.2 f21 _ _ _ ho32 S e_y e_aWorlds e_aInWorld e_aKind e_aSize e_aMarks e_aSeed e_aContents e_aContentMany e_aRow e_aBits e_aLayerSize e_aLayerCame e_aRest e_aRestMany e_aCome e_aRivals e_aGone e_aOrder e_aOffAt e_aIsOff e_aAlone e_aKept fr (lv_sub hl [0, 1, 2, 3, 4, 5, 6] rfl)
    exact LP32 FU (0 : Int32) (-1 : Int32) vOrder vOffAt vIsOff vAlone f _ _ _ ho32 S e_y e_aWorlds e_aInWorld e_aKind e_aSize e_aMarks e_aSeed e_aContents e_aContentMany e_aRow e_aBits e_aLayerSize e_aLayerCame e_aRest e_aRestMany e_aCome e_aRivals e_aGone e_aOrder e_aOffAt e_aIsOff e_aAlone e_aKept fr (lv_sub hl [0, 1, 2, 3, 4, 5, 6] rfl)
  · have hM := itT b4 hM
    refine lv_iconst (v := (-1 : Int32)) hx hb dX9_solve_7 (by decide) ?_
    subst hQQ
    exact q_reti (post := fun x L1 f1 => x = z.1 ∧ L1 = L ∧ (∀ b, b ∈ L → b ≠ y → b ≠ aKind → b ≠ aSize → b ≠ aMarks → b ≠ aSeed → b ≠ aContents → b ≠ aContentMany → b ≠ aRow → b ≠ aRestMany → b ≠ aOrder → b ≠ aOffAt → b ≠ aIsOff → b ≠ aAlone → f1 b = f b) ∧ f1 y = .inr (7, [.ref aWorlds, .ref aInWorld, .ref aKind, .ref aSize, .ref aMarks, .ref aSeed, .ref aContents, .ref aContentMany, .ref aRow, .ref aBits, .ref aLayerSize, .ref aLayerCame, .ref aRest, .ref aRestMany, .int z.2.1, .ref aCome, .ref aRivals, .ref aGone, .ref aOrder, .ref aOffAt, .ref aIsOff, .ref aAlone, .ref aKept]) ∧ f1 aKind = .inl (g 0, 30, .inl z.2.2.1) ∧ f1 aSize = .inl (g 0, 30, .inl z.2.2.2.1) ∧ f1 aMarks = .inl (g 0, 30, .inl z.2.2.2.2.1) ∧ f1 aSeed = .inl (g 0, 30, .inl z.2.2.2.2.2.1) ∧ f1 aContents = .inl (g 1, 30000, .inr (.inl z.2.2.2.2.2.2.1)) ∧ f1 aContentMany = .inl (g 0, 30, .inl z.2.2.2.2.2.2.2.1) ∧ f1 aRow = .inl (g 0, 122880, .inl z.2.2.2.2.2.2.2.2.1) ∧ f1 aRestMany = .inl (g 0, 30, .inl z.2.2.2.2.2.2.2.2.2.1) ∧ f1 aOrder = .inl (g 0, 1000, .inl z.2.2.2.2.2.2.2.2.2.2.1) ∧ f1 aOffAt = .inl (g 0, 1000, .inl z.2.2.2.2.2.2.2.2.2.2.2.1) ∧ f1 aIsOff = .inl (g 2, 1000, .inl z.2.2.2.2.2.2.2.2.2.2.2.2.1) ∧ f1 aAlone = .inl (g 0, 4096, .inl z.2.2.2.2.2.2.2.2.2.2.2.2.2)) hx hb hr hlk S dX9_solve_8 (by decide) (by decide) (by have hz := Option.some.inj hM; subst hz; exact ⟨rfl, rfl, fr, e_y, e_aKind, e_aSize, e_aMarks, e_aSeed, e_aContents, e_aContentMany, e_aRow, e_aRestMany, e_aOrder, e_aOffAt, e_aIsOff, e_aAlone⟩)

def mX9_lay_L119 (sq : Int32) (i : Int32) (o4 : Int32) (z111 : Int64) : Nat → Int32 → (Nat → Int32) → Option (Int32 × (Nat → Int32))
  | 0, _, _ => none
  | fu + 1, x9_119, caBits_119 => if (3 : Int32) ≤ x9_119 then (some (x9_119, caBits_119)) else ((mX9_markOf z111 x9_119 o4).bind fun z131 => if ix ((((sq * (20 : Int32)) + i) * (128 : Int32)) + (z131 / (32 : Int32))) 76800 = true then (if ix ((((sq * (20 : Int32)) + i) * (128 : Int32)) + (z131 / (32 : Int32))) 76800 = true then (mX9_lay_L119 sq i o4 z111 fu (x9_119 + 1) (upd caBits_119 (Int32.toNatClampNeg ((((sq * (20 : Int32)) + i) * (128 : Int32)) + (z131 / (32 : Int32)))) ((caBits_119 (Int32.toNatClampNeg ((((sq * (20 : Int32)) + i) * (128 : Int32)) + (z131 / (32 : Int32))))) ||| ((1 : Int32) <<< ((irm z131 (32 : Int32)) &&& 31))))) else none) else none)
def mX9_lay_L90 (vSeed : Nat → Int32) (vCome : Nat → Int64) (sq : Int32) (i : Int32) (nn : Int32) (o4 : Int32) : Nat → Int32 → (Nat → Int32) → Option (Int32 × (Nat → Int32))
  | 0, _, _ => none
  | fu + 1, x6_90, caBits_90 => if nn ≤ x6_90 then (some (x6_90, caBits_90)) else (if ix x6_90 1000 = true then (if ix sq 30 = true then ((mX9_mix (vCome (Int32.toNatClampNeg x6_90)) ((vSeed (Int32.toNatClampNeg sq)) + i)).bind fun z111 => (mX9_lay_L119 sq i o4 z111 FU (0 : Int32) caBits_90).bind fun o119 => mX9_lay_L90 vSeed vCome sq i nn o4 fu (x6_90 + 1) o119.2) else none) else none)
def mX9_lay_L58 (sq : Int32) (i : Int32) : Nat → Int32 → (Nat → Int32) → Option (Int32 × (Nat → Int32))
  | 0, _, _ => none
  | fu + 1, x6_58, caBits_58 => if (128 : Int32) ≤ x6_58 then (some (x6_58, caBits_58)) else (if ix ((((sq * (20 : Int32)) + i) * (128 : Int32)) + x6_58) 76800 = true then (mX9_lay_L58 sq i fu (x6_58 + 1) (upd caBits_58 (Int32.toNatClampNeg ((((sq * (20 : Int32)) + i) * (128 : Int32)) + x6_58)) (0 : Int32))) else none)
def mX9_lay_L4 (nn : Int32) : Nat → Int32 → Option (Int32)
  | 0, _ => none
  | fu + 1, x4_4 => if (4096 : Int32) ≤ x4_4 then (some x4_4) else (if ((8 : Int32) * nn) ≤ x4_4 then (some x4_4) else (mX9_lay_L4 nn fu ((2 : Int32) * x4_4)))
def mX9_lay (vSize : Nat → Int32) (vSeed : Nat → Int32) (vBits : Nat → Int32) (vLayerSize : Nat → Int32) (vLayerCame : Nat → Int32) (vCome : Nat → Int64) (sq : Int32) (i : Int32) (nn : Int32) : Option ((Nat → Int32) × (Nat → Int32) × (Nat → Int32) × (Nat → Int32)) := (mX9_lay_L4 nn FU (8 : Int32)).bind fun o4 => if ix ((sq * (20 : Int32)) + i) 600 = true then (if ix ((sq * (20 : Int32)) + i) 600 = true then ((mX9_lay_L58 sq i FU (0 : Int32) vBits).bind fun o58 => (mX9_lay_L90 vSeed vCome sq i nn o4 FU (0 : Int32) o58.2).bind fun o90 => if ix sq 30 = true then (some ((upd vSize (Int32.toNatClampNeg sq) (i + (1 : Int32))), o90.2, (upd vLayerSize (Int32.toNatClampNeg ((sq * (20 : Int32)) + i)) o4), (upd vLayerCame (Int32.toNatClampNeg ((sq * (20 : Int32)) + i)) nn))) else none) else none) else none
set_option maxHeartbeats 4000000 in
set_option maxRecDepth 100000 in
theorem k_X9_lay (l : Launch) (D : va_G) (g : Nat → ClassId) {L : List Nat} {f : Nat → va_E} {aAlone aBits aCome aContentMany aContents aGone aInWorld aIsOff aKept aKind aLayerCame aLayerSize aMarks aOffAt aOrder aRest aRestMany aRivals aRow aSeed aSize aWorlds y : Nat} {many : Int32} {vWorlds : Nat → Int64} {vInWorld : Nat → Int32} {vKind : Nat → Int32} {vSize : Nat → Int32} {vMarks : Nat → Int32} {vSeed : Nat → Int32} {vContents : Nat → Int64} {vContentMany : Nat → Int32} {vRow : Nat → Int32} {vBits : Nat → Int32} {vLayerSize : Nat → Int32} {vLayerCame : Nat → Int32} {vRest : Nat → Int64} {vRestMany : Nat → Int32} {vCome : Nat → Int64} {vRivals : Nat → Int64} {vGone : Nat → Int64} {vOrder : Nat → Int32} {vOffAt : Nat → Int32} {vIsOff : Nat → Int32} {vAlone : Nat → Int32} {vKept : Nat → Int32} {sq : Int32} {i : Int32} {nn : Int32} {ρ : Nat → Nat × Nat} {z : (Nat → Int32) × (Nat → Int32) × (Nat → Int32) × (Nat → Int32)} (m_y : y ∈ L) (e_y : f y = .inr (7, [.ref aWorlds, .ref aInWorld, .ref aKind, .ref aSize, .ref aMarks, .ref aSeed, .ref aContents, .ref aContentMany, .ref aRow, .ref aBits, .ref aLayerSize, .ref aLayerCame, .ref aRest, .ref aRestMany, .int many, .ref aCome, .ref aRivals, .ref aGone, .ref aOrder, .ref aOffAt, .ref aIsOff, .ref aAlone, .ref aKept])) (m_aWorlds : aWorlds ∈ L) (e_aWorlds : f aWorlds = .inl (g 1, 8000, .inr (.inl vWorlds))) (m_aInWorld : aInWorld ∈ L) (e_aInWorld : f aInWorld = .inl (g 0, 8, .inl vInWorld)) (m_aKind : aKind ∈ L) (e_aKind : f aKind = .inl (g 0, 30, .inl vKind)) (m_aSize : aSize ∈ L) (e_aSize : f aSize = .inl (g 0, 30, .inl vSize)) (m_aMarks : aMarks ∈ L) (e_aMarks : f aMarks = .inl (g 0, 30, .inl vMarks)) (m_aSeed : aSeed ∈ L) (e_aSeed : f aSeed = .inl (g 0, 30, .inl vSeed)) (m_aContents : aContents ∈ L) (e_aContents : f aContents = .inl (g 1, 30000, .inr (.inl vContents))) (m_aContentMany : aContentMany ∈ L) (e_aContentMany : f aContentMany = .inl (g 0, 30, .inl vContentMany)) (m_aRow : aRow ∈ L) (e_aRow : f aRow = .inl (g 0, 122880, .inl vRow)) (m_aBits : aBits ∈ L) (e_aBits : f aBits = .inl (g 0, 76800, .inl vBits)) (m_aLayerSize : aLayerSize ∈ L) (e_aLayerSize : f aLayerSize = .inl (g 0, 600, .inl vLayerSize)) (m_aLayerCame : aLayerCame ∈ L) (e_aLayerCame : f aLayerCame = .inl (g 0, 600, .inl vLayerCame)) (m_aRest : aRest ∈ L) (e_aRest : f aRest = .inl (g 1, 30000, .inr (.inl vRest))) (m_aRestMany : aRestMany ∈ L) (e_aRestMany : f aRestMany = .inl (g 0, 30, .inl vRestMany)) (m_aCome : aCome ∈ L) (e_aCome : f aCome = .inl (g 1, 1000, .inr (.inl vCome))) (m_aRivals : aRivals ∈ L) (e_aRivals : f aRivals = .inl (g 1, 1000, .inr (.inl vRivals))) (m_aGone : aGone ∈ L) (e_aGone : f aGone = .inl (g 1, 1000, .inr (.inl vGone))) (m_aOrder : aOrder ∈ L) (e_aOrder : f aOrder = .inl (g 0, 1000, .inl vOrder)) (m_aOffAt : aOffAt ∈ L) (e_aOffAt : f aOffAt = .inl (g 0, 1000, .inl vOffAt)) (m_aIsOff : aIsOff ∈ L) (e_aIsOff : f aIsOff = .inl (g 2, 1000, .inl vIsOff)) (m_aAlone : aAlone ∈ L) (e_aAlone : f aAlone = .inl (g 0, 4096, .inl vAlone)) (m_aKept : aKept ∈ L) (e_aKept : f aKept = .inl (g 0, 4096, .inl vKept))  (r_aLayerSize : ρ aLayerSize = (500, 11)) (r_aLayerCame : ρ aLayerCame = (500, 12))  (hM : mX9_lay vSize vSeed vBits vLayerSize vLayerCame vCome sq i nn = some z) : cV l yX9_lay wsX9_lay { frames := 1, cells := 0, slots := 0, locals := 27 } D g [.ref y, .int sq, .int i, .int nn] L f 0 0 (fun L1 f1 => L1 = L ∧ (∀ b, b ∈ L → b ≠ aSize → b ≠ aBits → b ≠ aLayerSize → b ≠ aLayerCame → f1 b = f b) ∧ f1 aSize = .inl (g 0, 30, .inl z.1) ∧ f1 aBits = .inl (g 0, 76800, .inl z.2.1) ∧ f1 aLayerSize = .inl (g 0, 600, .inl z.2.2.1) ∧ f1 aLayerCame = .inl (g 0, 600, .inl z.2.2.2)) := by
  refine cV_of (cc := cX9_lay) (maxL := 11) (ret := none) (by decide) rfl (Nat.le_of_ble_eq_true rfl) ?_
  intro szz p e s m below meth c hx hb hr hml hts hown hlk hnm S ls hl
  have hl : lv_has ls 11 [(0, .ref y), (1, .int sq), (2, .int i), (3, .int nn)] := hl
  have in_X9 : ∀ w ∈ wsX90, w ∈ wsX9_lay := by decide +kernel
  have n_y_aLayerSize : y ≠ aLayerSize := ne_ir e_aLayerSize e_y
  have n_aLayerCame_aLayerSize : aLayerCame ≠ aLayerSize := role_ne r_aLayerSize r_aLayerCame (by decide)
  have n_y_aLayerCame : y ≠ aLayerCame := ne_ir e_aLayerCame e_y
  have n_aWorlds_aLayerSize : aWorlds ≠ aLayerSize := ne_len e_aLayerSize e_aWorlds (by decide)
  have n_aWorlds_aLayerCame : aWorlds ≠ aLayerCame := ne_len e_aLayerCame e_aWorlds (by decide)
  have n_aInWorld_aLayerSize : aInWorld ≠ aLayerSize := ne_len e_aLayerSize e_aInWorld (by decide)
  have n_aInWorld_aLayerCame : aInWorld ≠ aLayerCame := ne_len e_aLayerCame e_aInWorld (by decide)
  have n_aKind_aLayerSize : aKind ≠ aLayerSize := ne_len e_aLayerSize e_aKind (by decide)
  have n_aKind_aLayerCame : aKind ≠ aLayerCame := ne_len e_aLayerCame e_aKind (by decide)
  have n_aSize_aLayerSize : aSize ≠ aLayerSize := ne_len e_aLayerSize e_aSize (by decide)
  have n_aSize_aLayerCame : aSize ≠ aLayerCame := ne_len e_aLayerCame e_aSize (by decide)
  have n_aMarks_aLayerSize : aMarks ≠ aLayerSize := ne_len e_aLayerSize e_aMarks (by decide)
  have n_aMarks_aLayerCame : aMarks ≠ aLayerCame := ne_len e_aLayerCame e_aMarks (by decide)
  have n_aSeed_aLayerSize : aSeed ≠ aLayerSize := ne_len e_aLayerSize e_aSeed (by decide)
  have n_aSeed_aLayerCame : aSeed ≠ aLayerCame := ne_len e_aLayerCame e_aSeed (by decide)
  have n_aContents_aLayerSize : aContents ≠ aLayerSize := ne_len e_aLayerSize e_aContents (by decide)
  have n_aContents_aLayerCame : aContents ≠ aLayerCame := ne_len e_aLayerCame e_aContents (by decide)
  have n_aContentMany_aLayerSize : aContentMany ≠ aLayerSize := ne_len e_aLayerSize e_aContentMany (by decide)
  have n_aContentMany_aLayerCame : aContentMany ≠ aLayerCame := ne_len e_aLayerCame e_aContentMany (by decide)
  have n_aRow_aLayerSize : aRow ≠ aLayerSize := ne_len e_aLayerSize e_aRow (by decide)
  have n_aRow_aLayerCame : aRow ≠ aLayerCame := ne_len e_aLayerCame e_aRow (by decide)
  have n_aBits_aLayerSize : aBits ≠ aLayerSize := ne_len e_aLayerSize e_aBits (by decide)
  have n_aBits_aLayerCame : aBits ≠ aLayerCame := ne_len e_aLayerCame e_aBits (by decide)
  have n_aLayerSize_aLayerCame : aLayerSize ≠ aLayerCame := role_ne r_aLayerCame r_aLayerSize (by decide)
  have n_aRest_aLayerSize : aRest ≠ aLayerSize := ne_len e_aLayerSize e_aRest (by decide)
  have n_aRest_aLayerCame : aRest ≠ aLayerCame := ne_len e_aLayerCame e_aRest (by decide)
  have n_aRestMany_aLayerSize : aRestMany ≠ aLayerSize := ne_len e_aLayerSize e_aRestMany (by decide)
  have n_aRestMany_aLayerCame : aRestMany ≠ aLayerCame := ne_len e_aLayerCame e_aRestMany (by decide)
  have n_aCome_aLayerSize : aCome ≠ aLayerSize := ne_len e_aLayerSize e_aCome (by decide)
  have n_aCome_aLayerCame : aCome ≠ aLayerCame := ne_len e_aLayerCame e_aCome (by decide)
  have n_aRivals_aLayerSize : aRivals ≠ aLayerSize := ne_len e_aLayerSize e_aRivals (by decide)
  have n_aRivals_aLayerCame : aRivals ≠ aLayerCame := ne_len e_aLayerCame e_aRivals (by decide)
  have n_aGone_aLayerSize : aGone ≠ aLayerSize := ne_len e_aLayerSize e_aGone (by decide)
  have n_aGone_aLayerCame : aGone ≠ aLayerCame := ne_len e_aLayerCame e_aGone (by decide)
  have n_aOrder_aLayerSize : aOrder ≠ aLayerSize := ne_len e_aLayerSize e_aOrder (by decide)
  have n_aOrder_aLayerCame : aOrder ≠ aLayerCame := ne_len e_aLayerCame e_aOrder (by decide)
  have n_aOffAt_aLayerSize : aOffAt ≠ aLayerSize := ne_len e_aLayerSize e_aOffAt (by decide)
  have n_aOffAt_aLayerCame : aOffAt ≠ aLayerCame := ne_len e_aLayerCame e_aOffAt (by decide)
  have n_aIsOff_aLayerSize : aIsOff ≠ aLayerSize := ne_len e_aLayerSize e_aIsOff (by decide)
  have n_aIsOff_aLayerCame : aIsOff ≠ aLayerCame := ne_len e_aLayerCame e_aIsOff (by decide)
  have n_aAlone_aLayerSize : aAlone ≠ aLayerSize := ne_len e_aLayerSize e_aAlone (by decide)
  have n_aAlone_aLayerCame : aAlone ≠ aLayerCame := ne_len e_aLayerCame e_aAlone (by decide)
  have n_aKept_aLayerSize : aKept ≠ aLayerSize := ne_len e_aLayerSize e_aKept (by decide)
  have n_aKept_aLayerCame : aKept ≠ aLayerCame := ne_len e_aLayerCame e_aKept (by decide)
  have n_y_aBits : y ≠ aBits := ne_ir e_aBits e_y
  have n_aWorlds_aBits : aWorlds ≠ aBits := ne_len e_aBits e_aWorlds (by decide)
  have n_aInWorld_aBits : aInWorld ≠ aBits := ne_len e_aBits e_aInWorld (by decide)
  have n_aKind_aBits : aKind ≠ aBits := ne_len e_aBits e_aKind (by decide)
  have n_aSize_aBits : aSize ≠ aBits := ne_len e_aBits e_aSize (by decide)
  have n_aMarks_aBits : aMarks ≠ aBits := ne_len e_aBits e_aMarks (by decide)
  have n_aSeed_aBits : aSeed ≠ aBits := ne_len e_aBits e_aSeed (by decide)
  have n_aContents_aBits : aContents ≠ aBits := ne_len e_aBits e_aContents (by decide)
  have n_aContentMany_aBits : aContentMany ≠ aBits := ne_len e_aBits e_aContentMany (by decide)
  have n_aRow_aBits : aRow ≠ aBits := ne_len e_aBits e_aRow (by decide)
  have n_aLayerSize_aBits : aLayerSize ≠ aBits := ne_len e_aBits e_aLayerSize (by decide)
  have n_aLayerCame_aBits : aLayerCame ≠ aBits := ne_len e_aBits e_aLayerCame (by decide)
  have n_aRest_aBits : aRest ≠ aBits := ne_len e_aBits e_aRest (by decide)
  have n_aRestMany_aBits : aRestMany ≠ aBits := ne_len e_aBits e_aRestMany (by decide)
  have n_aCome_aBits : aCome ≠ aBits := ne_len e_aBits e_aCome (by decide)
  have n_aRivals_aBits : aRivals ≠ aBits := ne_len e_aBits e_aRivals (by decide)
  have n_aGone_aBits : aGone ≠ aBits := ne_len e_aBits e_aGone (by decide)
  have n_aOrder_aBits : aOrder ≠ aBits := ne_len e_aBits e_aOrder (by decide)
  have n_aOffAt_aBits : aOffAt ≠ aBits := ne_len e_aBits e_aOffAt (by decide)
  have n_aIsOff_aBits : aIsOff ≠ aBits := ne_len e_aBits e_aIsOff (by decide)
  have n_aAlone_aBits : aAlone ≠ aBits := ne_len e_aBits e_aAlone (by decide)
  have n_aKept_aBits : aKept ≠ aBits := ne_len e_aBits e_aKept (by decide)
  have n_aBits_aSize : aBits ≠ aSize := ne_len e_aSize e_aBits (by decide)
  have n_aLayerSize_aSize : aLayerSize ≠ aSize := ne_len e_aSize e_aLayerSize (by decide)
  have n_aLayerCame_aSize : aLayerCame ≠ aSize := ne_len e_aSize e_aLayerCame (by decide)
  have fr : ∀ b, b ∈ L → b ≠ aSize → b ≠ aBits → b ≠ aLayerSize → b ≠ aLayerCame → f b = f b := fun _ _ _ _ _ _ => rfl
  unfold mX9_lay at hM
  refine W_gen (fun QQ hQQ => ?_)
  refine lv_bipush (v := (8 : Int32)) hx hb dX9_lay_0 (by decide) ?_
  refine lv_istore (lv' := [(4, .int (8 : Int32)), (0, .ref y), (1, .int sq), (2, .int i), (3, .int nn)]) hx hb dX9_lay_2 hl (by decide) rfl (fun ls hl => ?_)
  obtain ⟨o4, ho4, hM⟩ := bind_some hM
  have EX4 : ∀ (H : Heap) (locs : List Loc) (ls : Array Slot), PS D g (va_A (va_pl L f) szz) s.heap s L f H locs → lv_has ls 11 [(4, .int o4), (0, .ref y), (1, .int sq), (2, .int i), (3, .int nn)] → W p l e { frames := 1, cells := 0, slots := 0, locals := 27 } s m [.ref y, .int sq, .int i, .int nn].toArray below meth c H locs 0 0 QQ (F0 m 30 ls []) := by
    intro H locs ls S hl
    refine lv_iload_n hx hb dX9_lay_30 rfl (lv_at hl 2 rfl) ?_
    refine lv_bipush (v := (20 : Int32)) hx hb dX9_lay_31 (by decide) ?_
    refine lv_imul hx hb dX9_lay_33 ?_
    refine lv_iload_n hx hb dX9_lay_34 rfl (lv_at hl 3 rfl) ?_
    refine lv_iadd hx hb dX9_lay_35 ?_
    refine lv_istore (lv' := [(5, .int ((sq * (20 : Int32)) + i)), (4, .int o4), (0, .ref y), (1, .int sq), (2, .int i), (3, .int nn)]) hx hb dX9_lay_36 hl (by decide) rfl (fun ls hl => ?_)
    refine lv_aload_n hx hb dX9_lay_38 rfl (lv_at hl 2 rfl) ?_
    refine q_get hx hb hts in_X9 hown S m_y e_y (C := RX9) (T := TX9) (N := 23) rfl 10 (by decide) rfl (hts (.fieldLink RX9 43 "SieveCabinetModel" "layerSize" "[I") (by decide +kernel)) dX9_lay_39 ?_
    refine lv_iload hx hb dX9_lay_42 (lv_at hl 0 rfl) ?_
    refine lv_iload hx hb dX9_lay_44 (lv_at hl 1 rfl) ?_
    obtain ⟨hi46, hM⟩ := ckx hM
    refine k_iast hx hb S m_aLayerSize e_aLayerSize hi46 dX9_lay_46 (fun f1 ef1 H locs S => ?_)
    have e_aLayerSize := up_self ef1
    have fr : ∀ b, b ∈ L → b ≠ aSize → b ≠ aBits → b ≠ aLayerSize → b ≠ aLayerCame → f1 b = f b := fun b mb nb0 nb1 nb2 nb3 => (up_ne ef1 nb2 rfl).trans (fr b mb nb0 nb1 nb2 nb3)
    refine lv_aload_n hx hb dX9_lay_47 rfl (lv_at hl 2 rfl) ?_
    have e_y := (up_ne ef1 n_y_aLayerSize e_y)
    refine q_get hx hb hts in_X9 hown S m_y e_y (C := RX9) (T := TX9) (N := 23) rfl 11 (by decide) rfl (hts (.fieldLink RX9 46 "SieveCabinetModel" "layerCame" "[I") (by decide +kernel)) dX9_lay_48 ?_
    refine lv_iload hx hb dX9_lay_51 (lv_at hl 0 rfl) ?_
    refine lv_iload_n hx hb dX9_lay_53 rfl (lv_at hl 5 rfl) ?_
    obtain ⟨hi54, hM⟩ := ckx hM
    have e_aLayerCame := (up_ne ef1 n_aLayerCame_aLayerSize e_aLayerCame)
    refine k_iast hx hb S m_aLayerCame e_aLayerCame hi54 dX9_lay_54 (fun f2 ef2 H locs S => ?_)
    have e_aLayerCame := up_self ef2
    have fr : ∀ b, b ∈ L → b ≠ aSize → b ≠ aBits → b ≠ aLayerSize → b ≠ aLayerCame → f2 b = f b := fun b mb nb0 nb1 nb2 nb3 => (up_ne ef2 nb3 rfl).trans (fr b mb nb0 nb1 nb2 nb3)
    refine lv_iconst (v := (0 : Int32)) hx hb dX9_lay_55 (by decide) ?_
    refine lv_istore (lv' := [(6, .int (0 : Int32)), (5, .int ((sq * (20 : Int32)) + i)), (4, .int o4), (0, .ref y), (1, .int sq), (2, .int i), (3, .int nn)]) hx hb dX9_lay_56 hl (by decide) rfl (fun ls hl => ?_)
    have e_y := (up_ne ef2 n_y_aLayerCame e_y)
    have e_aWorlds := (up_ne ef2 n_aWorlds_aLayerCame (up_ne ef1 n_aWorlds_aLayerSize e_aWorlds))
    have e_aInWorld := (up_ne ef2 n_aInWorld_aLayerCame (up_ne ef1 n_aInWorld_aLayerSize e_aInWorld))
    have e_aKind := (up_ne ef2 n_aKind_aLayerCame (up_ne ef1 n_aKind_aLayerSize e_aKind))
    have e_aSize := (up_ne ef2 n_aSize_aLayerCame (up_ne ef1 n_aSize_aLayerSize e_aSize))
    have e_aMarks := (up_ne ef2 n_aMarks_aLayerCame (up_ne ef1 n_aMarks_aLayerSize e_aMarks))
    have e_aSeed := (up_ne ef2 n_aSeed_aLayerCame (up_ne ef1 n_aSeed_aLayerSize e_aSeed))
    have e_aContents := (up_ne ef2 n_aContents_aLayerCame (up_ne ef1 n_aContents_aLayerSize e_aContents))
    have e_aContentMany := (up_ne ef2 n_aContentMany_aLayerCame (up_ne ef1 n_aContentMany_aLayerSize e_aContentMany))
    have e_aRow := (up_ne ef2 n_aRow_aLayerCame (up_ne ef1 n_aRow_aLayerSize e_aRow))
    have e_aBits := (up_ne ef2 n_aBits_aLayerCame (up_ne ef1 n_aBits_aLayerSize e_aBits))
    have e_aLayerSize := (up_ne ef2 n_aLayerSize_aLayerCame e_aLayerSize)
    have e_aRest := (up_ne ef2 n_aRest_aLayerCame (up_ne ef1 n_aRest_aLayerSize e_aRest))
    have e_aRestMany := (up_ne ef2 n_aRestMany_aLayerCame (up_ne ef1 n_aRestMany_aLayerSize e_aRestMany))
    have e_aCome := (up_ne ef2 n_aCome_aLayerCame (up_ne ef1 n_aCome_aLayerSize e_aCome))
    have e_aRivals := (up_ne ef2 n_aRivals_aLayerCame (up_ne ef1 n_aRivals_aLayerSize e_aRivals))
    have e_aGone := (up_ne ef2 n_aGone_aLayerCame (up_ne ef1 n_aGone_aLayerSize e_aGone))
    have e_aOrder := (up_ne ef2 n_aOrder_aLayerCame (up_ne ef1 n_aOrder_aLayerSize e_aOrder))
    have e_aOffAt := (up_ne ef2 n_aOffAt_aLayerCame (up_ne ef1 n_aOffAt_aLayerSize e_aOffAt))
    have e_aIsOff := (up_ne ef2 n_aIsOff_aLayerCame (up_ne ef1 n_aIsOff_aLayerSize e_aIsOff))
    have e_aAlone := (up_ne ef2 n_aAlone_aLayerCame (up_ne ef1 n_aAlone_aLayerSize e_aAlone))
    have e_aKept := (up_ne ef2 n_aKept_aLayerCame (up_ne ef1 n_aKept_aLayerSize e_aKept))
    obtain ⟨o58, ho58, hM⟩ := bind_some hM
    have EX58 : ∀ (fl58 : Nat → va_E) (H : Heap) (locs : List Loc) (ls : Array Slot), PS D g (va_A (va_pl L f) szz) s.heap s L fl58 H locs → fl58 y = .inr (7, [.ref aWorlds, .ref aInWorld, .ref aKind, .ref aSize, .ref aMarks, .ref aSeed, .ref aContents, .ref aContentMany, .ref aRow, .ref aBits, .ref aLayerSize, .ref aLayerCame, .ref aRest, .ref aRestMany, .int many, .ref aCome, .ref aRivals, .ref aGone, .ref aOrder, .ref aOffAt, .ref aIsOff, .ref aAlone, .ref aKept]) → fl58 aWorlds = .inl (g 1, 8000, .inr (.inl vWorlds)) → fl58 aInWorld = .inl (g 0, 8, .inl vInWorld) → fl58 aKind = .inl (g 0, 30, .inl vKind) → fl58 aSize = .inl (g 0, 30, .inl vSize) → fl58 aMarks = .inl (g 0, 30, .inl vMarks) → fl58 aSeed = .inl (g 0, 30, .inl vSeed) → fl58 aContents = .inl (g 1, 30000, .inr (.inl vContents)) → fl58 aContentMany = .inl (g 0, 30, .inl vContentMany) → fl58 aRow = .inl (g 0, 122880, .inl vRow) → fl58 aBits = .inl (g 0, 76800, .inl o58.2) → fl58 aLayerSize = .inl (g 0, 600, .inl (upd vLayerSize (Int32.toNatClampNeg ((sq * (20 : Int32)) + i)) o4)) → fl58 aLayerCame = .inl (g 0, 600, .inl (upd vLayerCame (Int32.toNatClampNeg ((sq * (20 : Int32)) + i)) nn)) → fl58 aRest = .inl (g 1, 30000, .inr (.inl vRest)) → fl58 aRestMany = .inl (g 0, 30, .inl vRestMany) → fl58 aCome = .inl (g 1, 1000, .inr (.inl vCome)) → fl58 aRivals = .inl (g 1, 1000, .inr (.inl vRivals)) → fl58 aGone = .inl (g 1, 1000, .inr (.inl vGone)) → fl58 aOrder = .inl (g 0, 1000, .inl vOrder) → fl58 aOffAt = .inl (g 0, 1000, .inl vOffAt) → fl58 aIsOff = .inl (g 2, 1000, .inl vIsOff) → fl58 aAlone = .inl (g 0, 4096, .inl vAlone) → fl58 aKept = .inl (g 0, 4096, .inl vKept) → (∀ b, b ∈ L → b ≠ aSize → b ≠ aBits → b ≠ aLayerSize → b ≠ aLayerCame → fl58 b = f b) → lv_has ls 11 [(5, .int ((sq * (20 : Int32)) + i)), (4, .int o4), (0, .ref y), (1, .int sq), (2, .int i), (3, .int nn)] → W p l e { frames := 1, cells := 0, slots := 0, locals := 27 } s m [.ref y, .int sq, .int i, .int nn].toArray below meth c H locs 0 0 QQ (F0 m 87 ls []) := by
      intro fl58 H locs ls S e_y e_aWorlds e_aInWorld e_aKind e_aSize e_aMarks e_aSeed e_aContents e_aContentMany e_aRow e_aBits e_aLayerSize e_aLayerCame e_aRest e_aRestMany e_aCome e_aRivals e_aGone e_aOrder e_aOffAt e_aIsOff e_aAlone e_aKept fr hl
      refine lv_iconst (v := (0 : Int32)) hx hb dX9_lay_87 (by decide) ?_
      refine lv_istore (lv' := [(6, .int (0 : Int32)), (5, .int ((sq * (20 : Int32)) + i)), (4, .int o4), (0, .ref y), (1, .int sq), (2, .int i), (3, .int nn)]) hx hb dX9_lay_88 hl (by decide) rfl (fun ls hl => ?_)
      obtain ⟨o90, ho90, hM⟩ := bind_some hM
      have EX90 : ∀ (fl90 : Nat → va_E) (H : Heap) (locs : List Loc) (ls : Array Slot), PS D g (va_A (va_pl L f) szz) s.heap s L fl90 H locs → fl90 y = .inr (7, [.ref aWorlds, .ref aInWorld, .ref aKind, .ref aSize, .ref aMarks, .ref aSeed, .ref aContents, .ref aContentMany, .ref aRow, .ref aBits, .ref aLayerSize, .ref aLayerCame, .ref aRest, .ref aRestMany, .int many, .ref aCome, .ref aRivals, .ref aGone, .ref aOrder, .ref aOffAt, .ref aIsOff, .ref aAlone, .ref aKept]) → fl90 aWorlds = .inl (g 1, 8000, .inr (.inl vWorlds)) → fl90 aInWorld = .inl (g 0, 8, .inl vInWorld) → fl90 aKind = .inl (g 0, 30, .inl vKind) → fl90 aSize = .inl (g 0, 30, .inl vSize) → fl90 aMarks = .inl (g 0, 30, .inl vMarks) → fl90 aSeed = .inl (g 0, 30, .inl vSeed) → fl90 aContents = .inl (g 1, 30000, .inr (.inl vContents)) → fl90 aContentMany = .inl (g 0, 30, .inl vContentMany) → fl90 aRow = .inl (g 0, 122880, .inl vRow) → fl90 aBits = .inl (g 0, 76800, .inl o90.2) → fl90 aLayerSize = .inl (g 0, 600, .inl (upd vLayerSize (Int32.toNatClampNeg ((sq * (20 : Int32)) + i)) o4)) → fl90 aLayerCame = .inl (g 0, 600, .inl (upd vLayerCame (Int32.toNatClampNeg ((sq * (20 : Int32)) + i)) nn)) → fl90 aRest = .inl (g 1, 30000, .inr (.inl vRest)) → fl90 aRestMany = .inl (g 0, 30, .inl vRestMany) → fl90 aCome = .inl (g 1, 1000, .inr (.inl vCome)) → fl90 aRivals = .inl (g 1, 1000, .inr (.inl vRivals)) → fl90 aGone = .inl (g 1, 1000, .inr (.inl vGone)) → fl90 aOrder = .inl (g 0, 1000, .inl vOrder) → fl90 aOffAt = .inl (g 0, 1000, .inl vOffAt) → fl90 aIsOff = .inl (g 2, 1000, .inl vIsOff) → fl90 aAlone = .inl (g 0, 4096, .inl vAlone) → fl90 aKept = .inl (g 0, 4096, .inl vKept) → (∀ b, b ∈ L → b ≠ aSize → b ≠ aBits → b ≠ aLayerSize → b ≠ aLayerCame → fl90 b = f b) → lv_has ls 11 [(0, .ref y), (1, .int sq), (2, .int i)] → W p l e { frames := 1, cells := 0, slots := 0, locals := 27 } s m [.ref y, .int sq, .int i, .int nn].toArray below meth c H locs 0 0 QQ (F0 m 175 ls []) := by
        intro fl90 H locs ls S e_y e_aWorlds e_aInWorld e_aKind e_aSize e_aMarks e_aSeed e_aContents e_aContentMany e_aRow e_aBits e_aLayerSize e_aLayerCame e_aRest e_aRestMany e_aCome e_aRivals e_aGone e_aOrder e_aOffAt e_aIsOff e_aAlone e_aKept fr hl
        refine lv_aload_n hx hb dX9_lay_175 rfl (lv_at hl 0 rfl) ?_
        refine q_get hx hb hts in_X9 hown S m_y e_y (C := RX9) (T := TX9) (N := 23) rfl 3 (by decide) rfl (hts (.fieldLink RX9 20 "SieveCabinetModel" "size" "[I") (by decide +kernel)) dX9_lay_176 ?_
        refine lv_iload_n hx hb dX9_lay_179 rfl (lv_at hl 1 rfl) ?_
        refine lv_iload_n hx hb dX9_lay_180 rfl (lv_at hl 2 rfl) ?_
        refine lv_iconst (v := (1 : Int32)) hx hb dX9_lay_181 (by decide) ?_
        refine lv_iadd hx hb dX9_lay_182 ?_
        obtain ⟨hi183, hM⟩ := ckx hM
        refine k_iast hx hb S m_aSize e_aSize hi183 dX9_lay_183 (fun f3 ef3 H locs S => ?_)
        have e_aSize := up_self ef3
        have fr : ∀ b, b ∈ L → b ≠ aSize → b ≠ aBits → b ≠ aLayerSize → b ≠ aLayerCame → f3 b = f b := fun b mb nb0 nb1 nb2 nb3 => (up_ne ef3 nb0 rfl).trans (fr b mb nb0 nb1 nb2 nb3)
        have e_aBits := (up_ne ef3 n_aBits_aSize e_aBits)
        have e_aLayerSize := (up_ne ef3 n_aLayerSize_aSize e_aLayerSize)
        have e_aLayerCame := (up_ne ef3 n_aLayerCame_aSize e_aLayerCame)
        subst hQQ
        exact q_retv (post := fun L1 f1 => L1 = L ∧ (∀ b, b ∈ L → b ≠ aSize → b ≠ aBits → b ≠ aLayerSize → b ≠ aLayerCame → f1 b = f b) ∧ f1 aSize = .inl (g 0, 30, .inl z.1) ∧ f1 aBits = .inl (g 0, 76800, .inl z.2.1) ∧ f1 aLayerSize = .inl (g 0, 600, .inl z.2.2.1) ∧ f1 aLayerCame = .inl (g 0, 600, .inl z.2.2.2)) hx hb hr hlk S dX9_lay_184 (by decide) (by decide) (by have hz := Option.some.inj hM; subst hz; exact ⟨rfl, fr, e_aSize, e_aBits, e_aLayerSize, e_aLayerCame⟩)
      have LP90 : ∀ (fu : Nat) (x6_90 : Int32) (caBits_90 : Nat → Int32) (fl90 : Nat → va_E) (H : Heap) (locs : List Loc) (ls : Array Slot), (mX9_lay_L90 vSeed vCome sq i nn o4) fu x6_90 caBits_90 = some o90 → PS D g (va_A (va_pl L f) szz) s.heap s L fl90 H locs → fl90 y = .inr (7, [.ref aWorlds, .ref aInWorld, .ref aKind, .ref aSize, .ref aMarks, .ref aSeed, .ref aContents, .ref aContentMany, .ref aRow, .ref aBits, .ref aLayerSize, .ref aLayerCame, .ref aRest, .ref aRestMany, .int many, .ref aCome, .ref aRivals, .ref aGone, .ref aOrder, .ref aOffAt, .ref aIsOff, .ref aAlone, .ref aKept]) → fl90 aWorlds = .inl (g 1, 8000, .inr (.inl vWorlds)) → fl90 aInWorld = .inl (g 0, 8, .inl vInWorld) → fl90 aKind = .inl (g 0, 30, .inl vKind) → fl90 aSize = .inl (g 0, 30, .inl vSize) → fl90 aMarks = .inl (g 0, 30, .inl vMarks) → fl90 aSeed = .inl (g 0, 30, .inl vSeed) → fl90 aContents = .inl (g 1, 30000, .inr (.inl vContents)) → fl90 aContentMany = .inl (g 0, 30, .inl vContentMany) → fl90 aRow = .inl (g 0, 122880, .inl vRow) → fl90 aBits = .inl (g 0, 76800, .inl caBits_90) → fl90 aLayerSize = .inl (g 0, 600, .inl (upd vLayerSize (Int32.toNatClampNeg ((sq * (20 : Int32)) + i)) o4)) → fl90 aLayerCame = .inl (g 0, 600, .inl (upd vLayerCame (Int32.toNatClampNeg ((sq * (20 : Int32)) + i)) nn)) → fl90 aRest = .inl (g 1, 30000, .inr (.inl vRest)) → fl90 aRestMany = .inl (g 0, 30, .inl vRestMany) → fl90 aCome = .inl (g 1, 1000, .inr (.inl vCome)) → fl90 aRivals = .inl (g 1, 1000, .inr (.inl vRivals)) → fl90 aGone = .inl (g 1, 1000, .inr (.inl vGone)) → fl90 aOrder = .inl (g 0, 1000, .inl vOrder) → fl90 aOffAt = .inl (g 0, 1000, .inl vOffAt) → fl90 aIsOff = .inl (g 2, 1000, .inl vIsOff) → fl90 aAlone = .inl (g 0, 4096, .inl vAlone) → fl90 aKept = .inl (g 0, 4096, .inl vKept) → (∀ b, b ∈ L → b ≠ aSize → b ≠ aBits → b ≠ aLayerSize → b ≠ aLayerCame → fl90 b = f b) → lv_has ls 11 [(6, .int x6_90), (5, .int ((sq * (20 : Int32)) + i)), (4, .int o4), (0, .ref y), (1, .int sq), (2, .int i), (3, .int nn)] → W p l e { frames := 1, cells := 0, slots := 0, locals := 27 } s m [.ref y, .int sq, .int i, .int nn].toArray below meth c H locs 0 0 QQ (F0 m 90 ls []) := by
        intro fu
        induction fu with
        | zero => intro x6_90 caBits_90 fl90 H locs ls ho90 S e_y e_aWorlds e_aInWorld e_aKind e_aSize e_aMarks e_aSeed e_aContents e_aContentMany e_aRow e_aBits e_aLayerSize e_aLayerCame e_aRest e_aRestMany e_aCome e_aRivals e_aGone e_aOrder e_aOffAt e_aIsOff e_aAlone e_aKept fr hl; exact no_some ho90
        | succ fu ih90 =>
          intro x6_90 caBits_90 fl90 H locs ls ho90 S e_y e_aWorlds e_aInWorld e_aKind e_aSize e_aMarks e_aSeed e_aContents e_aContentMany e_aRow e_aBits e_aLayerSize e_aLayerCame e_aRest e_aRestMany e_aCome e_aRivals e_aGone e_aOrder e_aOffAt e_aIsOff e_aAlone e_aKept fr hl
          rw [mX9_lay_L90] at ho90
          refine lv_iload hx hb dX9_lay_90 (lv_at hl 0 rfl) ?_
          refine lv_iload_n hx hb dX9_lay_92 rfl (lv_at hl 6 rfl) ?_
          refine lv_icmp_ge (tgt := 175) hx hb dX9_lay_93 (by decide) (fun b93 => ?_) (fun b93 => ?_)
          · have ho90 := itT b93 ho90
            obtain rfl := Option.some.inj ho90
            exact EX90 fl90 _ _ _ S e_y e_aWorlds e_aInWorld e_aKind e_aSize e_aMarks e_aSeed e_aContents e_aContentMany e_aRow e_aBits e_aLayerSize e_aLayerCame e_aRest e_aRestMany e_aCome e_aRivals e_aGone e_aOrder e_aOffAt e_aIsOff e_aAlone e_aKept fr (lv_sub hl [3, 4, 5] rfl)
          · have ho90 := itF b93 ho90
            refine lv_aload_n hx hb dX9_lay_96 rfl (lv_at hl 3 rfl) ?_
            refine q_get hx hb hts in_X9 hown S m_y e_y (C := RX9) (T := TX9) (N := 23) rfl 15 (by decide) rfl (hts (.fieldLink RX9 55 "SieveCabinetModel" "come" "[J") (by decide +kernel)) dX9_lay_97 ?_
            refine lv_iload hx hb dX9_lay_100 (lv_at hl 0 rfl) ?_
            obtain ⟨hi102, ho90⟩ := ckx ho90
            refine q_lald hx hb S m_aCome e_aCome hi102 dX9_lay_102 ?_
            refine lv_aload_n hx hb dX9_lay_103 rfl (lv_at hl 3 rfl) ?_
            refine q_get hx hb hts in_X9 hown S m_y e_y (C := RX9) (T := TX9) (N := 23) rfl 5 (by decide) rfl (hts (.fieldLink RX9 26 "SieveCabinetModel" "seed" "[I") (by decide +kernel)) dX9_lay_104 ?_
            refine lv_iload_n hx hb dX9_lay_107 rfl (lv_at hl 4 rfl) ?_
            obtain ⟨hi108, ho90⟩ := ckx ho90
            refine q_iald hx hb S m_aSeed e_aSeed hi108 dX9_lay_108 ?_
            refine lv_iload_n hx hb dX9_lay_109 rfl (lv_at hl 5 rfl) ?_
            refine lv_iadd hx hb dX9_lay_110 ?_
            obtain ⟨z111, hz111, ho90⟩ := bind_some ho90
            refine q_sl (As := [.long (vCome (Int32.toNatClampNeg x6_90)), .int ((vSeed (Int32.toNatClampNeg sq)) + i)]) (rest := []) ⟨hx, hb, hml, hown, hts⟩ (k_X9_mix l D g hz111) (va_cwS 2 hts gX9_lay_X9_mix rfl rfl rfl (by decide +kernel) ⟨Nat.le_of_ble_eq_true rfl, Nat.le_of_ble_eq_true rfl⟩) S rfl hl.1 rfl (Nat.le_of_ble_eq_true rfl) dX9_lay_111 ⟨Nat.le_of_ble_eq_true rfl, Nat.le_of_ble_eq_true rfl⟩ (fun r6 L4 f5 H locs S w111 => ?_)
            obtain ⟨ex111, eL, ef⟩ := w111
            rw [eL, ef] at S
            replace ex111 := ex111.symm
            subst ex111
            refine lv_lstore (lv' := [(7, .long z111), (6, .int x6_90), (5, .int ((sq * (20 : Int32)) + i)), (4, .int o4), (0, .ref y), (1, .int sq), (2, .int i), (3, .int nn)]) hx hb dX9_lay_114 hl (by decide) rfl (fun ls hl => ?_)
            refine lv_iconst (v := (0 : Int32)) hx hb dX9_lay_116 (by decide) ?_
            refine lv_istore (lv' := [(9, .int (0 : Int32)), (7, .long z111), (6, .int x6_90), (5, .int ((sq * (20 : Int32)) + i)), (4, .int o4), (0, .ref y), (1, .int sq), (2, .int i), (3, .int nn)]) hx hb dX9_lay_117 hl (by decide) rfl (fun ls hl => ?_)
            obtain ⟨o119, ho119, ho90⟩ := bind_some ho90
            have EX119 : ∀ (fl119 : Nat → va_E) (H : Heap) (locs : List Loc) (ls : Array Slot), PS D g (va_A (va_pl L f) szz) s.heap s L fl119 H locs → fl119 y = .inr (7, [.ref aWorlds, .ref aInWorld, .ref aKind, .ref aSize, .ref aMarks, .ref aSeed, .ref aContents, .ref aContentMany, .ref aRow, .ref aBits, .ref aLayerSize, .ref aLayerCame, .ref aRest, .ref aRestMany, .int many, .ref aCome, .ref aRivals, .ref aGone, .ref aOrder, .ref aOffAt, .ref aIsOff, .ref aAlone, .ref aKept]) → fl119 aWorlds = .inl (g 1, 8000, .inr (.inl vWorlds)) → fl119 aInWorld = .inl (g 0, 8, .inl vInWorld) → fl119 aKind = .inl (g 0, 30, .inl vKind) → fl119 aSize = .inl (g 0, 30, .inl vSize) → fl119 aMarks = .inl (g 0, 30, .inl vMarks) → fl119 aSeed = .inl (g 0, 30, .inl vSeed) → fl119 aContents = .inl (g 1, 30000, .inr (.inl vContents)) → fl119 aContentMany = .inl (g 0, 30, .inl vContentMany) → fl119 aRow = .inl (g 0, 122880, .inl vRow) → fl119 aBits = .inl (g 0, 76800, .inl o119.2) → fl119 aLayerSize = .inl (g 0, 600, .inl (upd vLayerSize (Int32.toNatClampNeg ((sq * (20 : Int32)) + i)) o4)) → fl119 aLayerCame = .inl (g 0, 600, .inl (upd vLayerCame (Int32.toNatClampNeg ((sq * (20 : Int32)) + i)) nn)) → fl119 aRest = .inl (g 1, 30000, .inr (.inl vRest)) → fl119 aRestMany = .inl (g 0, 30, .inl vRestMany) → fl119 aCome = .inl (g 1, 1000, .inr (.inl vCome)) → fl119 aRivals = .inl (g 1, 1000, .inr (.inl vRivals)) → fl119 aGone = .inl (g 1, 1000, .inr (.inl vGone)) → fl119 aOrder = .inl (g 0, 1000, .inl vOrder) → fl119 aOffAt = .inl (g 0, 1000, .inl vOffAt) → fl119 aIsOff = .inl (g 2, 1000, .inl vIsOff) → fl119 aAlone = .inl (g 0, 4096, .inl vAlone) → fl119 aKept = .inl (g 0, 4096, .inl vKept) → (∀ b, b ∈ L → b ≠ aSize → b ≠ aBits → b ≠ aLayerSize → b ≠ aLayerCame → fl119 b = f b) → lv_has ls 11 [(6, .int x6_90), (5, .int ((sq * (20 : Int32)) + i)), (4, .int o4), (0, .ref y), (1, .int sq), (2, .int i), (3, .int nn)] → W p l e { frames := 1, cells := 0, slots := 0, locals := 27 } s m [.ref y, .int sq, .int i, .int nn].toArray below meth c H locs 0 0 QQ (F0 m 169 ls []) := by
              intro fl119 H locs ls S e_y e_aWorlds e_aInWorld e_aKind e_aSize e_aMarks e_aSeed e_aContents e_aContentMany e_aRow e_aBits e_aLayerSize e_aLayerCame e_aRest e_aRestMany e_aCome e_aRivals e_aGone e_aOrder e_aOffAt e_aIsOff e_aAlone e_aKept fr hl
              refine lv_iinc (v := (x6_90 + 1)) (lv' := [(6, .int (x6_90 + 1)), (5, .int ((sq * (20 : Int32)) + i)), (4, .int o4), (0, .ref y), (1, .int sq), (2, .int i), (3, .int nn)]) hx hb dX9_lay_169 hl (k := 0) rfl rfl (by decide) rfl (fun ls hl => ?_)
              refine lv_goto (tgt := 90) hx hb dX9_lay_172 (by decide) ?_
              exact ih90 (x6_90 + 1) o119.2 fl119 _ _ _ ho90 S e_y e_aWorlds e_aInWorld e_aKind e_aSize e_aMarks e_aSeed e_aContents e_aContentMany e_aRow e_aBits e_aLayerSize e_aLayerCame e_aRest e_aRestMany e_aCome e_aRivals e_aGone e_aOrder e_aOffAt e_aIsOff e_aAlone e_aKept fr (lv_sub hl [0, 1, 2, 3, 4, 5, 6] rfl)
            have LP119 : ∀ (fu : Nat) (x9_119 : Int32) (caBits_119 : Nat → Int32) (fl119 : Nat → va_E) (H : Heap) (locs : List Loc) (ls : Array Slot), (mX9_lay_L119 sq i o4 z111) fu x9_119 caBits_119 = some o119 → PS D g (va_A (va_pl L f) szz) s.heap s L fl119 H locs → fl119 y = .inr (7, [.ref aWorlds, .ref aInWorld, .ref aKind, .ref aSize, .ref aMarks, .ref aSeed, .ref aContents, .ref aContentMany, .ref aRow, .ref aBits, .ref aLayerSize, .ref aLayerCame, .ref aRest, .ref aRestMany, .int many, .ref aCome, .ref aRivals, .ref aGone, .ref aOrder, .ref aOffAt, .ref aIsOff, .ref aAlone, .ref aKept]) → fl119 aWorlds = .inl (g 1, 8000, .inr (.inl vWorlds)) → fl119 aInWorld = .inl (g 0, 8, .inl vInWorld) → fl119 aKind = .inl (g 0, 30, .inl vKind) → fl119 aSize = .inl (g 0, 30, .inl vSize) → fl119 aMarks = .inl (g 0, 30, .inl vMarks) → fl119 aSeed = .inl (g 0, 30, .inl vSeed) → fl119 aContents = .inl (g 1, 30000, .inr (.inl vContents)) → fl119 aContentMany = .inl (g 0, 30, .inl vContentMany) → fl119 aRow = .inl (g 0, 122880, .inl vRow) → fl119 aBits = .inl (g 0, 76800, .inl caBits_119) → fl119 aLayerSize = .inl (g 0, 600, .inl (upd vLayerSize (Int32.toNatClampNeg ((sq * (20 : Int32)) + i)) o4)) → fl119 aLayerCame = .inl (g 0, 600, .inl (upd vLayerCame (Int32.toNatClampNeg ((sq * (20 : Int32)) + i)) nn)) → fl119 aRest = .inl (g 1, 30000, .inr (.inl vRest)) → fl119 aRestMany = .inl (g 0, 30, .inl vRestMany) → fl119 aCome = .inl (g 1, 1000, .inr (.inl vCome)) → fl119 aRivals = .inl (g 1, 1000, .inr (.inl vRivals)) → fl119 aGone = .inl (g 1, 1000, .inr (.inl vGone)) → fl119 aOrder = .inl (g 0, 1000, .inl vOrder) → fl119 aOffAt = .inl (g 0, 1000, .inl vOffAt) → fl119 aIsOff = .inl (g 2, 1000, .inl vIsOff) → fl119 aAlone = .inl (g 0, 4096, .inl vAlone) → fl119 aKept = .inl (g 0, 4096, .inl vKept) → (∀ b, b ∈ L → b ≠ aSize → b ≠ aBits → b ≠ aLayerSize → b ≠ aLayerCame → fl119 b = f b) → lv_has ls 11 [(9, .int x9_119), (7, .long z111), (6, .int x6_90), (5, .int ((sq * (20 : Int32)) + i)), (4, .int o4), (0, .ref y), (1, .int sq), (2, .int i), (3, .int nn)] → W p l e { frames := 1, cells := 0, slots := 0, locals := 27 } s m [.ref y, .int sq, .int i, .int nn].toArray below meth c H locs 0 0 QQ (F0 m 119 ls []) := by
              intro fu
              induction fu with
              | zero => intro x9_119 caBits_119 fl119 H locs ls ho119 S e_y e_aWorlds e_aInWorld e_aKind e_aSize e_aMarks e_aSeed e_aContents e_aContentMany e_aRow e_aBits e_aLayerSize e_aLayerCame e_aRest e_aRestMany e_aCome e_aRivals e_aGone e_aOrder e_aOffAt e_aIsOff e_aAlone e_aKept fr hl; exact no_some ho119
              | succ fu ih119 =>
                intro x9_119 caBits_119 fl119 H locs ls ho119 S e_y e_aWorlds e_aInWorld e_aKind e_aSize e_aMarks e_aSeed e_aContents e_aContentMany e_aRow e_aBits e_aLayerSize e_aLayerCame e_aRest e_aRestMany e_aCome e_aRivals e_aGone e_aOrder e_aOffAt e_aIsOff e_aAlone e_aKept fr hl
                rw [mX9_lay_L119] at ho119
                refine lv_iload hx hb dX9_lay_119 (lv_at hl 0 rfl) ?_
                refine lv_iconst (v := (3 : Int32)) hx hb dX9_lay_121 (by decide) ?_
                refine lv_icmp_ge (tgt := 169) hx hb dX9_lay_122 (by decide) (fun b122 => ?_) (fun b122 => ?_)
                · have ho119 := itT b122 ho119
                  obtain rfl := Option.some.inj ho119
                  exact EX119 fl119 _ _ _ S e_y e_aWorlds e_aInWorld e_aKind e_aSize e_aMarks e_aSeed e_aContents e_aContentMany e_aRow e_aBits e_aLayerSize e_aLayerCame e_aRest e_aRestMany e_aCome e_aRivals e_aGone e_aOrder e_aOffAt e_aIsOff e_aAlone e_aKept fr (lv_sub hl [2, 3, 4, 5, 6, 7, 8] rfl)
                · have ho119 := itF b122 ho119
                  refine lv_lload hx hb dX9_lay_125 (lv_at hl 1 rfl) ?_
                  refine lv_iload hx hb dX9_lay_127 (lv_at hl 0 rfl) ?_
                  refine lv_iload hx hb dX9_lay_129 (lv_at hl 4 rfl) ?_
                  obtain ⟨z131, hz131, ho119⟩ := bind_some ho119
                  refine q_si (As := [.long z111, .int x9_119, .int o4]) (rest := []) ⟨hx, hb, hml, hown, hts⟩ (k_X9_markOf l D g hz131) (va_cwS 3 hts gX9_lay_X9_markOf rfl rfl rfl (by decide +kernel) ⟨Nat.le_of_ble_eq_true rfl, Nat.le_of_ble_eq_true rfl⟩) S rfl hl.1 rfl (Nat.le_of_ble_eq_true rfl) dX9_lay_131 ⟨Nat.le_of_ble_eq_true rfl, Nat.le_of_ble_eq_true rfl⟩ (fun r9 L7 f8 H locs S w131 => ?_)
                  obtain ⟨ex131, eL, ef⟩ := w131
                  rw [eL, ef] at S
                  replace ex131 := ex131.symm
                  subst ex131
                  refine lv_istore (lv' := [(10, .int z131), (9, .int x9_119), (7, .long z111), (6, .int x6_90), (5, .int ((sq * (20 : Int32)) + i)), (4, .int o4), (0, .ref y), (1, .int sq), (2, .int i), (3, .int nn)]) hx hb dX9_lay_134 hl (by decide) rfl (fun ls hl => ?_)
                  refine lv_aload_n hx hb dX9_lay_136 rfl (lv_at hl 6 rfl) ?_
                  refine q_get hx hb hts in_X9 hown S m_y e_y (C := RX9) (T := TX9) (N := 23) rfl 9 (by decide) rfl (hts (.fieldLink RX9 40 "SieveCabinetModel" "bits" "[I") (by decide +kernel)) dX9_lay_137 ?_
                  refine lv_iload hx hb dX9_lay_140 (lv_at hl 4 rfl) ?_
                  refine lv_sipush (v := (128 : Int32)) hx hb dX9_lay_142 (by decide) ?_
                  refine lv_imul hx hb dX9_lay_145 ?_
                  refine lv_iload hx hb dX9_lay_146 (lv_at hl 0 rfl) ?_
                  refine lv_bipush (v := (32 : Int32)) hx hb dX9_lay_148 (by decide) ?_
                  refine lv_idiv hx hb dX9_lay_150 (by decide) ?_
                  refine lv_iadd hx hb dX9_lay_151 ?_
                  refine lv_dup2_11 hx hb dX9_lay_152 rfl rfl ?_
                  obtain ⟨hi153, ho119⟩ := ckx ho119
                  refine q_iald hx hb S m_aBits e_aBits hi153 dX9_lay_153 ?_
                  refine lv_iconst (v := (1 : Int32)) hx hb dX9_lay_154 (by decide) ?_
                  refine lv_iload hx hb dX9_lay_155 (lv_at hl 0 rfl) ?_
                  refine lv_bipush (v := (32 : Int32)) hx hb dX9_lay_157 (by decide) ?_
                  refine lv_irem hx hb dX9_lay_159 (by decide) ?_
                  refine W.eq (g2 := F0 m 160 ls [.int (irm z131 (32 : Int32)), .int (1 : Int32), .int (caBits_119 (Int32.toNatClampNeg ((((sq * (20 : Int32)) + i) * (128 : Int32)) + (z131 / (32 : Int32))))), .int ((((sq * (20 : Int32)) + i) * (128 : Int32)) + (z131 / (32 : Int32))), .ref aBits]) rfl ?_
                  refine lv_ishl hx hb dX9_lay_160 ?_
                  refine lv_ior hx hb dX9_lay_161 ?_
                  obtain ⟨hi162, ho119⟩ := ckx ho119
                  refine k_iast hx hb S m_aBits e_aBits hi162 dX9_lay_162 (fun f10 ef10 H locs S => ?_)
                  have e_aBits := up_self ef10
                  have fr : ∀ b, b ∈ L → b ≠ aSize → b ≠ aBits → b ≠ aLayerSize → b ≠ aLayerCame → f10 b = f b := fun b mb nb0 nb1 nb2 nb3 => (up_ne ef10 nb1 rfl).trans (fr b mb nb0 nb1 nb2 nb3)
                  refine lv_iinc (v := (x9_119 + 1)) (lv' := [(9, .int (x9_119 + 1)), (10, .int z131), (7, .long z111), (6, .int x6_90), (5, .int ((sq * (20 : Int32)) + i)), (4, .int o4), (0, .ref y), (1, .int sq), (2, .int i), (3, .int nn)]) hx hb dX9_lay_163 hl (k := 1) rfl rfl (by decide) rfl (fun ls hl => ?_)
                  refine lv_goto (tgt := 119) hx hb dX9_lay_166 (by decide) ?_
                  have e_y := (up_ne ef10 n_y_aBits e_y)
                  have e_aWorlds := (up_ne ef10 n_aWorlds_aBits e_aWorlds)
                  have e_aInWorld := (up_ne ef10 n_aInWorld_aBits e_aInWorld)
                  have e_aKind := (up_ne ef10 n_aKind_aBits e_aKind)
                  have e_aSize := (up_ne ef10 n_aSize_aBits e_aSize)
                  have e_aMarks := (up_ne ef10 n_aMarks_aBits e_aMarks)
                  have e_aSeed := (up_ne ef10 n_aSeed_aBits e_aSeed)
                  have e_aContents := (up_ne ef10 n_aContents_aBits e_aContents)
                  have e_aContentMany := (up_ne ef10 n_aContentMany_aBits e_aContentMany)
                  have e_aRow := (up_ne ef10 n_aRow_aBits e_aRow)
                  have e_aLayerSize := (up_ne ef10 n_aLayerSize_aBits e_aLayerSize)
                  have e_aLayerCame := (up_ne ef10 n_aLayerCame_aBits e_aLayerCame)
                  have e_aRest := (up_ne ef10 n_aRest_aBits e_aRest)
                  have e_aRestMany := (up_ne ef10 n_aRestMany_aBits e_aRestMany)
                  have e_aCome := (up_ne ef10 n_aCome_aBits e_aCome)
                  have e_aRivals := (up_ne ef10 n_aRivals_aBits e_aRivals)
                  have e_aGone := (up_ne ef10 n_aGone_aBits e_aGone)
                  have e_aOrder := (up_ne ef10 n_aOrder_aBits e_aOrder)
                  have e_aOffAt := (up_ne ef10 n_aOffAt_aBits e_aOffAt)
                  have e_aIsOff := (up_ne ef10 n_aIsOff_aBits e_aIsOff)
                  have e_aAlone := (up_ne ef10 n_aAlone_aBits e_aAlone)
                  have e_aKept := (up_ne ef10 n_aKept_aBits e_aKept)
                  exact ih119 (x9_119 + 1) (upd caBits_119 (Int32.toNatClampNeg ((((sq * (20 : Int32)) + i) * (128 : Int32)) + (z131 / (32 : Int32)))) ((caBits_119 (Int32.toNatClampNeg ((((sq * (20 : Int32)) + i) * (128 : Int32)) + (z131 / (32 : Int32))))) ||| ((1 : Int32) <<< ((irm z131 (32 : Int32)) &&& 31)))) f10 _ _ _ ho119 S e_y e_aWorlds e_aInWorld e_aKind e_aSize e_aMarks e_aSeed e_aContents e_aContentMany e_aRow e_aBits e_aLayerSize e_aLayerCame e_aRest e_aRestMany e_aCome e_aRivals e_aGone e_aOrder e_aOffAt e_aIsOff e_aAlone e_aKept fr (lv_sub hl [0, 2, 3, 4, 5, 6, 7, 8, 9] rfl)
            exact LP119 FU (0 : Int32) caBits_90 fl90 _ _ _ ho119 S e_y e_aWorlds e_aInWorld e_aKind e_aSize e_aMarks e_aSeed e_aContents e_aContentMany e_aRow e_aBits e_aLayerSize e_aLayerCame e_aRest e_aRestMany e_aCome e_aRivals e_aGone e_aOrder e_aOffAt e_aIsOff e_aAlone e_aKept fr (lv_sub hl [0, 1, 2, 3, 4, 5, 6, 7, 8] rfl)
      exact LP90 FU (0 : Int32) o58.2 fl58 _ _ _ ho90 S e_y e_aWorlds e_aInWorld e_aKind e_aSize e_aMarks e_aSeed e_aContents e_aContentMany e_aRow e_aBits e_aLayerSize e_aLayerCame e_aRest e_aRestMany e_aCome e_aRivals e_aGone e_aOrder e_aOffAt e_aIsOff e_aAlone e_aKept fr (lv_sub hl [0, 1, 2, 3, 4, 5, 6] rfl)
    have LP58 : ∀ (fu : Nat) (x6_58 : Int32) (caBits_58 : Nat → Int32) (fl58 : Nat → va_E) (H : Heap) (locs : List Loc) (ls : Array Slot), (mX9_lay_L58 sq i) fu x6_58 caBits_58 = some o58 → PS D g (va_A (va_pl L f) szz) s.heap s L fl58 H locs → fl58 y = .inr (7, [.ref aWorlds, .ref aInWorld, .ref aKind, .ref aSize, .ref aMarks, .ref aSeed, .ref aContents, .ref aContentMany, .ref aRow, .ref aBits, .ref aLayerSize, .ref aLayerCame, .ref aRest, .ref aRestMany, .int many, .ref aCome, .ref aRivals, .ref aGone, .ref aOrder, .ref aOffAt, .ref aIsOff, .ref aAlone, .ref aKept]) → fl58 aWorlds = .inl (g 1, 8000, .inr (.inl vWorlds)) → fl58 aInWorld = .inl (g 0, 8, .inl vInWorld) → fl58 aKind = .inl (g 0, 30, .inl vKind) → fl58 aSize = .inl (g 0, 30, .inl vSize) → fl58 aMarks = .inl (g 0, 30, .inl vMarks) → fl58 aSeed = .inl (g 0, 30, .inl vSeed) → fl58 aContents = .inl (g 1, 30000, .inr (.inl vContents)) → fl58 aContentMany = .inl (g 0, 30, .inl vContentMany) → fl58 aRow = .inl (g 0, 122880, .inl vRow) → fl58 aBits = .inl (g 0, 76800, .inl caBits_58) → fl58 aLayerSize = .inl (g 0, 600, .inl (upd vLayerSize (Int32.toNatClampNeg ((sq * (20 : Int32)) + i)) o4)) → fl58 aLayerCame = .inl (g 0, 600, .inl (upd vLayerCame (Int32.toNatClampNeg ((sq * (20 : Int32)) + i)) nn)) → fl58 aRest = .inl (g 1, 30000, .inr (.inl vRest)) → fl58 aRestMany = .inl (g 0, 30, .inl vRestMany) → fl58 aCome = .inl (g 1, 1000, .inr (.inl vCome)) → fl58 aRivals = .inl (g 1, 1000, .inr (.inl vRivals)) → fl58 aGone = .inl (g 1, 1000, .inr (.inl vGone)) → fl58 aOrder = .inl (g 0, 1000, .inl vOrder) → fl58 aOffAt = .inl (g 0, 1000, .inl vOffAt) → fl58 aIsOff = .inl (g 2, 1000, .inl vIsOff) → fl58 aAlone = .inl (g 0, 4096, .inl vAlone) → fl58 aKept = .inl (g 0, 4096, .inl vKept) → (∀ b, b ∈ L → b ≠ aSize → b ≠ aBits → b ≠ aLayerSize → b ≠ aLayerCame → fl58 b = f b) → lv_has ls 11 [(6, .int x6_58), (5, .int ((sq * (20 : Int32)) + i)), (4, .int o4), (0, .ref y), (1, .int sq), (2, .int i), (3, .int nn)] → W p l e { frames := 1, cells := 0, slots := 0, locals := 27 } s m [.ref y, .int sq, .int i, .int nn].toArray below meth c H locs 0 0 QQ (F0 m 58 ls []) := by
      intro fu
      induction fu with
      | zero => intro x6_58 caBits_58 fl58 H locs ls ho58 S e_y e_aWorlds e_aInWorld e_aKind e_aSize e_aMarks e_aSeed e_aContents e_aContentMany e_aRow e_aBits e_aLayerSize e_aLayerCame e_aRest e_aRestMany e_aCome e_aRivals e_aGone e_aOrder e_aOffAt e_aIsOff e_aAlone e_aKept fr hl; exact no_some ho58
      | succ fu ih58 =>
        intro x6_58 caBits_58 fl58 H locs ls ho58 S e_y e_aWorlds e_aInWorld e_aKind e_aSize e_aMarks e_aSeed e_aContents e_aContentMany e_aRow e_aBits e_aLayerSize e_aLayerCame e_aRest e_aRestMany e_aCome e_aRivals e_aGone e_aOrder e_aOffAt e_aIsOff e_aAlone e_aKept fr hl
        rw [mX9_lay_L58] at ho58
        refine lv_iload hx hb dX9_lay_58 (lv_at hl 0 rfl) ?_
        refine lv_sipush (v := (128 : Int32)) hx hb dX9_lay_60 (by decide) ?_
        refine lv_icmp_ge (tgt := 87) hx hb dX9_lay_63 (by decide) (fun b63 => ?_) (fun b63 => ?_)
        · have ho58 := itT b63 ho58
          obtain rfl := Option.some.inj ho58
          exact EX58 fl58 _ _ _ S e_y e_aWorlds e_aInWorld e_aKind e_aSize e_aMarks e_aSeed e_aContents e_aContentMany e_aRow e_aBits e_aLayerSize e_aLayerCame e_aRest e_aRestMany e_aCome e_aRivals e_aGone e_aOrder e_aOffAt e_aIsOff e_aAlone e_aKept fr (lv_sub hl [1, 2, 3, 4, 5, 6] rfl)
        · have ho58 := itF b63 ho58
          refine lv_aload_n hx hb dX9_lay_66 rfl (lv_at hl 3 rfl) ?_
          refine q_get hx hb hts in_X9 hown S m_y e_y (C := RX9) (T := TX9) (N := 23) rfl 9 (by decide) rfl (hts (.fieldLink RX9 40 "SieveCabinetModel" "bits" "[I") (by decide +kernel)) dX9_lay_67 ?_
          refine lv_iload hx hb dX9_lay_70 (lv_at hl 1 rfl) ?_
          refine lv_sipush (v := (128 : Int32)) hx hb dX9_lay_72 (by decide) ?_
          refine lv_imul hx hb dX9_lay_75 ?_
          refine lv_iload hx hb dX9_lay_76 (lv_at hl 0 rfl) ?_
          refine lv_iadd hx hb dX9_lay_78 ?_
          refine lv_iconst (v := (0 : Int32)) hx hb dX9_lay_79 (by decide) ?_
          obtain ⟨hi80, ho58⟩ := ckx ho58
          refine k_iast hx hb S m_aBits e_aBits hi80 dX9_lay_80 (fun f11 ef11 H locs S => ?_)
          have e_aBits := up_self ef11
          have fr : ∀ b, b ∈ L → b ≠ aSize → b ≠ aBits → b ≠ aLayerSize → b ≠ aLayerCame → f11 b = f b := fun b mb nb0 nb1 nb2 nb3 => (up_ne ef11 nb1 rfl).trans (fr b mb nb0 nb1 nb2 nb3)
          refine lv_iinc (v := (x6_58 + 1)) (lv' := [(6, .int (x6_58 + 1)), (5, .int ((sq * (20 : Int32)) + i)), (4, .int o4), (0, .ref y), (1, .int sq), (2, .int i), (3, .int nn)]) hx hb dX9_lay_81 hl (k := 0) rfl rfl (by decide) rfl (fun ls hl => ?_)
          refine lv_goto (tgt := 58) hx hb dX9_lay_84 (by decide) ?_
          have e_y := (up_ne ef11 n_y_aBits e_y)
          have e_aWorlds := (up_ne ef11 n_aWorlds_aBits e_aWorlds)
          have e_aInWorld := (up_ne ef11 n_aInWorld_aBits e_aInWorld)
          have e_aKind := (up_ne ef11 n_aKind_aBits e_aKind)
          have e_aSize := (up_ne ef11 n_aSize_aBits e_aSize)
          have e_aMarks := (up_ne ef11 n_aMarks_aBits e_aMarks)
          have e_aSeed := (up_ne ef11 n_aSeed_aBits e_aSeed)
          have e_aContents := (up_ne ef11 n_aContents_aBits e_aContents)
          have e_aContentMany := (up_ne ef11 n_aContentMany_aBits e_aContentMany)
          have e_aRow := (up_ne ef11 n_aRow_aBits e_aRow)
          have e_aLayerSize := (up_ne ef11 n_aLayerSize_aBits e_aLayerSize)
          have e_aLayerCame := (up_ne ef11 n_aLayerCame_aBits e_aLayerCame)
          have e_aRest := (up_ne ef11 n_aRest_aBits e_aRest)
          have e_aRestMany := (up_ne ef11 n_aRestMany_aBits e_aRestMany)
          have e_aCome := (up_ne ef11 n_aCome_aBits e_aCome)
          have e_aRivals := (up_ne ef11 n_aRivals_aBits e_aRivals)
          have e_aGone := (up_ne ef11 n_aGone_aBits e_aGone)
          have e_aOrder := (up_ne ef11 n_aOrder_aBits e_aOrder)
          have e_aOffAt := (up_ne ef11 n_aOffAt_aBits e_aOffAt)
          have e_aIsOff := (up_ne ef11 n_aIsOff_aBits e_aIsOff)
          have e_aAlone := (up_ne ef11 n_aAlone_aBits e_aAlone)
          have e_aKept := (up_ne ef11 n_aKept_aBits e_aKept)
          exact ih58 (x6_58 + 1) (upd caBits_58 (Int32.toNatClampNeg ((((sq * (20 : Int32)) + i) * (128 : Int32)) + x6_58)) (0 : Int32)) f11 _ _ _ ho58 S e_y e_aWorlds e_aInWorld e_aKind e_aSize e_aMarks e_aSeed e_aContents e_aContentMany e_aRow e_aBits e_aLayerSize e_aLayerCame e_aRest e_aRestMany e_aCome e_aRivals e_aGone e_aOrder e_aOffAt e_aIsOff e_aAlone e_aKept fr (lv_sub hl [0, 1, 2, 3, 4, 5, 6] rfl)
    exact LP58 FU (0 : Int32) vBits f2 _ _ _ ho58 S e_y e_aWorlds e_aInWorld e_aKind e_aSize e_aMarks e_aSeed e_aContents e_aContentMany e_aRow e_aBits e_aLayerSize e_aLayerCame e_aRest e_aRestMany e_aCome e_aRivals e_aGone e_aOrder e_aOffAt e_aIsOff e_aAlone e_aKept fr (lv_sub hl [0, 1, 2, 3, 4, 5, 6] rfl)
  have LP4 : ∀ (fu : Nat) (x4_4 : Int32) (H : Heap) (locs : List Loc) (ls : Array Slot), (mX9_lay_L4 nn) fu x4_4 = some o4 → PS D g (va_A (va_pl L f) szz) s.heap s L f H locs → lv_has ls 11 [(4, .int x4_4), (0, .ref y), (1, .int sq), (2, .int i), (3, .int nn)] → W p l e { frames := 1, cells := 0, slots := 0, locals := 27 } s m [.ref y, .int sq, .int i, .int nn].toArray below meth c H locs 0 0 QQ (F0 m 4 ls []) := by
    intro fu
    induction fu with
    | zero => intro x4_4 H locs ls ho4 S hl; exact no_some ho4
    | succ fu ih4 =>
      intro x4_4 H locs ls ho4 S hl
      rw [mX9_lay_L4] at ho4
      refine lv_iload hx hb dX9_lay_4 (lv_at hl 0 rfl) ?_
      refine lv_sipush (v := (4096 : Int32)) hx hb dX9_lay_6 (by decide) ?_
      refine lv_icmp_ge (tgt := 30) hx hb dX9_lay_9 (by decide) (fun b9 => ?_) (fun b9 => ?_)
      · have ho4 := itT b9 ho4
        obtain rfl := Option.some.inj ho4
        exact EX4 _ _ _ S (lv_sub hl [0, 1, 2, 3, 4] rfl)
      · have ho4 := itF b9 ho4
        refine lv_iload hx hb dX9_lay_12 (lv_at hl 0 rfl) ?_
        refine lv_bipush (v := (8 : Int32)) hx hb dX9_lay_14 (by decide) ?_
        refine lv_iload_n hx hb dX9_lay_16 rfl (lv_at hl 4 rfl) ?_
        refine lv_imul hx hb dX9_lay_17 ?_
        refine lv_icmp_ge (tgt := 30) hx hb dX9_lay_18 (by decide) (fun b18 => ?_) (fun b18 => ?_)
        · have ho4 := itT b18 ho4
          obtain rfl := Option.some.inj ho4
          exact EX4 _ _ _ S (lv_sub hl [0, 1, 2, 3, 4] rfl)
        · have ho4 := itF b18 ho4
          refine lv_iconst (v := (2 : Int32)) hx hb dX9_lay_21 (by decide) ?_
          refine lv_iload hx hb dX9_lay_22 (lv_at hl 0 rfl) ?_
          refine lv_imul hx hb dX9_lay_24 ?_
          refine lv_istore (lv' := [(4, .int ((2 : Int32) * x4_4)), (0, .ref y), (1, .int sq), (2, .int i), (3, .int nn)]) hx hb dX9_lay_25 hl (by decide) rfl (fun ls hl => ?_)
          refine lv_goto (tgt := 4) hx hb dX9_lay_27 (by decide) ?_
          exact ih4 ((2 : Int32) * x4_4) _ _ _ ho4 S (lv_sub hl [0, 1, 2, 3, 4] rfl)
  exact LP4 FU (8 : Int32) _ _ _ ho4 S (lv_sub hl [0, 1, 2, 3, 4] rfl)

def mX9_layered_L203 (z33 : Int32 × Int32 × (Nat → Int32) × (Nat → Int32) × (Nat → Int32) × (Nat → Int32) × (Nat → Int32) × (Nat → Int32) × (Nat → Int32)) (x5_162 : Int32) (caCome_162 : Nat → Int64) : Nat → Int32 → (Nat → Int64) → Option (Int32 × (Nat → Int64))
  | 0, _, _ => none
  | fu + 1, x9_203, caRest_203 => if x5_162 ≤ x9_203 then (some (x9_203, caRest_203)) else (if ix x9_203 1000 = true then (if ix ((z33.1 * (1000 : Int32)) + x9_203) 30000 = true then (mX9_layered_L203 z33 x5_162 caCome_162 fu (x9_203 + 1) (vp_updL caRest_203 (Int32.toNatClampNeg ((z33.1 * (1000 : Int32)) + x9_203)) (caCome_162 (Int32.toNatClampNeg x9_203)))) else none) else none)
def mX9_layered_L369 (o268 : Int32 × Int32 × (Nat → Int64)) : Nat → Int32 → (Nat → Int64) → Option (Int32 × (Nat → Int64))
  | 0, _, _ => none
  | fu + 1, x10_369, caCome_369 => if o268.2.1 ≤ x10_369 then (some (x10_369, caCome_369)) else (if ix x10_369 1000 = true then (if ix x10_369 1000 = true then (mX9_layered_L369 o268 fu (x10_369 + 1) (vp_updL caCome_369 (Int32.toNatClampNeg x10_369) (o268.2.2 (Int32.toNatClampNeg x10_369)))) else none) else none)
def mX9_layered_L335 (x5_162 : Int32) (caCome_162 : Nat → Int64) : Nat → Int32 → (Nat → Int64) → Option (Int32 × (Nat → Int64))
  | 0, _, _ => none
  | fu + 1, x10_335, caRivals_335 => if x5_162 ≤ x10_335 then (some (x10_335, caRivals_335)) else (if ix x10_335 1000 = true then (if ix x10_335 1000 = true then (mX9_layered_L335 x5_162 caCome_162 fu (x10_335 + 1) (vp_updL caRivals_335 (Int32.toNatClampNeg x10_335) (caCome_162 (Int32.toNatClampNeg x10_335)))) else none) else none)
def mX9_layered_L268 (z33 : Int32 × Int32 × (Nat → Int32) × (Nat → Int32) × (Nat → Int32) × (Nat → Int32) × (Nat → Int32) × (Nat → Int32) × (Nat → Int32)) (z259 : (Nat → Int32) × (Nat → Int32) × (Nat → Int32) × (Nat → Int32)) (x8_162 : Int32) (x6_162 : Int32) (caRivals_162 : Nat → Int64) : Nat → Int32 → Int32 → (Nat → Int64) → Option (Int32 × Int32 × (Nat → Int64))
  | 0, _, _, _ => none
  | fu + 1, x10_268, x9_268, caGone_268 => if x6_162 ≤ x10_268 then (some (x10_268, x9_268, caGone_268)) else (if ix x10_268 1000 = true then ((mX9_layerLets z33.2.2.2.2.2.1 z259.2.1 z259.2.2.1 z33.1 x8_162 (caRivals_162 (Int32.toNatClampNeg x10_268))).bind fun z287 => if z287 = 0 then (mX9_layered_L268 z33 z259 x8_162 x6_162 caRivals_162 fu (x10_268 + 1) x9_268 caGone_268) else (if ix x10_268 1000 = true then (if ix x9_268 1000 = true then (mX9_layered_L268 z33 z259 x8_162 x6_162 caRivals_162 fu (x10_268 + 1) (x9_268 + 1) (vp_updL caGone_268 (Int32.toNatClampNeg x9_268) (caRivals_162 (Int32.toNatClampNeg x10_268)))) else none) else none)) else none)
def mX9_layered_L162 (z33 : Int32 × Int32 × (Nat → Int32) × (Nat → Int32) × (Nat → Int32) × (Nat → Int32) × (Nat → Int32) × (Nat → Int32) × (Nat → Int32)) : Nat → Int32 → Int32 → Int32 → Int32 → (Nat → Int32) → (Nat → Int32) → (Nat → Int32) → (Nat → Int32) → (Nat → Int64) → (Nat → Int32) → (Nat → Int64) → (Nat → Int64) → (Nat → Int64) → Option (Int32 × Int32 × Int32 × Int32 × (Nat → Int32) × (Nat → Int32) × (Nat → Int32) × (Nat → Int32) × (Nat → Int64) × (Nat → Int32) × (Nat → Int64) × (Nat → Int64) × (Nat → Int64))
  | 0, _, _, _, _, _, _, _, _, _, _, _, _, _ => none
  | fu + 1, x8_162, x7_162, x6_162, x5_162, caSize_162, caBits_162, caLayerSize_162, caLayerCame_162, caRest_162, caRestMany_162, caCome_162, caRivals_162, caGone_162 => if x7_162 = 0 then (some (x8_162, x7_162, x6_162, x5_162, caSize_162, caBits_162, caLayerSize_162, caLayerCame_162, caRest_162, caRestMany_162, caCome_162, caRivals_162, caGone_162)) else (if x8_162 = (20 : Int32) then ((mX9_layered_L203 z33 x5_162 caCome_162 FU (0 : Int32) caRest_162).bind fun o203 => if ix z33.1 30 = true then (mX9_layered_L162 z33 fu (x8_162 + 1) (0 : Int32) x6_162 x5_162 caSize_162 caBits_162 caLayerSize_162 caLayerCame_162 o203.2 (upd caRestMany_162 (Int32.toNatClampNeg z33.1) x5_162) caCome_162 caRivals_162 caGone_162) else none) else (if x8_162 ≤ (1 : Int32) then ((mX9_lay caSize_162 z33.2.2.2.2.2.1 caBits_162 caLayerSize_162 caLayerCame_162 caCome_162 z33.1 x8_162 x5_162).bind fun z259 => (mX9_layered_L268 z33 z259 x8_162 x6_162 caRivals_162 FU (0 : Int32) (0 : Int32) caGone_162).bind fun o268 => if o268.2.1 ≤ 0 then ((mX9_layered_L335 x5_162 caCome_162 FU (0 : Int32) caRivals_162).bind fun o335 => (mX9_layered_L369 o268 FU (0 : Int32) caCome_162).bind fun o369 => mX9_layered_L162 z33 fu (x8_162 + 1) (0 : Int32) x5_162 o268.2.1 z259.1 z259.2.1 z259.2.2.1 z259.2.2.2 caRest_162 caRestMany_162 o369.2 o335.2 o268.2.2) else ((mX9_layered_L335 x5_162 caCome_162 FU (0 : Int32) caRivals_162).bind fun o335 => (mX9_layered_L369 o268 FU (0 : Int32) caCome_162).bind fun o369 => mX9_layered_L162 z33 fu (x8_162 + 1) (1 : Int32) x5_162 o268.2.1 z259.1 z259.2.1 z259.2.2.1 z259.2.2.2 caRest_162 caRestMany_162 o369.2 o335.2 o268.2.2)) else (if ix (((z33.1 * (20 : Int32)) + x8_162) - (2 : Int32)) 600 = true then (if x5_162 = (caLayerCame_162 (Int32.toNatClampNeg (((z33.1 * (20 : Int32)) + x8_162) - (2 : Int32)))) then ((mX9_layered_L203 z33 x5_162 caCome_162 FU (0 : Int32) caRest_162).bind fun o203 => if ix z33.1 30 = true then (mX9_layered_L162 z33 fu (x8_162 + 1) (0 : Int32) x6_162 x5_162 caSize_162 caBits_162 caLayerSize_162 caLayerCame_162 o203.2 (upd caRestMany_162 (Int32.toNatClampNeg z33.1) x5_162) caCome_162 caRivals_162 caGone_162) else none) else ((mX9_lay caSize_162 z33.2.2.2.2.2.1 caBits_162 caLayerSize_162 caLayerCame_162 caCome_162 z33.1 x8_162 x5_162).bind fun z259 => (mX9_layered_L268 z33 z259 x8_162 x6_162 caRivals_162 FU (0 : Int32) (0 : Int32) caGone_162).bind fun o268 => if o268.2.1 ≤ 0 then ((mX9_layered_L335 x5_162 caCome_162 FU (0 : Int32) caRivals_162).bind fun o335 => (mX9_layered_L369 o268 FU (0 : Int32) caCome_162).bind fun o369 => mX9_layered_L162 z33 fu (x8_162 + 1) (0 : Int32) x5_162 o268.2.1 z259.1 z259.2.1 z259.2.2.1 z259.2.2.2 caRest_162 caRestMany_162 o369.2 o335.2 o268.2.2) else ((mX9_layered_L335 x5_162 caCome_162 FU (0 : Int32) caRivals_162).bind fun o335 => (mX9_layered_L369 o268 FU (0 : Int32) caCome_162).bind fun o369 => mX9_layered_L162 z33 fu (x8_162 + 1) (1 : Int32) x5_162 o268.2.1 z259.1 z259.2.1 z259.2.2.1 z259.2.2.2 caRest_162 caRestMany_162 o369.2 o335.2 o268.2.2))) else none)))
def mX9_layered_L95 (vWorlds : Nat → Int64) (vInWorld : Nat → Int32) (wi : Int32) (wa : Int32) : Nat → Int32 → Int32 → (Nat → Int64) → Option (Int32 × Int32 × (Nat → Int64))
  | 0, _, _, _ => none
  | fu + 1, x7_95, x6_95, caRivals_95 => if ix wa 8 = true then (if (vInWorld (Int32.toNatClampNeg wa)) ≤ x7_95 then (some (x7_95, x6_95, caRivals_95)) else (if ix ((wa * (1000 : Int32)) + x7_95) 8000 = true then ((mX9_placeOf vWorlds vInWorld wi (vWorlds (Int32.toNatClampNeg ((wa * (1000 : Int32)) + x7_95)))).bind fun z121 => if 0 ≤ z121 then (mX9_layered_L95 vWorlds vInWorld wi wa fu (x7_95 + 1) x6_95 caRivals_95) else (if ix ((wa * (1000 : Int32)) + x7_95) 8000 = true then (if ix x6_95 1000 = true then (mX9_layered_L95 vWorlds vInWorld wi wa fu (x7_95 + 1) (x6_95 + 1) (vp_updL caRivals_95 (Int32.toNatClampNeg x6_95) (vWorlds (Int32.toNatClampNeg ((wa * (1000 : Int32)) + x7_95))))) else none) else none)) else none)) else none
def mX9_layered_L59 (vWorlds : Nat → Int64) (vInWorld : Nat → Int32) (wi : Int32) : Nat → Int32 → (Nat → Int64) → Option (Int32 × (Nat → Int64))
  | 0, _, _ => none
  | fu + 1, x7_59, caCome_59 => if (vInWorld (Int32.toNatClampNeg wi)) ≤ x7_59 then (some (x7_59, caCome_59)) else (if ix ((wi * (1000 : Int32)) + x7_59) 8000 = true then (if ix x7_59 1000 = true then (mX9_layered_L59 vWorlds vInWorld wi fu (x7_59 + 1) (vp_updL caCome_59 (Int32.toNatClampNeg x7_59) (vWorlds (Int32.toNatClampNeg ((wi * (1000 : Int32)) + x7_59))))) else none) else none)
def mX9_layered (many : Int32) (vWorlds : Nat → Int64) (vInWorld : Nat → Int32) (vKind : Nat → Int32) (vSize : Nat → Int32) (vMarks : Nat → Int32) (vSeed : Nat → Int32) (vContents : Nat → Int64) (vContentMany : Nat → Int32) (vRow : Nat → Int32) (vBits : Nat → Int32) (vLayerSize : Nat → Int32) (vLayerCame : Nat → Int32) (vRest : Nat → Int64) (vRestMany : Nat → Int32) (vCome : Nat → Int64) (vRivals : Nat → Int64) (vGone : Nat → Int64) (wi : Int32) (wa : Int32) (by_ : Int32) : Option (Int32 × Int32 × (Nat → Int32) × (Nat → Int32) × (Nat → Int32) × (Nat → Int32) × (Nat → Int64) × (Nat → Int32) × (Nat → Int32) × (Nat → Int32) × (Nat → Int32) × (Nat → Int32) × (Nat → Int64) × (Nat → Int32) × (Nat → Int64) × (Nat → Int64) × (Nat → Int64)) := (mX9_isWorld wi).bind fun z1 => if z1 = 0 then (some ((-1 : Int32), many, vKind, vSize, vMarks, vSeed, vContents, vContentMany, vRow, vBits, vLayerSize, vLayerCame, vRest, vRestMany, vCome, vRivals, vGone)) else ((mX9_isWorld wa).bind fun z8 => if z8 = 0 then (some ((-1 : Int32), many, vKind, vSize, vMarks, vSeed, vContents, vContentMany, vRow, vBits, vLayerSize, vLayerCame, vRest, vRestMany, vCome, vRivals, vGone)) else (if many = (30 : Int32) then (some ((-4 : Int32), many, vKind, vSize, vMarks, vSeed, vContents, vContentMany, vRow, vBits, vLayerSize, vLayerCame, vRest, vRestMany, vCome, vRivals, vGone)) else ((mX9_begin many vKind vSize vMarks vSeed vContentMany vRow vRestMany (4 : Int32) (0 : Int32) (3 : Int32) by_).bind fun z33 => (mX9_fillFrom vWorlds vInWorld vContents z33.2.2.2.2.2.2.1 z33.1 wi).bind fun z42 => if ix wi 8 = true then ((mX9_layered_L59 vWorlds vInWorld wi FU (0 : Int32) vCome).bind fun o59 => (mX9_layered_L95 vWorlds vInWorld wi wa FU (0 : Int32) (0 : Int32) vRivals).bind fun o95 => (mX9_layered_L162 z33 FU (0 : Int32) (1 : Int32) o95.2.1 (vInWorld (Int32.toNatClampNeg wi)) z33.2.2.2.1 vBits vLayerSize vLayerCame vRest z33.2.2.2.2.2.2.2.2 o59.2 o95.2.2 vGone).bind fun o162 => some (z33.1, z33.2.1, z33.2.2.1, o162.2.2.2.2.1, z33.2.2.2.2.1, z33.2.2.2.2.2.1, z42.1, z42.2, z33.2.2.2.2.2.2.2.1, o162.2.2.2.2.2.1, o162.2.2.2.2.2.2.1, o162.2.2.2.2.2.2.2.1, o162.2.2.2.2.2.2.2.2.1, o162.2.2.2.2.2.2.2.2.2.1, o162.2.2.2.2.2.2.2.2.2.2.1, o162.2.2.2.2.2.2.2.2.2.2.2.1, o162.2.2.2.2.2.2.2.2.2.2.2.2)) else none)))
set_option maxHeartbeats 4000000 in
set_option maxRecDepth 100000 in
theorem k_X9_layered (l : Launch) (D : va_G) (g : Nat → ClassId) {L : List Nat} {f : Nat → va_E} {aAlone aBits aCome aContentMany aContents aGone aInWorld aIsOff aKept aKind aLayerCame aLayerSize aMarks aOffAt aOrder aRest aRestMany aRivals aRow aSeed aSize aWorlds y : Nat} {many : Int32} {vWorlds : Nat → Int64} {vInWorld : Nat → Int32} {vKind : Nat → Int32} {vSize : Nat → Int32} {vMarks : Nat → Int32} {vSeed : Nat → Int32} {vContents : Nat → Int64} {vContentMany : Nat → Int32} {vRow : Nat → Int32} {vBits : Nat → Int32} {vLayerSize : Nat → Int32} {vLayerCame : Nat → Int32} {vRest : Nat → Int64} {vRestMany : Nat → Int32} {vCome : Nat → Int64} {vRivals : Nat → Int64} {vGone : Nat → Int64} {vOrder : Nat → Int32} {vOffAt : Nat → Int32} {vIsOff : Nat → Int32} {vAlone : Nat → Int32} {vKept : Nat → Int32} {wi : Int32} {wa : Int32} {by_ : Int32} {ρ : Nat → Nat × Nat} {z : Int32 × Int32 × (Nat → Int32) × (Nat → Int32) × (Nat → Int32) × (Nat → Int32) × (Nat → Int64) × (Nat → Int32) × (Nat → Int32) × (Nat → Int32) × (Nat → Int32) × (Nat → Int32) × (Nat → Int64) × (Nat → Int32) × (Nat → Int64) × (Nat → Int64) × (Nat → Int64)} (m_y : y ∈ L) (e_y : f y = .inr (7, [.ref aWorlds, .ref aInWorld, .ref aKind, .ref aSize, .ref aMarks, .ref aSeed, .ref aContents, .ref aContentMany, .ref aRow, .ref aBits, .ref aLayerSize, .ref aLayerCame, .ref aRest, .ref aRestMany, .int many, .ref aCome, .ref aRivals, .ref aGone, .ref aOrder, .ref aOffAt, .ref aIsOff, .ref aAlone, .ref aKept])) (m_aWorlds : aWorlds ∈ L) (e_aWorlds : f aWorlds = .inl (g 1, 8000, .inr (.inl vWorlds))) (m_aInWorld : aInWorld ∈ L) (e_aInWorld : f aInWorld = .inl (g 0, 8, .inl vInWorld)) (m_aKind : aKind ∈ L) (e_aKind : f aKind = .inl (g 0, 30, .inl vKind)) (m_aSize : aSize ∈ L) (e_aSize : f aSize = .inl (g 0, 30, .inl vSize)) (m_aMarks : aMarks ∈ L) (e_aMarks : f aMarks = .inl (g 0, 30, .inl vMarks)) (m_aSeed : aSeed ∈ L) (e_aSeed : f aSeed = .inl (g 0, 30, .inl vSeed)) (m_aContents : aContents ∈ L) (e_aContents : f aContents = .inl (g 1, 30000, .inr (.inl vContents))) (m_aContentMany : aContentMany ∈ L) (e_aContentMany : f aContentMany = .inl (g 0, 30, .inl vContentMany)) (m_aRow : aRow ∈ L) (e_aRow : f aRow = .inl (g 0, 122880, .inl vRow)) (m_aBits : aBits ∈ L) (e_aBits : f aBits = .inl (g 0, 76800, .inl vBits)) (m_aLayerSize : aLayerSize ∈ L) (e_aLayerSize : f aLayerSize = .inl (g 0, 600, .inl vLayerSize)) (m_aLayerCame : aLayerCame ∈ L) (e_aLayerCame : f aLayerCame = .inl (g 0, 600, .inl vLayerCame)) (m_aRest : aRest ∈ L) (e_aRest : f aRest = .inl (g 1, 30000, .inr (.inl vRest))) (m_aRestMany : aRestMany ∈ L) (e_aRestMany : f aRestMany = .inl (g 0, 30, .inl vRestMany)) (m_aCome : aCome ∈ L) (e_aCome : f aCome = .inl (g 1, 1000, .inr (.inl vCome))) (m_aRivals : aRivals ∈ L) (e_aRivals : f aRivals = .inl (g 1, 1000, .inr (.inl vRivals))) (m_aGone : aGone ∈ L) (e_aGone : f aGone = .inl (g 1, 1000, .inr (.inl vGone))) (m_aOrder : aOrder ∈ L) (e_aOrder : f aOrder = .inl (g 0, 1000, .inl vOrder)) (m_aOffAt : aOffAt ∈ L) (e_aOffAt : f aOffAt = .inl (g 0, 1000, .inl vOffAt)) (m_aIsOff : aIsOff ∈ L) (e_aIsOff : f aIsOff = .inl (g 2, 1000, .inl vIsOff)) (m_aAlone : aAlone ∈ L) (e_aAlone : f aAlone = .inl (g 0, 4096, .inl vAlone)) (m_aKept : aKept ∈ L) (e_aKept : f aKept = .inl (g 0, 4096, .inl vKept))  (r_aKind : ρ aKind = (500, 3)) (r_aSize : ρ aSize = (500, 4)) (r_aMarks : ρ aMarks = (500, 5)) (r_aSeed : ρ aSeed = (500, 6)) (r_aContents : ρ aContents = (500, 7)) (r_aContentMany : ρ aContentMany = (500, 8)) (r_aLayerSize : ρ aLayerSize = (500, 11)) (r_aLayerCame : ρ aLayerCame = (500, 12)) (r_aRest : ρ aRest = (500, 13)) (r_aRestMany : ρ aRestMany = (500, 14)) (r_aCome : ρ aCome = (500, 16)) (r_aRivals : ρ aRivals = (500, 17)) (r_aGone : ρ aGone = (500, 18))  (hM : mX9_layered many vWorlds vInWorld vKind vSize vMarks vSeed vContents vContentMany vRow vBits vLayerSize vLayerCame vRest vRestMany vCome vRivals vGone wi wa by_ = some z) : cI l yX9_layered wsX9_layered { frames := 2, cells := 0, slots := 0, locals := 57 } D g [.ref y, .int wi, .int wa, .int by_] L f 0 0 (fun x L1 f1 => x = z.1 ∧ L1 = L ∧ (∀ b, b ∈ L → b ≠ y → b ≠ aKind → b ≠ aSize → b ≠ aMarks → b ≠ aSeed → b ≠ aContents → b ≠ aContentMany → b ≠ aRow → b ≠ aBits → b ≠ aLayerSize → b ≠ aLayerCame → b ≠ aRest → b ≠ aRestMany → b ≠ aCome → b ≠ aRivals → b ≠ aGone → f1 b = f b) ∧ f1 y = .inr (7, [.ref aWorlds, .ref aInWorld, .ref aKind, .ref aSize, .ref aMarks, .ref aSeed, .ref aContents, .ref aContentMany, .ref aRow, .ref aBits, .ref aLayerSize, .ref aLayerCame, .ref aRest, .ref aRestMany, .int z.2.1, .ref aCome, .ref aRivals, .ref aGone, .ref aOrder, .ref aOffAt, .ref aIsOff, .ref aAlone, .ref aKept]) ∧ f1 aKind = .inl (g 0, 30, .inl z.2.2.1) ∧ f1 aSize = .inl (g 0, 30, .inl z.2.2.2.1) ∧ f1 aMarks = .inl (g 0, 30, .inl z.2.2.2.2.1) ∧ f1 aSeed = .inl (g 0, 30, .inl z.2.2.2.2.2.1) ∧ f1 aContents = .inl (g 1, 30000, .inr (.inl z.2.2.2.2.2.2.1)) ∧ f1 aContentMany = .inl (g 0, 30, .inl z.2.2.2.2.2.2.2.1) ∧ f1 aRow = .inl (g 0, 122880, .inl z.2.2.2.2.2.2.2.2.1) ∧ f1 aBits = .inl (g 0, 76800, .inl z.2.2.2.2.2.2.2.2.2.1) ∧ f1 aLayerSize = .inl (g 0, 600, .inl z.2.2.2.2.2.2.2.2.2.2.1) ∧ f1 aLayerCame = .inl (g 0, 600, .inl z.2.2.2.2.2.2.2.2.2.2.2.1) ∧ f1 aRest = .inl (g 1, 30000, .inr (.inl z.2.2.2.2.2.2.2.2.2.2.2.2.1)) ∧ f1 aRestMany = .inl (g 0, 30, .inl z.2.2.2.2.2.2.2.2.2.2.2.2.2.1) ∧ f1 aCome = .inl (g 1, 1000, .inr (.inl z.2.2.2.2.2.2.2.2.2.2.2.2.2.2.1)) ∧ f1 aRivals = .inl (g 1, 1000, .inr (.inl z.2.2.2.2.2.2.2.2.2.2.2.2.2.2.2.1)) ∧ f1 aGone = .inl (g 1, 1000, .inr (.inl z.2.2.2.2.2.2.2.2.2.2.2.2.2.2.2.2))) := by
  refine cI_of (cc := cX9_layered) (maxL := 11) (ret := (some .int)) (by decide) rfl (Nat.le_of_ble_eq_true rfl) ?_
  intro szz p e s m below meth c hx hb hr hml hts hown hlk hnm S ls hl
  have hl : lv_has ls 11 [(0, .ref y), (1, .int wi), (2, .int wa), (3, .int by_)] := hl
  have in_X9 : ∀ w ∈ wsX90, w ∈ wsX9_layered := by decide +kernel
  have n_aWorlds_y : aWorlds ≠ y := ne_ri e_y e_aWorlds
  have n_aWorlds_aKind : aWorlds ≠ aKind := ne_len e_aKind e_aWorlds (by decide)
  have n_aWorlds_aSize : aWorlds ≠ aSize := ne_len e_aSize e_aWorlds (by decide)
  have n_aWorlds_aMarks : aWorlds ≠ aMarks := ne_len e_aMarks e_aWorlds (by decide)
  have n_aWorlds_aSeed : aWorlds ≠ aSeed := ne_len e_aSeed e_aWorlds (by decide)
  have n_aWorlds_aContentMany : aWorlds ≠ aContentMany := ne_len e_aContentMany e_aWorlds (by decide)
  have n_aWorlds_aRow : aWorlds ≠ aRow := ne_len e_aRow e_aWorlds (by decide)
  have n_aWorlds_aRestMany : aWorlds ≠ aRestMany := ne_len e_aRestMany e_aWorlds (by decide)
  have n_aInWorld_y : aInWorld ≠ y := ne_ri e_y e_aInWorld
  have n_aInWorld_aKind : aInWorld ≠ aKind := ne_len e_aKind e_aInWorld (by decide)
  have n_aInWorld_aSize : aInWorld ≠ aSize := ne_len e_aSize e_aInWorld (by decide)
  have n_aInWorld_aMarks : aInWorld ≠ aMarks := ne_len e_aMarks e_aInWorld (by decide)
  have n_aInWorld_aSeed : aInWorld ≠ aSeed := ne_len e_aSeed e_aInWorld (by decide)
  have n_aInWorld_aContentMany : aInWorld ≠ aContentMany := ne_len e_aContentMany e_aInWorld (by decide)
  have n_aInWorld_aRow : aInWorld ≠ aRow := ne_len e_aRow e_aInWorld (by decide)
  have n_aInWorld_aRestMany : aInWorld ≠ aRestMany := ne_len e_aRestMany e_aInWorld (by decide)
  have n_aContents_y : aContents ≠ y := ne_ri e_y e_aContents
  have n_aContents_aKind : aContents ≠ aKind := ne_len e_aKind e_aContents (by decide)
  have n_aContents_aSize : aContents ≠ aSize := ne_len e_aSize e_aContents (by decide)
  have n_aContents_aMarks : aContents ≠ aMarks := ne_len e_aMarks e_aContents (by decide)
  have n_aContents_aSeed : aContents ≠ aSeed := ne_len e_aSeed e_aContents (by decide)
  have n_aContents_aContentMany : aContents ≠ aContentMany := ne_len e_aContentMany e_aContents (by decide)
  have n_aContents_aRow : aContents ≠ aRow := ne_len e_aRow e_aContents (by decide)
  have n_aContents_aRestMany : aContents ≠ aRestMany := ne_len e_aRestMany e_aContents (by decide)
  have n_aBits_y : aBits ≠ y := ne_ri e_y e_aBits
  have n_aBits_aKind : aBits ≠ aKind := ne_len e_aKind e_aBits (by decide)
  have n_aBits_aSize : aBits ≠ aSize := ne_len e_aSize e_aBits (by decide)
  have n_aBits_aMarks : aBits ≠ aMarks := ne_len e_aMarks e_aBits (by decide)
  have n_aBits_aSeed : aBits ≠ aSeed := ne_len e_aSeed e_aBits (by decide)
  have n_aBits_aContentMany : aBits ≠ aContentMany := ne_len e_aContentMany e_aBits (by decide)
  have n_aBits_aRow : aBits ≠ aRow := ne_len e_aRow e_aBits (by decide)
  have n_aBits_aRestMany : aBits ≠ aRestMany := ne_len e_aRestMany e_aBits (by decide)
  have n_aLayerSize_y : aLayerSize ≠ y := ne_ri e_y e_aLayerSize
  have n_aLayerSize_aKind : aLayerSize ≠ aKind := ne_len e_aKind e_aLayerSize (by decide)
  have n_aLayerSize_aSize : aLayerSize ≠ aSize := ne_len e_aSize e_aLayerSize (by decide)
  have n_aLayerSize_aMarks : aLayerSize ≠ aMarks := ne_len e_aMarks e_aLayerSize (by decide)
  have n_aLayerSize_aSeed : aLayerSize ≠ aSeed := ne_len e_aSeed e_aLayerSize (by decide)
  have n_aLayerSize_aContentMany : aLayerSize ≠ aContentMany := ne_len e_aContentMany e_aLayerSize (by decide)
  have n_aLayerSize_aRow : aLayerSize ≠ aRow := ne_len e_aRow e_aLayerSize (by decide)
  have n_aLayerSize_aRestMany : aLayerSize ≠ aRestMany := ne_len e_aRestMany e_aLayerSize (by decide)
  have n_aLayerCame_y : aLayerCame ≠ y := ne_ri e_y e_aLayerCame
  have n_aLayerCame_aKind : aLayerCame ≠ aKind := ne_len e_aKind e_aLayerCame (by decide)
  have n_aLayerCame_aSize : aLayerCame ≠ aSize := ne_len e_aSize e_aLayerCame (by decide)
  have n_aLayerCame_aMarks : aLayerCame ≠ aMarks := ne_len e_aMarks e_aLayerCame (by decide)
  have n_aLayerCame_aSeed : aLayerCame ≠ aSeed := ne_len e_aSeed e_aLayerCame (by decide)
  have n_aLayerCame_aContentMany : aLayerCame ≠ aContentMany := ne_len e_aContentMany e_aLayerCame (by decide)
  have n_aLayerCame_aRow : aLayerCame ≠ aRow := ne_len e_aRow e_aLayerCame (by decide)
  have n_aLayerCame_aRestMany : aLayerCame ≠ aRestMany := ne_len e_aRestMany e_aLayerCame (by decide)
  have n_aRest_y : aRest ≠ y := ne_ri e_y e_aRest
  have n_aRest_aKind : aRest ≠ aKind := ne_len e_aKind e_aRest (by decide)
  have n_aRest_aSize : aRest ≠ aSize := ne_len e_aSize e_aRest (by decide)
  have n_aRest_aMarks : aRest ≠ aMarks := ne_len e_aMarks e_aRest (by decide)
  have n_aRest_aSeed : aRest ≠ aSeed := ne_len e_aSeed e_aRest (by decide)
  have n_aRest_aContentMany : aRest ≠ aContentMany := ne_len e_aContentMany e_aRest (by decide)
  have n_aRest_aRow : aRest ≠ aRow := ne_len e_aRow e_aRest (by decide)
  have n_aRest_aRestMany : aRest ≠ aRestMany := ne_len e_aRestMany e_aRest (by decide)
  have n_aCome_y : aCome ≠ y := ne_ri e_y e_aCome
  have n_aCome_aKind : aCome ≠ aKind := ne_len e_aKind e_aCome (by decide)
  have n_aCome_aSize : aCome ≠ aSize := ne_len e_aSize e_aCome (by decide)
  have n_aCome_aMarks : aCome ≠ aMarks := ne_len e_aMarks e_aCome (by decide)
  have n_aCome_aSeed : aCome ≠ aSeed := ne_len e_aSeed e_aCome (by decide)
  have n_aCome_aContentMany : aCome ≠ aContentMany := ne_len e_aContentMany e_aCome (by decide)
  have n_aCome_aRow : aCome ≠ aRow := ne_len e_aRow e_aCome (by decide)
  have n_aCome_aRestMany : aCome ≠ aRestMany := ne_len e_aRestMany e_aCome (by decide)
  have n_aRivals_y : aRivals ≠ y := ne_ri e_y e_aRivals
  have n_aRivals_aKind : aRivals ≠ aKind := ne_len e_aKind e_aRivals (by decide)
  have n_aRivals_aSize : aRivals ≠ aSize := ne_len e_aSize e_aRivals (by decide)
  have n_aRivals_aMarks : aRivals ≠ aMarks := ne_len e_aMarks e_aRivals (by decide)
  have n_aRivals_aSeed : aRivals ≠ aSeed := ne_len e_aSeed e_aRivals (by decide)
  have n_aRivals_aContentMany : aRivals ≠ aContentMany := ne_len e_aContentMany e_aRivals (by decide)
  have n_aRivals_aRow : aRivals ≠ aRow := ne_len e_aRow e_aRivals (by decide)
  have n_aRivals_aRestMany : aRivals ≠ aRestMany := ne_len e_aRestMany e_aRivals (by decide)
  have n_aGone_y : aGone ≠ y := ne_ri e_y e_aGone
  have n_aGone_aKind : aGone ≠ aKind := ne_len e_aKind e_aGone (by decide)
  have n_aGone_aSize : aGone ≠ aSize := ne_len e_aSize e_aGone (by decide)
  have n_aGone_aMarks : aGone ≠ aMarks := ne_len e_aMarks e_aGone (by decide)
  have n_aGone_aSeed : aGone ≠ aSeed := ne_len e_aSeed e_aGone (by decide)
  have n_aGone_aContentMany : aGone ≠ aContentMany := ne_len e_aContentMany e_aGone (by decide)
  have n_aGone_aRow : aGone ≠ aRow := ne_len e_aRow e_aGone (by decide)
  have n_aGone_aRestMany : aGone ≠ aRestMany := ne_len e_aRestMany e_aGone (by decide)
  have n_aOrder_y : aOrder ≠ y := ne_ri e_y e_aOrder
  have n_aOrder_aKind : aOrder ≠ aKind := ne_len e_aKind e_aOrder (by decide)
  have n_aOrder_aSize : aOrder ≠ aSize := ne_len e_aSize e_aOrder (by decide)
  have n_aOrder_aMarks : aOrder ≠ aMarks := ne_len e_aMarks e_aOrder (by decide)
  have n_aOrder_aSeed : aOrder ≠ aSeed := ne_len e_aSeed e_aOrder (by decide)
  have n_aOrder_aContentMany : aOrder ≠ aContentMany := ne_len e_aContentMany e_aOrder (by decide)
  have n_aOrder_aRow : aOrder ≠ aRow := ne_len e_aRow e_aOrder (by decide)
  have n_aOrder_aRestMany : aOrder ≠ aRestMany := ne_len e_aRestMany e_aOrder (by decide)
  have n_aOffAt_y : aOffAt ≠ y := ne_ri e_y e_aOffAt
  have n_aOffAt_aKind : aOffAt ≠ aKind := ne_len e_aKind e_aOffAt (by decide)
  have n_aOffAt_aSize : aOffAt ≠ aSize := ne_len e_aSize e_aOffAt (by decide)
  have n_aOffAt_aMarks : aOffAt ≠ aMarks := ne_len e_aMarks e_aOffAt (by decide)
  have n_aOffAt_aSeed : aOffAt ≠ aSeed := ne_len e_aSeed e_aOffAt (by decide)
  have n_aOffAt_aContentMany : aOffAt ≠ aContentMany := ne_len e_aContentMany e_aOffAt (by decide)
  have n_aOffAt_aRow : aOffAt ≠ aRow := ne_len e_aRow e_aOffAt (by decide)
  have n_aOffAt_aRestMany : aOffAt ≠ aRestMany := ne_len e_aRestMany e_aOffAt (by decide)
  have n_aIsOff_y : aIsOff ≠ y := ne_ri e_y e_aIsOff
  have n_aIsOff_aKind : aIsOff ≠ aKind := ne_len e_aKind e_aIsOff (by decide)
  have n_aIsOff_aSize : aIsOff ≠ aSize := ne_len e_aSize e_aIsOff (by decide)
  have n_aIsOff_aMarks : aIsOff ≠ aMarks := ne_len e_aMarks e_aIsOff (by decide)
  have n_aIsOff_aSeed : aIsOff ≠ aSeed := ne_len e_aSeed e_aIsOff (by decide)
  have n_aIsOff_aContentMany : aIsOff ≠ aContentMany := ne_len e_aContentMany e_aIsOff (by decide)
  have n_aIsOff_aRow : aIsOff ≠ aRow := ne_len e_aRow e_aIsOff (by decide)
  have n_aIsOff_aRestMany : aIsOff ≠ aRestMany := ne_len e_aRestMany e_aIsOff (by decide)
  have n_aAlone_y : aAlone ≠ y := ne_ri e_y e_aAlone
  have n_aAlone_aKind : aAlone ≠ aKind := ne_len e_aKind e_aAlone (by decide)
  have n_aAlone_aSize : aAlone ≠ aSize := ne_len e_aSize e_aAlone (by decide)
  have n_aAlone_aMarks : aAlone ≠ aMarks := ne_len e_aMarks e_aAlone (by decide)
  have n_aAlone_aSeed : aAlone ≠ aSeed := ne_len e_aSeed e_aAlone (by decide)
  have n_aAlone_aContentMany : aAlone ≠ aContentMany := ne_len e_aContentMany e_aAlone (by decide)
  have n_aAlone_aRow : aAlone ≠ aRow := ne_len e_aRow e_aAlone (by decide)
  have n_aAlone_aRestMany : aAlone ≠ aRestMany := ne_len e_aRestMany e_aAlone (by decide)
  have n_aKept_y : aKept ≠ y := ne_ri e_y e_aKept
  have n_aKept_aKind : aKept ≠ aKind := ne_len e_aKind e_aKept (by decide)
  have n_aKept_aSize : aKept ≠ aSize := ne_len e_aSize e_aKept (by decide)
  have n_aKept_aMarks : aKept ≠ aMarks := ne_len e_aMarks e_aKept (by decide)
  have n_aKept_aSeed : aKept ≠ aSeed := ne_len e_aSeed e_aKept (by decide)
  have n_aKept_aContentMany : aKept ≠ aContentMany := ne_len e_aContentMany e_aKept (by decide)
  have n_aKept_aRow : aKept ≠ aRow := ne_len e_aRow e_aKept (by decide)
  have n_aKept_aRestMany : aKept ≠ aRestMany := ne_len e_aRestMany e_aKept (by decide)
  have n_y_aContents : y ≠ aContents := ne_ir e_aContents e_y
  have n_y_aContentMany : y ≠ aContentMany := ne_ir e_aContentMany e_y
  have n_aInWorld_aContents : aInWorld ≠ aContents := ne_len e_aContents e_aInWorld (by decide)
  have n_aWorlds_aContents : aWorlds ≠ aContents := ne_len e_aContents e_aWorlds (by decide)
  have n_aKind_aContents : aKind ≠ aContents := ne_len e_aContents e_aKind (by decide)
  have n_aKind_aContentMany : aKind ≠ aContentMany := role_ne r_aContentMany r_aKind (by decide)
  have n_aSize_aContents : aSize ≠ aContents := ne_len e_aContents e_aSize (by decide)
  have n_aSize_aContentMany : aSize ≠ aContentMany := role_ne r_aContentMany r_aSize (by decide)
  have n_aMarks_aContents : aMarks ≠ aContents := ne_len e_aContents e_aMarks (by decide)
  have n_aMarks_aContentMany : aMarks ≠ aContentMany := role_ne r_aContentMany r_aMarks (by decide)
  have n_aSeed_aContents : aSeed ≠ aContents := ne_len e_aContents e_aSeed (by decide)
  have n_aSeed_aContentMany : aSeed ≠ aContentMany := role_ne r_aContentMany r_aSeed (by decide)
  have n_aRow_aContents : aRow ≠ aContents := ne_len e_aContents e_aRow (by decide)
  have n_aRow_aContentMany : aRow ≠ aContentMany := ne_len e_aContentMany e_aRow (by decide)
  have n_aBits_aContents : aBits ≠ aContents := ne_len e_aContents e_aBits (by decide)
  have n_aLayerSize_aContents : aLayerSize ≠ aContents := ne_len e_aContents e_aLayerSize (by decide)
  have n_aLayerCame_aContents : aLayerCame ≠ aContents := ne_len e_aContents e_aLayerCame (by decide)
  have n_aRest_aContents : aRest ≠ aContents := role_ne r_aContents r_aRest (by decide)
  have n_aRestMany_aContents : aRestMany ≠ aContents := ne_len e_aContents e_aRestMany (by decide)
  have n_aRestMany_aContentMany : aRestMany ≠ aContentMany := role_ne r_aContentMany r_aRestMany (by decide)
  have n_aCome_aContents : aCome ≠ aContents := ne_len e_aContents e_aCome (by decide)
  have n_aRivals_aContents : aRivals ≠ aContents := ne_len e_aContents e_aRivals (by decide)
  have n_aGone_aContents : aGone ≠ aContents := ne_len e_aContents e_aGone (by decide)
  have n_aOrder_aContents : aOrder ≠ aContents := ne_len e_aContents e_aOrder (by decide)
  have n_aOffAt_aContents : aOffAt ≠ aContents := ne_len e_aContents e_aOffAt (by decide)
  have n_aIsOff_aContents : aIsOff ≠ aContents := ne_len e_aContents e_aIsOff (by decide)
  have n_aAlone_aContents : aAlone ≠ aContents := ne_len e_aContents e_aAlone (by decide)
  have n_aKept_aContents : aKept ≠ aContents := ne_len e_aContents e_aKept (by decide)
  have n_y_aRest : y ≠ aRest := ne_ir e_aRest e_y
  have n_aWorlds_aRest : aWorlds ≠ aRest := ne_len e_aRest e_aWorlds (by decide)
  have n_aInWorld_aRest : aInWorld ≠ aRest := ne_len e_aRest e_aInWorld (by decide)
  have n_aKind_aRest : aKind ≠ aRest := ne_len e_aRest e_aKind (by decide)
  have n_aSize_aRest : aSize ≠ aRest := ne_len e_aRest e_aSize (by decide)
  have n_aMarks_aRest : aMarks ≠ aRest := ne_len e_aRest e_aMarks (by decide)
  have n_aSeed_aRest : aSeed ≠ aRest := ne_len e_aRest e_aSeed (by decide)
  have n_aContents_aRest : aContents ≠ aRest := role_ne r_aRest r_aContents (by decide)
  have n_aContentMany_aRest : aContentMany ≠ aRest := ne_len e_aRest e_aContentMany (by decide)
  have n_aRow_aRest : aRow ≠ aRest := ne_len e_aRest e_aRow (by decide)
  have n_aBits_aRest : aBits ≠ aRest := ne_len e_aRest e_aBits (by decide)
  have n_aLayerSize_aRest : aLayerSize ≠ aRest := ne_len e_aRest e_aLayerSize (by decide)
  have n_aLayerCame_aRest : aLayerCame ≠ aRest := ne_len e_aRest e_aLayerCame (by decide)
  have n_aRestMany_aRest : aRestMany ≠ aRest := ne_len e_aRest e_aRestMany (by decide)
  have n_aCome_aRest : aCome ≠ aRest := ne_len e_aRest e_aCome (by decide)
  have n_aRivals_aRest : aRivals ≠ aRest := ne_len e_aRest e_aRivals (by decide)
  have n_aGone_aRest : aGone ≠ aRest := ne_len e_aRest e_aGone (by decide)
  have n_aOrder_aRest : aOrder ≠ aRest := ne_len e_aRest e_aOrder (by decide)
  have n_aOffAt_aRest : aOffAt ≠ aRest := ne_len e_aRest e_aOffAt (by decide)
  have n_aIsOff_aRest : aIsOff ≠ aRest := ne_len e_aRest e_aIsOff (by decide)
  have n_aAlone_aRest : aAlone ≠ aRest := ne_len e_aRest e_aAlone (by decide)
  have n_aKept_aRest : aKept ≠ aRest := ne_len e_aRest e_aKept (by decide)
  have n_y_aSize : y ≠ aSize := ne_ir e_aSize e_y
  have n_y_aBits : y ≠ aBits := ne_ir e_aBits e_y
  have n_y_aLayerSize : y ≠ aLayerSize := ne_ir e_aLayerSize e_y
  have n_y_aLayerCame : y ≠ aLayerCame := ne_ir e_aLayerCame e_y
  have n_aWorlds_aBits : aWorlds ≠ aBits := ne_len e_aBits e_aWorlds (by decide)
  have n_aWorlds_aLayerSize : aWorlds ≠ aLayerSize := ne_len e_aLayerSize e_aWorlds (by decide)
  have n_aWorlds_aLayerCame : aWorlds ≠ aLayerCame := ne_len e_aLayerCame e_aWorlds (by decide)
  have n_aInWorld_aBits : aInWorld ≠ aBits := ne_len e_aBits e_aInWorld (by decide)
  have n_aInWorld_aLayerSize : aInWorld ≠ aLayerSize := ne_len e_aLayerSize e_aInWorld (by decide)
  have n_aInWorld_aLayerCame : aInWorld ≠ aLayerCame := ne_len e_aLayerCame e_aInWorld (by decide)
  have n_aKind_aSize : aKind ≠ aSize := role_ne r_aSize r_aKind (by decide)
  have n_aKind_aBits : aKind ≠ aBits := ne_len e_aBits e_aKind (by decide)
  have n_aKind_aLayerSize : aKind ≠ aLayerSize := ne_len e_aLayerSize e_aKind (by decide)
  have n_aKind_aLayerCame : aKind ≠ aLayerCame := ne_len e_aLayerCame e_aKind (by decide)
  have n_aMarks_aSize : aMarks ≠ aSize := role_ne r_aSize r_aMarks (by decide)
  have n_aMarks_aBits : aMarks ≠ aBits := ne_len e_aBits e_aMarks (by decide)
  have n_aMarks_aLayerSize : aMarks ≠ aLayerSize := ne_len e_aLayerSize e_aMarks (by decide)
  have n_aMarks_aLayerCame : aMarks ≠ aLayerCame := ne_len e_aLayerCame e_aMarks (by decide)
  have n_aSeed_aSize : aSeed ≠ aSize := role_ne r_aSize r_aSeed (by decide)
  have n_aSeed_aBits : aSeed ≠ aBits := ne_len e_aBits e_aSeed (by decide)
  have n_aSeed_aLayerSize : aSeed ≠ aLayerSize := ne_len e_aLayerSize e_aSeed (by decide)
  have n_aSeed_aLayerCame : aSeed ≠ aLayerCame := ne_len e_aLayerCame e_aSeed (by decide)
  have n_aContents_aBits : aContents ≠ aBits := ne_len e_aBits e_aContents (by decide)
  have n_aContents_aLayerSize : aContents ≠ aLayerSize := ne_len e_aLayerSize e_aContents (by decide)
  have n_aContents_aLayerCame : aContents ≠ aLayerCame := ne_len e_aLayerCame e_aContents (by decide)
  have n_aContentMany_aSize : aContentMany ≠ aSize := role_ne r_aSize r_aContentMany (by decide)
  have n_aContentMany_aBits : aContentMany ≠ aBits := ne_len e_aBits e_aContentMany (by decide)
  have n_aContentMany_aLayerSize : aContentMany ≠ aLayerSize := ne_len e_aLayerSize e_aContentMany (by decide)
  have n_aContentMany_aLayerCame : aContentMany ≠ aLayerCame := ne_len e_aLayerCame e_aContentMany (by decide)
  have n_aRow_aSize : aRow ≠ aSize := ne_len e_aSize e_aRow (by decide)
  have n_aRow_aBits : aRow ≠ aBits := ne_len e_aBits e_aRow (by decide)
  have n_aRow_aLayerSize : aRow ≠ aLayerSize := ne_len e_aLayerSize e_aRow (by decide)
  have n_aRow_aLayerCame : aRow ≠ aLayerCame := ne_len e_aLayerCame e_aRow (by decide)
  have n_aRest_aBits : aRest ≠ aBits := ne_len e_aBits e_aRest (by decide)
  have n_aRest_aLayerSize : aRest ≠ aLayerSize := ne_len e_aLayerSize e_aRest (by decide)
  have n_aRest_aLayerCame : aRest ≠ aLayerCame := ne_len e_aLayerCame e_aRest (by decide)
  have n_aRestMany_aSize : aRestMany ≠ aSize := role_ne r_aSize r_aRestMany (by decide)
  have n_aRestMany_aBits : aRestMany ≠ aBits := ne_len e_aBits e_aRestMany (by decide)
  have n_aRestMany_aLayerSize : aRestMany ≠ aLayerSize := ne_len e_aLayerSize e_aRestMany (by decide)
  have n_aRestMany_aLayerCame : aRestMany ≠ aLayerCame := ne_len e_aLayerCame e_aRestMany (by decide)
  have n_aCome_aBits : aCome ≠ aBits := ne_len e_aBits e_aCome (by decide)
  have n_aCome_aLayerSize : aCome ≠ aLayerSize := ne_len e_aLayerSize e_aCome (by decide)
  have n_aCome_aLayerCame : aCome ≠ aLayerCame := ne_len e_aLayerCame e_aCome (by decide)
  have n_aRivals_aBits : aRivals ≠ aBits := ne_len e_aBits e_aRivals (by decide)
  have n_aRivals_aLayerSize : aRivals ≠ aLayerSize := ne_len e_aLayerSize e_aRivals (by decide)
  have n_aRivals_aLayerCame : aRivals ≠ aLayerCame := ne_len e_aLayerCame e_aRivals (by decide)
  have n_aGone_aBits : aGone ≠ aBits := ne_len e_aBits e_aGone (by decide)
  have n_aGone_aLayerSize : aGone ≠ aLayerSize := ne_len e_aLayerSize e_aGone (by decide)
  have n_aGone_aLayerCame : aGone ≠ aLayerCame := ne_len e_aLayerCame e_aGone (by decide)
  have n_aOrder_aBits : aOrder ≠ aBits := ne_len e_aBits e_aOrder (by decide)
  have n_aOrder_aLayerSize : aOrder ≠ aLayerSize := ne_len e_aLayerSize e_aOrder (by decide)
  have n_aOrder_aLayerCame : aOrder ≠ aLayerCame := ne_len e_aLayerCame e_aOrder (by decide)
  have n_aOffAt_aBits : aOffAt ≠ aBits := ne_len e_aBits e_aOffAt (by decide)
  have n_aOffAt_aLayerSize : aOffAt ≠ aLayerSize := ne_len e_aLayerSize e_aOffAt (by decide)
  have n_aOffAt_aLayerCame : aOffAt ≠ aLayerCame := ne_len e_aLayerCame e_aOffAt (by decide)
  have n_aIsOff_aBits : aIsOff ≠ aBits := ne_len e_aBits e_aIsOff (by decide)
  have n_aIsOff_aLayerSize : aIsOff ≠ aLayerSize := ne_len e_aLayerSize e_aIsOff (by decide)
  have n_aIsOff_aLayerCame : aIsOff ≠ aLayerCame := ne_len e_aLayerCame e_aIsOff (by decide)
  have n_aAlone_aBits : aAlone ≠ aBits := ne_len e_aBits e_aAlone (by decide)
  have n_aAlone_aLayerSize : aAlone ≠ aLayerSize := ne_len e_aLayerSize e_aAlone (by decide)
  have n_aAlone_aLayerCame : aAlone ≠ aLayerCame := ne_len e_aLayerCame e_aAlone (by decide)
  have n_aKept_aBits : aKept ≠ aBits := ne_len e_aBits e_aKept (by decide)
  have n_aKept_aLayerSize : aKept ≠ aLayerSize := ne_len e_aLayerSize e_aKept (by decide)
  have n_aKept_aLayerCame : aKept ≠ aLayerCame := ne_len e_aLayerCame e_aKept (by decide)
  have n_y_aCome : y ≠ aCome := ne_ir e_aCome e_y
  have n_aWorlds_aCome : aWorlds ≠ aCome := ne_len e_aCome e_aWorlds (by decide)
  have n_aInWorld_aCome : aInWorld ≠ aCome := ne_len e_aCome e_aInWorld (by decide)
  have n_aKind_aCome : aKind ≠ aCome := ne_len e_aCome e_aKind (by decide)
  have n_aSize_aCome : aSize ≠ aCome := ne_len e_aCome e_aSize (by decide)
  have n_aMarks_aCome : aMarks ≠ aCome := ne_len e_aCome e_aMarks (by decide)
  have n_aSeed_aCome : aSeed ≠ aCome := ne_len e_aCome e_aSeed (by decide)
  have n_aContents_aCome : aContents ≠ aCome := ne_len e_aCome e_aContents (by decide)
  have n_aContentMany_aCome : aContentMany ≠ aCome := ne_len e_aCome e_aContentMany (by decide)
  have n_aRow_aCome : aRow ≠ aCome := ne_len e_aCome e_aRow (by decide)
  have n_aBits_aCome : aBits ≠ aCome := ne_len e_aCome e_aBits (by decide)
  have n_aLayerSize_aCome : aLayerSize ≠ aCome := ne_len e_aCome e_aLayerSize (by decide)
  have n_aLayerCame_aCome : aLayerCame ≠ aCome := ne_len e_aCome e_aLayerCame (by decide)
  have n_aRest_aCome : aRest ≠ aCome := ne_len e_aCome e_aRest (by decide)
  have n_aRestMany_aCome : aRestMany ≠ aCome := ne_len e_aCome e_aRestMany (by decide)
  have n_aRivals_aCome : aRivals ≠ aCome := role_ne r_aCome r_aRivals (by decide)
  have n_aGone_aCome : aGone ≠ aCome := role_ne r_aCome r_aGone (by decide)
  have n_aOrder_aCome : aOrder ≠ aCome := ne_10 e_aCome e_aOrder
  have n_aOffAt_aCome : aOffAt ≠ aCome := ne_10 e_aCome e_aOffAt
  have n_aIsOff_aCome : aIsOff ≠ aCome := ne_10 e_aCome e_aIsOff
  have n_aAlone_aCome : aAlone ≠ aCome := ne_len e_aCome e_aAlone (by decide)
  have n_aKept_aCome : aKept ≠ aCome := ne_len e_aCome e_aKept (by decide)
  have n_y_aRivals : y ≠ aRivals := ne_ir e_aRivals e_y
  have n_aWorlds_aRivals : aWorlds ≠ aRivals := ne_len e_aRivals e_aWorlds (by decide)
  have n_aInWorld_aRivals : aInWorld ≠ aRivals := ne_len e_aRivals e_aInWorld (by decide)
  have n_aKind_aRivals : aKind ≠ aRivals := ne_len e_aRivals e_aKind (by decide)
  have n_aSize_aRivals : aSize ≠ aRivals := ne_len e_aRivals e_aSize (by decide)
  have n_aMarks_aRivals : aMarks ≠ aRivals := ne_len e_aRivals e_aMarks (by decide)
  have n_aSeed_aRivals : aSeed ≠ aRivals := ne_len e_aRivals e_aSeed (by decide)
  have n_aContents_aRivals : aContents ≠ aRivals := ne_len e_aRivals e_aContents (by decide)
  have n_aContentMany_aRivals : aContentMany ≠ aRivals := ne_len e_aRivals e_aContentMany (by decide)
  have n_aRow_aRivals : aRow ≠ aRivals := ne_len e_aRivals e_aRow (by decide)
  have n_aBits_aRivals : aBits ≠ aRivals := ne_len e_aRivals e_aBits (by decide)
  have n_aLayerSize_aRivals : aLayerSize ≠ aRivals := ne_len e_aRivals e_aLayerSize (by decide)
  have n_aLayerCame_aRivals : aLayerCame ≠ aRivals := ne_len e_aRivals e_aLayerCame (by decide)
  have n_aRest_aRivals : aRest ≠ aRivals := ne_len e_aRivals e_aRest (by decide)
  have n_aRestMany_aRivals : aRestMany ≠ aRivals := ne_len e_aRivals e_aRestMany (by decide)
  have n_aCome_aRivals : aCome ≠ aRivals := role_ne r_aRivals r_aCome (by decide)
  have n_aGone_aRivals : aGone ≠ aRivals := role_ne r_aRivals r_aGone (by decide)
  have n_aOrder_aRivals : aOrder ≠ aRivals := ne_10 e_aRivals e_aOrder
  have n_aOffAt_aRivals : aOffAt ≠ aRivals := ne_10 e_aRivals e_aOffAt
  have n_aIsOff_aRivals : aIsOff ≠ aRivals := ne_10 e_aRivals e_aIsOff
  have n_aAlone_aRivals : aAlone ≠ aRivals := ne_len e_aRivals e_aAlone (by decide)
  have n_aKept_aRivals : aKept ≠ aRivals := ne_len e_aRivals e_aKept (by decide)
  have n_y_aGone : y ≠ aGone := ne_ir e_aGone e_y
  have n_aWorlds_aGone : aWorlds ≠ aGone := ne_len e_aGone e_aWorlds (by decide)
  have n_aInWorld_aGone : aInWorld ≠ aGone := ne_len e_aGone e_aInWorld (by decide)
  have n_aKind_aGone : aKind ≠ aGone := ne_len e_aGone e_aKind (by decide)
  have n_aSize_aGone : aSize ≠ aGone := ne_len e_aGone e_aSize (by decide)
  have n_aMarks_aGone : aMarks ≠ aGone := ne_len e_aGone e_aMarks (by decide)
  have n_aSeed_aGone : aSeed ≠ aGone := ne_len e_aGone e_aSeed (by decide)
  have n_aContents_aGone : aContents ≠ aGone := ne_len e_aGone e_aContents (by decide)
  have n_aContentMany_aGone : aContentMany ≠ aGone := ne_len e_aGone e_aContentMany (by decide)
  have n_aRow_aGone : aRow ≠ aGone := ne_len e_aGone e_aRow (by decide)
  have n_aBits_aGone : aBits ≠ aGone := ne_len e_aGone e_aBits (by decide)
  have n_aLayerSize_aGone : aLayerSize ≠ aGone := ne_len e_aGone e_aLayerSize (by decide)
  have n_aLayerCame_aGone : aLayerCame ≠ aGone := ne_len e_aGone e_aLayerCame (by decide)
  have n_aRest_aGone : aRest ≠ aGone := ne_len e_aGone e_aRest (by decide)
  have n_aRestMany_aGone : aRestMany ≠ aGone := ne_len e_aGone e_aRestMany (by decide)
  have n_aCome_aGone : aCome ≠ aGone := role_ne r_aGone r_aCome (by decide)
  have n_aRivals_aGone : aRivals ≠ aGone := role_ne r_aGone r_aRivals (by decide)
  have n_aOrder_aGone : aOrder ≠ aGone := ne_10 e_aGone e_aOrder
  have n_aOffAt_aGone : aOffAt ≠ aGone := ne_10 e_aGone e_aOffAt
  have n_aIsOff_aGone : aIsOff ≠ aGone := ne_10 e_aGone e_aIsOff
  have n_aAlone_aGone : aAlone ≠ aGone := ne_len e_aGone e_aAlone (by decide)
  have n_aKept_aGone : aKept ≠ aGone := ne_len e_aGone e_aKept (by decide)
  have n_y_aRestMany : y ≠ aRestMany := ne_ir e_aRestMany e_y
  have n_aKind_aRestMany : aKind ≠ aRestMany := role_ne r_aRestMany r_aKind (by decide)
  have n_aSize_aRestMany : aSize ≠ aRestMany := role_ne r_aRestMany r_aSize (by decide)
  have n_aMarks_aRestMany : aMarks ≠ aRestMany := role_ne r_aRestMany r_aMarks (by decide)
  have n_aSeed_aRestMany : aSeed ≠ aRestMany := role_ne r_aRestMany r_aSeed (by decide)
  have n_aContentMany_aRestMany : aContentMany ≠ aRestMany := role_ne r_aRestMany r_aContentMany (by decide)
  have n_aRow_aRestMany : aRow ≠ aRestMany := ne_len e_aRestMany e_aRow (by decide)
  have fr : ∀ b, b ∈ L → b ≠ y → b ≠ aKind → b ≠ aSize → b ≠ aMarks → b ≠ aSeed → b ≠ aContents → b ≠ aContentMany → b ≠ aRow → b ≠ aBits → b ≠ aLayerSize → b ≠ aLayerCame → b ≠ aRest → b ≠ aRestMany → b ≠ aCome → b ≠ aRivals → b ≠ aGone → f b = f b := fun _ _ _ _ _ _ _ _ _ _ _ _ _ _ _ _ _ _ => rfl
  unfold mX9_layered at hM
  refine W_gen (fun QQ hQQ => ?_)
  refine lv_iload_n hx hb dX9_layered_0 rfl (lv_at hl 1 rfl) ?_
  obtain ⟨z1, hz1, hM⟩ := bind_some hM
  refine q_si (As := [.int wi]) (rest := []) ⟨hx, hb, hml, hown, hts⟩ (k_X9_isWorld l D g hz1) (va_cwS 1 hts gX9_layered_X9_isWorld rfl rfl rfl (by decide +kernel) ⟨Nat.le_of_ble_eq_true rfl, Nat.le_of_ble_eq_true rfl⟩) S rfl hl.1 rfl (Nat.le_of_ble_eq_true rfl) dX9_layered_1 ⟨Nat.le_of_ble_eq_true rfl, Nat.le_of_ble_eq_true rfl⟩ (fun r3 L1 f2 H locs S w1 => ?_)
  obtain ⟨ex1, eL, ef⟩ := w1
  rw [eL, ef] at S
  replace ex1 := ex1.symm
  subst ex1
  refine lv_if_eq (tgt := 14) hx hb dX9_layered_4 (by decide) (fun b4 => ?_) (fun b4 => ?_)
  · have hM := itT b4 hM
    refine lv_iconst (v := (-1 : Int32)) hx hb dX9_layered_14 (by decide) ?_
    subst hQQ
    exact q_reti (post := fun x L1 f1 => x = z.1 ∧ L1 = L ∧ (∀ b, b ∈ L → b ≠ y → b ≠ aKind → b ≠ aSize → b ≠ aMarks → b ≠ aSeed → b ≠ aContents → b ≠ aContentMany → b ≠ aRow → b ≠ aBits → b ≠ aLayerSize → b ≠ aLayerCame → b ≠ aRest → b ≠ aRestMany → b ≠ aCome → b ≠ aRivals → b ≠ aGone → f1 b = f b) ∧ f1 y = .inr (7, [.ref aWorlds, .ref aInWorld, .ref aKind, .ref aSize, .ref aMarks, .ref aSeed, .ref aContents, .ref aContentMany, .ref aRow, .ref aBits, .ref aLayerSize, .ref aLayerCame, .ref aRest, .ref aRestMany, .int z.2.1, .ref aCome, .ref aRivals, .ref aGone, .ref aOrder, .ref aOffAt, .ref aIsOff, .ref aAlone, .ref aKept]) ∧ f1 aKind = .inl (g 0, 30, .inl z.2.2.1) ∧ f1 aSize = .inl (g 0, 30, .inl z.2.2.2.1) ∧ f1 aMarks = .inl (g 0, 30, .inl z.2.2.2.2.1) ∧ f1 aSeed = .inl (g 0, 30, .inl z.2.2.2.2.2.1) ∧ f1 aContents = .inl (g 1, 30000, .inr (.inl z.2.2.2.2.2.2.1)) ∧ f1 aContentMany = .inl (g 0, 30, .inl z.2.2.2.2.2.2.2.1) ∧ f1 aRow = .inl (g 0, 122880, .inl z.2.2.2.2.2.2.2.2.1) ∧ f1 aBits = .inl (g 0, 76800, .inl z.2.2.2.2.2.2.2.2.2.1) ∧ f1 aLayerSize = .inl (g 0, 600, .inl z.2.2.2.2.2.2.2.2.2.2.1) ∧ f1 aLayerCame = .inl (g 0, 600, .inl z.2.2.2.2.2.2.2.2.2.2.2.1) ∧ f1 aRest = .inl (g 1, 30000, .inr (.inl z.2.2.2.2.2.2.2.2.2.2.2.2.1)) ∧ f1 aRestMany = .inl (g 0, 30, .inl z.2.2.2.2.2.2.2.2.2.2.2.2.2.1) ∧ f1 aCome = .inl (g 1, 1000, .inr (.inl z.2.2.2.2.2.2.2.2.2.2.2.2.2.2.1)) ∧ f1 aRivals = .inl (g 1, 1000, .inr (.inl z.2.2.2.2.2.2.2.2.2.2.2.2.2.2.2.1)) ∧ f1 aGone = .inl (g 1, 1000, .inr (.inl z.2.2.2.2.2.2.2.2.2.2.2.2.2.2.2.2))) hx hb hr hlk S dX9_layered_15 (by decide) (by decide) (by have hz := Option.some.inj hM; subst hz; exact ⟨rfl, rfl, fr, e_y, e_aKind, e_aSize, e_aMarks, e_aSeed, e_aContents, e_aContentMany, e_aRow, e_aBits, e_aLayerSize, e_aLayerCame, e_aRest, e_aRestMany, e_aCome, e_aRivals, e_aGone⟩)
  · have hM := itF b4 hM
    refine lv_iload_n hx hb dX9_layered_7 rfl (lv_at hl 2 rfl) ?_
    obtain ⟨z8, hz8, hM⟩ := bind_some hM
    refine q_si (As := [.int wa]) (rest := []) ⟨hx, hb, hml, hown, hts⟩ (k_X9_isWorld l D g hz8) (va_cwS 1 hts gX9_layered_X9_isWorld rfl rfl rfl (by decide +kernel) ⟨Nat.le_of_ble_eq_true rfl, Nat.le_of_ble_eq_true rfl⟩) S rfl hl.1 rfl (Nat.le_of_ble_eq_true rfl) dX9_layered_8 ⟨Nat.le_of_ble_eq_true rfl, Nat.le_of_ble_eq_true rfl⟩ (fun r6 L4 f5 H locs S w8 => ?_)
    obtain ⟨ex8, eL, ef⟩ := w8
    rw [eL, ef] at S
    replace ex8 := ex8.symm
    subst ex8
    refine lv_if_ne (tgt := 16) hx hb dX9_layered_11 (by decide) (fun b11 => ?_) (fun b11 => ?_)
    · have hM := itF b11 hM
      refine lv_aload_n hx hb dX9_layered_16 rfl (lv_at hl 0 rfl) ?_
      refine q_get hx hb hts in_X9 hown S m_y e_y (C := RX9) (T := TX9) (N := 23) rfl 14 (by decide) rfl (hts (.fieldLink RX9 88 "SieveCabinetModel" "many" "I") (by decide +kernel)) dX9_layered_17 ?_
      refine lv_bipush (v := (30 : Int32)) hx hb dX9_layered_20 (by decide) ?_
      refine lv_icmp_ne (tgt := 28) hx hb dX9_layered_22 (by decide) (fun b22 => ?_) (fun b22 => ?_)
      · have hM := itF b22 hM
        refine lv_aload_n hx hb dX9_layered_28 rfl (lv_at hl 0 rfl) ?_
        refine lv_iconst (v := (4 : Int32)) hx hb dX9_layered_29 (by decide) ?_
        refine lv_iconst (v := (0 : Int32)) hx hb dX9_layered_30 (by decide) ?_
        refine lv_iconst (v := (3 : Int32)) hx hb dX9_layered_31 (by decide) ?_
        refine lv_iload_n hx hb dX9_layered_32 rfl (lv_at hl 3 rfl) ?_
        obtain ⟨z33, hz33, hM⟩ := bind_some hM
        refine q_vi (As := [.int (4 : Int32), .int (0 : Int32), .int (3 : Int32), .int by_]) (rest := []) ⟨hx, hb, hml, hown, hts⟩ (k_X9_begin l D g m_y e_y m_aWorlds e_aWorlds m_aInWorld e_aInWorld m_aKind e_aKind m_aSize e_aSize m_aMarks e_aMarks m_aSeed e_aSeed m_aContents e_aContents m_aContentMany e_aContentMany m_aRow e_aRow m_aBits e_aBits m_aLayerSize e_aLayerSize m_aLayerCame e_aLayerCame m_aRest e_aRest m_aRestMany e_aRestMany m_aCome e_aCome m_aRivals e_aRivals m_aGone e_aGone m_aOrder e_aOrder m_aOffAt e_aOffAt m_aIsOff e_aIsOff m_aAlone e_aAlone m_aKept e_aKept r_aKind r_aSize r_aMarks r_aSeed r_aContentMany r_aRestMany hz33) (cwV 4 hts gX9_layered_X9_begin rfl rfl rfl (by decide +kernel) ⟨Nat.le_of_ble_eq_true rfl, Nat.le_of_ble_eq_true rfl⟩) S m_y e_y (T := TX9) (N := 23) rfl rfl hl.1 rfl (Nat.le_of_ble_eq_true rfl) dX9_layered_33 ⟨Nat.le_of_ble_eq_true rfl, Nat.le_of_ble_eq_true rfl⟩ (fun r9 L7 f8 H locs S w33 => ?_)
        obtain ⟨ex33, eL, fv33, E_y, E_aKind, E_aSize, E_aMarks, E_aSeed, E_aContentMany, E_aRow, E_aRestMany⟩ := w33
        rw [eL] at S
        have fr : ∀ b, b ∈ L → b ≠ y → b ≠ aKind → b ≠ aSize → b ≠ aMarks → b ≠ aSeed → b ≠ aContents → b ≠ aContentMany → b ≠ aRow → b ≠ aBits → b ≠ aLayerSize → b ≠ aLayerCame → b ≠ aRest → b ≠ aRestMany → b ≠ aCome → b ≠ aRivals → b ≠ aGone → f8 b = f b := fun b mb nb0 nb1 nb2 nb3 nb4 nb5 nb6 nb7 nb8 nb9 nb10 nb11 nb12 nb13 nb14 nb15 => (fv33 b mb nb0 nb1 nb2 nb3 nb4 nb6 nb7 nb12).trans (fr b mb nb0 nb1 nb2 nb3 nb4 nb5 nb6 nb7 nb8 nb9 nb10 nb11 nb12 nb13 nb14 nb15)
        have e_y : f8 y = .inr (7, [.ref aWorlds, .ref aInWorld, .ref aKind, .ref aSize, .ref aMarks, .ref aSeed, .ref aContents, .ref aContentMany, .ref aRow, .ref aBits, .ref aLayerSize, .ref aLayerCame, .ref aRest, .ref aRestMany, .int z33.2.1, .ref aCome, .ref aRivals, .ref aGone, .ref aOrder, .ref aOffAt, .ref aIsOff, .ref aAlone, .ref aKept]) := E_y
        have e_aKind : f8 aKind = .inl (g 0, 30, .inl z33.2.2.1) := E_aKind
        have e_aSize : f8 aSize = .inl (g 0, 30, .inl z33.2.2.2.1) := E_aSize
        have e_aMarks : f8 aMarks = .inl (g 0, 30, .inl z33.2.2.2.2.1) := E_aMarks
        have e_aSeed : f8 aSeed = .inl (g 0, 30, .inl z33.2.2.2.2.2.1) := E_aSeed
        have e_aContentMany : f8 aContentMany = .inl (g 0, 30, .inl z33.2.2.2.2.2.2.1) := E_aContentMany
        have e_aRow : f8 aRow = .inl (g 0, 122880, .inl z33.2.2.2.2.2.2.2.1) := E_aRow
        have e_aRestMany : f8 aRestMany = .inl (g 0, 30, .inl z33.2.2.2.2.2.2.2.2) := E_aRestMany
        replace ex33 := ex33.symm
        subst ex33
        refine lv_istore (lv' := [(4, .int z33.1), (0, .ref y), (1, .int wi), (2, .int wa), (3, .int by_)]) hx hb dX9_layered_36 hl (by decide) rfl (fun ls hl => ?_)
        refine lv_aload_n hx hb dX9_layered_38 rfl (lv_at hl 1 rfl) ?_
        refine lv_iload hx hb dX9_layered_39 (lv_at hl 0 rfl) ?_
        refine lv_iload_n hx hb dX9_layered_41 rfl (lv_at hl 2 rfl) ?_
        obtain ⟨z42, hz42, hM⟩ := bind_some hM
        have e_aWorlds := ((fv33 aWorlds m_aWorlds n_aWorlds_y n_aWorlds_aKind n_aWorlds_aSize n_aWorlds_aMarks n_aWorlds_aSeed n_aWorlds_aContentMany n_aWorlds_aRow n_aWorlds_aRestMany).trans e_aWorlds)
        have e_aInWorld := ((fv33 aInWorld m_aInWorld n_aInWorld_y n_aInWorld_aKind n_aInWorld_aSize n_aInWorld_aMarks n_aInWorld_aSeed n_aInWorld_aContentMany n_aInWorld_aRow n_aInWorld_aRestMany).trans e_aInWorld)
        have e_aContents := ((fv33 aContents m_aContents n_aContents_y n_aContents_aKind n_aContents_aSize n_aContents_aMarks n_aContents_aSeed n_aContents_aContentMany n_aContents_aRow n_aContents_aRestMany).trans e_aContents)
        have e_aBits := ((fv33 aBits m_aBits n_aBits_y n_aBits_aKind n_aBits_aSize n_aBits_aMarks n_aBits_aSeed n_aBits_aContentMany n_aBits_aRow n_aBits_aRestMany).trans e_aBits)
        have e_aLayerSize := ((fv33 aLayerSize m_aLayerSize n_aLayerSize_y n_aLayerSize_aKind n_aLayerSize_aSize n_aLayerSize_aMarks n_aLayerSize_aSeed n_aLayerSize_aContentMany n_aLayerSize_aRow n_aLayerSize_aRestMany).trans e_aLayerSize)
        have e_aLayerCame := ((fv33 aLayerCame m_aLayerCame n_aLayerCame_y n_aLayerCame_aKind n_aLayerCame_aSize n_aLayerCame_aMarks n_aLayerCame_aSeed n_aLayerCame_aContentMany n_aLayerCame_aRow n_aLayerCame_aRestMany).trans e_aLayerCame)
        have e_aRest := ((fv33 aRest m_aRest n_aRest_y n_aRest_aKind n_aRest_aSize n_aRest_aMarks n_aRest_aSeed n_aRest_aContentMany n_aRest_aRow n_aRest_aRestMany).trans e_aRest)
        have e_aCome := ((fv33 aCome m_aCome n_aCome_y n_aCome_aKind n_aCome_aSize n_aCome_aMarks n_aCome_aSeed n_aCome_aContentMany n_aCome_aRow n_aCome_aRestMany).trans e_aCome)
        have e_aRivals := ((fv33 aRivals m_aRivals n_aRivals_y n_aRivals_aKind n_aRivals_aSize n_aRivals_aMarks n_aRivals_aSeed n_aRivals_aContentMany n_aRivals_aRow n_aRivals_aRestMany).trans e_aRivals)
        have e_aGone := ((fv33 aGone m_aGone n_aGone_y n_aGone_aKind n_aGone_aSize n_aGone_aMarks n_aGone_aSeed n_aGone_aContentMany n_aGone_aRow n_aGone_aRestMany).trans e_aGone)
        have e_aOrder := ((fv33 aOrder m_aOrder n_aOrder_y n_aOrder_aKind n_aOrder_aSize n_aOrder_aMarks n_aOrder_aSeed n_aOrder_aContentMany n_aOrder_aRow n_aOrder_aRestMany).trans e_aOrder)
        have e_aOffAt := ((fv33 aOffAt m_aOffAt n_aOffAt_y n_aOffAt_aKind n_aOffAt_aSize n_aOffAt_aMarks n_aOffAt_aSeed n_aOffAt_aContentMany n_aOffAt_aRow n_aOffAt_aRestMany).trans e_aOffAt)
        have e_aIsOff := ((fv33 aIsOff m_aIsOff n_aIsOff_y n_aIsOff_aKind n_aIsOff_aSize n_aIsOff_aMarks n_aIsOff_aSeed n_aIsOff_aContentMany n_aIsOff_aRow n_aIsOff_aRestMany).trans e_aIsOff)
        have e_aAlone := ((fv33 aAlone m_aAlone n_aAlone_y n_aAlone_aKind n_aAlone_aSize n_aAlone_aMarks n_aAlone_aSeed n_aAlone_aContentMany n_aAlone_aRow n_aAlone_aRestMany).trans e_aAlone)
        have e_aKept := ((fv33 aKept m_aKept n_aKept_y n_aKept_aKind n_aKept_aSize n_aKept_aMarks n_aKept_aSeed n_aKept_aContentMany n_aKept_aRow n_aKept_aRestMany).trans e_aKept)
        refine q_vv (As := [.int z33.1, .int wi]) (rest := []) ⟨hx, hb, hml, hown, hts⟩ (k_X9_fillFrom l D g m_y e_y m_aWorlds e_aWorlds m_aInWorld e_aInWorld m_aKind e_aKind m_aSize e_aSize m_aMarks e_aMarks m_aSeed e_aSeed m_aContents e_aContents m_aContentMany e_aContentMany m_aRow e_aRow m_aBits e_aBits m_aLayerSize e_aLayerSize m_aLayerCame e_aLayerCame m_aRest e_aRest m_aRestMany e_aRestMany m_aCome e_aCome m_aRivals e_aRivals m_aGone e_aGone m_aOrder e_aOrder m_aOffAt e_aOffAt m_aIsOff e_aIsOff m_aAlone e_aAlone m_aKept e_aKept r_aKind r_aSize r_aMarks r_aSeed r_aContents r_aContentMany r_aRest r_aRestMany hz42) (cwV 2 hts gX9_layered_X9_fillFrom rfl rfl rfl (by decide +kernel) ⟨Nat.le_of_ble_eq_true rfl, Nat.le_of_ble_eq_true rfl⟩) S m_y e_y (T := TX9) (N := 23) rfl rfl hl.1 rfl (Nat.le_of_ble_eq_true rfl) dX9_layered_42 ⟨Nat.le_of_ble_eq_true rfl, Nat.le_of_ble_eq_true rfl⟩ (fun L10 f11 H locs S w42 => ?_)
        obtain ⟨eL, fv42, E_aContents, E_aContentMany⟩ := w42
        rw [eL] at S
        have fr : ∀ b, b ∈ L → b ≠ y → b ≠ aKind → b ≠ aSize → b ≠ aMarks → b ≠ aSeed → b ≠ aContents → b ≠ aContentMany → b ≠ aRow → b ≠ aBits → b ≠ aLayerSize → b ≠ aLayerCame → b ≠ aRest → b ≠ aRestMany → b ≠ aCome → b ≠ aRivals → b ≠ aGone → f11 b = f b := fun b mb nb0 nb1 nb2 nb3 nb4 nb5 nb6 nb7 nb8 nb9 nb10 nb11 nb12 nb13 nb14 nb15 => (fv42 b mb nb5 nb6).trans (fr b mb nb0 nb1 nb2 nb3 nb4 nb5 nb6 nb7 nb8 nb9 nb10 nb11 nb12 nb13 nb14 nb15)
        have e_aContents : f11 aContents = .inl (g 1, 30000, .inr (.inl z42.1)) := E_aContents
        have e_aContentMany : f11 aContentMany = .inl (g 0, 30, .inl z42.2) := E_aContentMany
        refine lv_aload_n hx hb dX9_layered_45 rfl (lv_at hl 1 rfl) ?_
        have e_y := ((fv42 y m_y n_y_aContents n_y_aContentMany).trans e_y)
        refine q_get hx hb hts in_X9 hown S m_y e_y (C := RX9) (T := TX9) (N := 23) rfl 1 (by decide) rfl (hts (.fieldLink RX9 13 "SieveCabinetModel" "inWorld" "[I") (by decide +kernel)) dX9_layered_46 ?_
        refine lv_iload_n hx hb dX9_layered_49 rfl (lv_at hl 2 rfl) ?_
        obtain ⟨hi50, hM⟩ := ckx hM
        have e_aInWorld := ((fv42 aInWorld m_aInWorld n_aInWorld_aContents n_aInWorld_aContentMany).trans e_aInWorld)
        refine q_iald hx hb S m_aInWorld e_aInWorld hi50 dX9_layered_50 ?_
        refine lv_istore (lv' := [(5, .int (vInWorld (Int32.toNatClampNeg wi))), (4, .int z33.1), (0, .ref y), (1, .int wi), (2, .int wa), (3, .int by_)]) hx hb dX9_layered_51 hl (by decide) rfl (fun ls hl => ?_)
        refine lv_iconst (v := (0 : Int32)) hx hb dX9_layered_53 (by decide) ?_
        refine lv_istore (lv' := [(6, .int (0 : Int32)), (5, .int (vInWorld (Int32.toNatClampNeg wi))), (4, .int z33.1), (0, .ref y), (1, .int wi), (2, .int wa), (3, .int by_)]) hx hb dX9_layered_54 hl (by decide) rfl (fun ls hl => ?_)
        refine lv_iconst (v := (0 : Int32)) hx hb dX9_layered_56 (by decide) ?_
        refine lv_istore (lv' := [(7, .int (0 : Int32)), (6, .int (0 : Int32)), (5, .int (vInWorld (Int32.toNatClampNeg wi))), (4, .int z33.1), (0, .ref y), (1, .int wi), (2, .int wa), (3, .int by_)]) hx hb dX9_layered_57 hl (by decide) rfl (fun ls hl => ?_)
        have e_aWorlds := ((fv42 aWorlds m_aWorlds n_aWorlds_aContents n_aWorlds_aContentMany).trans e_aWorlds)
        have e_aKind := ((fv42 aKind m_aKind n_aKind_aContents n_aKind_aContentMany).trans e_aKind)
        have e_aSize := ((fv42 aSize m_aSize n_aSize_aContents n_aSize_aContentMany).trans e_aSize)
        have e_aMarks := ((fv42 aMarks m_aMarks n_aMarks_aContents n_aMarks_aContentMany).trans e_aMarks)
        have e_aSeed := ((fv42 aSeed m_aSeed n_aSeed_aContents n_aSeed_aContentMany).trans e_aSeed)
        have e_aRow := ((fv42 aRow m_aRow n_aRow_aContents n_aRow_aContentMany).trans e_aRow)
        have e_aBits := ((fv42 aBits m_aBits n_aBits_aContents n_aBits_aContentMany).trans e_aBits)
        have e_aLayerSize := ((fv42 aLayerSize m_aLayerSize n_aLayerSize_aContents n_aLayerSize_aContentMany).trans e_aLayerSize)
        have e_aLayerCame := ((fv42 aLayerCame m_aLayerCame n_aLayerCame_aContents n_aLayerCame_aContentMany).trans e_aLayerCame)
        have e_aRest := ((fv42 aRest m_aRest n_aRest_aContents n_aRest_aContentMany).trans e_aRest)
        have e_aRestMany := ((fv42 aRestMany m_aRestMany n_aRestMany_aContents n_aRestMany_aContentMany).trans e_aRestMany)
        have e_aCome := ((fv42 aCome m_aCome n_aCome_aContents n_aCome_aContentMany).trans e_aCome)
        have e_aRivals := ((fv42 aRivals m_aRivals n_aRivals_aContents n_aRivals_aContentMany).trans e_aRivals)
        have e_aGone := ((fv42 aGone m_aGone n_aGone_aContents n_aGone_aContentMany).trans e_aGone)
        have e_aOrder := ((fv42 aOrder m_aOrder n_aOrder_aContents n_aOrder_aContentMany).trans e_aOrder)
        have e_aOffAt := ((fv42 aOffAt m_aOffAt n_aOffAt_aContents n_aOffAt_aContentMany).trans e_aOffAt)
        have e_aIsOff := ((fv42 aIsOff m_aIsOff n_aIsOff_aContents n_aIsOff_aContentMany).trans e_aIsOff)
        have e_aAlone := ((fv42 aAlone m_aAlone n_aAlone_aContents n_aAlone_aContentMany).trans e_aAlone)
        have e_aKept := ((fv42 aKept m_aKept n_aKept_aContents n_aKept_aContentMany).trans e_aKept)
        obtain ⟨o59, ho59, hM⟩ := bind_some hM
        have EX59 : ∀ (fl59 : Nat → va_E) (H : Heap) (locs : List Loc) (ls : Array Slot), PS D g (va_A (va_pl L f) szz) s.heap s L fl59 H locs → fl59 y = .inr (7, [.ref aWorlds, .ref aInWorld, .ref aKind, .ref aSize, .ref aMarks, .ref aSeed, .ref aContents, .ref aContentMany, .ref aRow, .ref aBits, .ref aLayerSize, .ref aLayerCame, .ref aRest, .ref aRestMany, .int z33.2.1, .ref aCome, .ref aRivals, .ref aGone, .ref aOrder, .ref aOffAt, .ref aIsOff, .ref aAlone, .ref aKept]) → fl59 aWorlds = .inl (g 1, 8000, .inr (.inl vWorlds)) → fl59 aInWorld = .inl (g 0, 8, .inl vInWorld) → fl59 aKind = .inl (g 0, 30, .inl z33.2.2.1) → fl59 aSize = .inl (g 0, 30, .inl z33.2.2.2.1) → fl59 aMarks = .inl (g 0, 30, .inl z33.2.2.2.2.1) → fl59 aSeed = .inl (g 0, 30, .inl z33.2.2.2.2.2.1) → fl59 aContents = .inl (g 1, 30000, .inr (.inl z42.1)) → fl59 aContentMany = .inl (g 0, 30, .inl z42.2) → fl59 aRow = .inl (g 0, 122880, .inl z33.2.2.2.2.2.2.2.1) → fl59 aBits = .inl (g 0, 76800, .inl vBits) → fl59 aLayerSize = .inl (g 0, 600, .inl vLayerSize) → fl59 aLayerCame = .inl (g 0, 600, .inl vLayerCame) → fl59 aRest = .inl (g 1, 30000, .inr (.inl vRest)) → fl59 aRestMany = .inl (g 0, 30, .inl z33.2.2.2.2.2.2.2.2) → fl59 aCome = .inl (g 1, 1000, .inr (.inl o59.2)) → fl59 aRivals = .inl (g 1, 1000, .inr (.inl vRivals)) → fl59 aGone = .inl (g 1, 1000, .inr (.inl vGone)) → fl59 aOrder = .inl (g 0, 1000, .inl vOrder) → fl59 aOffAt = .inl (g 0, 1000, .inl vOffAt) → fl59 aIsOff = .inl (g 2, 1000, .inl vIsOff) → fl59 aAlone = .inl (g 0, 4096, .inl vAlone) → fl59 aKept = .inl (g 0, 4096, .inl vKept) → (∀ b, b ∈ L → b ≠ y → b ≠ aKind → b ≠ aSize → b ≠ aMarks → b ≠ aSeed → b ≠ aContents → b ≠ aContentMany → b ≠ aRow → b ≠ aBits → b ≠ aLayerSize → b ≠ aLayerCame → b ≠ aRest → b ≠ aRestMany → b ≠ aCome → b ≠ aRivals → b ≠ aGone → fl59 b = f b) → lv_has ls 11 [(6, .int (0 : Int32)), (5, .int (vInWorld (Int32.toNatClampNeg wi))), (4, .int z33.1), (0, .ref y), (1, .int wi), (2, .int wa)] → W p l e { frames := 2, cells := 0, slots := 0, locals := 57 } s m [.ref y, .int wi, .int wa, .int by_].toArray below meth c H locs 0 0 QQ (F0 m 92 ls []) := by
          intro fl59 H locs ls S e_y e_aWorlds e_aInWorld e_aKind e_aSize e_aMarks e_aSeed e_aContents e_aContentMany e_aRow e_aBits e_aLayerSize e_aLayerCame e_aRest e_aRestMany e_aCome e_aRivals e_aGone e_aOrder e_aOffAt e_aIsOff e_aAlone e_aKept fr hl
          refine lv_iconst (v := (0 : Int32)) hx hb dX9_layered_92 (by decide) ?_
          refine lv_istore (lv' := [(7, .int (0 : Int32)), (6, .int (0 : Int32)), (5, .int (vInWorld (Int32.toNatClampNeg wi))), (4, .int z33.1), (0, .ref y), (1, .int wi), (2, .int wa)]) hx hb dX9_layered_93 hl (by decide) rfl (fun ls hl => ?_)
          obtain ⟨o95, ho95, hM⟩ := bind_some hM
          have EX95 : ∀ (fl95 : Nat → va_E) (H : Heap) (locs : List Loc) (ls : Array Slot), PS D g (va_A (va_pl L f) szz) s.heap s L fl95 H locs → fl95 y = .inr (7, [.ref aWorlds, .ref aInWorld, .ref aKind, .ref aSize, .ref aMarks, .ref aSeed, .ref aContents, .ref aContentMany, .ref aRow, .ref aBits, .ref aLayerSize, .ref aLayerCame, .ref aRest, .ref aRestMany, .int z33.2.1, .ref aCome, .ref aRivals, .ref aGone, .ref aOrder, .ref aOffAt, .ref aIsOff, .ref aAlone, .ref aKept]) → fl95 aWorlds = .inl (g 1, 8000, .inr (.inl vWorlds)) → fl95 aInWorld = .inl (g 0, 8, .inl vInWorld) → fl95 aKind = .inl (g 0, 30, .inl z33.2.2.1) → fl95 aSize = .inl (g 0, 30, .inl z33.2.2.2.1) → fl95 aMarks = .inl (g 0, 30, .inl z33.2.2.2.2.1) → fl95 aSeed = .inl (g 0, 30, .inl z33.2.2.2.2.2.1) → fl95 aContents = .inl (g 1, 30000, .inr (.inl z42.1)) → fl95 aContentMany = .inl (g 0, 30, .inl z42.2) → fl95 aRow = .inl (g 0, 122880, .inl z33.2.2.2.2.2.2.2.1) → fl95 aBits = .inl (g 0, 76800, .inl vBits) → fl95 aLayerSize = .inl (g 0, 600, .inl vLayerSize) → fl95 aLayerCame = .inl (g 0, 600, .inl vLayerCame) → fl95 aRest = .inl (g 1, 30000, .inr (.inl vRest)) → fl95 aRestMany = .inl (g 0, 30, .inl z33.2.2.2.2.2.2.2.2) → fl95 aCome = .inl (g 1, 1000, .inr (.inl o59.2)) → fl95 aRivals = .inl (g 1, 1000, .inr (.inl o95.2.2)) → fl95 aGone = .inl (g 1, 1000, .inr (.inl vGone)) → fl95 aOrder = .inl (g 0, 1000, .inl vOrder) → fl95 aOffAt = .inl (g 0, 1000, .inl vOffAt) → fl95 aIsOff = .inl (g 2, 1000, .inl vIsOff) → fl95 aAlone = .inl (g 0, 4096, .inl vAlone) → fl95 aKept = .inl (g 0, 4096, .inl vKept) → (∀ b, b ∈ L → b ≠ y → b ≠ aKind → b ≠ aSize → b ≠ aMarks → b ≠ aSeed → b ≠ aContents → b ≠ aContentMany → b ≠ aRow → b ≠ aBits → b ≠ aLayerSize → b ≠ aLayerCame → b ≠ aRest → b ≠ aRestMany → b ≠ aCome → b ≠ aRivals → b ≠ aGone → fl95 b = f b) → lv_has ls 11 [(6, .int o95.2.1), (5, .int (vInWorld (Int32.toNatClampNeg wi))), (4, .int z33.1), (0, .ref y)] → W p l e { frames := 2, cells := 0, slots := 0, locals := 57 } s m [.ref y, .int wi, .int wa, .int by_].toArray below meth c H locs 0 0 QQ (F0 m 156 ls []) := by
            intro fl95 H locs ls S e_y e_aWorlds e_aInWorld e_aKind e_aSize e_aMarks e_aSeed e_aContents e_aContentMany e_aRow e_aBits e_aLayerSize e_aLayerCame e_aRest e_aRestMany e_aCome e_aRivals e_aGone e_aOrder e_aOffAt e_aIsOff e_aAlone e_aKept fr hl
            refine lv_iconst (v := (1 : Int32)) hx hb dX9_layered_156 (by decide) ?_
            refine lv_istore (lv' := [(7, .int (1 : Int32)), (6, .int o95.2.1), (5, .int (vInWorld (Int32.toNatClampNeg wi))), (4, .int z33.1), (0, .ref y)]) hx hb dX9_layered_157 hl (by decide) rfl (fun ls hl => ?_)
            refine lv_iconst (v := (0 : Int32)) hx hb dX9_layered_159 (by decide) ?_
            refine lv_istore (lv' := [(8, .int (0 : Int32)), (7, .int (1 : Int32)), (6, .int o95.2.1), (5, .int (vInWorld (Int32.toNatClampNeg wi))), (4, .int z33.1), (0, .ref y)]) hx hb dX9_layered_160 hl (by decide) rfl (fun ls hl => ?_)
            obtain ⟨o162, ho162, hM⟩ := bind_some hM
            have EX162 : ∀ (fl162 : Nat → va_E) (H : Heap) (locs : List Loc) (ls : Array Slot), PS D g (va_A (va_pl L f) szz) s.heap s L fl162 H locs → fl162 y = .inr (7, [.ref aWorlds, .ref aInWorld, .ref aKind, .ref aSize, .ref aMarks, .ref aSeed, .ref aContents, .ref aContentMany, .ref aRow, .ref aBits, .ref aLayerSize, .ref aLayerCame, .ref aRest, .ref aRestMany, .int z33.2.1, .ref aCome, .ref aRivals, .ref aGone, .ref aOrder, .ref aOffAt, .ref aIsOff, .ref aAlone, .ref aKept]) → fl162 aWorlds = .inl (g 1, 8000, .inr (.inl vWorlds)) → fl162 aInWorld = .inl (g 0, 8, .inl vInWorld) → fl162 aKind = .inl (g 0, 30, .inl z33.2.2.1) → fl162 aSize = .inl (g 0, 30, .inl o162.2.2.2.2.1) → fl162 aMarks = .inl (g 0, 30, .inl z33.2.2.2.2.1) → fl162 aSeed = .inl (g 0, 30, .inl z33.2.2.2.2.2.1) → fl162 aContents = .inl (g 1, 30000, .inr (.inl z42.1)) → fl162 aContentMany = .inl (g 0, 30, .inl z42.2) → fl162 aRow = .inl (g 0, 122880, .inl z33.2.2.2.2.2.2.2.1) → fl162 aBits = .inl (g 0, 76800, .inl o162.2.2.2.2.2.1) → fl162 aLayerSize = .inl (g 0, 600, .inl o162.2.2.2.2.2.2.1) → fl162 aLayerCame = .inl (g 0, 600, .inl o162.2.2.2.2.2.2.2.1) → fl162 aRest = .inl (g 1, 30000, .inr (.inl o162.2.2.2.2.2.2.2.2.1)) → fl162 aRestMany = .inl (g 0, 30, .inl o162.2.2.2.2.2.2.2.2.2.1) → fl162 aCome = .inl (g 1, 1000, .inr (.inl o162.2.2.2.2.2.2.2.2.2.2.1)) → fl162 aRivals = .inl (g 1, 1000, .inr (.inl o162.2.2.2.2.2.2.2.2.2.2.2.1)) → fl162 aGone = .inl (g 1, 1000, .inr (.inl o162.2.2.2.2.2.2.2.2.2.2.2.2)) → fl162 aOrder = .inl (g 0, 1000, .inl vOrder) → fl162 aOffAt = .inl (g 0, 1000, .inl vOffAt) → fl162 aIsOff = .inl (g 2, 1000, .inl vIsOff) → fl162 aAlone = .inl (g 0, 4096, .inl vAlone) → fl162 aKept = .inl (g 0, 4096, .inl vKept) → (∀ b, b ∈ L → b ≠ y → b ≠ aKind → b ≠ aSize → b ≠ aMarks → b ≠ aSeed → b ≠ aContents → b ≠ aContentMany → b ≠ aRow → b ≠ aBits → b ≠ aLayerSize → b ≠ aLayerCame → b ≠ aRest → b ≠ aRestMany → b ≠ aCome → b ≠ aRivals → b ≠ aGone → fl162 b = f b) → lv_has ls 11 [(4, .int z33.1)] → W p l e { frames := 2, cells := 0, slots := 0, locals := 57 } s m [.ref y, .int wi, .int wa, .int by_].toArray below meth c H locs 0 0 QQ (F0 m 402 ls []) := by
              intro fl162 H locs ls S e_y e_aWorlds e_aInWorld e_aKind e_aSize e_aMarks e_aSeed e_aContents e_aContentMany e_aRow e_aBits e_aLayerSize e_aLayerCame e_aRest e_aRestMany e_aCome e_aRivals e_aGone e_aOrder e_aOffAt e_aIsOff e_aAlone e_aKept fr hl
              refine lv_iload hx hb dX9_layered_402 (lv_at hl 0 rfl) ?_
              subst hQQ
              exact q_reti (post := fun x L1 f1 => x = z.1 ∧ L1 = L ∧ (∀ b, b ∈ L → b ≠ y → b ≠ aKind → b ≠ aSize → b ≠ aMarks → b ≠ aSeed → b ≠ aContents → b ≠ aContentMany → b ≠ aRow → b ≠ aBits → b ≠ aLayerSize → b ≠ aLayerCame → b ≠ aRest → b ≠ aRestMany → b ≠ aCome → b ≠ aRivals → b ≠ aGone → f1 b = f b) ∧ f1 y = .inr (7, [.ref aWorlds, .ref aInWorld, .ref aKind, .ref aSize, .ref aMarks, .ref aSeed, .ref aContents, .ref aContentMany, .ref aRow, .ref aBits, .ref aLayerSize, .ref aLayerCame, .ref aRest, .ref aRestMany, .int z.2.1, .ref aCome, .ref aRivals, .ref aGone, .ref aOrder, .ref aOffAt, .ref aIsOff, .ref aAlone, .ref aKept]) ∧ f1 aKind = .inl (g 0, 30, .inl z.2.2.1) ∧ f1 aSize = .inl (g 0, 30, .inl z.2.2.2.1) ∧ f1 aMarks = .inl (g 0, 30, .inl z.2.2.2.2.1) ∧ f1 aSeed = .inl (g 0, 30, .inl z.2.2.2.2.2.1) ∧ f1 aContents = .inl (g 1, 30000, .inr (.inl z.2.2.2.2.2.2.1)) ∧ f1 aContentMany = .inl (g 0, 30, .inl z.2.2.2.2.2.2.2.1) ∧ f1 aRow = .inl (g 0, 122880, .inl z.2.2.2.2.2.2.2.2.1) ∧ f1 aBits = .inl (g 0, 76800, .inl z.2.2.2.2.2.2.2.2.2.1) ∧ f1 aLayerSize = .inl (g 0, 600, .inl z.2.2.2.2.2.2.2.2.2.2.1) ∧ f1 aLayerCame = .inl (g 0, 600, .inl z.2.2.2.2.2.2.2.2.2.2.2.1) ∧ f1 aRest = .inl (g 1, 30000, .inr (.inl z.2.2.2.2.2.2.2.2.2.2.2.2.1)) ∧ f1 aRestMany = .inl (g 0, 30, .inl z.2.2.2.2.2.2.2.2.2.2.2.2.2.1) ∧ f1 aCome = .inl (g 1, 1000, .inr (.inl z.2.2.2.2.2.2.2.2.2.2.2.2.2.2.1)) ∧ f1 aRivals = .inl (g 1, 1000, .inr (.inl z.2.2.2.2.2.2.2.2.2.2.2.2.2.2.2.1)) ∧ f1 aGone = .inl (g 1, 1000, .inr (.inl z.2.2.2.2.2.2.2.2.2.2.2.2.2.2.2.2))) hx hb hr hlk S dX9_layered_404 (by decide) (by decide) (by have hz := Option.some.inj hM; subst hz; exact ⟨rfl, rfl, fr, e_y, e_aKind, e_aSize, e_aMarks, e_aSeed, e_aContents, e_aContentMany, e_aRow, e_aBits, e_aLayerSize, e_aLayerCame, e_aRest, e_aRestMany, e_aCome, e_aRivals, e_aGone⟩)
            have LP162 : ∀ (fu : Nat) (x8_162 : Int32) (x7_162 : Int32) (x6_162 : Int32) (x5_162 : Int32) (caSize_162 : Nat → Int32) (caBits_162 : Nat → Int32) (caLayerSize_162 : Nat → Int32) (caLayerCame_162 : Nat → Int32) (caRest_162 : Nat → Int64) (caRestMany_162 : Nat → Int32) (caCome_162 : Nat → Int64) (caRivals_162 : Nat → Int64) (caGone_162 : Nat → Int64) (fl162 : Nat → va_E) (H : Heap) (locs : List Loc) (ls : Array Slot), (mX9_layered_L162 z33) fu x8_162 x7_162 x6_162 x5_162 caSize_162 caBits_162 caLayerSize_162 caLayerCame_162 caRest_162 caRestMany_162 caCome_162 caRivals_162 caGone_162 = some o162 → PS D g (va_A (va_pl L f) szz) s.heap s L fl162 H locs → fl162 y = .inr (7, [.ref aWorlds, .ref aInWorld, .ref aKind, .ref aSize, .ref aMarks, .ref aSeed, .ref aContents, .ref aContentMany, .ref aRow, .ref aBits, .ref aLayerSize, .ref aLayerCame, .ref aRest, .ref aRestMany, .int z33.2.1, .ref aCome, .ref aRivals, .ref aGone, .ref aOrder, .ref aOffAt, .ref aIsOff, .ref aAlone, .ref aKept]) → fl162 aWorlds = .inl (g 1, 8000, .inr (.inl vWorlds)) → fl162 aInWorld = .inl (g 0, 8, .inl vInWorld) → fl162 aKind = .inl (g 0, 30, .inl z33.2.2.1) → fl162 aSize = .inl (g 0, 30, .inl caSize_162) → fl162 aMarks = .inl (g 0, 30, .inl z33.2.2.2.2.1) → fl162 aSeed = .inl (g 0, 30, .inl z33.2.2.2.2.2.1) → fl162 aContents = .inl (g 1, 30000, .inr (.inl z42.1)) → fl162 aContentMany = .inl (g 0, 30, .inl z42.2) → fl162 aRow = .inl (g 0, 122880, .inl z33.2.2.2.2.2.2.2.1) → fl162 aBits = .inl (g 0, 76800, .inl caBits_162) → fl162 aLayerSize = .inl (g 0, 600, .inl caLayerSize_162) → fl162 aLayerCame = .inl (g 0, 600, .inl caLayerCame_162) → fl162 aRest = .inl (g 1, 30000, .inr (.inl caRest_162)) → fl162 aRestMany = .inl (g 0, 30, .inl caRestMany_162) → fl162 aCome = .inl (g 1, 1000, .inr (.inl caCome_162)) → fl162 aRivals = .inl (g 1, 1000, .inr (.inl caRivals_162)) → fl162 aGone = .inl (g 1, 1000, .inr (.inl caGone_162)) → fl162 aOrder = .inl (g 0, 1000, .inl vOrder) → fl162 aOffAt = .inl (g 0, 1000, .inl vOffAt) → fl162 aIsOff = .inl (g 2, 1000, .inl vIsOff) → fl162 aAlone = .inl (g 0, 4096, .inl vAlone) → fl162 aKept = .inl (g 0, 4096, .inl vKept) → (∀ b, b ∈ L → b ≠ y → b ≠ aKind → b ≠ aSize → b ≠ aMarks → b ≠ aSeed → b ≠ aContents → b ≠ aContentMany → b ≠ aRow → b ≠ aBits → b ≠ aLayerSize → b ≠ aLayerCame → b ≠ aRest → b ≠ aRestMany → b ≠ aCome → b ≠ aRivals → b ≠ aGone → fl162 b = f b) → lv_has ls 11 [(8, .int x8_162), (7, .int x7_162), (6, .int x6_162), (5, .int x5_162), (4, .int z33.1), (0, .ref y)] → W p l e { frames := 2, cells := 0, slots := 0, locals := 57 } s m [.ref y, .int wi, .int wa, .int by_].toArray below meth c H locs 0 0 QQ (F0 m 162 ls []) := by
              intro fu
              induction fu with
              | zero => intro x8_162 x7_162 x6_162 x5_162 caSize_162 caBits_162 caLayerSize_162 caLayerCame_162 caRest_162 caRestMany_162 caCome_162 caRivals_162 caGone_162 fl162 H locs ls ho162 S e_y e_aWorlds e_aInWorld e_aKind e_aSize e_aMarks e_aSeed e_aContents e_aContentMany e_aRow e_aBits e_aLayerSize e_aLayerCame e_aRest e_aRestMany e_aCome e_aRivals e_aGone e_aOrder e_aOffAt e_aIsOff e_aAlone e_aKept fr hl; exact no_some ho162
              | succ fu ih162 =>
                intro x8_162 x7_162 x6_162 x5_162 caSize_162 caBits_162 caLayerSize_162 caLayerCame_162 caRest_162 caRestMany_162 caCome_162 caRivals_162 caGone_162 fl162 H locs ls ho162 S e_y e_aWorlds e_aInWorld e_aKind e_aSize e_aMarks e_aSeed e_aContents e_aContentMany e_aRow e_aBits e_aLayerSize e_aLayerCame e_aRest e_aRestMany e_aCome e_aRivals e_aGone e_aOrder e_aOffAt e_aIsOff e_aAlone e_aKept fr hl
                rw [mX9_layered_L162] at ho162
                refine lv_iload hx hb dX9_layered_162 (lv_at hl 1 rfl) ?_
                refine lv_if_eq (tgt := 402) hx hb dX9_layered_164 (by decide) (fun b164 => ?_) (fun b164 => ?_)
                · have ho162 := itT b164 ho162
                  obtain rfl := Option.some.inj ho162
                  exact EX162 fl162 _ _ _ S e_y e_aWorlds e_aInWorld e_aKind e_aSize e_aMarks e_aSeed e_aContents e_aContentMany e_aRow e_aBits e_aLayerSize e_aLayerCame e_aRest e_aRestMany e_aCome e_aRivals e_aGone e_aOrder e_aOffAt e_aIsOff e_aAlone e_aKept fr (lv_sub hl [4] rfl)
                · have ho162 := itF b164 ho162
                  refine lv_iload hx hb dX9_layered_167 (lv_at hl 0 rfl) ?_
                  refine lv_bipush (v := (20 : Int32)) hx hb dX9_layered_169 (by decide) ?_
                  refine lv_icmp_eq (tgt := 200) hx hb dX9_layered_171 (by decide) (fun b171 => ?_) (fun b171 => ?_)
                  · have ho162 := itT b171 ho162
                    refine lv_iconst (v := (0 : Int32)) hx hb dX9_layered_200 (by decide) ?_
                    refine lv_istore (lv' := [(9, .int (0 : Int32)), (8, .int x8_162), (7, .int x7_162), (6, .int x6_162), (5, .int x5_162), (4, .int z33.1), (0, .ref y)]) hx hb dX9_layered_201 hl (by decide) rfl (fun ls hl => ?_)
                    obtain ⟨o203, ho203, ho162⟩ := bind_some ho162
                    have EX203 : ∀ (fl203 : Nat → va_E) (H : Heap) (locs : List Loc) (ls : Array Slot), PS D g (va_A (va_pl L f) szz) s.heap s L fl203 H locs → fl203 y = .inr (7, [.ref aWorlds, .ref aInWorld, .ref aKind, .ref aSize, .ref aMarks, .ref aSeed, .ref aContents, .ref aContentMany, .ref aRow, .ref aBits, .ref aLayerSize, .ref aLayerCame, .ref aRest, .ref aRestMany, .int z33.2.1, .ref aCome, .ref aRivals, .ref aGone, .ref aOrder, .ref aOffAt, .ref aIsOff, .ref aAlone, .ref aKept]) → fl203 aWorlds = .inl (g 1, 8000, .inr (.inl vWorlds)) → fl203 aInWorld = .inl (g 0, 8, .inl vInWorld) → fl203 aKind = .inl (g 0, 30, .inl z33.2.2.1) → fl203 aSize = .inl (g 0, 30, .inl caSize_162) → fl203 aMarks = .inl (g 0, 30, .inl z33.2.2.2.2.1) → fl203 aSeed = .inl (g 0, 30, .inl z33.2.2.2.2.2.1) → fl203 aContents = .inl (g 1, 30000, .inr (.inl z42.1)) → fl203 aContentMany = .inl (g 0, 30, .inl z42.2) → fl203 aRow = .inl (g 0, 122880, .inl z33.2.2.2.2.2.2.2.1) → fl203 aBits = .inl (g 0, 76800, .inl caBits_162) → fl203 aLayerSize = .inl (g 0, 600, .inl caLayerSize_162) → fl203 aLayerCame = .inl (g 0, 600, .inl caLayerCame_162) → fl203 aRest = .inl (g 1, 30000, .inr (.inl o203.2)) → fl203 aRestMany = .inl (g 0, 30, .inl caRestMany_162) → fl203 aCome = .inl (g 1, 1000, .inr (.inl caCome_162)) → fl203 aRivals = .inl (g 1, 1000, .inr (.inl caRivals_162)) → fl203 aGone = .inl (g 1, 1000, .inr (.inl caGone_162)) → fl203 aOrder = .inl (g 0, 1000, .inl vOrder) → fl203 aOffAt = .inl (g 0, 1000, .inl vOffAt) → fl203 aIsOff = .inl (g 2, 1000, .inl vIsOff) → fl203 aAlone = .inl (g 0, 4096, .inl vAlone) → fl203 aKept = .inl (g 0, 4096, .inl vKept) → (∀ b, b ∈ L → b ≠ y → b ≠ aKind → b ≠ aSize → b ≠ aMarks → b ≠ aSeed → b ≠ aContents → b ≠ aContentMany → b ≠ aRow → b ≠ aBits → b ≠ aLayerSize → b ≠ aLayerCame → b ≠ aRest → b ≠ aRestMany → b ≠ aCome → b ≠ aRivals → b ≠ aGone → fl203 b = f b) → lv_has ls 11 [(8, .int x8_162), (6, .int x6_162), (5, .int x5_162), (4, .int z33.1), (0, .ref y)] → W p l e { frames := 2, cells := 0, slots := 0, locals := 57 } s m [.ref y, .int wi, .int wa, .int by_].toArray below meth c H locs 0 0 QQ (F0 m 237 ls []) := by
                      intro fl203 H locs ls S e_y e_aWorlds e_aInWorld e_aKind e_aSize e_aMarks e_aSeed e_aContents e_aContentMany e_aRow e_aBits e_aLayerSize e_aLayerCame e_aRest e_aRestMany e_aCome e_aRivals e_aGone e_aOrder e_aOffAt e_aIsOff e_aAlone e_aKept fr hl
                      refine lv_aload_n hx hb dX9_layered_237 rfl (lv_at hl 4 rfl) ?_
                      refine q_get hx hb hts in_X9 hown S m_y e_y (C := RX9) (T := TX9) (N := 23) rfl 13 (by decide) rfl (hts (.fieldLink RX9 52 "SieveCabinetModel" "restMany" "[I") (by decide +kernel)) dX9_layered_238 ?_
                      refine lv_iload hx hb dX9_layered_241 (lv_at hl 3 rfl) ?_
                      refine lv_iload hx hb dX9_layered_243 (lv_at hl 2 rfl) ?_
                      obtain ⟨hi245, ho162⟩ := ckx ho162
                      refine k_iast hx hb S m_aRestMany e_aRestMany hi245 dX9_layered_245 (fun f13 ef13 H locs S => ?_)
                      have e_aRestMany := up_self ef13
                      have fr : ∀ b, b ∈ L → b ≠ y → b ≠ aKind → b ≠ aSize → b ≠ aMarks → b ≠ aSeed → b ≠ aContents → b ≠ aContentMany → b ≠ aRow → b ≠ aBits → b ≠ aLayerSize → b ≠ aLayerCame → b ≠ aRest → b ≠ aRestMany → b ≠ aCome → b ≠ aRivals → b ≠ aGone → f13 b = f b := fun b mb nb0 nb1 nb2 nb3 nb4 nb5 nb6 nb7 nb8 nb9 nb10 nb11 nb12 nb13 nb14 nb15 => (up_ne ef13 nb12 rfl).trans (fr b mb nb0 nb1 nb2 nb3 nb4 nb5 nb6 nb7 nb8 nb9 nb10 nb11 nb12 nb13 nb14 nb15)
                      refine lv_iconst (v := (0 : Int32)) hx hb dX9_layered_246 (by decide) ?_
                      refine lv_istore (lv' := [(7, .int (0 : Int32)), (8, .int x8_162), (6, .int x6_162), (5, .int x5_162), (4, .int z33.1), (0, .ref y)]) hx hb dX9_layered_247 hl (by decide) rfl (fun ls hl => ?_)
                      refine lv_goto (tgt := 396) hx hb dX9_layered_249 (by decide) ?_
                      refine lv_iinc (v := (x8_162 + 1)) (lv' := [(8, .int (x8_162 + 1)), (7, .int (0 : Int32)), (6, .int x6_162), (5, .int x5_162), (4, .int z33.1), (0, .ref y)]) hx hb dX9_layered_396 hl (k := 1) rfl rfl (by decide) rfl (fun ls hl => ?_)
                      refine lv_goto (tgt := 162) hx hb dX9_layered_399 (by decide) ?_
                      have e_y := (up_ne ef13 n_y_aRestMany e_y)
                      have e_aWorlds := (up_ne ef13 n_aWorlds_aRestMany e_aWorlds)
                      have e_aInWorld := (up_ne ef13 n_aInWorld_aRestMany e_aInWorld)
                      have e_aKind := (up_ne ef13 n_aKind_aRestMany e_aKind)
                      have e_aSize := (up_ne ef13 n_aSize_aRestMany e_aSize)
                      have e_aMarks := (up_ne ef13 n_aMarks_aRestMany e_aMarks)
                      have e_aSeed := (up_ne ef13 n_aSeed_aRestMany e_aSeed)
                      have e_aContents := (up_ne ef13 n_aContents_aRestMany e_aContents)
                      have e_aContentMany := (up_ne ef13 n_aContentMany_aRestMany e_aContentMany)
                      have e_aRow := (up_ne ef13 n_aRow_aRestMany e_aRow)
                      have e_aBits := (up_ne ef13 n_aBits_aRestMany e_aBits)
                      have e_aLayerSize := (up_ne ef13 n_aLayerSize_aRestMany e_aLayerSize)
                      have e_aLayerCame := (up_ne ef13 n_aLayerCame_aRestMany e_aLayerCame)
                      have e_aRest := (up_ne ef13 n_aRest_aRestMany e_aRest)
                      have e_aCome := (up_ne ef13 n_aCome_aRestMany e_aCome)
                      have e_aRivals := (up_ne ef13 n_aRivals_aRestMany e_aRivals)
                      have e_aGone := (up_ne ef13 n_aGone_aRestMany e_aGone)
                      have e_aOrder := (up_ne ef13 n_aOrder_aRestMany e_aOrder)
                      have e_aOffAt := (up_ne ef13 n_aOffAt_aRestMany e_aOffAt)
                      have e_aIsOff := (up_ne ef13 n_aIsOff_aRestMany e_aIsOff)
                      have e_aAlone := (up_ne ef13 n_aAlone_aRestMany e_aAlone)
                      have e_aKept := (up_ne ef13 n_aKept_aRestMany e_aKept)
                      exact ih162 (x8_162 + 1) (0 : Int32) x6_162 x5_162 caSize_162 caBits_162 caLayerSize_162 caLayerCame_162 o203.2 (upd caRestMany_162 (Int32.toNatClampNeg z33.1) x5_162) caCome_162 caRivals_162 caGone_162 f13 _ _ _ ho162 S e_y e_aWorlds e_aInWorld e_aKind e_aSize e_aMarks e_aSeed e_aContents e_aContentMany e_aRow e_aBits e_aLayerSize e_aLayerCame e_aRest e_aRestMany e_aCome e_aRivals e_aGone e_aOrder e_aOffAt e_aIsOff e_aAlone e_aKept fr (lv_sub hl [0, 1, 2, 3, 4, 5] rfl)
                    have LP203 : ∀ (fu : Nat) (x9_203 : Int32) (caRest_203 : Nat → Int64) (fl203 : Nat → va_E) (H : Heap) (locs : List Loc) (ls : Array Slot), (mX9_layered_L203 z33 x5_162 caCome_162) fu x9_203 caRest_203 = some o203 → PS D g (va_A (va_pl L f) szz) s.heap s L fl203 H locs → fl203 y = .inr (7, [.ref aWorlds, .ref aInWorld, .ref aKind, .ref aSize, .ref aMarks, .ref aSeed, .ref aContents, .ref aContentMany, .ref aRow, .ref aBits, .ref aLayerSize, .ref aLayerCame, .ref aRest, .ref aRestMany, .int z33.2.1, .ref aCome, .ref aRivals, .ref aGone, .ref aOrder, .ref aOffAt, .ref aIsOff, .ref aAlone, .ref aKept]) → fl203 aWorlds = .inl (g 1, 8000, .inr (.inl vWorlds)) → fl203 aInWorld = .inl (g 0, 8, .inl vInWorld) → fl203 aKind = .inl (g 0, 30, .inl z33.2.2.1) → fl203 aSize = .inl (g 0, 30, .inl caSize_162) → fl203 aMarks = .inl (g 0, 30, .inl z33.2.2.2.2.1) → fl203 aSeed = .inl (g 0, 30, .inl z33.2.2.2.2.2.1) → fl203 aContents = .inl (g 1, 30000, .inr (.inl z42.1)) → fl203 aContentMany = .inl (g 0, 30, .inl z42.2) → fl203 aRow = .inl (g 0, 122880, .inl z33.2.2.2.2.2.2.2.1) → fl203 aBits = .inl (g 0, 76800, .inl caBits_162) → fl203 aLayerSize = .inl (g 0, 600, .inl caLayerSize_162) → fl203 aLayerCame = .inl (g 0, 600, .inl caLayerCame_162) → fl203 aRest = .inl (g 1, 30000, .inr (.inl caRest_203)) → fl203 aRestMany = .inl (g 0, 30, .inl caRestMany_162) → fl203 aCome = .inl (g 1, 1000, .inr (.inl caCome_162)) → fl203 aRivals = .inl (g 1, 1000, .inr (.inl caRivals_162)) → fl203 aGone = .inl (g 1, 1000, .inr (.inl caGone_162)) → fl203 aOrder = .inl (g 0, 1000, .inl vOrder) → fl203 aOffAt = .inl (g 0, 1000, .inl vOffAt) → fl203 aIsOff = .inl (g 2, 1000, .inl vIsOff) → fl203 aAlone = .inl (g 0, 4096, .inl vAlone) → fl203 aKept = .inl (g 0, 4096, .inl vKept) → (∀ b, b ∈ L → b ≠ y → b ≠ aKind → b ≠ aSize → b ≠ aMarks → b ≠ aSeed → b ≠ aContents → b ≠ aContentMany → b ≠ aRow → b ≠ aBits → b ≠ aLayerSize → b ≠ aLayerCame → b ≠ aRest → b ≠ aRestMany → b ≠ aCome → b ≠ aRivals → b ≠ aGone → fl203 b = f b) → lv_has ls 11 [(9, .int x9_203), (8, .int x8_162), (6, .int x6_162), (5, .int x5_162), (4, .int z33.1), (0, .ref y)] → W p l e { frames := 2, cells := 0, slots := 0, locals := 57 } s m [.ref y, .int wi, .int wa, .int by_].toArray below meth c H locs 0 0 QQ (F0 m 203 ls []) := by
                      intro fu
                      induction fu with
                      | zero => intro x9_203 caRest_203 fl203 H locs ls ho203 S e_y e_aWorlds e_aInWorld e_aKind e_aSize e_aMarks e_aSeed e_aContents e_aContentMany e_aRow e_aBits e_aLayerSize e_aLayerCame e_aRest e_aRestMany e_aCome e_aRivals e_aGone e_aOrder e_aOffAt e_aIsOff e_aAlone e_aKept fr hl; exact no_some ho203
                      | succ fu ih203 =>
                        intro x9_203 caRest_203 fl203 H locs ls ho203 S e_y e_aWorlds e_aInWorld e_aKind e_aSize e_aMarks e_aSeed e_aContents e_aContentMany e_aRow e_aBits e_aLayerSize e_aLayerCame e_aRest e_aRestMany e_aCome e_aRivals e_aGone e_aOrder e_aOffAt e_aIsOff e_aAlone e_aKept fr hl
                        rw [mX9_layered_L203] at ho203
                        refine lv_iload hx hb dX9_layered_203 (lv_at hl 0 rfl) ?_
                        refine lv_iload hx hb dX9_layered_205 (lv_at hl 3 rfl) ?_
                        refine lv_icmp_ge (tgt := 237) hx hb dX9_layered_207 (by decide) (fun b207 => ?_) (fun b207 => ?_)
                        · have ho203 := itT b207 ho203
                          obtain rfl := Option.some.inj ho203
                          exact EX203 fl203 _ _ _ S e_y e_aWorlds e_aInWorld e_aKind e_aSize e_aMarks e_aSeed e_aContents e_aContentMany e_aRow e_aBits e_aLayerSize e_aLayerCame e_aRest e_aRestMany e_aCome e_aRivals e_aGone e_aOrder e_aOffAt e_aIsOff e_aAlone e_aKept fr (lv_sub hl [1, 2, 3, 4, 5] rfl)
                        · have ho203 := itF b207 ho203
                          refine lv_aload_n hx hb dX9_layered_210 rfl (lv_at hl 5 rfl) ?_
                          refine q_get hx hb hts in_X9 hown S m_y e_y (C := RX9) (T := TX9) (N := 23) rfl 12 (by decide) rfl (hts (.fieldLink RX9 49 "SieveCabinetModel" "rest" "[J") (by decide +kernel)) dX9_layered_211 ?_
                          refine lv_iload hx hb dX9_layered_214 (lv_at hl 4 rfl) ?_
                          refine lv_sipush (v := (1000 : Int32)) hx hb dX9_layered_216 (by decide) ?_
                          refine lv_imul hx hb dX9_layered_219 ?_
                          refine lv_iload hx hb dX9_layered_220 (lv_at hl 0 rfl) ?_
                          refine lv_iadd hx hb dX9_layered_222 ?_
                          refine lv_aload_n hx hb dX9_layered_223 rfl (lv_at hl 5 rfl) ?_
                          refine q_get hx hb hts in_X9 hown S m_y e_y (C := RX9) (T := TX9) (N := 23) rfl 15 (by decide) rfl (hts (.fieldLink RX9 55 "SieveCabinetModel" "come" "[J") (by decide +kernel)) dX9_layered_224 ?_
                          refine lv_iload hx hb dX9_layered_227 (lv_at hl 0 rfl) ?_
                          obtain ⟨hi229, ho203⟩ := ckx ho203
                          refine q_lald hx hb S m_aCome e_aCome hi229 dX9_layered_229 ?_
                          obtain ⟨hi230, ho203⟩ := ckx ho203
                          refine k_last hx hb S m_aRest e_aRest hi230 dX9_layered_230 (fun f14 ef14 H locs S => ?_)
                          have e_aRest := up_self ef14
                          have fr : ∀ b, b ∈ L → b ≠ y → b ≠ aKind → b ≠ aSize → b ≠ aMarks → b ≠ aSeed → b ≠ aContents → b ≠ aContentMany → b ≠ aRow → b ≠ aBits → b ≠ aLayerSize → b ≠ aLayerCame → b ≠ aRest → b ≠ aRestMany → b ≠ aCome → b ≠ aRivals → b ≠ aGone → f14 b = f b := fun b mb nb0 nb1 nb2 nb3 nb4 nb5 nb6 nb7 nb8 nb9 nb10 nb11 nb12 nb13 nb14 nb15 => (up_ne ef14 nb11 rfl).trans (fr b mb nb0 nb1 nb2 nb3 nb4 nb5 nb6 nb7 nb8 nb9 nb10 nb11 nb12 nb13 nb14 nb15)
                          refine lv_iinc (v := (x9_203 + 1)) (lv' := [(9, .int (x9_203 + 1)), (8, .int x8_162), (6, .int x6_162), (5, .int x5_162), (4, .int z33.1), (0, .ref y)]) hx hb dX9_layered_231 hl (k := 0) rfl rfl (by decide) rfl (fun ls hl => ?_)
                          refine lv_goto (tgt := 203) hx hb dX9_layered_234 (by decide) ?_
                          have e_y := (up_ne ef14 n_y_aRest e_y)
                          have e_aWorlds := (up_ne ef14 n_aWorlds_aRest e_aWorlds)
                          have e_aInWorld := (up_ne ef14 n_aInWorld_aRest e_aInWorld)
                          have e_aKind := (up_ne ef14 n_aKind_aRest e_aKind)
                          have e_aSize := (up_ne ef14 n_aSize_aRest e_aSize)
                          have e_aMarks := (up_ne ef14 n_aMarks_aRest e_aMarks)
                          have e_aSeed := (up_ne ef14 n_aSeed_aRest e_aSeed)
                          have e_aContents := (up_ne ef14 n_aContents_aRest e_aContents)
                          have e_aContentMany := (up_ne ef14 n_aContentMany_aRest e_aContentMany)
                          have e_aRow := (up_ne ef14 n_aRow_aRest e_aRow)
                          have e_aBits := (up_ne ef14 n_aBits_aRest e_aBits)
                          have e_aLayerSize := (up_ne ef14 n_aLayerSize_aRest e_aLayerSize)
                          have e_aLayerCame := (up_ne ef14 n_aLayerCame_aRest e_aLayerCame)
                          have e_aRestMany := (up_ne ef14 n_aRestMany_aRest e_aRestMany)
                          have e_aCome := (up_ne ef14 n_aCome_aRest e_aCome)
                          have e_aRivals := (up_ne ef14 n_aRivals_aRest e_aRivals)
                          have e_aGone := (up_ne ef14 n_aGone_aRest e_aGone)
                          have e_aOrder := (up_ne ef14 n_aOrder_aRest e_aOrder)
                          have e_aOffAt := (up_ne ef14 n_aOffAt_aRest e_aOffAt)
                          have e_aIsOff := (up_ne ef14 n_aIsOff_aRest e_aIsOff)
                          have e_aAlone := (up_ne ef14 n_aAlone_aRest e_aAlone)
                          have e_aKept := (up_ne ef14 n_aKept_aRest e_aKept)
                          exact ih203 (x9_203 + 1) (vp_updL caRest_203 (Int32.toNatClampNeg ((z33.1 * (1000 : Int32)) + x9_203)) (caCome_162 (Int32.toNatClampNeg x9_203))) f14 _ _ _ ho203 S e_y e_aWorlds e_aInWorld e_aKind e_aSize e_aMarks e_aSeed e_aContents e_aContentMany e_aRow e_aBits e_aLayerSize e_aLayerCame e_aRest e_aRestMany e_aCome e_aRivals e_aGone e_aOrder e_aOffAt e_aIsOff e_aAlone e_aKept fr (lv_sub hl [0, 1, 2, 3, 4, 5] rfl)
                    exact LP203 FU (0 : Int32) caRest_162 fl162 _ _ _ ho203 S e_y e_aWorlds e_aInWorld e_aKind e_aSize e_aMarks e_aSeed e_aContents e_aContentMany e_aRow e_aBits e_aLayerSize e_aLayerCame e_aRest e_aRestMany e_aCome e_aRivals e_aGone e_aOrder e_aOffAt e_aIsOff e_aAlone e_aKept fr (lv_sub hl [0, 1, 3, 4, 5, 6] rfl)
                  · have ho162 := itF b171 ho162
                    refine lv_iload hx hb dX9_layered_174 (lv_at hl 0 rfl) ?_
                    refine lv_iconst (v := (1 : Int32)) hx hb dX9_layered_176 (by decide) ?_
                    refine lv_icmp_le (tgt := 252) hx hb dX9_layered_177 (by decide) (fun b177 => ?_) (fun b177 => ?_)
                    · have ho162 := itT b177 ho162
                      refine lv_aload_n hx hb dX9_layered_252 rfl (lv_at hl 5 rfl) ?_
                      refine lv_iload hx hb dX9_layered_253 (lv_at hl 4 rfl) ?_
                      refine lv_iload hx hb dX9_layered_255 (lv_at hl 0 rfl) ?_
                      refine lv_iload hx hb dX9_layered_257 (lv_at hl 3 rfl) ?_
                      obtain ⟨z259, hz259, ho162⟩ := bind_some ho162
                      refine q_vv (As := [.int z33.1, .int x8_162, .int x5_162]) (rest := []) ⟨hx, hb, hml, hown, hts⟩ (k_X9_lay l D g m_y e_y m_aWorlds e_aWorlds m_aInWorld e_aInWorld m_aKind e_aKind m_aSize e_aSize m_aMarks e_aMarks m_aSeed e_aSeed m_aContents e_aContents m_aContentMany e_aContentMany m_aRow e_aRow m_aBits e_aBits m_aLayerSize e_aLayerSize m_aLayerCame e_aLayerCame m_aRest e_aRest m_aRestMany e_aRestMany m_aCome e_aCome m_aRivals e_aRivals m_aGone e_aGone m_aOrder e_aOrder m_aOffAt e_aOffAt m_aIsOff e_aIsOff m_aAlone e_aAlone m_aKept e_aKept r_aLayerSize r_aLayerCame hz259) (cwV 3 hts gX9_layered_X9_lay rfl rfl rfl (by decide +kernel) ⟨Nat.le_of_ble_eq_true rfl, Nat.le_of_ble_eq_true rfl⟩) S m_y e_y (T := TX9) (N := 23) rfl rfl hl.1 rfl (Nat.le_of_ble_eq_true rfl) dX9_layered_259 ⟨Nat.le_of_ble_eq_true rfl, Nat.le_of_ble_eq_true rfl⟩ (fun L15 f16 H locs S w259 => ?_)
                      obtain ⟨eL, fv259, E_aSize, E_aBits, E_aLayerSize, E_aLayerCame⟩ := w259
                      rw [eL] at S
                      have fr : ∀ b, b ∈ L → b ≠ y → b ≠ aKind → b ≠ aSize → b ≠ aMarks → b ≠ aSeed → b ≠ aContents → b ≠ aContentMany → b ≠ aRow → b ≠ aBits → b ≠ aLayerSize → b ≠ aLayerCame → b ≠ aRest → b ≠ aRestMany → b ≠ aCome → b ≠ aRivals → b ≠ aGone → f16 b = f b := fun b mb nb0 nb1 nb2 nb3 nb4 nb5 nb6 nb7 nb8 nb9 nb10 nb11 nb12 nb13 nb14 nb15 => (fv259 b mb nb2 nb8 nb9 nb10).trans (fr b mb nb0 nb1 nb2 nb3 nb4 nb5 nb6 nb7 nb8 nb9 nb10 nb11 nb12 nb13 nb14 nb15)
                      have e_aSize : f16 aSize = .inl (g 0, 30, .inl z259.1) := E_aSize
                      have e_aBits : f16 aBits = .inl (g 0, 76800, .inl z259.2.1) := E_aBits
                      have e_aLayerSize : f16 aLayerSize = .inl (g 0, 600, .inl z259.2.2.1) := E_aLayerSize
                      have e_aLayerCame : f16 aLayerCame = .inl (g 0, 600, .inl z259.2.2.2) := E_aLayerCame
                      refine lv_iconst (v := (0 : Int32)) hx hb dX9_layered_262 (by decide) ?_
                      refine lv_istore (lv' := [(9, .int (0 : Int32)), (8, .int x8_162), (7, .int x7_162), (6, .int x6_162), (5, .int x5_162), (4, .int z33.1), (0, .ref y)]) hx hb dX9_layered_263 hl (by decide) rfl (fun ls hl => ?_)
                      refine lv_iconst (v := (0 : Int32)) hx hb dX9_layered_265 (by decide) ?_
                      refine lv_istore (lv' := [(10, .int (0 : Int32)), (9, .int (0 : Int32)), (8, .int x8_162), (7, .int x7_162), (6, .int x6_162), (5, .int x5_162), (4, .int z33.1), (0, .ref y)]) hx hb dX9_layered_266 hl (by decide) rfl (fun ls hl => ?_)
                      have e_y := ((fv259 y m_y n_y_aSize n_y_aBits n_y_aLayerSize n_y_aLayerCame).trans e_y)
                      have e_aWorlds := ((fv259 aWorlds m_aWorlds n_aWorlds_aSize n_aWorlds_aBits n_aWorlds_aLayerSize n_aWorlds_aLayerCame).trans e_aWorlds)
                      have e_aInWorld := ((fv259 aInWorld m_aInWorld n_aInWorld_aSize n_aInWorld_aBits n_aInWorld_aLayerSize n_aInWorld_aLayerCame).trans e_aInWorld)
                      have e_aKind := ((fv259 aKind m_aKind n_aKind_aSize n_aKind_aBits n_aKind_aLayerSize n_aKind_aLayerCame).trans e_aKind)
                      have e_aMarks := ((fv259 aMarks m_aMarks n_aMarks_aSize n_aMarks_aBits n_aMarks_aLayerSize n_aMarks_aLayerCame).trans e_aMarks)
                      have e_aSeed := ((fv259 aSeed m_aSeed n_aSeed_aSize n_aSeed_aBits n_aSeed_aLayerSize n_aSeed_aLayerCame).trans e_aSeed)
                      have e_aContents := ((fv259 aContents m_aContents n_aContents_aSize n_aContents_aBits n_aContents_aLayerSize n_aContents_aLayerCame).trans e_aContents)
                      have e_aContentMany := ((fv259 aContentMany m_aContentMany n_aContentMany_aSize n_aContentMany_aBits n_aContentMany_aLayerSize n_aContentMany_aLayerCame).trans e_aContentMany)
                      have e_aRow := ((fv259 aRow m_aRow n_aRow_aSize n_aRow_aBits n_aRow_aLayerSize n_aRow_aLayerCame).trans e_aRow)
                      have e_aRest := ((fv259 aRest m_aRest n_aRest_aSize n_aRest_aBits n_aRest_aLayerSize n_aRest_aLayerCame).trans e_aRest)
                      have e_aRestMany := ((fv259 aRestMany m_aRestMany n_aRestMany_aSize n_aRestMany_aBits n_aRestMany_aLayerSize n_aRestMany_aLayerCame).trans e_aRestMany)
                      have e_aCome := ((fv259 aCome m_aCome n_aCome_aSize n_aCome_aBits n_aCome_aLayerSize n_aCome_aLayerCame).trans e_aCome)
                      have e_aRivals := ((fv259 aRivals m_aRivals n_aRivals_aSize n_aRivals_aBits n_aRivals_aLayerSize n_aRivals_aLayerCame).trans e_aRivals)
                      have e_aGone := ((fv259 aGone m_aGone n_aGone_aSize n_aGone_aBits n_aGone_aLayerSize n_aGone_aLayerCame).trans e_aGone)
                      have e_aOrder := ((fv259 aOrder m_aOrder n_aOrder_aSize n_aOrder_aBits n_aOrder_aLayerSize n_aOrder_aLayerCame).trans e_aOrder)
                      have e_aOffAt := ((fv259 aOffAt m_aOffAt n_aOffAt_aSize n_aOffAt_aBits n_aOffAt_aLayerSize n_aOffAt_aLayerCame).trans e_aOffAt)
                      have e_aIsOff := ((fv259 aIsOff m_aIsOff n_aIsOff_aSize n_aIsOff_aBits n_aIsOff_aLayerSize n_aIsOff_aLayerCame).trans e_aIsOff)
                      have e_aAlone := ((fv259 aAlone m_aAlone n_aAlone_aSize n_aAlone_aBits n_aAlone_aLayerSize n_aAlone_aLayerCame).trans e_aAlone)
                      have e_aKept := ((fv259 aKept m_aKept n_aKept_aSize n_aKept_aBits n_aKept_aLayerSize n_aKept_aLayerCame).trans e_aKept)
                      obtain ⟨o268, ho268, ho162⟩ := bind_some ho162
                      have EX268 : ∀ (fl268 : Nat → va_E) (H : Heap) (locs : List Loc) (ls : Array Slot), PS D g (va_A (va_pl L f) szz) s.heap s L fl268 H locs → fl268 y = .inr (7, [.ref aWorlds, .ref aInWorld, .ref aKind, .ref aSize, .ref aMarks, .ref aSeed, .ref aContents, .ref aContentMany, .ref aRow, .ref aBits, .ref aLayerSize, .ref aLayerCame, .ref aRest, .ref aRestMany, .int z33.2.1, .ref aCome, .ref aRivals, .ref aGone, .ref aOrder, .ref aOffAt, .ref aIsOff, .ref aAlone, .ref aKept]) → fl268 aWorlds = .inl (g 1, 8000, .inr (.inl vWorlds)) → fl268 aInWorld = .inl (g 0, 8, .inl vInWorld) → fl268 aKind = .inl (g 0, 30, .inl z33.2.2.1) → fl268 aSize = .inl (g 0, 30, .inl z259.1) → fl268 aMarks = .inl (g 0, 30, .inl z33.2.2.2.2.1) → fl268 aSeed = .inl (g 0, 30, .inl z33.2.2.2.2.2.1) → fl268 aContents = .inl (g 1, 30000, .inr (.inl z42.1)) → fl268 aContentMany = .inl (g 0, 30, .inl z42.2) → fl268 aRow = .inl (g 0, 122880, .inl z33.2.2.2.2.2.2.2.1) → fl268 aBits = .inl (g 0, 76800, .inl z259.2.1) → fl268 aLayerSize = .inl (g 0, 600, .inl z259.2.2.1) → fl268 aLayerCame = .inl (g 0, 600, .inl z259.2.2.2) → fl268 aRest = .inl (g 1, 30000, .inr (.inl caRest_162)) → fl268 aRestMany = .inl (g 0, 30, .inl caRestMany_162) → fl268 aCome = .inl (g 1, 1000, .inr (.inl caCome_162)) → fl268 aRivals = .inl (g 1, 1000, .inr (.inl caRivals_162)) → fl268 aGone = .inl (g 1, 1000, .inr (.inl o268.2.2)) → fl268 aOrder = .inl (g 0, 1000, .inl vOrder) → fl268 aOffAt = .inl (g 0, 1000, .inl vOffAt) → fl268 aIsOff = .inl (g 2, 1000, .inl vIsOff) → fl268 aAlone = .inl (g 0, 4096, .inl vAlone) → fl268 aKept = .inl (g 0, 4096, .inl vKept) → (∀ b, b ∈ L → b ≠ y → b ≠ aKind → b ≠ aSize → b ≠ aMarks → b ≠ aSeed → b ≠ aContents → b ≠ aContentMany → b ≠ aRow → b ≠ aBits → b ≠ aLayerSize → b ≠ aLayerCame → b ≠ aRest → b ≠ aRestMany → b ≠ aCome → b ≠ aRivals → b ≠ aGone → fl268 b = f b) → lv_has ls 11 [(9, .int o268.2.1), (8, .int x8_162), (5, .int x5_162), (4, .int z33.1), (0, .ref y)] → W p l e { frames := 2, cells := 0, slots := 0, locals := 57 } s m [.ref y, .int wi, .int wa, .int by_].toArray below meth c H locs 0 0 QQ (F0 m 316 ls []) := by
                        intro fl268 H locs ls S e_y e_aWorlds e_aInWorld e_aKind e_aSize e_aMarks e_aSeed e_aContents e_aContentMany e_aRow e_aBits e_aLayerSize e_aLayerCame e_aRest e_aRestMany e_aCome e_aRivals e_aGone e_aOrder e_aOffAt e_aIsOff e_aAlone e_aKept fr hl
                        refine lv_iload hx hb dX9_layered_316 (lv_at hl 0 rfl) ?_
                        refine lv_if_le (tgt := 325) hx hb dX9_layered_318 (by decide) (fun b318 => ?_) (fun b318 => ?_)
                        · have ho162 := itT b318 ho162
                          refine lv_iconst (v := (0 : Int32)) hx hb dX9_layered_325 (by decide) ?_
                          refine lv_istore (lv' := [(7, .int (0 : Int32)), (9, .int o268.2.1), (8, .int x8_162), (5, .int x5_162), (4, .int z33.1), (0, .ref y)]) hx hb dX9_layered_326 hl (by decide) rfl (fun ls hl => ?_)
                          refine lv_iload hx hb dX9_layered_328 (lv_at hl 3 rfl) ?_
                          refine lv_istore (lv' := [(6, .int x5_162), (7, .int (0 : Int32)), (9, .int o268.2.1), (8, .int x8_162), (5, .int x5_162), (4, .int z33.1), (0, .ref y)]) hx hb dX9_layered_330 hl (by decide) rfl (fun ls hl => ?_)
                          refine lv_iconst (v := (0 : Int32)) hx hb dX9_layered_332 (by decide) ?_
                          refine lv_istore (lv' := [(10, .int (0 : Int32)), (6, .int x5_162), (7, .int (0 : Int32)), (9, .int o268.2.1), (8, .int x8_162), (5, .int x5_162), (4, .int z33.1), (0, .ref y)]) hx hb dX9_layered_333 hl (by decide) rfl (fun ls hl => ?_)
                          obtain ⟨o335, ho335, ho162⟩ := bind_some ho162
                          have EX335 : ∀ (fl335 : Nat → va_E) (H : Heap) (locs : List Loc) (ls : Array Slot), PS D g (va_A (va_pl L f) szz) s.heap s L fl335 H locs → fl335 y = .inr (7, [.ref aWorlds, .ref aInWorld, .ref aKind, .ref aSize, .ref aMarks, .ref aSeed, .ref aContents, .ref aContentMany, .ref aRow, .ref aBits, .ref aLayerSize, .ref aLayerCame, .ref aRest, .ref aRestMany, .int z33.2.1, .ref aCome, .ref aRivals, .ref aGone, .ref aOrder, .ref aOffAt, .ref aIsOff, .ref aAlone, .ref aKept]) → fl335 aWorlds = .inl (g 1, 8000, .inr (.inl vWorlds)) → fl335 aInWorld = .inl (g 0, 8, .inl vInWorld) → fl335 aKind = .inl (g 0, 30, .inl z33.2.2.1) → fl335 aSize = .inl (g 0, 30, .inl z259.1) → fl335 aMarks = .inl (g 0, 30, .inl z33.2.2.2.2.1) → fl335 aSeed = .inl (g 0, 30, .inl z33.2.2.2.2.2.1) → fl335 aContents = .inl (g 1, 30000, .inr (.inl z42.1)) → fl335 aContentMany = .inl (g 0, 30, .inl z42.2) → fl335 aRow = .inl (g 0, 122880, .inl z33.2.2.2.2.2.2.2.1) → fl335 aBits = .inl (g 0, 76800, .inl z259.2.1) → fl335 aLayerSize = .inl (g 0, 600, .inl z259.2.2.1) → fl335 aLayerCame = .inl (g 0, 600, .inl z259.2.2.2) → fl335 aRest = .inl (g 1, 30000, .inr (.inl caRest_162)) → fl335 aRestMany = .inl (g 0, 30, .inl caRestMany_162) → fl335 aCome = .inl (g 1, 1000, .inr (.inl caCome_162)) → fl335 aRivals = .inl (g 1, 1000, .inr (.inl o335.2)) → fl335 aGone = .inl (g 1, 1000, .inr (.inl o268.2.2)) → fl335 aOrder = .inl (g 0, 1000, .inl vOrder) → fl335 aOffAt = .inl (g 0, 1000, .inl vOffAt) → fl335 aIsOff = .inl (g 2, 1000, .inl vIsOff) → fl335 aAlone = .inl (g 0, 4096, .inl vAlone) → fl335 aKept = .inl (g 0, 4096, .inl vKept) → (∀ b, b ∈ L → b ≠ y → b ≠ aKind → b ≠ aSize → b ≠ aMarks → b ≠ aSeed → b ≠ aContents → b ≠ aContentMany → b ≠ aRow → b ≠ aBits → b ≠ aLayerSize → b ≠ aLayerCame → b ≠ aRest → b ≠ aRestMany → b ≠ aCome → b ≠ aRivals → b ≠ aGone → fl335 b = f b) → lv_has ls 11 [(6, .int x5_162), (7, .int (0 : Int32)), (9, .int o268.2.1), (8, .int x8_162), (4, .int z33.1), (0, .ref y)] → W p l e { frames := 2, cells := 0, slots := 0, locals := 57 } s m [.ref y, .int wi, .int wa, .int by_].toArray below meth c H locs 0 0 QQ (F0 m 362 ls []) := by
                            intro fl335 H locs ls S e_y e_aWorlds e_aInWorld e_aKind e_aSize e_aMarks e_aSeed e_aContents e_aContentMany e_aRow e_aBits e_aLayerSize e_aLayerCame e_aRest e_aRestMany e_aCome e_aRivals e_aGone e_aOrder e_aOffAt e_aIsOff e_aAlone e_aKept fr hl
                            refine lv_iload hx hb dX9_layered_362 (lv_at hl 2 rfl) ?_
                            refine lv_istore (lv' := [(5, .int o268.2.1), (6, .int x5_162), (7, .int (0 : Int32)), (9, .int o268.2.1), (8, .int x8_162), (4, .int z33.1), (0, .ref y)]) hx hb dX9_layered_364 hl (by decide) rfl (fun ls hl => ?_)
                            refine lv_iconst (v := (0 : Int32)) hx hb dX9_layered_366 (by decide) ?_
                            refine lv_istore (lv' := [(10, .int (0 : Int32)), (5, .int o268.2.1), (6, .int x5_162), (7, .int (0 : Int32)), (9, .int o268.2.1), (8, .int x8_162), (4, .int z33.1), (0, .ref y)]) hx hb dX9_layered_367 hl (by decide) rfl (fun ls hl => ?_)
                            obtain ⟨o369, ho369, ho162⟩ := bind_some ho162
                            have EX369 : ∀ (fl369 : Nat → va_E) (H : Heap) (locs : List Loc) (ls : Array Slot), PS D g (va_A (va_pl L f) szz) s.heap s L fl369 H locs → fl369 y = .inr (7, [.ref aWorlds, .ref aInWorld, .ref aKind, .ref aSize, .ref aMarks, .ref aSeed, .ref aContents, .ref aContentMany, .ref aRow, .ref aBits, .ref aLayerSize, .ref aLayerCame, .ref aRest, .ref aRestMany, .int z33.2.1, .ref aCome, .ref aRivals, .ref aGone, .ref aOrder, .ref aOffAt, .ref aIsOff, .ref aAlone, .ref aKept]) → fl369 aWorlds = .inl (g 1, 8000, .inr (.inl vWorlds)) → fl369 aInWorld = .inl (g 0, 8, .inl vInWorld) → fl369 aKind = .inl (g 0, 30, .inl z33.2.2.1) → fl369 aSize = .inl (g 0, 30, .inl z259.1) → fl369 aMarks = .inl (g 0, 30, .inl z33.2.2.2.2.1) → fl369 aSeed = .inl (g 0, 30, .inl z33.2.2.2.2.2.1) → fl369 aContents = .inl (g 1, 30000, .inr (.inl z42.1)) → fl369 aContentMany = .inl (g 0, 30, .inl z42.2) → fl369 aRow = .inl (g 0, 122880, .inl z33.2.2.2.2.2.2.2.1) → fl369 aBits = .inl (g 0, 76800, .inl z259.2.1) → fl369 aLayerSize = .inl (g 0, 600, .inl z259.2.2.1) → fl369 aLayerCame = .inl (g 0, 600, .inl z259.2.2.2) → fl369 aRest = .inl (g 1, 30000, .inr (.inl caRest_162)) → fl369 aRestMany = .inl (g 0, 30, .inl caRestMany_162) → fl369 aCome = .inl (g 1, 1000, .inr (.inl o369.2)) → fl369 aRivals = .inl (g 1, 1000, .inr (.inl o335.2)) → fl369 aGone = .inl (g 1, 1000, .inr (.inl o268.2.2)) → fl369 aOrder = .inl (g 0, 1000, .inl vOrder) → fl369 aOffAt = .inl (g 0, 1000, .inl vOffAt) → fl369 aIsOff = .inl (g 2, 1000, .inl vIsOff) → fl369 aAlone = .inl (g 0, 4096, .inl vAlone) → fl369 aKept = .inl (g 0, 4096, .inl vKept) → (∀ b, b ∈ L → b ≠ y → b ≠ aKind → b ≠ aSize → b ≠ aMarks → b ≠ aSeed → b ≠ aContents → b ≠ aContentMany → b ≠ aRow → b ≠ aBits → b ≠ aLayerSize → b ≠ aLayerCame → b ≠ aRest → b ≠ aRestMany → b ≠ aCome → b ≠ aRivals → b ≠ aGone → fl369 b = f b) → lv_has ls 11 [(5, .int o268.2.1), (6, .int x5_162), (7, .int (0 : Int32)), (8, .int x8_162), (4, .int z33.1), (0, .ref y)] → W p l e { frames := 2, cells := 0, slots := 0, locals := 57 } s m [.ref y, .int wi, .int wa, .int by_].toArray below meth c H locs 0 0 QQ (F0 m 396 ls []) := by
                              intro fl369 H locs ls S e_y e_aWorlds e_aInWorld e_aKind e_aSize e_aMarks e_aSeed e_aContents e_aContentMany e_aRow e_aBits e_aLayerSize e_aLayerCame e_aRest e_aRestMany e_aCome e_aRivals e_aGone e_aOrder e_aOffAt e_aIsOff e_aAlone e_aKept fr hl
                              refine lv_iinc (v := (x8_162 + 1)) (lv' := [(8, .int (x8_162 + 1)), (5, .int o268.2.1), (6, .int x5_162), (7, .int (0 : Int32)), (4, .int z33.1), (0, .ref y)]) hx hb dX9_layered_396 hl (k := 3) rfl rfl (by decide) rfl (fun ls hl => ?_)
                              refine lv_goto (tgt := 162) hx hb dX9_layered_399 (by decide) ?_
                              exact ih162 (x8_162 + 1) (0 : Int32) x5_162 o268.2.1 z259.1 z259.2.1 z259.2.2.1 z259.2.2.2 caRest_162 caRestMany_162 o369.2 o335.2 o268.2.2 fl369 _ _ _ ho162 S e_y e_aWorlds e_aInWorld e_aKind e_aSize e_aMarks e_aSeed e_aContents e_aContentMany e_aRow e_aBits e_aLayerSize e_aLayerCame e_aRest e_aRestMany e_aCome e_aRivals e_aGone e_aOrder e_aOffAt e_aIsOff e_aAlone e_aKept fr (lv_sub hl [0, 3, 2, 1, 4, 5] rfl)
                            have LP369 : ∀ (fu : Nat) (x10_369 : Int32) (caCome_369 : Nat → Int64) (fl369 : Nat → va_E) (H : Heap) (locs : List Loc) (ls : Array Slot), (mX9_layered_L369 o268) fu x10_369 caCome_369 = some o369 → PS D g (va_A (va_pl L f) szz) s.heap s L fl369 H locs → fl369 y = .inr (7, [.ref aWorlds, .ref aInWorld, .ref aKind, .ref aSize, .ref aMarks, .ref aSeed, .ref aContents, .ref aContentMany, .ref aRow, .ref aBits, .ref aLayerSize, .ref aLayerCame, .ref aRest, .ref aRestMany, .int z33.2.1, .ref aCome, .ref aRivals, .ref aGone, .ref aOrder, .ref aOffAt, .ref aIsOff, .ref aAlone, .ref aKept]) → fl369 aWorlds = .inl (g 1, 8000, .inr (.inl vWorlds)) → fl369 aInWorld = .inl (g 0, 8, .inl vInWorld) → fl369 aKind = .inl (g 0, 30, .inl z33.2.2.1) → fl369 aSize = .inl (g 0, 30, .inl z259.1) → fl369 aMarks = .inl (g 0, 30, .inl z33.2.2.2.2.1) → fl369 aSeed = .inl (g 0, 30, .inl z33.2.2.2.2.2.1) → fl369 aContents = .inl (g 1, 30000, .inr (.inl z42.1)) → fl369 aContentMany = .inl (g 0, 30, .inl z42.2) → fl369 aRow = .inl (g 0, 122880, .inl z33.2.2.2.2.2.2.2.1) → fl369 aBits = .inl (g 0, 76800, .inl z259.2.1) → fl369 aLayerSize = .inl (g 0, 600, .inl z259.2.2.1) → fl369 aLayerCame = .inl (g 0, 600, .inl z259.2.2.2) → fl369 aRest = .inl (g 1, 30000, .inr (.inl caRest_162)) → fl369 aRestMany = .inl (g 0, 30, .inl caRestMany_162) → fl369 aCome = .inl (g 1, 1000, .inr (.inl caCome_369)) → fl369 aRivals = .inl (g 1, 1000, .inr (.inl o335.2)) → fl369 aGone = .inl (g 1, 1000, .inr (.inl o268.2.2)) → fl369 aOrder = .inl (g 0, 1000, .inl vOrder) → fl369 aOffAt = .inl (g 0, 1000, .inl vOffAt) → fl369 aIsOff = .inl (g 2, 1000, .inl vIsOff) → fl369 aAlone = .inl (g 0, 4096, .inl vAlone) → fl369 aKept = .inl (g 0, 4096, .inl vKept) → (∀ b, b ∈ L → b ≠ y → b ≠ aKind → b ≠ aSize → b ≠ aMarks → b ≠ aSeed → b ≠ aContents → b ≠ aContentMany → b ≠ aRow → b ≠ aBits → b ≠ aLayerSize → b ≠ aLayerCame → b ≠ aRest → b ≠ aRestMany → b ≠ aCome → b ≠ aRivals → b ≠ aGone → fl369 b = f b) → lv_has ls 11 [(10, .int x10_369), (5, .int o268.2.1), (6, .int x5_162), (7, .int (0 : Int32)), (8, .int x8_162), (4, .int z33.1), (0, .ref y)] → W p l e { frames := 2, cells := 0, slots := 0, locals := 57 } s m [.ref y, .int wi, .int wa, .int by_].toArray below meth c H locs 0 0 QQ (F0 m 369 ls []) := by
                              intro fu
                              induction fu with
                              | zero => intro x10_369 caCome_369 fl369 H locs ls ho369 S e_y e_aWorlds e_aInWorld e_aKind e_aSize e_aMarks e_aSeed e_aContents e_aContentMany e_aRow e_aBits e_aLayerSize e_aLayerCame e_aRest e_aRestMany e_aCome e_aRivals e_aGone e_aOrder e_aOffAt e_aIsOff e_aAlone e_aKept fr hl; exact no_some ho369
                              | succ fu ih369 =>
                                intro x10_369 caCome_369 fl369 H locs ls ho369 S e_y e_aWorlds e_aInWorld e_aKind e_aSize e_aMarks e_aSeed e_aContents e_aContentMany e_aRow e_aBits e_aLayerSize e_aLayerCame e_aRest e_aRestMany e_aCome e_aRivals e_aGone e_aOrder e_aOffAt e_aIsOff e_aAlone e_aKept fr hl
                                rw [mX9_layered_L369] at ho369
                                refine lv_iload hx hb dX9_layered_369 (lv_at hl 0 rfl) ?_
                                refine lv_iload hx hb dX9_layered_371 (lv_at hl 1 rfl) ?_
                                refine lv_icmp_ge (tgt := 396) hx hb dX9_layered_373 (by decide) (fun b373 => ?_) (fun b373 => ?_)
                                · have ho369 := itT b373 ho369
                                  obtain rfl := Option.some.inj ho369
                                  exact EX369 fl369 _ _ _ S e_y e_aWorlds e_aInWorld e_aKind e_aSize e_aMarks e_aSeed e_aContents e_aContentMany e_aRow e_aBits e_aLayerSize e_aLayerCame e_aRest e_aRestMany e_aCome e_aRivals e_aGone e_aOrder e_aOffAt e_aIsOff e_aAlone e_aKept fr (lv_sub hl [1, 2, 3, 4, 5, 6] rfl)
                                · have ho369 := itF b373 ho369
                                  refine lv_aload_n hx hb dX9_layered_376 rfl (lv_at hl 6 rfl) ?_
                                  refine q_get hx hb hts in_X9 hown S m_y e_y (C := RX9) (T := TX9) (N := 23) rfl 15 (by decide) rfl (hts (.fieldLink RX9 55 "SieveCabinetModel" "come" "[J") (by decide +kernel)) dX9_layered_377 ?_
                                  refine lv_iload hx hb dX9_layered_380 (lv_at hl 0 rfl) ?_
                                  refine lv_aload_n hx hb dX9_layered_382 rfl (lv_at hl 6 rfl) ?_
                                  refine q_get hx hb hts in_X9 hown S m_y e_y (C := RX9) (T := TX9) (N := 23) rfl 17 (by decide) rfl (hts (.fieldLink RX9 61 "SieveCabinetModel" "gone" "[J") (by decide +kernel)) dX9_layered_383 ?_
                                  refine lv_iload hx hb dX9_layered_386 (lv_at hl 0 rfl) ?_
                                  obtain ⟨hi388, ho369⟩ := ckx ho369
                                  refine q_lald hx hb S m_aGone e_aGone hi388 dX9_layered_388 ?_
                                  obtain ⟨hi389, ho369⟩ := ckx ho369
                                  refine k_last hx hb S m_aCome e_aCome hi389 dX9_layered_389 (fun f18 ef18 H locs S => ?_)
                                  have e_aCome := up_self ef18
                                  have fr : ∀ b, b ∈ L → b ≠ y → b ≠ aKind → b ≠ aSize → b ≠ aMarks → b ≠ aSeed → b ≠ aContents → b ≠ aContentMany → b ≠ aRow → b ≠ aBits → b ≠ aLayerSize → b ≠ aLayerCame → b ≠ aRest → b ≠ aRestMany → b ≠ aCome → b ≠ aRivals → b ≠ aGone → f18 b = f b := fun b mb nb0 nb1 nb2 nb3 nb4 nb5 nb6 nb7 nb8 nb9 nb10 nb11 nb12 nb13 nb14 nb15 => (up_ne ef18 nb13 rfl).trans (fr b mb nb0 nb1 nb2 nb3 nb4 nb5 nb6 nb7 nb8 nb9 nb10 nb11 nb12 nb13 nb14 nb15)
                                  refine lv_iinc (v := (x10_369 + 1)) (lv' := [(10, .int (x10_369 + 1)), (5, .int o268.2.1), (6, .int x5_162), (7, .int (0 : Int32)), (8, .int x8_162), (4, .int z33.1), (0, .ref y)]) hx hb dX9_layered_390 hl (k := 0) rfl rfl (by decide) rfl (fun ls hl => ?_)
                                  refine lv_goto (tgt := 369) hx hb dX9_layered_393 (by decide) ?_
                                  have e_y := (up_ne ef18 n_y_aCome e_y)
                                  have e_aWorlds := (up_ne ef18 n_aWorlds_aCome e_aWorlds)
                                  have e_aInWorld := (up_ne ef18 n_aInWorld_aCome e_aInWorld)
                                  have e_aKind := (up_ne ef18 n_aKind_aCome e_aKind)
                                  have e_aSize := (up_ne ef18 n_aSize_aCome e_aSize)
                                  have e_aMarks := (up_ne ef18 n_aMarks_aCome e_aMarks)
                                  have e_aSeed := (up_ne ef18 n_aSeed_aCome e_aSeed)
                                  have e_aContents := (up_ne ef18 n_aContents_aCome e_aContents)
                                  have e_aContentMany := (up_ne ef18 n_aContentMany_aCome e_aContentMany)
                                  have e_aRow := (up_ne ef18 n_aRow_aCome e_aRow)
                                  have e_aBits := (up_ne ef18 n_aBits_aCome e_aBits)
                                  have e_aLayerSize := (up_ne ef18 n_aLayerSize_aCome e_aLayerSize)
                                  have e_aLayerCame := (up_ne ef18 n_aLayerCame_aCome e_aLayerCame)
                                  have e_aRest := (up_ne ef18 n_aRest_aCome e_aRest)
                                  have e_aRestMany := (up_ne ef18 n_aRestMany_aCome e_aRestMany)
                                  have e_aRivals := (up_ne ef18 n_aRivals_aCome e_aRivals)
                                  have e_aGone := (up_ne ef18 n_aGone_aCome e_aGone)
                                  have e_aOrder := (up_ne ef18 n_aOrder_aCome e_aOrder)
                                  have e_aOffAt := (up_ne ef18 n_aOffAt_aCome e_aOffAt)
                                  have e_aIsOff := (up_ne ef18 n_aIsOff_aCome e_aIsOff)
                                  have e_aAlone := (up_ne ef18 n_aAlone_aCome e_aAlone)
                                  have e_aKept := (up_ne ef18 n_aKept_aCome e_aKept)
                                  exact ih369 (x10_369 + 1) (vp_updL caCome_369 (Int32.toNatClampNeg x10_369) (o268.2.2 (Int32.toNatClampNeg x10_369))) f18 _ _ _ ho369 S e_y e_aWorlds e_aInWorld e_aKind e_aSize e_aMarks e_aSeed e_aContents e_aContentMany e_aRow e_aBits e_aLayerSize e_aLayerCame e_aRest e_aRestMany e_aCome e_aRivals e_aGone e_aOrder e_aOffAt e_aIsOff e_aAlone e_aKept fr (lv_sub hl [0, 1, 2, 3, 4, 5, 6] rfl)
                            exact LP369 FU (0 : Int32) caCome_162 fl335 _ _ _ ho369 S e_y e_aWorlds e_aInWorld e_aKind e_aSize e_aMarks e_aSeed e_aContents e_aContentMany e_aRow e_aBits e_aLayerSize e_aLayerCame e_aRest e_aRestMany e_aCome e_aRivals e_aGone e_aOrder e_aOffAt e_aIsOff e_aAlone e_aKept fr (lv_sub hl [0, 1, 2, 3, 5, 6, 7] rfl)
                          have LP335 : ∀ (fu : Nat) (x10_335 : Int32) (caRivals_335 : Nat → Int64) (fl335 : Nat → va_E) (H : Heap) (locs : List Loc) (ls : Array Slot), (mX9_layered_L335 x5_162 caCome_162) fu x10_335 caRivals_335 = some o335 → PS D g (va_A (va_pl L f) szz) s.heap s L fl335 H locs → fl335 y = .inr (7, [.ref aWorlds, .ref aInWorld, .ref aKind, .ref aSize, .ref aMarks, .ref aSeed, .ref aContents, .ref aContentMany, .ref aRow, .ref aBits, .ref aLayerSize, .ref aLayerCame, .ref aRest, .ref aRestMany, .int z33.2.1, .ref aCome, .ref aRivals, .ref aGone, .ref aOrder, .ref aOffAt, .ref aIsOff, .ref aAlone, .ref aKept]) → fl335 aWorlds = .inl (g 1, 8000, .inr (.inl vWorlds)) → fl335 aInWorld = .inl (g 0, 8, .inl vInWorld) → fl335 aKind = .inl (g 0, 30, .inl z33.2.2.1) → fl335 aSize = .inl (g 0, 30, .inl z259.1) → fl335 aMarks = .inl (g 0, 30, .inl z33.2.2.2.2.1) → fl335 aSeed = .inl (g 0, 30, .inl z33.2.2.2.2.2.1) → fl335 aContents = .inl (g 1, 30000, .inr (.inl z42.1)) → fl335 aContentMany = .inl (g 0, 30, .inl z42.2) → fl335 aRow = .inl (g 0, 122880, .inl z33.2.2.2.2.2.2.2.1) → fl335 aBits = .inl (g 0, 76800, .inl z259.2.1) → fl335 aLayerSize = .inl (g 0, 600, .inl z259.2.2.1) → fl335 aLayerCame = .inl (g 0, 600, .inl z259.2.2.2) → fl335 aRest = .inl (g 1, 30000, .inr (.inl caRest_162)) → fl335 aRestMany = .inl (g 0, 30, .inl caRestMany_162) → fl335 aCome = .inl (g 1, 1000, .inr (.inl caCome_162)) → fl335 aRivals = .inl (g 1, 1000, .inr (.inl caRivals_335)) → fl335 aGone = .inl (g 1, 1000, .inr (.inl o268.2.2)) → fl335 aOrder = .inl (g 0, 1000, .inl vOrder) → fl335 aOffAt = .inl (g 0, 1000, .inl vOffAt) → fl335 aIsOff = .inl (g 2, 1000, .inl vIsOff) → fl335 aAlone = .inl (g 0, 4096, .inl vAlone) → fl335 aKept = .inl (g 0, 4096, .inl vKept) → (∀ b, b ∈ L → b ≠ y → b ≠ aKind → b ≠ aSize → b ≠ aMarks → b ≠ aSeed → b ≠ aContents → b ≠ aContentMany → b ≠ aRow → b ≠ aBits → b ≠ aLayerSize → b ≠ aLayerCame → b ≠ aRest → b ≠ aRestMany → b ≠ aCome → b ≠ aRivals → b ≠ aGone → fl335 b = f b) → lv_has ls 11 [(10, .int x10_335), (6, .int x5_162), (7, .int (0 : Int32)), (9, .int o268.2.1), (8, .int x8_162), (5, .int x5_162), (4, .int z33.1), (0, .ref y)] → W p l e { frames := 2, cells := 0, slots := 0, locals := 57 } s m [.ref y, .int wi, .int wa, .int by_].toArray below meth c H locs 0 0 QQ (F0 m 335 ls []) := by
                            intro fu
                            induction fu with
                            | zero => intro x10_335 caRivals_335 fl335 H locs ls ho335 S e_y e_aWorlds e_aInWorld e_aKind e_aSize e_aMarks e_aSeed e_aContents e_aContentMany e_aRow e_aBits e_aLayerSize e_aLayerCame e_aRest e_aRestMany e_aCome e_aRivals e_aGone e_aOrder e_aOffAt e_aIsOff e_aAlone e_aKept fr hl; exact no_some ho335
                            | succ fu ih335 =>
                              intro x10_335 caRivals_335 fl335 H locs ls ho335 S e_y e_aWorlds e_aInWorld e_aKind e_aSize e_aMarks e_aSeed e_aContents e_aContentMany e_aRow e_aBits e_aLayerSize e_aLayerCame e_aRest e_aRestMany e_aCome e_aRivals e_aGone e_aOrder e_aOffAt e_aIsOff e_aAlone e_aKept fr hl
                              rw [mX9_layered_L335] at ho335
                              refine lv_iload hx hb dX9_layered_335 (lv_at hl 0 rfl) ?_
                              refine lv_iload hx hb dX9_layered_337 (lv_at hl 5 rfl) ?_
                              refine lv_icmp_ge (tgt := 362) hx hb dX9_layered_339 (by decide) (fun b339 => ?_) (fun b339 => ?_)
                              · have ho335 := itT b339 ho335
                                obtain rfl := Option.some.inj ho335
                                exact EX335 fl335 _ _ _ S e_y e_aWorlds e_aInWorld e_aKind e_aSize e_aMarks e_aSeed e_aContents e_aContentMany e_aRow e_aBits e_aLayerSize e_aLayerCame e_aRest e_aRestMany e_aCome e_aRivals e_aGone e_aOrder e_aOffAt e_aIsOff e_aAlone e_aKept fr (lv_sub hl [1, 2, 3, 4, 6, 7] rfl)
                              · have ho335 := itF b339 ho335
                                refine lv_aload_n hx hb dX9_layered_342 rfl (lv_at hl 7 rfl) ?_
                                refine q_get hx hb hts in_X9 hown S m_y e_y (C := RX9) (T := TX9) (N := 23) rfl 16 (by decide) rfl (hts (.fieldLink RX9 58 "SieveCabinetModel" "rivals" "[J") (by decide +kernel)) dX9_layered_343 ?_
                                refine lv_iload hx hb dX9_layered_346 (lv_at hl 0 rfl) ?_
                                refine lv_aload_n hx hb dX9_layered_348 rfl (lv_at hl 7 rfl) ?_
                                refine q_get hx hb hts in_X9 hown S m_y e_y (C := RX9) (T := TX9) (N := 23) rfl 15 (by decide) rfl (hts (.fieldLink RX9 55 "SieveCabinetModel" "come" "[J") (by decide +kernel)) dX9_layered_349 ?_
                                refine lv_iload hx hb dX9_layered_352 (lv_at hl 0 rfl) ?_
                                obtain ⟨hi354, ho335⟩ := ckx ho335
                                refine q_lald hx hb S m_aCome e_aCome hi354 dX9_layered_354 ?_
                                obtain ⟨hi355, ho335⟩ := ckx ho335
                                refine k_last hx hb S m_aRivals e_aRivals hi355 dX9_layered_355 (fun f19 ef19 H locs S => ?_)
                                have e_aRivals := up_self ef19
                                have fr : ∀ b, b ∈ L → b ≠ y → b ≠ aKind → b ≠ aSize → b ≠ aMarks → b ≠ aSeed → b ≠ aContents → b ≠ aContentMany → b ≠ aRow → b ≠ aBits → b ≠ aLayerSize → b ≠ aLayerCame → b ≠ aRest → b ≠ aRestMany → b ≠ aCome → b ≠ aRivals → b ≠ aGone → f19 b = f b := fun b mb nb0 nb1 nb2 nb3 nb4 nb5 nb6 nb7 nb8 nb9 nb10 nb11 nb12 nb13 nb14 nb15 => (up_ne ef19 nb14 rfl).trans (fr b mb nb0 nb1 nb2 nb3 nb4 nb5 nb6 nb7 nb8 nb9 nb10 nb11 nb12 nb13 nb14 nb15)
                                refine lv_iinc (v := (x10_335 + 1)) (lv' := [(10, .int (x10_335 + 1)), (6, .int x5_162), (7, .int (0 : Int32)), (9, .int o268.2.1), (8, .int x8_162), (5, .int x5_162), (4, .int z33.1), (0, .ref y)]) hx hb dX9_layered_356 hl (k := 0) rfl rfl (by decide) rfl (fun ls hl => ?_)
                                refine lv_goto (tgt := 335) hx hb dX9_layered_359 (by decide) ?_
                                have e_y := (up_ne ef19 n_y_aRivals e_y)
                                have e_aWorlds := (up_ne ef19 n_aWorlds_aRivals e_aWorlds)
                                have e_aInWorld := (up_ne ef19 n_aInWorld_aRivals e_aInWorld)
                                have e_aKind := (up_ne ef19 n_aKind_aRivals e_aKind)
                                have e_aSize := (up_ne ef19 n_aSize_aRivals e_aSize)
                                have e_aMarks := (up_ne ef19 n_aMarks_aRivals e_aMarks)
                                have e_aSeed := (up_ne ef19 n_aSeed_aRivals e_aSeed)
                                have e_aContents := (up_ne ef19 n_aContents_aRivals e_aContents)
                                have e_aContentMany := (up_ne ef19 n_aContentMany_aRivals e_aContentMany)
                                have e_aRow := (up_ne ef19 n_aRow_aRivals e_aRow)
                                have e_aBits := (up_ne ef19 n_aBits_aRivals e_aBits)
                                have e_aLayerSize := (up_ne ef19 n_aLayerSize_aRivals e_aLayerSize)
                                have e_aLayerCame := (up_ne ef19 n_aLayerCame_aRivals e_aLayerCame)
                                have e_aRest := (up_ne ef19 n_aRest_aRivals e_aRest)
                                have e_aRestMany := (up_ne ef19 n_aRestMany_aRivals e_aRestMany)
                                have e_aCome := (up_ne ef19 n_aCome_aRivals e_aCome)
                                have e_aGone := (up_ne ef19 n_aGone_aRivals e_aGone)
                                have e_aOrder := (up_ne ef19 n_aOrder_aRivals e_aOrder)
                                have e_aOffAt := (up_ne ef19 n_aOffAt_aRivals e_aOffAt)
                                have e_aIsOff := (up_ne ef19 n_aIsOff_aRivals e_aIsOff)
                                have e_aAlone := (up_ne ef19 n_aAlone_aRivals e_aAlone)
                                have e_aKept := (up_ne ef19 n_aKept_aRivals e_aKept)
                                exact ih335 (x10_335 + 1) (vp_updL caRivals_335 (Int32.toNatClampNeg x10_335) (caCome_162 (Int32.toNatClampNeg x10_335))) f19 _ _ _ ho335 S e_y e_aWorlds e_aInWorld e_aKind e_aSize e_aMarks e_aSeed e_aContents e_aContentMany e_aRow e_aBits e_aLayerSize e_aLayerCame e_aRest e_aRestMany e_aCome e_aRivals e_aGone e_aOrder e_aOffAt e_aIsOff e_aAlone e_aKept fr (lv_sub hl [0, 1, 2, 3, 4, 5, 6, 7] rfl)
                          exact LP335 FU (0 : Int32) caRivals_162 fl268 _ _ _ ho335 S e_y e_aWorlds e_aInWorld e_aKind e_aSize e_aMarks e_aSeed e_aContents e_aContentMany e_aRow e_aBits e_aLayerSize e_aLayerCame e_aRest e_aRestMany e_aCome e_aRivals e_aGone e_aOrder e_aOffAt e_aIsOff e_aAlone e_aKept fr (lv_sub hl [0, 1, 2, 3, 4, 5, 6, 7] rfl)
                        · have ho162 := itF b318 ho162
                          refine lv_iconst (v := (1 : Int32)) hx hb dX9_layered_321 (by decide) ?_
                          refine lv_goto (tgt := 326) hx hb dX9_layered_322 (by decide) ?_
                          refine lv_istore (lv' := [(7, .int (1 : Int32)), (9, .int o268.2.1), (8, .int x8_162), (5, .int x5_162), (4, .int z33.1), (0, .ref y)]) hx hb dX9_layered_326 hl (by decide) rfl (fun ls hl => ?_)
                          refine lv_iload hx hb dX9_layered_328 (lv_at hl 3 rfl) ?_
                          refine lv_istore (lv' := [(6, .int x5_162), (7, .int (1 : Int32)), (9, .int o268.2.1), (8, .int x8_162), (5, .int x5_162), (4, .int z33.1), (0, .ref y)]) hx hb dX9_layered_330 hl (by decide) rfl (fun ls hl => ?_)
                          refine lv_iconst (v := (0 : Int32)) hx hb dX9_layered_332 (by decide) ?_
                          refine lv_istore (lv' := [(10, .int (0 : Int32)), (6, .int x5_162), (7, .int (1 : Int32)), (9, .int o268.2.1), (8, .int x8_162), (5, .int x5_162), (4, .int z33.1), (0, .ref y)]) hx hb dX9_layered_333 hl (by decide) rfl (fun ls hl => ?_)
                          obtain ⟨o335, ho335, ho162⟩ := bind_some ho162
                          have EX335 : ∀ (fl335 : Nat → va_E) (H : Heap) (locs : List Loc) (ls : Array Slot), PS D g (va_A (va_pl L f) szz) s.heap s L fl335 H locs → fl335 y = .inr (7, [.ref aWorlds, .ref aInWorld, .ref aKind, .ref aSize, .ref aMarks, .ref aSeed, .ref aContents, .ref aContentMany, .ref aRow, .ref aBits, .ref aLayerSize, .ref aLayerCame, .ref aRest, .ref aRestMany, .int z33.2.1, .ref aCome, .ref aRivals, .ref aGone, .ref aOrder, .ref aOffAt, .ref aIsOff, .ref aAlone, .ref aKept]) → fl335 aWorlds = .inl (g 1, 8000, .inr (.inl vWorlds)) → fl335 aInWorld = .inl (g 0, 8, .inl vInWorld) → fl335 aKind = .inl (g 0, 30, .inl z33.2.2.1) → fl335 aSize = .inl (g 0, 30, .inl z259.1) → fl335 aMarks = .inl (g 0, 30, .inl z33.2.2.2.2.1) → fl335 aSeed = .inl (g 0, 30, .inl z33.2.2.2.2.2.1) → fl335 aContents = .inl (g 1, 30000, .inr (.inl z42.1)) → fl335 aContentMany = .inl (g 0, 30, .inl z42.2) → fl335 aRow = .inl (g 0, 122880, .inl z33.2.2.2.2.2.2.2.1) → fl335 aBits = .inl (g 0, 76800, .inl z259.2.1) → fl335 aLayerSize = .inl (g 0, 600, .inl z259.2.2.1) → fl335 aLayerCame = .inl (g 0, 600, .inl z259.2.2.2) → fl335 aRest = .inl (g 1, 30000, .inr (.inl caRest_162)) → fl335 aRestMany = .inl (g 0, 30, .inl caRestMany_162) → fl335 aCome = .inl (g 1, 1000, .inr (.inl caCome_162)) → fl335 aRivals = .inl (g 1, 1000, .inr (.inl o335.2)) → fl335 aGone = .inl (g 1, 1000, .inr (.inl o268.2.2)) → fl335 aOrder = .inl (g 0, 1000, .inl vOrder) → fl335 aOffAt = .inl (g 0, 1000, .inl vOffAt) → fl335 aIsOff = .inl (g 2, 1000, .inl vIsOff) → fl335 aAlone = .inl (g 0, 4096, .inl vAlone) → fl335 aKept = .inl (g 0, 4096, .inl vKept) → (∀ b, b ∈ L → b ≠ y → b ≠ aKind → b ≠ aSize → b ≠ aMarks → b ≠ aSeed → b ≠ aContents → b ≠ aContentMany → b ≠ aRow → b ≠ aBits → b ≠ aLayerSize → b ≠ aLayerCame → b ≠ aRest → b ≠ aRestMany → b ≠ aCome → b ≠ aRivals → b ≠ aGone → fl335 b = f b) → lv_has ls 11 [(6, .int x5_162), (7, .int (1 : Int32)), (9, .int o268.2.1), (8, .int x8_162), (4, .int z33.1), (0, .ref y)] → W p l e { frames := 2, cells := 0, slots := 0, locals := 57 } s m [.ref y, .int wi, .int wa, .int by_].toArray below meth c H locs 0 0 QQ (F0 m 362 ls []) := by
                            intro fl335 H locs ls S e_y e_aWorlds e_aInWorld e_aKind e_aSize e_aMarks e_aSeed e_aContents e_aContentMany e_aRow e_aBits e_aLayerSize e_aLayerCame e_aRest e_aRestMany e_aCome e_aRivals e_aGone e_aOrder e_aOffAt e_aIsOff e_aAlone e_aKept fr hl
                            refine lv_iload hx hb dX9_layered_362 (lv_at hl 2 rfl) ?_
                            refine lv_istore (lv' := [(5, .int o268.2.1), (6, .int x5_162), (7, .int (1 : Int32)), (9, .int o268.2.1), (8, .int x8_162), (4, .int z33.1), (0, .ref y)]) hx hb dX9_layered_364 hl (by decide) rfl (fun ls hl => ?_)
                            refine lv_iconst (v := (0 : Int32)) hx hb dX9_layered_366 (by decide) ?_
                            refine lv_istore (lv' := [(10, .int (0 : Int32)), (5, .int o268.2.1), (6, .int x5_162), (7, .int (1 : Int32)), (9, .int o268.2.1), (8, .int x8_162), (4, .int z33.1), (0, .ref y)]) hx hb dX9_layered_367 hl (by decide) rfl (fun ls hl => ?_)
                            obtain ⟨o369, ho369, ho162⟩ := bind_some ho162
                            have EX369 : ∀ (fl369 : Nat → va_E) (H : Heap) (locs : List Loc) (ls : Array Slot), PS D g (va_A (va_pl L f) szz) s.heap s L fl369 H locs → fl369 y = .inr (7, [.ref aWorlds, .ref aInWorld, .ref aKind, .ref aSize, .ref aMarks, .ref aSeed, .ref aContents, .ref aContentMany, .ref aRow, .ref aBits, .ref aLayerSize, .ref aLayerCame, .ref aRest, .ref aRestMany, .int z33.2.1, .ref aCome, .ref aRivals, .ref aGone, .ref aOrder, .ref aOffAt, .ref aIsOff, .ref aAlone, .ref aKept]) → fl369 aWorlds = .inl (g 1, 8000, .inr (.inl vWorlds)) → fl369 aInWorld = .inl (g 0, 8, .inl vInWorld) → fl369 aKind = .inl (g 0, 30, .inl z33.2.2.1) → fl369 aSize = .inl (g 0, 30, .inl z259.1) → fl369 aMarks = .inl (g 0, 30, .inl z33.2.2.2.2.1) → fl369 aSeed = .inl (g 0, 30, .inl z33.2.2.2.2.2.1) → fl369 aContents = .inl (g 1, 30000, .inr (.inl z42.1)) → fl369 aContentMany = .inl (g 0, 30, .inl z42.2) → fl369 aRow = .inl (g 0, 122880, .inl z33.2.2.2.2.2.2.2.1) → fl369 aBits = .inl (g 0, 76800, .inl z259.2.1) → fl369 aLayerSize = .inl (g 0, 600, .inl z259.2.2.1) → fl369 aLayerCame = .inl (g 0, 600, .inl z259.2.2.2) → fl369 aRest = .inl (g 1, 30000, .inr (.inl caRest_162)) → fl369 aRestMany = .inl (g 0, 30, .inl caRestMany_162) → fl369 aCome = .inl (g 1, 1000, .inr (.inl o369.2)) → fl369 aRivals = .inl (g 1, 1000, .inr (.inl o335.2)) → fl369 aGone = .inl (g 1, 1000, .inr (.inl o268.2.2)) → fl369 aOrder = .inl (g 0, 1000, .inl vOrder) → fl369 aOffAt = .inl (g 0, 1000, .inl vOffAt) → fl369 aIsOff = .inl (g 2, 1000, .inl vIsOff) → fl369 aAlone = .inl (g 0, 4096, .inl vAlone) → fl369 aKept = .inl (g 0, 4096, .inl vKept) → (∀ b, b ∈ L → b ≠ y → b ≠ aKind → b ≠ aSize → b ≠ aMarks → b ≠ aSeed → b ≠ aContents → b ≠ aContentMany → b ≠ aRow → b ≠ aBits → b ≠ aLayerSize → b ≠ aLayerCame → b ≠ aRest → b ≠ aRestMany → b ≠ aCome → b ≠ aRivals → b ≠ aGone → fl369 b = f b) → lv_has ls 11 [(5, .int o268.2.1), (6, .int x5_162), (7, .int (1 : Int32)), (8, .int x8_162), (4, .int z33.1), (0, .ref y)] → W p l e { frames := 2, cells := 0, slots := 0, locals := 57 } s m [.ref y, .int wi, .int wa, .int by_].toArray below meth c H locs 0 0 QQ (F0 m 396 ls []) := by
                              intro fl369 H locs ls S e_y e_aWorlds e_aInWorld e_aKind e_aSize e_aMarks e_aSeed e_aContents e_aContentMany e_aRow e_aBits e_aLayerSize e_aLayerCame e_aRest e_aRestMany e_aCome e_aRivals e_aGone e_aOrder e_aOffAt e_aIsOff e_aAlone e_aKept fr hl
                              refine lv_iinc (v := (x8_162 + 1)) (lv' := [(8, .int (x8_162 + 1)), (5, .int o268.2.1), (6, .int x5_162), (7, .int (1 : Int32)), (4, .int z33.1), (0, .ref y)]) hx hb dX9_layered_396 hl (k := 3) rfl rfl (by decide) rfl (fun ls hl => ?_)
                              refine lv_goto (tgt := 162) hx hb dX9_layered_399 (by decide) ?_
                              exact ih162 (x8_162 + 1) (1 : Int32) x5_162 o268.2.1 z259.1 z259.2.1 z259.2.2.1 z259.2.2.2 caRest_162 caRestMany_162 o369.2 o335.2 o268.2.2 fl369 _ _ _ ho162 S e_y e_aWorlds e_aInWorld e_aKind e_aSize e_aMarks e_aSeed e_aContents e_aContentMany e_aRow e_aBits e_aLayerSize e_aLayerCame e_aRest e_aRestMany e_aCome e_aRivals e_aGone e_aOrder e_aOffAt e_aIsOff e_aAlone e_aKept fr (lv_sub hl [0, 3, 2, 1, 4, 5] rfl)
                            have LP369 : ∀ (fu : Nat) (x10_369 : Int32) (caCome_369 : Nat → Int64) (fl369 : Nat → va_E) (H : Heap) (locs : List Loc) (ls : Array Slot), (mX9_layered_L369 o268) fu x10_369 caCome_369 = some o369 → PS D g (va_A (va_pl L f) szz) s.heap s L fl369 H locs → fl369 y = .inr (7, [.ref aWorlds, .ref aInWorld, .ref aKind, .ref aSize, .ref aMarks, .ref aSeed, .ref aContents, .ref aContentMany, .ref aRow, .ref aBits, .ref aLayerSize, .ref aLayerCame, .ref aRest, .ref aRestMany, .int z33.2.1, .ref aCome, .ref aRivals, .ref aGone, .ref aOrder, .ref aOffAt, .ref aIsOff, .ref aAlone, .ref aKept]) → fl369 aWorlds = .inl (g 1, 8000, .inr (.inl vWorlds)) → fl369 aInWorld = .inl (g 0, 8, .inl vInWorld) → fl369 aKind = .inl (g 0, 30, .inl z33.2.2.1) → fl369 aSize = .inl (g 0, 30, .inl z259.1) → fl369 aMarks = .inl (g 0, 30, .inl z33.2.2.2.2.1) → fl369 aSeed = .inl (g 0, 30, .inl z33.2.2.2.2.2.1) → fl369 aContents = .inl (g 1, 30000, .inr (.inl z42.1)) → fl369 aContentMany = .inl (g 0, 30, .inl z42.2) → fl369 aRow = .inl (g 0, 122880, .inl z33.2.2.2.2.2.2.2.1) → fl369 aBits = .inl (g 0, 76800, .inl z259.2.1) → fl369 aLayerSize = .inl (g 0, 600, .inl z259.2.2.1) → fl369 aLayerCame = .inl (g 0, 600, .inl z259.2.2.2) → fl369 aRest = .inl (g 1, 30000, .inr (.inl caRest_162)) → fl369 aRestMany = .inl (g 0, 30, .inl caRestMany_162) → fl369 aCome = .inl (g 1, 1000, .inr (.inl caCome_369)) → fl369 aRivals = .inl (g 1, 1000, .inr (.inl o335.2)) → fl369 aGone = .inl (g 1, 1000, .inr (.inl o268.2.2)) → fl369 aOrder = .inl (g 0, 1000, .inl vOrder) → fl369 aOffAt = .inl (g 0, 1000, .inl vOffAt) → fl369 aIsOff = .inl (g 2, 1000, .inl vIsOff) → fl369 aAlone = .inl (g 0, 4096, .inl vAlone) → fl369 aKept = .inl (g 0, 4096, .inl vKept) → (∀ b, b ∈ L → b ≠ y → b ≠ aKind → b ≠ aSize → b ≠ aMarks → b ≠ aSeed → b ≠ aContents → b ≠ aContentMany → b ≠ aRow → b ≠ aBits → b ≠ aLayerSize → b ≠ aLayerCame → b ≠ aRest → b ≠ aRestMany → b ≠ aCome → b ≠ aRivals → b ≠ aGone → fl369 b = f b) → lv_has ls 11 [(10, .int x10_369), (5, .int o268.2.1), (6, .int x5_162), (7, .int (1 : Int32)), (8, .int x8_162), (4, .int z33.1), (0, .ref y)] → W p l e { frames := 2, cells := 0, slots := 0, locals := 57 } s m [.ref y, .int wi, .int wa, .int by_].toArray below meth c H locs 0 0 QQ (F0 m 369 ls []) := by
                              intro fu
                              induction fu with
                              | zero => intro x10_369 caCome_369 fl369 H locs ls ho369 S e_y e_aWorlds e_aInWorld e_aKind e_aSize e_aMarks e_aSeed e_aContents e_aContentMany e_aRow e_aBits e_aLayerSize e_aLayerCame e_aRest e_aRestMany e_aCome e_aRivals e_aGone e_aOrder e_aOffAt e_aIsOff e_aAlone e_aKept fr hl; exact no_some ho369
                              | succ fu ih369 =>
                                intro x10_369 caCome_369 fl369 H locs ls ho369 S e_y e_aWorlds e_aInWorld e_aKind e_aSize e_aMarks e_aSeed e_aContents e_aContentMany e_aRow e_aBits e_aLayerSize e_aLayerCame e_aRest e_aRestMany e_aCome e_aRivals e_aGone e_aOrder e_aOffAt e_aIsOff e_aAlone e_aKept fr hl
                                rw [mX9_layered_L369] at ho369
                                refine lv_iload hx hb dX9_layered_369 (lv_at hl 0 rfl) ?_
                                refine lv_iload hx hb dX9_layered_371 (lv_at hl 1 rfl) ?_
                                refine lv_icmp_ge (tgt := 396) hx hb dX9_layered_373 (by decide) (fun b373 => ?_) (fun b373 => ?_)
                                · have ho369 := itT b373 ho369
                                  obtain rfl := Option.some.inj ho369
                                  exact EX369 fl369 _ _ _ S e_y e_aWorlds e_aInWorld e_aKind e_aSize e_aMarks e_aSeed e_aContents e_aContentMany e_aRow e_aBits e_aLayerSize e_aLayerCame e_aRest e_aRestMany e_aCome e_aRivals e_aGone e_aOrder e_aOffAt e_aIsOff e_aAlone e_aKept fr (lv_sub hl [1, 2, 3, 4, 5, 6] rfl)
                                · have ho369 := itF b373 ho369
                                  refine lv_aload_n hx hb dX9_layered_376 rfl (lv_at hl 6 rfl) ?_
                                  refine q_get hx hb hts in_X9 hown S m_y e_y (C := RX9) (T := TX9) (N := 23) rfl 15 (by decide) rfl (hts (.fieldLink RX9 55 "SieveCabinetModel" "come" "[J") (by decide +kernel)) dX9_layered_377 ?_
                                  refine lv_iload hx hb dX9_layered_380 (lv_at hl 0 rfl) ?_
                                  refine lv_aload_n hx hb dX9_layered_382 rfl (lv_at hl 6 rfl) ?_
                                  refine q_get hx hb hts in_X9 hown S m_y e_y (C := RX9) (T := TX9) (N := 23) rfl 17 (by decide) rfl (hts (.fieldLink RX9 61 "SieveCabinetModel" "gone" "[J") (by decide +kernel)) dX9_layered_383 ?_
                                  refine lv_iload hx hb dX9_layered_386 (lv_at hl 0 rfl) ?_
                                  obtain ⟨hi388, ho369⟩ := ckx ho369
                                  refine q_lald hx hb S m_aGone e_aGone hi388 dX9_layered_388 ?_
                                  obtain ⟨hi389, ho369⟩ := ckx ho369
                                  refine k_last hx hb S m_aCome e_aCome hi389 dX9_layered_389 (fun f20 ef20 H locs S => ?_)
                                  have e_aCome := up_self ef20
                                  have fr : ∀ b, b ∈ L → b ≠ y → b ≠ aKind → b ≠ aSize → b ≠ aMarks → b ≠ aSeed → b ≠ aContents → b ≠ aContentMany → b ≠ aRow → b ≠ aBits → b ≠ aLayerSize → b ≠ aLayerCame → b ≠ aRest → b ≠ aRestMany → b ≠ aCome → b ≠ aRivals → b ≠ aGone → f20 b = f b := fun b mb nb0 nb1 nb2 nb3 nb4 nb5 nb6 nb7 nb8 nb9 nb10 nb11 nb12 nb13 nb14 nb15 => (up_ne ef20 nb13 rfl).trans (fr b mb nb0 nb1 nb2 nb3 nb4 nb5 nb6 nb7 nb8 nb9 nb10 nb11 nb12 nb13 nb14 nb15)
                                  refine lv_iinc (v := (x10_369 + 1)) (lv' := [(10, .int (x10_369 + 1)), (5, .int o268.2.1), (6, .int x5_162), (7, .int (1 : Int32)), (8, .int x8_162), (4, .int z33.1), (0, .ref y)]) hx hb dX9_layered_390 hl (k := 0) rfl rfl (by decide) rfl (fun ls hl => ?_)
                                  refine lv_goto (tgt := 369) hx hb dX9_layered_393 (by decide) ?_
                                  have e_y := (up_ne ef20 n_y_aCome e_y)
                                  have e_aWorlds := (up_ne ef20 n_aWorlds_aCome e_aWorlds)
                                  have e_aInWorld := (up_ne ef20 n_aInWorld_aCome e_aInWorld)
                                  have e_aKind := (up_ne ef20 n_aKind_aCome e_aKind)
                                  have e_aSize := (up_ne ef20 n_aSize_aCome e_aSize)
                                  have e_aMarks := (up_ne ef20 n_aMarks_aCome e_aMarks)
                                  have e_aSeed := (up_ne ef20 n_aSeed_aCome e_aSeed)
                                  have e_aContents := (up_ne ef20 n_aContents_aCome e_aContents)
                                  have e_aContentMany := (up_ne ef20 n_aContentMany_aCome e_aContentMany)
                                  have e_aRow := (up_ne ef20 n_aRow_aCome e_aRow)
                                  have e_aBits := (up_ne ef20 n_aBits_aCome e_aBits)
                                  have e_aLayerSize := (up_ne ef20 n_aLayerSize_aCome e_aLayerSize)
                                  have e_aLayerCame := (up_ne ef20 n_aLayerCame_aCome e_aLayerCame)
                                  have e_aRest := (up_ne ef20 n_aRest_aCome e_aRest)
                                  have e_aRestMany := (up_ne ef20 n_aRestMany_aCome e_aRestMany)
                                  have e_aRivals := (up_ne ef20 n_aRivals_aCome e_aRivals)
                                  have e_aGone := (up_ne ef20 n_aGone_aCome e_aGone)
                                  have e_aOrder := (up_ne ef20 n_aOrder_aCome e_aOrder)
                                  have e_aOffAt := (up_ne ef20 n_aOffAt_aCome e_aOffAt)
                                  have e_aIsOff := (up_ne ef20 n_aIsOff_aCome e_aIsOff)
                                  have e_aAlone := (up_ne ef20 n_aAlone_aCome e_aAlone)
                                  have e_aKept := (up_ne ef20 n_aKept_aCome e_aKept)
                                  exact ih369 (x10_369 + 1) (vp_updL caCome_369 (Int32.toNatClampNeg x10_369) (o268.2.2 (Int32.toNatClampNeg x10_369))) f20 _ _ _ ho369 S e_y e_aWorlds e_aInWorld e_aKind e_aSize e_aMarks e_aSeed e_aContents e_aContentMany e_aRow e_aBits e_aLayerSize e_aLayerCame e_aRest e_aRestMany e_aCome e_aRivals e_aGone e_aOrder e_aOffAt e_aIsOff e_aAlone e_aKept fr (lv_sub hl [0, 1, 2, 3, 4, 5, 6] rfl)
                            exact LP369 FU (0 : Int32) caCome_162 fl335 _ _ _ ho369 S e_y e_aWorlds e_aInWorld e_aKind e_aSize e_aMarks e_aSeed e_aContents e_aContentMany e_aRow e_aBits e_aLayerSize e_aLayerCame e_aRest e_aRestMany e_aCome e_aRivals e_aGone e_aOrder e_aOffAt e_aIsOff e_aAlone e_aKept fr (lv_sub hl [0, 1, 2, 3, 5, 6, 7] rfl)
                          have LP335 : ∀ (fu : Nat) (x10_335 : Int32) (caRivals_335 : Nat → Int64) (fl335 : Nat → va_E) (H : Heap) (locs : List Loc) (ls : Array Slot), (mX9_layered_L335 x5_162 caCome_162) fu x10_335 caRivals_335 = some o335 → PS D g (va_A (va_pl L f) szz) s.heap s L fl335 H locs → fl335 y = .inr (7, [.ref aWorlds, .ref aInWorld, .ref aKind, .ref aSize, .ref aMarks, .ref aSeed, .ref aContents, .ref aContentMany, .ref aRow, .ref aBits, .ref aLayerSize, .ref aLayerCame, .ref aRest, .ref aRestMany, .int z33.2.1, .ref aCome, .ref aRivals, .ref aGone, .ref aOrder, .ref aOffAt, .ref aIsOff, .ref aAlone, .ref aKept]) → fl335 aWorlds = .inl (g 1, 8000, .inr (.inl vWorlds)) → fl335 aInWorld = .inl (g 0, 8, .inl vInWorld) → fl335 aKind = .inl (g 0, 30, .inl z33.2.2.1) → fl335 aSize = .inl (g 0, 30, .inl z259.1) → fl335 aMarks = .inl (g 0, 30, .inl z33.2.2.2.2.1) → fl335 aSeed = .inl (g 0, 30, .inl z33.2.2.2.2.2.1) → fl335 aContents = .inl (g 1, 30000, .inr (.inl z42.1)) → fl335 aContentMany = .inl (g 0, 30, .inl z42.2) → fl335 aRow = .inl (g 0, 122880, .inl z33.2.2.2.2.2.2.2.1) → fl335 aBits = .inl (g 0, 76800, .inl z259.2.1) → fl335 aLayerSize = .inl (g 0, 600, .inl z259.2.2.1) → fl335 aLayerCame = .inl (g 0, 600, .inl z259.2.2.2) → fl335 aRest = .inl (g 1, 30000, .inr (.inl caRest_162)) → fl335 aRestMany = .inl (g 0, 30, .inl caRestMany_162) → fl335 aCome = .inl (g 1, 1000, .inr (.inl caCome_162)) → fl335 aRivals = .inl (g 1, 1000, .inr (.inl caRivals_335)) → fl335 aGone = .inl (g 1, 1000, .inr (.inl o268.2.2)) → fl335 aOrder = .inl (g 0, 1000, .inl vOrder) → fl335 aOffAt = .inl (g 0, 1000, .inl vOffAt) → fl335 aIsOff = .inl (g 2, 1000, .inl vIsOff) → fl335 aAlone = .inl (g 0, 4096, .inl vAlone) → fl335 aKept = .inl (g 0, 4096, .inl vKept) → (∀ b, b ∈ L → b ≠ y → b ≠ aKind → b ≠ aSize → b ≠ aMarks → b ≠ aSeed → b ≠ aContents → b ≠ aContentMany → b ≠ aRow → b ≠ aBits → b ≠ aLayerSize → b ≠ aLayerCame → b ≠ aRest → b ≠ aRestMany → b ≠ aCome → b ≠ aRivals → b ≠ aGone → fl335 b = f b) → lv_has ls 11 [(10, .int x10_335), (6, .int x5_162), (7, .int (1 : Int32)), (9, .int o268.2.1), (8, .int x8_162), (5, .int x5_162), (4, .int z33.1), (0, .ref y)] → W p l e { frames := 2, cells := 0, slots := 0, locals := 57 } s m [.ref y, .int wi, .int wa, .int by_].toArray below meth c H locs 0 0 QQ (F0 m 335 ls []) := by
                            intro fu
                            induction fu with
                            | zero => intro x10_335 caRivals_335 fl335 H locs ls ho335 S e_y e_aWorlds e_aInWorld e_aKind e_aSize e_aMarks e_aSeed e_aContents e_aContentMany e_aRow e_aBits e_aLayerSize e_aLayerCame e_aRest e_aRestMany e_aCome e_aRivals e_aGone e_aOrder e_aOffAt e_aIsOff e_aAlone e_aKept fr hl; exact no_some ho335
                            | succ fu ih335 =>
                              intro x10_335 caRivals_335 fl335 H locs ls ho335 S e_y e_aWorlds e_aInWorld e_aKind e_aSize e_aMarks e_aSeed e_aContents e_aContentMany e_aRow e_aBits e_aLayerSize e_aLayerCame e_aRest e_aRestMany e_aCome e_aRivals e_aGone e_aOrder e_aOffAt e_aIsOff e_aAlone e_aKept fr hl
                              rw [mX9_layered_L335] at ho335
                              refine lv_iload hx hb dX9_layered_335 (lv_at hl 0 rfl) ?_
                              refine lv_iload hx hb dX9_layered_337 (lv_at hl 5 rfl) ?_
                              refine lv_icmp_ge (tgt := 362) hx hb dX9_layered_339 (by decide) (fun b339 => ?_) (fun b339 => ?_)
                              · have ho335 := itT b339 ho335
                                obtain rfl := Option.some.inj ho335
                                exact EX335 fl335 _ _ _ S e_y e_aWorlds e_aInWorld e_aKind e_aSize e_aMarks e_aSeed e_aContents e_aContentMany e_aRow e_aBits e_aLayerSize e_aLayerCame e_aRest e_aRestMany e_aCome e_aRivals e_aGone e_aOrder e_aOffAt e_aIsOff e_aAlone e_aKept fr (lv_sub hl [1, 2, 3, 4, 6, 7] rfl)
                              · have ho335 := itF b339 ho335
                                refine lv_aload_n hx hb dX9_layered_342 rfl (lv_at hl 7 rfl) ?_
                                refine q_get hx hb hts in_X9 hown S m_y e_y (C := RX9) (T := TX9) (N := 23) rfl 16 (by decide) rfl (hts (.fieldLink RX9 58 "SieveCabinetModel" "rivals" "[J") (by decide +kernel)) dX9_layered_343 ?_
                                refine lv_iload hx hb dX9_layered_346 (lv_at hl 0 rfl) ?_
                                refine lv_aload_n hx hb dX9_layered_348 rfl (lv_at hl 7 rfl) ?_
                                refine q_get hx hb hts in_X9 hown S m_y e_y (C := RX9) (T := TX9) (N := 23) rfl 15 (by decide) rfl (hts (.fieldLink RX9 55 "SieveCabinetModel" "come" "[J") (by decide +kernel)) dX9_layered_349 ?_
                                refine lv_iload hx hb dX9_layered_352 (lv_at hl 0 rfl) ?_
                                obtain ⟨hi354, ho335⟩ := ckx ho335
                                refine q_lald hx hb S m_aCome e_aCome hi354 dX9_layered_354 ?_
                                obtain ⟨hi355, ho335⟩ := ckx ho335
                                refine k_last hx hb S m_aRivals e_aRivals hi355 dX9_layered_355 (fun f21 ef21 H locs S => ?_)
                                have e_aRivals := up_self ef21
                                have fr : ∀ b, b ∈ L → b ≠ y → b ≠ aKind → b ≠ aSize → b ≠ aMarks → b ≠ aSeed → b ≠ aContents → b ≠ aContentMany → b ≠ aRow → b ≠ aBits → b ≠ aLayerSize → b ≠ aLayerCame → b ≠ aRest → b ≠ aRestMany → b ≠ aCome → b ≠ aRivals → b ≠ aGone → f21 b = f b := fun b mb nb0 nb1 nb2 nb3 nb4 nb5 nb6 nb7 nb8 nb9 nb10 nb11 nb12 nb13 nb14 nb15 => (up_ne ef21 nb14 rfl).trans (fr b mb nb0 nb1 nb2 nb3 nb4 nb5 nb6 nb7 nb8 nb9 nb10 nb11 nb12 nb13 nb14 nb15)
                                refine lv_iinc (v := (x10_335 + 1)) (lv' := [(10, .int (x10_335 + 1)), (6, .int x5_162), (7, .int (1 : Int32)), (9, .int o268.2.1), (8, .int x8_162), (5, .int x5_162), (4, .int z33.1), (0, .ref y)]) hx hb dX9_layered_356 hl (k := 0) rfl rfl (by decide) rfl (fun ls hl => ?_)
                                refine lv_goto (tgt := 335) hx hb dX9_layered_359 (by decide) ?_
                                have e_y := (up_ne ef21 n_y_aRivals e_y)
                                have e_aWorlds := (up_ne ef21 n_aWorlds_aRivals e_aWorlds)
                                have e_aInWorld := (up_ne ef21 n_aInWorld_aRivals e_aInWorld)
                                have e_aKind := (up_ne ef21 n_aKind_aRivals e_aKind)
                                have e_aSize := (up_ne ef21 n_aSize_aRivals e_aSize)
                                have e_aMarks := (up_ne ef21 n_aMarks_aRivals e_aMarks)
                                have e_aSeed := (up_ne ef21 n_aSeed_aRivals e_aSeed)
                                have e_aContents := (up_ne ef21 n_aContents_aRivals e_aContents)
                                have e_aContentMany := (up_ne ef21 n_aContentMany_aRivals e_aContentMany)
                                have e_aRow := (up_ne ef21 n_aRow_aRivals e_aRow)
                                have e_aBits := (up_ne ef21 n_aBits_aRivals e_aBits)
                                have e_aLayerSize := (up_ne ef21 n_aLayerSize_aRivals e_aLayerSize)
                                have e_aLayerCame := (up_ne ef21 n_aLayerCame_aRivals e_aLayerCame)
                                have e_aRest := (up_ne ef21 n_aRest_aRivals e_aRest)
                                have e_aRestMany := (up_ne ef21 n_aRestMany_aRivals e_aRestMany)
                                have e_aCome := (up_ne ef21 n_aCome_aRivals e_aCome)
                                have e_aGone := (up_ne ef21 n_aGone_aRivals e_aGone)
                                have e_aOrder := (up_ne ef21 n_aOrder_aRivals e_aOrder)
                                have e_aOffAt := (up_ne ef21 n_aOffAt_aRivals e_aOffAt)
                                have e_aIsOff := (up_ne ef21 n_aIsOff_aRivals e_aIsOff)
                                have e_aAlone := (up_ne ef21 n_aAlone_aRivals e_aAlone)
                                have e_aKept := (up_ne ef21 n_aKept_aRivals e_aKept)
                                exact ih335 (x10_335 + 1) (vp_updL caRivals_335 (Int32.toNatClampNeg x10_335) (caCome_162 (Int32.toNatClampNeg x10_335))) f21 _ _ _ ho335 S e_y e_aWorlds e_aInWorld e_aKind e_aSize e_aMarks e_aSeed e_aContents e_aContentMany e_aRow e_aBits e_aLayerSize e_aLayerCame e_aRest e_aRestMany e_aCome e_aRivals e_aGone e_aOrder e_aOffAt e_aIsOff e_aAlone e_aKept fr (lv_sub hl [0, 1, 2, 3, 4, 5, 6, 7] rfl)
                          exact LP335 FU (0 : Int32) caRivals_162 fl268 _ _ _ ho335 S e_y e_aWorlds e_aInWorld e_aKind e_aSize e_aMarks e_aSeed e_aContents e_aContentMany e_aRow e_aBits e_aLayerSize e_aLayerCame e_aRest e_aRestMany e_aCome e_aRivals e_aGone e_aOrder e_aOffAt e_aIsOff e_aAlone e_aKept fr (lv_sub hl [0, 1, 2, 3, 4, 5, 6, 7] rfl)
                      have LP268 : ∀ (fu : Nat) (x10_268 : Int32) (x9_268 : Int32) (caGone_268 : Nat → Int64) (fl268 : Nat → va_E) (H : Heap) (locs : List Loc) (ls : Array Slot), (mX9_layered_L268 z33 z259 x8_162 x6_162 caRivals_162) fu x10_268 x9_268 caGone_268 = some o268 → PS D g (va_A (va_pl L f) szz) s.heap s L fl268 H locs → fl268 y = .inr (7, [.ref aWorlds, .ref aInWorld, .ref aKind, .ref aSize, .ref aMarks, .ref aSeed, .ref aContents, .ref aContentMany, .ref aRow, .ref aBits, .ref aLayerSize, .ref aLayerCame, .ref aRest, .ref aRestMany, .int z33.2.1, .ref aCome, .ref aRivals, .ref aGone, .ref aOrder, .ref aOffAt, .ref aIsOff, .ref aAlone, .ref aKept]) → fl268 aWorlds = .inl (g 1, 8000, .inr (.inl vWorlds)) → fl268 aInWorld = .inl (g 0, 8, .inl vInWorld) → fl268 aKind = .inl (g 0, 30, .inl z33.2.2.1) → fl268 aSize = .inl (g 0, 30, .inl z259.1) → fl268 aMarks = .inl (g 0, 30, .inl z33.2.2.2.2.1) → fl268 aSeed = .inl (g 0, 30, .inl z33.2.2.2.2.2.1) → fl268 aContents = .inl (g 1, 30000, .inr (.inl z42.1)) → fl268 aContentMany = .inl (g 0, 30, .inl z42.2) → fl268 aRow = .inl (g 0, 122880, .inl z33.2.2.2.2.2.2.2.1) → fl268 aBits = .inl (g 0, 76800, .inl z259.2.1) → fl268 aLayerSize = .inl (g 0, 600, .inl z259.2.2.1) → fl268 aLayerCame = .inl (g 0, 600, .inl z259.2.2.2) → fl268 aRest = .inl (g 1, 30000, .inr (.inl caRest_162)) → fl268 aRestMany = .inl (g 0, 30, .inl caRestMany_162) → fl268 aCome = .inl (g 1, 1000, .inr (.inl caCome_162)) → fl268 aRivals = .inl (g 1, 1000, .inr (.inl caRivals_162)) → fl268 aGone = .inl (g 1, 1000, .inr (.inl caGone_268)) → fl268 aOrder = .inl (g 0, 1000, .inl vOrder) → fl268 aOffAt = .inl (g 0, 1000, .inl vOffAt) → fl268 aIsOff = .inl (g 2, 1000, .inl vIsOff) → fl268 aAlone = .inl (g 0, 4096, .inl vAlone) → fl268 aKept = .inl (g 0, 4096, .inl vKept) → (∀ b, b ∈ L → b ≠ y → b ≠ aKind → b ≠ aSize → b ≠ aMarks → b ≠ aSeed → b ≠ aContents → b ≠ aContentMany → b ≠ aRow → b ≠ aBits → b ≠ aLayerSize → b ≠ aLayerCame → b ≠ aRest → b ≠ aRestMany → b ≠ aCome → b ≠ aRivals → b ≠ aGone → fl268 b = f b) → lv_has ls 11 [(10, .int x10_268), (9, .int x9_268), (8, .int x8_162), (6, .int x6_162), (5, .int x5_162), (4, .int z33.1), (0, .ref y)] → W p l e { frames := 2, cells := 0, slots := 0, locals := 57 } s m [.ref y, .int wi, .int wa, .int by_].toArray below meth c H locs 0 0 QQ (F0 m 268 ls []) := by
                        intro fu
                        induction fu with
                        | zero => intro x10_268 x9_268 caGone_268 fl268 H locs ls ho268 S e_y e_aWorlds e_aInWorld e_aKind e_aSize e_aMarks e_aSeed e_aContents e_aContentMany e_aRow e_aBits e_aLayerSize e_aLayerCame e_aRest e_aRestMany e_aCome e_aRivals e_aGone e_aOrder e_aOffAt e_aIsOff e_aAlone e_aKept fr hl; exact no_some ho268
                        | succ fu ih268 =>
                          intro x10_268 x9_268 caGone_268 fl268 H locs ls ho268 S e_y e_aWorlds e_aInWorld e_aKind e_aSize e_aMarks e_aSeed e_aContents e_aContentMany e_aRow e_aBits e_aLayerSize e_aLayerCame e_aRest e_aRestMany e_aCome e_aRivals e_aGone e_aOrder e_aOffAt e_aIsOff e_aAlone e_aKept fr hl
                          rw [mX9_layered_L268] at ho268
                          refine lv_iload hx hb dX9_layered_268 (lv_at hl 0 rfl) ?_
                          refine lv_iload hx hb dX9_layered_270 (lv_at hl 3 rfl) ?_
                          refine lv_icmp_ge (tgt := 316) hx hb dX9_layered_272 (by decide) (fun b272 => ?_) (fun b272 => ?_)
                          · have ho268 := itT b272 ho268
                            obtain rfl := Option.some.inj ho268
                            exact EX268 fl268 _ _ _ S e_y e_aWorlds e_aInWorld e_aKind e_aSize e_aMarks e_aSeed e_aContents e_aContentMany e_aRow e_aBits e_aLayerSize e_aLayerCame e_aRest e_aRestMany e_aCome e_aRivals e_aGone e_aOrder e_aOffAt e_aIsOff e_aAlone e_aKept fr (lv_sub hl [1, 2, 4, 5, 6] rfl)
                          · have ho268 := itF b272 ho268
                            refine lv_aload_n hx hb dX9_layered_275 rfl (lv_at hl 6 rfl) ?_
                            refine lv_iload hx hb dX9_layered_276 (lv_at hl 5 rfl) ?_
                            refine lv_iload hx hb dX9_layered_278 (lv_at hl 2 rfl) ?_
                            refine lv_aload_n hx hb dX9_layered_280 rfl (lv_at hl 6 rfl) ?_
                            refine q_get hx hb hts in_X9 hown S m_y e_y (C := RX9) (T := TX9) (N := 23) rfl 16 (by decide) rfl (hts (.fieldLink RX9 58 "SieveCabinetModel" "rivals" "[J") (by decide +kernel)) dX9_layered_281 ?_
                            refine lv_iload hx hb dX9_layered_284 (lv_at hl 0 rfl) ?_
                            obtain ⟨hi286, ho268⟩ := ckx ho268
                            refine q_lald hx hb S m_aRivals e_aRivals hi286 dX9_layered_286 ?_
                            obtain ⟨z287, hz287, ho268⟩ := bind_some ho268
                            refine q_vi (As := [.int z33.1, .int x8_162, .long (caRivals_162 (Int32.toNatClampNeg x10_268))]) (rest := []) ⟨hx, hb, hml, hown, hts⟩ (k_X9_layerLets l D g m_y e_y m_aSeed e_aSeed m_aBits e_aBits m_aLayerSize e_aLayerSize hz287) (cwV 3 hts gX9_layered_X9_layerLets rfl rfl rfl (by decide +kernel) ⟨Nat.le_of_ble_eq_true rfl, Nat.le_of_ble_eq_true rfl⟩) S m_y e_y (T := TX9) (N := 23) rfl rfl hl.1 rfl (Nat.le_of_ble_eq_true rfl) dX9_layered_287 ⟨Nat.le_of_ble_eq_true rfl, Nat.le_of_ble_eq_true rfl⟩ (fun r24 L22 f23 H locs S w287 => ?_)
                            obtain ⟨ex287, eL, ef⟩ := w287
                            rw [eL, ef] at S
                            replace ex287 := ex287.symm
                            subst ex287
                            refine lv_if_eq (tgt := 310) hx hb dX9_layered_290 (by decide) (fun b290 => ?_) (fun b290 => ?_)
                            · have ho268 := itT b290 ho268
                              refine lv_iinc (v := (x10_268 + 1)) (lv' := [(10, .int (x10_268 + 1)), (9, .int x9_268), (8, .int x8_162), (6, .int x6_162), (5, .int x5_162), (4, .int z33.1), (0, .ref y)]) hx hb dX9_layered_310 hl (k := 0) rfl rfl (by decide) rfl (fun ls hl => ?_)
                              refine lv_goto (tgt := 268) hx hb dX9_layered_313 (by decide) ?_
                              exact ih268 (x10_268 + 1) x9_268 caGone_268 fl268 _ _ _ ho268 S e_y e_aWorlds e_aInWorld e_aKind e_aSize e_aMarks e_aSeed e_aContents e_aContentMany e_aRow e_aBits e_aLayerSize e_aLayerCame e_aRest e_aRestMany e_aCome e_aRivals e_aGone e_aOrder e_aOffAt e_aIsOff e_aAlone e_aKept fr (lv_sub hl [0, 1, 2, 3, 4, 5, 6] rfl)
                            · have ho268 := itF b290 ho268
                              refine lv_aload_n hx hb dX9_layered_293 rfl (lv_at hl 6 rfl) ?_
                              refine q_get hx hb hts in_X9 hown S m_y e_y (C := RX9) (T := TX9) (N := 23) rfl 17 (by decide) rfl (hts (.fieldLink RX9 61 "SieveCabinetModel" "gone" "[J") (by decide +kernel)) dX9_layered_294 ?_
                              refine lv_iload hx hb dX9_layered_297 (lv_at hl 1 rfl) ?_
                              refine lv_aload_n hx hb dX9_layered_299 rfl (lv_at hl 6 rfl) ?_
                              refine q_get hx hb hts in_X9 hown S m_y e_y (C := RX9) (T := TX9) (N := 23) rfl 16 (by decide) rfl (hts (.fieldLink RX9 58 "SieveCabinetModel" "rivals" "[J") (by decide +kernel)) dX9_layered_300 ?_
                              refine lv_iload hx hb dX9_layered_303 (lv_at hl 0 rfl) ?_
                              obtain ⟨hi305, ho268⟩ := ckx ho268
                              refine q_lald hx hb S m_aRivals e_aRivals hi305 dX9_layered_305 ?_
                              obtain ⟨hi306, ho268⟩ := ckx ho268
                              refine k_last hx hb S m_aGone e_aGone hi306 dX9_layered_306 (fun f25 ef25 H locs S => ?_)
                              have e_aGone := up_self ef25
                              have fr : ∀ b, b ∈ L → b ≠ y → b ≠ aKind → b ≠ aSize → b ≠ aMarks → b ≠ aSeed → b ≠ aContents → b ≠ aContentMany → b ≠ aRow → b ≠ aBits → b ≠ aLayerSize → b ≠ aLayerCame → b ≠ aRest → b ≠ aRestMany → b ≠ aCome → b ≠ aRivals → b ≠ aGone → f25 b = f b := fun b mb nb0 nb1 nb2 nb3 nb4 nb5 nb6 nb7 nb8 nb9 nb10 nb11 nb12 nb13 nb14 nb15 => (up_ne ef25 nb15 rfl).trans (fr b mb nb0 nb1 nb2 nb3 nb4 nb5 nb6 nb7 nb8 nb9 nb10 nb11 nb12 nb13 nb14 nb15)
                              refine lv_iinc (v := (x9_268 + 1)) (lv' := [(9, .int (x9_268 + 1)), (10, .int x10_268), (8, .int x8_162), (6, .int x6_162), (5, .int x5_162), (4, .int z33.1), (0, .ref y)]) hx hb dX9_layered_307 hl (k := 1) rfl rfl (by decide) rfl (fun ls hl => ?_)
                              refine lv_iinc (v := (x10_268 + 1)) (lv' := [(10, .int (x10_268 + 1)), (9, .int (x9_268 + 1)), (8, .int x8_162), (6, .int x6_162), (5, .int x5_162), (4, .int z33.1), (0, .ref y)]) hx hb dX9_layered_310 hl (k := 1) rfl rfl (by decide) rfl (fun ls hl => ?_)
                              refine lv_goto (tgt := 268) hx hb dX9_layered_313 (by decide) ?_
                              have e_y := (up_ne ef25 n_y_aGone e_y)
                              have e_aWorlds := (up_ne ef25 n_aWorlds_aGone e_aWorlds)
                              have e_aInWorld := (up_ne ef25 n_aInWorld_aGone e_aInWorld)
                              have e_aKind := (up_ne ef25 n_aKind_aGone e_aKind)
                              have e_aSize := (up_ne ef25 n_aSize_aGone e_aSize)
                              have e_aMarks := (up_ne ef25 n_aMarks_aGone e_aMarks)
                              have e_aSeed := (up_ne ef25 n_aSeed_aGone e_aSeed)
                              have e_aContents := (up_ne ef25 n_aContents_aGone e_aContents)
                              have e_aContentMany := (up_ne ef25 n_aContentMany_aGone e_aContentMany)
                              have e_aRow := (up_ne ef25 n_aRow_aGone e_aRow)
                              have e_aBits := (up_ne ef25 n_aBits_aGone e_aBits)
                              have e_aLayerSize := (up_ne ef25 n_aLayerSize_aGone e_aLayerSize)
                              have e_aLayerCame := (up_ne ef25 n_aLayerCame_aGone e_aLayerCame)
                              have e_aRest := (up_ne ef25 n_aRest_aGone e_aRest)
                              have e_aRestMany := (up_ne ef25 n_aRestMany_aGone e_aRestMany)
                              have e_aCome := (up_ne ef25 n_aCome_aGone e_aCome)
                              have e_aRivals := (up_ne ef25 n_aRivals_aGone e_aRivals)
                              have e_aOrder := (up_ne ef25 n_aOrder_aGone e_aOrder)
                              have e_aOffAt := (up_ne ef25 n_aOffAt_aGone e_aOffAt)
                              have e_aIsOff := (up_ne ef25 n_aIsOff_aGone e_aIsOff)
                              have e_aAlone := (up_ne ef25 n_aAlone_aGone e_aAlone)
                              have e_aKept := (up_ne ef25 n_aKept_aGone e_aKept)
                              exact ih268 (x10_268 + 1) (x9_268 + 1) (vp_updL caGone_268 (Int32.toNatClampNeg x9_268) (caRivals_162 (Int32.toNatClampNeg x10_268))) f25 _ _ _ ho268 S e_y e_aWorlds e_aInWorld e_aKind e_aSize e_aMarks e_aSeed e_aContents e_aContentMany e_aRow e_aBits e_aLayerSize e_aLayerCame e_aRest e_aRestMany e_aCome e_aRivals e_aGone e_aOrder e_aOffAt e_aIsOff e_aAlone e_aKept fr (lv_sub hl [0, 1, 2, 3, 4, 5, 6] rfl)
                      exact LP268 FU (0 : Int32) (0 : Int32) caGone_162 f16 _ _ _ ho268 S e_y e_aWorlds e_aInWorld e_aKind e_aSize e_aMarks e_aSeed e_aContents e_aContentMany e_aRow e_aBits e_aLayerSize e_aLayerCame e_aRest e_aRestMany e_aCome e_aRivals e_aGone e_aOrder e_aOffAt e_aIsOff e_aAlone e_aKept fr (lv_sub hl [0, 1, 2, 4, 5, 6, 7] rfl)
                    · have ho162 := itF b177 ho162
                      refine lv_iload hx hb dX9_layered_180 (lv_at hl 3 rfl) ?_
                      refine lv_aload_n hx hb dX9_layered_182 rfl (lv_at hl 5 rfl) ?_
                      refine q_get hx hb hts in_X9 hown S m_y e_y (C := RX9) (T := TX9) (N := 23) rfl 11 (by decide) rfl (hts (.fieldLink RX9 46 "SieveCabinetModel" "layerCame" "[I") (by decide +kernel)) dX9_layered_183 ?_
                      refine lv_iload hx hb dX9_layered_186 (lv_at hl 4 rfl) ?_
                      refine lv_bipush (v := (20 : Int32)) hx hb dX9_layered_188 (by decide) ?_
                      refine lv_imul hx hb dX9_layered_190 ?_
                      refine lv_iload hx hb dX9_layered_191 (lv_at hl 0 rfl) ?_
                      refine lv_iadd hx hb dX9_layered_193 ?_
                      refine lv_iconst (v := (2 : Int32)) hx hb dX9_layered_194 (by decide) ?_
                      refine lv_isub hx hb dX9_layered_195 ?_
                      obtain ⟨hi196, ho162⟩ := ckx ho162
                      refine q_iald hx hb S m_aLayerCame e_aLayerCame hi196 dX9_layered_196 ?_
                      refine lv_icmp_ne (tgt := 252) hx hb dX9_layered_197 (by decide) (fun b197 => ?_) (fun b197 => ?_)
                      · have ho162 := itF b197 ho162
                        refine lv_aload_n hx hb dX9_layered_252 rfl (lv_at hl 5 rfl) ?_
                        refine lv_iload hx hb dX9_layered_253 (lv_at hl 4 rfl) ?_
                        refine lv_iload hx hb dX9_layered_255 (lv_at hl 0 rfl) ?_
                        refine lv_iload hx hb dX9_layered_257 (lv_at hl 3 rfl) ?_
                        obtain ⟨z259, hz259, ho162⟩ := bind_some ho162
                        refine q_vv (As := [.int z33.1, .int x8_162, .int x5_162]) (rest := []) ⟨hx, hb, hml, hown, hts⟩ (k_X9_lay l D g m_y e_y m_aWorlds e_aWorlds m_aInWorld e_aInWorld m_aKind e_aKind m_aSize e_aSize m_aMarks e_aMarks m_aSeed e_aSeed m_aContents e_aContents m_aContentMany e_aContentMany m_aRow e_aRow m_aBits e_aBits m_aLayerSize e_aLayerSize m_aLayerCame e_aLayerCame m_aRest e_aRest m_aRestMany e_aRestMany m_aCome e_aCome m_aRivals e_aRivals m_aGone e_aGone m_aOrder e_aOrder m_aOffAt e_aOffAt m_aIsOff e_aIsOff m_aAlone e_aAlone m_aKept e_aKept r_aLayerSize r_aLayerCame hz259) (cwV 3 hts gX9_layered_X9_lay rfl rfl rfl (by decide +kernel) ⟨Nat.le_of_ble_eq_true rfl, Nat.le_of_ble_eq_true rfl⟩) S m_y e_y (T := TX9) (N := 23) rfl rfl hl.1 rfl (Nat.le_of_ble_eq_true rfl) dX9_layered_259 ⟨Nat.le_of_ble_eq_true rfl, Nat.le_of_ble_eq_true rfl⟩ (fun L26 f27 H locs S w259 => ?_)
                        obtain ⟨eL, fv259, E_aSize, E_aBits, E_aLayerSize, E_aLayerCame⟩ := w259
                        rw [eL] at S
                        have fr : ∀ b, b ∈ L → b ≠ y → b ≠ aKind → b ≠ aSize → b ≠ aMarks → b ≠ aSeed → b ≠ aContents → b ≠ aContentMany → b ≠ aRow → b ≠ aBits → b ≠ aLayerSize → b ≠ aLayerCame → b ≠ aRest → b ≠ aRestMany → b ≠ aCome → b ≠ aRivals → b ≠ aGone → f27 b = f b := fun b mb nb0 nb1 nb2 nb3 nb4 nb5 nb6 nb7 nb8 nb9 nb10 nb11 nb12 nb13 nb14 nb15 => (fv259 b mb nb2 nb8 nb9 nb10).trans (fr b mb nb0 nb1 nb2 nb3 nb4 nb5 nb6 nb7 nb8 nb9 nb10 nb11 nb12 nb13 nb14 nb15)
                        have e_aSize : f27 aSize = .inl (g 0, 30, .inl z259.1) := E_aSize
                        have e_aBits : f27 aBits = .inl (g 0, 76800, .inl z259.2.1) := E_aBits
                        have e_aLayerSize : f27 aLayerSize = .inl (g 0, 600, .inl z259.2.2.1) := E_aLayerSize
                        have e_aLayerCame : f27 aLayerCame = .inl (g 0, 600, .inl z259.2.2.2) := E_aLayerCame
                        refine lv_iconst (v := (0 : Int32)) hx hb dX9_layered_262 (by decide) ?_
                        refine lv_istore (lv' := [(9, .int (0 : Int32)), (8, .int x8_162), (7, .int x7_162), (6, .int x6_162), (5, .int x5_162), (4, .int z33.1), (0, .ref y)]) hx hb dX9_layered_263 hl (by decide) rfl (fun ls hl => ?_)
                        refine lv_iconst (v := (0 : Int32)) hx hb dX9_layered_265 (by decide) ?_
                        refine lv_istore (lv' := [(10, .int (0 : Int32)), (9, .int (0 : Int32)), (8, .int x8_162), (7, .int x7_162), (6, .int x6_162), (5, .int x5_162), (4, .int z33.1), (0, .ref y)]) hx hb dX9_layered_266 hl (by decide) rfl (fun ls hl => ?_)
                        have e_y := ((fv259 y m_y n_y_aSize n_y_aBits n_y_aLayerSize n_y_aLayerCame).trans e_y)
                        have e_aWorlds := ((fv259 aWorlds m_aWorlds n_aWorlds_aSize n_aWorlds_aBits n_aWorlds_aLayerSize n_aWorlds_aLayerCame).trans e_aWorlds)
                        have e_aInWorld := ((fv259 aInWorld m_aInWorld n_aInWorld_aSize n_aInWorld_aBits n_aInWorld_aLayerSize n_aInWorld_aLayerCame).trans e_aInWorld)
                        have e_aKind := ((fv259 aKind m_aKind n_aKind_aSize n_aKind_aBits n_aKind_aLayerSize n_aKind_aLayerCame).trans e_aKind)
                        have e_aMarks := ((fv259 aMarks m_aMarks n_aMarks_aSize n_aMarks_aBits n_aMarks_aLayerSize n_aMarks_aLayerCame).trans e_aMarks)
                        have e_aSeed := ((fv259 aSeed m_aSeed n_aSeed_aSize n_aSeed_aBits n_aSeed_aLayerSize n_aSeed_aLayerCame).trans e_aSeed)
                        have e_aContents := ((fv259 aContents m_aContents n_aContents_aSize n_aContents_aBits n_aContents_aLayerSize n_aContents_aLayerCame).trans e_aContents)
                        have e_aContentMany := ((fv259 aContentMany m_aContentMany n_aContentMany_aSize n_aContentMany_aBits n_aContentMany_aLayerSize n_aContentMany_aLayerCame).trans e_aContentMany)
                        have e_aRow := ((fv259 aRow m_aRow n_aRow_aSize n_aRow_aBits n_aRow_aLayerSize n_aRow_aLayerCame).trans e_aRow)
                        have e_aRest := ((fv259 aRest m_aRest n_aRest_aSize n_aRest_aBits n_aRest_aLayerSize n_aRest_aLayerCame).trans e_aRest)
                        have e_aRestMany := ((fv259 aRestMany m_aRestMany n_aRestMany_aSize n_aRestMany_aBits n_aRestMany_aLayerSize n_aRestMany_aLayerCame).trans e_aRestMany)
                        have e_aCome := ((fv259 aCome m_aCome n_aCome_aSize n_aCome_aBits n_aCome_aLayerSize n_aCome_aLayerCame).trans e_aCome)
                        have e_aRivals := ((fv259 aRivals m_aRivals n_aRivals_aSize n_aRivals_aBits n_aRivals_aLayerSize n_aRivals_aLayerCame).trans e_aRivals)
                        have e_aGone := ((fv259 aGone m_aGone n_aGone_aSize n_aGone_aBits n_aGone_aLayerSize n_aGone_aLayerCame).trans e_aGone)
                        have e_aOrder := ((fv259 aOrder m_aOrder n_aOrder_aSize n_aOrder_aBits n_aOrder_aLayerSize n_aOrder_aLayerCame).trans e_aOrder)
                        have e_aOffAt := ((fv259 aOffAt m_aOffAt n_aOffAt_aSize n_aOffAt_aBits n_aOffAt_aLayerSize n_aOffAt_aLayerCame).trans e_aOffAt)
                        have e_aIsOff := ((fv259 aIsOff m_aIsOff n_aIsOff_aSize n_aIsOff_aBits n_aIsOff_aLayerSize n_aIsOff_aLayerCame).trans e_aIsOff)
                        have e_aAlone := ((fv259 aAlone m_aAlone n_aAlone_aSize n_aAlone_aBits n_aAlone_aLayerSize n_aAlone_aLayerCame).trans e_aAlone)
                        have e_aKept := ((fv259 aKept m_aKept n_aKept_aSize n_aKept_aBits n_aKept_aLayerSize n_aKept_aLayerCame).trans e_aKept)
                        obtain ⟨o268, ho268, ho162⟩ := bind_some ho162
                        have EX268 : ∀ (fl268 : Nat → va_E) (H : Heap) (locs : List Loc) (ls : Array Slot), PS D g (va_A (va_pl L f) szz) s.heap s L fl268 H locs → fl268 y = .inr (7, [.ref aWorlds, .ref aInWorld, .ref aKind, .ref aSize, .ref aMarks, .ref aSeed, .ref aContents, .ref aContentMany, .ref aRow, .ref aBits, .ref aLayerSize, .ref aLayerCame, .ref aRest, .ref aRestMany, .int z33.2.1, .ref aCome, .ref aRivals, .ref aGone, .ref aOrder, .ref aOffAt, .ref aIsOff, .ref aAlone, .ref aKept]) → fl268 aWorlds = .inl (g 1, 8000, .inr (.inl vWorlds)) → fl268 aInWorld = .inl (g 0, 8, .inl vInWorld) → fl268 aKind = .inl (g 0, 30, .inl z33.2.2.1) → fl268 aSize = .inl (g 0, 30, .inl z259.1) → fl268 aMarks = .inl (g 0, 30, .inl z33.2.2.2.2.1) → fl268 aSeed = .inl (g 0, 30, .inl z33.2.2.2.2.2.1) → fl268 aContents = .inl (g 1, 30000, .inr (.inl z42.1)) → fl268 aContentMany = .inl (g 0, 30, .inl z42.2) → fl268 aRow = .inl (g 0, 122880, .inl z33.2.2.2.2.2.2.2.1) → fl268 aBits = .inl (g 0, 76800, .inl z259.2.1) → fl268 aLayerSize = .inl (g 0, 600, .inl z259.2.2.1) → fl268 aLayerCame = .inl (g 0, 600, .inl z259.2.2.2) → fl268 aRest = .inl (g 1, 30000, .inr (.inl caRest_162)) → fl268 aRestMany = .inl (g 0, 30, .inl caRestMany_162) → fl268 aCome = .inl (g 1, 1000, .inr (.inl caCome_162)) → fl268 aRivals = .inl (g 1, 1000, .inr (.inl caRivals_162)) → fl268 aGone = .inl (g 1, 1000, .inr (.inl o268.2.2)) → fl268 aOrder = .inl (g 0, 1000, .inl vOrder) → fl268 aOffAt = .inl (g 0, 1000, .inl vOffAt) → fl268 aIsOff = .inl (g 2, 1000, .inl vIsOff) → fl268 aAlone = .inl (g 0, 4096, .inl vAlone) → fl268 aKept = .inl (g 0, 4096, .inl vKept) → (∀ b, b ∈ L → b ≠ y → b ≠ aKind → b ≠ aSize → b ≠ aMarks → b ≠ aSeed → b ≠ aContents → b ≠ aContentMany → b ≠ aRow → b ≠ aBits → b ≠ aLayerSize → b ≠ aLayerCame → b ≠ aRest → b ≠ aRestMany → b ≠ aCome → b ≠ aRivals → b ≠ aGone → fl268 b = f b) → lv_has ls 11 [(9, .int o268.2.1), (8, .int x8_162), (5, .int x5_162), (4, .int z33.1), (0, .ref y)] → W p l e { frames := 2, cells := 0, slots := 0, locals := 57 } s m [.ref y, .int wi, .int wa, .int by_].toArray below meth c H locs 0 0 QQ (F0 m 316 ls []) := by
                          intro fl268 H locs ls S e_y e_aWorlds e_aInWorld e_aKind e_aSize e_aMarks e_aSeed e_aContents e_aContentMany e_aRow e_aBits e_aLayerSize e_aLayerCame e_aRest e_aRestMany e_aCome e_aRivals e_aGone e_aOrder e_aOffAt e_aIsOff e_aAlone e_aKept fr hl
                          refine lv_iload hx hb dX9_layered_316 (lv_at hl 0 rfl) ?_
                          refine lv_if_le (tgt := 325) hx hb dX9_layered_318 (by decide) (fun b318 => ?_) (fun b318 => ?_)
                          · have ho162 := itT b318 ho162
                            refine lv_iconst (v := (0 : Int32)) hx hb dX9_layered_325 (by decide) ?_
                            refine lv_istore (lv' := [(7, .int (0 : Int32)), (9, .int o268.2.1), (8, .int x8_162), (5, .int x5_162), (4, .int z33.1), (0, .ref y)]) hx hb dX9_layered_326 hl (by decide) rfl (fun ls hl => ?_)
                            refine lv_iload hx hb dX9_layered_328 (lv_at hl 3 rfl) ?_
                            refine lv_istore (lv' := [(6, .int x5_162), (7, .int (0 : Int32)), (9, .int o268.2.1), (8, .int x8_162), (5, .int x5_162), (4, .int z33.1), (0, .ref y)]) hx hb dX9_layered_330 hl (by decide) rfl (fun ls hl => ?_)
                            refine lv_iconst (v := (0 : Int32)) hx hb dX9_layered_332 (by decide) ?_
                            refine lv_istore (lv' := [(10, .int (0 : Int32)), (6, .int x5_162), (7, .int (0 : Int32)), (9, .int o268.2.1), (8, .int x8_162), (5, .int x5_162), (4, .int z33.1), (0, .ref y)]) hx hb dX9_layered_333 hl (by decide) rfl (fun ls hl => ?_)
                            obtain ⟨o335, ho335, ho162⟩ := bind_some ho162
                            have EX335 : ∀ (fl335 : Nat → va_E) (H : Heap) (locs : List Loc) (ls : Array Slot), PS D g (va_A (va_pl L f) szz) s.heap s L fl335 H locs → fl335 y = .inr (7, [.ref aWorlds, .ref aInWorld, .ref aKind, .ref aSize, .ref aMarks, .ref aSeed, .ref aContents, .ref aContentMany, .ref aRow, .ref aBits, .ref aLayerSize, .ref aLayerCame, .ref aRest, .ref aRestMany, .int z33.2.1, .ref aCome, .ref aRivals, .ref aGone, .ref aOrder, .ref aOffAt, .ref aIsOff, .ref aAlone, .ref aKept]) → fl335 aWorlds = .inl (g 1, 8000, .inr (.inl vWorlds)) → fl335 aInWorld = .inl (g 0, 8, .inl vInWorld) → fl335 aKind = .inl (g 0, 30, .inl z33.2.2.1) → fl335 aSize = .inl (g 0, 30, .inl z259.1) → fl335 aMarks = .inl (g 0, 30, .inl z33.2.2.2.2.1) → fl335 aSeed = .inl (g 0, 30, .inl z33.2.2.2.2.2.1) → fl335 aContents = .inl (g 1, 30000, .inr (.inl z42.1)) → fl335 aContentMany = .inl (g 0, 30, .inl z42.2) → fl335 aRow = .inl (g 0, 122880, .inl z33.2.2.2.2.2.2.2.1) → fl335 aBits = .inl (g 0, 76800, .inl z259.2.1) → fl335 aLayerSize = .inl (g 0, 600, .inl z259.2.2.1) → fl335 aLayerCame = .inl (g 0, 600, .inl z259.2.2.2) → fl335 aRest = .inl (g 1, 30000, .inr (.inl caRest_162)) → fl335 aRestMany = .inl (g 0, 30, .inl caRestMany_162) → fl335 aCome = .inl (g 1, 1000, .inr (.inl caCome_162)) → fl335 aRivals = .inl (g 1, 1000, .inr (.inl o335.2)) → fl335 aGone = .inl (g 1, 1000, .inr (.inl o268.2.2)) → fl335 aOrder = .inl (g 0, 1000, .inl vOrder) → fl335 aOffAt = .inl (g 0, 1000, .inl vOffAt) → fl335 aIsOff = .inl (g 2, 1000, .inl vIsOff) → fl335 aAlone = .inl (g 0, 4096, .inl vAlone) → fl335 aKept = .inl (g 0, 4096, .inl vKept) → (∀ b, b ∈ L → b ≠ y → b ≠ aKind → b ≠ aSize → b ≠ aMarks → b ≠ aSeed → b ≠ aContents → b ≠ aContentMany → b ≠ aRow → b ≠ aBits → b ≠ aLayerSize → b ≠ aLayerCame → b ≠ aRest → b ≠ aRestMany → b ≠ aCome → b ≠ aRivals → b ≠ aGone → fl335 b = f b) → lv_has ls 11 [(6, .int x5_162), (7, .int (0 : Int32)), (9, .int o268.2.1), (8, .int x8_162), (4, .int z33.1), (0, .ref y)] → W p l e { frames := 2, cells := 0, slots := 0, locals := 57 } s m [.ref y, .int wi, .int wa, .int by_].toArray below meth c H locs 0 0 QQ (F0 m 362 ls []) := by
                              intro fl335 H locs ls S e_y e_aWorlds e_aInWorld e_aKind e_aSize e_aMarks e_aSeed e_aContents e_aContentMany e_aRow e_aBits e_aLayerSize e_aLayerCame e_aRest e_aRestMany e_aCome e_aRivals e_aGone e_aOrder e_aOffAt e_aIsOff e_aAlone e_aKept fr hl
                              refine lv_iload hx hb dX9_layered_362 (lv_at hl 2 rfl) ?_
                              refine lv_istore (lv' := [(5, .int o268.2.1), (6, .int x5_162), (7, .int (0 : Int32)), (9, .int o268.2.1), (8, .int x8_162), (4, .int z33.1), (0, .ref y)]) hx hb dX9_layered_364 hl (by decide) rfl (fun ls hl => ?_)
                              refine lv_iconst (v := (0 : Int32)) hx hb dX9_layered_366 (by decide) ?_
                              refine lv_istore (lv' := [(10, .int (0 : Int32)), (5, .int o268.2.1), (6, .int x5_162), (7, .int (0 : Int32)), (9, .int o268.2.1), (8, .int x8_162), (4, .int z33.1), (0, .ref y)]) hx hb dX9_layered_367 hl (by decide) rfl (fun ls hl => ?_)
                              obtain ⟨o369, ho369, ho162⟩ := bind_some ho162
                              have EX369 : ∀ (fl369 : Nat → va_E) (H : Heap) (locs : List Loc) (ls : Array Slot), PS D g (va_A (va_pl L f) szz) s.heap s L fl369 H locs → fl369 y = .inr (7, [.ref aWorlds, .ref aInWorld, .ref aKind, .ref aSize, .ref aMarks, .ref aSeed, .ref aContents, .ref aContentMany, .ref aRow, .ref aBits, .ref aLayerSize, .ref aLayerCame, .ref aRest, .ref aRestMany, .int z33.2.1, .ref aCome, .ref aRivals, .ref aGone, .ref aOrder, .ref aOffAt, .ref aIsOff, .ref aAlone, .ref aKept]) → fl369 aWorlds = .inl (g 1, 8000, .inr (.inl vWorlds)) → fl369 aInWorld = .inl (g 0, 8, .inl vInWorld) → fl369 aKind = .inl (g 0, 30, .inl z33.2.2.1) → fl369 aSize = .inl (g 0, 30, .inl z259.1) → fl369 aMarks = .inl (g 0, 30, .inl z33.2.2.2.2.1) → fl369 aSeed = .inl (g 0, 30, .inl z33.2.2.2.2.2.1) → fl369 aContents = .inl (g 1, 30000, .inr (.inl z42.1)) → fl369 aContentMany = .inl (g 0, 30, .inl z42.2) → fl369 aRow = .inl (g 0, 122880, .inl z33.2.2.2.2.2.2.2.1) → fl369 aBits = .inl (g 0, 76800, .inl z259.2.1) → fl369 aLayerSize = .inl (g 0, 600, .inl z259.2.2.1) → fl369 aLayerCame = .inl (g 0, 600, .inl z259.2.2.2) → fl369 aRest = .inl (g 1, 30000, .inr (.inl caRest_162)) → fl369 aRestMany = .inl (g 0, 30, .inl caRestMany_162) → fl369 aCome = .inl (g 1, 1000, .inr (.inl o369.2)) → fl369 aRivals = .inl (g 1, 1000, .inr (.inl o335.2)) → fl369 aGone = .inl (g 1, 1000, .inr (.inl o268.2.2)) → fl369 aOrder = .inl (g 0, 1000, .inl vOrder) → fl369 aOffAt = .inl (g 0, 1000, .inl vOffAt) → fl369 aIsOff = .inl (g 2, 1000, .inl vIsOff) → fl369 aAlone = .inl (g 0, 4096, .inl vAlone) → fl369 aKept = .inl (g 0, 4096, .inl vKept) → (∀ b, b ∈ L → b ≠ y → b ≠ aKind → b ≠ aSize → b ≠ aMarks → b ≠ aSeed → b ≠ aContents → b ≠ aContentMany → b ≠ aRow → b ≠ aBits → b ≠ aLayerSize → b ≠ aLayerCame → b ≠ aRest → b ≠ aRestMany → b ≠ aCome → b ≠ aRivals → b ≠ aGone → fl369 b = f b) → lv_has ls 11 [(5, .int o268.2.1), (6, .int x5_162), (7, .int (0 : Int32)), (8, .int x8_162), (4, .int z33.1), (0, .ref y)] → W p l e { frames := 2, cells := 0, slots := 0, locals := 57 } s m [.ref y, .int wi, .int wa, .int by_].toArray below meth c H locs 0 0 QQ (F0 m 396 ls []) := by
                                intro fl369 H locs ls S e_y e_aWorlds e_aInWorld e_aKind e_aSize e_aMarks e_aSeed e_aContents e_aContentMany e_aRow e_aBits e_aLayerSize e_aLayerCame e_aRest e_aRestMany e_aCome e_aRivals e_aGone e_aOrder e_aOffAt e_aIsOff e_aAlone e_aKept fr hl
                                refine lv_iinc (v := (x8_162 + 1)) (lv' := [(8, .int (x8_162 + 1)), (5, .int o268.2.1), (6, .int x5_162), (7, .int (0 : Int32)), (4, .int z33.1), (0, .ref y)]) hx hb dX9_layered_396 hl (k := 3) rfl rfl (by decide) rfl (fun ls hl => ?_)
                                refine lv_goto (tgt := 162) hx hb dX9_layered_399 (by decide) ?_
                                exact ih162 (x8_162 + 1) (0 : Int32) x5_162 o268.2.1 z259.1 z259.2.1 z259.2.2.1 z259.2.2.2 caRest_162 caRestMany_162 o369.2 o335.2 o268.2.2 fl369 _ _ _ ho162 S e_y e_aWorlds e_aInWorld e_aKind e_aSize e_aMarks e_aSeed e_aContents e_aContentMany e_aRow e_aBits e_aLayerSize e_aLayerCame e_aRest e_aRestMany e_aCome e_aRivals e_aGone e_aOrder e_aOffAt e_aIsOff e_aAlone e_aKept fr (lv_sub hl [0, 3, 2, 1, 4, 5] rfl)
                              have LP369 : ∀ (fu : Nat) (x10_369 : Int32) (caCome_369 : Nat → Int64) (fl369 : Nat → va_E) (H : Heap) (locs : List Loc) (ls : Array Slot), (mX9_layered_L369 o268) fu x10_369 caCome_369 = some o369 → PS D g (va_A (va_pl L f) szz) s.heap s L fl369 H locs → fl369 y = .inr (7, [.ref aWorlds, .ref aInWorld, .ref aKind, .ref aSize, .ref aMarks, .ref aSeed, .ref aContents, .ref aContentMany, .ref aRow, .ref aBits, .ref aLayerSize, .ref aLayerCame, .ref aRest, .ref aRestMany, .int z33.2.1, .ref aCome, .ref aRivals, .ref aGone, .ref aOrder, .ref aOffAt, .ref aIsOff, .ref aAlone, .ref aKept]) → fl369 aWorlds = .inl (g 1, 8000, .inr (.inl vWorlds)) → fl369 aInWorld = .inl (g 0, 8, .inl vInWorld) → fl369 aKind = .inl (g 0, 30, .inl z33.2.2.1) → fl369 aSize = .inl (g 0, 30, .inl z259.1) → fl369 aMarks = .inl (g 0, 30, .inl z33.2.2.2.2.1) → fl369 aSeed = .inl (g 0, 30, .inl z33.2.2.2.2.2.1) → fl369 aContents = .inl (g 1, 30000, .inr (.inl z42.1)) → fl369 aContentMany = .inl (g 0, 30, .inl z42.2) → fl369 aRow = .inl (g 0, 122880, .inl z33.2.2.2.2.2.2.2.1) → fl369 aBits = .inl (g 0, 76800, .inl z259.2.1) → fl369 aLayerSize = .inl (g 0, 600, .inl z259.2.2.1) → fl369 aLayerCame = .inl (g 0, 600, .inl z259.2.2.2) → fl369 aRest = .inl (g 1, 30000, .inr (.inl caRest_162)) → fl369 aRestMany = .inl (g 0, 30, .inl caRestMany_162) → fl369 aCome = .inl (g 1, 1000, .inr (.inl caCome_369)) → fl369 aRivals = .inl (g 1, 1000, .inr (.inl o335.2)) → fl369 aGone = .inl (g 1, 1000, .inr (.inl o268.2.2)) → fl369 aOrder = .inl (g 0, 1000, .inl vOrder) → fl369 aOffAt = .inl (g 0, 1000, .inl vOffAt) → fl369 aIsOff = .inl (g 2, 1000, .inl vIsOff) → fl369 aAlone = .inl (g 0, 4096, .inl vAlone) → fl369 aKept = .inl (g 0, 4096, .inl vKept) → (∀ b, b ∈ L → b ≠ y → b ≠ aKind → b ≠ aSize → b ≠ aMarks → b ≠ aSeed → b ≠ aContents → b ≠ aContentMany → b ≠ aRow → b ≠ aBits → b ≠ aLayerSize → b ≠ aLayerCame → b ≠ aRest → b ≠ aRestMany → b ≠ aCome → b ≠ aRivals → b ≠ aGone → fl369 b = f b) → lv_has ls 11 [(10, .int x10_369), (5, .int o268.2.1), (6, .int x5_162), (7, .int (0 : Int32)), (8, .int x8_162), (4, .int z33.1), (0, .ref y)] → W p l e { frames := 2, cells := 0, slots := 0, locals := 57 } s m [.ref y, .int wi, .int wa, .int by_].toArray below meth c H locs 0 0 QQ (F0 m 369 ls []) := by
                                intro fu
                                induction fu with
                                | zero => intro x10_369 caCome_369 fl369 H locs ls ho369 S e_y e_aWorlds e_aInWorld e_aKind e_aSize e_aMarks e_aSeed e_aContents e_aContentMany e_aRow e_aBits e_aLayerSize e_aLayerCame e_aRest e_aRestMany e_aCome e_aRivals e_aGone e_aOrder e_aOffAt e_aIsOff e_aAlone e_aKept fr hl; exact no_some ho369
                                | succ fu ih369 =>
                                  intro x10_369 caCome_369 fl369 H locs ls ho369 S e_y e_aWorlds e_aInWorld e_aKind e_aSize e_aMarks e_aSeed e_aContents e_aContentMany e_aRow e_aBits e_aLayerSize e_aLayerCame e_aRest e_aRestMany e_aCome e_aRivals e_aGone e_aOrder e_aOffAt e_aIsOff e_aAlone e_aKept fr hl
                                  rw [mX9_layered_L369] at ho369
                                  refine lv_iload hx hb dX9_layered_369 (lv_at hl 0 rfl) ?_
                                  refine lv_iload hx hb dX9_layered_371 (lv_at hl 1 rfl) ?_
                                  refine lv_icmp_ge (tgt := 396) hx hb dX9_layered_373 (by decide) (fun b373 => ?_) (fun b373 => ?_)
                                  · have ho369 := itT b373 ho369
                                    obtain rfl := Option.some.inj ho369
                                    exact EX369 fl369 _ _ _ S e_y e_aWorlds e_aInWorld e_aKind e_aSize e_aMarks e_aSeed e_aContents e_aContentMany e_aRow e_aBits e_aLayerSize e_aLayerCame e_aRest e_aRestMany e_aCome e_aRivals e_aGone e_aOrder e_aOffAt e_aIsOff e_aAlone e_aKept fr (lv_sub hl [1, 2, 3, 4, 5, 6] rfl)
                                  · have ho369 := itF b373 ho369
                                    refine lv_aload_n hx hb dX9_layered_376 rfl (lv_at hl 6 rfl) ?_
                                    refine q_get hx hb hts in_X9 hown S m_y e_y (C := RX9) (T := TX9) (N := 23) rfl 15 (by decide) rfl (hts (.fieldLink RX9 55 "SieveCabinetModel" "come" "[J") (by decide +kernel)) dX9_layered_377 ?_
                                    refine lv_iload hx hb dX9_layered_380 (lv_at hl 0 rfl) ?_
                                    refine lv_aload_n hx hb dX9_layered_382 rfl (lv_at hl 6 rfl) ?_
                                    refine q_get hx hb hts in_X9 hown S m_y e_y (C := RX9) (T := TX9) (N := 23) rfl 17 (by decide) rfl (hts (.fieldLink RX9 61 "SieveCabinetModel" "gone" "[J") (by decide +kernel)) dX9_layered_383 ?_
                                    refine lv_iload hx hb dX9_layered_386 (lv_at hl 0 rfl) ?_
                                    obtain ⟨hi388, ho369⟩ := ckx ho369
                                    refine q_lald hx hb S m_aGone e_aGone hi388 dX9_layered_388 ?_
                                    obtain ⟨hi389, ho369⟩ := ckx ho369
                                    refine k_last hx hb S m_aCome e_aCome hi389 dX9_layered_389 (fun f29 ef29 H locs S => ?_)
                                    have e_aCome := up_self ef29
                                    have fr : ∀ b, b ∈ L → b ≠ y → b ≠ aKind → b ≠ aSize → b ≠ aMarks → b ≠ aSeed → b ≠ aContents → b ≠ aContentMany → b ≠ aRow → b ≠ aBits → b ≠ aLayerSize → b ≠ aLayerCame → b ≠ aRest → b ≠ aRestMany → b ≠ aCome → b ≠ aRivals → b ≠ aGone → f29 b = f b := fun b mb nb0 nb1 nb2 nb3 nb4 nb5 nb6 nb7 nb8 nb9 nb10 nb11 nb12 nb13 nb14 nb15 => (up_ne ef29 nb13 rfl).trans (fr b mb nb0 nb1 nb2 nb3 nb4 nb5 nb6 nb7 nb8 nb9 nb10 nb11 nb12 nb13 nb14 nb15)
                                    refine lv_iinc (v := (x10_369 + 1)) (lv' := [(10, .int (x10_369 + 1)), (5, .int o268.2.1), (6, .int x5_162), (7, .int (0 : Int32)), (8, .int x8_162), (4, .int z33.1), (0, .ref y)]) hx hb dX9_layered_390 hl (k := 0) rfl rfl (by decide) rfl (fun ls hl => ?_)
                                    refine lv_goto (tgt := 369) hx hb dX9_layered_393 (by decide) ?_
                                    have e_y := (up_ne ef29 n_y_aCome e_y)
                                    have e_aWorlds := (up_ne ef29 n_aWorlds_aCome e_aWorlds)
                                    have e_aInWorld := (up_ne ef29 n_aInWorld_aCome e_aInWorld)
                                    have e_aKind := (up_ne ef29 n_aKind_aCome e_aKind)
                                    have e_aSize := (up_ne ef29 n_aSize_aCome e_aSize)
                                    have e_aMarks := (up_ne ef29 n_aMarks_aCome e_aMarks)
                                    have e_aSeed := (up_ne ef29 n_aSeed_aCome e_aSeed)
                                    have e_aContents := (up_ne ef29 n_aContents_aCome e_aContents)
                                    have e_aContentMany := (up_ne ef29 n_aContentMany_aCome e_aContentMany)
                                    have e_aRow := (up_ne ef29 n_aRow_aCome e_aRow)
                                    have e_aBits := (up_ne ef29 n_aBits_aCome e_aBits)
                                    have e_aLayerSize := (up_ne ef29 n_aLayerSize_aCome e_aLayerSize)
                                    have e_aLayerCame := (up_ne ef29 n_aLayerCame_aCome e_aLayerCame)
                                    have e_aRest := (up_ne ef29 n_aRest_aCome e_aRest)
                                    have e_aRestMany := (up_ne ef29 n_aRestMany_aCome e_aRestMany)
                                    have e_aRivals := (up_ne ef29 n_aRivals_aCome e_aRivals)
                                    have e_aGone := (up_ne ef29 n_aGone_aCome e_aGone)
                                    have e_aOrder := (up_ne ef29 n_aOrder_aCome e_aOrder)
                                    have e_aOffAt := (up_ne ef29 n_aOffAt_aCome e_aOffAt)
                                    have e_aIsOff := (up_ne ef29 n_aIsOff_aCome e_aIsOff)
                                    have e_aAlone := (up_ne ef29 n_aAlone_aCome e_aAlone)
                                    have e_aKept := (up_ne ef29 n_aKept_aCome e_aKept)
                                    exact ih369 (x10_369 + 1) (vp_updL caCome_369 (Int32.toNatClampNeg x10_369) (o268.2.2 (Int32.toNatClampNeg x10_369))) f29 _ _ _ ho369 S e_y e_aWorlds e_aInWorld e_aKind e_aSize e_aMarks e_aSeed e_aContents e_aContentMany e_aRow e_aBits e_aLayerSize e_aLayerCame e_aRest e_aRestMany e_aCome e_aRivals e_aGone e_aOrder e_aOffAt e_aIsOff e_aAlone e_aKept fr (lv_sub hl [0, 1, 2, 3, 4, 5, 6] rfl)
                              exact LP369 FU (0 : Int32) caCome_162 fl335 _ _ _ ho369 S e_y e_aWorlds e_aInWorld e_aKind e_aSize e_aMarks e_aSeed e_aContents e_aContentMany e_aRow e_aBits e_aLayerSize e_aLayerCame e_aRest e_aRestMany e_aCome e_aRivals e_aGone e_aOrder e_aOffAt e_aIsOff e_aAlone e_aKept fr (lv_sub hl [0, 1, 2, 3, 5, 6, 7] rfl)
                            have LP335 : ∀ (fu : Nat) (x10_335 : Int32) (caRivals_335 : Nat → Int64) (fl335 : Nat → va_E) (H : Heap) (locs : List Loc) (ls : Array Slot), (mX9_layered_L335 x5_162 caCome_162) fu x10_335 caRivals_335 = some o335 → PS D g (va_A (va_pl L f) szz) s.heap s L fl335 H locs → fl335 y = .inr (7, [.ref aWorlds, .ref aInWorld, .ref aKind, .ref aSize, .ref aMarks, .ref aSeed, .ref aContents, .ref aContentMany, .ref aRow, .ref aBits, .ref aLayerSize, .ref aLayerCame, .ref aRest, .ref aRestMany, .int z33.2.1, .ref aCome, .ref aRivals, .ref aGone, .ref aOrder, .ref aOffAt, .ref aIsOff, .ref aAlone, .ref aKept]) → fl335 aWorlds = .inl (g 1, 8000, .inr (.inl vWorlds)) → fl335 aInWorld = .inl (g 0, 8, .inl vInWorld) → fl335 aKind = .inl (g 0, 30, .inl z33.2.2.1) → fl335 aSize = .inl (g 0, 30, .inl z259.1) → fl335 aMarks = .inl (g 0, 30, .inl z33.2.2.2.2.1) → fl335 aSeed = .inl (g 0, 30, .inl z33.2.2.2.2.2.1) → fl335 aContents = .inl (g 1, 30000, .inr (.inl z42.1)) → fl335 aContentMany = .inl (g 0, 30, .inl z42.2) → fl335 aRow = .inl (g 0, 122880, .inl z33.2.2.2.2.2.2.2.1) → fl335 aBits = .inl (g 0, 76800, .inl z259.2.1) → fl335 aLayerSize = .inl (g 0, 600, .inl z259.2.2.1) → fl335 aLayerCame = .inl (g 0, 600, .inl z259.2.2.2) → fl335 aRest = .inl (g 1, 30000, .inr (.inl caRest_162)) → fl335 aRestMany = .inl (g 0, 30, .inl caRestMany_162) → fl335 aCome = .inl (g 1, 1000, .inr (.inl caCome_162)) → fl335 aRivals = .inl (g 1, 1000, .inr (.inl caRivals_335)) → fl335 aGone = .inl (g 1, 1000, .inr (.inl o268.2.2)) → fl335 aOrder = .inl (g 0, 1000, .inl vOrder) → fl335 aOffAt = .inl (g 0, 1000, .inl vOffAt) → fl335 aIsOff = .inl (g 2, 1000, .inl vIsOff) → fl335 aAlone = .inl (g 0, 4096, .inl vAlone) → fl335 aKept = .inl (g 0, 4096, .inl vKept) → (∀ b, b ∈ L → b ≠ y → b ≠ aKind → b ≠ aSize → b ≠ aMarks → b ≠ aSeed → b ≠ aContents → b ≠ aContentMany → b ≠ aRow → b ≠ aBits → b ≠ aLayerSize → b ≠ aLayerCame → b ≠ aRest → b ≠ aRestMany → b ≠ aCome → b ≠ aRivals → b ≠ aGone → fl335 b = f b) → lv_has ls 11 [(10, .int x10_335), (6, .int x5_162), (7, .int (0 : Int32)), (9, .int o268.2.1), (8, .int x8_162), (5, .int x5_162), (4, .int z33.1), (0, .ref y)] → W p l e { frames := 2, cells := 0, slots := 0, locals := 57 } s m [.ref y, .int wi, .int wa, .int by_].toArray below meth c H locs 0 0 QQ (F0 m 335 ls []) := by
                              intro fu
                              induction fu with
                              | zero => intro x10_335 caRivals_335 fl335 H locs ls ho335 S e_y e_aWorlds e_aInWorld e_aKind e_aSize e_aMarks e_aSeed e_aContents e_aContentMany e_aRow e_aBits e_aLayerSize e_aLayerCame e_aRest e_aRestMany e_aCome e_aRivals e_aGone e_aOrder e_aOffAt e_aIsOff e_aAlone e_aKept fr hl; exact no_some ho335
                              | succ fu ih335 =>
                                intro x10_335 caRivals_335 fl335 H locs ls ho335 S e_y e_aWorlds e_aInWorld e_aKind e_aSize e_aMarks e_aSeed e_aContents e_aContentMany e_aRow e_aBits e_aLayerSize e_aLayerCame e_aRest e_aRestMany e_aCome e_aRivals e_aGone e_aOrder e_aOffAt e_aIsOff e_aAlone e_aKept fr hl
                                rw [mX9_layered_L335] at ho335
                                refine lv_iload hx hb dX9_layered_335 (lv_at hl 0 rfl) ?_
                                refine lv_iload hx hb dX9_layered_337 (lv_at hl 5 rfl) ?_
                                refine lv_icmp_ge (tgt := 362) hx hb dX9_layered_339 (by decide) (fun b339 => ?_) (fun b339 => ?_)
                                · have ho335 := itT b339 ho335
                                  obtain rfl := Option.some.inj ho335
                                  exact EX335 fl335 _ _ _ S e_y e_aWorlds e_aInWorld e_aKind e_aSize e_aMarks e_aSeed e_aContents e_aContentMany e_aRow e_aBits e_aLayerSize e_aLayerCame e_aRest e_aRestMany e_aCome e_aRivals e_aGone e_aOrder e_aOffAt e_aIsOff e_aAlone e_aKept fr (lv_sub hl [1, 2, 3, 4, 6, 7] rfl)
                                · have ho335 := itF b339 ho335
                                  refine lv_aload_n hx hb dX9_layered_342 rfl (lv_at hl 7 rfl) ?_
                                  refine q_get hx hb hts in_X9 hown S m_y e_y (C := RX9) (T := TX9) (N := 23) rfl 16 (by decide) rfl (hts (.fieldLink RX9 58 "SieveCabinetModel" "rivals" "[J") (by decide +kernel)) dX9_layered_343 ?_
                                  refine lv_iload hx hb dX9_layered_346 (lv_at hl 0 rfl) ?_
                                  refine lv_aload_n hx hb dX9_layered_348 rfl (lv_at hl 7 rfl) ?_
                                  refine q_get hx hb hts in_X9 hown S m_y e_y (C := RX9) (T := TX9) (N := 23) rfl 15 (by decide) rfl (hts (.fieldLink RX9 55 "SieveCabinetModel" "come" "[J") (by decide +kernel)) dX9_layered_349 ?_
                                  refine lv_iload hx hb dX9_layered_352 (lv_at hl 0 rfl) ?_
                                  obtain ⟨hi354, ho335⟩ := ckx ho335
                                  refine q_lald hx hb S m_aCome e_aCome hi354 dX9_layered_354 ?_
                                  obtain ⟨hi355, ho335⟩ := ckx ho335
                                  refine k_last hx hb S m_aRivals e_aRivals hi355 dX9_layered_355 (fun f30 ef30 H locs S => ?_)
                                  have e_aRivals := up_self ef30
                                  have fr : ∀ b, b ∈ L → b ≠ y → b ≠ aKind → b ≠ aSize → b ≠ aMarks → b ≠ aSeed → b ≠ aContents → b ≠ aContentMany → b ≠ aRow → b ≠ aBits → b ≠ aLayerSize → b ≠ aLayerCame → b ≠ aRest → b ≠ aRestMany → b ≠ aCome → b ≠ aRivals → b ≠ aGone → f30 b = f b := fun b mb nb0 nb1 nb2 nb3 nb4 nb5 nb6 nb7 nb8 nb9 nb10 nb11 nb12 nb13 nb14 nb15 => (up_ne ef30 nb14 rfl).trans (fr b mb nb0 nb1 nb2 nb3 nb4 nb5 nb6 nb7 nb8 nb9 nb10 nb11 nb12 nb13 nb14 nb15)
                                  refine lv_iinc (v := (x10_335 + 1)) (lv' := [(10, .int (x10_335 + 1)), (6, .int x5_162), (7, .int (0 : Int32)), (9, .int o268.2.1), (8, .int x8_162), (5, .int x5_162), (4, .int z33.1), (0, .ref y)]) hx hb dX9_layered_356 hl (k := 0) rfl rfl (by decide) rfl (fun ls hl => ?_)
                                  refine lv_goto (tgt := 335) hx hb dX9_layered_359 (by decide) ?_
                                  have e_y := (up_ne ef30 n_y_aRivals e_y)
                                  have e_aWorlds := (up_ne ef30 n_aWorlds_aRivals e_aWorlds)
                                  have e_aInWorld := (up_ne ef30 n_aInWorld_aRivals e_aInWorld)
                                  have e_aKind := (up_ne ef30 n_aKind_aRivals e_aKind)
                                  have e_aSize := (up_ne ef30 n_aSize_aRivals e_aSize)
                                  have e_aMarks := (up_ne ef30 n_aMarks_aRivals e_aMarks)
                                  have e_aSeed := (up_ne ef30 n_aSeed_aRivals e_aSeed)
                                  have e_aContents := (up_ne ef30 n_aContents_aRivals e_aContents)
                                  have e_aContentMany := (up_ne ef30 n_aContentMany_aRivals e_aContentMany)
                                  have e_aRow := (up_ne ef30 n_aRow_aRivals e_aRow)
                                  have e_aBits := (up_ne ef30 n_aBits_aRivals e_aBits)
                                  have e_aLayerSize := (up_ne ef30 n_aLayerSize_aRivals e_aLayerSize)
                                  have e_aLayerCame := (up_ne ef30 n_aLayerCame_aRivals e_aLayerCame)
                                  have e_aRest := (up_ne ef30 n_aRest_aRivals e_aRest)
                                  have e_aRestMany := (up_ne ef30 n_aRestMany_aRivals e_aRestMany)
                                  have e_aCome := (up_ne ef30 n_aCome_aRivals e_aCome)
                                  have e_aGone := (up_ne ef30 n_aGone_aRivals e_aGone)
                                  have e_aOrder := (up_ne ef30 n_aOrder_aRivals e_aOrder)
                                  have e_aOffAt := (up_ne ef30 n_aOffAt_aRivals e_aOffAt)
                                  have e_aIsOff := (up_ne ef30 n_aIsOff_aRivals e_aIsOff)
                                  have e_aAlone := (up_ne ef30 n_aAlone_aRivals e_aAlone)
                                  have e_aKept := (up_ne ef30 n_aKept_aRivals e_aKept)
                                  exact ih335 (x10_335 + 1) (vp_updL caRivals_335 (Int32.toNatClampNeg x10_335) (caCome_162 (Int32.toNatClampNeg x10_335))) f30 _ _ _ ho335 S e_y e_aWorlds e_aInWorld e_aKind e_aSize e_aMarks e_aSeed e_aContents e_aContentMany e_aRow e_aBits e_aLayerSize e_aLayerCame e_aRest e_aRestMany e_aCome e_aRivals e_aGone e_aOrder e_aOffAt e_aIsOff e_aAlone e_aKept fr (lv_sub hl [0, 1, 2, 3, 4, 5, 6, 7] rfl)
                            exact LP335 FU (0 : Int32) caRivals_162 fl268 _ _ _ ho335 S e_y e_aWorlds e_aInWorld e_aKind e_aSize e_aMarks e_aSeed e_aContents e_aContentMany e_aRow e_aBits e_aLayerSize e_aLayerCame e_aRest e_aRestMany e_aCome e_aRivals e_aGone e_aOrder e_aOffAt e_aIsOff e_aAlone e_aKept fr (lv_sub hl [0, 1, 2, 3, 4, 5, 6, 7] rfl)
                          · have ho162 := itF b318 ho162
                            refine lv_iconst (v := (1 : Int32)) hx hb dX9_layered_321 (by decide) ?_
                            refine lv_goto (tgt := 326) hx hb dX9_layered_322 (by decide) ?_
                            refine lv_istore (lv' := [(7, .int (1 : Int32)), (9, .int o268.2.1), (8, .int x8_162), (5, .int x5_162), (4, .int z33.1), (0, .ref y)]) hx hb dX9_layered_326 hl (by decide) rfl (fun ls hl => ?_)
                            refine lv_iload hx hb dX9_layered_328 (lv_at hl 3 rfl) ?_
                            refine lv_istore (lv' := [(6, .int x5_162), (7, .int (1 : Int32)), (9, .int o268.2.1), (8, .int x8_162), (5, .int x5_162), (4, .int z33.1), (0, .ref y)]) hx hb dX9_layered_330 hl (by decide) rfl (fun ls hl => ?_)
                            refine lv_iconst (v := (0 : Int32)) hx hb dX9_layered_332 (by decide) ?_
                            refine lv_istore (lv' := [(10, .int (0 : Int32)), (6, .int x5_162), (7, .int (1 : Int32)), (9, .int o268.2.1), (8, .int x8_162), (5, .int x5_162), (4, .int z33.1), (0, .ref y)]) hx hb dX9_layered_333 hl (by decide) rfl (fun ls hl => ?_)
                            obtain ⟨o335, ho335, ho162⟩ := bind_some ho162
                            have EX335 : ∀ (fl335 : Nat → va_E) (H : Heap) (locs : List Loc) (ls : Array Slot), PS D g (va_A (va_pl L f) szz) s.heap s L fl335 H locs → fl335 y = .inr (7, [.ref aWorlds, .ref aInWorld, .ref aKind, .ref aSize, .ref aMarks, .ref aSeed, .ref aContents, .ref aContentMany, .ref aRow, .ref aBits, .ref aLayerSize, .ref aLayerCame, .ref aRest, .ref aRestMany, .int z33.2.1, .ref aCome, .ref aRivals, .ref aGone, .ref aOrder, .ref aOffAt, .ref aIsOff, .ref aAlone, .ref aKept]) → fl335 aWorlds = .inl (g 1, 8000, .inr (.inl vWorlds)) → fl335 aInWorld = .inl (g 0, 8, .inl vInWorld) → fl335 aKind = .inl (g 0, 30, .inl z33.2.2.1) → fl335 aSize = .inl (g 0, 30, .inl z259.1) → fl335 aMarks = .inl (g 0, 30, .inl z33.2.2.2.2.1) → fl335 aSeed = .inl (g 0, 30, .inl z33.2.2.2.2.2.1) → fl335 aContents = .inl (g 1, 30000, .inr (.inl z42.1)) → fl335 aContentMany = .inl (g 0, 30, .inl z42.2) → fl335 aRow = .inl (g 0, 122880, .inl z33.2.2.2.2.2.2.2.1) → fl335 aBits = .inl (g 0, 76800, .inl z259.2.1) → fl335 aLayerSize = .inl (g 0, 600, .inl z259.2.2.1) → fl335 aLayerCame = .inl (g 0, 600, .inl z259.2.2.2) → fl335 aRest = .inl (g 1, 30000, .inr (.inl caRest_162)) → fl335 aRestMany = .inl (g 0, 30, .inl caRestMany_162) → fl335 aCome = .inl (g 1, 1000, .inr (.inl caCome_162)) → fl335 aRivals = .inl (g 1, 1000, .inr (.inl o335.2)) → fl335 aGone = .inl (g 1, 1000, .inr (.inl o268.2.2)) → fl335 aOrder = .inl (g 0, 1000, .inl vOrder) → fl335 aOffAt = .inl (g 0, 1000, .inl vOffAt) → fl335 aIsOff = .inl (g 2, 1000, .inl vIsOff) → fl335 aAlone = .inl (g 0, 4096, .inl vAlone) → fl335 aKept = .inl (g 0, 4096, .inl vKept) → (∀ b, b ∈ L → b ≠ y → b ≠ aKind → b ≠ aSize → b ≠ aMarks → b ≠ aSeed → b ≠ aContents → b ≠ aContentMany → b ≠ aRow → b ≠ aBits → b ≠ aLayerSize → b ≠ aLayerCame → b ≠ aRest → b ≠ aRestMany → b ≠ aCome → b ≠ aRivals → b ≠ aGone → fl335 b = f b) → lv_has ls 11 [(6, .int x5_162), (7, .int (1 : Int32)), (9, .int o268.2.1), (8, .int x8_162), (4, .int z33.1), (0, .ref y)] → W p l e { frames := 2, cells := 0, slots := 0, locals := 57 } s m [.ref y, .int wi, .int wa, .int by_].toArray below meth c H locs 0 0 QQ (F0 m 362 ls []) := by
                              intro fl335 H locs ls S e_y e_aWorlds e_aInWorld e_aKind e_aSize e_aMarks e_aSeed e_aContents e_aContentMany e_aRow e_aBits e_aLayerSize e_aLayerCame e_aRest e_aRestMany e_aCome e_aRivals e_aGone e_aOrder e_aOffAt e_aIsOff e_aAlone e_aKept fr hl
                              refine lv_iload hx hb dX9_layered_362 (lv_at hl 2 rfl) ?_
                              refine lv_istore (lv' := [(5, .int o268.2.1), (6, .int x5_162), (7, .int (1 : Int32)), (9, .int o268.2.1), (8, .int x8_162), (4, .int z33.1), (0, .ref y)]) hx hb dX9_layered_364 hl (by decide) rfl (fun ls hl => ?_)
                              refine lv_iconst (v := (0 : Int32)) hx hb dX9_layered_366 (by decide) ?_
                              refine lv_istore (lv' := [(10, .int (0 : Int32)), (5, .int o268.2.1), (6, .int x5_162), (7, .int (1 : Int32)), (9, .int o268.2.1), (8, .int x8_162), (4, .int z33.1), (0, .ref y)]) hx hb dX9_layered_367 hl (by decide) rfl (fun ls hl => ?_)
                              obtain ⟨o369, ho369, ho162⟩ := bind_some ho162
                              have EX369 : ∀ (fl369 : Nat → va_E) (H : Heap) (locs : List Loc) (ls : Array Slot), PS D g (va_A (va_pl L f) szz) s.heap s L fl369 H locs → fl369 y = .inr (7, [.ref aWorlds, .ref aInWorld, .ref aKind, .ref aSize, .ref aMarks, .ref aSeed, .ref aContents, .ref aContentMany, .ref aRow, .ref aBits, .ref aLayerSize, .ref aLayerCame, .ref aRest, .ref aRestMany, .int z33.2.1, .ref aCome, .ref aRivals, .ref aGone, .ref aOrder, .ref aOffAt, .ref aIsOff, .ref aAlone, .ref aKept]) → fl369 aWorlds = .inl (g 1, 8000, .inr (.inl vWorlds)) → fl369 aInWorld = .inl (g 0, 8, .inl vInWorld) → fl369 aKind = .inl (g 0, 30, .inl z33.2.2.1) → fl369 aSize = .inl (g 0, 30, .inl z259.1) → fl369 aMarks = .inl (g 0, 30, .inl z33.2.2.2.2.1) → fl369 aSeed = .inl (g 0, 30, .inl z33.2.2.2.2.2.1) → fl369 aContents = .inl (g 1, 30000, .inr (.inl z42.1)) → fl369 aContentMany = .inl (g 0, 30, .inl z42.2) → fl369 aRow = .inl (g 0, 122880, .inl z33.2.2.2.2.2.2.2.1) → fl369 aBits = .inl (g 0, 76800, .inl z259.2.1) → fl369 aLayerSize = .inl (g 0, 600, .inl z259.2.2.1) → fl369 aLayerCame = .inl (g 0, 600, .inl z259.2.2.2) → fl369 aRest = .inl (g 1, 30000, .inr (.inl caRest_162)) → fl369 aRestMany = .inl (g 0, 30, .inl caRestMany_162) → fl369 aCome = .inl (g 1, 1000, .inr (.inl o369.2)) → fl369 aRivals = .inl (g 1, 1000, .inr (.inl o335.2)) → fl369 aGone = .inl (g 1, 1000, .inr (.inl o268.2.2)) → fl369 aOrder = .inl (g 0, 1000, .inl vOrder) → fl369 aOffAt = .inl (g 0, 1000, .inl vOffAt) → fl369 aIsOff = .inl (g 2, 1000, .inl vIsOff) → fl369 aAlone = .inl (g 0, 4096, .inl vAlone) → fl369 aKept = .inl (g 0, 4096, .inl vKept) → (∀ b, b ∈ L → b ≠ y → b ≠ aKind → b ≠ aSize → b ≠ aMarks → b ≠ aSeed → b ≠ aContents → b ≠ aContentMany → b ≠ aRow → b ≠ aBits → b ≠ aLayerSize → b ≠ aLayerCame → b ≠ aRest → b ≠ aRestMany → b ≠ aCome → b ≠ aRivals → b ≠ aGone → fl369 b = f b) → lv_has ls 11 [(5, .int o268.2.1), (6, .int x5_162), (7, .int (1 : Int32)), (8, .int x8_162), (4, .int z33.1), (0, .ref y)] → W p l e { frames := 2, cells := 0, slots := 0, locals := 57 } s m [.ref y, .int wi, .int wa, .int by_].toArray below meth c H locs 0 0 QQ (F0 m 396 ls []) := by
                                intro fl369 H locs ls S e_y e_aWorlds e_aInWorld e_aKind e_aSize e_aMarks e_aSeed e_aContents e_aContentMany e_aRow e_aBits e_aLayerSize e_aLayerCame e_aRest e_aRestMany e_aCome e_aRivals e_aGone e_aOrder e_aOffAt e_aIsOff e_aAlone e_aKept fr hl
                                refine lv_iinc (v := (x8_162 + 1)) (lv' := [(8, .int (x8_162 + 1)), (5, .int o268.2.1), (6, .int x5_162), (7, .int (1 : Int32)), (4, .int z33.1), (0, .ref y)]) hx hb dX9_layered_396 hl (k := 3) rfl rfl (by decide) rfl (fun ls hl => ?_)
                                refine lv_goto (tgt := 162) hx hb dX9_layered_399 (by decide) ?_
                                exact ih162 (x8_162 + 1) (1 : Int32) x5_162 o268.2.1 z259.1 z259.2.1 z259.2.2.1 z259.2.2.2 caRest_162 caRestMany_162 o369.2 o335.2 o268.2.2 fl369 _ _ _ ho162 S e_y e_aWorlds e_aInWorld e_aKind e_aSize e_aMarks e_aSeed e_aContents e_aContentMany e_aRow e_aBits e_aLayerSize e_aLayerCame e_aRest e_aRestMany e_aCome e_aRivals e_aGone e_aOrder e_aOffAt e_aIsOff e_aAlone e_aKept fr (lv_sub hl [0, 3, 2, 1, 4, 5] rfl)
                              have LP369 : ∀ (fu : Nat) (x10_369 : Int32) (caCome_369 : Nat → Int64) (fl369 : Nat → va_E) (H : Heap) (locs : List Loc) (ls : Array Slot), (mX9_layered_L369 o268) fu x10_369 caCome_369 = some o369 → PS D g (va_A (va_pl L f) szz) s.heap s L fl369 H locs → fl369 y = .inr (7, [.ref aWorlds, .ref aInWorld, .ref aKind, .ref aSize, .ref aMarks, .ref aSeed, .ref aContents, .ref aContentMany, .ref aRow, .ref aBits, .ref aLayerSize, .ref aLayerCame, .ref aRest, .ref aRestMany, .int z33.2.1, .ref aCome, .ref aRivals, .ref aGone, .ref aOrder, .ref aOffAt, .ref aIsOff, .ref aAlone, .ref aKept]) → fl369 aWorlds = .inl (g 1, 8000, .inr (.inl vWorlds)) → fl369 aInWorld = .inl (g 0, 8, .inl vInWorld) → fl369 aKind = .inl (g 0, 30, .inl z33.2.2.1) → fl369 aSize = .inl (g 0, 30, .inl z259.1) → fl369 aMarks = .inl (g 0, 30, .inl z33.2.2.2.2.1) → fl369 aSeed = .inl (g 0, 30, .inl z33.2.2.2.2.2.1) → fl369 aContents = .inl (g 1, 30000, .inr (.inl z42.1)) → fl369 aContentMany = .inl (g 0, 30, .inl z42.2) → fl369 aRow = .inl (g 0, 122880, .inl z33.2.2.2.2.2.2.2.1) → fl369 aBits = .inl (g 0, 76800, .inl z259.2.1) → fl369 aLayerSize = .inl (g 0, 600, .inl z259.2.2.1) → fl369 aLayerCame = .inl (g 0, 600, .inl z259.2.2.2) → fl369 aRest = .inl (g 1, 30000, .inr (.inl caRest_162)) → fl369 aRestMany = .inl (g 0, 30, .inl caRestMany_162) → fl369 aCome = .inl (g 1, 1000, .inr (.inl caCome_369)) → fl369 aRivals = .inl (g 1, 1000, .inr (.inl o335.2)) → fl369 aGone = .inl (g 1, 1000, .inr (.inl o268.2.2)) → fl369 aOrder = .inl (g 0, 1000, .inl vOrder) → fl369 aOffAt = .inl (g 0, 1000, .inl vOffAt) → fl369 aIsOff = .inl (g 2, 1000, .inl vIsOff) → fl369 aAlone = .inl (g 0, 4096, .inl vAlone) → fl369 aKept = .inl (g 0, 4096, .inl vKept) → (∀ b, b ∈ L → b ≠ y → b ≠ aKind → b ≠ aSize → b ≠ aMarks → b ≠ aSeed → b ≠ aContents → b ≠ aContentMany → b ≠ aRow → b ≠ aBits → b ≠ aLayerSize → b ≠ aLayerCame → b ≠ aRest → b ≠ aRestMany → b ≠ aCome → b ≠ aRivals → b ≠ aGone → fl369 b = f b) → lv_has ls 11 [(10, .int x10_369), (5, .int o268.2.1), (6, .int x5_162), (7, .int (1 : Int32)), (8, .int x8_162), (4, .int z33.1), (0, .ref y)] → W p l e { frames := 2, cells := 0, slots := 0, locals := 57 } s m [.ref y, .int wi, .int wa, .int by_].toArray below meth c H locs 0 0 QQ (F0 m 369 ls []) := by
                                intro fu
                                induction fu with
                                | zero => intro x10_369 caCome_369 fl369 H locs ls ho369 S e_y e_aWorlds e_aInWorld e_aKind e_aSize e_aMarks e_aSeed e_aContents e_aContentMany e_aRow e_aBits e_aLayerSize e_aLayerCame e_aRest e_aRestMany e_aCome e_aRivals e_aGone e_aOrder e_aOffAt e_aIsOff e_aAlone e_aKept fr hl; exact no_some ho369
                                | succ fu ih369 =>
                                  intro x10_369 caCome_369 fl369 H locs ls ho369 S e_y e_aWorlds e_aInWorld e_aKind e_aSize e_aMarks e_aSeed e_aContents e_aContentMany e_aRow e_aBits e_aLayerSize e_aLayerCame e_aRest e_aRestMany e_aCome e_aRivals e_aGone e_aOrder e_aOffAt e_aIsOff e_aAlone e_aKept fr hl
                                  rw [mX9_layered_L369] at ho369
                                  refine lv_iload hx hb dX9_layered_369 (lv_at hl 0 rfl) ?_
                                  refine lv_iload hx hb dX9_layered_371 (lv_at hl 1 rfl) ?_
                                  refine lv_icmp_ge (tgt := 396) hx hb dX9_layered_373 (by decide) (fun b373 => ?_) (fun b373 => ?_)
                                  · have ho369 := itT b373 ho369
                                    obtain rfl := Option.some.inj ho369
                                    exact EX369 fl369 _ _ _ S e_y e_aWorlds e_aInWorld e_aKind e_aSize e_aMarks e_aSeed e_aContents e_aContentMany e_aRow e_aBits e_aLayerSize e_aLayerCame e_aRest e_aRestMany e_aCome e_aRivals e_aGone e_aOrder e_aOffAt e_aIsOff e_aAlone e_aKept fr (lv_sub hl [1, 2, 3, 4, 5, 6] rfl)
                                  · have ho369 := itF b373 ho369
                                    refine lv_aload_n hx hb dX9_layered_376 rfl (lv_at hl 6 rfl) ?_
                                    refine q_get hx hb hts in_X9 hown S m_y e_y (C := RX9) (T := TX9) (N := 23) rfl 15 (by decide) rfl (hts (.fieldLink RX9 55 "SieveCabinetModel" "come" "[J") (by decide +kernel)) dX9_layered_377 ?_
                                    refine lv_iload hx hb dX9_layered_380 (lv_at hl 0 rfl) ?_
                                    refine lv_aload_n hx hb dX9_layered_382 rfl (lv_at hl 6 rfl) ?_
                                    refine q_get hx hb hts in_X9 hown S m_y e_y (C := RX9) (T := TX9) (N := 23) rfl 17 (by decide) rfl (hts (.fieldLink RX9 61 "SieveCabinetModel" "gone" "[J") (by decide +kernel)) dX9_layered_383 ?_
                                    refine lv_iload hx hb dX9_layered_386 (lv_at hl 0 rfl) ?_
                                    obtain ⟨hi388, ho369⟩ := ckx ho369
                                    refine q_lald hx hb S m_aGone e_aGone hi388 dX9_layered_388 ?_
                                    obtain ⟨hi389, ho369⟩ := ckx ho369
                                    refine k_last hx hb S m_aCome e_aCome hi389 dX9_layered_389 (fun f31 ef31 H locs S => ?_)
                                    have e_aCome := up_self ef31
                                    have fr : ∀ b, b ∈ L → b ≠ y → b ≠ aKind → b ≠ aSize → b ≠ aMarks → b ≠ aSeed → b ≠ aContents → b ≠ aContentMany → b ≠ aRow → b ≠ aBits → b ≠ aLayerSize → b ≠ aLayerCame → b ≠ aRest → b ≠ aRestMany → b ≠ aCome → b ≠ aRivals → b ≠ aGone → f31 b = f b := fun b mb nb0 nb1 nb2 nb3 nb4 nb5 nb6 nb7 nb8 nb9 nb10 nb11 nb12 nb13 nb14 nb15 => (up_ne ef31 nb13 rfl).trans (fr b mb nb0 nb1 nb2 nb3 nb4 nb5 nb6 nb7 nb8 nb9 nb10 nb11 nb12 nb13 nb14 nb15)
                                    refine lv_iinc (v := (x10_369 + 1)) (lv' := [(10, .int (x10_369 + 1)), (5, .int o268.2.1), (6, .int x5_162), (7, .int (1 : Int32)), (8, .int x8_162), (4, .int z33.1), (0, .ref y)]) hx hb dX9_layered_390 hl (k := 0) rfl rfl (by decide) rfl (fun ls hl => ?_)
                                    refine lv_goto (tgt := 369) hx hb dX9_layered_393 (by decide) ?_
                                    have e_y := (up_ne ef31 n_y_aCome e_y)
                                    have e_aWorlds := (up_ne ef31 n_aWorlds_aCome e_aWorlds)
                                    have e_aInWorld := (up_ne ef31 n_aInWorld_aCome e_aInWorld)
                                    have e_aKind := (up_ne ef31 n_aKind_aCome e_aKind)
                                    have e_aSize := (up_ne ef31 n_aSize_aCome e_aSize)
                                    have e_aMarks := (up_ne ef31 n_aMarks_aCome e_aMarks)
                                    have e_aSeed := (up_ne ef31 n_aSeed_aCome e_aSeed)
                                    have e_aContents := (up_ne ef31 n_aContents_aCome e_aContents)
                                    have e_aContentMany := (up_ne ef31 n_aContentMany_aCome e_aContentMany)
                                    have e_aRow := (up_ne ef31 n_aRow_aCome e_aRow)
                                    have e_aBits := (up_ne ef31 n_aBits_aCome e_aBits)
                                    have e_aLayerSize := (up_ne ef31 n_aLayerSize_aCome e_aLayerSize)
                                    have e_aLayerCame := (up_ne ef31 n_aLayerCame_aCome e_aLayerCame)
                                    have e_aRest := (up_ne ef31 n_aRest_aCome e_aRest)
                                    have e_aRestMany := (up_ne ef31 n_aRestMany_aCome e_aRestMany)
                                    have e_aRivals := (up_ne ef31 n_aRivals_aCome e_aRivals)
                                    have e_aGone := (up_ne ef31 n_aGone_aCome e_aGone)
                                    have e_aOrder := (up_ne ef31 n_aOrder_aCome e_aOrder)
                                    have e_aOffAt := (up_ne ef31 n_aOffAt_aCome e_aOffAt)
                                    have e_aIsOff := (up_ne ef31 n_aIsOff_aCome e_aIsOff)
                                    have e_aAlone := (up_ne ef31 n_aAlone_aCome e_aAlone)
                                    have e_aKept := (up_ne ef31 n_aKept_aCome e_aKept)
                                    exact ih369 (x10_369 + 1) (vp_updL caCome_369 (Int32.toNatClampNeg x10_369) (o268.2.2 (Int32.toNatClampNeg x10_369))) f31 _ _ _ ho369 S e_y e_aWorlds e_aInWorld e_aKind e_aSize e_aMarks e_aSeed e_aContents e_aContentMany e_aRow e_aBits e_aLayerSize e_aLayerCame e_aRest e_aRestMany e_aCome e_aRivals e_aGone e_aOrder e_aOffAt e_aIsOff e_aAlone e_aKept fr (lv_sub hl [0, 1, 2, 3, 4, 5, 6] rfl)
                              exact LP369 FU (0 : Int32) caCome_162 fl335 _ _ _ ho369 S e_y e_aWorlds e_aInWorld e_aKind e_aSize e_aMarks e_aSeed e_aContents e_aContentMany e_aRow e_aBits e_aLayerSize e_aLayerCame e_aRest e_aRestMany e_aCome e_aRivals e_aGone e_aOrder e_aOffAt e_aIsOff e_aAlone e_aKept fr (lv_sub hl [0, 1, 2, 3, 5, 6, 7] rfl)
                            have LP335 : ∀ (fu : Nat) (x10_335 : Int32) (caRivals_335 : Nat → Int64) (fl335 : Nat → va_E) (H : Heap) (locs : List Loc) (ls : Array Slot), (mX9_layered_L335 x5_162 caCome_162) fu x10_335 caRivals_335 = some o335 → PS D g (va_A (va_pl L f) szz) s.heap s L fl335 H locs → fl335 y = .inr (7, [.ref aWorlds, .ref aInWorld, .ref aKind, .ref aSize, .ref aMarks, .ref aSeed, .ref aContents, .ref aContentMany, .ref aRow, .ref aBits, .ref aLayerSize, .ref aLayerCame, .ref aRest, .ref aRestMany, .int z33.2.1, .ref aCome, .ref aRivals, .ref aGone, .ref aOrder, .ref aOffAt, .ref aIsOff, .ref aAlone, .ref aKept]) → fl335 aWorlds = .inl (g 1, 8000, .inr (.inl vWorlds)) → fl335 aInWorld = .inl (g 0, 8, .inl vInWorld) → fl335 aKind = .inl (g 0, 30, .inl z33.2.2.1) → fl335 aSize = .inl (g 0, 30, .inl z259.1) → fl335 aMarks = .inl (g 0, 30, .inl z33.2.2.2.2.1) → fl335 aSeed = .inl (g 0, 30, .inl z33.2.2.2.2.2.1) → fl335 aContents = .inl (g 1, 30000, .inr (.inl z42.1)) → fl335 aContentMany = .inl (g 0, 30, .inl z42.2) → fl335 aRow = .inl (g 0, 122880, .inl z33.2.2.2.2.2.2.2.1) → fl335 aBits = .inl (g 0, 76800, .inl z259.2.1) → fl335 aLayerSize = .inl (g 0, 600, .inl z259.2.2.1) → fl335 aLayerCame = .inl (g 0, 600, .inl z259.2.2.2) → fl335 aRest = .inl (g 1, 30000, .inr (.inl caRest_162)) → fl335 aRestMany = .inl (g 0, 30, .inl caRestMany_162) → fl335 aCome = .inl (g 1, 1000, .inr (.inl caCome_162)) → fl335 aRivals = .inl (g 1, 1000, .inr (.inl caRivals_335)) → fl335 aGone = .inl (g 1, 1000, .inr (.inl o268.2.2)) → fl335 aOrder = .inl (g 0, 1000, .inl vOrder) → fl335 aOffAt = .inl (g 0, 1000, .inl vOffAt) → fl335 aIsOff = .inl (g 2, 1000, .inl vIsOff) → fl335 aAlone = .inl (g 0, 4096, .inl vAlone) → fl335 aKept = .inl (g 0, 4096, .inl vKept) → (∀ b, b ∈ L → b ≠ y → b ≠ aKind → b ≠ aSize → b ≠ aMarks → b ≠ aSeed → b ≠ aContents → b ≠ aContentMany → b ≠ aRow → b ≠ aBits → b ≠ aLayerSize → b ≠ aLayerCame → b ≠ aRest → b ≠ aRestMany → b ≠ aCome → b ≠ aRivals → b ≠ aGone → fl335 b = f b) → lv_has ls 11 [(10, .int x10_335), (6, .int x5_162), (7, .int (1 : Int32)), (9, .int o268.2.1), (8, .int x8_162), (5, .int x5_162), (4, .int z33.1), (0, .ref y)] → W p l e { frames := 2, cells := 0, slots := 0, locals := 57 } s m [.ref y, .int wi, .int wa, .int by_].toArray below meth c H locs 0 0 QQ (F0 m 335 ls []) := by
                              intro fu
                              induction fu with
                              | zero => intro x10_335 caRivals_335 fl335 H locs ls ho335 S e_y e_aWorlds e_aInWorld e_aKind e_aSize e_aMarks e_aSeed e_aContents e_aContentMany e_aRow e_aBits e_aLayerSize e_aLayerCame e_aRest e_aRestMany e_aCome e_aRivals e_aGone e_aOrder e_aOffAt e_aIsOff e_aAlone e_aKept fr hl; exact no_some ho335
                              | succ fu ih335 =>
                                intro x10_335 caRivals_335 fl335 H locs ls ho335 S e_y e_aWorlds e_aInWorld e_aKind e_aSize e_aMarks e_aSeed e_aContents e_aContentMany e_aRow e_aBits e_aLayerSize e_aLayerCame e_aRest e_aRestMany e_aCome e_aRivals e_aGone e_aOrder e_aOffAt e_aIsOff e_aAlone e_aKept fr hl
                                rw [mX9_layered_L335] at ho335
                                refine lv_iload hx hb dX9_layered_335 (lv_at hl 0 rfl) ?_
                                refine lv_iload hx hb dX9_layered_337 (lv_at hl 5 rfl) ?_
                                refine lv_icmp_ge (tgt := 362) hx hb dX9_layered_339 (by decide) (fun b339 => ?_) (fun b339 => ?_)
                                · have ho335 := itT b339 ho335
                                  obtain rfl := Option.some.inj ho335
                                  exact EX335 fl335 _ _ _ S e_y e_aWorlds e_aInWorld e_aKind e_aSize e_aMarks e_aSeed e_aContents e_aContentMany e_aRow e_aBits e_aLayerSize e_aLayerCame e_aRest e_aRestMany e_aCome e_aRivals e_aGone e_aOrder e_aOffAt e_aIsOff e_aAlone e_aKept fr (lv_sub hl [1, 2, 3, 4, 6, 7] rfl)
                                · have ho335 := itF b339 ho335
                                  refine lv_aload_n hx hb dX9_layered_342 rfl (lv_at hl 7 rfl) ?_
                                  refine q_get hx hb hts in_X9 hown S m_y e_y (C := RX9) (T := TX9) (N := 23) rfl 16 (by decide) rfl (hts (.fieldLink RX9 58 "SieveCabinetModel" "rivals" "[J") (by decide +kernel)) dX9_layered_343 ?_
                                  refine lv_iload hx hb dX9_layered_346 (lv_at hl 0 rfl) ?_
                                  refine lv_aload_n hx hb dX9_layered_348 rfl (lv_at hl 7 rfl) ?_
                                  refine q_get hx hb hts in_X9 hown S m_y e_y (C := RX9) (T := TX9) (N := 23) rfl 15 (by decide) rfl (hts (.fieldLink RX9 55 "SieveCabinetModel" "come" "[J") (by decide +kernel)) dX9_layered_349 ?_
                                  refine lv_iload hx hb dX9_layered_352 (lv_at hl 0 rfl) ?_
                                  obtain ⟨hi354, ho335⟩ := ckx ho335
                                  refine q_lald hx hb S m_aCome e_aCome hi354 dX9_layered_354 ?_
                                  obtain ⟨hi355, ho335⟩ := ckx ho335
                                  refine k_last hx hb S m_aRivals e_aRivals hi355 dX9_layered_355 (fun f32 ef32 H locs S => ?_)
                                  have e_aRivals := up_self ef32
                                  have fr : ∀ b, b ∈ L → b ≠ y → b ≠ aKind → b ≠ aSize → b ≠ aMarks → b ≠ aSeed → b ≠ aContents → b ≠ aContentMany → b ≠ aRow → b ≠ aBits → b ≠ aLayerSize → b ≠ aLayerCame → b ≠ aRest → b ≠ aRestMany → b ≠ aCome → b ≠ aRivals → b ≠ aGone → f32 b = f b := fun b mb nb0 nb1 nb2 nb3 nb4 nb5 nb6 nb7 nb8 nb9 nb10 nb11 nb12 nb13 nb14 nb15 => (up_ne ef32 nb14 rfl).trans (fr b mb nb0 nb1 nb2 nb3 nb4 nb5 nb6 nb7 nb8 nb9 nb10 nb11 nb12 nb13 nb14 nb15)
                                  refine lv_iinc (v := (x10_335 + 1)) (lv' := [(10, .int (x10_335 + 1)), (6, .int x5_162), (7, .int (1 : Int32)), (9, .int o268.2.1), (8, .int x8_162), (5, .int x5_162), (4, .int z33.1), (0, .ref y)]) hx hb dX9_layered_356 hl (k := 0) rfl rfl (by decide) rfl (fun ls hl => ?_)
                                  refine lv_goto (tgt := 335) hx hb dX9_layered_359 (by decide) ?_
                                  have e_y := (up_ne ef32 n_y_aRivals e_y)
                                  have e_aWorlds := (up_ne ef32 n_aWorlds_aRivals e_aWorlds)
                                  have e_aInWorld := (up_ne ef32 n_aInWorld_aRivals e_aInWorld)
                                  have e_aKind := (up_ne ef32 n_aKind_aRivals e_aKind)
                                  have e_aSize := (up_ne ef32 n_aSize_aRivals e_aSize)
                                  have e_aMarks := (up_ne ef32 n_aMarks_aRivals e_aMarks)
                                  have e_aSeed := (up_ne ef32 n_aSeed_aRivals e_aSeed)
                                  have e_aContents := (up_ne ef32 n_aContents_aRivals e_aContents)
                                  have e_aContentMany := (up_ne ef32 n_aContentMany_aRivals e_aContentMany)
                                  have e_aRow := (up_ne ef32 n_aRow_aRivals e_aRow)
                                  have e_aBits := (up_ne ef32 n_aBits_aRivals e_aBits)
                                  have e_aLayerSize := (up_ne ef32 n_aLayerSize_aRivals e_aLayerSize)
                                  have e_aLayerCame := (up_ne ef32 n_aLayerCame_aRivals e_aLayerCame)
                                  have e_aRest := (up_ne ef32 n_aRest_aRivals e_aRest)
                                  have e_aRestMany := (up_ne ef32 n_aRestMany_aRivals e_aRestMany)
                                  have e_aCome := (up_ne ef32 n_aCome_aRivals e_aCome)
                                  have e_aGone := (up_ne ef32 n_aGone_aRivals e_aGone)
                                  have e_aOrder := (up_ne ef32 n_aOrder_aRivals e_aOrder)
                                  have e_aOffAt := (up_ne ef32 n_aOffAt_aRivals e_aOffAt)
                                  have e_aIsOff := (up_ne ef32 n_aIsOff_aRivals e_aIsOff)
                                  have e_aAlone := (up_ne ef32 n_aAlone_aRivals e_aAlone)
                                  have e_aKept := (up_ne ef32 n_aKept_aRivals e_aKept)
                                  exact ih335 (x10_335 + 1) (vp_updL caRivals_335 (Int32.toNatClampNeg x10_335) (caCome_162 (Int32.toNatClampNeg x10_335))) f32 _ _ _ ho335 S e_y e_aWorlds e_aInWorld e_aKind e_aSize e_aMarks e_aSeed e_aContents e_aContentMany e_aRow e_aBits e_aLayerSize e_aLayerCame e_aRest e_aRestMany e_aCome e_aRivals e_aGone e_aOrder e_aOffAt e_aIsOff e_aAlone e_aKept fr (lv_sub hl [0, 1, 2, 3, 4, 5, 6, 7] rfl)
                            exact LP335 FU (0 : Int32) caRivals_162 fl268 _ _ _ ho335 S e_y e_aWorlds e_aInWorld e_aKind e_aSize e_aMarks e_aSeed e_aContents e_aContentMany e_aRow e_aBits e_aLayerSize e_aLayerCame e_aRest e_aRestMany e_aCome e_aRivals e_aGone e_aOrder e_aOffAt e_aIsOff e_aAlone e_aKept fr (lv_sub hl [0, 1, 2, 3, 4, 5, 6, 7] rfl)
                        have LP268 : ∀ (fu : Nat) (x10_268 : Int32) (x9_268 : Int32) (caGone_268 : Nat → Int64) (fl268 : Nat → va_E) (H : Heap) (locs : List Loc) (ls : Array Slot), (mX9_layered_L268 z33 z259 x8_162 x6_162 caRivals_162) fu x10_268 x9_268 caGone_268 = some o268 → PS D g (va_A (va_pl L f) szz) s.heap s L fl268 H locs → fl268 y = .inr (7, [.ref aWorlds, .ref aInWorld, .ref aKind, .ref aSize, .ref aMarks, .ref aSeed, .ref aContents, .ref aContentMany, .ref aRow, .ref aBits, .ref aLayerSize, .ref aLayerCame, .ref aRest, .ref aRestMany, .int z33.2.1, .ref aCome, .ref aRivals, .ref aGone, .ref aOrder, .ref aOffAt, .ref aIsOff, .ref aAlone, .ref aKept]) → fl268 aWorlds = .inl (g 1, 8000, .inr (.inl vWorlds)) → fl268 aInWorld = .inl (g 0, 8, .inl vInWorld) → fl268 aKind = .inl (g 0, 30, .inl z33.2.2.1) → fl268 aSize = .inl (g 0, 30, .inl z259.1) → fl268 aMarks = .inl (g 0, 30, .inl z33.2.2.2.2.1) → fl268 aSeed = .inl (g 0, 30, .inl z33.2.2.2.2.2.1) → fl268 aContents = .inl (g 1, 30000, .inr (.inl z42.1)) → fl268 aContentMany = .inl (g 0, 30, .inl z42.2) → fl268 aRow = .inl (g 0, 122880, .inl z33.2.2.2.2.2.2.2.1) → fl268 aBits = .inl (g 0, 76800, .inl z259.2.1) → fl268 aLayerSize = .inl (g 0, 600, .inl z259.2.2.1) → fl268 aLayerCame = .inl (g 0, 600, .inl z259.2.2.2) → fl268 aRest = .inl (g 1, 30000, .inr (.inl caRest_162)) → fl268 aRestMany = .inl (g 0, 30, .inl caRestMany_162) → fl268 aCome = .inl (g 1, 1000, .inr (.inl caCome_162)) → fl268 aRivals = .inl (g 1, 1000, .inr (.inl caRivals_162)) → fl268 aGone = .inl (g 1, 1000, .inr (.inl caGone_268)) → fl268 aOrder = .inl (g 0, 1000, .inl vOrder) → fl268 aOffAt = .inl (g 0, 1000, .inl vOffAt) → fl268 aIsOff = .inl (g 2, 1000, .inl vIsOff) → fl268 aAlone = .inl (g 0, 4096, .inl vAlone) → fl268 aKept = .inl (g 0, 4096, .inl vKept) → (∀ b, b ∈ L → b ≠ y → b ≠ aKind → b ≠ aSize → b ≠ aMarks → b ≠ aSeed → b ≠ aContents → b ≠ aContentMany → b ≠ aRow → b ≠ aBits → b ≠ aLayerSize → b ≠ aLayerCame → b ≠ aRest → b ≠ aRestMany → b ≠ aCome → b ≠ aRivals → b ≠ aGone → fl268 b = f b) → lv_has ls 11 [(10, .int x10_268), (9, .int x9_268), (8, .int x8_162), (6, .int x6_162), (5, .int x5_162), (4, .int z33.1), (0, .ref y)] → W p l e { frames := 2, cells := 0, slots := 0, locals := 57 } s m [.ref y, .int wi, .int wa, .int by_].toArray below meth c H locs 0 0 QQ (F0 m 268 ls []) := by
                          intro fu
                          induction fu with
                          | zero => intro x10_268 x9_268 caGone_268 fl268 H locs ls ho268 S e_y e_aWorlds e_aInWorld e_aKind e_aSize e_aMarks e_aSeed e_aContents e_aContentMany e_aRow e_aBits e_aLayerSize e_aLayerCame e_aRest e_aRestMany e_aCome e_aRivals e_aGone e_aOrder e_aOffAt e_aIsOff e_aAlone e_aKept fr hl; exact no_some ho268
                          | succ fu ih268 =>
                            intro x10_268 x9_268 caGone_268 fl268 H locs ls ho268 S e_y e_aWorlds e_aInWorld e_aKind e_aSize e_aMarks e_aSeed e_aContents e_aContentMany e_aRow e_aBits e_aLayerSize e_aLayerCame e_aRest e_aRestMany e_aCome e_aRivals e_aGone e_aOrder e_aOffAt e_aIsOff e_aAlone e_aKept fr hl
                            rw [mX9_layered_L268] at ho268
                            refine lv_iload hx hb dX9_layered_268 (lv_at hl 0 rfl) ?_
                            refine lv_iload hx hb dX9_layered_270 (lv_at hl 3 rfl) ?_
                            refine lv_icmp_ge (tgt := 316) hx hb dX9_layered_272 (by decide) (fun b272 => ?_) (fun b272 => ?_)
                            · have ho268 := itT b272 ho268
                              obtain rfl := Option.some.inj ho268
                              exact EX268 fl268 _ _ _ S e_y e_aWorlds e_aInWorld e_aKind e_aSize e_aMarks e_aSeed e_aContents e_aContentMany e_aRow e_aBits e_aLayerSize e_aLayerCame e_aRest e_aRestMany e_aCome e_aRivals e_aGone e_aOrder e_aOffAt e_aIsOff e_aAlone e_aKept fr (lv_sub hl [1, 2, 4, 5, 6] rfl)
                            · have ho268 := itF b272 ho268
                              refine lv_aload_n hx hb dX9_layered_275 rfl (lv_at hl 6 rfl) ?_
                              refine lv_iload hx hb dX9_layered_276 (lv_at hl 5 rfl) ?_
                              refine lv_iload hx hb dX9_layered_278 (lv_at hl 2 rfl) ?_
                              refine lv_aload_n hx hb dX9_layered_280 rfl (lv_at hl 6 rfl) ?_
                              refine q_get hx hb hts in_X9 hown S m_y e_y (C := RX9) (T := TX9) (N := 23) rfl 16 (by decide) rfl (hts (.fieldLink RX9 58 "SieveCabinetModel" "rivals" "[J") (by decide +kernel)) dX9_layered_281 ?_
                              refine lv_iload hx hb dX9_layered_284 (lv_at hl 0 rfl) ?_
                              obtain ⟨hi286, ho268⟩ := ckx ho268
                              refine q_lald hx hb S m_aRivals e_aRivals hi286 dX9_layered_286 ?_
                              obtain ⟨z287, hz287, ho268⟩ := bind_some ho268
                              refine q_vi (As := [.int z33.1, .int x8_162, .long (caRivals_162 (Int32.toNatClampNeg x10_268))]) (rest := []) ⟨hx, hb, hml, hown, hts⟩ (k_X9_layerLets l D g m_y e_y m_aSeed e_aSeed m_aBits e_aBits m_aLayerSize e_aLayerSize hz287) (cwV 3 hts gX9_layered_X9_layerLets rfl rfl rfl (by decide +kernel) ⟨Nat.le_of_ble_eq_true rfl, Nat.le_of_ble_eq_true rfl⟩) S m_y e_y (T := TX9) (N := 23) rfl rfl hl.1 rfl (Nat.le_of_ble_eq_true rfl) dX9_layered_287 ⟨Nat.le_of_ble_eq_true rfl, Nat.le_of_ble_eq_true rfl⟩ (fun r35 L33 f34 H locs S w287 => ?_)
                              obtain ⟨ex287, eL, ef⟩ := w287
                              rw [eL, ef] at S
                              replace ex287 := ex287.symm
                              subst ex287
                              refine lv_if_eq (tgt := 310) hx hb dX9_layered_290 (by decide) (fun b290 => ?_) (fun b290 => ?_)
                              · have ho268 := itT b290 ho268
                                refine lv_iinc (v := (x10_268 + 1)) (lv' := [(10, .int (x10_268 + 1)), (9, .int x9_268), (8, .int x8_162), (6, .int x6_162), (5, .int x5_162), (4, .int z33.1), (0, .ref y)]) hx hb dX9_layered_310 hl (k := 0) rfl rfl (by decide) rfl (fun ls hl => ?_)
                                refine lv_goto (tgt := 268) hx hb dX9_layered_313 (by decide) ?_
                                exact ih268 (x10_268 + 1) x9_268 caGone_268 fl268 _ _ _ ho268 S e_y e_aWorlds e_aInWorld e_aKind e_aSize e_aMarks e_aSeed e_aContents e_aContentMany e_aRow e_aBits e_aLayerSize e_aLayerCame e_aRest e_aRestMany e_aCome e_aRivals e_aGone e_aOrder e_aOffAt e_aIsOff e_aAlone e_aKept fr (lv_sub hl [0, 1, 2, 3, 4, 5, 6] rfl)
                              · have ho268 := itF b290 ho268
                                refine lv_aload_n hx hb dX9_layered_293 rfl (lv_at hl 6 rfl) ?_
                                refine q_get hx hb hts in_X9 hown S m_y e_y (C := RX9) (T := TX9) (N := 23) rfl 17 (by decide) rfl (hts (.fieldLink RX9 61 "SieveCabinetModel" "gone" "[J") (by decide +kernel)) dX9_layered_294 ?_
                                refine lv_iload hx hb dX9_layered_297 (lv_at hl 1 rfl) ?_
                                refine lv_aload_n hx hb dX9_layered_299 rfl (lv_at hl 6 rfl) ?_
                                refine q_get hx hb hts in_X9 hown S m_y e_y (C := RX9) (T := TX9) (N := 23) rfl 16 (by decide) rfl (hts (.fieldLink RX9 58 "SieveCabinetModel" "rivals" "[J") (by decide +kernel)) dX9_layered_300 ?_
                                refine lv_iload hx hb dX9_layered_303 (lv_at hl 0 rfl) ?_
                                obtain ⟨hi305, ho268⟩ := ckx ho268
                                refine q_lald hx hb S m_aRivals e_aRivals hi305 dX9_layered_305 ?_
                                obtain ⟨hi306, ho268⟩ := ckx ho268
                                refine k_last hx hb S m_aGone e_aGone hi306 dX9_layered_306 (fun f36 ef36 H locs S => ?_)
                                have e_aGone := up_self ef36
                                have fr : ∀ b, b ∈ L → b ≠ y → b ≠ aKind → b ≠ aSize → b ≠ aMarks → b ≠ aSeed → b ≠ aContents → b ≠ aContentMany → b ≠ aRow → b ≠ aBits → b ≠ aLayerSize → b ≠ aLayerCame → b ≠ aRest → b ≠ aRestMany → b ≠ aCome → b ≠ aRivals → b ≠ aGone → f36 b = f b := fun b mb nb0 nb1 nb2 nb3 nb4 nb5 nb6 nb7 nb8 nb9 nb10 nb11 nb12 nb13 nb14 nb15 => (up_ne ef36 nb15 rfl).trans (fr b mb nb0 nb1 nb2 nb3 nb4 nb5 nb6 nb7 nb8 nb9 nb10 nb11 nb12 nb13 nb14 nb15)
                                refine lv_iinc (v := (x9_268 + 1)) (lv' := [(9, .int (x9_268 + 1)), (10, .int x10_268), (8, .int x8_162), (6, .int x6_162), (5, .int x5_162), (4, .int z33.1), (0, .ref y)]) hx hb dX9_layered_307 hl (k := 1) rfl rfl (by decide) rfl (fun ls hl => ?_)
                                refine lv_iinc (v := (x10_268 + 1)) (lv' := [(10, .int (x10_268 + 1)), (9, .int (x9_268 + 1)), (8, .int x8_162), (6, .int x6_162), (5, .int x5_162), (4, .int z33.1), (0, .ref y)]) hx hb dX9_layered_310 hl (k := 1) rfl rfl (by decide) rfl (fun ls hl => ?_)
                                refine lv_goto (tgt := 268) hx hb dX9_layered_313 (by decide) ?_
                                have e_y := (up_ne ef36 n_y_aGone e_y)
                                have e_aWorlds := (up_ne ef36 n_aWorlds_aGone e_aWorlds)
                                have e_aInWorld := (up_ne ef36 n_aInWorld_aGone e_aInWorld)
                                have e_aKind := (up_ne ef36 n_aKind_aGone e_aKind)
                                have e_aSize := (up_ne ef36 n_aSize_aGone e_aSize)
                                have e_aMarks := (up_ne ef36 n_aMarks_aGone e_aMarks)
                                have e_aSeed := (up_ne ef36 n_aSeed_aGone e_aSeed)
                                have e_aContents := (up_ne ef36 n_aContents_aGone e_aContents)
                                have e_aContentMany := (up_ne ef36 n_aContentMany_aGone e_aContentMany)
                                have e_aRow := (up_ne ef36 n_aRow_aGone e_aRow)
                                have e_aBits := (up_ne ef36 n_aBits_aGone e_aBits)
                                have e_aLayerSize := (up_ne ef36 n_aLayerSize_aGone e_aLayerSize)
                                have e_aLayerCame := (up_ne ef36 n_aLayerCame_aGone e_aLayerCame)
                                have e_aRest := (up_ne ef36 n_aRest_aGone e_aRest)
                                have e_aRestMany := (up_ne ef36 n_aRestMany_aGone e_aRestMany)
                                have e_aCome := (up_ne ef36 n_aCome_aGone e_aCome)
                                have e_aRivals := (up_ne ef36 n_aRivals_aGone e_aRivals)
                                have e_aOrder := (up_ne ef36 n_aOrder_aGone e_aOrder)
                                have e_aOffAt := (up_ne ef36 n_aOffAt_aGone e_aOffAt)
                                have e_aIsOff := (up_ne ef36 n_aIsOff_aGone e_aIsOff)
                                have e_aAlone := (up_ne ef36 n_aAlone_aGone e_aAlone)
                                have e_aKept := (up_ne ef36 n_aKept_aGone e_aKept)
                                exact ih268 (x10_268 + 1) (x9_268 + 1) (vp_updL caGone_268 (Int32.toNatClampNeg x9_268) (caRivals_162 (Int32.toNatClampNeg x10_268))) f36 _ _ _ ho268 S e_y e_aWorlds e_aInWorld e_aKind e_aSize e_aMarks e_aSeed e_aContents e_aContentMany e_aRow e_aBits e_aLayerSize e_aLayerCame e_aRest e_aRestMany e_aCome e_aRivals e_aGone e_aOrder e_aOffAt e_aIsOff e_aAlone e_aKept fr (lv_sub hl [0, 1, 2, 3, 4, 5, 6] rfl)
                        exact LP268 FU (0 : Int32) (0 : Int32) caGone_162 f27 _ _ _ ho268 S e_y e_aWorlds e_aInWorld e_aKind e_aSize e_aMarks e_aSeed e_aContents e_aContentMany e_aRow e_aBits e_aLayerSize e_aLayerCame e_aRest e_aRestMany e_aCome e_aRivals e_aGone e_aOrder e_aOffAt e_aIsOff e_aAlone e_aKept fr (lv_sub hl [0, 1, 2, 4, 5, 6, 7] rfl)
                      · have ho162 := itT b197 ho162
                        refine lv_iconst (v := (0 : Int32)) hx hb dX9_layered_200 (by decide) ?_
                        refine lv_istore (lv' := [(9, .int (0 : Int32)), (8, .int x8_162), (7, .int x7_162), (6, .int x6_162), (5, .int x5_162), (4, .int z33.1), (0, .ref y)]) hx hb dX9_layered_201 hl (by decide) rfl (fun ls hl => ?_)
                        obtain ⟨o203, ho203, ho162⟩ := bind_some ho162
                        have EX203 : ∀ (fl203 : Nat → va_E) (H : Heap) (locs : List Loc) (ls : Array Slot), PS D g (va_A (va_pl L f) szz) s.heap s L fl203 H locs → fl203 y = .inr (7, [.ref aWorlds, .ref aInWorld, .ref aKind, .ref aSize, .ref aMarks, .ref aSeed, .ref aContents, .ref aContentMany, .ref aRow, .ref aBits, .ref aLayerSize, .ref aLayerCame, .ref aRest, .ref aRestMany, .int z33.2.1, .ref aCome, .ref aRivals, .ref aGone, .ref aOrder, .ref aOffAt, .ref aIsOff, .ref aAlone, .ref aKept]) → fl203 aWorlds = .inl (g 1, 8000, .inr (.inl vWorlds)) → fl203 aInWorld = .inl (g 0, 8, .inl vInWorld) → fl203 aKind = .inl (g 0, 30, .inl z33.2.2.1) → fl203 aSize = .inl (g 0, 30, .inl caSize_162) → fl203 aMarks = .inl (g 0, 30, .inl z33.2.2.2.2.1) → fl203 aSeed = .inl (g 0, 30, .inl z33.2.2.2.2.2.1) → fl203 aContents = .inl (g 1, 30000, .inr (.inl z42.1)) → fl203 aContentMany = .inl (g 0, 30, .inl z42.2) → fl203 aRow = .inl (g 0, 122880, .inl z33.2.2.2.2.2.2.2.1) → fl203 aBits = .inl (g 0, 76800, .inl caBits_162) → fl203 aLayerSize = .inl (g 0, 600, .inl caLayerSize_162) → fl203 aLayerCame = .inl (g 0, 600, .inl caLayerCame_162) → fl203 aRest = .inl (g 1, 30000, .inr (.inl o203.2)) → fl203 aRestMany = .inl (g 0, 30, .inl caRestMany_162) → fl203 aCome = .inl (g 1, 1000, .inr (.inl caCome_162)) → fl203 aRivals = .inl (g 1, 1000, .inr (.inl caRivals_162)) → fl203 aGone = .inl (g 1, 1000, .inr (.inl caGone_162)) → fl203 aOrder = .inl (g 0, 1000, .inl vOrder) → fl203 aOffAt = .inl (g 0, 1000, .inl vOffAt) → fl203 aIsOff = .inl (g 2, 1000, .inl vIsOff) → fl203 aAlone = .inl (g 0, 4096, .inl vAlone) → fl203 aKept = .inl (g 0, 4096, .inl vKept) → (∀ b, b ∈ L → b ≠ y → b ≠ aKind → b ≠ aSize → b ≠ aMarks → b ≠ aSeed → b ≠ aContents → b ≠ aContentMany → b ≠ aRow → b ≠ aBits → b ≠ aLayerSize → b ≠ aLayerCame → b ≠ aRest → b ≠ aRestMany → b ≠ aCome → b ≠ aRivals → b ≠ aGone → fl203 b = f b) → lv_has ls 11 [(8, .int x8_162), (6, .int x6_162), (5, .int x5_162), (4, .int z33.1), (0, .ref y)] → W p l e { frames := 2, cells := 0, slots := 0, locals := 57 } s m [.ref y, .int wi, .int wa, .int by_].toArray below meth c H locs 0 0 QQ (F0 m 237 ls []) := by
                          intro fl203 H locs ls S e_y e_aWorlds e_aInWorld e_aKind e_aSize e_aMarks e_aSeed e_aContents e_aContentMany e_aRow e_aBits e_aLayerSize e_aLayerCame e_aRest e_aRestMany e_aCome e_aRivals e_aGone e_aOrder e_aOffAt e_aIsOff e_aAlone e_aKept fr hl
                          refine lv_aload_n hx hb dX9_layered_237 rfl (lv_at hl 4 rfl) ?_
                          refine q_get hx hb hts in_X9 hown S m_y e_y (C := RX9) (T := TX9) (N := 23) rfl 13 (by decide) rfl (hts (.fieldLink RX9 52 "SieveCabinetModel" "restMany" "[I") (by decide +kernel)) dX9_layered_238 ?_
                          refine lv_iload hx hb dX9_layered_241 (lv_at hl 3 rfl) ?_
                          refine lv_iload hx hb dX9_layered_243 (lv_at hl 2 rfl) ?_
                          obtain ⟨hi245, ho162⟩ := ckx ho162
                          refine k_iast hx hb S m_aRestMany e_aRestMany hi245 dX9_layered_245 (fun f37 ef37 H locs S => ?_)
                          have e_aRestMany := up_self ef37
                          have fr : ∀ b, b ∈ L → b ≠ y → b ≠ aKind → b ≠ aSize → b ≠ aMarks → b ≠ aSeed → b ≠ aContents → b ≠ aContentMany → b ≠ aRow → b ≠ aBits → b ≠ aLayerSize → b ≠ aLayerCame → b ≠ aRest → b ≠ aRestMany → b ≠ aCome → b ≠ aRivals → b ≠ aGone → f37 b = f b := fun b mb nb0 nb1 nb2 nb3 nb4 nb5 nb6 nb7 nb8 nb9 nb10 nb11 nb12 nb13 nb14 nb15 => (up_ne ef37 nb12 rfl).trans (fr b mb nb0 nb1 nb2 nb3 nb4 nb5 nb6 nb7 nb8 nb9 nb10 nb11 nb12 nb13 nb14 nb15)
                          refine lv_iconst (v := (0 : Int32)) hx hb dX9_layered_246 (by decide) ?_
                          refine lv_istore (lv' := [(7, .int (0 : Int32)), (8, .int x8_162), (6, .int x6_162), (5, .int x5_162), (4, .int z33.1), (0, .ref y)]) hx hb dX9_layered_247 hl (by decide) rfl (fun ls hl => ?_)
                          refine lv_goto (tgt := 396) hx hb dX9_layered_249 (by decide) ?_
                          refine lv_iinc (v := (x8_162 + 1)) (lv' := [(8, .int (x8_162 + 1)), (7, .int (0 : Int32)), (6, .int x6_162), (5, .int x5_162), (4, .int z33.1), (0, .ref y)]) hx hb dX9_layered_396 hl (k := 1) rfl rfl (by decide) rfl (fun ls hl => ?_)
                          refine lv_goto (tgt := 162) hx hb dX9_layered_399 (by decide) ?_
                          have e_y := (up_ne ef37 n_y_aRestMany e_y)
                          have e_aWorlds := (up_ne ef37 n_aWorlds_aRestMany e_aWorlds)
                          have e_aInWorld := (up_ne ef37 n_aInWorld_aRestMany e_aInWorld)
                          have e_aKind := (up_ne ef37 n_aKind_aRestMany e_aKind)
                          have e_aSize := (up_ne ef37 n_aSize_aRestMany e_aSize)
                          have e_aMarks := (up_ne ef37 n_aMarks_aRestMany e_aMarks)
                          have e_aSeed := (up_ne ef37 n_aSeed_aRestMany e_aSeed)
                          have e_aContents := (up_ne ef37 n_aContents_aRestMany e_aContents)
                          have e_aContentMany := (up_ne ef37 n_aContentMany_aRestMany e_aContentMany)
                          have e_aRow := (up_ne ef37 n_aRow_aRestMany e_aRow)
                          have e_aBits := (up_ne ef37 n_aBits_aRestMany e_aBits)
                          have e_aLayerSize := (up_ne ef37 n_aLayerSize_aRestMany e_aLayerSize)
                          have e_aLayerCame := (up_ne ef37 n_aLayerCame_aRestMany e_aLayerCame)
                          have e_aRest := (up_ne ef37 n_aRest_aRestMany e_aRest)
                          have e_aCome := (up_ne ef37 n_aCome_aRestMany e_aCome)
                          have e_aRivals := (up_ne ef37 n_aRivals_aRestMany e_aRivals)
                          have e_aGone := (up_ne ef37 n_aGone_aRestMany e_aGone)
                          have e_aOrder := (up_ne ef37 n_aOrder_aRestMany e_aOrder)
                          have e_aOffAt := (up_ne ef37 n_aOffAt_aRestMany e_aOffAt)
                          have e_aIsOff := (up_ne ef37 n_aIsOff_aRestMany e_aIsOff)
                          have e_aAlone := (up_ne ef37 n_aAlone_aRestMany e_aAlone)
                          have e_aKept := (up_ne ef37 n_aKept_aRestMany e_aKept)
                          exact ih162 (x8_162 + 1) (0 : Int32) x6_162 x5_162 caSize_162 caBits_162 caLayerSize_162 caLayerCame_162 o203.2 (upd caRestMany_162 (Int32.toNatClampNeg z33.1) x5_162) caCome_162 caRivals_162 caGone_162 f37 _ _ _ ho162 S e_y e_aWorlds e_aInWorld e_aKind e_aSize e_aMarks e_aSeed e_aContents e_aContentMany e_aRow e_aBits e_aLayerSize e_aLayerCame e_aRest e_aRestMany e_aCome e_aRivals e_aGone e_aOrder e_aOffAt e_aIsOff e_aAlone e_aKept fr (lv_sub hl [0, 1, 2, 3, 4, 5] rfl)
                        have LP203 : ∀ (fu : Nat) (x9_203 : Int32) (caRest_203 : Nat → Int64) (fl203 : Nat → va_E) (H : Heap) (locs : List Loc) (ls : Array Slot), (mX9_layered_L203 z33 x5_162 caCome_162) fu x9_203 caRest_203 = some o203 → PS D g (va_A (va_pl L f) szz) s.heap s L fl203 H locs → fl203 y = .inr (7, [.ref aWorlds, .ref aInWorld, .ref aKind, .ref aSize, .ref aMarks, .ref aSeed, .ref aContents, .ref aContentMany, .ref aRow, .ref aBits, .ref aLayerSize, .ref aLayerCame, .ref aRest, .ref aRestMany, .int z33.2.1, .ref aCome, .ref aRivals, .ref aGone, .ref aOrder, .ref aOffAt, .ref aIsOff, .ref aAlone, .ref aKept]) → fl203 aWorlds = .inl (g 1, 8000, .inr (.inl vWorlds)) → fl203 aInWorld = .inl (g 0, 8, .inl vInWorld) → fl203 aKind = .inl (g 0, 30, .inl z33.2.2.1) → fl203 aSize = .inl (g 0, 30, .inl caSize_162) → fl203 aMarks = .inl (g 0, 30, .inl z33.2.2.2.2.1) → fl203 aSeed = .inl (g 0, 30, .inl z33.2.2.2.2.2.1) → fl203 aContents = .inl (g 1, 30000, .inr (.inl z42.1)) → fl203 aContentMany = .inl (g 0, 30, .inl z42.2) → fl203 aRow = .inl (g 0, 122880, .inl z33.2.2.2.2.2.2.2.1) → fl203 aBits = .inl (g 0, 76800, .inl caBits_162) → fl203 aLayerSize = .inl (g 0, 600, .inl caLayerSize_162) → fl203 aLayerCame = .inl (g 0, 600, .inl caLayerCame_162) → fl203 aRest = .inl (g 1, 30000, .inr (.inl caRest_203)) → fl203 aRestMany = .inl (g 0, 30, .inl caRestMany_162) → fl203 aCome = .inl (g 1, 1000, .inr (.inl caCome_162)) → fl203 aRivals = .inl (g 1, 1000, .inr (.inl caRivals_162)) → fl203 aGone = .inl (g 1, 1000, .inr (.inl caGone_162)) → fl203 aOrder = .inl (g 0, 1000, .inl vOrder) → fl203 aOffAt = .inl (g 0, 1000, .inl vOffAt) → fl203 aIsOff = .inl (g 2, 1000, .inl vIsOff) → fl203 aAlone = .inl (g 0, 4096, .inl vAlone) → fl203 aKept = .inl (g 0, 4096, .inl vKept) → (∀ b, b ∈ L → b ≠ y → b ≠ aKind → b ≠ aSize → b ≠ aMarks → b ≠ aSeed → b ≠ aContents → b ≠ aContentMany → b ≠ aRow → b ≠ aBits → b ≠ aLayerSize → b ≠ aLayerCame → b ≠ aRest → b ≠ aRestMany → b ≠ aCome → b ≠ aRivals → b ≠ aGone → fl203 b = f b) → lv_has ls 11 [(9, .int x9_203), (8, .int x8_162), (6, .int x6_162), (5, .int x5_162), (4, .int z33.1), (0, .ref y)] → W p l e { frames := 2, cells := 0, slots := 0, locals := 57 } s m [.ref y, .int wi, .int wa, .int by_].toArray below meth c H locs 0 0 QQ (F0 m 203 ls []) := by
                          intro fu
                          induction fu with
                          | zero => intro x9_203 caRest_203 fl203 H locs ls ho203 S e_y e_aWorlds e_aInWorld e_aKind e_aSize e_aMarks e_aSeed e_aContents e_aContentMany e_aRow e_aBits e_aLayerSize e_aLayerCame e_aRest e_aRestMany e_aCome e_aRivals e_aGone e_aOrder e_aOffAt e_aIsOff e_aAlone e_aKept fr hl; exact no_some ho203
                          | succ fu ih203 =>
                            intro x9_203 caRest_203 fl203 H locs ls ho203 S e_y e_aWorlds e_aInWorld e_aKind e_aSize e_aMarks e_aSeed e_aContents e_aContentMany e_aRow e_aBits e_aLayerSize e_aLayerCame e_aRest e_aRestMany e_aCome e_aRivals e_aGone e_aOrder e_aOffAt e_aIsOff e_aAlone e_aKept fr hl
                            rw [mX9_layered_L203] at ho203
                            refine lv_iload hx hb dX9_layered_203 (lv_at hl 0 rfl) ?_
                            refine lv_iload hx hb dX9_layered_205 (lv_at hl 3 rfl) ?_
                            refine lv_icmp_ge (tgt := 237) hx hb dX9_layered_207 (by decide) (fun b207 => ?_) (fun b207 => ?_)
                            · have ho203 := itT b207 ho203
                              obtain rfl := Option.some.inj ho203
                              exact EX203 fl203 _ _ _ S e_y e_aWorlds e_aInWorld e_aKind e_aSize e_aMarks e_aSeed e_aContents e_aContentMany e_aRow e_aBits e_aLayerSize e_aLayerCame e_aRest e_aRestMany e_aCome e_aRivals e_aGone e_aOrder e_aOffAt e_aIsOff e_aAlone e_aKept fr (lv_sub hl [1, 2, 3, 4, 5] rfl)
                            · have ho203 := itF b207 ho203
                              refine lv_aload_n hx hb dX9_layered_210 rfl (lv_at hl 5 rfl) ?_
                              refine q_get hx hb hts in_X9 hown S m_y e_y (C := RX9) (T := TX9) (N := 23) rfl 12 (by decide) rfl (hts (.fieldLink RX9 49 "SieveCabinetModel" "rest" "[J") (by decide +kernel)) dX9_layered_211 ?_
                              refine lv_iload hx hb dX9_layered_214 (lv_at hl 4 rfl) ?_
                              refine lv_sipush (v := (1000 : Int32)) hx hb dX9_layered_216 (by decide) ?_
                              refine lv_imul hx hb dX9_layered_219 ?_
                              refine lv_iload hx hb dX9_layered_220 (lv_at hl 0 rfl) ?_
                              refine lv_iadd hx hb dX9_layered_222 ?_
                              refine lv_aload_n hx hb dX9_layered_223 rfl (lv_at hl 5 rfl) ?_
                              refine q_get hx hb hts in_X9 hown S m_y e_y (C := RX9) (T := TX9) (N := 23) rfl 15 (by decide) rfl (hts (.fieldLink RX9 55 "SieveCabinetModel" "come" "[J") (by decide +kernel)) dX9_layered_224 ?_
                              refine lv_iload hx hb dX9_layered_227 (lv_at hl 0 rfl) ?_
                              obtain ⟨hi229, ho203⟩ := ckx ho203
                              refine q_lald hx hb S m_aCome e_aCome hi229 dX9_layered_229 ?_
                              obtain ⟨hi230, ho203⟩ := ckx ho203
                              refine k_last hx hb S m_aRest e_aRest hi230 dX9_layered_230 (fun f38 ef38 H locs S => ?_)
                              have e_aRest := up_self ef38
                              have fr : ∀ b, b ∈ L → b ≠ y → b ≠ aKind → b ≠ aSize → b ≠ aMarks → b ≠ aSeed → b ≠ aContents → b ≠ aContentMany → b ≠ aRow → b ≠ aBits → b ≠ aLayerSize → b ≠ aLayerCame → b ≠ aRest → b ≠ aRestMany → b ≠ aCome → b ≠ aRivals → b ≠ aGone → f38 b = f b := fun b mb nb0 nb1 nb2 nb3 nb4 nb5 nb6 nb7 nb8 nb9 nb10 nb11 nb12 nb13 nb14 nb15 => (up_ne ef38 nb11 rfl).trans (fr b mb nb0 nb1 nb2 nb3 nb4 nb5 nb6 nb7 nb8 nb9 nb10 nb11 nb12 nb13 nb14 nb15)
                              refine lv_iinc (v := (x9_203 + 1)) (lv' := [(9, .int (x9_203 + 1)), (8, .int x8_162), (6, .int x6_162), (5, .int x5_162), (4, .int z33.1), (0, .ref y)]) hx hb dX9_layered_231 hl (k := 0) rfl rfl (by decide) rfl (fun ls hl => ?_)
                              refine lv_goto (tgt := 203) hx hb dX9_layered_234 (by decide) ?_
                              have e_y := (up_ne ef38 n_y_aRest e_y)
                              have e_aWorlds := (up_ne ef38 n_aWorlds_aRest e_aWorlds)
                              have e_aInWorld := (up_ne ef38 n_aInWorld_aRest e_aInWorld)
                              have e_aKind := (up_ne ef38 n_aKind_aRest e_aKind)
                              have e_aSize := (up_ne ef38 n_aSize_aRest e_aSize)
                              have e_aMarks := (up_ne ef38 n_aMarks_aRest e_aMarks)
                              have e_aSeed := (up_ne ef38 n_aSeed_aRest e_aSeed)
                              have e_aContents := (up_ne ef38 n_aContents_aRest e_aContents)
                              have e_aContentMany := (up_ne ef38 n_aContentMany_aRest e_aContentMany)
                              have e_aRow := (up_ne ef38 n_aRow_aRest e_aRow)
                              have e_aBits := (up_ne ef38 n_aBits_aRest e_aBits)
                              have e_aLayerSize := (up_ne ef38 n_aLayerSize_aRest e_aLayerSize)
                              have e_aLayerCame := (up_ne ef38 n_aLayerCame_aRest e_aLayerCame)
                              have e_aRestMany := (up_ne ef38 n_aRestMany_aRest e_aRestMany)
                              have e_aCome := (up_ne ef38 n_aCome_aRest e_aCome)
                              have e_aRivals := (up_ne ef38 n_aRivals_aRest e_aRivals)
                              have e_aGone := (up_ne ef38 n_aGone_aRest e_aGone)
                              have e_aOrder := (up_ne ef38 n_aOrder_aRest e_aOrder)
                              have e_aOffAt := (up_ne ef38 n_aOffAt_aRest e_aOffAt)
                              have e_aIsOff := (up_ne ef38 n_aIsOff_aRest e_aIsOff)
                              have e_aAlone := (up_ne ef38 n_aAlone_aRest e_aAlone)
                              have e_aKept := (up_ne ef38 n_aKept_aRest e_aKept)
                              exact ih203 (x9_203 + 1) (vp_updL caRest_203 (Int32.toNatClampNeg ((z33.1 * (1000 : Int32)) + x9_203)) (caCome_162 (Int32.toNatClampNeg x9_203))) f38 _ _ _ ho203 S e_y e_aWorlds e_aInWorld e_aKind e_aSize e_aMarks e_aSeed e_aContents e_aContentMany e_aRow e_aBits e_aLayerSize e_aLayerCame e_aRest e_aRestMany e_aCome e_aRivals e_aGone e_aOrder e_aOffAt e_aIsOff e_aAlone e_aKept fr (lv_sub hl [0, 1, 2, 3, 4, 5] rfl)
                        exact LP203 FU (0 : Int32) caRest_162 fl162 _ _ _ ho203 S e_y e_aWorlds e_aInWorld e_aKind e_aSize e_aMarks e_aSeed e_aContents e_aContentMany e_aRow e_aBits e_aLayerSize e_aLayerCame e_aRest e_aRestMany e_aCome e_aRivals e_aGone e_aOrder e_aOffAt e_aIsOff e_aAlone e_aKept fr (lv_sub hl [0, 1, 3, 4, 5, 6] rfl)
            exact LP162 FU (0 : Int32) (1 : Int32) o95.2.1 (vInWorld (Int32.toNatClampNeg wi)) z33.2.2.2.1 vBits vLayerSize vLayerCame vRest z33.2.2.2.2.2.2.2.2 o59.2 o95.2.2 vGone fl95 _ _ _ ho162 S e_y e_aWorlds e_aInWorld e_aKind e_aSize e_aMarks e_aSeed e_aContents e_aContentMany e_aRow e_aBits e_aLayerSize e_aLayerCame e_aRest e_aRestMany e_aCome e_aRivals e_aGone e_aOrder e_aOffAt e_aIsOff e_aAlone e_aKept fr (lv_sub hl [0, 1, 2, 3, 4, 5] rfl)
          have LP95 : ∀ (fu : Nat) (x7_95 : Int32) (x6_95 : Int32) (caRivals_95 : Nat → Int64) (fl95 : Nat → va_E) (H : Heap) (locs : List Loc) (ls : Array Slot), (mX9_layered_L95 vWorlds vInWorld wi wa) fu x7_95 x6_95 caRivals_95 = some o95 → PS D g (va_A (va_pl L f) szz) s.heap s L fl95 H locs → fl95 y = .inr (7, [.ref aWorlds, .ref aInWorld, .ref aKind, .ref aSize, .ref aMarks, .ref aSeed, .ref aContents, .ref aContentMany, .ref aRow, .ref aBits, .ref aLayerSize, .ref aLayerCame, .ref aRest, .ref aRestMany, .int z33.2.1, .ref aCome, .ref aRivals, .ref aGone, .ref aOrder, .ref aOffAt, .ref aIsOff, .ref aAlone, .ref aKept]) → fl95 aWorlds = .inl (g 1, 8000, .inr (.inl vWorlds)) → fl95 aInWorld = .inl (g 0, 8, .inl vInWorld) → fl95 aKind = .inl (g 0, 30, .inl z33.2.2.1) → fl95 aSize = .inl (g 0, 30, .inl z33.2.2.2.1) → fl95 aMarks = .inl (g 0, 30, .inl z33.2.2.2.2.1) → fl95 aSeed = .inl (g 0, 30, .inl z33.2.2.2.2.2.1) → fl95 aContents = .inl (g 1, 30000, .inr (.inl z42.1)) → fl95 aContentMany = .inl (g 0, 30, .inl z42.2) → fl95 aRow = .inl (g 0, 122880, .inl z33.2.2.2.2.2.2.2.1) → fl95 aBits = .inl (g 0, 76800, .inl vBits) → fl95 aLayerSize = .inl (g 0, 600, .inl vLayerSize) → fl95 aLayerCame = .inl (g 0, 600, .inl vLayerCame) → fl95 aRest = .inl (g 1, 30000, .inr (.inl vRest)) → fl95 aRestMany = .inl (g 0, 30, .inl z33.2.2.2.2.2.2.2.2) → fl95 aCome = .inl (g 1, 1000, .inr (.inl o59.2)) → fl95 aRivals = .inl (g 1, 1000, .inr (.inl caRivals_95)) → fl95 aGone = .inl (g 1, 1000, .inr (.inl vGone)) → fl95 aOrder = .inl (g 0, 1000, .inl vOrder) → fl95 aOffAt = .inl (g 0, 1000, .inl vOffAt) → fl95 aIsOff = .inl (g 2, 1000, .inl vIsOff) → fl95 aAlone = .inl (g 0, 4096, .inl vAlone) → fl95 aKept = .inl (g 0, 4096, .inl vKept) → (∀ b, b ∈ L → b ≠ y → b ≠ aKind → b ≠ aSize → b ≠ aMarks → b ≠ aSeed → b ≠ aContents → b ≠ aContentMany → b ≠ aRow → b ≠ aBits → b ≠ aLayerSize → b ≠ aLayerCame → b ≠ aRest → b ≠ aRestMany → b ≠ aCome → b ≠ aRivals → b ≠ aGone → fl95 b = f b) → lv_has ls 11 [(7, .int x7_95), (6, .int x6_95), (5, .int (vInWorld (Int32.toNatClampNeg wi))), (4, .int z33.1), (0, .ref y), (1, .int wi), (2, .int wa)] → W p l e { frames := 2, cells := 0, slots := 0, locals := 57 } s m [.ref y, .int wi, .int wa, .int by_].toArray below meth c H locs 0 0 QQ (F0 m 95 ls []) := by
            intro fu
            induction fu with
            | zero => intro x7_95 x6_95 caRivals_95 fl95 H locs ls ho95 S e_y e_aWorlds e_aInWorld e_aKind e_aSize e_aMarks e_aSeed e_aContents e_aContentMany e_aRow e_aBits e_aLayerSize e_aLayerCame e_aRest e_aRestMany e_aCome e_aRivals e_aGone e_aOrder e_aOffAt e_aIsOff e_aAlone e_aKept fr hl; exact no_some ho95
            | succ fu ih95 =>
              intro x7_95 x6_95 caRivals_95 fl95 H locs ls ho95 S e_y e_aWorlds e_aInWorld e_aKind e_aSize e_aMarks e_aSeed e_aContents e_aContentMany e_aRow e_aBits e_aLayerSize e_aLayerCame e_aRest e_aRestMany e_aCome e_aRivals e_aGone e_aOrder e_aOffAt e_aIsOff e_aAlone e_aKept fr hl
              rw [mX9_layered_L95] at ho95
              refine lv_iload hx hb dX9_layered_95 (lv_at hl 0 rfl) ?_
              refine lv_aload_n hx hb dX9_layered_97 rfl (lv_at hl 4 rfl) ?_
              refine q_get hx hb hts in_X9 hown S m_y e_y (C := RX9) (T := TX9) (N := 23) rfl 1 (by decide) rfl (hts (.fieldLink RX9 13 "SieveCabinetModel" "inWorld" "[I") (by decide +kernel)) dX9_layered_98 ?_
              refine lv_iload_n hx hb dX9_layered_101 rfl (lv_at hl 6 rfl) ?_
              obtain ⟨hi102, ho95⟩ := ckx ho95
              refine q_iald hx hb S m_aInWorld e_aInWorld hi102 dX9_layered_102 ?_
              refine lv_icmp_ge (tgt := 156) hx hb dX9_layered_103 (by decide) (fun b103 => ?_) (fun b103 => ?_)
              · have ho95 := itT b103 ho95
                obtain rfl := Option.some.inj ho95
                exact EX95 fl95 _ _ _ S e_y e_aWorlds e_aInWorld e_aKind e_aSize e_aMarks e_aSeed e_aContents e_aContentMany e_aRow e_aBits e_aLayerSize e_aLayerCame e_aRest e_aRestMany e_aCome e_aRivals e_aGone e_aOrder e_aOffAt e_aIsOff e_aAlone e_aKept fr (lv_sub hl [1, 2, 3, 4] rfl)
              · have ho95 := itF b103 ho95
                refine lv_aload_n hx hb dX9_layered_106 rfl (lv_at hl 4 rfl) ?_
                refine lv_iload_n hx hb dX9_layered_107 rfl (lv_at hl 5 rfl) ?_
                refine lv_aload_n hx hb dX9_layered_108 rfl (lv_at hl 4 rfl) ?_
                refine q_get hx hb hts in_X9 hown S m_y e_y (C := RX9) (T := TX9) (N := 23) rfl 0 (by decide) rfl (hts (.fieldLink RX9 9 "SieveCabinetModel" "worlds" "[J") (by decide +kernel)) dX9_layered_109 ?_
                refine lv_iload_n hx hb dX9_layered_112 rfl (lv_at hl 6 rfl) ?_
                refine lv_sipush (v := (1000 : Int32)) hx hb dX9_layered_113 (by decide) ?_
                refine lv_imul hx hb dX9_layered_116 ?_
                refine lv_iload hx hb dX9_layered_117 (lv_at hl 0 rfl) ?_
                refine lv_iadd hx hb dX9_layered_119 ?_
                obtain ⟨hi120, ho95⟩ := ckx ho95
                refine q_lald hx hb S m_aWorlds e_aWorlds hi120 dX9_layered_120 ?_
                obtain ⟨z121, hz121, ho95⟩ := bind_some ho95
                refine q_vi (As := [.int wi, .long (vWorlds (Int32.toNatClampNeg ((wa * (1000 : Int32)) + x7_95)))]) (rest := []) ⟨hx, hb, hml, hown, hts⟩ (k_X9_placeOf l D g m_y e_y m_aWorlds e_aWorlds m_aInWorld e_aInWorld hz121) (cwV 2 hts gX9_layered_X9_placeOf rfl rfl rfl (by decide +kernel) ⟨Nat.le_of_ble_eq_true rfl, Nat.le_of_ble_eq_true rfl⟩) S m_y e_y (T := TX9) (N := 23) rfl rfl hl.1 rfl (Nat.le_of_ble_eq_true rfl) dX9_layered_121 ⟨Nat.le_of_ble_eq_true rfl, Nat.le_of_ble_eq_true rfl⟩ (fun r41 L39 f40 H locs S w121 => ?_)
                obtain ⟨ex121, eL, ef⟩ := w121
                rw [eL, ef] at S
                replace ex121 := ex121.symm
                subst ex121
                refine lv_if_ge (tgt := 150) hx hb dX9_layered_124 (by decide) (fun b124 => ?_) (fun b124 => ?_)
                · have ho95 := itT b124 ho95
                  refine lv_iinc (v := (x7_95 + 1)) (lv' := [(7, .int (x7_95 + 1)), (6, .int x6_95), (5, .int (vInWorld (Int32.toNatClampNeg wi))), (4, .int z33.1), (0, .ref y), (1, .int wi), (2, .int wa)]) hx hb dX9_layered_150 hl (k := 0) rfl rfl (by decide) rfl (fun ls hl => ?_)
                  refine lv_goto (tgt := 95) hx hb dX9_layered_153 (by decide) ?_
                  exact ih95 (x7_95 + 1) x6_95 caRivals_95 fl95 _ _ _ ho95 S e_y e_aWorlds e_aInWorld e_aKind e_aSize e_aMarks e_aSeed e_aContents e_aContentMany e_aRow e_aBits e_aLayerSize e_aLayerCame e_aRest e_aRestMany e_aCome e_aRivals e_aGone e_aOrder e_aOffAt e_aIsOff e_aAlone e_aKept fr (lv_sub hl [0, 1, 2, 3, 4, 5, 6] rfl)
                · have ho95 := itF b124 ho95
                  refine lv_aload_n hx hb dX9_layered_127 rfl (lv_at hl 4 rfl) ?_
                  refine q_get hx hb hts in_X9 hown S m_y e_y (C := RX9) (T := TX9) (N := 23) rfl 16 (by decide) rfl (hts (.fieldLink RX9 58 "SieveCabinetModel" "rivals" "[J") (by decide +kernel)) dX9_layered_128 ?_
                  refine lv_iload hx hb dX9_layered_131 (lv_at hl 1 rfl) ?_
                  refine lv_aload_n hx hb dX9_layered_133 rfl (lv_at hl 4 rfl) ?_
                  refine q_get hx hb hts in_X9 hown S m_y e_y (C := RX9) (T := TX9) (N := 23) rfl 0 (by decide) rfl (hts (.fieldLink RX9 9 "SieveCabinetModel" "worlds" "[J") (by decide +kernel)) dX9_layered_134 ?_
                  refine lv_iload_n hx hb dX9_layered_137 rfl (lv_at hl 6 rfl) ?_
                  refine lv_sipush (v := (1000 : Int32)) hx hb dX9_layered_138 (by decide) ?_
                  refine lv_imul hx hb dX9_layered_141 ?_
                  refine lv_iload hx hb dX9_layered_142 (lv_at hl 0 rfl) ?_
                  refine lv_iadd hx hb dX9_layered_144 ?_
                  obtain ⟨hi145, ho95⟩ := ckx ho95
                  refine q_lald hx hb S m_aWorlds e_aWorlds hi145 dX9_layered_145 ?_
                  obtain ⟨hi146, ho95⟩ := ckx ho95
                  refine k_last hx hb S m_aRivals e_aRivals hi146 dX9_layered_146 (fun f42 ef42 H locs S => ?_)
                  have e_aRivals := up_self ef42
                  have fr : ∀ b, b ∈ L → b ≠ y → b ≠ aKind → b ≠ aSize → b ≠ aMarks → b ≠ aSeed → b ≠ aContents → b ≠ aContentMany → b ≠ aRow → b ≠ aBits → b ≠ aLayerSize → b ≠ aLayerCame → b ≠ aRest → b ≠ aRestMany → b ≠ aCome → b ≠ aRivals → b ≠ aGone → f42 b = f b := fun b mb nb0 nb1 nb2 nb3 nb4 nb5 nb6 nb7 nb8 nb9 nb10 nb11 nb12 nb13 nb14 nb15 => (up_ne ef42 nb14 rfl).trans (fr b mb nb0 nb1 nb2 nb3 nb4 nb5 nb6 nb7 nb8 nb9 nb10 nb11 nb12 nb13 nb14 nb15)
                  refine lv_iinc (v := (x6_95 + 1)) (lv' := [(6, .int (x6_95 + 1)), (7, .int x7_95), (5, .int (vInWorld (Int32.toNatClampNeg wi))), (4, .int z33.1), (0, .ref y), (1, .int wi), (2, .int wa)]) hx hb dX9_layered_147 hl (k := 1) rfl rfl (by decide) rfl (fun ls hl => ?_)
                  refine lv_iinc (v := (x7_95 + 1)) (lv' := [(7, .int (x7_95 + 1)), (6, .int (x6_95 + 1)), (5, .int (vInWorld (Int32.toNatClampNeg wi))), (4, .int z33.1), (0, .ref y), (1, .int wi), (2, .int wa)]) hx hb dX9_layered_150 hl (k := 1) rfl rfl (by decide) rfl (fun ls hl => ?_)
                  refine lv_goto (tgt := 95) hx hb dX9_layered_153 (by decide) ?_
                  have e_y := (up_ne ef42 n_y_aRivals e_y)
                  have e_aWorlds := (up_ne ef42 n_aWorlds_aRivals e_aWorlds)
                  have e_aInWorld := (up_ne ef42 n_aInWorld_aRivals e_aInWorld)
                  have e_aKind := (up_ne ef42 n_aKind_aRivals e_aKind)
                  have e_aSize := (up_ne ef42 n_aSize_aRivals e_aSize)
                  have e_aMarks := (up_ne ef42 n_aMarks_aRivals e_aMarks)
                  have e_aSeed := (up_ne ef42 n_aSeed_aRivals e_aSeed)
                  have e_aContents := (up_ne ef42 n_aContents_aRivals e_aContents)
                  have e_aContentMany := (up_ne ef42 n_aContentMany_aRivals e_aContentMany)
                  have e_aRow := (up_ne ef42 n_aRow_aRivals e_aRow)
                  have e_aBits := (up_ne ef42 n_aBits_aRivals e_aBits)
                  have e_aLayerSize := (up_ne ef42 n_aLayerSize_aRivals e_aLayerSize)
                  have e_aLayerCame := (up_ne ef42 n_aLayerCame_aRivals e_aLayerCame)
                  have e_aRest := (up_ne ef42 n_aRest_aRivals e_aRest)
                  have e_aRestMany := (up_ne ef42 n_aRestMany_aRivals e_aRestMany)
                  have e_aCome := (up_ne ef42 n_aCome_aRivals e_aCome)
                  have e_aGone := (up_ne ef42 n_aGone_aRivals e_aGone)
                  have e_aOrder := (up_ne ef42 n_aOrder_aRivals e_aOrder)
                  have e_aOffAt := (up_ne ef42 n_aOffAt_aRivals e_aOffAt)
                  have e_aIsOff := (up_ne ef42 n_aIsOff_aRivals e_aIsOff)
                  have e_aAlone := (up_ne ef42 n_aAlone_aRivals e_aAlone)
                  have e_aKept := (up_ne ef42 n_aKept_aRivals e_aKept)
                  exact ih95 (x7_95 + 1) (x6_95 + 1) (vp_updL caRivals_95 (Int32.toNatClampNeg x6_95) (vWorlds (Int32.toNatClampNeg ((wa * (1000 : Int32)) + x7_95)))) f42 _ _ _ ho95 S e_y e_aWorlds e_aInWorld e_aKind e_aSize e_aMarks e_aSeed e_aContents e_aContentMany e_aRow e_aBits e_aLayerSize e_aLayerCame e_aRest e_aRestMany e_aCome e_aRivals e_aGone e_aOrder e_aOffAt e_aIsOff e_aAlone e_aKept fr (lv_sub hl [0, 1, 2, 3, 4, 5, 6] rfl)
          exact LP95 FU (0 : Int32) (0 : Int32) vRivals fl59 _ _ _ ho95 S e_y e_aWorlds e_aInWorld e_aKind e_aSize e_aMarks e_aSeed e_aContents e_aContentMany e_aRow e_aBits e_aLayerSize e_aLayerCame e_aRest e_aRestMany e_aCome e_aRivals e_aGone e_aOrder e_aOffAt e_aIsOff e_aAlone e_aKept fr (lv_sub hl [0, 1, 2, 3, 4, 5, 6] rfl)
        have LP59 : ∀ (fu : Nat) (x7_59 : Int32) (caCome_59 : Nat → Int64) (fl59 : Nat → va_E) (H : Heap) (locs : List Loc) (ls : Array Slot), (mX9_layered_L59 vWorlds vInWorld wi) fu x7_59 caCome_59 = some o59 → PS D g (va_A (va_pl L f) szz) s.heap s L fl59 H locs → fl59 y = .inr (7, [.ref aWorlds, .ref aInWorld, .ref aKind, .ref aSize, .ref aMarks, .ref aSeed, .ref aContents, .ref aContentMany, .ref aRow, .ref aBits, .ref aLayerSize, .ref aLayerCame, .ref aRest, .ref aRestMany, .int z33.2.1, .ref aCome, .ref aRivals, .ref aGone, .ref aOrder, .ref aOffAt, .ref aIsOff, .ref aAlone, .ref aKept]) → fl59 aWorlds = .inl (g 1, 8000, .inr (.inl vWorlds)) → fl59 aInWorld = .inl (g 0, 8, .inl vInWorld) → fl59 aKind = .inl (g 0, 30, .inl z33.2.2.1) → fl59 aSize = .inl (g 0, 30, .inl z33.2.2.2.1) → fl59 aMarks = .inl (g 0, 30, .inl z33.2.2.2.2.1) → fl59 aSeed = .inl (g 0, 30, .inl z33.2.2.2.2.2.1) → fl59 aContents = .inl (g 1, 30000, .inr (.inl z42.1)) → fl59 aContentMany = .inl (g 0, 30, .inl z42.2) → fl59 aRow = .inl (g 0, 122880, .inl z33.2.2.2.2.2.2.2.1) → fl59 aBits = .inl (g 0, 76800, .inl vBits) → fl59 aLayerSize = .inl (g 0, 600, .inl vLayerSize) → fl59 aLayerCame = .inl (g 0, 600, .inl vLayerCame) → fl59 aRest = .inl (g 1, 30000, .inr (.inl vRest)) → fl59 aRestMany = .inl (g 0, 30, .inl z33.2.2.2.2.2.2.2.2) → fl59 aCome = .inl (g 1, 1000, .inr (.inl caCome_59)) → fl59 aRivals = .inl (g 1, 1000, .inr (.inl vRivals)) → fl59 aGone = .inl (g 1, 1000, .inr (.inl vGone)) → fl59 aOrder = .inl (g 0, 1000, .inl vOrder) → fl59 aOffAt = .inl (g 0, 1000, .inl vOffAt) → fl59 aIsOff = .inl (g 2, 1000, .inl vIsOff) → fl59 aAlone = .inl (g 0, 4096, .inl vAlone) → fl59 aKept = .inl (g 0, 4096, .inl vKept) → (∀ b, b ∈ L → b ≠ y → b ≠ aKind → b ≠ aSize → b ≠ aMarks → b ≠ aSeed → b ≠ aContents → b ≠ aContentMany → b ≠ aRow → b ≠ aBits → b ≠ aLayerSize → b ≠ aLayerCame → b ≠ aRest → b ≠ aRestMany → b ≠ aCome → b ≠ aRivals → b ≠ aGone → fl59 b = f b) → lv_has ls 11 [(7, .int x7_59), (6, .int (0 : Int32)), (5, .int (vInWorld (Int32.toNatClampNeg wi))), (4, .int z33.1), (0, .ref y), (1, .int wi), (2, .int wa)] → W p l e { frames := 2, cells := 0, slots := 0, locals := 57 } s m [.ref y, .int wi, .int wa, .int by_].toArray below meth c H locs 0 0 QQ (F0 m 59 ls []) := by
          intro fu
          induction fu with
          | zero => intro x7_59 caCome_59 fl59 H locs ls ho59 S e_y e_aWorlds e_aInWorld e_aKind e_aSize e_aMarks e_aSeed e_aContents e_aContentMany e_aRow e_aBits e_aLayerSize e_aLayerCame e_aRest e_aRestMany e_aCome e_aRivals e_aGone e_aOrder e_aOffAt e_aIsOff e_aAlone e_aKept fr hl; exact no_some ho59
          | succ fu ih59 =>
            intro x7_59 caCome_59 fl59 H locs ls ho59 S e_y e_aWorlds e_aInWorld e_aKind e_aSize e_aMarks e_aSeed e_aContents e_aContentMany e_aRow e_aBits e_aLayerSize e_aLayerCame e_aRest e_aRestMany e_aCome e_aRivals e_aGone e_aOrder e_aOffAt e_aIsOff e_aAlone e_aKept fr hl
            rw [mX9_layered_L59] at ho59
            refine lv_iload hx hb dX9_layered_59 (lv_at hl 0 rfl) ?_
            refine lv_iload hx hb dX9_layered_61 (lv_at hl 2 rfl) ?_
            refine lv_icmp_ge (tgt := 92) hx hb dX9_layered_63 (by decide) (fun b63 => ?_) (fun b63 => ?_)
            · have ho59 := itT b63 ho59
              obtain rfl := Option.some.inj ho59
              exact EX59 fl59 _ _ _ S e_y e_aWorlds e_aInWorld e_aKind e_aSize e_aMarks e_aSeed e_aContents e_aContentMany e_aRow e_aBits e_aLayerSize e_aLayerCame e_aRest e_aRestMany e_aCome e_aRivals e_aGone e_aOrder e_aOffAt e_aIsOff e_aAlone e_aKept fr (lv_sub hl [1, 2, 3, 4, 5, 6] rfl)
            · have ho59 := itF b63 ho59
              refine lv_aload_n hx hb dX9_layered_66 rfl (lv_at hl 4 rfl) ?_
              refine q_get hx hb hts in_X9 hown S m_y e_y (C := RX9) (T := TX9) (N := 23) rfl 15 (by decide) rfl (hts (.fieldLink RX9 55 "SieveCabinetModel" "come" "[J") (by decide +kernel)) dX9_layered_67 ?_
              refine lv_iload hx hb dX9_layered_70 (lv_at hl 0 rfl) ?_
              refine lv_aload_n hx hb dX9_layered_72 rfl (lv_at hl 4 rfl) ?_
              refine q_get hx hb hts in_X9 hown S m_y e_y (C := RX9) (T := TX9) (N := 23) rfl 0 (by decide) rfl (hts (.fieldLink RX9 9 "SieveCabinetModel" "worlds" "[J") (by decide +kernel)) dX9_layered_73 ?_
              refine lv_iload_n hx hb dX9_layered_76 rfl (lv_at hl 5 rfl) ?_
              refine lv_sipush (v := (1000 : Int32)) hx hb dX9_layered_77 (by decide) ?_
              refine lv_imul hx hb dX9_layered_80 ?_
              refine lv_iload hx hb dX9_layered_81 (lv_at hl 0 rfl) ?_
              refine lv_iadd hx hb dX9_layered_83 ?_
              obtain ⟨hi84, ho59⟩ := ckx ho59
              refine q_lald hx hb S m_aWorlds e_aWorlds hi84 dX9_layered_84 ?_
              obtain ⟨hi85, ho59⟩ := ckx ho59
              refine k_last hx hb S m_aCome e_aCome hi85 dX9_layered_85 (fun f43 ef43 H locs S => ?_)
              have e_aCome := up_self ef43
              have fr : ∀ b, b ∈ L → b ≠ y → b ≠ aKind → b ≠ aSize → b ≠ aMarks → b ≠ aSeed → b ≠ aContents → b ≠ aContentMany → b ≠ aRow → b ≠ aBits → b ≠ aLayerSize → b ≠ aLayerCame → b ≠ aRest → b ≠ aRestMany → b ≠ aCome → b ≠ aRivals → b ≠ aGone → f43 b = f b := fun b mb nb0 nb1 nb2 nb3 nb4 nb5 nb6 nb7 nb8 nb9 nb10 nb11 nb12 nb13 nb14 nb15 => (up_ne ef43 nb13 rfl).trans (fr b mb nb0 nb1 nb2 nb3 nb4 nb5 nb6 nb7 nb8 nb9 nb10 nb11 nb12 nb13 nb14 nb15)
              refine lv_iinc (v := (x7_59 + 1)) (lv' := [(7, .int (x7_59 + 1)), (6, .int (0 : Int32)), (5, .int (vInWorld (Int32.toNatClampNeg wi))), (4, .int z33.1), (0, .ref y), (1, .int wi), (2, .int wa)]) hx hb dX9_layered_86 hl (k := 0) rfl rfl (by decide) rfl (fun ls hl => ?_)
              refine lv_goto (tgt := 59) hx hb dX9_layered_89 (by decide) ?_
              have e_y := (up_ne ef43 n_y_aCome e_y)
              have e_aWorlds := (up_ne ef43 n_aWorlds_aCome e_aWorlds)
              have e_aInWorld := (up_ne ef43 n_aInWorld_aCome e_aInWorld)
              have e_aKind := (up_ne ef43 n_aKind_aCome e_aKind)
              have e_aSize := (up_ne ef43 n_aSize_aCome e_aSize)
              have e_aMarks := (up_ne ef43 n_aMarks_aCome e_aMarks)
              have e_aSeed := (up_ne ef43 n_aSeed_aCome e_aSeed)
              have e_aContents := (up_ne ef43 n_aContents_aCome e_aContents)
              have e_aContentMany := (up_ne ef43 n_aContentMany_aCome e_aContentMany)
              have e_aRow := (up_ne ef43 n_aRow_aCome e_aRow)
              have e_aBits := (up_ne ef43 n_aBits_aCome e_aBits)
              have e_aLayerSize := (up_ne ef43 n_aLayerSize_aCome e_aLayerSize)
              have e_aLayerCame := (up_ne ef43 n_aLayerCame_aCome e_aLayerCame)
              have e_aRest := (up_ne ef43 n_aRest_aCome e_aRest)
              have e_aRestMany := (up_ne ef43 n_aRestMany_aCome e_aRestMany)
              have e_aRivals := (up_ne ef43 n_aRivals_aCome e_aRivals)
              have e_aGone := (up_ne ef43 n_aGone_aCome e_aGone)
              have e_aOrder := (up_ne ef43 n_aOrder_aCome e_aOrder)
              have e_aOffAt := (up_ne ef43 n_aOffAt_aCome e_aOffAt)
              have e_aIsOff := (up_ne ef43 n_aIsOff_aCome e_aIsOff)
              have e_aAlone := (up_ne ef43 n_aAlone_aCome e_aAlone)
              have e_aKept := (up_ne ef43 n_aKept_aCome e_aKept)
              exact ih59 (x7_59 + 1) (vp_updL caCome_59 (Int32.toNatClampNeg x7_59) (vWorlds (Int32.toNatClampNeg ((wi * (1000 : Int32)) + x7_59)))) f43 _ _ _ ho59 S e_y e_aWorlds e_aInWorld e_aKind e_aSize e_aMarks e_aSeed e_aContents e_aContentMany e_aRow e_aBits e_aLayerSize e_aLayerCame e_aRest e_aRestMany e_aCome e_aRivals e_aGone e_aOrder e_aOffAt e_aIsOff e_aAlone e_aKept fr (lv_sub hl [0, 1, 2, 3, 4, 5, 6] rfl)
        exact LP59 FU (0 : Int32) vCome f11 _ _ _ ho59 S e_y e_aWorlds e_aInWorld e_aKind e_aSize e_aMarks e_aSeed e_aContents e_aContentMany e_aRow e_aBits e_aLayerSize e_aLayerCame e_aRest e_aRestMany e_aCome e_aRivals e_aGone e_aOrder e_aOffAt e_aIsOff e_aAlone e_aKept fr (lv_sub hl [0, 1, 2, 3, 4, 5, 6] rfl)
      · have hM := itT b22 hM
        refine lv_bipush (v := (-4 : Int32)) hx hb dX9_layered_25 (by decide) ?_
        subst hQQ
        exact q_reti (post := fun x L1 f1 => x = z.1 ∧ L1 = L ∧ (∀ b, b ∈ L → b ≠ y → b ≠ aKind → b ≠ aSize → b ≠ aMarks → b ≠ aSeed → b ≠ aContents → b ≠ aContentMany → b ≠ aRow → b ≠ aBits → b ≠ aLayerSize → b ≠ aLayerCame → b ≠ aRest → b ≠ aRestMany → b ≠ aCome → b ≠ aRivals → b ≠ aGone → f1 b = f b) ∧ f1 y = .inr (7, [.ref aWorlds, .ref aInWorld, .ref aKind, .ref aSize, .ref aMarks, .ref aSeed, .ref aContents, .ref aContentMany, .ref aRow, .ref aBits, .ref aLayerSize, .ref aLayerCame, .ref aRest, .ref aRestMany, .int z.2.1, .ref aCome, .ref aRivals, .ref aGone, .ref aOrder, .ref aOffAt, .ref aIsOff, .ref aAlone, .ref aKept]) ∧ f1 aKind = .inl (g 0, 30, .inl z.2.2.1) ∧ f1 aSize = .inl (g 0, 30, .inl z.2.2.2.1) ∧ f1 aMarks = .inl (g 0, 30, .inl z.2.2.2.2.1) ∧ f1 aSeed = .inl (g 0, 30, .inl z.2.2.2.2.2.1) ∧ f1 aContents = .inl (g 1, 30000, .inr (.inl z.2.2.2.2.2.2.1)) ∧ f1 aContentMany = .inl (g 0, 30, .inl z.2.2.2.2.2.2.2.1) ∧ f1 aRow = .inl (g 0, 122880, .inl z.2.2.2.2.2.2.2.2.1) ∧ f1 aBits = .inl (g 0, 76800, .inl z.2.2.2.2.2.2.2.2.2.1) ∧ f1 aLayerSize = .inl (g 0, 600, .inl z.2.2.2.2.2.2.2.2.2.2.1) ∧ f1 aLayerCame = .inl (g 0, 600, .inl z.2.2.2.2.2.2.2.2.2.2.2.1) ∧ f1 aRest = .inl (g 1, 30000, .inr (.inl z.2.2.2.2.2.2.2.2.2.2.2.2.1)) ∧ f1 aRestMany = .inl (g 0, 30, .inl z.2.2.2.2.2.2.2.2.2.2.2.2.2.1) ∧ f1 aCome = .inl (g 1, 1000, .inr (.inl z.2.2.2.2.2.2.2.2.2.2.2.2.2.2.1)) ∧ f1 aRivals = .inl (g 1, 1000, .inr (.inl z.2.2.2.2.2.2.2.2.2.2.2.2.2.2.2.1)) ∧ f1 aGone = .inl (g 1, 1000, .inr (.inl z.2.2.2.2.2.2.2.2.2.2.2.2.2.2.2.2))) hx hb hr hlk S dX9_layered_27 (by decide) (by decide) (by have hz := Option.some.inj hM; subst hz; exact ⟨rfl, rfl, fr, e_y, e_aKind, e_aSize, e_aMarks, e_aSeed, e_aContents, e_aContentMany, e_aRow, e_aBits, e_aLayerSize, e_aLayerCame, e_aRest, e_aRestMany, e_aCome, e_aRivals, e_aGone⟩)
    · have hM := itT b11 hM
      refine lv_iconst (v := (-1 : Int32)) hx hb dX9_layered_14 (by decide) ?_
      subst hQQ
      exact q_reti (post := fun x L1 f1 => x = z.1 ∧ L1 = L ∧ (∀ b, b ∈ L → b ≠ y → b ≠ aKind → b ≠ aSize → b ≠ aMarks → b ≠ aSeed → b ≠ aContents → b ≠ aContentMany → b ≠ aRow → b ≠ aBits → b ≠ aLayerSize → b ≠ aLayerCame → b ≠ aRest → b ≠ aRestMany → b ≠ aCome → b ≠ aRivals → b ≠ aGone → f1 b = f b) ∧ f1 y = .inr (7, [.ref aWorlds, .ref aInWorld, .ref aKind, .ref aSize, .ref aMarks, .ref aSeed, .ref aContents, .ref aContentMany, .ref aRow, .ref aBits, .ref aLayerSize, .ref aLayerCame, .ref aRest, .ref aRestMany, .int z.2.1, .ref aCome, .ref aRivals, .ref aGone, .ref aOrder, .ref aOffAt, .ref aIsOff, .ref aAlone, .ref aKept]) ∧ f1 aKind = .inl (g 0, 30, .inl z.2.2.1) ∧ f1 aSize = .inl (g 0, 30, .inl z.2.2.2.1) ∧ f1 aMarks = .inl (g 0, 30, .inl z.2.2.2.2.1) ∧ f1 aSeed = .inl (g 0, 30, .inl z.2.2.2.2.2.1) ∧ f1 aContents = .inl (g 1, 30000, .inr (.inl z.2.2.2.2.2.2.1)) ∧ f1 aContentMany = .inl (g 0, 30, .inl z.2.2.2.2.2.2.2.1) ∧ f1 aRow = .inl (g 0, 122880, .inl z.2.2.2.2.2.2.2.2.1) ∧ f1 aBits = .inl (g 0, 76800, .inl z.2.2.2.2.2.2.2.2.2.1) ∧ f1 aLayerSize = .inl (g 0, 600, .inl z.2.2.2.2.2.2.2.2.2.2.1) ∧ f1 aLayerCame = .inl (g 0, 600, .inl z.2.2.2.2.2.2.2.2.2.2.2.1) ∧ f1 aRest = .inl (g 1, 30000, .inr (.inl z.2.2.2.2.2.2.2.2.2.2.2.2.1)) ∧ f1 aRestMany = .inl (g 0, 30, .inl z.2.2.2.2.2.2.2.2.2.2.2.2.2.1) ∧ f1 aCome = .inl (g 1, 1000, .inr (.inl z.2.2.2.2.2.2.2.2.2.2.2.2.2.2.1)) ∧ f1 aRivals = .inl (g 1, 1000, .inr (.inl z.2.2.2.2.2.2.2.2.2.2.2.2.2.2.2.1)) ∧ f1 aGone = .inl (g 1, 1000, .inr (.inl z.2.2.2.2.2.2.2.2.2.2.2.2.2.2.2.2))) hx hb hr hlk S dX9_layered_15 (by decide) (by decide) (by have hz := Option.some.inj hM; subst hz; exact ⟨rfl, rfl, fr, e_y, e_aKind, e_aSize, e_aMarks, e_aSeed, e_aContents, e_aContentMany, e_aRow, e_aBits, e_aLayerSize, e_aLayerCame, e_aRest, e_aRestMany, e_aCome, e_aRivals, e_aGone⟩)
