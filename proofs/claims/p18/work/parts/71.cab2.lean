def mX8_things (wn : Int32) : Option (Int32) := (mX0_count wn).bind fun z15 => some z15
set_option maxHeartbeats 4000000 in
set_option maxRecDepth 100000 in
theorem k_X8_things (l : Launch) (D : va_G) (g : Nat → ClassId) {L : List Nat} {f : Nat → va_E} {Sl ch dr ri so th wb wo wr xb : Nat} {md : Int32} {wf : Nat → Option Nat} {wi : Int32} {wn : Int32} {z : Int32} (m_xb : xb ∈ L) (e_xb : f xb = .inr (6, [.ref wo, .ref Sl, .ref dr, .ref ri, .ref th, .ref so, .ref ch, .int md])) (m_wo : wo ∈ L) (e_wo : f wo = .inl (g 3, 8, .inr (.inr (.inr (.inr wf))))) (m_wb : wb ∈ L) (e_wb : f wb = .inr (0, [.ref wr, .int wn]))   (hw2 : mX8_worldAt wf wi = some (some wb)) (hM : mX8_things wn = some z) : cI l yX8_things wsX8_things { frames := 1, cells := 0, slots := 0, locals := 21 } D g [.ref xb, .int wi] L f 0 0 (fun x L1 f1 => x = z ∧ L1 = L ∧ f1 = f) := by
  refine cI_of (cc := cX8_things) (maxL := 3) (ret := (some .int)) (by decide) rfl (Nat.le_of_ble_eq_true rfl) ?_
  intro szz p e s m below meth c hx hb hr hml hts hown hlk hnm S ls hl
  have hl : lv_has ls 3 [(0, .ref xb), (1, .int wi)] := hl
  unfold mX8_things at hM
  refine W_gen (fun QQ hQQ => ?_)
  refine lv_aload_n hx hb dX8_things_0 rfl (lv_at hl 0 rfl) ?_
  refine lv_iload_n hx hb dX8_things_1 rfl (lv_at hl 1 rfl) ?_
  refine q_vq (As := [.int wi]) (rest := []) ⟨hx, hb, hml, hown, hts⟩ (k_X8_worldAt l D g m_xb e_xb m_wo e_wo hw2) (cwV 1 hts gX8_things_X8_worldAt rfl rfl rfl (by decide +kernel) ⟨Nat.le_of_ble_eq_true rfl, Nat.le_of_ble_eq_true rfl⟩) S m_xb e_xb (T := TX8) (N := 8) rfl rfl hl.1 rfl (Nat.le_of_ble_eq_true rfl) dX8_things_2 ⟨Nat.le_of_ble_eq_true rfl, Nat.le_of_ble_eq_true rfl⟩ (fun r3 L1 f2 H locs S w2 => ?_)
  obtain ⟨ex, eL, ef⟩ := w2
  rw [eL, ef] at S
  replace ex := ex.symm
  subst ex
  refine W.eq (g2 := F0 m 5 ls [.ref wb]) rfl ?_
  refine lv_astore_n (lv' := [(2, .ref wb), (0, .ref xb), (1, .int wi)]) hx hb dX8_things_5 rfl hl (by decide) rfl (fun ls hl => ?_)
  refine lv_aload_n hx hb dX8_things_6 rfl (lv_at hl 0 rfl) ?_
  refine lv_ifnonnull (tgt := 14) hx hb dX8_things_7 (by decide) ?_
  refine lv_aload_n hx hb dX8_things_14 rfl (lv_at hl 0 rfl) ?_
  obtain ⟨z15, hz15, hM⟩ := bind_some hM
  refine q_vi (As := []) (rest := []) ⟨hx, hb, hml, hown, hts⟩ (k_X0_count l D g m_wb e_wb hz15) (cwV 0 hts gX8_things_X0_count rfl rfl rfl (by decide +kernel) ⟨Nat.le_of_ble_eq_true rfl, Nat.le_of_ble_eq_true rfl⟩) S m_wb e_wb (T := TX0) (N := 2) rfl rfl hl.1 rfl (Nat.le_of_ble_eq_true rfl) dX8_things_15 ⟨Nat.le_of_ble_eq_true rfl, Nat.le_of_ble_eq_true rfl⟩ (fun r6 L4 f5 H locs S w15 => ?_)
  obtain ⟨ex15, eL, ef⟩ := w15
  rw [eL, ef] at S
  replace ex15 := ex15.symm
  subst ex15
  subst hQQ
  exact q_reti (post := fun x L1 f1 => x = z ∧ L1 = L ∧ f1 = f) hx hb hr hlk S dX8_things_18 (by decide) (by decide) (by have hz := Option.some.inj hM; subst hz; exact ⟨rfl, rfl, rfl⟩)

def mX8_thingsN  : Option (Int32) := some (-1 : Int32)
set_option maxHeartbeats 4000000 in
set_option maxRecDepth 100000 in
theorem k_X8_thingsN (l : Launch) (D : va_G) (g : Nat → ClassId) {L : List Nat} {f : Nat → va_E} {Sl ch dr ri so th wo xb : Nat} {md : Int32} {wf : Nat → Option Nat} {wi : Int32} {z : Int32} (m_xb : xb ∈ L) (e_xb : f xb = .inr (6, [.ref wo, .ref Sl, .ref dr, .ref ri, .ref th, .ref so, .ref ch, .int md])) (m_wo : wo ∈ L) (e_wo : f wo = .inl (g 3, 8, .inr (.inr (.inr (.inr wf)))))   (hw2 : mX8_worldAt wf wi = some none) (hM : mX8_thingsN = some z) : cI l yX8_things wsX8_things { frames := 1, cells := 0, slots := 0, locals := 21 } D g [.ref xb, .int wi] L f 0 0 (fun x L1 f1 => x = z ∧ L1 = L ∧ f1 = f) := by
  refine cI_of (cc := cX8_things) (maxL := 3) (ret := (some .int)) (by decide) rfl (Nat.le_of_ble_eq_true rfl) ?_
  intro szz p e s m below meth c hx hb hr hml hts hown hlk hnm S ls hl
  have hl : lv_has ls 3 [(0, .ref xb), (1, .int wi)] := hl
  unfold mX8_thingsN at hM
  refine W_gen (fun QQ hQQ => ?_)
  refine lv_aload_n hx hb dX8_things_0 rfl (lv_at hl 0 rfl) ?_
  refine lv_iload_n hx hb dX8_things_1 rfl (lv_at hl 1 rfl) ?_
  refine q_vq (As := [.int wi]) (rest := []) ⟨hx, hb, hml, hown, hts⟩ (k_X8_worldAt l D g m_xb e_xb m_wo e_wo hw2) (cwV 1 hts gX8_things_X8_worldAt rfl rfl rfl (by decide +kernel) ⟨Nat.le_of_ble_eq_true rfl, Nat.le_of_ble_eq_true rfl⟩) S m_xb e_xb (T := TX8) (N := 8) rfl rfl hl.1 rfl (Nat.le_of_ble_eq_true rfl) dX8_things_2 ⟨Nat.le_of_ble_eq_true rfl, Nat.le_of_ble_eq_true rfl⟩ (fun r3 L1 f2 H locs S w2 => ?_)
  obtain ⟨ex, eL, ef⟩ := w2
  rw [eL, ef] at S
  replace ex := ex.symm
  subst ex
  refine W.eq (g2 := F0 m 5 ls [.null]) rfl ?_
  refine lv_astore_nN (lv' := [(2, .null), (0, .ref xb), (1, .int wi)]) hx hb dX8_things_5 rfl hl (by decide) rfl (fun ls hl => ?_)
  refine lv_aload_nN hx hb dX8_things_6 rfl (lv_at hl 0 rfl) ?_
  refine lv_ifnonnullN hx hb dX8_things_7 ?_
  refine lv_iconst (v := (-1 : Int32)) hx hb dX8_things_10 (by decide) ?_
  refine lv_goto (tgt := 18) hx hb dX8_things_11 (by decide) ?_
  subst hQQ
  exact q_reti (post := fun x L1 f1 => x = z ∧ L1 = L ∧ f1 = f) hx hb hr hlk S dX8_things_18 (by decide) (by decide) (by have hz := Option.some.inj hM; subst hz; exact ⟨rfl, rfl, rfl⟩)

def mX8_thing (i : Int32) (wn : Int32) (wv : Nat → Int64) : Option (Int64) := (mX0_at wn wv i).bind fun z16 => some z16
set_option maxHeartbeats 4000000 in
set_option maxRecDepth 100000 in
theorem k_X8_thing (l : Launch) (D : va_G) (g : Nat → ClassId) {L : List Nat} {f : Nat → va_E} {Sl ch dr ri so th wb wo wr xb : Nat} {md : Int32} {wf : Nat → Option Nat} {wi : Int32} {i : Int32} {wn : Int32} {wv : Nat → Int64} {z : Int64} (m_xb : xb ∈ L) (e_xb : f xb = .inr (6, [.ref wo, .ref Sl, .ref dr, .ref ri, .ref th, .ref so, .ref ch, .int md])) (m_wo : wo ∈ L) (e_wo : f wo = .inl (g 3, 8, .inr (.inr (.inr (.inr wf))))) (m_wb : wb ∈ L) (e_wb : f wb = .inr (0, [.ref wr, .int wn])) (m_wr : wr ∈ L) (e_wr : f wr = .inl (g 1, 1000, .inr (.inl wv)))   (hw2 : mX8_worldAt wf wi = some (some wb)) (hM : mX8_thing i wn wv = some z) : cL l yX8_thing wsX8_thing { frames := 1, cells := 0, slots := 0, locals := 21 } D g [.ref xb, .int wi, .int i] L f 0 0 (fun x L1 f1 => x = z ∧ L1 = L ∧ f1 = f) := by
  refine cL_of (cc := cX8_thing) (maxL := 4) (ret := (some .long)) (by decide) rfl (Nat.le_of_ble_eq_true rfl) ?_
  intro szz p e s m below meth c hx hb hr hml hts hown hlk hnm S ls hl
  have hl : lv_has ls 4 [(0, .ref xb), (1, .int wi), (2, .int i)] := hl
  unfold mX8_thing at hM
  refine W_gen (fun QQ hQQ => ?_)
  refine lv_aload_n hx hb dX8_thing_0 rfl (lv_at hl 0 rfl) ?_
  refine lv_iload_n hx hb dX8_thing_1 rfl (lv_at hl 1 rfl) ?_
  refine q_vq (As := [.int wi]) (rest := []) ⟨hx, hb, hml, hown, hts⟩ (k_X8_worldAt l D g m_xb e_xb m_wo e_wo hw2) (cwV 1 hts gX8_thing_X8_worldAt rfl rfl rfl (by decide +kernel) ⟨Nat.le_of_ble_eq_true rfl, Nat.le_of_ble_eq_true rfl⟩) S m_xb e_xb (T := TX8) (N := 8) rfl rfl hl.1 rfl (Nat.le_of_ble_eq_true rfl) dX8_thing_2 ⟨Nat.le_of_ble_eq_true rfl, Nat.le_of_ble_eq_true rfl⟩ (fun r3 L1 f2 H locs S w2 => ?_)
  obtain ⟨ex, eL, ef⟩ := w2
  rw [eL, ef] at S
  replace ex := ex.symm
  subst ex
  refine W.eq (g2 := F0 m 5 ls [.ref wb]) rfl ?_
  refine lv_astore_n (lv' := [(3, .ref wb), (0, .ref xb), (1, .int wi), (2, .int i)]) hx hb dX8_thing_5 rfl hl (by decide) rfl (fun ls hl => ?_)
  refine lv_aload_n hx hb dX8_thing_6 rfl (lv_at hl 0 rfl) ?_
  refine lv_ifnonnull (tgt := 14) hx hb dX8_thing_7 (by decide) ?_
  refine lv_aload_n hx hb dX8_thing_14 rfl (lv_at hl 0 rfl) ?_
  refine lv_iload_n hx hb dX8_thing_15 rfl (lv_at hl 3 rfl) ?_
  obtain ⟨z16, hz16, hM⟩ := bind_some hM
  refine q_vl (As := [.int i]) (rest := []) ⟨hx, hb, hml, hown, hts⟩ (k_X0_at l D g m_wb e_wb m_wr e_wr hz16) (cwV 1 hts gX8_thing_X0_at rfl rfl rfl (by decide +kernel) ⟨Nat.le_of_ble_eq_true rfl, Nat.le_of_ble_eq_true rfl⟩) S m_wb e_wb (T := TX0) (N := 2) rfl rfl hl.1 rfl (Nat.le_of_ble_eq_true rfl) dX8_thing_16 ⟨Nat.le_of_ble_eq_true rfl, Nat.le_of_ble_eq_true rfl⟩ (fun r6 L4 f5 H locs S w16 => ?_)
  obtain ⟨ex16, eL, ef⟩ := w16
  rw [eL, ef] at S
  replace ex16 := ex16.symm
  subst ex16
  subst hQQ
  exact q_retl (post := fun x L1 f1 => x = z ∧ L1 = L ∧ f1 = f) hx hb hr hlk S dX8_thing_19 (by decide) (by decide) (by have hz := Option.some.inj hM; subst hz; exact ⟨rfl, rfl, rfl⟩)

def mX8_thingN  : Option (Int64) := some (0 : Int64)
set_option maxHeartbeats 4000000 in
set_option maxRecDepth 100000 in
theorem k_X8_thingN (l : Launch) (D : va_G) (g : Nat → ClassId) {L : List Nat} {f : Nat → va_E} {Sl ch dr ri so th wo xb : Nat} {md : Int32} {wf : Nat → Option Nat} {wi : Int32} {i : Int32} {z : Int64} (m_xb : xb ∈ L) (e_xb : f xb = .inr (6, [.ref wo, .ref Sl, .ref dr, .ref ri, .ref th, .ref so, .ref ch, .int md])) (m_wo : wo ∈ L) (e_wo : f wo = .inl (g 3, 8, .inr (.inr (.inr (.inr wf)))))   (hw2 : mX8_worldAt wf wi = some none) (hM : mX8_thingN = some z) : cL l yX8_thing wsX8_thing { frames := 1, cells := 0, slots := 0, locals := 21 } D g [.ref xb, .int wi, .int i] L f 0 0 (fun x L1 f1 => x = z ∧ L1 = L ∧ f1 = f) := by
  refine cL_of (cc := cX8_thing) (maxL := 4) (ret := (some .long)) (by decide) rfl (Nat.le_of_ble_eq_true rfl) ?_
  intro szz p e s m below meth c hx hb hr hml hts hown hlk hnm S ls hl
  have hl : lv_has ls 4 [(0, .ref xb), (1, .int wi), (2, .int i)] := hl
  unfold mX8_thingN at hM
  refine W_gen (fun QQ hQQ => ?_)
  refine lv_aload_n hx hb dX8_thing_0 rfl (lv_at hl 0 rfl) ?_
  refine lv_iload_n hx hb dX8_thing_1 rfl (lv_at hl 1 rfl) ?_
  refine q_vq (As := [.int wi]) (rest := []) ⟨hx, hb, hml, hown, hts⟩ (k_X8_worldAt l D g m_xb e_xb m_wo e_wo hw2) (cwV 1 hts gX8_thing_X8_worldAt rfl rfl rfl (by decide +kernel) ⟨Nat.le_of_ble_eq_true rfl, Nat.le_of_ble_eq_true rfl⟩) S m_xb e_xb (T := TX8) (N := 8) rfl rfl hl.1 rfl (Nat.le_of_ble_eq_true rfl) dX8_thing_2 ⟨Nat.le_of_ble_eq_true rfl, Nat.le_of_ble_eq_true rfl⟩ (fun r3 L1 f2 H locs S w2 => ?_)
  obtain ⟨ex, eL, ef⟩ := w2
  rw [eL, ef] at S
  replace ex := ex.symm
  subst ex
  refine W.eq (g2 := F0 m 5 ls [.null]) rfl ?_
  refine lv_astore_nN (lv' := [(3, .null), (0, .ref xb), (1, .int wi), (2, .int i)]) hx hb dX8_thing_5 rfl hl (by decide) rfl (fun ls hl => ?_)
  refine lv_aload_nN hx hb dX8_thing_6 rfl (lv_at hl 0 rfl) ?_
  refine lv_ifnonnullN hx hb dX8_thing_7 ?_
  refine lv_lconst (v := (0 : Int64)) hx hb dX8_thing_10 (by decide) ?_
  refine lv_goto (tgt := 19) hx hb dX8_thing_11 (by decide) ?_
  subst hQQ
  exact q_retl (post := fun x L1 f1 => x = z ∧ L1 = L ∧ f1 = f) hx hb hr hlk S dX8_thing_19 (by decide) (by decide) (by have hz := Option.some.inj hM; subst hz; exact ⟨rfl, rfl, rfl⟩)

def mX8_take (t : Int64) (wn : Int32) (wv : Nat → Int64) : Option (Int32 × Int32 × (Nat → Int64)) := (mX0_takeOne wn wv t).bind fun z15 => if z15.1 = 0 then (some ((-1 : Int32), z15.2.1, z15.2.2)) else ((mX0_count z15.2.1).bind fun z25 => some (z25, z15.2.1, z15.2.2))
set_option maxHeartbeats 4000000 in
set_option maxRecDepth 100000 in
theorem k_X8_take (l : Launch) (D : va_G) (g : Nat → ClassId) {L : List Nat} {f : Nat → va_E} {Sl ch dr ri so th wb wo wr xb : Nat} {md : Int32} {wf : Nat → Option Nat} {wi : Int32} {t : Int64} {wn : Int32} {wv : Nat → Int64} {z : Int32 × Int32 × (Nat → Int64)} (m_xb : xb ∈ L) (e_xb : f xb = .inr (6, [.ref wo, .ref Sl, .ref dr, .ref ri, .ref th, .ref so, .ref ch, .int md])) (m_wo : wo ∈ L) (e_wo : f wo = .inl (g 3, 8, .inr (.inr (.inr (.inr wf))))) (m_wb : wb ∈ L) (e_wb : f wb = .inr (0, [.ref wr, .int wn])) (m_wr : wr ∈ L) (e_wr : f wr = .inl (g 1, 1000, .inr (.inl wv)))   (hw2 : mX8_worldAt wf wi = some (some wb)) (hM : mX8_take t wn wv = some z) : cI l yX8_take wsX8_take { frames := 2, cells := 0, slots := 0, locals := 48 } D g [.ref xb, .int wi, .long t] L f 0 0 (fun x L1 f1 => x = z.1 ∧ L1 = L ∧ (∀ b, b ∈ L → b ≠ wb → b ≠ wr → f1 b = f b) ∧ f1 wb = .inr (0, [.ref wr, .int z.2.1]) ∧ f1 wr = .inl (g 1, 1000, .inr (.inl z.2.2))) := by
  refine cI_of (cc := cX8_take) (maxL := 5) (ret := (some .int)) (by decide) rfl (Nat.le_of_ble_eq_true rfl) ?_
  intro szz p e s m below meth c hx hb hr hml hts hown hlk hnm S ls hl
  have hl : lv_has ls 5 [(0, .ref xb), (1, .int wi), (2, .long t)] := hl
  have fr : ∀ b, b ∈ L → b ≠ wb → b ≠ wr → f b = f b := fun _ _ _ _ => rfl
  unfold mX8_take at hM
  refine W_gen (fun QQ hQQ => ?_)
  refine lv_aload_n hx hb dX8_take_0 rfl (lv_at hl 0 rfl) ?_
  refine lv_iload_n hx hb dX8_take_1 rfl (lv_at hl 1 rfl) ?_
  refine q_vq (As := [.int wi]) (rest := []) ⟨hx, hb, hml, hown, hts⟩ (k_X8_worldAt l D g m_xb e_xb m_wo e_wo hw2) (cwV 1 hts gX8_take_X8_worldAt rfl rfl rfl (by decide +kernel) ⟨Nat.le_of_ble_eq_true rfl, Nat.le_of_ble_eq_true rfl⟩) S m_xb e_xb (T := TX8) (N := 8) rfl rfl hl.1 rfl (Nat.le_of_ble_eq_true rfl) dX8_take_2 ⟨Nat.le_of_ble_eq_true rfl, Nat.le_of_ble_eq_true rfl⟩ (fun r3 L1 f2 H locs S w2 => ?_)
  obtain ⟨ex, eL, ef⟩ := w2
  rw [eL, ef] at S
  replace ex := ex.symm
  subst ex
  refine W.eq (g2 := F0 m 5 ls [.ref wb]) rfl ?_
  refine lv_astore (lv' := [(4, .ref wb), (0, .ref xb), (1, .int wi), (2, .long t)]) hx hb dX8_take_5 hl (by decide) rfl (fun ls hl => ?_)
  refine lv_aload hx hb dX8_take_7 (lv_at hl 0 rfl) ?_
  refine lv_ifnull hx hb dX8_take_9 ?_
  refine lv_aload hx hb dX8_take_12 (lv_at hl 0 rfl) ?_
  refine lv_lload_n hx hb dX8_take_14 rfl (lv_at hl 3 rfl) ?_
  obtain ⟨z15, hz15, hM⟩ := bind_some hM
  refine q_vi (As := [.long t]) (rest := []) ⟨hx, hb, hml, hown, hts⟩ (k_X0_takeOne l D g m_wb e_wb m_wr e_wr hz15) (cwV 1 hts gX8_take_X0_takeOne rfl rfl rfl (by decide +kernel) ⟨Nat.le_of_ble_eq_true rfl, Nat.le_of_ble_eq_true rfl⟩) S m_wb e_wb (T := TX0) (N := 2) rfl rfl hl.1 rfl (Nat.le_of_ble_eq_true rfl) dX8_take_15 ⟨Nat.le_of_ble_eq_true rfl, Nat.le_of_ble_eq_true rfl⟩ (fun r6 L4 f5 H locs S w15 => ?_)
  obtain ⟨ex15, eL, fv15, E_wb, E_wr⟩ := w15
  rw [eL] at S
  have fr : ∀ b, b ∈ L → b ≠ wb → b ≠ wr → f5 b = f b := fun b mb nb0 nb1 => (fv15 b mb nb0 nb1).trans (fr b mb nb0 nb1)
  have e_wb : f5 wb = .inr (0, [.ref wr, .int z15.2.1]) := E_wb
  have e_wr : f5 wr = .inl (g 1, 1000, .inr (.inl z15.2.2)) := E_wr
  replace ex15 := ex15.symm
  subst ex15
  refine lv_if_ne (tgt := 23) hx hb dX8_take_18 (by decide) (fun b18 => ?_) (fun b18 => ?_)
  · have hM := itF b18 hM
    refine lv_aload hx hb dX8_take_23 (lv_at hl 0 rfl) ?_
    obtain ⟨z25, hz25, hM⟩ := bind_some hM
    refine q_vi (As := []) (rest := []) ⟨hx, hb, hml, hown, hts⟩ (k_X0_count l D g m_wb e_wb hz25) (cwV 0 hts gX8_take_X0_count rfl rfl rfl (by decide +kernel) ⟨Nat.le_of_ble_eq_true rfl, Nat.le_of_ble_eq_true rfl⟩) S m_wb e_wb (T := TX0) (N := 2) rfl rfl hl.1 rfl (Nat.le_of_ble_eq_true rfl) dX8_take_25 ⟨Nat.le_of_ble_eq_true rfl, Nat.le_of_ble_eq_true rfl⟩ (fun r9 L7 f8 H locs S w25 => ?_)
    obtain ⟨ex25, eL, ef⟩ := w25
    rw [eL, ef] at S
    replace ex25 := ex25.symm
    subst ex25
    subst hQQ
    exact q_reti (post := fun x L1 f1 => x = z.1 ∧ L1 = L ∧ (∀ b, b ∈ L → b ≠ wb → b ≠ wr → f1 b = f b) ∧ f1 wb = .inr (0, [.ref wr, .int z.2.1]) ∧ f1 wr = .inl (g 1, 1000, .inr (.inl z.2.2))) hx hb hr hlk S dX8_take_28 (by decide) (by decide) (by have hz := Option.some.inj hM; subst hz; exact ⟨rfl, rfl, fr, e_wb, e_wr⟩)
  · have hM := itT b18 hM
    refine lv_iconst (v := (-1 : Int32)) hx hb dX8_take_21 (by decide) ?_
    subst hQQ
    exact q_reti (post := fun x L1 f1 => x = z.1 ∧ L1 = L ∧ (∀ b, b ∈ L → b ≠ wb → b ≠ wr → f1 b = f b) ∧ f1 wb = .inr (0, [.ref wr, .int z.2.1]) ∧ f1 wr = .inl (g 1, 1000, .inr (.inl z.2.2))) hx hb hr hlk S dX8_take_22 (by decide) (by decide) (by have hz := Option.some.inj hM; subst hz; exact ⟨rfl, rfl, fr, e_wb, e_wr⟩)

def mX8_takeN  : Option (Int32) := some (-1 : Int32)
set_option maxHeartbeats 4000000 in
set_option maxRecDepth 100000 in
theorem k_X8_takeN (l : Launch) (D : va_G) (g : Nat → ClassId) {L : List Nat} {f : Nat → va_E} {Sl ch dr ri so th wo xb : Nat} {md : Int32} {wf : Nat → Option Nat} {wi : Int32} {t : Int64} {z : Int32} (m_xb : xb ∈ L) (e_xb : f xb = .inr (6, [.ref wo, .ref Sl, .ref dr, .ref ri, .ref th, .ref so, .ref ch, .int md])) (m_wo : wo ∈ L) (e_wo : f wo = .inl (g 3, 8, .inr (.inr (.inr (.inr wf)))))   (hw2 : mX8_worldAt wf wi = some none) (hM : mX8_takeN = some z) : cI l yX8_take wsX8_take { frames := 1, cells := 0, slots := 0, locals := 21 } D g [.ref xb, .int wi, .long t] L f 0 0 (fun x L1 f1 => x = z ∧ L1 = L ∧ f1 = f) := by
  refine cI_of (cc := cX8_take) (maxL := 5) (ret := (some .int)) (by decide) rfl (Nat.le_of_ble_eq_true rfl) ?_
  intro szz p e s m below meth c hx hb hr hml hts hown hlk hnm S ls hl
  have hl : lv_has ls 5 [(0, .ref xb), (1, .int wi), (2, .long t)] := hl
  unfold mX8_takeN at hM
  refine W_gen (fun QQ hQQ => ?_)
  refine lv_aload_n hx hb dX8_take_0 rfl (lv_at hl 0 rfl) ?_
  refine lv_iload_n hx hb dX8_take_1 rfl (lv_at hl 1 rfl) ?_
  refine q_vq (As := [.int wi]) (rest := []) ⟨hx, hb, hml, hown, hts⟩ (k_X8_worldAt l D g m_xb e_xb m_wo e_wo hw2) (cwV 1 hts gX8_take_X8_worldAt rfl rfl rfl (by decide +kernel) ⟨Nat.le_of_ble_eq_true rfl, Nat.le_of_ble_eq_true rfl⟩) S m_xb e_xb (T := TX8) (N := 8) rfl rfl hl.1 rfl (Nat.le_of_ble_eq_true rfl) dX8_take_2 ⟨Nat.le_of_ble_eq_true rfl, Nat.le_of_ble_eq_true rfl⟩ (fun r3 L1 f2 H locs S w2 => ?_)
  obtain ⟨ex, eL, ef⟩ := w2
  rw [eL, ef] at S
  replace ex := ex.symm
  subst ex
  refine W.eq (g2 := F0 m 5 ls [.null]) rfl ?_
  refine lv_astoreN (lv' := [(4, .null), (0, .ref xb), (1, .int wi), (2, .long t)]) hx hb dX8_take_5 hl (by decide) rfl (fun ls hl => ?_)
  refine lv_aloadN hx hb dX8_take_7 (lv_at hl 0 rfl) ?_
  refine lv_ifnullN (tgt := 21) hx hb dX8_take_9 (by decide) ?_
  refine lv_iconst (v := (-1 : Int32)) hx hb dX8_take_21 (by decide) ?_
  subst hQQ
  exact q_reti (post := fun x L1 f1 => x = z ∧ L1 = L ∧ f1 = f) hx hb hr hlk S dX8_take_22 (by decide) (by decide) (by have hz := Option.some.inj hM; subst hz; exact ⟨rfl, rfl, rfl⟩)

def mX8_span_L40 (fi : Int64) (st_ : Int32) (nn : Int32) (wn : Int32) (wv : Nat → Int64) : Nat → Int32 → Int32 → (Nat → Int64) → Option ((Int32 × Int32 × (Nat → Int64) × Int32 × (Nat → Int64)) ⊕ (Int32 × Int32 × (Nat → Int64)))
  | 0, _, _, _ => none
  | fu + 1, x7_40, cdr_1_40, cdrr_40 => if nn ≤ x7_40 then (some (.inr (x7_40, cdr_1_40, cdrr_40))) else (lt_ (fi + ((Int32.toInt64 x7_40) * (Int32.toInt64 st_))) fun y56 => (mX0_has cdr_1_40 cdrr_40 y56).bind fun z64 => if z64 = 0 then ((mX0_insert cdr_1_40 cdrr_40 y56).bind fun z76 => if z76.1 = 0 then (some (.inl ((-4 : Int32), wn, wv, z76.2.1, z76.2.2))) else (mX8_span_L40 fi st_ nn wn wv fu (x7_40 + 1) z76.2.1 z76.2.2)) else (mX8_span_L40 fi st_ nn wn wv fu (x7_40 + 1) cdr_1_40 cdrr_40))
def mX8_span (fi : Int64) (st_ : Int32) (nn : Int32) (wn : Int32) (wv : Nat → Int64) (dn : Int32) (dv : Nat → Int64) : Option (Int32 × Int32 × (Nat → Int64) × Int32 × (Nat → Int64)) := if nn < (1 : Int32) then (some ((-1 : Int32), wn, wv, dn, dv)) else (if nn ≤ (1000 : Int32) then ((mX0_copyFrom dv wn wv).bind fun z34 => (mX8_span_L40 fi st_ nn wn wv FU (0 : Int32) z34.1 z34.2).bind fun o40 => Sum.elim (fun r_ => some r_) (fun s40 => (mX0_copyFrom wv s40.2.1 s40.2.2).bind fun z97 => (mX0_count z97.1).bind fun z102 => some (z102, z97.1, z97.2, s40.2.1, s40.2.2)) o40) else (some ((-1 : Int32), wn, wv, dn, dv)))
set_option maxHeartbeats 4000000 in
set_option maxRecDepth 100000 in
theorem k_X8_span (l : Launch) (D : va_G) (g : Nat → ClassId) {L : List Nat} {f : Nat → va_E} {Sl ch dr drr ri so th wb wo wr xb : Nat} {md : Int32} {wf : Nat → Option Nat} {wi : Int32} {fi : Int64} {st_ : Int32} {nn : Int32} {wn : Int32} {wv : Nat → Int64} {jw : Nat} {dn : Int32} {dv : Nat → Int64} {ρ : Nat → Nat × Nat} {z : Int32 × Int32 × (Nat → Int64) × Int32 × (Nat → Int64)} (m_xb : xb ∈ L) (e_xb : f xb = .inr (6, [.ref wo, .ref Sl, .ref dr, .ref ri, .ref th, .ref so, .ref ch, .int md])) (m_wo : wo ∈ L) (e_wo : f wo = .inl (g 3, 8, .inr (.inr (.inr (.inr wf))))) (m_wb : wb ∈ L) (e_wb : f wb = .inr (0, [.ref wr, .int wn])) (m_wr : wr ∈ L) (e_wr : f wr = .inl (g 1, 1000, .inr (.inl wv))) (m_dr : dr ∈ L) (e_dr : f dr = .inr (0, [.ref drr, .int dn])) (m_drr : drr ∈ L) (e_drr : f drr = .inl (g 1, 1000, .inr (.inl dv)))  (r_dr : ρ dr = (0, 3)) (r_drr : ρ drr = (0, 4)) (r_wb : ρ wb = (1 + 2 * jw, 0)) (r_wr : ρ wr = (1 + 2 * jw, 0)) (hw2 : mX8_worldAt wf wi = some (some wb)) (hM : mX8_span fi st_ nn wn wv dn dv = some z) : cI l yX8_span wsX8_span { frames := 2, cells := 0, slots := 0, locals := 48 } D g [.ref xb, .int wi, .long fi, .int st_, .int nn] L f 0 0 (fun x L1 f1 => x = z.1 ∧ L1 = L ∧ (∀ b, b ∈ L → b ≠ wb → b ≠ wr → b ≠ dr → b ≠ drr → f1 b = f b) ∧ f1 wb = .inr (0, [.ref wr, .int z.2.1]) ∧ f1 wr = .inl (g 1, 1000, .inr (.inl z.2.2.1)) ∧ f1 dr = .inr (0, [.ref drr, .int z.2.2.2.1]) ∧ f1 drr = .inl (g 1, 1000, .inr (.inl z.2.2.2.2))) := by
  refine cI_of (cc := cX8_span) (maxL := 10) (ret := (some .int)) (by decide) rfl (Nat.le_of_ble_eq_true rfl) ?_
  intro szz p e s m below meth c hx hb hr hml hts hown hlk hnm S ls hl
  have hl : lv_has ls 10 [(0, .ref xb), (1, .int wi), (2, .long fi), (4, .int st_), (5, .int nn)] := hl
  have in_X8 : ∀ w ∈ wsX80, w ∈ wsX8_span := gu_wsX8_span_3
  have n_wb_dr : wb ≠ dr := role_ne r_dr r_wb nr_w0
  have n_wb_drr : wb ≠ drr := ne_ir e_drr e_wb
  have n_wr_dr : wr ≠ dr := ne_ri e_dr e_wr
  have n_wr_drr : wr ≠ drr := role_ne r_drr r_wr nr_w0
  have n_xb_dr : xb ≠ dr := ne_rr e_dr e_xb (by decide)
  have n_xb_drr : xb ≠ drr := ne_ir e_drr e_xb
  have n_wo_dr : wo ≠ dr := ne_ri e_dr e_wo
  have n_wo_drr : wo ≠ drr := ne_len e_drr e_wo (by decide)
  have n_dr_wb : dr ≠ wb := role_ne r_wb r_dr nr_0w
  have n_dr_wr : dr ≠ wr := ne_ir e_wr e_dr
  have n_drr_wb : drr ≠ wb := ne_ri e_wb e_drr
  have n_drr_wr : drr ≠ wr := role_ne r_wr r_drr nr_0w
  have fr : ∀ b, b ∈ L → b ≠ wb → b ≠ wr → b ≠ dr → b ≠ drr → f b = f b := fun _ _ _ _ _ _ => rfl
  unfold mX8_span at hM
  refine W_gen (fun QQ hQQ => ?_)
  refine lv_aload_n hx hb dX8_span_0 rfl (lv_at hl 0 rfl) ?_
  refine lv_iload_n hx hb dX8_span_1 rfl (lv_at hl 1 rfl) ?_
  refine q_vq (As := [.int wi]) (rest := []) ⟨hx, hb, hml, hown, hts⟩ (k_X8_worldAt l D g m_xb e_xb m_wo e_wo hw2) (cwV 1 hts gX8_span_X8_worldAt rfl rfl rfl (by decide +kernel) ⟨Nat.le_of_ble_eq_true rfl, Nat.le_of_ble_eq_true rfl⟩) S m_xb e_xb (T := TX8) (N := 8) rfl rfl hl.1 rfl (Nat.le_of_ble_eq_true rfl) dX8_span_2 ⟨Nat.le_of_ble_eq_true rfl, Nat.le_of_ble_eq_true rfl⟩ (fun r3 L1 f2 H locs S w2 => ?_)
  obtain ⟨ex, eL, ef⟩ := w2
  rw [eL, ef] at S
  replace ex := ex.symm
  subst ex
  refine W.eq (g2 := F0 m 5 ls [.ref wb]) rfl ?_
  refine lv_astore (lv' := [(6, .ref wb), (0, .ref xb), (1, .int wi), (2, .long fi), (4, .int st_), (5, .int nn)]) hx hb dX8_span_5 hl (by decide) rfl (fun ls hl => ?_)
  refine lv_aload hx hb dX8_span_7 (lv_at hl 0 rfl) ?_
  refine lv_ifnull hx hb dX8_span_9 ?_
  refine lv_iload hx hb dX8_span_12 (lv_at hl 5 rfl) ?_
  refine lv_iconst (v := (1 : Int32)) hx hb dX8_span_14 (by decide) ?_
  refine lv_icmp_lt (tgt := 26) hx hb dX8_span_15 (by decide) (fun b15 => ?_) (fun b15 => ?_)
  · have hM := itT b15 hM
    refine lv_iconst (v := (-1 : Int32)) hx hb dX8_span_26 (by decide) ?_
    subst hQQ
    exact q_reti (post := fun x L1 f1 => x = z.1 ∧ L1 = L ∧ (∀ b, b ∈ L → b ≠ wb → b ≠ wr → b ≠ dr → b ≠ drr → f1 b = f b) ∧ f1 wb = .inr (0, [.ref wr, .int z.2.1]) ∧ f1 wr = .inl (g 1, 1000, .inr (.inl z.2.2.1)) ∧ f1 dr = .inr (0, [.ref drr, .int z.2.2.2.1]) ∧ f1 drr = .inl (g 1, 1000, .inr (.inl z.2.2.2.2))) hx hb hr hlk S dX8_span_27 (by decide) (by decide) (by have hz := Option.some.inj hM; subst hz; exact ⟨rfl, rfl, fr, e_wb, e_wr, e_dr, e_drr⟩)
  · have hM := itF b15 hM
    refine lv_iload hx hb dX8_span_18 (lv_at hl 5 rfl) ?_
    refine lv_sipush (v := (1000 : Int32)) hx hb dX8_span_20 (by decide) ?_
    refine lv_icmp_le (tgt := 28) hx hb dX8_span_23 (by decide) (fun b23 => ?_) (fun b23 => ?_)
    · have hM := itT b23 hM
      refine lv_aload_n hx hb dX8_span_28 rfl (lv_at hl 1 rfl) ?_
      refine q_get hx hb hts in_X8 hown S m_xb e_xb (C := RX8) (T := TX8) (N := 8) rfl 2 (by decide) rfl (hts (.fieldLink RX8 22 "SieveCabinet" "draft" "LSieveCabinet$Bag;") (gu_wsX8_span_1 _ gm_0)) dX8_span_29 ?_
      refine lv_aload hx hb dX8_span_32 (lv_at hl 0 rfl) ?_
      obtain ⟨z34, hz34, hM⟩ := bind_some hM
      refine q_vv (As := [.ref wb]) (rest := []) ⟨hx, hb, hml, hown, hts⟩ (k_X0_copyFrom l D g m_dr e_dr m_drr e_drr m_wb e_wb m_wr e_wr hz34) (cwV 1 hts gX8_span_X0_copyFrom rfl rfl rfl (by decide +kernel) ⟨Nat.le_of_ble_eq_true rfl, Nat.le_of_ble_eq_true rfl⟩) S m_dr e_dr (T := TX0) (N := 2) rfl rfl hl.1 rfl (Nat.le_of_ble_eq_true rfl) dX8_span_34 ⟨Nat.le_of_ble_eq_true rfl, Nat.le_of_ble_eq_true rfl⟩ (fun L4 f5 H locs S w34 => ?_)
      obtain ⟨eL, fv34, E_dr, E_drr⟩ := w34
      rw [eL] at S
      have fr : ∀ b, b ∈ L → b ≠ wb → b ≠ wr → b ≠ dr → b ≠ drr → f5 b = f b := fun b mb nb0 nb1 nb2 nb3 => (fv34 b mb nb2 nb3).trans (fr b mb nb0 nb1 nb2 nb3)
      have e_dr : f5 dr = .inr (0, [.ref drr, .int z34.1]) := E_dr
      have e_drr : f5 drr = .inl (g 1, 1000, .inr (.inl z34.2)) := E_drr
      refine lv_iconst (v := (0 : Int32)) hx hb dX8_span_37 (by decide) ?_
      refine lv_istore (lv' := [(7, .int (0 : Int32)), (6, .ref wb), (0, .ref xb), (1, .int wi), (2, .long fi), (4, .int st_), (5, .int nn)]) hx hb dX8_span_38 hl (by decide) rfl (fun ls hl => ?_)
      have e_xb := ((fv34 xb m_xb n_xb_dr n_xb_drr).trans e_xb)
      have e_wo := ((fv34 wo m_wo n_wo_dr n_wo_drr).trans e_wo)
      have e_wb := ((fv34 wb m_wb n_wb_dr n_wb_drr).trans e_wb)
      have e_wr := ((fv34 wr m_wr n_wr_dr n_wr_drr).trans e_wr)
      obtain ⟨o40, ho40, hM⟩ := bind_some hM
      have EX40 : ∀ (s40 : Int32 × Int32 × (Nat → Int64)), o40 = .inr s40 → ∀ (fl40 : Nat → va_E) (H : Heap) (locs : List Loc) (ls : Array Slot), PS D g (va_A (va_pl L f) szz) s.heap s L fl40 H locs → fl40 xb = .inr (6, [.ref wo, .ref Sl, .ref dr, .ref ri, .ref th, .ref so, .ref ch, .int md]) → fl40 wo = .inl (g 3, 8, .inr (.inr (.inr (.inr wf)))) → fl40 wb = .inr (0, [.ref wr, .int wn]) → fl40 wr = .inl (g 1, 1000, .inr (.inl wv)) → fl40 dr = .inr (0, [.ref drr, .int s40.2.1]) → fl40 drr = .inl (g 1, 1000, .inr (.inl s40.2.2)) → (∀ b, b ∈ L → b ≠ wb → b ≠ wr → b ≠ dr → b ≠ drr → fl40 b = f b) → lv_has ls 10 [(6, .ref wb), (0, .ref xb)] → W p l e { frames := 2, cells := 0, slots := 0, locals := 48 } s m [.ref xb, .int wi, .long fi, .int st_, .int nn].toArray below meth c H locs 0 0 QQ (F0 m 91 ls []) := by
        intro s40 eo40
        rw [eo40] at hM
        simp only [Sum.elim_inr] at hM
        intro fl40 H locs ls S e_xb e_wo e_wb e_wr e_dr e_drr fr hl
        refine lv_aload hx hb dX8_span_91 (lv_at hl 0 rfl) ?_
        refine lv_aload_n hx hb dX8_span_93 rfl (lv_at hl 1 rfl) ?_
        refine q_get hx hb hts in_X8 hown S m_xb e_xb (C := RX8) (T := TX8) (N := 8) rfl 2 (by decide) rfl (hts (.fieldLink RX8 22 "SieveCabinet" "draft" "LSieveCabinet$Bag;") (gu_wsX8_span_1 _ gm_0)) dX8_span_94 ?_
        obtain ⟨z97, hz97, hM⟩ := bind_some hM
        refine q_vv (As := [.ref dr]) (rest := []) ⟨hx, hb, hml, hown, hts⟩ (k_X0_copyFrom l D g m_wb e_wb m_wr e_wr m_dr e_dr m_drr e_drr hz97) (cwV 1 hts gX8_span_X0_copyFrom rfl rfl rfl (by decide +kernel) ⟨Nat.le_of_ble_eq_true rfl, Nat.le_of_ble_eq_true rfl⟩) S m_wb e_wb (T := TX0) (N := 2) rfl rfl hl.1 rfl (Nat.le_of_ble_eq_true rfl) dX8_span_97 ⟨Nat.le_of_ble_eq_true rfl, Nat.le_of_ble_eq_true rfl⟩ (fun L7 f8 H locs S w97 => ?_)
        obtain ⟨eL, fv97, E_wb, E_wr⟩ := w97
        rw [eL] at S
        have fr : ∀ b, b ∈ L → b ≠ wb → b ≠ wr → b ≠ dr → b ≠ drr → f8 b = f b := fun b mb nb0 nb1 nb2 nb3 => (fv97 b mb nb0 nb1).trans (fr b mb nb0 nb1 nb2 nb3)
        have e_wb : f8 wb = .inr (0, [.ref wr, .int z97.1]) := E_wb
        have e_wr : f8 wr = .inl (g 1, 1000, .inr (.inl z97.2)) := E_wr
        refine lv_aload hx hb dX8_span_100 (lv_at hl 0 rfl) ?_
        obtain ⟨z102, hz102, hM⟩ := bind_some hM
        refine q_vi (As := []) (rest := []) ⟨hx, hb, hml, hown, hts⟩ (k_X0_count l D g m_wb e_wb hz102) (cwV 0 hts gX8_span_X0_count rfl rfl rfl (by decide +kernel) ⟨Nat.le_of_ble_eq_true rfl, Nat.le_of_ble_eq_true rfl⟩) S m_wb e_wb (T := TX0) (N := 2) rfl rfl hl.1 rfl (Nat.le_of_ble_eq_true rfl) dX8_span_102 ⟨Nat.le_of_ble_eq_true rfl, Nat.le_of_ble_eq_true rfl⟩ (fun r12 L10 f11 H locs S w102 => ?_)
        obtain ⟨ex102, eL, ef⟩ := w102
        rw [eL, ef] at S
        replace ex102 := ex102.symm
        subst ex102
        have e_dr := ((fv97 dr m_dr n_dr_wb n_dr_wr).trans e_dr)
        have e_drr := ((fv97 drr m_drr n_drr_wb n_drr_wr).trans e_drr)
        subst hQQ
        exact q_reti (post := fun x L1 f1 => x = z.1 ∧ L1 = L ∧ (∀ b, b ∈ L → b ≠ wb → b ≠ wr → b ≠ dr → b ≠ drr → f1 b = f b) ∧ f1 wb = .inr (0, [.ref wr, .int z.2.1]) ∧ f1 wr = .inl (g 1, 1000, .inr (.inl z.2.2.1)) ∧ f1 dr = .inr (0, [.ref drr, .int z.2.2.2.1]) ∧ f1 drr = .inl (g 1, 1000, .inr (.inl z.2.2.2.2))) hx hb hr hlk S dX8_span_105 (by decide) (by decide) (by have hz := Option.some.inj hM; subst hz; exact ⟨rfl, rfl, fr, e_wb, e_wr, e_dr, e_drr⟩)
      have LP40 : ∀ (fu : Nat) (x7_40 : Int32) (cdr_1_40 : Int32) (cdrr_40 : Nat → Int64) (fl40 : Nat → va_E) (H : Heap) (locs : List Loc) (ls : Array Slot), (mX8_span_L40 fi st_ nn wn wv) fu x7_40 cdr_1_40 cdrr_40 = some o40 → PS D g (va_A (va_pl L f) szz) s.heap s L fl40 H locs → fl40 xb = .inr (6, [.ref wo, .ref Sl, .ref dr, .ref ri, .ref th, .ref so, .ref ch, .int md]) → fl40 wo = .inl (g 3, 8, .inr (.inr (.inr (.inr wf)))) → fl40 wb = .inr (0, [.ref wr, .int wn]) → fl40 wr = .inl (g 1, 1000, .inr (.inl wv)) → fl40 dr = .inr (0, [.ref drr, .int cdr_1_40]) → fl40 drr = .inl (g 1, 1000, .inr (.inl cdrr_40)) → (∀ b, b ∈ L → b ≠ wb → b ≠ wr → b ≠ dr → b ≠ drr → fl40 b = f b) → lv_has ls 10 [(7, .int x7_40), (6, .ref wb), (0, .ref xb), (2, .long fi), (4, .int st_), (5, .int nn)] → W p l e { frames := 2, cells := 0, slots := 0, locals := 48 } s m [.ref xb, .int wi, .long fi, .int st_, .int nn].toArray below meth c H locs 0 0 QQ (F0 m 40 ls []) := by
        intro fu
        induction fu with
        | zero => intro x7_40 cdr_1_40 cdrr_40 fl40 H locs ls ho40 S e_xb e_wo e_wb e_wr e_dr e_drr fr hl; exact no_some ho40
        | succ fu ih40 =>
          intro x7_40 cdr_1_40 cdrr_40 fl40 H locs ls ho40 S e_xb e_wo e_wb e_wr e_dr e_drr fr hl
          rw [mX8_span_L40] at ho40
          refine lv_iload hx hb dX8_span_40 (lv_at hl 0 rfl) ?_
          refine lv_iload hx hb dX8_span_42 (lv_at hl 5 rfl) ?_
          refine lv_icmp_ge (tgt := 91) hx hb dX8_span_44 (by decide) (fun b44 => ?_) (fun b44 => ?_)
          · have ho40 := itT b44 ho40
            obtain rfl := Option.some.inj ho40
            exact EX40 _ rfl fl40 _ _ _ S e_xb e_wo e_wb e_wr e_dr e_drr fr (lv_sub hl [1, 2] rfl)
          · have ho40 := itF b44 ho40
            refine lv_lload_n hx hb dX8_span_47 rfl (lv_at hl 3 rfl) ?_
            refine lv_iload hx hb dX8_span_48 (lv_at hl 0 rfl) ?_
            refine lv_i2l (v := (Int32.toInt64 x7_40)) hx hb dX8_span_50 rfl ?_
            refine lv_iload hx hb dX8_span_51 (lv_at hl 4 rfl) ?_
            refine lv_i2l (v := (Int32.toInt64 st_)) hx hb dX8_span_53 rfl ?_
            refine lv_lmul hx hb dX8_span_54 ?_
            refine lv_ladd hx hb dX8_span_55 ?_
            refine lv_topl (fun y56 ey56 => ?_)
            have ho40 := lt_some ho40 ey56
            refine lv_lstore (lv' := [(8, .long y56), (7, .int x7_40), (6, .ref wb), (0, .ref xb), (2, .long fi), (4, .int st_), (5, .int nn)]) hx hb dX8_span_56 hl (by decide) rfl (fun ls hl => ?_)
            refine lv_aload_n hx hb dX8_span_58 rfl (lv_at hl 3 rfl) ?_
            refine q_get hx hb hts in_X8 hown S m_xb e_xb (C := RX8) (T := TX8) (N := 8) rfl 2 (by decide) rfl (hts (.fieldLink RX8 22 "SieveCabinet" "draft" "LSieveCabinet$Bag;") (gu_wsX8_span_1 _ gm_0)) dX8_span_59 ?_
            refine lv_lload hx hb dX8_span_62 (lv_at hl 0 rfl) ?_
            obtain ⟨z64, hz64, ho40⟩ := bind_some ho40
            refine q_vi (As := [.long y56]) (rest := []) ⟨hx, hb, hml, hown, hts⟩ (k_X0_has l D g m_dr e_dr m_drr e_drr hz64) (cwV 1 hts gX8_span_X0_has rfl rfl rfl (by decide +kernel) ⟨Nat.le_of_ble_eq_true rfl, Nat.le_of_ble_eq_true rfl⟩) S m_dr e_dr (T := TX0) (N := 2) rfl rfl hl.1 rfl (Nat.le_of_ble_eq_true rfl) dX8_span_64 ⟨Nat.le_of_ble_eq_true rfl, Nat.le_of_ble_eq_true rfl⟩ (fun r15 L13 f14 H locs S w64 => ?_)
            obtain ⟨ex64, eL, ef⟩ := w64
            rw [eL, ef] at S
            replace ex64 := ex64.symm
            subst ex64
            refine lv_if_ne (tgt := 85) hx hb dX8_span_67 (by decide) (fun b67 => ?_) (fun b67 => ?_)
            · have ho40 := itF b67 ho40
              refine lv_iinc (v := (x7_40 + 1)) (lv' := [(7, .int (x7_40 + 1)), (8, .long y56), (6, .ref wb), (0, .ref xb), (2, .long fi), (4, .int st_), (5, .int nn)]) hx hb dX8_span_85 hl (k := 1) rfl rfl (by decide) rfl (fun ls hl => ?_)
              refine lv_goto (tgt := 40) hx hb dX8_span_88 (by decide) ?_
              exact ih40 (x7_40 + 1) cdr_1_40 cdrr_40 fl40 _ _ _ ho40 S e_xb e_wo e_wb e_wr e_dr e_drr fr (lv_sub hl [0, 2, 3, 4, 5, 6] rfl)
            · have ho40 := itT b67 ho40
              refine lv_aload_n hx hb dX8_span_70 rfl (lv_at hl 3 rfl) ?_
              refine q_get hx hb hts in_X8 hown S m_xb e_xb (C := RX8) (T := TX8) (N := 8) rfl 2 (by decide) rfl (hts (.fieldLink RX8 22 "SieveCabinet" "draft" "LSieveCabinet$Bag;") (gu_wsX8_span_1 _ gm_0)) dX8_span_71 ?_
              refine lv_lload hx hb dX8_span_74 (lv_at hl 0 rfl) ?_
              obtain ⟨z76, hz76, ho40⟩ := bind_some ho40
              refine q_vi (As := [.long y56]) (rest := []) ⟨hx, hb, hml, hown, hts⟩ (k_X0_insert l D g m_dr e_dr m_drr e_drr hz76) (cwV 1 hts gX8_span_X0_insert rfl rfl rfl (by decide +kernel) ⟨Nat.le_of_ble_eq_true rfl, Nat.le_of_ble_eq_true rfl⟩) S m_dr e_dr (T := TX0) (N := 2) rfl rfl hl.1 rfl (Nat.le_of_ble_eq_true rfl) dX8_span_76 ⟨Nat.le_of_ble_eq_true rfl, Nat.le_of_ble_eq_true rfl⟩ (fun r18 L16 f17 H locs S w76 => ?_)
              obtain ⟨ex76, eL, fv76, E_dr, E_drr⟩ := w76
              rw [eL] at S
              have fr : ∀ b, b ∈ L → b ≠ wb → b ≠ wr → b ≠ dr → b ≠ drr → f17 b = f b := fun b mb nb0 nb1 nb2 nb3 => (fv76 b mb nb2 nb3).trans (fr b mb nb0 nb1 nb2 nb3)
              have e_dr : f17 dr = .inr (0, [.ref drr, .int z76.2.1]) := E_dr
              have e_drr : f17 drr = .inl (g 1, 1000, .inr (.inl z76.2.2)) := E_drr
              replace ex76 := ex76.symm
              subst ex76
              refine lv_if_ne (tgt := 85) hx hb dX8_span_79 (by decide) (fun b79 => ?_) (fun b79 => ?_)
              · have ho40 := itF b79 ho40
                refine lv_iinc (v := (x7_40 + 1)) (lv' := [(7, .int (x7_40 + 1)), (8, .long y56), (6, .ref wb), (0, .ref xb), (2, .long fi), (4, .int st_), (5, .int nn)]) hx hb dX8_span_85 hl (k := 1) rfl rfl (by decide) rfl (fun ls hl => ?_)
                refine lv_goto (tgt := 40) hx hb dX8_span_88 (by decide) ?_
                have e_xb := ((fv76 xb m_xb n_xb_dr n_xb_drr).trans e_xb)
                have e_wo := ((fv76 wo m_wo n_wo_dr n_wo_drr).trans e_wo)
                have e_wb := ((fv76 wb m_wb n_wb_dr n_wb_drr).trans e_wb)
                have e_wr := ((fv76 wr m_wr n_wr_dr n_wr_drr).trans e_wr)
                exact ih40 (x7_40 + 1) z76.2.1 z76.2.2 f17 _ _ _ ho40 S e_xb e_wo e_wb e_wr e_dr e_drr fr (lv_sub hl [0, 2, 3, 4, 5, 6] rfl)
              · have ho40 := itT b79 ho40
                refine lv_bipush (v := (-4 : Int32)) hx hb dX8_span_82 (by decide) ?_
                have e_wb := ((fv76 wb m_wb n_wb_dr n_wb_drr).trans e_wb)
                have e_wr := ((fv76 wr m_wr n_wr_dr n_wr_drr).trans e_wr)
                obtain rfl := Option.some.inj ho40
                simp only [Sum.elim_inl] at hM
                subst hQQ
                exact q_reti (post := fun x L1 f1 => x = z.1 ∧ L1 = L ∧ (∀ b, b ∈ L → b ≠ wb → b ≠ wr → b ≠ dr → b ≠ drr → f1 b = f b) ∧ f1 wb = .inr (0, [.ref wr, .int z.2.1]) ∧ f1 wr = .inl (g 1, 1000, .inr (.inl z.2.2.1)) ∧ f1 dr = .inr (0, [.ref drr, .int z.2.2.2.1]) ∧ f1 drr = .inl (g 1, 1000, .inr (.inl z.2.2.2.2))) hx hb hr hlk S dX8_span_84 (by decide) (by decide) (by have hz := Option.some.inj hM; subst hz; exact ⟨rfl, rfl, fr, e_wb, e_wr, e_dr, e_drr⟩)
      exact LP40 FU (0 : Int32) z34.1 z34.2 f5 _ _ _ ho40 S e_xb e_wo e_wb e_wr e_dr e_drr fr (lv_sub hl [0, 1, 2, 4, 5, 6] rfl)
    · have hM := itF b23 hM
      refine lv_iconst (v := (-1 : Int32)) hx hb dX8_span_26 (by decide) ?_
      subst hQQ
      exact q_reti (post := fun x L1 f1 => x = z.1 ∧ L1 = L ∧ (∀ b, b ∈ L → b ≠ wb → b ≠ wr → b ≠ dr → b ≠ drr → f1 b = f b) ∧ f1 wb = .inr (0, [.ref wr, .int z.2.1]) ∧ f1 wr = .inl (g 1, 1000, .inr (.inl z.2.2.1)) ∧ f1 dr = .inr (0, [.ref drr, .int z.2.2.2.1]) ∧ f1 drr = .inl (g 1, 1000, .inr (.inl z.2.2.2.2))) hx hb hr hlk S dX8_span_27 (by decide) (by decide) (by have hz := Option.some.inj hM; subst hz; exact ⟨rfl, rfl, fr, e_wb, e_wr, e_dr, e_drr⟩)

def mX8_spanN  : Option (Int32) := some (-1 : Int32)
set_option maxHeartbeats 4000000 in
set_option maxRecDepth 100000 in
theorem k_X8_spanN (l : Launch) (D : va_G) (g : Nat → ClassId) {L : List Nat} {f : Nat → va_E} {Sl ch dr ri so th wo xb : Nat} {md : Int32} {wf : Nat → Option Nat} {wi : Int32} {fi : Int64} {st_ : Int32} {nn : Int32} {z : Int32} (m_xb : xb ∈ L) (e_xb : f xb = .inr (6, [.ref wo, .ref Sl, .ref dr, .ref ri, .ref th, .ref so, .ref ch, .int md])) (m_wo : wo ∈ L) (e_wo : f wo = .inl (g 3, 8, .inr (.inr (.inr (.inr wf)))))   (hw2 : mX8_worldAt wf wi = some none) (hM : mX8_spanN = some z) : cI l yX8_span wsX8_span { frames := 1, cells := 0, slots := 0, locals := 21 } D g [.ref xb, .int wi, .long fi, .int st_, .int nn] L f 0 0 (fun x L1 f1 => x = z ∧ L1 = L ∧ f1 = f) := by
  refine cI_of (cc := cX8_span) (maxL := 10) (ret := (some .int)) (by decide) rfl (Nat.le_of_ble_eq_true rfl) ?_
  intro szz p e s m below meth c hx hb hr hml hts hown hlk hnm S ls hl
  have hl : lv_has ls 10 [(0, .ref xb), (1, .int wi), (2, .long fi), (4, .int st_), (5, .int nn)] := hl
  unfold mX8_spanN at hM
  refine W_gen (fun QQ hQQ => ?_)
  refine lv_aload_n hx hb dX8_span_0 rfl (lv_at hl 0 rfl) ?_
  refine lv_iload_n hx hb dX8_span_1 rfl (lv_at hl 1 rfl) ?_
  refine q_vq (As := [.int wi]) (rest := []) ⟨hx, hb, hml, hown, hts⟩ (k_X8_worldAt l D g m_xb e_xb m_wo e_wo hw2) (cwV 1 hts gX8_span_X8_worldAt rfl rfl rfl (by decide +kernel) ⟨Nat.le_of_ble_eq_true rfl, Nat.le_of_ble_eq_true rfl⟩) S m_xb e_xb (T := TX8) (N := 8) rfl rfl hl.1 rfl (Nat.le_of_ble_eq_true rfl) dX8_span_2 ⟨Nat.le_of_ble_eq_true rfl, Nat.le_of_ble_eq_true rfl⟩ (fun r3 L1 f2 H locs S w2 => ?_)
  obtain ⟨ex, eL, ef⟩ := w2
  rw [eL, ef] at S
  replace ex := ex.symm
  subst ex
  refine W.eq (g2 := F0 m 5 ls [.null]) rfl ?_
  refine lv_astoreN (lv' := [(6, .null), (0, .ref xb), (1, .int wi), (2, .long fi), (4, .int st_), (5, .int nn)]) hx hb dX8_span_5 hl (by decide) rfl (fun ls hl => ?_)
  refine lv_aloadN hx hb dX8_span_7 (lv_at hl 0 rfl) ?_
  refine lv_ifnullN (tgt := 26) hx hb dX8_span_9 (by decide) ?_
  refine lv_iconst (v := (-1 : Int32)) hx hb dX8_span_26 (by decide) ?_
  subst hQQ
  exact q_reti (post := fun x L1 f1 => x = z ∧ L1 = L ∧ f1 = f) hx hb hr hlk S dX8_span_27 (by decide) (by decide) (by have hz := Option.some.inj hM; subst hz; exact ⟨rfl, rfl, rfl⟩)

def mX8_put (t : Int64) (kd : Int32) (sz : Int32) (mk : Int32) (sd : Int32) (kc : Nat → Int32) (n : Int32) (v : Nat → Int64) : Option (Int32 × (Nat → Int32) × Int32 × (Nat → Int64)) := (mX6_isOpen kd).bind fun z16 => if z16 = 0 then (some ((-2 : Int32), kc, n, v)) else ((mX6_enter kd sz mk sd kc n v t).bind fun z25 => some (z25.1, z25.2.1, z25.2.2.1, z25.2.2.2))
set_option maxHeartbeats 4000000 in
set_option maxRecDepth 100000 in
theorem k_X8_put (l : Launch) (D : va_G) (g : Nat → ClassId) {L : List Nat} {f : Nat → va_E} {Sl ce ch co cr dr h ri so th wo xb : Nat} {md : Int32} {sf : Nat → Option Nat} {sq : Int32} {t : Int64} {lay : Value} {kd : Int32} {sz : Int32} {mk : Int32} {sd : Int32} {kc : Nat → Int32} {n : Int32} {v : Nat → Int64} {z : Int32 × (Nat → Int32) × Int32 × (Nat → Int64)} (m_xb : xb ∈ L) (e_xb : f xb = .inr (6, [.ref wo, .ref Sl, .ref dr, .ref ri, .ref th, .ref so, .ref ch, .int md])) (m_Sl : Sl ∈ L) (e_Sl : f Sl = .inl (g 5, 30, .inr (.inr (.inr (.inr sf))))) (m_h : h ∈ L) (e_h : f h = .inr (4, [.ref ce, .ref co, lay, .int kd, .int sz, .int mk, .int sd])) (m_ce : ce ∈ L) (e_ce : f ce = .inl (g 0, 4096, .inl kc)) (m_co : co ∈ L) (e_co : f co = .inr (0, [.ref cr, .int n])) (m_cr : cr ∈ L) (e_cr : f cr = .inl (g 1, 1000, .inr (.inl v)))   (hs2 : mX8_sieveAt md sf sq = some (some h)) (hM : mX8_put t kd sz mk sd kc n v = some z) : cI l yX8_put wsX8_put { frames := 6, cells := 0, slots := 0, locals := 145 } D g [.ref xb, .int sq, .long t] L f 0 0 (fun x L1 f1 => x = z.1 ∧ L1 = L ∧ (∀ b, b ∈ L → b ≠ ce → b ≠ co → b ≠ cr → f1 b = f b) ∧ f1 ce = .inl (g 0, 4096, .inl z.2.1) ∧ f1 co = .inr (0, [.ref cr, .int z.2.2.1]) ∧ f1 cr = .inl (g 1, 1000, .inr (.inl z.2.2.2))) := by
  refine cI_of (cc := cX8_put) (maxL := 5) (ret := (some .int)) (by decide) rfl (Nat.le_of_ble_eq_true rfl) ?_
  intro szz p e s m below meth c hx hb hr hml hts hown hlk hnm S ls hl
  have hl : lv_has ls 5 [(0, .ref xb), (1, .int sq), (2, .long t)] := hl
  have fr : ∀ b, b ∈ L → b ≠ ce → b ≠ co → b ≠ cr → f b = f b := fun _ _ _ _ _ => rfl
  unfold mX8_put at hM
  refine W_gen (fun QQ hQQ => ?_)
  refine lv_aload_n hx hb dX8_put_0 rfl (lv_at hl 0 rfl) ?_
  refine lv_iload_n hx hb dX8_put_1 rfl (lv_at hl 1 rfl) ?_
  refine q_vq (As := [.int sq]) (rest := []) ⟨hx, hb, hml, hown, hts⟩ (k_X8_sieveAt l D g m_xb e_xb m_Sl e_Sl hs2) (cwV 1 hts gX8_put_X8_sieveAt rfl rfl rfl (by decide +kernel) ⟨Nat.le_of_ble_eq_true rfl, Nat.le_of_ble_eq_true rfl⟩) S m_xb e_xb (T := TX8) (N := 8) rfl rfl hl.1 rfl (Nat.le_of_ble_eq_true rfl) dX8_put_2 ⟨Nat.le_of_ble_eq_true rfl, Nat.le_of_ble_eq_true rfl⟩ (fun r3 L1 f2 H locs S w2 => ?_)
  obtain ⟨ex, eL, ef⟩ := w2
  rw [eL, ef] at S
  replace ex := ex.symm
  subst ex
  refine W.eq (g2 := F0 m 5 ls [.ref h]) rfl ?_
  refine lv_astore (lv' := [(4, .ref h), (0, .ref xb), (1, .int sq), (2, .long t)]) hx hb dX8_put_5 hl (by decide) rfl (fun ls hl => ?_)
  refine lv_aload hx hb dX8_put_7 (lv_at hl 0 rfl) ?_
  refine lv_ifnonnull (tgt := 14) hx hb dX8_put_9 (by decide) ?_
  refine lv_aload hx hb dX8_put_14 (lv_at hl 0 rfl) ?_
  obtain ⟨z16, hz16, hM⟩ := bind_some hM
  refine q_vi (As := []) (rest := []) ⟨hx, hb, hml, hown, hts⟩ (k_X6_isOpen l D g m_h e_h hz16) (cwV 0 hts gX8_put_X6_isOpen rfl rfl rfl (by decide +kernel) ⟨Nat.le_of_ble_eq_true rfl, Nat.le_of_ble_eq_true rfl⟩) S m_h e_h (T := TX6) (N := 7) rfl rfl hl.1 rfl (Nat.le_of_ble_eq_true rfl) dX8_put_16 ⟨Nat.le_of_ble_eq_true rfl, Nat.le_of_ble_eq_true rfl⟩ (fun r6 L4 f5 H locs S w16 => ?_)
  obtain ⟨ex16, eL, ef⟩ := w16
  rw [eL, ef] at S
  replace ex16 := ex16.symm
  subst ex16
  refine lv_if_eq (tgt := 31) hx hb dX8_put_19 (by decide) (fun b19 => ?_) (fun b19 => ?_)
  · have hM := itT b19 hM
    refine lv_bipush (v := (-2 : Int32)) hx hb dX8_put_31 (by decide) ?_
    subst hQQ
    exact q_reti (post := fun x L1 f1 => x = z.1 ∧ L1 = L ∧ (∀ b, b ∈ L → b ≠ ce → b ≠ co → b ≠ cr → f1 b = f b) ∧ f1 ce = .inl (g 0, 4096, .inl z.2.1) ∧ f1 co = .inr (0, [.ref cr, .int z.2.2.1]) ∧ f1 cr = .inl (g 1, 1000, .inr (.inl z.2.2.2))) hx hb hr hlk S dX8_put_33 (by decide) (by decide) (by have hz := Option.some.inj hM; subst hz; exact ⟨rfl, rfl, fr, e_ce, e_co, e_cr⟩)
  · have hM := itF b19 hM
    refine lv_aload hx hb dX8_put_22 (lv_at hl 0 rfl) ?_
    refine lv_lload_n hx hb dX8_put_24 rfl (lv_at hl 3 rfl) ?_
    obtain ⟨z25, hz25, hM⟩ := bind_some hM
    refine q_vi (As := [.long t]) (rest := []) ⟨hx, hb, hml, hown, hts⟩ (k_X6_enter l D g m_h e_h m_ce e_ce m_co e_co m_cr e_cr hz25) (cwV 1 hts gX8_put_X6_enter rfl rfl rfl (by decide +kernel) ⟨Nat.le_of_ble_eq_true rfl, Nat.le_of_ble_eq_true rfl⟩) S m_h e_h (T := TX6) (N := 7) rfl rfl hl.1 rfl (Nat.le_of_ble_eq_true rfl) dX8_put_25 ⟨Nat.le_of_ble_eq_true rfl, Nat.le_of_ble_eq_true rfl⟩ (fun r9 L7 f8 H locs S w25 => ?_)
    obtain ⟨ex25, eL, fv25, E_ce, E_co, E_cr⟩ := w25
    rw [eL] at S
    have fr : ∀ b, b ∈ L → b ≠ ce → b ≠ co → b ≠ cr → f8 b = f b := fun b mb nb0 nb1 nb2 => (fv25 b mb nb0 nb1 nb2).trans (fr b mb nb0 nb1 nb2)
    have e_ce : f8 ce = .inl (g 0, 4096, .inl z25.2.1) := E_ce
    have e_co : f8 co = .inr (0, [.ref cr, .int z25.2.2.1]) := E_co
    have e_cr : f8 cr = .inl (g 1, 1000, .inr (.inl z25.2.2.2)) := E_cr
    replace ex25 := ex25.symm
    subst ex25
    refine lv_goto (tgt := 33) hx hb dX8_put_28 (by decide) ?_
    subst hQQ
    exact q_reti (post := fun x L1 f1 => x = z.1 ∧ L1 = L ∧ (∀ b, b ∈ L → b ≠ ce → b ≠ co → b ≠ cr → f1 b = f b) ∧ f1 ce = .inl (g 0, 4096, .inl z.2.1) ∧ f1 co = .inr (0, [.ref cr, .int z.2.2.1]) ∧ f1 cr = .inl (g 1, 1000, .inr (.inl z.2.2.2))) hx hb hr hlk S dX8_put_33 (by decide) (by decide) (by have hz := Option.some.inj hM; subst hz; exact ⟨rfl, rfl, fr, e_ce, e_co, e_cr⟩)

def mX8_putN  : Option (Int32) := some (-1 : Int32)
set_option maxHeartbeats 4000000 in
set_option maxRecDepth 100000 in
theorem k_X8_putN (l : Launch) (D : va_G) (g : Nat → ClassId) {L : List Nat} {f : Nat → va_E} {Sl ch dr ri so th wo xb : Nat} {md : Int32} {sf : Nat → Option Nat} {sq : Int32} {t : Int64} {z : Int32} (m_xb : xb ∈ L) (e_xb : f xb = .inr (6, [.ref wo, .ref Sl, .ref dr, .ref ri, .ref th, .ref so, .ref ch, .int md])) (m_Sl : Sl ∈ L) (e_Sl : f Sl = .inl (g 5, 30, .inr (.inr (.inr (.inr sf)))))   (hs2 : mX8_sieveAt md sf sq = some none) (hM : mX8_putN = some z) : cI l yX8_put wsX8_put { frames := 1, cells := 0, slots := 0, locals := 21 } D g [.ref xb, .int sq, .long t] L f 0 0 (fun x L1 f1 => x = z ∧ L1 = L ∧ f1 = f) := by
  refine cI_of (cc := cX8_put) (maxL := 5) (ret := (some .int)) (by decide) rfl (Nat.le_of_ble_eq_true rfl) ?_
  intro szz p e s m below meth c hx hb hr hml hts hown hlk hnm S ls hl
  have hl : lv_has ls 5 [(0, .ref xb), (1, .int sq), (2, .long t)] := hl
  unfold mX8_putN at hM
  refine W_gen (fun QQ hQQ => ?_)
  refine lv_aload_n hx hb dX8_put_0 rfl (lv_at hl 0 rfl) ?_
  refine lv_iload_n hx hb dX8_put_1 rfl (lv_at hl 1 rfl) ?_
  refine q_vq (As := [.int sq]) (rest := []) ⟨hx, hb, hml, hown, hts⟩ (k_X8_sieveAt l D g m_xb e_xb m_Sl e_Sl hs2) (cwV 1 hts gX8_put_X8_sieveAt rfl rfl rfl (by decide +kernel) ⟨Nat.le_of_ble_eq_true rfl, Nat.le_of_ble_eq_true rfl⟩) S m_xb e_xb (T := TX8) (N := 8) rfl rfl hl.1 rfl (Nat.le_of_ble_eq_true rfl) dX8_put_2 ⟨Nat.le_of_ble_eq_true rfl, Nat.le_of_ble_eq_true rfl⟩ (fun r3 L1 f2 H locs S w2 => ?_)
  obtain ⟨ex, eL, ef⟩ := w2
  rw [eL, ef] at S
  replace ex := ex.symm
  subst ex
  refine W.eq (g2 := F0 m 5 ls [.null]) rfl ?_
  refine lv_astoreN (lv' := [(4, .null), (0, .ref xb), (1, .int sq), (2, .long t)]) hx hb dX8_put_5 hl (by decide) rfl (fun ls hl => ?_)
  refine lv_aloadN hx hb dX8_put_7 (lv_at hl 0 rfl) ?_
  refine lv_ifnonnullN hx hb dX8_put_9 ?_
  refine lv_iconst (v := (-1 : Int32)) hx hb dX8_put_12 (by decide) ?_
  subst hQQ
  exact q_reti (post := fun x L1 f1 => x = z ∧ L1 = L ∧ f1 = f) hx hb hr hlk S dX8_put_13 (by decide) (by decide) (by have hz := Option.some.inj hM; subst hz; exact ⟨rfl, rfl, rfl⟩)

def mX8_drop (t : Int64) (kd : Int32) (sz : Int32) (mk : Int32) (sd : Int32) (kc : Nat → Int32) (n : Int32) (v : Nat → Int64) : Option (Int32 × (Nat → Int32) × Int32 × (Nat → Int64)) := if kd = (1 : Int32) then ((mX6_passesG kd sz mk sd kc t).bind fun z38 => if z38 = 0 then (some ((-5 : Int32), kc, n, v)) else ((mX6_leave kd sz mk sd kc n v t).bind fun z50 => (mX0_count z50.2.1).bind fun z58 => some (z58, z50.1, z50.2.1, z50.2.2))) else (if kd = (2 : Int32) then ((mX6_passesG kd sz mk sd kc t).bind fun z38 => if z38 = 0 then (some ((-5 : Int32), kc, n, v)) else ((mX6_leave kd sz mk sd kc n v t).bind fun z50 => (mX0_count z50.2.1).bind fun z58 => some (z58, z50.1, z50.2.1, z50.2.2))) else (some ((-2 : Int32), kc, n, v)))
set_option maxHeartbeats 4000000 in
set_option maxRecDepth 100000 in
theorem k_X8_drop (l : Launch) (D : va_G) (g : Nat → ClassId) {L : List Nat} {f : Nat → va_E} {Sl ce ch co cr dr h ri so th wo xb : Nat} {md : Int32} {sf : Nat → Option Nat} {sq : Int32} {t : Int64} {lay : Value} {kd : Int32} {sz : Int32} {mk : Int32} {sd : Int32} {kc : Nat → Int32} {n : Int32} {v : Nat → Int64} {z : Int32 × (Nat → Int32) × Int32 × (Nat → Int64)} (m_xb : xb ∈ L) (e_xb : f xb = .inr (6, [.ref wo, .ref Sl, .ref dr, .ref ri, .ref th, .ref so, .ref ch, .int md])) (m_Sl : Sl ∈ L) (e_Sl : f Sl = .inl (g 5, 30, .inr (.inr (.inr (.inr sf))))) (m_h : h ∈ L) (e_h : f h = .inr (4, [.ref ce, .ref co, lay, .int kd, .int sz, .int mk, .int sd])) (m_ce : ce ∈ L) (e_ce : f ce = .inl (g 0, 4096, .inl kc)) (m_co : co ∈ L) (e_co : f co = .inr (0, [.ref cr, .int n])) (m_cr : cr ∈ L) (e_cr : f cr = .inl (g 1, 1000, .inr (.inl v)))   (hs2 : mX8_sieveAt md sf sq = some (some h)) (hM : mX8_drop t kd sz mk sd kc n v = some z) : cI l yX8_drop wsX8_drop { frames := 5, cells := 0, slots := 0, locals := 115 } D g [.ref xb, .int sq, .long t] L f 0 0 (fun x L1 f1 => x = z.1 ∧ L1 = L ∧ (∀ b, b ∈ L → b ≠ ce → b ≠ co → b ≠ cr → f1 b = f b) ∧ f1 ce = .inl (g 0, 4096, .inl z.2.1) ∧ f1 co = .inr (0, [.ref cr, .int z.2.2.1]) ∧ f1 cr = .inl (g 1, 1000, .inr (.inl z.2.2.2))) := by
  refine cI_of (cc := cX8_drop) (maxL := 5) (ret := (some .int)) (by decide) rfl (Nat.le_of_ble_eq_true rfl) ?_
  intro szz p e s m below meth c hx hb hr hml hts hown hlk hnm S ls hl
  have hl : lv_has ls 5 [(0, .ref xb), (1, .int sq), (2, .long t)] := hl
  have in_X6 : ∀ w ∈ wsX60, w ∈ wsX8_drop := gu_wsX8_drop_7
  have n_h_ce : h ≠ ce := ne_ir e_ce e_h
  have n_h_co : h ≠ co := ne_rr e_co e_h (by decide)
  have n_h_cr : h ≠ cr := ne_ir e_cr e_h
  have fr : ∀ b, b ∈ L → b ≠ ce → b ≠ co → b ≠ cr → f b = f b := fun _ _ _ _ _ => rfl
  unfold mX8_drop at hM
  refine W_gen (fun QQ hQQ => ?_)
  refine lv_aload_n hx hb dX8_drop_0 rfl (lv_at hl 0 rfl) ?_
  refine lv_iload_n hx hb dX8_drop_1 rfl (lv_at hl 1 rfl) ?_
  refine q_vq (As := [.int sq]) (rest := []) ⟨hx, hb, hml, hown, hts⟩ (k_X8_sieveAt l D g m_xb e_xb m_Sl e_Sl hs2) (cwV 1 hts gX8_drop_X8_sieveAt rfl rfl rfl (by decide +kernel) ⟨Nat.le_of_ble_eq_true rfl, Nat.le_of_ble_eq_true rfl⟩) S m_xb e_xb (T := TX8) (N := 8) rfl rfl hl.1 rfl (Nat.le_of_ble_eq_true rfl) dX8_drop_2 ⟨Nat.le_of_ble_eq_true rfl, Nat.le_of_ble_eq_true rfl⟩ (fun r3 L1 f2 H locs S w2 => ?_)
  obtain ⟨ex, eL, ef⟩ := w2
  rw [eL, ef] at S
  replace ex := ex.symm
  subst ex
  refine W.eq (g2 := F0 m 5 ls [.ref h]) rfl ?_
  refine lv_astore (lv' := [(4, .ref h), (0, .ref xb), (1, .int sq), (2, .long t)]) hx hb dX8_drop_5 hl (by decide) rfl (fun ls hl => ?_)
  refine lv_aload hx hb dX8_drop_7 (lv_at hl 0 rfl) ?_
  refine lv_ifnonnull (tgt := 14) hx hb dX8_drop_9 (by decide) ?_
  refine lv_aload hx hb dX8_drop_14 (lv_at hl 0 rfl) ?_
  refine q_getN hx hb hts in_X6 hown S m_h e_h (C := RX6) (T := TX6) (N := 7) rfl 3 (by decide) rfl (by decide) dX8_drop_16 ?_
  refine lv_iconst (v := (1 : Int32)) hx hb dX8_drop_19 (by decide) ?_
  refine lv_icmp_eq (tgt := 35) hx hb dX8_drop_20 (by decide) (fun b20 => ?_) (fun b20 => ?_)
  · have hM := itT b20 hM
    refine lv_aload hx hb dX8_drop_35 (lv_at hl 0 rfl) ?_
    refine lv_lload_n hx hb dX8_drop_37 rfl (lv_at hl 3 rfl) ?_
    obtain ⟨z38, hz38, hM⟩ := bind_some hM
    refine q_vi (As := [.long t]) (rest := []) ⟨hx, hb, hml, hown, hts⟩ (k_X6_passesG l D g m_h e_h m_ce e_ce hz38) (cwV 1 hts gX8_drop_X6_passes rfl rfl rfl (by decide +kernel) ⟨Nat.le_of_ble_eq_true rfl, Nat.le_of_ble_eq_true rfl⟩) S m_h e_h (T := TX6) (N := 7) rfl rfl hl.1 rfl (Nat.le_of_ble_eq_true rfl) dX8_drop_38 ⟨Nat.le_of_ble_eq_true rfl, Nat.le_of_ble_eq_true rfl⟩ (fun r6 L4 f5 H locs S w38 => ?_)
    obtain ⟨ex38, eL, ef⟩ := w38
    rw [eL, ef] at S
    replace ex38 := ex38.symm
    subst ex38
    refine lv_if_ne (tgt := 47) hx hb dX8_drop_41 (by decide) (fun b41 => ?_) (fun b41 => ?_)
    · have hM := itF b41 hM
      refine lv_aload hx hb dX8_drop_47 (lv_at hl 0 rfl) ?_
      refine lv_lload_n hx hb dX8_drop_49 rfl (lv_at hl 3 rfl) ?_
      obtain ⟨z50, hz50, hM⟩ := bind_some hM
      refine q_vv (As := [.long t]) (rest := []) ⟨hx, hb, hml, hown, hts⟩ (k_X6_leave l D g m_h e_h m_ce e_ce m_co e_co m_cr e_cr hz50) (cwV 1 hts gX8_drop_X6_leave rfl rfl rfl (by decide +kernel) ⟨Nat.le_of_ble_eq_true rfl, Nat.le_of_ble_eq_true rfl⟩) S m_h e_h (T := TX6) (N := 7) rfl rfl hl.1 rfl (Nat.le_of_ble_eq_true rfl) dX8_drop_50 ⟨Nat.le_of_ble_eq_true rfl, Nat.le_of_ble_eq_true rfl⟩ (fun L7 f8 H locs S w50 => ?_)
      obtain ⟨eL, fv50, E_ce, E_co, E_cr⟩ := w50
      rw [eL] at S
      have fr : ∀ b, b ∈ L → b ≠ ce → b ≠ co → b ≠ cr → f8 b = f b := fun b mb nb0 nb1 nb2 => (fv50 b mb nb0 nb1 nb2).trans (fr b mb nb0 nb1 nb2)
      have e_ce : f8 ce = .inl (g 0, 4096, .inl z50.1) := E_ce
      have e_co : f8 co = .inr (0, [.ref cr, .int z50.2.1]) := E_co
      have e_cr : f8 cr = .inl (g 1, 1000, .inr (.inl z50.2.2)) := E_cr
      refine lv_aload hx hb dX8_drop_53 (lv_at hl 0 rfl) ?_
      have e_h := ((fv50 h m_h n_h_ce n_h_co n_h_cr).trans e_h)
      refine q_getN hx hb hts in_X6 hown S m_h e_h (C := RX6) (T := TX6) (N := 7) rfl 1 (by decide) rfl (by decide) dX8_drop_55 ?_
      obtain ⟨z58, hz58, hM⟩ := bind_some hM
      refine q_vi (As := []) (rest := []) ⟨hx, hb, hml, hown, hts⟩ (k_X0_count l D g m_co e_co hz58) (cwV 0 hts gX8_drop_X0_count rfl rfl rfl (by decide +kernel) ⟨Nat.le_of_ble_eq_true rfl, Nat.le_of_ble_eq_true rfl⟩) S m_co e_co (T := TX0) (N := 2) rfl rfl hl.1 rfl (Nat.le_of_ble_eq_true rfl) dX8_drop_58 ⟨Nat.le_of_ble_eq_true rfl, Nat.le_of_ble_eq_true rfl⟩ (fun r12 L10 f11 H locs S w58 => ?_)
      obtain ⟨ex58, eL, ef⟩ := w58
      rw [eL, ef] at S
      replace ex58 := ex58.symm
      subst ex58
      subst hQQ
      exact q_reti (post := fun x L1 f1 => x = z.1 ∧ L1 = L ∧ (∀ b, b ∈ L → b ≠ ce → b ≠ co → b ≠ cr → f1 b = f b) ∧ f1 ce = .inl (g 0, 4096, .inl z.2.1) ∧ f1 co = .inr (0, [.ref cr, .int z.2.2.1]) ∧ f1 cr = .inl (g 1, 1000, .inr (.inl z.2.2.2))) hx hb hr hlk S dX8_drop_61 (by decide) (by decide) (by have hz := Option.some.inj hM; subst hz; exact ⟨rfl, rfl, fr, e_ce, e_co, e_cr⟩)
    · have hM := itT b41 hM
      refine lv_bipush (v := (-5 : Int32)) hx hb dX8_drop_44 (by decide) ?_
      subst hQQ
      exact q_reti (post := fun x L1 f1 => x = z.1 ∧ L1 = L ∧ (∀ b, b ∈ L → b ≠ ce → b ≠ co → b ≠ cr → f1 b = f b) ∧ f1 ce = .inl (g 0, 4096, .inl z.2.1) ∧ f1 co = .inr (0, [.ref cr, .int z.2.2.1]) ∧ f1 cr = .inl (g 1, 1000, .inr (.inl z.2.2.2))) hx hb hr hlk S dX8_drop_46 (by decide) (by decide) (by have hz := Option.some.inj hM; subst hz; exact ⟨rfl, rfl, fr, e_ce, e_co, e_cr⟩)
  · have hM := itF b20 hM
    refine lv_aload hx hb dX8_drop_23 (lv_at hl 0 rfl) ?_
    refine q_getN hx hb hts in_X6 hown S m_h e_h (C := RX6) (T := TX6) (N := 7) rfl 3 (by decide) rfl (by decide) dX8_drop_25 ?_
    refine lv_iconst (v := (2 : Int32)) hx hb dX8_drop_28 (by decide) ?_
    refine lv_icmp_eq (tgt := 35) hx hb dX8_drop_29 (by decide) (fun b29 => ?_) (fun b29 => ?_)
    · have hM := itT b29 hM
      refine lv_aload hx hb dX8_drop_35 (lv_at hl 0 rfl) ?_
      refine lv_lload_n hx hb dX8_drop_37 rfl (lv_at hl 3 rfl) ?_
      obtain ⟨z38, hz38, hM⟩ := bind_some hM
      refine q_vi (As := [.long t]) (rest := []) ⟨hx, hb, hml, hown, hts⟩ (k_X6_passesG l D g m_h e_h m_ce e_ce hz38) (cwV 1 hts gX8_drop_X6_passes rfl rfl rfl (by decide +kernel) ⟨Nat.le_of_ble_eq_true rfl, Nat.le_of_ble_eq_true rfl⟩) S m_h e_h (T := TX6) (N := 7) rfl rfl hl.1 rfl (Nat.le_of_ble_eq_true rfl) dX8_drop_38 ⟨Nat.le_of_ble_eq_true rfl, Nat.le_of_ble_eq_true rfl⟩ (fun r15 L13 f14 H locs S w38 => ?_)
      obtain ⟨ex38, eL, ef⟩ := w38
      rw [eL, ef] at S
      replace ex38 := ex38.symm
      subst ex38
      refine lv_if_ne (tgt := 47) hx hb dX8_drop_41 (by decide) (fun b41 => ?_) (fun b41 => ?_)
      · have hM := itF b41 hM
        refine lv_aload hx hb dX8_drop_47 (lv_at hl 0 rfl) ?_
        refine lv_lload_n hx hb dX8_drop_49 rfl (lv_at hl 3 rfl) ?_
        obtain ⟨z50, hz50, hM⟩ := bind_some hM
        refine q_vv (As := [.long t]) (rest := []) ⟨hx, hb, hml, hown, hts⟩ (k_X6_leave l D g m_h e_h m_ce e_ce m_co e_co m_cr e_cr hz50) (cwV 1 hts gX8_drop_X6_leave rfl rfl rfl (by decide +kernel) ⟨Nat.le_of_ble_eq_true rfl, Nat.le_of_ble_eq_true rfl⟩) S m_h e_h (T := TX6) (N := 7) rfl rfl hl.1 rfl (Nat.le_of_ble_eq_true rfl) dX8_drop_50 ⟨Nat.le_of_ble_eq_true rfl, Nat.le_of_ble_eq_true rfl⟩ (fun L16 f17 H locs S w50 => ?_)
        obtain ⟨eL, fv50, E_ce, E_co, E_cr⟩ := w50
        rw [eL] at S
        have fr : ∀ b, b ∈ L → b ≠ ce → b ≠ co → b ≠ cr → f17 b = f b := fun b mb nb0 nb1 nb2 => (fv50 b mb nb0 nb1 nb2).trans (fr b mb nb0 nb1 nb2)
        have e_ce : f17 ce = .inl (g 0, 4096, .inl z50.1) := E_ce
        have e_co : f17 co = .inr (0, [.ref cr, .int z50.2.1]) := E_co
        have e_cr : f17 cr = .inl (g 1, 1000, .inr (.inl z50.2.2)) := E_cr
        refine lv_aload hx hb dX8_drop_53 (lv_at hl 0 rfl) ?_
        have e_h := ((fv50 h m_h n_h_ce n_h_co n_h_cr).trans e_h)
        refine q_getN hx hb hts in_X6 hown S m_h e_h (C := RX6) (T := TX6) (N := 7) rfl 1 (by decide) rfl (by decide) dX8_drop_55 ?_
        obtain ⟨z58, hz58, hM⟩ := bind_some hM
        refine q_vi (As := []) (rest := []) ⟨hx, hb, hml, hown, hts⟩ (k_X0_count l D g m_co e_co hz58) (cwV 0 hts gX8_drop_X0_count rfl rfl rfl (by decide +kernel) ⟨Nat.le_of_ble_eq_true rfl, Nat.le_of_ble_eq_true rfl⟩) S m_co e_co (T := TX0) (N := 2) rfl rfl hl.1 rfl (Nat.le_of_ble_eq_true rfl) dX8_drop_58 ⟨Nat.le_of_ble_eq_true rfl, Nat.le_of_ble_eq_true rfl⟩ (fun r21 L19 f20 H locs S w58 => ?_)
        obtain ⟨ex58, eL, ef⟩ := w58
        rw [eL, ef] at S
        replace ex58 := ex58.symm
        subst ex58
        subst hQQ
        exact q_reti (post := fun x L1 f1 => x = z.1 ∧ L1 = L ∧ (∀ b, b ∈ L → b ≠ ce → b ≠ co → b ≠ cr → f1 b = f b) ∧ f1 ce = .inl (g 0, 4096, .inl z.2.1) ∧ f1 co = .inr (0, [.ref cr, .int z.2.2.1]) ∧ f1 cr = .inl (g 1, 1000, .inr (.inl z.2.2.2))) hx hb hr hlk S dX8_drop_61 (by decide) (by decide) (by have hz := Option.some.inj hM; subst hz; exact ⟨rfl, rfl, fr, e_ce, e_co, e_cr⟩)
      · have hM := itT b41 hM
        refine lv_bipush (v := (-5 : Int32)) hx hb dX8_drop_44 (by decide) ?_
        subst hQQ
        exact q_reti (post := fun x L1 f1 => x = z.1 ∧ L1 = L ∧ (∀ b, b ∈ L → b ≠ ce → b ≠ co → b ≠ cr → f1 b = f b) ∧ f1 ce = .inl (g 0, 4096, .inl z.2.1) ∧ f1 co = .inr (0, [.ref cr, .int z.2.2.1]) ∧ f1 cr = .inl (g 1, 1000, .inr (.inl z.2.2.2))) hx hb hr hlk S dX8_drop_46 (by decide) (by decide) (by have hz := Option.some.inj hM; subst hz; exact ⟨rfl, rfl, fr, e_ce, e_co, e_cr⟩)
    · have hM := itF b29 hM
      refine lv_bipush (v := (-2 : Int32)) hx hb dX8_drop_32 (by decide) ?_
      subst hQQ
      exact q_reti (post := fun x L1 f1 => x = z.1 ∧ L1 = L ∧ (∀ b, b ∈ L → b ≠ ce → b ≠ co → b ≠ cr → f1 b = f b) ∧ f1 ce = .inl (g 0, 4096, .inl z.2.1) ∧ f1 co = .inr (0, [.ref cr, .int z.2.2.1]) ∧ f1 cr = .inl (g 1, 1000, .inr (.inl z.2.2.2))) hx hb hr hlk S dX8_drop_34 (by decide) (by decide) (by have hz := Option.some.inj hM; subst hz; exact ⟨rfl, rfl, fr, e_ce, e_co, e_cr⟩)

def mX8_dropN  : Option (Int32) := some (-1 : Int32)
set_option maxHeartbeats 4000000 in
set_option maxRecDepth 100000 in
theorem k_X8_dropN (l : Launch) (D : va_G) (g : Nat → ClassId) {L : List Nat} {f : Nat → va_E} {Sl ch dr ri so th wo xb : Nat} {md : Int32} {sf : Nat → Option Nat} {sq : Int32} {t : Int64} {z : Int32} (m_xb : xb ∈ L) (e_xb : f xb = .inr (6, [.ref wo, .ref Sl, .ref dr, .ref ri, .ref th, .ref so, .ref ch, .int md])) (m_Sl : Sl ∈ L) (e_Sl : f Sl = .inl (g 5, 30, .inr (.inr (.inr (.inr sf)))))   (hs2 : mX8_sieveAt md sf sq = some none) (hM : mX8_dropN = some z) : cI l yX8_drop wsX8_drop { frames := 1, cells := 0, slots := 0, locals := 21 } D g [.ref xb, .int sq, .long t] L f 0 0 (fun x L1 f1 => x = z ∧ L1 = L ∧ f1 = f) := by
  refine cI_of (cc := cX8_drop) (maxL := 5) (ret := (some .int)) (by decide) rfl (Nat.le_of_ble_eq_true rfl) ?_
  intro szz p e s m below meth c hx hb hr hml hts hown hlk hnm S ls hl
  have hl : lv_has ls 5 [(0, .ref xb), (1, .int sq), (2, .long t)] := hl
  unfold mX8_dropN at hM
  refine W_gen (fun QQ hQQ => ?_)
  refine lv_aload_n hx hb dX8_drop_0 rfl (lv_at hl 0 rfl) ?_
  refine lv_iload_n hx hb dX8_drop_1 rfl (lv_at hl 1 rfl) ?_
  refine q_vq (As := [.int sq]) (rest := []) ⟨hx, hb, hml, hown, hts⟩ (k_X8_sieveAt l D g m_xb e_xb m_Sl e_Sl hs2) (cwV 1 hts gX8_drop_X8_sieveAt rfl rfl rfl (by decide +kernel) ⟨Nat.le_of_ble_eq_true rfl, Nat.le_of_ble_eq_true rfl⟩) S m_xb e_xb (T := TX8) (N := 8) rfl rfl hl.1 rfl (Nat.le_of_ble_eq_true rfl) dX8_drop_2 ⟨Nat.le_of_ble_eq_true rfl, Nat.le_of_ble_eq_true rfl⟩ (fun r3 L1 f2 H locs S w2 => ?_)
  obtain ⟨ex, eL, ef⟩ := w2
  rw [eL, ef] at S
  replace ex := ex.symm
  subst ex
  refine W.eq (g2 := F0 m 5 ls [.null]) rfl ?_
  refine lv_astoreN (lv' := [(4, .null), (0, .ref xb), (1, .int sq), (2, .long t)]) hx hb dX8_drop_5 hl (by decide) rfl (fun ls hl => ?_)
  refine lv_aloadN hx hb dX8_drop_7 (lv_at hl 0 rfl) ?_
  refine lv_ifnonnullN hx hb dX8_drop_9 ?_
  refine lv_iconst (v := (-1 : Int32)) hx hb dX8_drop_12 (by decide) ?_
  subst hQQ
  exact q_reti (post := fun x L1 f1 => x = z ∧ L1 = L ∧ f1 = f) hx hb hr hlk S dX8_drop_13 (by decide) (by decide) (by have hz := Option.some.inj hM; subst hz; exact ⟨rfl, rfl, rfl⟩)

def mX8_remove (md : Int32) : Option (Int32 × Int32) := if 0 < md then (some ((md - (1 : Int32)), (md - (1 : Int32)))) else (some ((-1 : Int32), md))
set_option maxRecDepth 20000 in
theorem gu_wsX8_remove_2 : ∀ w ∈ wsX80, w ∈ wsX8_remove := fun _ h => List.mem_cons_of_mem _ (List.mem_append_right _ h)
set_option maxRecDepth 20000 in
theorem gu_wsX8_remove_1 : ∀ w ∈ ([Cond.fieldLink RX8 84 "SieveCabinet" "made" "I"] : List Cond), w ∈ wsX8_remove := fun _ h => List.mem_cons_of_mem _ (List.mem_append_left _ h)
set_option maxHeartbeats 4000000 in
set_option maxRecDepth 100000 in
theorem k_X8_remove (l : Launch) (D : va_G) (g : Nat → ClassId) {L : List Nat} {f : Nat → va_E} {Sl ch dr ri so th wo xb : Nat} {md : Int32} {z : Int32 × Int32} (m_xb : xb ∈ L) (e_xb : f xb = .inr (6, [.ref wo, .ref Sl, .ref dr, .ref ri, .ref th, .ref so, .ref ch, .int md]))    (hM : mX8_remove md = some z) : cI l yX8_remove wsX8_remove { frames := 0, cells := 0, slots := 0, locals := 0 } D g [.ref xb] L f 0 0 (fun x L1 f1 => x = z.1 ∧ L1 = L ∧ (∀ b, b ∈ L → b ≠ xb → f1 b = f b) ∧ f1 xb = .inr (6, [.ref wo, .ref Sl, .ref dr, .ref ri, .ref th, .ref so, .ref ch, .int z.2])) := by
  refine cI_of (cc := cX8_remove) (maxL := 1) (ret := (some .int)) (by decide) rfl (Nat.le_of_ble_eq_true rfl) ?_
  intro szz p e s m below meth c hx hb hr hml hts hown hlk hnm S ls hl
  have hl : lv_has ls 1 [(0, .ref xb)] := hl
  have in_X8 : ∀ w ∈ wsX80, w ∈ wsX8_remove := gu_wsX8_remove_2
  have fr : ∀ b, b ∈ L → b ≠ xb → f b = f b := fun _ _ _ => rfl
  unfold mX8_remove at hM
  refine W_gen (fun QQ hQQ => ?_)
  refine lv_aload_n hx hb dX8_remove_0 rfl (lv_at hl 0 rfl) ?_
  refine q_get hx hb hts in_X8 hown S m_xb e_xb (C := RX8) (T := TX8) (N := 8) rfl 7 (by decide) rfl (hts (.fieldLink RX8 84 "SieveCabinet" "made" "I") (gu_wsX8_remove_1 _ gm_0)) dX8_remove_1 ?_
  refine lv_if_gt (tgt := 9) hx hb dX8_remove_4 (by decide) (fun b4 => ?_) (fun b4 => ?_)
  · have hM := itT b4 hM
    refine lv_aload_n hx hb dX8_remove_9 rfl (lv_at hl 0 rfl) ?_
    refine lv_dup hx hb dX8_remove_10 rfl ?_
    refine q_get hx hb hts in_X8 hown S m_xb e_xb (C := RX8) (T := TX8) (N := 8) rfl 7 (by decide) rfl (hts (.fieldLink RX8 84 "SieveCabinet" "made" "I") (gu_wsX8_remove_1 _ gm_0)) dX8_remove_11 ?_
    refine lv_iconst (v := (1 : Int32)) hx hb dX8_remove_14 (by decide) ?_
    refine lv_isub hx hb dX8_remove_15 ?_
    refine k_put hx hb hts in_X8 tyX8 tyX8_ok nmX8 hown S m_xb e_xb (C := RX8) (T := TX8) (N := 8) rfl 7 (by decide) (hts (.fieldLink RX8 84 "SieveCabinet" "made" "I") (gu_wsX8_remove_1 _ gm_0)) rfl rfl rfl (Nat.le_of_ble_eq_true rfl) dX8_remove_16 (fun f1 ef1 H locs S => ?_)
    have e_xb : f1 xb = .inr (6, [.ref wo, .ref Sl, .ref dr, .ref ri, .ref th, .ref so, .ref ch, .int (md - (1 : Int32))]) := up_self ef1
    have fr : ∀ b, b ∈ L → b ≠ xb → f1 b = f b := fun b mb nb0 => (up_ne ef1 nb0 rfl).trans (fr b mb nb0)
    refine lv_aload_n hx hb dX8_remove_19 rfl (lv_at hl 0 rfl) ?_
    refine q_get hx hb hts in_X8 hown S m_xb e_xb (C := RX8) (T := TX8) (N := 8) rfl 7 (by decide) rfl (hts (.fieldLink RX8 84 "SieveCabinet" "made" "I") (gu_wsX8_remove_1 _ gm_0)) dX8_remove_20 ?_
    subst hQQ
    exact q_reti (post := fun x L1 f1 => x = z.1 ∧ L1 = L ∧ (∀ b, b ∈ L → b ≠ xb → f1 b = f b) ∧ f1 xb = .inr (6, [.ref wo, .ref Sl, .ref dr, .ref ri, .ref th, .ref so, .ref ch, .int z.2])) hx hb hr hlk S dX8_remove_23 (by decide) (by decide) (by have hz := Option.some.inj hM; subst hz; exact ⟨rfl, rfl, fr, e_xb⟩)
  · have hM := itF b4 hM
    refine lv_iconst (v := (-1 : Int32)) hx hb dX8_remove_7 (by decide) ?_
    subst hQQ
    exact q_reti (post := fun x L1 f1 => x = z.1 ∧ L1 = L ∧ (∀ b, b ∈ L → b ≠ xb → f1 b = f b) ∧ f1 xb = .inr (6, [.ref wo, .ref Sl, .ref dr, .ref ri, .ref th, .ref so, .ref ch, .int z.2])) hx hb hr hlk S dX8_remove_8 (by decide) (by decide) (by have hz := Option.some.inj hM; subst hz; exact ⟨rfl, rfl, fr, e_xb⟩)

def mX8_sieves (md : Int32) : Option (Int32) := some md
set_option maxRecDepth 20000 in
theorem gu_wsX8_sieves_2 : ∀ w ∈ wsX80, w ∈ wsX8_sieves := fun _ h => List.mem_cons_of_mem _ (List.mem_append_right _ h)
set_option maxRecDepth 20000 in
theorem gu_wsX8_sieves_1 : ∀ w ∈ ([Cond.fieldLink RX8 84 "SieveCabinet" "made" "I"] : List Cond), w ∈ wsX8_sieves := fun _ h => List.mem_cons_of_mem _ (List.mem_append_left _ h)
set_option maxHeartbeats 4000000 in
set_option maxRecDepth 100000 in
theorem k_X8_sieves (l : Launch) (D : va_G) (g : Nat → ClassId) {L : List Nat} {f : Nat → va_E} {Sl ch dr ri so th wo xb : Nat} {md : Int32} {z : Int32} (m_xb : xb ∈ L) (e_xb : f xb = .inr (6, [.ref wo, .ref Sl, .ref dr, .ref ri, .ref th, .ref so, .ref ch, .int md]))    (hM : mX8_sieves md = some z) : cI l yX8_sieves wsX8_sieves { frames := 0, cells := 0, slots := 0, locals := 0 } D g [.ref xb] L f 0 0 (fun x L1 f1 => x = z ∧ L1 = L ∧ f1 = f) := by
  refine cI_of (cc := cX8_sieves) (maxL := 1) (ret := (some .int)) (by decide) rfl (Nat.le_of_ble_eq_true rfl) ?_
  intro szz p e s m below meth c hx hb hr hml hts hown hlk hnm S ls hl
  have hl : lv_has ls 1 [(0, .ref xb)] := hl
  have in_X8 : ∀ w ∈ wsX80, w ∈ wsX8_sieves := gu_wsX8_sieves_2
  unfold mX8_sieves at hM
  refine W_gen (fun QQ hQQ => ?_)
  refine lv_aload_n hx hb dX8_sieves_0 rfl (lv_at hl 0 rfl) ?_
  refine q_get hx hb hts in_X8 hown S m_xb e_xb (C := RX8) (T := TX8) (N := 8) rfl 7 (by decide) rfl (hts (.fieldLink RX8 84 "SieveCabinet" "made" "I") (gu_wsX8_sieves_1 _ gm_0)) dX8_sieves_1 ?_
  subst hQQ
  exact q_reti (post := fun x L1 f1 => x = z ∧ L1 = L ∧ f1 = f) hx hb hr hlk S dX8_sieves_4 (by decide) (by decide) (by have hz := Option.some.inj hM; subst hz; exact ⟨rfl, rfl, rfl⟩)

def mX8_cell (i : Int32) (kd : Int32) (sz : Int32) (kc : Nat → Int32) : Option (Int32) := if i < 0 then (some (-1 : Int32)) else ((mX6_places kd sz).bind fun z16 => if i < z16 then (if kd = (4 : Int32) then (some (-2 : Int32)) else ((mX6_cellAt kc i).bind fun z39 => some z39)) else (some (-1 : Int32)))
set_option maxHeartbeats 4000000 in
set_option maxRecDepth 100000 in
theorem k_X8_cell (l : Launch) (D : va_G) (g : Nat → ClassId) {L : List Nat} {f : Nat → va_E} {Sl ce ch co dr h ri so th wo xb : Nat} {md : Int32} {sf : Nat → Option Nat} {sq : Int32} {i : Int32} {lay : Value} {kd : Int32} {sz : Int32} {mk : Int32} {sd : Int32} {kc : Nat → Int32} {z : Int32} (m_xb : xb ∈ L) (e_xb : f xb = .inr (6, [.ref wo, .ref Sl, .ref dr, .ref ri, .ref th, .ref so, .ref ch, .int md])) (m_Sl : Sl ∈ L) (e_Sl : f Sl = .inl (g 5, 30, .inr (.inr (.inr (.inr sf))))) (m_h : h ∈ L) (e_h : f h = .inr (4, [.ref ce, .ref co, lay, .int kd, .int sz, .int mk, .int sd])) (m_ce : ce ∈ L) (e_ce : f ce = .inl (g 0, 4096, .inl kc))   (hs2 : mX8_sieveAt md sf sq = some (some h)) (hM : mX8_cell i kd sz kc = some z) : cI l yX8_cell wsX8_cell { frames := 1, cells := 0, slots := 0, locals := 21 } D g [.ref xb, .int sq, .int i] L f 0 0 (fun x L1 f1 => x = z ∧ L1 = L ∧ f1 = f) := by
  refine cI_of (cc := cX8_cell) (maxL := 4) (ret := (some .int)) (by decide) rfl (Nat.le_of_ble_eq_true rfl) ?_
  intro szz p e s m below meth c hx hb hr hml hts hown hlk hnm S ls hl
  have hl : lv_has ls 4 [(0, .ref xb), (1, .int sq), (2, .int i)] := hl
  have in_X6 : ∀ w ∈ wsX60, w ∈ wsX8_cell := gu_wsX8_cell_2
  unfold mX8_cell at hM
  refine W_gen (fun QQ hQQ => ?_)
  refine lv_aload_n hx hb dX8_cell_0 rfl (lv_at hl 0 rfl) ?_
  refine lv_iload_n hx hb dX8_cell_1 rfl (lv_at hl 1 rfl) ?_
  refine q_vq (As := [.int sq]) (rest := []) ⟨hx, hb, hml, hown, hts⟩ (k_X8_sieveAt l D g m_xb e_xb m_Sl e_Sl hs2) (cwV 1 hts gX8_cell_X8_sieveAt rfl rfl rfl (by decide +kernel) ⟨Nat.le_of_ble_eq_true rfl, Nat.le_of_ble_eq_true rfl⟩) S m_xb e_xb (T := TX8) (N := 8) rfl rfl hl.1 rfl (Nat.le_of_ble_eq_true rfl) dX8_cell_2 ⟨Nat.le_of_ble_eq_true rfl, Nat.le_of_ble_eq_true rfl⟩ (fun r3 L1 f2 H locs S w2 => ?_)
  obtain ⟨ex, eL, ef⟩ := w2
  rw [eL, ef] at S
  replace ex := ex.symm
  subst ex
  refine W.eq (g2 := F0 m 5 ls [.ref h]) rfl ?_
  refine lv_astore_n (lv' := [(3, .ref h), (0, .ref xb), (1, .int sq), (2, .int i)]) hx hb dX8_cell_5 rfl hl (by decide) rfl (fun ls hl => ?_)
  refine lv_aload_n hx hb dX8_cell_6 rfl (lv_at hl 0 rfl) ?_
  refine lv_ifnull hx hb dX8_cell_7 ?_
  refine lv_iload_n hx hb dX8_cell_10 rfl (lv_at hl 3 rfl) ?_
  refine lv_if_lt (tgt := 22) hx hb dX8_cell_11 (by decide) (fun b11 => ?_) (fun b11 => ?_)
  · have hM := itT b11 hM
    refine lv_iconst (v := (-1 : Int32)) hx hb dX8_cell_22 (by decide) ?_
    subst hQQ
    exact q_reti (post := fun x L1 f1 => x = z ∧ L1 = L ∧ f1 = f) hx hb hr hlk S dX8_cell_23 (by decide) (by decide) (by have hz := Option.some.inj hM; subst hz; exact ⟨rfl, rfl, rfl⟩)
  · have hM := itF b11 hM
    refine lv_iload_n hx hb dX8_cell_14 rfl (lv_at hl 3 rfl) ?_
    refine lv_aload_n hx hb dX8_cell_15 rfl (lv_at hl 0 rfl) ?_
    obtain ⟨z16, hz16, hM⟩ := bind_some hM
    refine q_vi (As := []) (rest := [.int i]) ⟨hx, hb, hml, hown, hts⟩ (k_X6_places l D g m_h e_h hz16) (cwV 0 hts gX8_cell_X6_places rfl rfl rfl (by decide +kernel) ⟨Nat.le_of_ble_eq_true rfl, Nat.le_of_ble_eq_true rfl⟩) S m_h e_h (T := TX6) (N := 7) rfl rfl hl.1 rfl (Nat.le_of_ble_eq_true rfl) dX8_cell_16 ⟨Nat.le_of_ble_eq_true rfl, Nat.le_of_ble_eq_true rfl⟩ (fun r6 L4 f5 H locs S w16 => ?_)
    obtain ⟨ex16, eL, ef⟩ := w16
    rw [eL, ef] at S
    replace ex16 := ex16.symm
    subst ex16
    refine lv_icmp_lt (tgt := 24) hx hb dX8_cell_19 (by decide) (fun b19 => ?_) (fun b19 => ?_)
    · have hM := itT b19 hM
      refine lv_aload_n hx hb dX8_cell_24 rfl (lv_at hl 0 rfl) ?_
      refine q_getN hx hb hts in_X6 hown S m_h e_h (C := RX6) (T := TX6) (N := 7) rfl 3 (by decide) rfl (by decide) dX8_cell_25 ?_
      refine lv_iconst (v := (4 : Int32)) hx hb dX8_cell_28 (by decide) ?_
      refine lv_icmp_ne (tgt := 37) hx hb dX8_cell_29 (by decide) (fun b29 => ?_) (fun b29 => ?_)
      · have hM := itF b29 hM
        refine lv_aload_n hx hb dX8_cell_37 rfl (lv_at hl 0 rfl) ?_
        refine lv_iload_n hx hb dX8_cell_38 rfl (lv_at hl 3 rfl) ?_
        obtain ⟨z39, hz39, hM⟩ := bind_some hM
        refine q_vi (As := [.int i]) (rest := []) ⟨hx, hb, hml, hown, hts⟩ (k_X6_cellAt l D g m_h e_h m_ce e_ce hz39) (cwV 1 hts gX8_cell_X6_cellAt rfl rfl rfl (by decide +kernel) ⟨Nat.le_of_ble_eq_true rfl, Nat.le_of_ble_eq_true rfl⟩) S m_h e_h (T := TX6) (N := 7) rfl rfl hl.1 rfl (Nat.le_of_ble_eq_true rfl) dX8_cell_39 ⟨Nat.le_of_ble_eq_true rfl, Nat.le_of_ble_eq_true rfl⟩ (fun r9 L7 f8 H locs S w39 => ?_)
        obtain ⟨ex39, eL, ef⟩ := w39
        rw [eL, ef] at S
        replace ex39 := ex39.symm
        subst ex39
        subst hQQ
        exact q_reti (post := fun x L1 f1 => x = z ∧ L1 = L ∧ f1 = f) hx hb hr hlk S dX8_cell_42 (by decide) (by decide) (by have hz := Option.some.inj hM; subst hz; exact ⟨rfl, rfl, rfl⟩)
      · have hM := itT b29 hM
        refine lv_bipush (v := (-2 : Int32)) hx hb dX8_cell_32 (by decide) ?_
        refine lv_goto (tgt := 42) hx hb dX8_cell_34 (by decide) ?_
        subst hQQ
        exact q_reti (post := fun x L1 f1 => x = z ∧ L1 = L ∧ f1 = f) hx hb hr hlk S dX8_cell_42 (by decide) (by decide) (by have hz := Option.some.inj hM; subst hz; exact ⟨rfl, rfl, rfl⟩)
    · have hM := itF b19 hM
      refine lv_iconst (v := (-1 : Int32)) hx hb dX8_cell_22 (by decide) ?_
      subst hQQ
      exact q_reti (post := fun x L1 f1 => x = z ∧ L1 = L ∧ f1 = f) hx hb hr hlk S dX8_cell_23 (by decide) (by decide) (by have hz := Option.some.inj hM; subst hz; exact ⟨rfl, rfl, rfl⟩)

def mX8_cellN  : Option (Int32) := some (-1 : Int32)
set_option maxHeartbeats 4000000 in
set_option maxRecDepth 100000 in
theorem k_X8_cellN (l : Launch) (D : va_G) (g : Nat → ClassId) {L : List Nat} {f : Nat → va_E} {Sl ch dr ri so th wo xb : Nat} {md : Int32} {sf : Nat → Option Nat} {sq : Int32} {i : Int32} {z : Int32} (m_xb : xb ∈ L) (e_xb : f xb = .inr (6, [.ref wo, .ref Sl, .ref dr, .ref ri, .ref th, .ref so, .ref ch, .int md])) (m_Sl : Sl ∈ L) (e_Sl : f Sl = .inl (g 5, 30, .inr (.inr (.inr (.inr sf)))))   (hs2 : mX8_sieveAt md sf sq = some none) (hM : mX8_cellN = some z) : cI l yX8_cell wsX8_cell { frames := 1, cells := 0, slots := 0, locals := 21 } D g [.ref xb, .int sq, .int i] L f 0 0 (fun x L1 f1 => x = z ∧ L1 = L ∧ f1 = f) := by
  refine cI_of (cc := cX8_cell) (maxL := 4) (ret := (some .int)) (by decide) rfl (Nat.le_of_ble_eq_true rfl) ?_
  intro szz p e s m below meth c hx hb hr hml hts hown hlk hnm S ls hl
  have hl : lv_has ls 4 [(0, .ref xb), (1, .int sq), (2, .int i)] := hl
  unfold mX8_cellN at hM
  refine W_gen (fun QQ hQQ => ?_)
  refine lv_aload_n hx hb dX8_cell_0 rfl (lv_at hl 0 rfl) ?_
  refine lv_iload_n hx hb dX8_cell_1 rfl (lv_at hl 1 rfl) ?_
  refine q_vq (As := [.int sq]) (rest := []) ⟨hx, hb, hml, hown, hts⟩ (k_X8_sieveAt l D g m_xb e_xb m_Sl e_Sl hs2) (cwV 1 hts gX8_cell_X8_sieveAt rfl rfl rfl (by decide +kernel) ⟨Nat.le_of_ble_eq_true rfl, Nat.le_of_ble_eq_true rfl⟩) S m_xb e_xb (T := TX8) (N := 8) rfl rfl hl.1 rfl (Nat.le_of_ble_eq_true rfl) dX8_cell_2 ⟨Nat.le_of_ble_eq_true rfl, Nat.le_of_ble_eq_true rfl⟩ (fun r3 L1 f2 H locs S w2 => ?_)
  obtain ⟨ex, eL, ef⟩ := w2
  rw [eL, ef] at S
  replace ex := ex.symm
  subst ex
  refine W.eq (g2 := F0 m 5 ls [.null]) rfl ?_
  refine lv_astore_nN (lv' := [(3, .null), (0, .ref xb), (1, .int sq), (2, .int i)]) hx hb dX8_cell_5 rfl hl (by decide) rfl (fun ls hl => ?_)
  refine lv_aload_nN hx hb dX8_cell_6 rfl (lv_at hl 0 rfl) ?_
  refine lv_ifnullN (tgt := 22) hx hb dX8_cell_7 (by decide) ?_
  refine lv_iconst (v := (-1 : Int32)) hx hb dX8_cell_22 (by decide) ?_
  subst hQQ
  exact q_reti (post := fun x L1 f1 => x = z ∧ L1 = L ∧ f1 = f) hx hb hr hlk S dX8_cell_23 (by decide) (by decide) (by have hz := Option.some.inj hM; subst hz; exact ⟨rfl, rfl, rfl⟩)

def mX8_mark (t : Int64) (j : Int32) (kd : Int32) (sz : Int32) (mk : Int32) (sd : Int32) : Option (Int32) := if kd = (4 : Int32) then (some (-2 : Int32)) else (if j < 0 then (some (-1 : Int32)) else ((mX6_spots kd mk).bind fun z35 => if j < z35 then ((mX6_spot kd sz sd t j).bind fun z50 => some z50) else (some (-1 : Int32))))
set_option maxHeartbeats 4000000 in
set_option maxRecDepth 100000 in
theorem k_X8_mark (l : Launch) (D : va_G) (g : Nat → ClassId) {L : List Nat} {f : Nat → va_E} {Sl ce ch co dr h ri so th wo xb : Nat} {md : Int32} {sf : Nat → Option Nat} {sq : Int32} {t : Int64} {j : Int32} {lay : Value} {kd : Int32} {sz : Int32} {mk : Int32} {sd : Int32} {z : Int32} (m_xb : xb ∈ L) (e_xb : f xb = .inr (6, [.ref wo, .ref Sl, .ref dr, .ref ri, .ref th, .ref so, .ref ch, .int md])) (m_Sl : Sl ∈ L) (e_Sl : f Sl = .inl (g 5, 30, .inr (.inr (.inr (.inr sf))))) (m_h : h ∈ L) (e_h : f h = .inr (4, [.ref ce, .ref co, lay, .int kd, .int sz, .int mk, .int sd]))   (hs2 : mX8_sieveAt md sf sq = some (some h)) (hM : mX8_mark t j kd sz mk sd = some z) : cI l yX8_mark wsX8_mark { frames := 4, cells := 0, slots := 0, locals := 92 } D g [.ref xb, .int sq, .long t, .int j] L f 0 0 (fun x L1 f1 => x = z ∧ L1 = L ∧ f1 = f) := by
  refine cI_of (cc := cX8_mark) (maxL := 6) (ret := (some .int)) (by decide) rfl (Nat.le_of_ble_eq_true rfl) ?_
  intro szz p e s m below meth c hx hb hr hml hts hown hlk hnm S ls hl
  have hl : lv_has ls 6 [(0, .ref xb), (1, .int sq), (2, .long t), (4, .int j)] := hl
  have in_X6 : ∀ w ∈ wsX60, w ∈ wsX8_mark := gu_wsX8_mark_4
  unfold mX8_mark at hM
  refine W_gen (fun QQ hQQ => ?_)
  refine lv_aload_n hx hb dX8_mark_0 rfl (lv_at hl 0 rfl) ?_
  refine lv_iload_n hx hb dX8_mark_1 rfl (lv_at hl 1 rfl) ?_
  refine q_vq (As := [.int sq]) (rest := []) ⟨hx, hb, hml, hown, hts⟩ (k_X8_sieveAt l D g m_xb e_xb m_Sl e_Sl hs2) (cwV 1 hts gX8_mark_X8_sieveAt rfl rfl rfl (by decide +kernel) ⟨Nat.le_of_ble_eq_true rfl, Nat.le_of_ble_eq_true rfl⟩) S m_xb e_xb (T := TX8) (N := 8) rfl rfl hl.1 rfl (Nat.le_of_ble_eq_true rfl) dX8_mark_2 ⟨Nat.le_of_ble_eq_true rfl, Nat.le_of_ble_eq_true rfl⟩ (fun r3 L1 f2 H locs S w2 => ?_)
  obtain ⟨ex, eL, ef⟩ := w2
  rw [eL, ef] at S
  replace ex := ex.symm
  subst ex
  refine W.eq (g2 := F0 m 5 ls [.ref h]) rfl ?_
  refine lv_astore (lv' := [(5, .ref h), (0, .ref xb), (1, .int sq), (2, .long t), (4, .int j)]) hx hb dX8_mark_5 hl (by decide) rfl (fun ls hl => ?_)
  refine lv_aload hx hb dX8_mark_7 (lv_at hl 0 rfl) ?_
  refine lv_ifnonnull (tgt := 14) hx hb dX8_mark_9 (by decide) ?_
  refine lv_aload hx hb dX8_mark_14 (lv_at hl 0 rfl) ?_
  refine q_getN hx hb hts in_X6 hown S m_h e_h (C := RX6) (T := TX6) (N := 7) rfl 3 (by decide) rfl (by decide) dX8_mark_16 ?_
  refine lv_iconst (v := (4 : Int32)) hx hb dX8_mark_19 (by decide) ?_
  refine lv_icmp_ne (tgt := 26) hx hb dX8_mark_20 (by decide) (fun b20 => ?_) (fun b20 => ?_)
  · have hM := itF b20 hM
    refine lv_iload hx hb dX8_mark_26 (lv_at hl 4 rfl) ?_
    refine lv_if_lt (tgt := 41) hx hb dX8_mark_28 (by decide) (fun b28 => ?_) (fun b28 => ?_)
    · have hM := itT b28 hM
      refine lv_iconst (v := (-1 : Int32)) hx hb dX8_mark_41 (by decide) ?_
      refine lv_goto (tgt := 53) hx hb dX8_mark_42 (by decide) ?_
      subst hQQ
      exact q_reti (post := fun x L1 f1 => x = z ∧ L1 = L ∧ f1 = f) hx hb hr hlk S dX8_mark_53 (by decide) (by decide) (by have hz := Option.some.inj hM; subst hz; exact ⟨rfl, rfl, rfl⟩)
    · have hM := itF b28 hM
      refine lv_iload hx hb dX8_mark_31 (lv_at hl 4 rfl) ?_
      refine lv_aload hx hb dX8_mark_33 (lv_at hl 0 rfl) ?_
      obtain ⟨z35, hz35, hM⟩ := bind_some hM
      refine q_vi (As := []) (rest := [.int j]) ⟨hx, hb, hml, hown, hts⟩ (k_X6_spots l D g m_h e_h hz35) (cwV 0 hts gX8_mark_X6_spots rfl rfl rfl (by decide +kernel) ⟨Nat.le_of_ble_eq_true rfl, Nat.le_of_ble_eq_true rfl⟩) S m_h e_h (T := TX6) (N := 7) rfl rfl hl.1 rfl (Nat.le_of_ble_eq_true rfl) dX8_mark_35 ⟨Nat.le_of_ble_eq_true rfl, Nat.le_of_ble_eq_true rfl⟩ (fun r6 L4 f5 H locs S w35 => ?_)
      obtain ⟨ex35, eL, ef⟩ := w35
      rw [eL, ef] at S
      replace ex35 := ex35.symm
      subst ex35
      refine lv_icmp_lt (tgt := 45) hx hb dX8_mark_38 (by decide) (fun b38 => ?_) (fun b38 => ?_)
      · have hM := itT b38 hM
        refine lv_aload hx hb dX8_mark_45 (lv_at hl 0 rfl) ?_
        refine lv_lload_n hx hb dX8_mark_47 rfl (lv_at hl 3 rfl) ?_
        refine lv_iload hx hb dX8_mark_48 (lv_at hl 4 rfl) ?_
        obtain ⟨z50, hz50, hM⟩ := bind_some hM
        refine q_vi (As := [.long t, .int j]) (rest := []) ⟨hx, hb, hml, hown, hts⟩ (k_X6_spot l D g m_h e_h hz50) (cwV 2 hts gX8_mark_X6_spot rfl rfl rfl (by decide +kernel) ⟨Nat.le_of_ble_eq_true rfl, Nat.le_of_ble_eq_true rfl⟩) S m_h e_h (T := TX6) (N := 7) rfl rfl hl.1 rfl (Nat.le_of_ble_eq_true rfl) dX8_mark_50 ⟨Nat.le_of_ble_eq_true rfl, Nat.le_of_ble_eq_true rfl⟩ (fun r9 L7 f8 H locs S w50 => ?_)
        obtain ⟨ex50, eL, ef⟩ := w50
        rw [eL, ef] at S
        replace ex50 := ex50.symm
        subst ex50
        subst hQQ
        exact q_reti (post := fun x L1 f1 => x = z ∧ L1 = L ∧ f1 = f) hx hb hr hlk S dX8_mark_53 (by decide) (by decide) (by have hz := Option.some.inj hM; subst hz; exact ⟨rfl, rfl, rfl⟩)
      · have hM := itF b38 hM
        refine lv_iconst (v := (-1 : Int32)) hx hb dX8_mark_41 (by decide) ?_
        refine lv_goto (tgt := 53) hx hb dX8_mark_42 (by decide) ?_
        subst hQQ
        exact q_reti (post := fun x L1 f1 => x = z ∧ L1 = L ∧ f1 = f) hx hb hr hlk S dX8_mark_53 (by decide) (by decide) (by have hz := Option.some.inj hM; subst hz; exact ⟨rfl, rfl, rfl⟩)
  · have hM := itT b20 hM
    refine lv_bipush (v := (-2 : Int32)) hx hb dX8_mark_23 (by decide) ?_
    subst hQQ
    exact q_reti (post := fun x L1 f1 => x = z ∧ L1 = L ∧ f1 = f) hx hb hr hlk S dX8_mark_25 (by decide) (by decide) (by have hz := Option.some.inj hM; subst hz; exact ⟨rfl, rfl, rfl⟩)

def mX8_markN  : Option (Int32) := some (-1 : Int32)
set_option maxHeartbeats 4000000 in
set_option maxRecDepth 100000 in
theorem k_X8_markN (l : Launch) (D : va_G) (g : Nat → ClassId) {L : List Nat} {f : Nat → va_E} {Sl ch dr ri so th wo xb : Nat} {md : Int32} {sf : Nat → Option Nat} {sq : Int32} {t : Int64} {j : Int32} {z : Int32} (m_xb : xb ∈ L) (e_xb : f xb = .inr (6, [.ref wo, .ref Sl, .ref dr, .ref ri, .ref th, .ref so, .ref ch, .int md])) (m_Sl : Sl ∈ L) (e_Sl : f Sl = .inl (g 5, 30, .inr (.inr (.inr (.inr sf)))))   (hs2 : mX8_sieveAt md sf sq = some none) (hM : mX8_markN = some z) : cI l yX8_mark wsX8_mark { frames := 1, cells := 0, slots := 0, locals := 21 } D g [.ref xb, .int sq, .long t, .int j] L f 0 0 (fun x L1 f1 => x = z ∧ L1 = L ∧ f1 = f) := by
  refine cI_of (cc := cX8_mark) (maxL := 6) (ret := (some .int)) (by decide) rfl (Nat.le_of_ble_eq_true rfl) ?_
  intro szz p e s m below meth c hx hb hr hml hts hown hlk hnm S ls hl
  have hl : lv_has ls 6 [(0, .ref xb), (1, .int sq), (2, .long t), (4, .int j)] := hl
  unfold mX8_markN at hM
  refine W_gen (fun QQ hQQ => ?_)
  refine lv_aload_n hx hb dX8_mark_0 rfl (lv_at hl 0 rfl) ?_
  refine lv_iload_n hx hb dX8_mark_1 rfl (lv_at hl 1 rfl) ?_
  refine q_vq (As := [.int sq]) (rest := []) ⟨hx, hb, hml, hown, hts⟩ (k_X8_sieveAt l D g m_xb e_xb m_Sl e_Sl hs2) (cwV 1 hts gX8_mark_X8_sieveAt rfl rfl rfl (by decide +kernel) ⟨Nat.le_of_ble_eq_true rfl, Nat.le_of_ble_eq_true rfl⟩) S m_xb e_xb (T := TX8) (N := 8) rfl rfl hl.1 rfl (Nat.le_of_ble_eq_true rfl) dX8_mark_2 ⟨Nat.le_of_ble_eq_true rfl, Nat.le_of_ble_eq_true rfl⟩ (fun r3 L1 f2 H locs S w2 => ?_)
  obtain ⟨ex, eL, ef⟩ := w2
  rw [eL, ef] at S
  replace ex := ex.symm
  subst ex
  refine W.eq (g2 := F0 m 5 ls [.null]) rfl ?_
  refine lv_astoreN (lv' := [(5, .null), (0, .ref xb), (1, .int sq), (2, .long t), (4, .int j)]) hx hb dX8_mark_5 hl (by decide) rfl (fun ls hl => ?_)
  refine lv_aloadN hx hb dX8_mark_7 (lv_at hl 0 rfl) ?_
  refine lv_ifnonnullN hx hb dX8_mark_9 ?_
  refine lv_iconst (v := (-1 : Int32)) hx hb dX8_mark_12 (by decide) ?_
  subst hQQ
  exact q_reti (post := fun x L1 f1 => x = z ∧ L1 = L ∧ f1 = f) hx hb hr hlk S dX8_mark_13 (by decide) (by decide) (by have hz := Option.some.inj hM; subst hz; exact ⟨rfl, rfl, rfl⟩)

def mX8_letsG (t : Int64) (kd : Int32) (sz : Int32) (mk : Int32) (sd : Int32) (kc : Nat → Int32) : Option (Int32) := (mX6_passesG kd sz mk sd kc t).bind fun z17 => if z17 = 0 then (some (0 : Int32)) else (some (1 : Int32))
set_option maxHeartbeats 4000000 in
set_option maxRecDepth 100000 in
theorem k_X8_letsG (l : Launch) (D : va_G) (g : Nat → ClassId) {L : List Nat} {f : Nat → va_E} {Sl ce ch co dr h ri so th wo xb : Nat} {md : Int32} {sf : Nat → Option Nat} {sq : Int32} {t : Int64} {lay : Value} {kd : Int32} {sz : Int32} {mk : Int32} {sd : Int32} {kc : Nat → Int32} {z : Int32} (m_xb : xb ∈ L) (e_xb : f xb = .inr (6, [.ref wo, .ref Sl, .ref dr, .ref ri, .ref th, .ref so, .ref ch, .int md])) (m_Sl : Sl ∈ L) (e_Sl : f Sl = .inl (g 5, 30, .inr (.inr (.inr (.inr sf))))) (m_h : h ∈ L) (e_h : f h = .inr (4, [.ref ce, .ref co, lay, .int kd, .int sz, .int mk, .int sd])) (m_ce : ce ∈ L) (e_ce : f ce = .inl (g 0, 4096, .inl kc))   (hs2 : mX8_sieveAt md sf sq = some (some h)) (hM : mX8_letsG t kd sz mk sd kc = some z) : cI l yX8_lets wsX8_lets { frames := 5, cells := 0, slots := 0, locals := 115 } D g [.ref xb, .int sq, .long t] L f 0 0 (fun x L1 f1 => x = z ∧ L1 = L ∧ f1 = f) := by
  refine cI_of (cc := cX8_lets) (maxL := 5) (ret := (some .int)) (by decide) rfl (Nat.le_of_ble_eq_true rfl) ?_
  intro szz p e s m below meth c hx hb hr hml hts hown hlk hnm S ls hl
  have hl : lv_has ls 5 [(0, .ref xb), (1, .int sq), (2, .long t)] := hl
  unfold mX8_letsG at hM
  refine W_gen (fun QQ hQQ => ?_)
  refine lv_aload_n hx hb dX8_lets_0 rfl (lv_at hl 0 rfl) ?_
  refine lv_iload_n hx hb dX8_lets_1 rfl (lv_at hl 1 rfl) ?_
  refine q_vq (As := [.int sq]) (rest := []) ⟨hx, hb, hml, hown, hts⟩ (k_X8_sieveAt l D g m_xb e_xb m_Sl e_Sl hs2) (cwV 1 hts gX8_lets_X8_sieveAt rfl rfl rfl (by decide +kernel) ⟨Nat.le_of_ble_eq_true rfl, Nat.le_of_ble_eq_true rfl⟩) S m_xb e_xb (T := TX8) (N := 8) rfl rfl hl.1 rfl (Nat.le_of_ble_eq_true rfl) dX8_lets_2 ⟨Nat.le_of_ble_eq_true rfl, Nat.le_of_ble_eq_true rfl⟩ (fun r3 L1 f2 H locs S w2 => ?_)
  obtain ⟨ex, eL, ef⟩ := w2
  rw [eL, ef] at S
  replace ex := ex.symm
  subst ex
  refine W.eq (g2 := F0 m 5 ls [.ref h]) rfl ?_
  refine lv_astore (lv' := [(4, .ref h), (0, .ref xb), (1, .int sq), (2, .long t)]) hx hb dX8_lets_5 hl (by decide) rfl (fun ls hl => ?_)
  refine lv_aload hx hb dX8_lets_7 (lv_at hl 0 rfl) ?_
  refine lv_ifnonnull (tgt := 14) hx hb dX8_lets_9 (by decide) ?_
  refine lv_aload hx hb dX8_lets_14 (lv_at hl 0 rfl) ?_
  refine lv_lload_n hx hb dX8_lets_16 rfl (lv_at hl 3 rfl) ?_
  obtain ⟨z17, hz17, hM⟩ := bind_some hM
  refine q_vi (As := [.long t]) (rest := []) ⟨hx, hb, hml, hown, hts⟩ (k_X6_passesG l D g m_h e_h m_ce e_ce hz17) (cwV 1 hts gX8_lets_X6_passes rfl rfl rfl (by decide +kernel) ⟨Nat.le_of_ble_eq_true rfl, Nat.le_of_ble_eq_true rfl⟩) S m_h e_h (T := TX6) (N := 7) rfl rfl hl.1 rfl (Nat.le_of_ble_eq_true rfl) dX8_lets_17 ⟨Nat.le_of_ble_eq_true rfl, Nat.le_of_ble_eq_true rfl⟩ (fun r6 L4 f5 H locs S w17 => ?_)
  obtain ⟨ex17, eL, ef⟩ := w17
  rw [eL, ef] at S
  replace ex17 := ex17.symm
  subst ex17
  refine lv_if_eq (tgt := 27) hx hb dX8_lets_20 (by decide) (fun b20 => ?_) (fun b20 => ?_)
  · have hM := itT b20 hM
    refine lv_iconst (v := (0 : Int32)) hx hb dX8_lets_27 (by decide) ?_
    subst hQQ
    exact q_reti (post := fun x L1 f1 => x = z ∧ L1 = L ∧ f1 = f) hx hb hr hlk S dX8_lets_28 (by decide) (by decide) (by have hz := Option.some.inj hM; subst hz; exact ⟨rfl, rfl, rfl⟩)
  · have hM := itF b20 hM
    refine lv_iconst (v := (1 : Int32)) hx hb dX8_lets_23 (by decide) ?_
    refine lv_goto (tgt := 28) hx hb dX8_lets_24 (by decide) ?_
    subst hQQ
    exact q_reti (post := fun x L1 f1 => x = z ∧ L1 = L ∧ f1 = f) hx hb hr hlk S dX8_lets_28 (by decide) (by decide) (by have hz := Option.some.inj hM; subst hz; exact ⟨rfl, rfl, rfl⟩)

def mX8_missedG_L17 (kd : Int32) (sz : Int32) (mk : Int32) (sd : Int32) (kc : Nat → Int32) (n : Int32) (v : Nat → Int64) : Nat → Int32 → Int32 → Option (Int32 × Int32)
  | 0, _, _ => none
  | fu + 1, x4_17, x3_17 => (mX0_count n).bind fun z23 => if z23 ≤ x4_17 then (some (x4_17, x3_17)) else ((mX0_at n v x4_17).bind fun z36 => (mX6_passesG kd sz mk sd kc z36).bind fun z39 => if z39 = 0 then (mX8_missedG_L17 kd sz mk sd kc n v fu (x4_17 + 1) (x3_17 + 1)) else (mX8_missedG_L17 kd sz mk sd kc n v fu (x4_17 + 1) x3_17))
def mX8_missedG (kd : Int32) (sz : Int32) (mk : Int32) (sd : Int32) (kc : Nat → Int32) (n : Int32) (v : Nat → Int64) : Option (Int32) := (mX8_missedG_L17 kd sz mk sd kc n v FU (0 : Int32) (0 : Int32)).bind fun o17 => some o17.2
set_option maxHeartbeats 4000000 in
set_option maxRecDepth 100000 in
theorem k_X8_missedG (l : Launch) (D : va_G) (g : Nat → ClassId) {L : List Nat} {f : Nat → va_E} {Sl ce ch co cr dr h ri so th wo xb : Nat} {md : Int32} {sf : Nat → Option Nat} {sq : Int32} {lay : Value} {kd : Int32} {sz : Int32} {mk : Int32} {sd : Int32} {kc : Nat → Int32} {n : Int32} {v : Nat → Int64} {z : Int32} (m_xb : xb ∈ L) (e_xb : f xb = .inr (6, [.ref wo, .ref Sl, .ref dr, .ref ri, .ref th, .ref so, .ref ch, .int md])) (m_Sl : Sl ∈ L) (e_Sl : f Sl = .inl (g 5, 30, .inr (.inr (.inr (.inr sf))))) (m_h : h ∈ L) (e_h : f h = .inr (4, [.ref ce, .ref co, lay, .int kd, .int sz, .int mk, .int sd])) (m_ce : ce ∈ L) (e_ce : f ce = .inl (g 0, 4096, .inl kc)) (m_co : co ∈ L) (e_co : f co = .inr (0, [.ref cr, .int n])) (m_cr : cr ∈ L) (e_cr : f cr = .inl (g 1, 1000, .inr (.inl v)))   (hs2 : mX8_sieveAt md sf sq = some (some h)) (hM : mX8_missedG kd sz mk sd kc n v = some z) : cI l yX8_missed wsX8_missed { frames := 5, cells := 0, slots := 0, locals := 115 } D g [.ref xb, .int sq] L f 0 0 (fun x L1 f1 => x = z ∧ L1 = L ∧ f1 = f) := by
  refine cI_of (cc := cX8_missed) (maxL := 5) (ret := (some .int)) (by decide) rfl (Nat.le_of_ble_eq_true rfl) ?_
  intro szz p e s m below meth c hx hb hr hml hts hown hlk hnm S ls hl
  have hl : lv_has ls 5 [(0, .ref xb), (1, .int sq)] := hl
  have in_X6 : ∀ w ∈ wsX60, w ∈ wsX8_missed := gu_wsX8_missed_6
  unfold mX8_missedG at hM
  refine W_gen (fun QQ hQQ => ?_)
  refine lv_aload_n hx hb dX8_missed_0 rfl (lv_at hl 0 rfl) ?_
  refine lv_iload_n hx hb dX8_missed_1 rfl (lv_at hl 1 rfl) ?_
  refine q_vq (As := [.int sq]) (rest := []) ⟨hx, hb, hml, hown, hts⟩ (k_X8_sieveAt l D g m_xb e_xb m_Sl e_Sl hs2) (cwV 1 hts gX8_missed_X8_sieveAt rfl rfl rfl (by decide +kernel) ⟨Nat.le_of_ble_eq_true rfl, Nat.le_of_ble_eq_true rfl⟩) S m_xb e_xb (T := TX8) (N := 8) rfl rfl hl.1 rfl (Nat.le_of_ble_eq_true rfl) dX8_missed_2 ⟨Nat.le_of_ble_eq_true rfl, Nat.le_of_ble_eq_true rfl⟩ (fun r3 L1 f2 H locs S w2 => ?_)
  obtain ⟨ex, eL, ef⟩ := w2
  rw [eL, ef] at S
  replace ex := ex.symm
  subst ex
  refine W.eq (g2 := F0 m 5 ls [.ref h]) rfl ?_
  refine lv_astore_n (lv' := [(2, .ref h), (0, .ref xb), (1, .int sq)]) hx hb dX8_missed_5 rfl hl (by decide) rfl (fun ls hl => ?_)
  refine lv_aload_n hx hb dX8_missed_6 rfl (lv_at hl 0 rfl) ?_
  refine lv_ifnonnull (tgt := 12) hx hb dX8_missed_7 (by decide) ?_
  refine lv_iconst (v := (0 : Int32)) hx hb dX8_missed_12 (by decide) ?_
  refine lv_istore_n (lv' := [(3, .int (0 : Int32)), (2, .ref h), (0, .ref xb), (1, .int sq)]) hx hb dX8_missed_13 rfl hl (by decide) rfl (fun ls hl => ?_)
  refine lv_iconst (v := (0 : Int32)) hx hb dX8_missed_14 (by decide) ?_
  refine lv_istore (lv' := [(4, .int (0 : Int32)), (3, .int (0 : Int32)), (2, .ref h), (0, .ref xb), (1, .int sq)]) hx hb dX8_missed_15 hl (by decide) rfl (fun ls hl => ?_)
  obtain ⟨o17, ho17, hM⟩ := bind_some hM
  have EX17 : ∀ (H : Heap) (locs : List Loc) (ls : Array Slot), PS D g (va_A (va_pl L f) szz) s.heap s L f H locs → lv_has ls 5 [(3, .int o17.2)] → W p l e { frames := 5, cells := 0, slots := 0, locals := 115 } s m [.ref xb, .int sq].toArray below meth c H locs 0 0 QQ (F0 m 54 ls []) := by
    intro H locs ls S hl
    refine lv_iload_n hx hb dX8_missed_54 rfl (lv_at hl 0 rfl) ?_
    subst hQQ
    exact q_reti (post := fun x L1 f1 => x = z ∧ L1 = L ∧ f1 = f) hx hb hr hlk S dX8_missed_55 (by decide) (by decide) (by have hz := Option.some.inj hM; subst hz; exact ⟨rfl, rfl, rfl⟩)
  have LP17 : ∀ (fu : Nat) (x4_17 : Int32) (x3_17 : Int32) (H : Heap) (locs : List Loc) (ls : Array Slot), (mX8_missedG_L17 kd sz mk sd kc n v) fu x4_17 x3_17 = some o17 → PS D g (va_A (va_pl L f) szz) s.heap s L f H locs → lv_has ls 5 [(4, .int x4_17), (3, .int x3_17), (2, .ref h)] → W p l e { frames := 5, cells := 0, slots := 0, locals := 115 } s m [.ref xb, .int sq].toArray below meth c H locs 0 0 QQ (F0 m 17 ls []) := by
    intro fu
    induction fu with
    | zero => intro x4_17 x3_17 H locs ls ho17 S hl; exact no_some ho17
    | succ fu ih17 =>
      intro x4_17 x3_17 H locs ls ho17 S hl
      rw [mX8_missedG_L17] at ho17
      refine lv_iload hx hb dX8_missed_17 (lv_at hl 0 rfl) ?_
      refine lv_aload_n hx hb dX8_missed_19 rfl (lv_at hl 2 rfl) ?_
      refine q_getN hx hb hts in_X6 hown S m_h e_h (C := RX6) (T := TX6) (N := 7) rfl 1 (by decide) rfl (by decide) dX8_missed_20 ?_
      obtain ⟨z23, hz23, ho17⟩ := bind_some ho17
      refine q_vi (As := []) (rest := [.int x4_17]) ⟨hx, hb, hml, hown, hts⟩ (k_X0_count l D g m_co e_co hz23) (cwV 0 hts gX8_missed_X0_count rfl rfl rfl (by decide +kernel) ⟨Nat.le_of_ble_eq_true rfl, Nat.le_of_ble_eq_true rfl⟩) S m_co e_co (T := TX0) (N := 2) rfl rfl hl.1 rfl (Nat.le_of_ble_eq_true rfl) dX8_missed_23 ⟨Nat.le_of_ble_eq_true rfl, Nat.le_of_ble_eq_true rfl⟩ (fun r6 L4 f5 H locs S w23 => ?_)
      obtain ⟨ex23, eL, ef⟩ := w23
      rw [eL, ef] at S
      replace ex23 := ex23.symm
      subst ex23
      refine lv_icmp_ge (tgt := 54) hx hb dX8_missed_26 (by decide) (fun b26 => ?_) (fun b26 => ?_)
      · have ho17 := itT b26 ho17
        obtain rfl := Option.some.inj ho17
        exact EX17 _ _ _ S (lv_sub hl [1] rfl)
      · have ho17 := itF b26 ho17
        refine lv_aload_n hx hb dX8_missed_29 rfl (lv_at hl 2 rfl) ?_
        refine lv_aload_n hx hb dX8_missed_30 rfl (lv_at hl 2 rfl) ?_
        refine q_getN hx hb hts in_X6 hown S m_h e_h (C := RX6) (T := TX6) (N := 7) rfl 1 (by decide) rfl (by decide) dX8_missed_31 ?_
        refine lv_iload hx hb dX8_missed_34 (lv_at hl 0 rfl) ?_
        obtain ⟨z36, hz36, ho17⟩ := bind_some ho17
        refine q_vl (As := [.int x4_17]) (rest := [.ref h]) ⟨hx, hb, hml, hown, hts⟩ (k_X0_at l D g m_co e_co m_cr e_cr hz36) (cwV 1 hts gX8_missed_X0_at rfl rfl rfl (by decide +kernel) ⟨Nat.le_of_ble_eq_true rfl, Nat.le_of_ble_eq_true rfl⟩) S m_co e_co (T := TX0) (N := 2) rfl rfl hl.1 rfl (Nat.le_of_ble_eq_true rfl) dX8_missed_36 ⟨Nat.le_of_ble_eq_true rfl, Nat.le_of_ble_eq_true rfl⟩ (fun r9 L7 f8 H locs S w36 => ?_)
        obtain ⟨ex36, eL, ef⟩ := w36
        rw [eL, ef] at S
        replace ex36 := ex36.symm
        subst ex36
        obtain ⟨z39, hz39, ho17⟩ := bind_some ho17
        refine q_vi (As := [.long z36]) (rest := []) ⟨hx, hb, hml, hown, hts⟩ (k_X6_passesG l D g m_h e_h m_ce e_ce hz39) (cwV 1 hts gX8_missed_X6_passes rfl rfl rfl (by decide +kernel) ⟨Nat.le_of_ble_eq_true rfl, Nat.le_of_ble_eq_true rfl⟩) S m_h e_h (T := TX6) (N := 7) rfl rfl hl.1 rfl (Nat.le_of_ble_eq_true rfl) dX8_missed_39 ⟨Nat.le_of_ble_eq_true rfl, Nat.le_of_ble_eq_true rfl⟩ (fun r12 L10 f11 H locs S w39 => ?_)
        obtain ⟨ex39, eL, ef⟩ := w39
        rw [eL, ef] at S
        replace ex39 := ex39.symm
        subst ex39
        refine lv_if_ne (tgt := 48) hx hb dX8_missed_42 (by decide) (fun b42 => ?_) (fun b42 => ?_)
        · have ho17 := itF b42 ho17
          refine lv_iinc (v := (x4_17 + 1)) (lv' := [(4, .int (x4_17 + 1)), (3, .int x3_17), (2, .ref h)]) hx hb dX8_missed_48 hl (k := 0) rfl rfl (by decide) rfl (fun ls hl => ?_)
          refine lv_goto (tgt := 17) hx hb dX8_missed_51 (by decide) ?_
          exact ih17 (x4_17 + 1) x3_17 _ _ _ ho17 S (lv_sub hl [0, 1, 2] rfl)
        · have ho17 := itT b42 ho17
          refine lv_iinc (v := (x3_17 + 1)) (lv' := [(3, .int (x3_17 + 1)), (4, .int x4_17), (2, .ref h)]) hx hb dX8_missed_45 hl (k := 1) rfl rfl (by decide) rfl (fun ls hl => ?_)
          refine lv_iinc (v := (x4_17 + 1)) (lv' := [(4, .int (x4_17 + 1)), (3, .int (x3_17 + 1)), (2, .ref h)]) hx hb dX8_missed_48 hl (k := 1) rfl rfl (by decide) rfl (fun ls hl => ?_)
          refine lv_goto (tgt := 17) hx hb dX8_missed_51 (by decide) ?_
          exact ih17 (x4_17 + 1) (x3_17 + 1) _ _ _ ho17 S (lv_sub hl [0, 1, 2] rfl)
  exact LP17 FU (0 : Int32) (0 : Int32) _ _ _ ho17 S (lv_sub hl [0, 1, 2] rfl)

def mX8_aboutG (wh : Int32) (kd : Int32) (sz : Int32) (mk : Int32) (sd : Int32) (kc : Nat → Int32) (n : Int32) : Option (Int32) := if wh = (0 : Int32) then (some kd) else (if wh = (1 : Int32) then (some sz) else (if wh = (2 : Int32) then (some mk) else (if wh = (3 : Int32) then (some sd) else (if wh = (4 : Int32) then ((mX0_count n).bind fun z80 => some z80) else (if wh = (5 : Int32) then ((mX6_weightG kd sz).bind fun z85 => some z85) else (if wh = (6 : Int32) then ((mX6_filledG kd sz kc).bind fun z90 => some z90) else (some (-1 : Int32))))))))
set_option maxHeartbeats 4000000 in
set_option maxRecDepth 100000 in
theorem k_X8_aboutG (l : Launch) (D : va_G) (g : Nat → ClassId) {L : List Nat} {f : Nat → va_E} {Sl ce ch co cr dr h ri so th wo xb : Nat} {md : Int32} {sf : Nat → Option Nat} {sq : Int32} {wh : Int32} {lay : Value} {kd : Int32} {sz : Int32} {mk : Int32} {sd : Int32} {kc : Nat → Int32} {n : Int32} {z : Int32} (m_xb : xb ∈ L) (e_xb : f xb = .inr (6, [.ref wo, .ref Sl, .ref dr, .ref ri, .ref th, .ref so, .ref ch, .int md])) (m_Sl : Sl ∈ L) (e_Sl : f Sl = .inl (g 5, 30, .inr (.inr (.inr (.inr sf))))) (m_h : h ∈ L) (e_h : f h = .inr (4, [.ref ce, .ref co, lay, .int kd, .int sz, .int mk, .int sd])) (m_ce : ce ∈ L) (e_ce : f ce = .inl (g 0, 4096, .inl kc)) (m_co : co ∈ L) (e_co : f co = .inr (0, [.ref cr, .int n]))   (hs2 : mX8_sieveAt md sf sq = some (some h)) (hM : mX8_aboutG wh kd sz mk sd kc n = some z) : cI l yX8_about wsX8_about { frames := 2, cells := 0, slots := 0, locals := 43 } D g [.ref xb, .int sq, .int wh] L f 0 0 (fun x L1 f1 => x = z ∧ L1 = L ∧ f1 = f) := by
  refine cI_of (cc := cX8_about) (maxL := 4) (ret := (some .int)) (by decide) rfl (Nat.le_of_ble_eq_true rfl) ?_
  intro szz p e s m below meth c hx hb hr hml hts hown hlk hnm S ls hl
  have hl : lv_has ls 4 [(0, .ref xb), (1, .int sq), (2, .int wh)] := hl
  have in_X6 : ∀ w ∈ wsX60, w ∈ wsX8_about := gu_wsX8_about_4
  unfold mX8_aboutG at hM
  refine W_gen (fun QQ hQQ => ?_)
  refine lv_aload_n hx hb dX8_about_0 rfl (lv_at hl 0 rfl) ?_
  refine lv_iload_n hx hb dX8_about_1 rfl (lv_at hl 1 rfl) ?_
  refine q_vq (As := [.int sq]) (rest := []) ⟨hx, hb, hml, hown, hts⟩ (k_X8_sieveAt l D g m_xb e_xb m_Sl e_Sl hs2) (cwV 1 hts gX8_about_X8_sieveAt rfl rfl rfl (by decide +kernel) ⟨Nat.le_of_ble_eq_true rfl, Nat.le_of_ble_eq_true rfl⟩) S m_xb e_xb (T := TX8) (N := 8) rfl rfl hl.1 rfl (Nat.le_of_ble_eq_true rfl) dX8_about_2 ⟨Nat.le_of_ble_eq_true rfl, Nat.le_of_ble_eq_true rfl⟩ (fun r3 L1 f2 H locs S w2 => ?_)
  obtain ⟨ex, eL, ef⟩ := w2
  rw [eL, ef] at S
  replace ex := ex.symm
  subst ex
  refine W.eq (g2 := F0 m 5 ls [.ref h]) rfl ?_
  refine lv_astore_n (lv' := [(3, .ref h), (0, .ref xb), (1, .int sq), (2, .int wh)]) hx hb dX8_about_5 rfl hl (by decide) rfl (fun ls hl => ?_)
  refine lv_aload_n hx hb dX8_about_6 rfl (lv_at hl 0 rfl) ?_
  refine lv_ifnonnull (tgt := 12) hx hb dX8_about_7 (by decide) ?_
  refine lv_iload_n hx hb dX8_about_12 rfl (lv_at hl 3 rfl) ?_
  by_cases w13_0 : wh = (0 : Int32)
  · have hM := itT w13_0 hM
    refine lv_tableIn (off := 43) (tgt := 56) hx hb dX8_about_13 (by rw [w13_0]; decide) (by rw [w13_0]; decide) (by rw [w13_0]; rfl) (by decide) ?_
    refine lv_aload_n hx hb dX8_about_56 rfl (lv_at hl 0 rfl) ?_
    refine q_getN hx hb hts in_X6 hown S m_h e_h (C := RX6) (T := TX6) (N := 7) rfl 3 (by decide) rfl (by decide) dX8_about_57 ?_
    subst hQQ
    exact q_reti (post := fun x L1 f1 => x = z ∧ L1 = L ∧ f1 = f) hx hb hr hlk S dX8_about_60 (by decide) (by decide) (by have hz := Option.some.inj hM; subst hz; exact ⟨rfl, rfl, rfl⟩)
  have hM := itF w13_0 hM
  by_cases w13_1 : wh = (1 : Int32)
  · have hM := itT w13_1 hM
    refine lv_tableIn (off := 48) (tgt := 61) hx hb dX8_about_13 (by rw [w13_1]; decide) (by rw [w13_1]; decide) (by rw [w13_1]; rfl) (by decide) ?_
    refine lv_aload_n hx hb dX8_about_61 rfl (lv_at hl 0 rfl) ?_
    refine q_getN hx hb hts in_X6 hown S m_h e_h (C := RX6) (T := TX6) (N := 7) rfl 4 (by decide) rfl (by decide) dX8_about_62 ?_
    subst hQQ
    exact q_reti (post := fun x L1 f1 => x = z ∧ L1 = L ∧ f1 = f) hx hb hr hlk S dX8_about_65 (by decide) (by decide) (by have hz := Option.some.inj hM; subst hz; exact ⟨rfl, rfl, rfl⟩)
  have hM := itF w13_1 hM
  by_cases w13_2 : wh = (2 : Int32)
  · have hM := itT w13_2 hM
    refine lv_tableIn (off := 53) (tgt := 66) hx hb dX8_about_13 (by rw [w13_2]; decide) (by rw [w13_2]; decide) (by rw [w13_2]; rfl) (by decide) ?_
    refine lv_aload_n hx hb dX8_about_66 rfl (lv_at hl 0 rfl) ?_
    refine q_getN hx hb hts in_X6 hown S m_h e_h (C := RX6) (T := TX6) (N := 7) rfl 5 (by decide) rfl (by decide) dX8_about_67 ?_
    subst hQQ
    exact q_reti (post := fun x L1 f1 => x = z ∧ L1 = L ∧ f1 = f) hx hb hr hlk S dX8_about_70 (by decide) (by decide) (by have hz := Option.some.inj hM; subst hz; exact ⟨rfl, rfl, rfl⟩)
  have hM := itF w13_2 hM
  by_cases w13_3 : wh = (3 : Int32)
  · have hM := itT w13_3 hM
    refine lv_tableIn (off := 58) (tgt := 71) hx hb dX8_about_13 (by rw [w13_3]; decide) (by rw [w13_3]; decide) (by rw [w13_3]; rfl) (by decide) ?_
    refine lv_aload_n hx hb dX8_about_71 rfl (lv_at hl 0 rfl) ?_
    refine q_getN hx hb hts in_X6 hown S m_h e_h (C := RX6) (T := TX6) (N := 7) rfl 6 (by decide) rfl (by decide) dX8_about_72 ?_
    subst hQQ
    exact q_reti (post := fun x L1 f1 => x = z ∧ L1 = L ∧ f1 = f) hx hb hr hlk S dX8_about_75 (by decide) (by decide) (by have hz := Option.some.inj hM; subst hz; exact ⟨rfl, rfl, rfl⟩)
  have hM := itF w13_3 hM
  by_cases w13_4 : wh = (4 : Int32)
  · have hM := itT w13_4 hM
    refine lv_tableIn (off := 63) (tgt := 76) hx hb dX8_about_13 (by rw [w13_4]; decide) (by rw [w13_4]; decide) (by rw [w13_4]; rfl) (by decide) ?_
    refine lv_aload_n hx hb dX8_about_76 rfl (lv_at hl 0 rfl) ?_
    refine q_getN hx hb hts in_X6 hown S m_h e_h (C := RX6) (T := TX6) (N := 7) rfl 1 (by decide) rfl (by decide) dX8_about_77 ?_
    obtain ⟨z80, hz80, hM⟩ := bind_some hM
    refine q_vi (As := []) (rest := []) ⟨hx, hb, hml, hown, hts⟩ (k_X0_count l D g m_co e_co hz80) (cwV 0 hts gX8_about_X0_count rfl rfl rfl (by decide +kernel) ⟨Nat.le_of_ble_eq_true rfl, Nat.le_of_ble_eq_true rfl⟩) S m_co e_co (T := TX0) (N := 2) rfl rfl hl.1 rfl (Nat.le_of_ble_eq_true rfl) dX8_about_80 ⟨Nat.le_of_ble_eq_true rfl, Nat.le_of_ble_eq_true rfl⟩ (fun r6 L4 f5 H locs S w80 => ?_)
    obtain ⟨ex80, eL, ef⟩ := w80
    rw [eL, ef] at S
    replace ex80 := ex80.symm
    subst ex80
    subst hQQ
    exact q_reti (post := fun x L1 f1 => x = z ∧ L1 = L ∧ f1 = f) hx hb hr hlk S dX8_about_83 (by decide) (by decide) (by have hz := Option.some.inj hM; subst hz; exact ⟨rfl, rfl, rfl⟩)
  have hM := itF w13_4 hM
  by_cases w13_5 : wh = (5 : Int32)
  · have hM := itT w13_5 hM
    refine lv_tableIn (off := 71) (tgt := 84) hx hb dX8_about_13 (by rw [w13_5]; decide) (by rw [w13_5]; decide) (by rw [w13_5]; rfl) (by decide) ?_
    refine lv_aload_n hx hb dX8_about_84 rfl (lv_at hl 0 rfl) ?_
    obtain ⟨z85, hz85, hM⟩ := bind_some hM
    refine q_vi (As := []) (rest := []) ⟨hx, hb, hml, hown, hts⟩ (k_X6_weightG l D g m_h e_h hz85) (cwV 0 hts gX8_about_X6_weight rfl rfl rfl (by decide +kernel) ⟨Nat.le_of_ble_eq_true rfl, Nat.le_of_ble_eq_true rfl⟩) S m_h e_h (T := TX6) (N := 7) rfl rfl hl.1 rfl (Nat.le_of_ble_eq_true rfl) dX8_about_85 ⟨Nat.le_of_ble_eq_true rfl, Nat.le_of_ble_eq_true rfl⟩ (fun r9 L7 f8 H locs S w85 => ?_)
    obtain ⟨ex85, eL, ef⟩ := w85
    rw [eL, ef] at S
    replace ex85 := ex85.symm
    subst ex85
    subst hQQ
    exact q_reti (post := fun x L1 f1 => x = z ∧ L1 = L ∧ f1 = f) hx hb hr hlk S dX8_about_88 (by decide) (by decide) (by have hz := Option.some.inj hM; subst hz; exact ⟨rfl, rfl, rfl⟩)
  have hM := itF w13_5 hM
  by_cases w13_6 : wh = (6 : Int32)
  · have hM := itT w13_6 hM
    refine lv_tableIn (off := 76) (tgt := 89) hx hb dX8_about_13 (by rw [w13_6]; decide) (by rw [w13_6]; decide) (by rw [w13_6]; rfl) (by decide) ?_
    refine lv_aload_n hx hb dX8_about_89 rfl (lv_at hl 0 rfl) ?_
    obtain ⟨z90, hz90, hM⟩ := bind_some hM
    refine q_vi (As := []) (rest := []) ⟨hx, hb, hml, hown, hts⟩ (k_X6_filledG l D g m_h e_h m_ce e_ce hz90) (cwV 0 hts gX8_about_X6_filled rfl rfl rfl (by decide +kernel) ⟨Nat.le_of_ble_eq_true rfl, Nat.le_of_ble_eq_true rfl⟩) S m_h e_h (T := TX6) (N := 7) rfl rfl hl.1 rfl (Nat.le_of_ble_eq_true rfl) dX8_about_90 ⟨Nat.le_of_ble_eq_true rfl, Nat.le_of_ble_eq_true rfl⟩ (fun r12 L10 f11 H locs S w90 => ?_)
    obtain ⟨ex90, eL, ef⟩ := w90
    rw [eL, ef] at S
    replace ex90 := ex90.symm
    subst ex90
    subst hQQ
    exact q_reti (post := fun x L1 f1 => x = z ∧ L1 = L ∧ f1 = f) hx hb hr hlk S dX8_about_93 (by decide) (by decide) (by have hz := Option.some.inj hM; subst hz; exact ⟨rfl, rfl, rfl⟩)
  have hM := itF w13_6 hM
  refine lv_tableOut (tgt := 94) hx hb dX8_about_13 (by have q0 := lv_neT w13_0 (a := 0) rfl; have q1 := lv_neT w13_1 (a := 1) rfl; have q2 := lv_neT w13_2 (a := 2) rfl; have q3 := lv_neT w13_3 (a := 3) rfl; have q4 := lv_neT w13_4 (a := 4) rfl; have q5 := lv_neT w13_5 (a := 5) rfl; have q6 := lv_neT w13_6 (a := 6) rfl; omega) (by decide) ?_
  refine lv_iconst (v := (-1 : Int32)) hx hb dX8_about_94 (by decide) ?_
  subst hQQ
  exact q_reti (post := fun x L1 f1 => x = z ∧ L1 = L ∧ f1 = f) hx hb hr hlk S dX8_about_95 (by decide) (by decide) (by have hz := Option.some.inj hM; subst hz; exact ⟨rfl, rfl, rfl⟩)

def mX8_letsL (t : Int64) (kd : Int32) (sz : Int32) (mk : Int32) (sd : Int32) (kc : Nat → Int32) (lc : Int32) (lsd : Int32) (rn : Int32) (rv : Nat → Int64) (lz : Nat → Int32) (ld : Nat → Nat → Int64) : Option (Int32) := (mX6_passesL kd sz mk sd kc lc lsd rn rv lz ld t).bind fun z17 => if z17 = 0 then (some (0 : Int32)) else (some (1 : Int32))
set_option maxHeartbeats 4000000 in
set_option maxRecDepth 100000 in
theorem k_X8_letsL (l : Launch) (D : va_G) (g : Nat → ClassId) {L : List Nat} {f : Nat → va_E} {lb lw : Nat → Nat} {Sl ca ce ch co dr h la re ri ro rr so th wo xb : Nat} {md : Int32} {sf : Nat → Option Nat} {sq : Int32} {t : Int64} {kd : Int32} {sz : Int32} {mk : Int32} {sd : Int32} {kc : Nat → Int32} {lc : Int32} {lsd : Int32} {rf : Nat → Option Nat} {rn : Int32} {rv : Nat → Int64} {lz : Nat → Int32} {ld : Nat → Nat → Int64} {z : Int32} (m_xb : xb ∈ L) (e_xb : f xb = .inr (6, [.ref wo, .ref Sl, .ref dr, .ref ri, .ref th, .ref so, .ref ch, .int md])) (m_Sl : Sl ∈ L) (e_Sl : f Sl = .inl (g 5, 30, .inr (.inr (.inr (.inr sf))))) (m_h : h ∈ L) (e_h : f h = .inr (4, [.ref ce, .ref co, .ref la, .int kd, .int sz, .int mk, .int sd])) (m_ce : ce ∈ L) (e_ce : f ce = .inl (g 0, 4096, .inl kc)) (m_la : la ∈ L) (e_la : f la = .inr (3, [.ref ro, .ref ca, .ref re, .int lc, .int lsd])) (m_ro : ro ∈ L) (e_ro : f ro = .inl (g 4, 20, .inr (.inr (.inr (.inr rf))))) (m_re : re ∈ L) (e_re : f re = .inr (0, [.ref rr, .int rn])) (m_rr : rr ∈ L) (e_rr : f rr = .inl (g 1, 1000, .inr (.inl rv))) (e_fam : LF g L f rf lb lw lz ld)   (hs2 : mX8_sieveAt md sf sq = some (some h)) (hM : mX8_letsL t kd sz mk sd kc lc lsd rn rv lz ld = some z) : cI l yX8_lets wsX8_lets { frames := 5, cells := 0, slots := 0, locals := 121 } D g [.ref xb, .int sq, .long t] L f 0 0 (fun x L1 f1 => x = z ∧ L1 = L ∧ f1 = f) := by
  refine cI_of (cc := cX8_lets) (maxL := 5) (ret := (some .int)) (by decide) rfl (Nat.le_of_ble_eq_true rfl) ?_
  intro szz p e s m below meth c hx hb hr hml hts hown hlk hnm S ls hl
  have hl : lv_has ls 5 [(0, .ref xb), (1, .int sq), (2, .long t)] := hl
  unfold mX8_letsL at hM
  refine W_gen (fun QQ hQQ => ?_)
  refine lv_aload_n hx hb dX8_lets_0 rfl (lv_at hl 0 rfl) ?_
  refine lv_iload_n hx hb dX8_lets_1 rfl (lv_at hl 1 rfl) ?_
  refine q_vq (As := [.int sq]) (rest := []) ⟨hx, hb, hml, hown, hts⟩ (k_X8_sieveAt l D g m_xb e_xb m_Sl e_Sl hs2) (cwV 1 hts gX8_lets_X8_sieveAt rfl rfl rfl (by decide +kernel) ⟨Nat.le_of_ble_eq_true rfl, Nat.le_of_ble_eq_true rfl⟩) S m_xb e_xb (T := TX8) (N := 8) rfl rfl hl.1 rfl (Nat.le_of_ble_eq_true rfl) dX8_lets_2 ⟨Nat.le_of_ble_eq_true rfl, Nat.le_of_ble_eq_true rfl⟩ (fun r3 L1 f2 H locs S w2 => ?_)
  obtain ⟨ex, eL, ef⟩ := w2
  rw [eL, ef] at S
  replace ex := ex.symm
  subst ex
  refine W.eq (g2 := F0 m 5 ls [.ref h]) rfl ?_
  refine lv_astore (lv' := [(4, .ref h), (0, .ref xb), (1, .int sq), (2, .long t)]) hx hb dX8_lets_5 hl (by decide) rfl (fun ls hl => ?_)
  refine lv_aload hx hb dX8_lets_7 (lv_at hl 0 rfl) ?_
  refine lv_ifnonnull (tgt := 14) hx hb dX8_lets_9 (by decide) ?_
  refine lv_aload hx hb dX8_lets_14 (lv_at hl 0 rfl) ?_
  refine lv_lload_n hx hb dX8_lets_16 rfl (lv_at hl 3 rfl) ?_
  obtain ⟨z17, hz17, hM⟩ := bind_some hM
  refine q_vi (As := [.long t]) (rest := []) ⟨hx, hb, hml, hown, hts⟩ (k_X6_passesL l D g m_h e_h m_ce e_ce m_la e_la m_ro e_ro m_re e_re m_rr e_rr e_fam hz17) (cwV 1 hts gX8_lets_X6_passes rfl rfl rfl (by decide +kernel) ⟨Nat.le_of_ble_eq_true rfl, Nat.le_of_ble_eq_true rfl⟩) S m_h e_h (T := TX6) (N := 7) rfl rfl hl.1 rfl (Nat.le_of_ble_eq_true rfl) dX8_lets_17 ⟨Nat.le_of_ble_eq_true rfl, Nat.le_of_ble_eq_true rfl⟩ (fun r6 L4 f5 H locs S w17 => ?_)
  obtain ⟨ex17, eL, ef⟩ := w17
  rw [eL, ef] at S
  replace ex17 := ex17.symm
  subst ex17
  refine lv_if_eq (tgt := 27) hx hb dX8_lets_20 (by decide) (fun b20 => ?_) (fun b20 => ?_)
  · have hM := itT b20 hM
    refine lv_iconst (v := (0 : Int32)) hx hb dX8_lets_27 (by decide) ?_
    subst hQQ
    exact q_reti (post := fun x L1 f1 => x = z ∧ L1 = L ∧ f1 = f) hx hb hr hlk S dX8_lets_28 (by decide) (by decide) (by have hz := Option.some.inj hM; subst hz; exact ⟨rfl, rfl, rfl⟩)
  · have hM := itF b20 hM
    refine lv_iconst (v := (1 : Int32)) hx hb dX8_lets_23 (by decide) ?_
    refine lv_goto (tgt := 28) hx hb dX8_lets_24 (by decide) ?_
    subst hQQ
    exact q_reti (post := fun x L1 f1 => x = z ∧ L1 = L ∧ f1 = f) hx hb hr hlk S dX8_lets_28 (by decide) (by decide) (by have hz := Option.some.inj hM; subst hz; exact ⟨rfl, rfl, rfl⟩)

def mX8_missedL_L17 (kd : Int32) (sz : Int32) (mk : Int32) (sd : Int32) (kc : Nat → Int32) (n : Int32) (v : Nat → Int64) (lc : Int32) (lsd : Int32) (rn : Int32) (rv : Nat → Int64) (lz : Nat → Int32) (ld : Nat → Nat → Int64) : Nat → Int32 → Int32 → Option (Int32 × Int32)
  | 0, _, _ => none
  | fu + 1, x4_17, x3_17 => (mX0_count n).bind fun z23 => if z23 ≤ x4_17 then (some (x4_17, x3_17)) else ((mX0_at n v x4_17).bind fun z36 => (mX6_passesL kd sz mk sd kc lc lsd rn rv lz ld z36).bind fun z39 => if z39 = 0 then (mX8_missedL_L17 kd sz mk sd kc n v lc lsd rn rv lz ld fu (x4_17 + 1) (x3_17 + 1)) else (mX8_missedL_L17 kd sz mk sd kc n v lc lsd rn rv lz ld fu (x4_17 + 1) x3_17))
def mX8_missedL (kd : Int32) (sz : Int32) (mk : Int32) (sd : Int32) (kc : Nat → Int32) (n : Int32) (v : Nat → Int64) (lc : Int32) (lsd : Int32) (rn : Int32) (rv : Nat → Int64) (lz : Nat → Int32) (ld : Nat → Nat → Int64) : Option (Int32) := (mX8_missedL_L17 kd sz mk sd kc n v lc lsd rn rv lz ld FU (0 : Int32) (0 : Int32)).bind fun o17 => some o17.2
set_option maxHeartbeats 4000000 in
set_option maxRecDepth 100000 in
theorem k_X8_missedL (l : Launch) (D : va_G) (g : Nat → ClassId) {L : List Nat} {f : Nat → va_E} {lb lw : Nat → Nat} {Sl ca ce ch co cr dr h la re ri ro rr so th wo xb : Nat} {md : Int32} {sf : Nat → Option Nat} {sq : Int32} {kd : Int32} {sz : Int32} {mk : Int32} {sd : Int32} {kc : Nat → Int32} {n : Int32} {v : Nat → Int64} {lc : Int32} {lsd : Int32} {rf : Nat → Option Nat} {rn : Int32} {rv : Nat → Int64} {lz : Nat → Int32} {ld : Nat → Nat → Int64} {z : Int32} (m_xb : xb ∈ L) (e_xb : f xb = .inr (6, [.ref wo, .ref Sl, .ref dr, .ref ri, .ref th, .ref so, .ref ch, .int md])) (m_Sl : Sl ∈ L) (e_Sl : f Sl = .inl (g 5, 30, .inr (.inr (.inr (.inr sf))))) (m_h : h ∈ L) (e_h : f h = .inr (4, [.ref ce, .ref co, .ref la, .int kd, .int sz, .int mk, .int sd])) (m_ce : ce ∈ L) (e_ce : f ce = .inl (g 0, 4096, .inl kc)) (m_co : co ∈ L) (e_co : f co = .inr (0, [.ref cr, .int n])) (m_cr : cr ∈ L) (e_cr : f cr = .inl (g 1, 1000, .inr (.inl v))) (m_la : la ∈ L) (e_la : f la = .inr (3, [.ref ro, .ref ca, .ref re, .int lc, .int lsd])) (m_ro : ro ∈ L) (e_ro : f ro = .inl (g 4, 20, .inr (.inr (.inr (.inr rf))))) (m_re : re ∈ L) (e_re : f re = .inr (0, [.ref rr, .int rn])) (m_rr : rr ∈ L) (e_rr : f rr = .inl (g 1, 1000, .inr (.inl rv))) (e_fam : LF g L f rf lb lw lz ld)   (hs2 : mX8_sieveAt md sf sq = some (some h)) (hM : mX8_missedL kd sz mk sd kc n v lc lsd rn rv lz ld = some z) : cI l yX8_missed wsX8_missed { frames := 5, cells := 0, slots := 0, locals := 121 } D g [.ref xb, .int sq] L f 0 0 (fun x L1 f1 => x = z ∧ L1 = L ∧ f1 = f) := by
  refine cI_of (cc := cX8_missed) (maxL := 5) (ret := (some .int)) (by decide) rfl (Nat.le_of_ble_eq_true rfl) ?_
  intro szz p e s m below meth c hx hb hr hml hts hown hlk hnm S ls hl
  have hl : lv_has ls 5 [(0, .ref xb), (1, .int sq)] := hl
  have in_X6 : ∀ w ∈ wsX60, w ∈ wsX8_missed := gu_wsX8_missed_6
  unfold mX8_missedL at hM
  refine W_gen (fun QQ hQQ => ?_)
  refine lv_aload_n hx hb dX8_missed_0 rfl (lv_at hl 0 rfl) ?_
  refine lv_iload_n hx hb dX8_missed_1 rfl (lv_at hl 1 rfl) ?_
  refine q_vq (As := [.int sq]) (rest := []) ⟨hx, hb, hml, hown, hts⟩ (k_X8_sieveAt l D g m_xb e_xb m_Sl e_Sl hs2) (cwV 1 hts gX8_missed_X8_sieveAt rfl rfl rfl (by decide +kernel) ⟨Nat.le_of_ble_eq_true rfl, Nat.le_of_ble_eq_true rfl⟩) S m_xb e_xb (T := TX8) (N := 8) rfl rfl hl.1 rfl (Nat.le_of_ble_eq_true rfl) dX8_missed_2 ⟨Nat.le_of_ble_eq_true rfl, Nat.le_of_ble_eq_true rfl⟩ (fun r3 L1 f2 H locs S w2 => ?_)
  obtain ⟨ex, eL, ef⟩ := w2
  rw [eL, ef] at S
  replace ex := ex.symm
  subst ex
  refine W.eq (g2 := F0 m 5 ls [.ref h]) rfl ?_
  refine lv_astore_n (lv' := [(2, .ref h), (0, .ref xb), (1, .int sq)]) hx hb dX8_missed_5 rfl hl (by decide) rfl (fun ls hl => ?_)
  refine lv_aload_n hx hb dX8_missed_6 rfl (lv_at hl 0 rfl) ?_
  refine lv_ifnonnull (tgt := 12) hx hb dX8_missed_7 (by decide) ?_
  refine lv_iconst (v := (0 : Int32)) hx hb dX8_missed_12 (by decide) ?_
  refine lv_istore_n (lv' := [(3, .int (0 : Int32)), (2, .ref h), (0, .ref xb), (1, .int sq)]) hx hb dX8_missed_13 rfl hl (by decide) rfl (fun ls hl => ?_)
  refine lv_iconst (v := (0 : Int32)) hx hb dX8_missed_14 (by decide) ?_
  refine lv_istore (lv' := [(4, .int (0 : Int32)), (3, .int (0 : Int32)), (2, .ref h), (0, .ref xb), (1, .int sq)]) hx hb dX8_missed_15 hl (by decide) rfl (fun ls hl => ?_)
  obtain ⟨o17, ho17, hM⟩ := bind_some hM
  have EX17 : ∀ (H : Heap) (locs : List Loc) (ls : Array Slot), PS D g (va_A (va_pl L f) szz) s.heap s L f H locs → lv_has ls 5 [(3, .int o17.2)] → W p l e { frames := 5, cells := 0, slots := 0, locals := 121 } s m [.ref xb, .int sq].toArray below meth c H locs 0 0 QQ (F0 m 54 ls []) := by
    intro H locs ls S hl
    refine lv_iload_n hx hb dX8_missed_54 rfl (lv_at hl 0 rfl) ?_
    subst hQQ
    exact q_reti (post := fun x L1 f1 => x = z ∧ L1 = L ∧ f1 = f) hx hb hr hlk S dX8_missed_55 (by decide) (by decide) (by have hz := Option.some.inj hM; subst hz; exact ⟨rfl, rfl, rfl⟩)
  have LP17 : ∀ (fu : Nat) (x4_17 : Int32) (x3_17 : Int32) (H : Heap) (locs : List Loc) (ls : Array Slot), (mX8_missedL_L17 kd sz mk sd kc n v lc lsd rn rv lz ld) fu x4_17 x3_17 = some o17 → PS D g (va_A (va_pl L f) szz) s.heap s L f H locs → lv_has ls 5 [(4, .int x4_17), (3, .int x3_17), (2, .ref h)] → W p l e { frames := 5, cells := 0, slots := 0, locals := 121 } s m [.ref xb, .int sq].toArray below meth c H locs 0 0 QQ (F0 m 17 ls []) := by
    intro fu
    induction fu with
    | zero => intro x4_17 x3_17 H locs ls ho17 S hl; exact no_some ho17
    | succ fu ih17 =>
      intro x4_17 x3_17 H locs ls ho17 S hl
      rw [mX8_missedL_L17] at ho17
      refine lv_iload hx hb dX8_missed_17 (lv_at hl 0 rfl) ?_
      refine lv_aload_n hx hb dX8_missed_19 rfl (lv_at hl 2 rfl) ?_
      refine q_getN hx hb hts in_X6 hown S m_h e_h (C := RX6) (T := TX6) (N := 7) rfl 1 (by decide) rfl (by decide) dX8_missed_20 ?_
      obtain ⟨z23, hz23, ho17⟩ := bind_some ho17
      refine q_vi (As := []) (rest := [.int x4_17]) ⟨hx, hb, hml, hown, hts⟩ (k_X0_count l D g m_co e_co hz23) (cwV 0 hts gX8_missed_X0_count rfl rfl rfl (by decide +kernel) ⟨Nat.le_of_ble_eq_true rfl, Nat.le_of_ble_eq_true rfl⟩) S m_co e_co (T := TX0) (N := 2) rfl rfl hl.1 rfl (Nat.le_of_ble_eq_true rfl) dX8_missed_23 ⟨Nat.le_of_ble_eq_true rfl, Nat.le_of_ble_eq_true rfl⟩ (fun r6 L4 f5 H locs S w23 => ?_)
      obtain ⟨ex23, eL, ef⟩ := w23
      rw [eL, ef] at S
      replace ex23 := ex23.symm
      subst ex23
      refine lv_icmp_ge (tgt := 54) hx hb dX8_missed_26 (by decide) (fun b26 => ?_) (fun b26 => ?_)
      · have ho17 := itT b26 ho17
        obtain rfl := Option.some.inj ho17
        exact EX17 _ _ _ S (lv_sub hl [1] rfl)
      · have ho17 := itF b26 ho17
        refine lv_aload_n hx hb dX8_missed_29 rfl (lv_at hl 2 rfl) ?_
        refine lv_aload_n hx hb dX8_missed_30 rfl (lv_at hl 2 rfl) ?_
        refine q_getN hx hb hts in_X6 hown S m_h e_h (C := RX6) (T := TX6) (N := 7) rfl 1 (by decide) rfl (by decide) dX8_missed_31 ?_
        refine lv_iload hx hb dX8_missed_34 (lv_at hl 0 rfl) ?_
        obtain ⟨z36, hz36, ho17⟩ := bind_some ho17
        refine q_vl (As := [.int x4_17]) (rest := [.ref h]) ⟨hx, hb, hml, hown, hts⟩ (k_X0_at l D g m_co e_co m_cr e_cr hz36) (cwV 1 hts gX8_missed_X0_at rfl rfl rfl (by decide +kernel) ⟨Nat.le_of_ble_eq_true rfl, Nat.le_of_ble_eq_true rfl⟩) S m_co e_co (T := TX0) (N := 2) rfl rfl hl.1 rfl (Nat.le_of_ble_eq_true rfl) dX8_missed_36 ⟨Nat.le_of_ble_eq_true rfl, Nat.le_of_ble_eq_true rfl⟩ (fun r9 L7 f8 H locs S w36 => ?_)
        obtain ⟨ex36, eL, ef⟩ := w36
        rw [eL, ef] at S
        replace ex36 := ex36.symm
        subst ex36
        obtain ⟨z39, hz39, ho17⟩ := bind_some ho17
        refine q_vi (As := [.long z36]) (rest := []) ⟨hx, hb, hml, hown, hts⟩ (k_X6_passesL l D g m_h e_h m_ce e_ce m_la e_la m_ro e_ro m_re e_re m_rr e_rr e_fam hz39) (cwV 1 hts gX8_missed_X6_passes rfl rfl rfl (by decide +kernel) ⟨Nat.le_of_ble_eq_true rfl, Nat.le_of_ble_eq_true rfl⟩) S m_h e_h (T := TX6) (N := 7) rfl rfl hl.1 rfl (Nat.le_of_ble_eq_true rfl) dX8_missed_39 ⟨Nat.le_of_ble_eq_true rfl, Nat.le_of_ble_eq_true rfl⟩ (fun r12 L10 f11 H locs S w39 => ?_)
        obtain ⟨ex39, eL, ef⟩ := w39
        rw [eL, ef] at S
        replace ex39 := ex39.symm
        subst ex39
        refine lv_if_ne (tgt := 48) hx hb dX8_missed_42 (by decide) (fun b42 => ?_) (fun b42 => ?_)
        · have ho17 := itF b42 ho17
          refine lv_iinc (v := (x4_17 + 1)) (lv' := [(4, .int (x4_17 + 1)), (3, .int x3_17), (2, .ref h)]) hx hb dX8_missed_48 hl (k := 0) rfl rfl (by decide) rfl (fun ls hl => ?_)
          refine lv_goto (tgt := 17) hx hb dX8_missed_51 (by decide) ?_
          exact ih17 (x4_17 + 1) x3_17 _ _ _ ho17 S (lv_sub hl [0, 1, 2] rfl)
        · have ho17 := itT b42 ho17
          refine lv_iinc (v := (x3_17 + 1)) (lv' := [(3, .int (x3_17 + 1)), (4, .int x4_17), (2, .ref h)]) hx hb dX8_missed_45 hl (k := 1) rfl rfl (by decide) rfl (fun ls hl => ?_)
          refine lv_iinc (v := (x4_17 + 1)) (lv' := [(4, .int (x4_17 + 1)), (3, .int (x3_17 + 1)), (2, .ref h)]) hx hb dX8_missed_48 hl (k := 1) rfl rfl (by decide) rfl (fun ls hl => ?_)
          refine lv_goto (tgt := 17) hx hb dX8_missed_51 (by decide) ?_
          exact ih17 (x4_17 + 1) (x3_17 + 1) _ _ _ ho17 S (lv_sub hl [0, 1, 2] rfl)
  exact LP17 FU (0 : Int32) (0 : Int32) _ _ _ ho17 S (lv_sub hl [0, 1, 2] rfl)

def mX8_aboutL (wh : Int32) (kd : Int32) (sz : Int32) (mk : Int32) (sd : Int32) (kc : Nat → Int32) (n : Int32) (lc : Int32) (rn : Int32) (lz : Nat → Int32) : Option (Int32) := if wh = (0 : Int32) then (some kd) else (if wh = (1 : Int32) then (some sz) else (if wh = (2 : Int32) then (some mk) else (if wh = (3 : Int32) then (some sd) else (if wh = (4 : Int32) then ((mX0_count n).bind fun z80 => some z80) else (if wh = (5 : Int32) then ((mX6_weightL kd sz lc rn lz).bind fun z85 => some z85) else (if wh = (6 : Int32) then ((mX6_filledL kd sz kc rn).bind fun z90 => some z90) else (some (-1 : Int32))))))))
set_option maxHeartbeats 4000000 in
set_option maxRecDepth 100000 in
theorem k_X8_aboutL (l : Launch) (D : va_G) (g : Nat → ClassId) {L : List Nat} {f : Nat → va_E} {lb lw : Nat → Nat} {Sl ca ce ch co cr dr h la re ri ro rr so th wo xb : Nat} {md : Int32} {sf : Nat → Option Nat} {sq : Int32} {wh : Int32} {kd : Int32} {sz : Int32} {mk : Int32} {sd : Int32} {kc : Nat → Int32} {n : Int32} {lc : Int32} {lsd : Int32} {rf : Nat → Option Nat} {rn : Int32} {lz : Nat → Int32} {ld : Nat → Nat → Int64} {z : Int32} (m_xb : xb ∈ L) (e_xb : f xb = .inr (6, [.ref wo, .ref Sl, .ref dr, .ref ri, .ref th, .ref so, .ref ch, .int md])) (m_Sl : Sl ∈ L) (e_Sl : f Sl = .inl (g 5, 30, .inr (.inr (.inr (.inr sf))))) (m_h : h ∈ L) (e_h : f h = .inr (4, [.ref ce, .ref co, .ref la, .int kd, .int sz, .int mk, .int sd])) (m_ce : ce ∈ L) (e_ce : f ce = .inl (g 0, 4096, .inl kc)) (m_co : co ∈ L) (e_co : f co = .inr (0, [.ref cr, .int n])) (m_la : la ∈ L) (e_la : f la = .inr (3, [.ref ro, .ref ca, .ref re, .int lc, .int lsd])) (m_ro : ro ∈ L) (e_ro : f ro = .inl (g 4, 20, .inr (.inr (.inr (.inr rf))))) (m_re : re ∈ L) (e_re : f re = .inr (0, [.ref rr, .int rn])) (e_fam : LF g L f rf lb lw lz ld)   (hs2 : mX8_sieveAt md sf sq = some (some h)) (hM : mX8_aboutL wh kd sz mk sd kc n lc rn lz = some z) : cI l yX8_about wsX8_about { frames := 3, cells := 0, slots := 0, locals := 62 } D g [.ref xb, .int sq, .int wh] L f 0 0 (fun x L1 f1 => x = z ∧ L1 = L ∧ f1 = f) := by
  refine cI_of (cc := cX8_about) (maxL := 4) (ret := (some .int)) (by decide) rfl (Nat.le_of_ble_eq_true rfl) ?_
  intro szz p e s m below meth c hx hb hr hml hts hown hlk hnm S ls hl
  have hl : lv_has ls 4 [(0, .ref xb), (1, .int sq), (2, .int wh)] := hl
  have in_X6 : ∀ w ∈ wsX60, w ∈ wsX8_about := gu_wsX8_about_4
  unfold mX8_aboutL at hM
  refine W_gen (fun QQ hQQ => ?_)
  refine lv_aload_n hx hb dX8_about_0 rfl (lv_at hl 0 rfl) ?_
  refine lv_iload_n hx hb dX8_about_1 rfl (lv_at hl 1 rfl) ?_
  refine q_vq (As := [.int sq]) (rest := []) ⟨hx, hb, hml, hown, hts⟩ (k_X8_sieveAt l D g m_xb e_xb m_Sl e_Sl hs2) (cwV 1 hts gX8_about_X8_sieveAt rfl rfl rfl (by decide +kernel) ⟨Nat.le_of_ble_eq_true rfl, Nat.le_of_ble_eq_true rfl⟩) S m_xb e_xb (T := TX8) (N := 8) rfl rfl hl.1 rfl (Nat.le_of_ble_eq_true rfl) dX8_about_2 ⟨Nat.le_of_ble_eq_true rfl, Nat.le_of_ble_eq_true rfl⟩ (fun r3 L1 f2 H locs S w2 => ?_)
  obtain ⟨ex, eL, ef⟩ := w2
  rw [eL, ef] at S
  replace ex := ex.symm
  subst ex
  refine W.eq (g2 := F0 m 5 ls [.ref h]) rfl ?_
  refine lv_astore_n (lv' := [(3, .ref h), (0, .ref xb), (1, .int sq), (2, .int wh)]) hx hb dX8_about_5 rfl hl (by decide) rfl (fun ls hl => ?_)
  refine lv_aload_n hx hb dX8_about_6 rfl (lv_at hl 0 rfl) ?_
  refine lv_ifnonnull (tgt := 12) hx hb dX8_about_7 (by decide) ?_
  refine lv_iload_n hx hb dX8_about_12 rfl (lv_at hl 3 rfl) ?_
  by_cases w13_0 : wh = (0 : Int32)
  · have hM := itT w13_0 hM
    refine lv_tableIn (off := 43) (tgt := 56) hx hb dX8_about_13 (by rw [w13_0]; decide) (by rw [w13_0]; decide) (by rw [w13_0]; rfl) (by decide) ?_
    refine lv_aload_n hx hb dX8_about_56 rfl (lv_at hl 0 rfl) ?_
    refine q_getN hx hb hts in_X6 hown S m_h e_h (C := RX6) (T := TX6) (N := 7) rfl 3 (by decide) rfl (by decide) dX8_about_57 ?_
    subst hQQ
    exact q_reti (post := fun x L1 f1 => x = z ∧ L1 = L ∧ f1 = f) hx hb hr hlk S dX8_about_60 (by decide) (by decide) (by have hz := Option.some.inj hM; subst hz; exact ⟨rfl, rfl, rfl⟩)
  have hM := itF w13_0 hM
  by_cases w13_1 : wh = (1 : Int32)
  · have hM := itT w13_1 hM
    refine lv_tableIn (off := 48) (tgt := 61) hx hb dX8_about_13 (by rw [w13_1]; decide) (by rw [w13_1]; decide) (by rw [w13_1]; rfl) (by decide) ?_
    refine lv_aload_n hx hb dX8_about_61 rfl (lv_at hl 0 rfl) ?_
    refine q_getN hx hb hts in_X6 hown S m_h e_h (C := RX6) (T := TX6) (N := 7) rfl 4 (by decide) rfl (by decide) dX8_about_62 ?_
    subst hQQ
    exact q_reti (post := fun x L1 f1 => x = z ∧ L1 = L ∧ f1 = f) hx hb hr hlk S dX8_about_65 (by decide) (by decide) (by have hz := Option.some.inj hM; subst hz; exact ⟨rfl, rfl, rfl⟩)
  have hM := itF w13_1 hM
  by_cases w13_2 : wh = (2 : Int32)
  · have hM := itT w13_2 hM
    refine lv_tableIn (off := 53) (tgt := 66) hx hb dX8_about_13 (by rw [w13_2]; decide) (by rw [w13_2]; decide) (by rw [w13_2]; rfl) (by decide) ?_
    refine lv_aload_n hx hb dX8_about_66 rfl (lv_at hl 0 rfl) ?_
    refine q_getN hx hb hts in_X6 hown S m_h e_h (C := RX6) (T := TX6) (N := 7) rfl 5 (by decide) rfl (by decide) dX8_about_67 ?_
    subst hQQ
    exact q_reti (post := fun x L1 f1 => x = z ∧ L1 = L ∧ f1 = f) hx hb hr hlk S dX8_about_70 (by decide) (by decide) (by have hz := Option.some.inj hM; subst hz; exact ⟨rfl, rfl, rfl⟩)
  have hM := itF w13_2 hM
  by_cases w13_3 : wh = (3 : Int32)
  · have hM := itT w13_3 hM
    refine lv_tableIn (off := 58) (tgt := 71) hx hb dX8_about_13 (by rw [w13_3]; decide) (by rw [w13_3]; decide) (by rw [w13_3]; rfl) (by decide) ?_
    refine lv_aload_n hx hb dX8_about_71 rfl (lv_at hl 0 rfl) ?_
    refine q_getN hx hb hts in_X6 hown S m_h e_h (C := RX6) (T := TX6) (N := 7) rfl 6 (by decide) rfl (by decide) dX8_about_72 ?_
    subst hQQ
    exact q_reti (post := fun x L1 f1 => x = z ∧ L1 = L ∧ f1 = f) hx hb hr hlk S dX8_about_75 (by decide) (by decide) (by have hz := Option.some.inj hM; subst hz; exact ⟨rfl, rfl, rfl⟩)
  have hM := itF w13_3 hM
  by_cases w13_4 : wh = (4 : Int32)
  · have hM := itT w13_4 hM
    refine lv_tableIn (off := 63) (tgt := 76) hx hb dX8_about_13 (by rw [w13_4]; decide) (by rw [w13_4]; decide) (by rw [w13_4]; rfl) (by decide) ?_
    refine lv_aload_n hx hb dX8_about_76 rfl (lv_at hl 0 rfl) ?_
    refine q_getN hx hb hts in_X6 hown S m_h e_h (C := RX6) (T := TX6) (N := 7) rfl 1 (by decide) rfl (by decide) dX8_about_77 ?_
    obtain ⟨z80, hz80, hM⟩ := bind_some hM
    refine q_vi (As := []) (rest := []) ⟨hx, hb, hml, hown, hts⟩ (k_X0_count l D g m_co e_co hz80) (cwV 0 hts gX8_about_X0_count rfl rfl rfl (by decide +kernel) ⟨Nat.le_of_ble_eq_true rfl, Nat.le_of_ble_eq_true rfl⟩) S m_co e_co (T := TX0) (N := 2) rfl rfl hl.1 rfl (Nat.le_of_ble_eq_true rfl) dX8_about_80 ⟨Nat.le_of_ble_eq_true rfl, Nat.le_of_ble_eq_true rfl⟩ (fun r6 L4 f5 H locs S w80 => ?_)
    obtain ⟨ex80, eL, ef⟩ := w80
    rw [eL, ef] at S
    replace ex80 := ex80.symm
    subst ex80
    subst hQQ
    exact q_reti (post := fun x L1 f1 => x = z ∧ L1 = L ∧ f1 = f) hx hb hr hlk S dX8_about_83 (by decide) (by decide) (by have hz := Option.some.inj hM; subst hz; exact ⟨rfl, rfl, rfl⟩)
  have hM := itF w13_4 hM
  by_cases w13_5 : wh = (5 : Int32)
  · have hM := itT w13_5 hM
    refine lv_tableIn (off := 71) (tgt := 84) hx hb dX8_about_13 (by rw [w13_5]; decide) (by rw [w13_5]; decide) (by rw [w13_5]; rfl) (by decide) ?_
    refine lv_aload_n hx hb dX8_about_84 rfl (lv_at hl 0 rfl) ?_
    obtain ⟨z85, hz85, hM⟩ := bind_some hM
    refine q_vi (As := []) (rest := []) ⟨hx, hb, hml, hown, hts⟩ (k_X6_weightL l D g m_h e_h m_la e_la m_ro e_ro m_re e_re e_fam hz85) (cwV 0 hts gX8_about_X6_weight rfl rfl rfl (by decide +kernel) ⟨Nat.le_of_ble_eq_true rfl, Nat.le_of_ble_eq_true rfl⟩) S m_h e_h (T := TX6) (N := 7) rfl rfl hl.1 rfl (Nat.le_of_ble_eq_true rfl) dX8_about_85 ⟨Nat.le_of_ble_eq_true rfl, Nat.le_of_ble_eq_true rfl⟩ (fun r9 L7 f8 H locs S w85 => ?_)
    obtain ⟨ex85, eL, ef⟩ := w85
    rw [eL, ef] at S
    replace ex85 := ex85.symm
    subst ex85
    subst hQQ
    exact q_reti (post := fun x L1 f1 => x = z ∧ L1 = L ∧ f1 = f) hx hb hr hlk S dX8_about_88 (by decide) (by decide) (by have hz := Option.some.inj hM; subst hz; exact ⟨rfl, rfl, rfl⟩)
  have hM := itF w13_5 hM
  by_cases w13_6 : wh = (6 : Int32)
  · have hM := itT w13_6 hM
    refine lv_tableIn (off := 76) (tgt := 89) hx hb dX8_about_13 (by rw [w13_6]; decide) (by rw [w13_6]; decide) (by rw [w13_6]; rfl) (by decide) ?_
    refine lv_aload_n hx hb dX8_about_89 rfl (lv_at hl 0 rfl) ?_
    obtain ⟨z90, hz90, hM⟩ := bind_some hM
    refine q_vi (As := []) (rest := []) ⟨hx, hb, hml, hown, hts⟩ (k_X6_filledL l D g m_h e_h m_ce e_ce m_la e_la m_re e_re hz90) (cwV 0 hts gX8_about_X6_filled rfl rfl rfl (by decide +kernel) ⟨Nat.le_of_ble_eq_true rfl, Nat.le_of_ble_eq_true rfl⟩) S m_h e_h (T := TX6) (N := 7) rfl rfl hl.1 rfl (Nat.le_of_ble_eq_true rfl) dX8_about_90 ⟨Nat.le_of_ble_eq_true rfl, Nat.le_of_ble_eq_true rfl⟩ (fun r12 L10 f11 H locs S w90 => ?_)
    obtain ⟨ex90, eL, ef⟩ := w90
    rw [eL, ef] at S
    replace ex90 := ex90.symm
    subst ex90
    subst hQQ
    exact q_reti (post := fun x L1 f1 => x = z ∧ L1 = L ∧ f1 = f) hx hb hr hlk S dX8_about_93 (by decide) (by decide) (by have hz := Option.some.inj hM; subst hz; exact ⟨rfl, rfl, rfl⟩)
  have hM := itF w13_6 hM
  refine lv_tableOut (tgt := 94) hx hb dX8_about_13 (by have q0 := lv_neT w13_0 (a := 0) rfl; have q1 := lv_neT w13_1 (a := 1) rfl; have q2 := lv_neT w13_2 (a := 2) rfl; have q3 := lv_neT w13_3 (a := 3) rfl; have q4 := lv_neT w13_4 (a := 4) rfl; have q5 := lv_neT w13_5 (a := 5) rfl; have q6 := lv_neT w13_6 (a := 6) rfl; omega) (by decide) ?_
  refine lv_iconst (v := (-1 : Int32)) hx hb dX8_about_94 (by decide) ?_
  subst hQQ
  exact q_reti (post := fun x L1 f1 => x = z ∧ L1 = L ∧ f1 = f) hx hb hr hlk S dX8_about_95 (by decide) (by decide) (by have hz := Option.some.inj hM; subst hz; exact ⟨rfl, rfl, rfl⟩)

def mX8_letsN  : Option (Int32) := some (-1 : Int32)
set_option maxHeartbeats 4000000 in
set_option maxRecDepth 100000 in
theorem k_X8_letsN (l : Launch) (D : va_G) (g : Nat → ClassId) {L : List Nat} {f : Nat → va_E} {Sl ch dr ri so th wo xb : Nat} {md : Int32} {sf : Nat → Option Nat} {sq : Int32} {t : Int64} {z : Int32} (m_xb : xb ∈ L) (e_xb : f xb = .inr (6, [.ref wo, .ref Sl, .ref dr, .ref ri, .ref th, .ref so, .ref ch, .int md])) (m_Sl : Sl ∈ L) (e_Sl : f Sl = .inl (g 5, 30, .inr (.inr (.inr (.inr sf)))))   (hs2 : mX8_sieveAt md sf sq = some none) (hM : mX8_letsN = some z) : cI l yX8_lets wsX8_lets { frames := 1, cells := 0, slots := 0, locals := 21 } D g [.ref xb, .int sq, .long t] L f 0 0 (fun x L1 f1 => x = z ∧ L1 = L ∧ f1 = f) := by
  refine cI_of (cc := cX8_lets) (maxL := 5) (ret := (some .int)) (by decide) rfl (Nat.le_of_ble_eq_true rfl) ?_
  intro szz p e s m below meth c hx hb hr hml hts hown hlk hnm S ls hl
  have hl : lv_has ls 5 [(0, .ref xb), (1, .int sq), (2, .long t)] := hl
  unfold mX8_letsN at hM
  refine W_gen (fun QQ hQQ => ?_)
  refine lv_aload_n hx hb dX8_lets_0 rfl (lv_at hl 0 rfl) ?_
  refine lv_iload_n hx hb dX8_lets_1 rfl (lv_at hl 1 rfl) ?_
  refine q_vq (As := [.int sq]) (rest := []) ⟨hx, hb, hml, hown, hts⟩ (k_X8_sieveAt l D g m_xb e_xb m_Sl e_Sl hs2) (cwV 1 hts gX8_lets_X8_sieveAt rfl rfl rfl (by decide +kernel) ⟨Nat.le_of_ble_eq_true rfl, Nat.le_of_ble_eq_true rfl⟩) S m_xb e_xb (T := TX8) (N := 8) rfl rfl hl.1 rfl (Nat.le_of_ble_eq_true rfl) dX8_lets_2 ⟨Nat.le_of_ble_eq_true rfl, Nat.le_of_ble_eq_true rfl⟩ (fun r3 L1 f2 H locs S w2 => ?_)
  obtain ⟨ex, eL, ef⟩ := w2
  rw [eL, ef] at S
  replace ex := ex.symm
  subst ex
  refine W.eq (g2 := F0 m 5 ls [.null]) rfl ?_
  refine lv_astoreN (lv' := [(4, .null), (0, .ref xb), (1, .int sq), (2, .long t)]) hx hb dX8_lets_5 hl (by decide) rfl (fun ls hl => ?_)
  refine lv_aloadN hx hb dX8_lets_7 (lv_at hl 0 rfl) ?_
  refine lv_ifnonnullN hx hb dX8_lets_9 ?_
  refine lv_iconst (v := (-1 : Int32)) hx hb dX8_lets_12 (by decide) ?_
  subst hQQ
  exact q_reti (post := fun x L1 f1 => x = z ∧ L1 = L ∧ f1 = f) hx hb hr hlk S dX8_lets_13 (by decide) (by decide) (by have hz := Option.some.inj hM; subst hz; exact ⟨rfl, rfl, rfl⟩)

def mX8_missedN  : Option (Int32) := some (-1 : Int32)
set_option maxHeartbeats 4000000 in
set_option maxRecDepth 100000 in
theorem k_X8_missedN (l : Launch) (D : va_G) (g : Nat → ClassId) {L : List Nat} {f : Nat → va_E} {Sl ch dr ri so th wo xb : Nat} {md : Int32} {sf : Nat → Option Nat} {sq : Int32} {z : Int32} (m_xb : xb ∈ L) (e_xb : f xb = .inr (6, [.ref wo, .ref Sl, .ref dr, .ref ri, .ref th, .ref so, .ref ch, .int md])) (m_Sl : Sl ∈ L) (e_Sl : f Sl = .inl (g 5, 30, .inr (.inr (.inr (.inr sf)))))   (hs2 : mX8_sieveAt md sf sq = some none) (hM : mX8_missedN = some z) : cI l yX8_missed wsX8_missed { frames := 1, cells := 0, slots := 0, locals := 21 } D g [.ref xb, .int sq] L f 0 0 (fun x L1 f1 => x = z ∧ L1 = L ∧ f1 = f) := by
  refine cI_of (cc := cX8_missed) (maxL := 5) (ret := (some .int)) (by decide) rfl (Nat.le_of_ble_eq_true rfl) ?_
  intro szz p e s m below meth c hx hb hr hml hts hown hlk hnm S ls hl
  have hl : lv_has ls 5 [(0, .ref xb), (1, .int sq)] := hl
  unfold mX8_missedN at hM
  refine W_gen (fun QQ hQQ => ?_)
  refine lv_aload_n hx hb dX8_missed_0 rfl (lv_at hl 0 rfl) ?_
  refine lv_iload_n hx hb dX8_missed_1 rfl (lv_at hl 1 rfl) ?_
  refine q_vq (As := [.int sq]) (rest := []) ⟨hx, hb, hml, hown, hts⟩ (k_X8_sieveAt l D g m_xb e_xb m_Sl e_Sl hs2) (cwV 1 hts gX8_missed_X8_sieveAt rfl rfl rfl (by decide +kernel) ⟨Nat.le_of_ble_eq_true rfl, Nat.le_of_ble_eq_true rfl⟩) S m_xb e_xb (T := TX8) (N := 8) rfl rfl hl.1 rfl (Nat.le_of_ble_eq_true rfl) dX8_missed_2 ⟨Nat.le_of_ble_eq_true rfl, Nat.le_of_ble_eq_true rfl⟩ (fun r3 L1 f2 H locs S w2 => ?_)
  obtain ⟨ex, eL, ef⟩ := w2
  rw [eL, ef] at S
  replace ex := ex.symm
  subst ex
  refine W.eq (g2 := F0 m 5 ls [.null]) rfl ?_
  refine lv_astore_nN (lv' := [(2, .null), (0, .ref xb), (1, .int sq)]) hx hb dX8_missed_5 rfl hl (by decide) rfl (fun ls hl => ?_)
  refine lv_aload_nN hx hb dX8_missed_6 rfl (lv_at hl 0 rfl) ?_
  refine lv_ifnonnullN hx hb dX8_missed_7 ?_
  refine lv_iconst (v := (-1 : Int32)) hx hb dX8_missed_10 (by decide) ?_
  subst hQQ
  exact q_reti (post := fun x L1 f1 => x = z ∧ L1 = L ∧ f1 = f) hx hb hr hlk S dX8_missed_11 (by decide) (by decide) (by have hz := Option.some.inj hM; subst hz; exact ⟨rfl, rfl, rfl⟩)

def mX8_aboutN  : Option (Int32) := some (-1 : Int32)
set_option maxHeartbeats 4000000 in
set_option maxRecDepth 100000 in
theorem k_X8_aboutN (l : Launch) (D : va_G) (g : Nat → ClassId) {L : List Nat} {f : Nat → va_E} {Sl ch dr ri so th wo xb : Nat} {md : Int32} {sf : Nat → Option Nat} {sq : Int32} {wh : Int32} {z : Int32} (m_xb : xb ∈ L) (e_xb : f xb = .inr (6, [.ref wo, .ref Sl, .ref dr, .ref ri, .ref th, .ref so, .ref ch, .int md])) (m_Sl : Sl ∈ L) (e_Sl : f Sl = .inl (g 5, 30, .inr (.inr (.inr (.inr sf)))))   (hs2 : mX8_sieveAt md sf sq = some none) (hM : mX8_aboutN = some z) : cI l yX8_about wsX8_about { frames := 1, cells := 0, slots := 0, locals := 21 } D g [.ref xb, .int sq, .int wh] L f 0 0 (fun x L1 f1 => x = z ∧ L1 = L ∧ f1 = f) := by
  refine cI_of (cc := cX8_about) (maxL := 4) (ret := (some .int)) (by decide) rfl (Nat.le_of_ble_eq_true rfl) ?_
  intro szz p e s m below meth c hx hb hr hml hts hown hlk hnm S ls hl
  have hl : lv_has ls 4 [(0, .ref xb), (1, .int sq), (2, .int wh)] := hl
  unfold mX8_aboutN at hM
  refine W_gen (fun QQ hQQ => ?_)
  refine lv_aload_n hx hb dX8_about_0 rfl (lv_at hl 0 rfl) ?_
  refine lv_iload_n hx hb dX8_about_1 rfl (lv_at hl 1 rfl) ?_
  refine q_vq (As := [.int sq]) (rest := []) ⟨hx, hb, hml, hown, hts⟩ (k_X8_sieveAt l D g m_xb e_xb m_Sl e_Sl hs2) (cwV 1 hts gX8_about_X8_sieveAt rfl rfl rfl (by decide +kernel) ⟨Nat.le_of_ble_eq_true rfl, Nat.le_of_ble_eq_true rfl⟩) S m_xb e_xb (T := TX8) (N := 8) rfl rfl hl.1 rfl (Nat.le_of_ble_eq_true rfl) dX8_about_2 ⟨Nat.le_of_ble_eq_true rfl, Nat.le_of_ble_eq_true rfl⟩ (fun r3 L1 f2 H locs S w2 => ?_)
  obtain ⟨ex, eL, ef⟩ := w2
  rw [eL, ef] at S
  replace ex := ex.symm
  subst ex
  refine W.eq (g2 := F0 m 5 ls [.null]) rfl ?_
  refine lv_astore_nN (lv' := [(3, .null), (0, .ref xb), (1, .int sq), (2, .int wh)]) hx hb dX8_about_5 rfl hl (by decide) rfl (fun ls hl => ?_)
  refine lv_aload_nN hx hb dX8_about_6 rfl (lv_at hl 0 rfl) ?_
  refine lv_ifnonnullN hx hb dX8_about_7 ?_
  refine lv_iconst (v := (-1 : Int32)) hx hb dX8_about_10 (by decide) ?_
  subst hQQ
  exact q_reti (post := fun x L1 f1 => x = z ∧ L1 = L ∧ f1 = f) hx hb hr hlk S dX8_about_11 (by decide) (by decide) (by have hz := Option.some.inj hM; subst hz; exact ⟨rfl, rfl, rfl⟩)

def mX8_layerL (i : Int32) (wh : Int32) (kd : Int32) (lc : Int32) (kca : Nat → Int32) (lz : Nat → Int32) (ld : Nat → Nat → Int64) : Option (Int32) := if wh < 0 then (some (-1 : Int32)) else (if wh ≤ (2 : Int32) then (if kd = (4 : Int32) then ((mX3_factF lc kca lz ld i wh).bind fun z50 => some z50) else (some (-2 : Int32))) else (some (-1 : Int32)))
set_option maxRecDepth 20000 in
theorem gu_wsX8_layer_3 : ∀ w ∈ wsX60, w ∈ wsX8_layer := fun _ h => List.mem_cons_of_mem _ (List.mem_append_left _ (List.mem_append_left _ (List.mem_append_left _ (List.mem_append_right _ h))))
set_option maxHeartbeats 4000000 in
set_option maxRecDepth 100000 in
theorem k_X8_layerL (l : Launch) (D : va_G) (g : Nat → ClassId) {L : List Nat} {f : Nat → va_E} {lb lw : Nat → Nat} {Sl ca ce ch co dr h la re ri ro so th wo xb : Nat} {md : Int32} {sf : Nat → Option Nat} {sq : Int32} {i : Int32} {wh : Int32} {kd : Int32} {sz : Int32} {mk : Int32} {sd : Int32} {lc : Int32} {lsd : Int32} {rf : Nat → Option Nat} {kca : Nat → Int32} {lz : Nat → Int32} {ld : Nat → Nat → Int64} {z : Int32} (m_xb : xb ∈ L) (e_xb : f xb = .inr (6, [.ref wo, .ref Sl, .ref dr, .ref ri, .ref th, .ref so, .ref ch, .int md])) (m_Sl : Sl ∈ L) (e_Sl : f Sl = .inl (g 5, 30, .inr (.inr (.inr (.inr sf))))) (m_h : h ∈ L) (e_h : f h = .inr (4, [.ref ce, .ref co, .ref la, .int kd, .int sz, .int mk, .int sd])) (m_la : la ∈ L) (e_la : f la = .inr (3, [.ref ro, .ref ca, .ref re, .int lc, .int lsd])) (m_ro : ro ∈ L) (e_ro : f ro = .inl (g 4, 20, .inr (.inr (.inr (.inr rf))))) (m_ca : ca ∈ L) (e_ca : f ca = .inl (g 0, 20, .inl kca)) (e_fam : LF g L f rf lb lw lz ld)   (hs2 : mX8_sieveAt md sf sq = some (some h)) (hM : mX8_layerL i wh kd lc kca lz ld = some z) : cI l yX8_layer wsX8_layer { frames := 3, cells := 0, slots := 0, locals := 65 } D g [.ref xb, .int sq, .int i, .int wh] L f 0 0 (fun x L1 f1 => x = z ∧ L1 = L ∧ f1 = f) := by
  refine cI_of (cc := cX8_layer) (maxL := 5) (ret := (some .int)) (by decide) rfl (Nat.le_of_ble_eq_true rfl) ?_
  intro szz p e s m below meth c hx hb hr hml hts hown hlk hnm S ls hl
  have hl : lv_has ls 5 [(0, .ref xb), (1, .int sq), (2, .int i), (3, .int wh)] := hl
  have in_X6 : ∀ w ∈ wsX60, w ∈ wsX8_layer := gu_wsX8_layer_3
  unfold mX8_layerL at hM
  refine W_gen (fun QQ hQQ => ?_)
  refine lv_aload_n hx hb dX8_layer_0 rfl (lv_at hl 0 rfl) ?_
  refine lv_iload_n hx hb dX8_layer_1 rfl (lv_at hl 1 rfl) ?_
  refine q_vq (As := [.int sq]) (rest := []) ⟨hx, hb, hml, hown, hts⟩ (k_X8_sieveAt l D g m_xb e_xb m_Sl e_Sl hs2) (cwV 1 hts gX8_layer_X8_sieveAt rfl rfl rfl (by decide +kernel) ⟨Nat.le_of_ble_eq_true rfl, Nat.le_of_ble_eq_true rfl⟩) S m_xb e_xb (T := TX8) (N := 8) rfl rfl hl.1 rfl (Nat.le_of_ble_eq_true rfl) dX8_layer_2 ⟨Nat.le_of_ble_eq_true rfl, Nat.le_of_ble_eq_true rfl⟩ (fun r3 L1 f2 H locs S w2 => ?_)
  obtain ⟨ex, eL, ef⟩ := w2
  rw [eL, ef] at S
  replace ex := ex.symm
  subst ex
  refine W.eq (g2 := F0 m 5 ls [.ref h]) rfl ?_
  refine lv_astore (lv' := [(4, .ref h), (0, .ref xb), (1, .int sq), (2, .int i), (3, .int wh)]) hx hb dX8_layer_5 hl (by decide) rfl (fun ls hl => ?_)
  refine lv_aload hx hb dX8_layer_7 (lv_at hl 0 rfl) ?_
  refine lv_ifnull hx hb dX8_layer_9 ?_
  refine lv_iload_n hx hb dX8_layer_12 rfl (lv_at hl 4 rfl) ?_
  refine lv_if_lt (tgt := 21) hx hb dX8_layer_13 (by decide) (fun b13 => ?_) (fun b13 => ?_)
  · have hM := itT b13 hM
    refine lv_iconst (v := (-1 : Int32)) hx hb dX8_layer_21 (by decide) ?_
    subst hQQ
    exact q_reti (post := fun x L1 f1 => x = z ∧ L1 = L ∧ f1 = f) hx hb hr hlk S dX8_layer_22 (by decide) (by decide) (by have hz := Option.some.inj hM; subst hz; exact ⟨rfl, rfl, rfl⟩)
  · have hM := itF b13 hM
    refine lv_iload_n hx hb dX8_layer_16 rfl (lv_at hl 4 rfl) ?_
    refine lv_iconst (v := (2 : Int32)) hx hb dX8_layer_17 (by decide) ?_
    refine lv_icmp_le (tgt := 23) hx hb dX8_layer_18 (by decide) (fun b18 => ?_) (fun b18 => ?_)
    · have hM := itT b18 hM
      refine lv_aload hx hb dX8_layer_23 (lv_at hl 0 rfl) ?_
      refine q_getN hx hb hts in_X6 hown S m_h e_h (C := RX6) (T := TX6) (N := 7) rfl 3 (by decide) rfl (by decide) dX8_layer_25 ?_
      refine lv_iconst (v := (4 : Int32)) hx hb dX8_layer_28 (by decide) ?_
      refine lv_icmp_ne (tgt := 40) hx hb dX8_layer_29 (by decide) (fun b29 => ?_) (fun b29 => ?_)
      · have hM := itF b29 hM
        refine lv_bipush (v := (-2 : Int32)) hx hb dX8_layer_40 (by decide) ?_
        subst hQQ
        exact q_reti (post := fun x L1 f1 => x = z ∧ L1 = L ∧ f1 = f) hx hb hr hlk S dX8_layer_42 (by decide) (by decide) (by have hz := Option.some.inj hM; subst hz; exact ⟨rfl, rfl, rfl⟩)
      · have hM := itT b29 hM
        refine lv_aload hx hb dX8_layer_32 (lv_at hl 0 rfl) ?_
        refine q_getN hx hb hts in_X6 hown S m_h e_h (C := RX6) (T := TX6) (N := 7) rfl 2 (by decide) rfl (by decide) dX8_layer_34 ?_
        refine lv_ifnonnull (tgt := 43) hx hb dX8_layer_37 (by decide) ?_
        refine lv_aload hx hb dX8_layer_43 (lv_at hl 0 rfl) ?_
        refine q_getN hx hb hts in_X6 hown S m_h e_h (C := RX6) (T := TX6) (N := 7) rfl 2 (by decide) rfl (by decide) dX8_layer_45 ?_
        refine lv_iload_n hx hb dX8_layer_48 rfl (lv_at hl 3 rfl) ?_
        refine lv_iload_n hx hb dX8_layer_49 rfl (lv_at hl 4 rfl) ?_
        obtain ⟨z50, hz50, hM⟩ := bind_some hM
        refine q_vi (As := [.int i, .int wh]) (rest := []) ⟨hx, hb, hml, hown, hts⟩ (k_X3_factF l D g m_la e_la m_ro e_ro m_ca e_ca e_fam hz50) (cwV 2 hts gX8_layer_X3_fact rfl rfl rfl (by decide +kernel) ⟨Nat.le_of_ble_eq_true rfl, Nat.le_of_ble_eq_true rfl⟩) S m_la e_la (T := TX3) (N := 5) rfl rfl hl.1 rfl (Nat.le_of_ble_eq_true rfl) dX8_layer_50 ⟨Nat.le_of_ble_eq_true rfl, Nat.le_of_ble_eq_true rfl⟩ (fun r6 L4 f5 H locs S w50 => ?_)
        obtain ⟨ex50, eL, ef⟩ := w50
        rw [eL, ef] at S
        replace ex50 := ex50.symm
        subst ex50
        subst hQQ
        exact q_reti (post := fun x L1 f1 => x = z ∧ L1 = L ∧ f1 = f) hx hb hr hlk S dX8_layer_53 (by decide) (by decide) (by have hz := Option.some.inj hM; subst hz; exact ⟨rfl, rfl, rfl⟩)
    · have hM := itF b18 hM
      refine lv_iconst (v := (-1 : Int32)) hx hb dX8_layer_21 (by decide) ?_
      subst hQQ
      exact q_reti (post := fun x L1 f1 => x = z ∧ L1 = L ∧ f1 = f) hx hb hr hlk S dX8_layer_22 (by decide) (by decide) (by have hz := Option.some.inj hM; subst hz; exact ⟨rfl, rfl, rfl⟩)

def mX8_layerG (wh : Int32) (kd : Int32) : Option (Int32) := if wh < 0 then (some (-1 : Int32)) else (if wh ≤ (2 : Int32) then (if kd = (4 : Int32) then none else (some (-2 : Int32))) else (some (-1 : Int32)))
set_option maxHeartbeats 4000000 in
set_option maxRecDepth 100000 in
theorem k_X8_layerG (l : Launch) (D : va_G) (g : Nat → ClassId) {L : List Nat} {f : Nat → va_E} {Sl ce ch co dr h ri so th wo xb : Nat} {md : Int32} {sf : Nat → Option Nat} {sq : Int32} {i : Int32} {wh : Int32} {lay : Value} {kd : Int32} {sz : Int32} {mk : Int32} {sd : Int32} {z : Int32} (m_xb : xb ∈ L) (e_xb : f xb = .inr (6, [.ref wo, .ref Sl, .ref dr, .ref ri, .ref th, .ref so, .ref ch, .int md])) (m_Sl : Sl ∈ L) (e_Sl : f Sl = .inl (g 5, 30, .inr (.inr (.inr (.inr sf))))) (m_h : h ∈ L) (e_h : f h = .inr (4, [.ref ce, .ref co, lay, .int kd, .int sz, .int mk, .int sd]))   (hs2 : mX8_sieveAt md sf sq = some (some h)) (hM : mX8_layerG wh kd = some z) : cI l yX8_layer wsX8_layer { frames := 1, cells := 0, slots := 0, locals := 21 } D g [.ref xb, .int sq, .int i, .int wh] L f 0 0 (fun x L1 f1 => x = z ∧ L1 = L ∧ f1 = f) := by
  refine cI_of (cc := cX8_layer) (maxL := 5) (ret := (some .int)) (by decide) rfl (Nat.le_of_ble_eq_true rfl) ?_
  intro szz p e s m below meth c hx hb hr hml hts hown hlk hnm S ls hl
  have hl : lv_has ls 5 [(0, .ref xb), (1, .int sq), (2, .int i), (3, .int wh)] := hl
  have in_X6 : ∀ w ∈ wsX60, w ∈ wsX8_layer := gu_wsX8_layer_3
  unfold mX8_layerG at hM
  refine W_gen (fun QQ hQQ => ?_)
  refine lv_aload_n hx hb dX8_layer_0 rfl (lv_at hl 0 rfl) ?_
  refine lv_iload_n hx hb dX8_layer_1 rfl (lv_at hl 1 rfl) ?_
  refine q_vq (As := [.int sq]) (rest := []) ⟨hx, hb, hml, hown, hts⟩ (k_X8_sieveAt l D g m_xb e_xb m_Sl e_Sl hs2) (cwV 1 hts gX8_layer_X8_sieveAt rfl rfl rfl (by decide +kernel) ⟨Nat.le_of_ble_eq_true rfl, Nat.le_of_ble_eq_true rfl⟩) S m_xb e_xb (T := TX8) (N := 8) rfl rfl hl.1 rfl (Nat.le_of_ble_eq_true rfl) dX8_layer_2 ⟨Nat.le_of_ble_eq_true rfl, Nat.le_of_ble_eq_true rfl⟩ (fun r3 L1 f2 H locs S w2 => ?_)
  obtain ⟨ex, eL, ef⟩ := w2
  rw [eL, ef] at S
  replace ex := ex.symm
  subst ex
  refine W.eq (g2 := F0 m 5 ls [.ref h]) rfl ?_
  refine lv_astore (lv' := [(4, .ref h), (0, .ref xb), (1, .int sq), (2, .int i), (3, .int wh)]) hx hb dX8_layer_5 hl (by decide) rfl (fun ls hl => ?_)
  refine lv_aload hx hb dX8_layer_7 (lv_at hl 0 rfl) ?_
  refine lv_ifnull hx hb dX8_layer_9 ?_
  refine lv_iload_n hx hb dX8_layer_12 rfl (lv_at hl 4 rfl) ?_
  refine lv_if_lt (tgt := 21) hx hb dX8_layer_13 (by decide) (fun b13 => ?_) (fun b13 => ?_)
  · have hM := itT b13 hM
    refine lv_iconst (v := (-1 : Int32)) hx hb dX8_layer_21 (by decide) ?_
    subst hQQ
    exact q_reti (post := fun x L1 f1 => x = z ∧ L1 = L ∧ f1 = f) hx hb hr hlk S dX8_layer_22 (by decide) (by decide) (by have hz := Option.some.inj hM; subst hz; exact ⟨rfl, rfl, rfl⟩)
  · have hM := itF b13 hM
    refine lv_iload_n hx hb dX8_layer_16 rfl (lv_at hl 4 rfl) ?_
    refine lv_iconst (v := (2 : Int32)) hx hb dX8_layer_17 (by decide) ?_
    refine lv_icmp_le (tgt := 23) hx hb dX8_layer_18 (by decide) (fun b18 => ?_) (fun b18 => ?_)
    · have hM := itT b18 hM
      refine lv_aload hx hb dX8_layer_23 (lv_at hl 0 rfl) ?_
      refine q_getN hx hb hts in_X6 hown S m_h e_h (C := RX6) (T := TX6) (N := 7) rfl 3 (by decide) rfl (by decide) dX8_layer_25 ?_
      refine lv_iconst (v := (4 : Int32)) hx hb dX8_layer_28 (by decide) ?_
      refine lv_icmp_ne (tgt := 40) hx hb dX8_layer_29 (by decide) (fun b29 => ?_) (fun b29 => ?_)
      · have hM := itF b29 hM
        refine lv_bipush (v := (-2 : Int32)) hx hb dX8_layer_40 (by decide) ?_
        subst hQQ
        exact q_reti (post := fun x L1 f1 => x = z ∧ L1 = L ∧ f1 = f) hx hb hr hlk S dX8_layer_42 (by decide) (by decide) (by have hz := Option.some.inj hM; subst hz; exact ⟨rfl, rfl, rfl⟩)
      · have hM := itT b29 hM
        refine lv_aload hx hb dX8_layer_32 (lv_at hl 0 rfl) ?_
        refine q_getN hx hb hts in_X6 hown S m_h e_h (C := RX6) (T := TX6) (N := 7) rfl 2 (by decide) rfl (by decide) dX8_layer_34 ?_
        exact no_some hM
    · have hM := itF b18 hM
      refine lv_iconst (v := (-1 : Int32)) hx hb dX8_layer_21 (by decide) ?_
      subst hQQ
      exact q_reti (post := fun x L1 f1 => x = z ∧ L1 = L ∧ f1 = f) hx hb hr hlk S dX8_layer_22 (by decide) (by decide) (by have hz := Option.some.inj hM; subst hz; exact ⟨rfl, rfl, rfl⟩)

def mX8_layerN  : Option (Int32) := some (-1 : Int32)
set_option maxHeartbeats 4000000 in
set_option maxRecDepth 100000 in
theorem k_X8_layerN (l : Launch) (D : va_G) (g : Nat → ClassId) {L : List Nat} {f : Nat → va_E} {Sl ch dr ri so th wo xb : Nat} {md : Int32} {sf : Nat → Option Nat} {sq : Int32} {i : Int32} {wh : Int32} {z : Int32} (m_xb : xb ∈ L) (e_xb : f xb = .inr (6, [.ref wo, .ref Sl, .ref dr, .ref ri, .ref th, .ref so, .ref ch, .int md])) (m_Sl : Sl ∈ L) (e_Sl : f Sl = .inl (g 5, 30, .inr (.inr (.inr (.inr sf)))))   (hs2 : mX8_sieveAt md sf sq = some none) (hM : mX8_layerN = some z) : cI l yX8_layer wsX8_layer { frames := 1, cells := 0, slots := 0, locals := 21 } D g [.ref xb, .int sq, .int i, .int wh] L f 0 0 (fun x L1 f1 => x = z ∧ L1 = L ∧ f1 = f) := by
  refine cI_of (cc := cX8_layer) (maxL := 5) (ret := (some .int)) (by decide) rfl (Nat.le_of_ble_eq_true rfl) ?_
  intro szz p e s m below meth c hx hb hr hml hts hown hlk hnm S ls hl
  have hl : lv_has ls 5 [(0, .ref xb), (1, .int sq), (2, .int i), (3, .int wh)] := hl
  unfold mX8_layerN at hM
  refine W_gen (fun QQ hQQ => ?_)
  refine lv_aload_n hx hb dX8_layer_0 rfl (lv_at hl 0 rfl) ?_
  refine lv_iload_n hx hb dX8_layer_1 rfl (lv_at hl 1 rfl) ?_
  refine q_vq (As := [.int sq]) (rest := []) ⟨hx, hb, hml, hown, hts⟩ (k_X8_sieveAt l D g m_xb e_xb m_Sl e_Sl hs2) (cwV 1 hts gX8_layer_X8_sieveAt rfl rfl rfl (by decide +kernel) ⟨Nat.le_of_ble_eq_true rfl, Nat.le_of_ble_eq_true rfl⟩) S m_xb e_xb (T := TX8) (N := 8) rfl rfl hl.1 rfl (Nat.le_of_ble_eq_true rfl) dX8_layer_2 ⟨Nat.le_of_ble_eq_true rfl, Nat.le_of_ble_eq_true rfl⟩ (fun r3 L1 f2 H locs S w2 => ?_)
  obtain ⟨ex, eL, ef⟩ := w2
  rw [eL, ef] at S
  replace ex := ex.symm
  subst ex
  refine W.eq (g2 := F0 m 5 ls [.null]) rfl ?_
  refine lv_astoreN (lv' := [(4, .null), (0, .ref xb), (1, .int sq), (2, .int i), (3, .int wh)]) hx hb dX8_layer_5 hl (by decide) rfl (fun ls hl => ?_)
  refine lv_aloadN hx hb dX8_layer_7 (lv_at hl 0 rfl) ?_
  refine lv_ifnullN (tgt := 21) hx hb dX8_layer_9 (by decide) ?_
  refine lv_iconst (v := (-1 : Int32)) hx hb dX8_layer_21 (by decide) ?_
  subst hQQ
  exact q_reti (post := fun x L1 f1 => x = z ∧ L1 = L ∧ f1 = f) hx hb hr hlk S dX8_layer_22 (by decide) (by decide) (by have hz := Option.some.inj hM; subst hz; exact ⟨rfl, rfl, rfl⟩)
