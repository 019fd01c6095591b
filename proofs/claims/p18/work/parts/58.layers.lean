def mX3_count (lc : Int32) : Option (Int32) := some lc
set_option maxRecDepth 20000 in
theorem gu_wsX3_count_2 : ∀ w ∈ wsX30, w ∈ wsX3_count := fun _ h => List.mem_cons_of_mem _ (List.mem_append_right _ h)
set_option maxRecDepth 20000 in
theorem gu_wsX3_count_1 : ∀ w ∈ ([Cond.fieldLink RX3 29 "SieveCabinet$Layers" "count" "I"] : List Cond), w ∈ wsX3_count := fun _ h => List.mem_cons_of_mem _ (List.mem_append_left _ h)
set_option maxHeartbeats 4000000 in
set_option maxRecDepth 100000 in
theorem k_X3_count (l : Launch) (D : va_G) (g : Nat → ClassId) {L : List Nat} {f : Nat → va_E} {ca la re ro : Nat} {lc : Int32} {lsd : Int32} {z : Int32} (m_la : la ∈ L) (e_la : f la = .inr (3, [.ref ro, .ref ca, .ref re, .int lc, .int lsd]))    (hM : mX3_count lc = some z) : cI l yX3_count wsX3_count { frames := 0, cells := 0, slots := 0, locals := 0 } D g [.ref la] L f 0 0 (fun x L1 f1 => x = z ∧ L1 = L ∧ f1 = f) := by
  refine cI_of (cc := cX3_count) (maxL := 1) (ret := (some .int)) (by decide) rfl (Nat.le_of_ble_eq_true rfl) ?_
  intro szz p e s m below meth c hx hb hr hml hts hown hlk hnm S ls hl
  have hl : lv_has ls 1 [(0, .ref la)] := hl
  have in_X3 : ∀ w ∈ wsX30, w ∈ wsX3_count := gu_wsX3_count_2
  unfold mX3_count at hM
  refine W_gen (fun QQ hQQ => ?_)
  refine lv_aload_n hx hb dX3_count_0 rfl (lv_at hl 0 rfl) ?_
  refine q_get hx hb hts in_X3 hown S m_la e_la (C := RX3) (T := TX3) (N := 5) rfl 3 (by decide) rfl (hts (.fieldLink RX3 29 "SieveCabinet$Layers" "count" "I") (gu_wsX3_count_1 _ gm_0)) dX3_count_1 ?_
  subst hQQ
  exact q_reti (post := fun x L1 f1 => x = z ∧ L1 = L ∧ f1 = f) hx hb hr hlk S dX3_count_4 (by decide) (by decide) (by have hz := Option.some.inj hM; subst hz; exact ⟨rfl, rfl, rfl⟩)

def mX3_restCount (rn : Int32) : Option (Int32) := (mX0_count rn).bind fun z4 => some z4
set_option maxRecDepth 20000 in
theorem gu_wsX3_restCount_2 : ∀ w ∈ wsX30, w ∈ wsX3_restCount := fun _ h => List.mem_cons_of_mem _ (List.mem_append_left _ (List.mem_append_right _ h))
set_option maxHeartbeats 4000000 in
set_option maxRecDepth 100000 in
theorem k_X3_restCount (l : Launch) (D : va_G) (g : Nat → ClassId) {L : List Nat} {f : Nat → va_E} {ca la re ro rr : Nat} {lc : Int32} {lsd : Int32} {rn : Int32} {z : Int32} (m_la : la ∈ L) (e_la : f la = .inr (3, [.ref ro, .ref ca, .ref re, .int lc, .int lsd])) (m_re : re ∈ L) (e_re : f re = .inr (0, [.ref rr, .int rn]))    (hM : mX3_restCount rn = some z) : cI l yX3_restCount wsX3_restCount { frames := 1, cells := 0, slots := 0, locals := 20 } D g [.ref la] L f 0 0 (fun x L1 f1 => x = z ∧ L1 = L ∧ f1 = f) := by
  refine cI_of (cc := cX3_restCount) (maxL := 1) (ret := (some .int)) (by decide) rfl (Nat.le_of_ble_eq_true rfl) ?_
  intro szz p e s m below meth c hx hb hr hml hts hown hlk hnm S ls hl
  have hl : lv_has ls 1 [(0, .ref la)] := hl
  have in_X3 : ∀ w ∈ wsX30, w ∈ wsX3_restCount := gu_wsX3_restCount_2
  unfold mX3_restCount at hM
  refine W_gen (fun QQ hQQ => ?_)
  refine lv_aload_n hx hb dX3_restCount_0 rfl (lv_at hl 0 rfl) ?_
  refine q_get hx hb hts in_X3 hown S m_la e_la (C := RX3) (T := TX3) (N := 5) rfl 2 (by decide) rfl (hts (.fieldLink RX3 24 "SieveCabinet$Layers" "rest" "LSieveCabinet$Bag;") (gu_wsX3_restCount_1 _ gm_0)) dX3_restCount_1 ?_
  obtain ⟨z4, hz4, hM⟩ := bind_some hM
  refine q_vi (As := []) (rest := []) ⟨hx, hb, hml, hown, hts⟩ (k_X0_count l D g m_re e_re hz4) (cwV 0 hts gX3_restCount_X0_count rfl rfl rfl (by decide +kernel) ⟨Nat.le_of_ble_eq_true rfl, Nat.le_of_ble_eq_true rfl⟩) S m_re e_re (T := TX0) (N := 2) rfl rfl hl.1 rfl (Nat.le_of_ble_eq_true rfl) dX3_restCount_4 ⟨Nat.le_of_ble_eq_true rfl, Nat.le_of_ble_eq_true rfl⟩ (fun r3 L1 f2 H locs S w4 => ?_)
  obtain ⟨ex4, eL, ef⟩ := w4
  rw [eL, ef] at S
  replace ex4 := ex4.symm
  subst ex4
  subst hQQ
  exact q_reti (post := fun x L1 f1 => x = z ∧ L1 = L ∧ f1 = f) hx hb hr hlk S dX3_restCount_7 (by decide) (by decide) (by have hz := Option.some.inj hM; subst hz; exact ⟨rfl, rfl, rfl⟩)

def mX3_sizeFor_L3 (co_ : Int32) : Nat → Int32 → Option (Int32)
  | 0, _ => none
  | fu + 1, x1_3 => if (4096 : Int32) ≤ x1_3 then (some x1_3) else (if ((8 : Int32) * co_) ≤ x1_3 then (some x1_3) else (mX3_sizeFor_L3 co_ fu (x1_3 * (2 : Int32))))
def mX3_sizeFor (co_ : Int32) : Option (Int32) := (mX3_sizeFor_L3 co_ FU (8 : Int32)).bind fun o3 => some o3
set_option maxHeartbeats 4000000 in
set_option maxRecDepth 100000 in
theorem k_X3_sizeFor (l : Launch) (D : va_G) (g : Nat → ClassId) {L : List Nat} {f : Nat → va_E} {co_ : Int32} {z : Int32}     (hM : mX3_sizeFor co_ = some z) : cI l yX3_sizeFor wsX3_sizeFor { frames := 0, cells := 0, slots := 0, locals := 0 } D g [.int co_] L f 0 0 (fun x L1 f1 => x = z ∧ L1 = L ∧ f1 = f) := by
  refine cI_of (cc := cX3_sizeFor) (maxL := 2) (ret := (some .int)) (by decide) rfl (Nat.le_of_ble_eq_true rfl) ?_
  intro szz p e s m below meth c hx hb hr hml hts hown hlk hnm S ls hl
  have hl : lv_has ls 2 [(0, .int co_)] := hl
  unfold mX3_sizeFor at hM
  refine W_gen (fun QQ hQQ => ?_)
  refine lv_bipush (v := (8 : Int32)) hx hb dX3_sizeFor_0 (by decide) ?_
  refine lv_istore_n (lv' := [(1, .int (8 : Int32)), (0, .int co_)]) hx hb dX3_sizeFor_2 rfl hl (by decide) rfl (fun ls hl => ?_)
  obtain ⟨o3, ho3, hM⟩ := bind_some hM
  have EX3 : ∀ (H : Heap) (locs : List Loc) (ls : Array Slot), PS D g (va_A (va_pl L f) szz) s.heap s L f H locs → lv_has ls 2 [(1, .int o3)] → W p l e { frames := 0, cells := 0, slots := 0, locals := 0 } s m [.int co_].toArray below meth c H locs 0 0 QQ (F0 m 25 ls []) := by
    intro H locs ls S hl
    refine lv_iload_n hx hb dX3_sizeFor_25 rfl (lv_at hl 0 rfl) ?_
    subst hQQ
    exact q_reti (post := fun x L1 f1 => x = z ∧ L1 = L ∧ f1 = f) hx hb hr hlk S dX3_sizeFor_26 (by decide) (by decide) (by have hz := Option.some.inj hM; subst hz; exact ⟨rfl, rfl, rfl⟩)
  have LP3 : ∀ (fu : Nat) (x1_3 : Int32) (H : Heap) (locs : List Loc) (ls : Array Slot), (mX3_sizeFor_L3 co_) fu x1_3 = some o3 → PS D g (va_A (va_pl L f) szz) s.heap s L f H locs → lv_has ls 2 [(1, .int x1_3), (0, .int co_)] → W p l e { frames := 0, cells := 0, slots := 0, locals := 0 } s m [.int co_].toArray below meth c H locs 0 0 QQ (F0 m 3 ls []) := by
    intro fu
    induction fu with
    | zero => intro x1_3 H locs ls ho3 S hl; exact no_some ho3
    | succ fu ih3 =>
      intro x1_3 H locs ls ho3 S hl
      rw [mX3_sizeFor_L3] at ho3
      refine lv_iload_n hx hb dX3_sizeFor_3 rfl (lv_at hl 0 rfl) ?_
      refine lv_sipush (v := (4096 : Int32)) hx hb dX3_sizeFor_4 (by decide) ?_
      refine lv_icmp_ge (tgt := 25) hx hb dX3_sizeFor_7 (by decide) (fun b7 => ?_) (fun b7 => ?_)
      · have ho3 := itT b7 ho3
        obtain rfl := Option.some.inj ho3
        exact EX3 _ _ _ S (lv_sub hl [0] rfl)
      · have ho3 := itF b7 ho3
        refine lv_iload_n hx hb dX3_sizeFor_10 rfl (lv_at hl 0 rfl) ?_
        refine lv_bipush (v := (8 : Int32)) hx hb dX3_sizeFor_11 (by decide) ?_
        refine lv_iload_n hx hb dX3_sizeFor_13 rfl (lv_at hl 1 rfl) ?_
        refine lv_imul hx hb dX3_sizeFor_14 ?_
        refine lv_icmp_ge (tgt := 25) hx hb dX3_sizeFor_15 (by decide) (fun b15 => ?_) (fun b15 => ?_)
        · have ho3 := itT b15 ho3
          obtain rfl := Option.some.inj ho3
          exact EX3 _ _ _ S (lv_sub hl [0] rfl)
        · have ho3 := itF b15 ho3
          refine lv_iload_n hx hb dX3_sizeFor_18 rfl (lv_at hl 0 rfl) ?_
          refine lv_iconst (v := (2 : Int32)) hx hb dX3_sizeFor_19 (by decide) ?_
          refine lv_imul hx hb dX3_sizeFor_20 ?_
          refine lv_istore_n (lv' := [(1, .int (x1_3 * (2 : Int32))), (0, .int co_)]) hx hb dX3_sizeFor_21 rfl hl (by decide) rfl (fun ls hl => ?_)
          refine lv_goto (tgt := 3) hx hb dX3_sizeFor_22 (by decide) ?_
          exact ih3 (x1_3 * (2 : Int32)) _ _ _ ho3 S (lv_sub hl [0, 1] rfl)
  exact LP3 FU (8 : Int32) _ _ _ ho3 S (lv_sub hl [0, 1] rfl)

def mX3_isRestBehind (kca : Nat → Int32) (i : Int32) (cm : Int32) : Option (Int32) := if (20 : Int32) ≤ (i + (1 : Int32)) then (some (1 : Int32)) else (if i < (1 : Int32) then (some (0 : Int32)) else (if ix (i - (1 : Int32)) 20 = true then (if cm = (kca (Int32.toNatClampNeg (i - (1 : Int32)))) then (some (1 : Int32)) else (some (0 : Int32))) else none))
set_option maxRecDepth 20000 in
theorem gu_wsX3_isRestBehind_2 : ∀ w ∈ wsX30, w ∈ wsX3_isRestBehind := fun _ h => List.mem_cons_of_mem _ (List.mem_append_right _ h)
set_option maxRecDepth 20000 in
theorem gu_wsX3_isRestBehind_1 : ∀ w ∈ ([Cond.fieldLink RX3 17 "SieveCabinet$Layers" "came" "[I"] : List Cond), w ∈ wsX3_isRestBehind := fun _ h => List.mem_cons_of_mem _ (List.mem_append_left _ h)
set_option maxHeartbeats 4000000 in
set_option maxRecDepth 100000 in
theorem k_X3_isRestBehind (l : Launch) (D : va_G) (g : Nat → ClassId) {L : List Nat} {f : Nat → va_E} {ca la re ro : Nat} {lc : Int32} {lsd : Int32} {kca : Nat → Int32} {i : Int32} {cm : Int32} {z : Int32} (m_la : la ∈ L) (e_la : f la = .inr (3, [.ref ro, .ref ca, .ref re, .int lc, .int lsd])) (m_ca : ca ∈ L) (e_ca : f ca = .inl (g 0, 20, .inl kca))    (hM : mX3_isRestBehind kca i cm = some z) : cI l yX3_isRestBehind wsX3_isRestBehind { frames := 0, cells := 0, slots := 0, locals := 0 } D g [.ref la, .int i, .int cm] L f 0 0 (fun x L1 f1 => x = z ∧ L1 = L ∧ f1 = f) := by
  refine cI_of (cc := cX3_isRestBehind) (maxL := 3) (ret := (some .boolean)) (by decide) rfl (Nat.le_of_ble_eq_true rfl) ?_
  intro szz p e s m below meth c hx hb hr hml hts hown hlk hnm S ls hl
  have hl : lv_has ls 3 [(0, .ref la), (1, .int i), (2, .int cm)] := hl
  have in_X3 : ∀ w ∈ wsX30, w ∈ wsX3_isRestBehind := gu_wsX3_isRestBehind_2
  unfold mX3_isRestBehind at hM
  refine W_gen (fun QQ hQQ => ?_)
  refine lv_iload_n hx hb dX3_isRestBehind_0 rfl (lv_at hl 1 rfl) ?_
  refine lv_iconst (v := (1 : Int32)) hx hb dX3_isRestBehind_1 (by decide) ?_
  refine lv_iadd hx hb dX3_isRestBehind_2 ?_
  refine lv_bipush (v := (20 : Int32)) hx hb dX3_isRestBehind_3 (by decide) ?_
  refine lv_icmp_ge (tgt := 25) hx hb dX3_isRestBehind_5 (by decide) (fun b5 => ?_) (fun b5 => ?_)
  · have hM := itT b5 hM
    refine lv_iconst (v := (1 : Int32)) hx hb dX3_isRestBehind_25 (by decide) ?_
    refine lv_goto (tgt := 30) hx hb dX3_isRestBehind_26 (by decide) ?_
    subst hQQ
    exact q_retz (post := fun x L1 f1 => x = z ∧ L1 = L ∧ f1 = f) hx hb hr hlk S dX3_isRestBehind_30 (by decide) (by decide) (by decide) (by have hz := Option.some.inj hM; subst hz; exact ⟨rfl, rfl, rfl⟩)
  · have hM := itF b5 hM
    refine lv_iload_n hx hb dX3_isRestBehind_8 rfl (lv_at hl 1 rfl) ?_
    refine lv_iconst (v := (1 : Int32)) hx hb dX3_isRestBehind_9 (by decide) ?_
    refine lv_icmp_lt (tgt := 29) hx hb dX3_isRestBehind_10 (by decide) (fun b10 => ?_) (fun b10 => ?_)
    · have hM := itT b10 hM
      refine lv_iconst (v := (0 : Int32)) hx hb dX3_isRestBehind_29 (by decide) ?_
      subst hQQ
      exact q_retz (post := fun x L1 f1 => x = z ∧ L1 = L ∧ f1 = f) hx hb hr hlk S dX3_isRestBehind_30 (by decide) (by decide) (by decide) (by have hz := Option.some.inj hM; subst hz; exact ⟨rfl, rfl, rfl⟩)
    · have hM := itF b10 hM
      refine lv_iload_n hx hb dX3_isRestBehind_13 rfl (lv_at hl 2 rfl) ?_
      refine lv_aload_n hx hb dX3_isRestBehind_14 rfl (lv_at hl 0 rfl) ?_
      refine q_get hx hb hts in_X3 hown S m_la e_la (C := RX3) (T := TX3) (N := 5) rfl 1 (by decide) rfl (hts (.fieldLink RX3 17 "SieveCabinet$Layers" "came" "[I") (gu_wsX3_isRestBehind_1 _ gm_0)) dX3_isRestBehind_15 ?_
      refine lv_iload_n hx hb dX3_isRestBehind_18 rfl (lv_at hl 1 rfl) ?_
      refine lv_iconst (v := (1 : Int32)) hx hb dX3_isRestBehind_19 (by decide) ?_
      refine lv_isub hx hb dX3_isRestBehind_20 ?_
      obtain ⟨hi21, hM⟩ := ckx hM
      refine q_iald hx hb S m_ca e_ca hi21 dX3_isRestBehind_21 ?_
      refine lv_icmp_ne (tgt := 29) hx hb dX3_isRestBehind_22 (by decide) (fun b22 => ?_) (fun b22 => ?_)
      · have hM := itF b22 hM
        refine lv_iconst (v := (0 : Int32)) hx hb dX3_isRestBehind_29 (by decide) ?_
        subst hQQ
        exact q_retz (post := fun x L1 f1 => x = z ∧ L1 = L ∧ f1 = f) hx hb hr hlk S dX3_isRestBehind_30 (by decide) (by decide) (by decide) (by have hz := Option.some.inj hM; subst hz; exact ⟨rfl, rfl, rfl⟩)
      · have hM := itT b22 hM
        refine lv_iconst (v := (1 : Int32)) hx hb dX3_isRestBehind_25 (by decide) ?_
        refine lv_goto (tgt := 30) hx hb dX3_isRestBehind_26 (by decide) ?_
        subst hQQ
        exact q_retz (post := fun x L1 f1 => x = z ∧ L1 = L ∧ f1 = f) hx hb hr hlk S dX3_isRestBehind_30 (by decide) (by decide) (by decide) (by have hz := Option.some.inj hM; subst hz; exact ⟨rfl, rfl, rfl⟩)

def mX3_passesLayer (lsd : Int32) (i : Int32) (t : Int64) (z0 : Int32) (dw : Nat → Int64) : Option (Int32) := if ix i 20 = true then ((mX4_of t (lsd + i)).bind fun z13 => (mX1_hasMarks z0 dw z13 (3 : Int32)).bind fun z17 => if z17 = 0 ∨ z17 = 1 then (some z17) else none) else none
set_option maxRecDepth 20000 in
theorem gu_wsX3_passesLayer_2 : ∀ w ∈ wsX30, w ∈ wsX3_passesLayer := fun _ h => List.mem_cons_of_mem _ (List.mem_append_left _ (List.mem_append_right _ h))
set_option maxHeartbeats 4000000 in
set_option maxRecDepth 100000 in
theorem k_X3_passesLayer (l : Launch) (D : va_G) (g : Nat → ClassId) {L : List Nat} {f : Nat → va_E} {ca la rb re ro rw : Nat} {lc : Int32} {lsd : Int32} {rf : Nat → Option Nat} {i : Int32} {t : Int64} {z0 : Int32} {dw : Nat → Int64} {z : Int32} (m_la : la ∈ L) (e_la : f la = .inr (3, [.ref ro, .ref ca, .ref re, .int lc, .int lsd])) (m_ro : ro ∈ L) (e_ro : f ro = .inl (g 4, 20, .inr (.inr (.inr (.inr rf))))) (m_rb : rb ∈ L) (e_rb : f rb = .inr (1, [.ref rw, .int z0])) (m_rw : rw ∈ L) (e_rw : f rw = .inl (g 1, 64, .inr (.inl dw)))   (hF_rb : rf (Int32.toNatClampNeg i) = some rb)  (hM : mX3_passesLayer lsd i t z0 dw = some z) : cI l yX3_passesLayer wsX3_passesLayer { frames := 2, cells := 0, slots := 0, locals := 51 } D g [.ref la, .int i, .long t] L f 0 0 (fun x L1 f1 => x = z ∧ L1 = L ∧ f1 = f) := by
  refine cI_of (cc := cX3_passesLayer) (maxL := 4) (ret := (some .boolean)) (by decide) rfl (Nat.le_of_ble_eq_true rfl) ?_
  intro szz p e s m below meth c hx hb hr hml hts hown hlk hnm S ls hl
  have hl : lv_has ls 4 [(0, .ref la), (1, .int i), (2, .long t)] := hl
  have in_X3 : ∀ w ∈ wsX30, w ∈ wsX3_passesLayer := gu_wsX3_passesLayer_2
  unfold mX3_passesLayer at hM
  refine W_gen (fun QQ hQQ => ?_)
  refine lv_aload_n hx hb dX3_passesLayer_0 rfl (lv_at hl 0 rfl) ?_
  refine q_get hx hb hts in_X3 hown S m_la e_la (C := RX3) (T := TX3) (N := 5) rfl 0 (by decide) rfl (hts (.fieldLink RX3 13 "SieveCabinet$Layers" "rows" "[LSieveCabinet$BitRow;") (gu_wsX3_passesLayer_1 _ gm_0)) dX3_passesLayer_1 ?_
  refine lv_iload_n hx hb dX3_passesLayer_4 rfl (lv_at hl 1 rfl) ?_
  obtain ⟨hi5, hM⟩ := ckx hM
  refine q_ald hx hb S m_ro 4 rfl e_ro hi5 dX3_passesLayer_5 ?_
  rw [hF_rb]
  refine W.eq (g2 := F0 m 6 ls [.ref rb]) rfl ?_
  refine lv_lload_n hx hb dX3_passesLayer_6 rfl (lv_at hl 2 rfl) ?_
  refine lv_aload_n hx hb dX3_passesLayer_7 rfl (lv_at hl 0 rfl) ?_
  refine q_get hx hb hts in_X3 hown S m_la e_la (C := RX3) (T := TX3) (N := 5) rfl 4 (by decide) rfl (hts (.fieldLink RX3 36 "SieveCabinet$Layers" "seed" "I") (gu_wsX3_passesLayer_1 _ gm_1)) dX3_passesLayer_8 ?_
  refine lv_iload_n hx hb dX3_passesLayer_11 rfl (lv_at hl 1 rfl) ?_
  refine lv_iadd hx hb dX3_passesLayer_12 ?_
  obtain ⟨z13, hz13, hM⟩ := bind_some hM
  refine q_sl (As := [.long t, .int (lsd + i)]) (rest := [.ref rb]) ⟨hx, hb, hml, hown, hts⟩ (k_X4_of l D g hz13) (va_cwS 2 hts gX3_passesLayer_X4_of rfl rfl rfl (by decide +kernel) ⟨Nat.le_of_ble_eq_true rfl, Nat.le_of_ble_eq_true rfl⟩) S rfl hl.1 rfl (Nat.le_of_ble_eq_true rfl) dX3_passesLayer_13 ⟨Nat.le_of_ble_eq_true rfl, Nat.le_of_ble_eq_true rfl⟩ (fun r3 L1 f2 H locs S w13 => ?_)
  obtain ⟨ex13, eL, ef⟩ := w13
  rw [eL, ef] at S
  replace ex13 := ex13.symm
  subst ex13
  refine lv_iconst (v := (3 : Int32)) hx hb dX3_passesLayer_16 (by decide) ?_
  obtain ⟨z17, hz17, hM⟩ := bind_some hM
  refine q_vi (As := [.long z13, .int (3 : Int32)]) (rest := []) ⟨hx, hb, hml, hown, hts⟩ (k_X1_hasMarks l D g m_rb e_rb m_rw e_rw hz17) (cwV 2 hts gX3_passesLayer_X1_hasMarks rfl rfl rfl (by decide +kernel) ⟨Nat.le_of_ble_eq_true rfl, Nat.le_of_ble_eq_true rfl⟩) S m_rb e_rb (T := TX1) (N := 2) rfl rfl hl.1 rfl (Nat.le_of_ble_eq_true rfl) dX3_passesLayer_17 ⟨Nat.le_of_ble_eq_true rfl, Nat.le_of_ble_eq_true rfl⟩ (fun r6 L4 f5 H locs S w17 => ?_)
  obtain ⟨ex17, eL, ef⟩ := w17
  rw [eL, ef] at S
  replace ex17 := ex17.symm
  subst ex17
  obtain ⟨hbz, hM⟩ := ck hM
  subst hQQ
  exact q_retz (post := fun x L1 f1 => x = z ∧ L1 = L ∧ f1 = f) hx hb hr hlk S dX3_passesLayer_20 hbz (by decide) (by decide) (by have hz := Option.some.inj hM; subst hz; exact ⟨rfl, rfl, rfl⟩)

def mX3_fact (lc : Int32) (kca : Nat → Int32) (i : Int32) (wh : Int32) (z0 : Int32) (dw : Nat → Int64) : Option (Int32) := if i < 0 then (some (-1 : Int32)) else (if i < lc then (if wh = (0 : Int32) then (if ix i 20 = true then ((mX1_size z0).bind fun z46 => some z46) else none) else (if wh = (1 : Int32) then (if ix i 20 = true then (some (kca (Int32.toNatClampNeg i))) else none) else (if wh = (2 : Int32) then (if ix i 20 = true then ((mX1_total dw).bind fun z63 => some z63) else none) else (some (-1 : Int32))))) else (some (-1 : Int32)))
set_option maxRecDepth 20000 in
theorem gu_wsX3_fact_2 : ∀ w ∈ wsX30, w ∈ wsX3_fact := fun _ h => List.mem_cons_of_mem _ (List.mem_append_left _ (List.mem_append_right _ h))
set_option maxHeartbeats 4000000 in
set_option maxRecDepth 100000 in
theorem k_X3_fact (l : Launch) (D : va_G) (g : Nat → ClassId) {L : List Nat} {f : Nat → va_E} {ca la rb re ro rw : Nat} {lc : Int32} {lsd : Int32} {rf : Nat → Option Nat} {kca : Nat → Int32} {i : Int32} {wh : Int32} {z0 : Int32} {dw : Nat → Int64} {z : Int32} (m_la : la ∈ L) (e_la : f la = .inr (3, [.ref ro, .ref ca, .ref re, .int lc, .int lsd])) (m_ro : ro ∈ L) (e_ro : f ro = .inl (g 4, 20, .inr (.inr (.inr (.inr rf))))) (m_ca : ca ∈ L) (e_ca : f ca = .inl (g 0, 20, .inl kca)) (m_rb : rb ∈ L) (e_rb : f rb = .inr (1, [.ref rw, .int z0])) (m_rw : rw ∈ L) (e_rw : f rw = .inl (g 1, 64, .inr (.inl dw)))   (hF_rb : rf (Int32.toNatClampNeg i) = some rb)  (hM : mX3_fact lc kca i wh z0 dw = some z) : cI l yX3_fact wsX3_fact { frames := 2, cells := 0, slots := 0, locals := 43 } D g [.ref la, .int i, .int wh] L f 0 0 (fun x L1 f1 => x = z ∧ L1 = L ∧ f1 = f) := by
  refine cI_of (cc := cX3_fact) (maxL := 3) (ret := (some .int)) (by decide) rfl (Nat.le_of_ble_eq_true rfl) ?_
  intro szz p e s m below meth c hx hb hr hml hts hown hlk hnm S ls hl
  have hl : lv_has ls 3 [(0, .ref la), (1, .int i), (2, .int wh)] := hl
  have in_X3 : ∀ w ∈ wsX30, w ∈ wsX3_fact := gu_wsX3_fact_2
  unfold mX3_fact at hM
  refine W_gen (fun QQ hQQ => ?_)
  refine lv_iload_n hx hb dX3_fact_0 rfl (lv_at hl 1 rfl) ?_
  refine lv_if_lt (tgt := 12) hx hb dX3_fact_1 (by decide) (fun b1 => ?_) (fun b1 => ?_)
  · have hM := itT b1 hM
    refine lv_iconst (v := (-1 : Int32)) hx hb dX3_fact_12 (by decide) ?_
    subst hQQ
    exact q_reti (post := fun x L1 f1 => x = z ∧ L1 = L ∧ f1 = f) hx hb hr hlk S dX3_fact_13 (by decide) (by decide) (by have hz := Option.some.inj hM; subst hz; exact ⟨rfl, rfl, rfl⟩)
  · have hM := itF b1 hM
    refine lv_iload_n hx hb dX3_fact_4 rfl (lv_at hl 1 rfl) ?_
    refine lv_aload_n hx hb dX3_fact_5 rfl (lv_at hl 0 rfl) ?_
    refine q_get hx hb hts in_X3 hown S m_la e_la (C := RX3) (T := TX3) (N := 5) rfl 3 (by decide) rfl (hts (.fieldLink RX3 29 "SieveCabinet$Layers" "count" "I") (gu_wsX3_fact_1 _ gm_0)) dX3_fact_6 ?_
    refine lv_icmp_lt (tgt := 14) hx hb dX3_fact_9 (by decide) (fun b9 => ?_) (fun b9 => ?_)
    · have hM := itT b9 hM
      refine lv_iload_n hx hb dX3_fact_14 rfl (lv_at hl 2 rfl) ?_
      by_cases w15_0 : wh = (0 : Int32)
      · have hM := itT w15_0 hM
        refine lv_tableIn (off := 25) (tgt := 40) hx hb dX3_fact_15 (by rw [w15_0]; decide) (by rw [w15_0]; decide) (by rw [w15_0]; rfl) (by decide) ?_
        refine lv_aload_n hx hb dX3_fact_40 rfl (lv_at hl 0 rfl) ?_
        refine q_get hx hb hts in_X3 hown S m_la e_la (C := RX3) (T := TX3) (N := 5) rfl 0 (by decide) rfl (hts (.fieldLink RX3 13 "SieveCabinet$Layers" "rows" "[LSieveCabinet$BitRow;") (gu_wsX3_fact_1 _ gm_1)) dX3_fact_41 ?_
        refine lv_iload_n hx hb dX3_fact_44 rfl (lv_at hl 1 rfl) ?_
        obtain ⟨hi45, hM⟩ := ckx hM
        refine q_ald hx hb S m_ro 4 rfl e_ro hi45 dX3_fact_45 ?_
        rw [hF_rb]
        refine W.eq (g2 := F0 m 46 ls [.ref rb]) rfl ?_
        obtain ⟨z46, hz46, hM⟩ := bind_some hM
        refine q_vi (As := []) (rest := []) ⟨hx, hb, hml, hown, hts⟩ (k_X1_size l D g m_rb e_rb hz46) (cwV 0 hts gX3_fact_X1_size rfl rfl rfl (by decide +kernel) ⟨Nat.le_of_ble_eq_true rfl, Nat.le_of_ble_eq_true rfl⟩) S m_rb e_rb (T := TX1) (N := 2) rfl rfl hl.1 rfl (Nat.le_of_ble_eq_true rfl) dX3_fact_46 ⟨Nat.le_of_ble_eq_true rfl, Nat.le_of_ble_eq_true rfl⟩ (fun r3 L1 f2 H locs S w46 => ?_)
        obtain ⟨ex46, eL, ef⟩ := w46
        rw [eL, ef] at S
        replace ex46 := ex46.symm
        subst ex46
        subst hQQ
        exact q_reti (post := fun x L1 f1 => x = z ∧ L1 = L ∧ f1 = f) hx hb hr hlk S dX3_fact_49 (by decide) (by decide) (by have hz := Option.some.inj hM; subst hz; exact ⟨rfl, rfl, rfl⟩)
      have hM := itF w15_0 hM
      by_cases w15_1 : wh = (1 : Int32)
      · have hM := itT w15_1 hM
        refine lv_tableIn (off := 35) (tgt := 50) hx hb dX3_fact_15 (by rw [w15_1]; decide) (by rw [w15_1]; decide) (by rw [w15_1]; rfl) (by decide) ?_
        refine lv_aload_n hx hb dX3_fact_50 rfl (lv_at hl 0 rfl) ?_
        refine q_get hx hb hts in_X3 hown S m_la e_la (C := RX3) (T := TX3) (N := 5) rfl 1 (by decide) rfl (hts (.fieldLink RX3 17 "SieveCabinet$Layers" "came" "[I") (gu_wsX3_fact_1 _ gm_2)) dX3_fact_51 ?_
        refine lv_iload_n hx hb dX3_fact_54 rfl (lv_at hl 1 rfl) ?_
        obtain ⟨hi55, hM⟩ := ckx hM
        refine q_iald hx hb S m_ca e_ca hi55 dX3_fact_55 ?_
        subst hQQ
        exact q_reti (post := fun x L1 f1 => x = z ∧ L1 = L ∧ f1 = f) hx hb hr hlk S dX3_fact_56 (by decide) (by decide) (by have hz := Option.some.inj hM; subst hz; exact ⟨rfl, rfl, rfl⟩)
      have hM := itF w15_1 hM
      by_cases w15_2 : wh = (2 : Int32)
      · have hM := itT w15_2 hM
        refine lv_tableIn (off := 42) (tgt := 57) hx hb dX3_fact_15 (by rw [w15_2]; decide) (by rw [w15_2]; decide) (by rw [w15_2]; rfl) (by decide) ?_
        refine lv_aload_n hx hb dX3_fact_57 rfl (lv_at hl 0 rfl) ?_
        refine q_get hx hb hts in_X3 hown S m_la e_la (C := RX3) (T := TX3) (N := 5) rfl 0 (by decide) rfl (hts (.fieldLink RX3 13 "SieveCabinet$Layers" "rows" "[LSieveCabinet$BitRow;") (gu_wsX3_fact_1 _ gm_1)) dX3_fact_58 ?_
        refine lv_iload_n hx hb dX3_fact_61 rfl (lv_at hl 1 rfl) ?_
        obtain ⟨hi62, hM⟩ := ckx hM
        refine q_ald hx hb S m_ro 4 rfl e_ro hi62 dX3_fact_62 ?_
        rw [hF_rb]
        refine W.eq (g2 := F0 m 63 ls [.ref rb]) rfl ?_
        obtain ⟨z63, hz63, hM⟩ := bind_some hM
        refine q_vi (As := []) (rest := []) ⟨hx, hb, hml, hown, hts⟩ (k_X1_total l D g m_rb e_rb m_rw e_rw hz63) (cwV 0 hts gX3_fact_X1_total rfl rfl rfl (by decide +kernel) ⟨Nat.le_of_ble_eq_true rfl, Nat.le_of_ble_eq_true rfl⟩) S m_rb e_rb (T := TX1) (N := 2) rfl rfl hl.1 rfl (Nat.le_of_ble_eq_true rfl) dX3_fact_63 ⟨Nat.le_of_ble_eq_true rfl, Nat.le_of_ble_eq_true rfl⟩ (fun r6 L4 f5 H locs S w63 => ?_)
        obtain ⟨ex63, eL, ef⟩ := w63
        rw [eL, ef] at S
        replace ex63 := ex63.symm
        subst ex63
        subst hQQ
        exact q_reti (post := fun x L1 f1 => x = z ∧ L1 = L ∧ f1 = f) hx hb hr hlk S dX3_fact_66 (by decide) (by decide) (by have hz := Option.some.inj hM; subst hz; exact ⟨rfl, rfl, rfl⟩)
      have hM := itF w15_2 hM
      refine lv_tableOut (tgt := 67) hx hb dX3_fact_15 (by have q0 := lv_neT w15_0 (a := 0) rfl; have q1 := lv_neT w15_1 (a := 1) rfl; have q2 := lv_neT w15_2 (a := 2) rfl; omega) (by decide) ?_
      refine lv_iconst (v := (-1 : Int32)) hx hb dX3_fact_67 (by decide) ?_
      subst hQQ
      exact q_reti (post := fun x L1 f1 => x = z ∧ L1 = L ∧ f1 = f) hx hb hr hlk S dX3_fact_68 (by decide) (by decide) (by have hz := Option.some.inj hM; subst hz; exact ⟨rfl, rfl, rfl⟩)
    · have hM := itF b9 hM
      refine lv_iconst (v := (-1 : Int32)) hx hb dX3_fact_12 (by decide) ?_
      subst hQQ
      exact q_reti (post := fun x L1 f1 => x = z ∧ L1 = L ∧ f1 = f) hx hb hr hlk S dX3_fact_13 (by decide) (by decide) (by have hz := Option.some.inj hM; subst hz; exact ⟨rfl, rfl, rfl⟩)

def mX3_addLayer_L18 (lsd : Int32) (i : Int32) (n1 : Int32) (v1 : Nat → Int64) (z13 : Int32 × (Nat → Int64)) : Nat → Int32 → (Nat → Int64) → Option (Int32 × (Nat → Int64))
  | 0, _, _ => none
  | fu + 1, x3_18, crw_18 => (mX0_count n1).bind fun z20 => if z20 ≤ x3_18 then (some (x3_18, crw_18)) else (if ix i 20 = true then ((mX0_at n1 v1 x3_18).bind fun z34 => (mX4_of z34 (lsd + i)).bind fun z43 => (mX1_setMarks z13.1 crw_18 z43 (3 : Int32)).bind fun z47 => mX3_addLayer_L18 lsd i n1 v1 z13 fu (x3_18 + 1) z47) else none)
def mX3_addLayer (lsd : Int32) (kca : Nat → Int32) (i : Int32) (dw : Nat → Int64) (n1 : Int32) (v1 : Nat → Int64) : Option (Int32 × (Nat → Int32) × Int32 × (Nat → Int64)) := if ix i 20 = true then ((mX0_count n1).bind fun z7 => (mX3_sizeFor z7).bind fun z10 => (mX1_begin dw z10).bind fun z13 => (mX3_addLayer_L18 lsd i n1 v1 z13 FU (0 : Int32) z13.2).bind fun o18 => (mX0_count n1).bind fun z62 => if ix i 20 = true then (some ((i + (1 : Int32)), (upd kca (Int32.toNatClampNeg i) z62), z13.1, o18.2)) else none) else none
set_option maxRecDepth 20000 in
theorem gu_wsX3_addLayer_4 : ∀ w ∈ wsX30, w ∈ wsX3_addLayer := fun _ h => List.mem_cons_of_mem _ (List.mem_append_left _ (List.mem_append_left _ (List.mem_append_right _ h)))
set_option maxHeartbeats 4000000 in
set_option maxRecDepth 100000 in
theorem k_X3_addLayer (l : Launch) (D : va_G) (g : Nat → ClassId) {L : List Nat} {f : Nat → va_E} {ca la o1 r1 rb re ro rr rw : Nat} {lc : Int32} {lsd : Int32} {rf : Nat → Option Nat} {kca : Nat → Int32} {rn : Int32} {rv : Nat → Int64} {i : Int32} {z0 : Int32} {dw : Nat → Int64} {n1 : Int32} {v1 : Nat → Int64} {z : Int32 × (Nat → Int32) × Int32 × (Nat → Int64)} (m_la : la ∈ L) (e_la : f la = .inr (3, [.ref ro, .ref ca, .ref re, .int lc, .int lsd])) (m_ro : ro ∈ L) (e_ro : f ro = .inl (g 4, 20, .inr (.inr (.inr (.inr rf))))) (m_ca : ca ∈ L) (e_ca : f ca = .inl (g 0, 20, .inl kca)) (m_re : re ∈ L) (e_re : f re = .inr (0, [.ref rr, .int rn])) (m_rr : rr ∈ L) (e_rr : f rr = .inl (g 1, 1000, .inr (.inl rv))) (m_rb : rb ∈ L) (e_rb : f rb = .inr (1, [.ref rw, .int z0])) (m_rw : rw ∈ L) (e_rw : f rw = .inl (g 1, 64, .inr (.inl dw))) (m_o1 : o1 ∈ L) (e_o1 : f o1 = .inr (0, [.ref r1, .int n1])) (m_r1 : r1 ∈ L) (e_r1 : f r1 = .inl (g 1, 1000, .inr (.inl v1)))   (hF_rb : rf (Int32.toNatClampNeg i) = some rb)  (hM : mX3_addLayer lsd kca i dw n1 v1 = some z) : cV l yX3_addLayer wsX3_addLayer { frames := 2, cells := 0, slots := 0, locals := 51 } D g [.ref la, .int i, .ref o1] L f 0 0 (fun L1 f1 => L1 = L ∧ (∀ b, b ∈ L → b ≠ la → b ≠ ca → b ≠ rb → b ≠ rw → f1 b = f b) ∧ f1 la = .inr (3, [.ref ro, .ref ca, .ref re, .int z.1, .int lsd]) ∧ f1 ca = .inl (g 0, 20, .inl z.2.1) ∧ f1 rb = .inr (1, [.ref rw, .int z.2.2.1]) ∧ f1 rw = .inl (g 1, 64, .inr (.inl z.2.2.2))) := by
  refine cV_of (cc := cX3_addLayer) (maxL := 4) (ret := none) (by decide) rfl (Nat.le_of_ble_eq_true rfl) ?_
  intro szz p e s m below meth c hx hb hr hml hts hown hlk hnm S ls hl
  have hl : lv_has ls 4 [(0, .ref la), (1, .int i), (2, .ref o1)] := hl
  have in_X3 : ∀ w ∈ wsX30, w ∈ wsX3_addLayer := gu_wsX3_addLayer_4
  have n_la_rb : la ≠ rb := ne_rr e_rb e_la (by decide)
  have n_la_rw : la ≠ rw := ne_ir e_rw e_la
  have n_ro_rb : ro ≠ rb := ne_ri e_rb e_ro
  have n_ro_rw : ro ≠ rw := ne_len e_rw e_ro (by decide)
  have n_ca_rb : ca ≠ rb := ne_ri e_rb e_ca
  have n_ca_rw : ca ≠ rw := ne_len e_rw e_ca (by decide)
  have n_re_rb : re ≠ rb := ne_rr e_rb e_re (by decide)
  have n_re_rw : re ≠ rw := ne_ir e_rw e_re
  have n_rr_rb : rr ≠ rb := ne_ri e_rb e_rr
  have n_rr_rw : rr ≠ rw := ne_len e_rw e_rr (by decide)
  have n_o1_rb : o1 ≠ rb := ne_rr e_rb e_o1 (by decide)
  have n_o1_rw : o1 ≠ rw := ne_ir e_rw e_o1
  have n_r1_rb : r1 ≠ rb := ne_ri e_rb e_r1
  have n_r1_rw : r1 ≠ rw := ne_len e_rw e_r1 (by decide)
  have n_la_ca : la ≠ ca := ne_ir e_ca e_la
  have n_ca_la : ca ≠ la := ne_ri e_la e_ca
  have n_rb_ca : rb ≠ ca := ne_ir e_ca e_rb
  have n_rb_la : rb ≠ la := ne_rr e_la e_rb (by decide)
  have n_rw_ca : rw ≠ ca := ne_len e_ca e_rw (by decide)
  have n_rw_la : rw ≠ la := ne_ri e_la e_rw
  have n_rb_rw : rb ≠ rw := ne_ir e_rw e_rb
  have fr : ∀ b, b ∈ L → b ≠ la → b ≠ ca → b ≠ rb → b ≠ rw → f b = f b := fun _ _ _ _ _ _ => rfl
  unfold mX3_addLayer at hM
  refine W_gen (fun QQ hQQ => ?_)
  refine lv_aload_n hx hb dX3_addLayer_0 rfl (lv_at hl 0 rfl) ?_
  refine q_get hx hb hts in_X3 hown S m_la e_la (C := RX3) (T := TX3) (N := 5) rfl 0 (by decide) rfl (hts (.fieldLink RX3 13 "SieveCabinet$Layers" "rows" "[LSieveCabinet$BitRow;") (gu_wsX3_addLayer_1 _ gm_0)) dX3_addLayer_1 ?_
  refine lv_iload_n hx hb dX3_addLayer_4 rfl (lv_at hl 1 rfl) ?_
  obtain ⟨hi5, hM⟩ := ckx hM
  refine q_ald hx hb S m_ro 4 rfl e_ro hi5 dX3_addLayer_5 ?_
  rw [hF_rb]
  refine W.eq (g2 := F0 m 6 ls [.ref rb]) rfl ?_
  refine lv_aload_n hx hb dX3_addLayer_6 rfl (lv_at hl 2 rfl) ?_
  obtain ⟨z7, hz7, hM⟩ := bind_some hM
  refine q_vi (As := []) (rest := [.ref rb]) ⟨hx, hb, hml, hown, hts⟩ (k_X0_count l D g m_o1 e_o1 hz7) (cwV 0 hts gX3_addLayer_X0_count rfl rfl rfl (by decide +kernel) ⟨Nat.le_of_ble_eq_true rfl, Nat.le_of_ble_eq_true rfl⟩) S m_o1 e_o1 (T := TX0) (N := 2) rfl rfl hl.1 rfl (Nat.le_of_ble_eq_true rfl) dX3_addLayer_7 ⟨Nat.le_of_ble_eq_true rfl, Nat.le_of_ble_eq_true rfl⟩ (fun r3 L1 f2 H locs S w7 => ?_)
  obtain ⟨ex7, eL, ef⟩ := w7
  rw [eL, ef] at S
  replace ex7 := ex7.symm
  subst ex7
  obtain ⟨z10, hz10, hM⟩ := bind_some hM
  refine q_si (As := [.int z7]) (rest := [.ref rb]) ⟨hx, hb, hml, hown, hts⟩ (k_X3_sizeFor l D g hz10) (va_cwS 1 hts gX3_addLayer_X3_sizeFor rfl rfl rfl (by decide +kernel) ⟨Nat.le_of_ble_eq_true rfl, Nat.le_of_ble_eq_true rfl⟩) S rfl hl.1 rfl (Nat.le_of_ble_eq_true rfl) dX3_addLayer_10 ⟨Nat.le_of_ble_eq_true rfl, Nat.le_of_ble_eq_true rfl⟩ (fun r6 L4 f5 H locs S w10 => ?_)
  obtain ⟨ex10, eL, ef⟩ := w10
  rw [eL, ef] at S
  replace ex10 := ex10.symm
  subst ex10
  obtain ⟨z13, hz13, hM⟩ := bind_some hM
  refine q_vv (As := [.int z10]) (rest := []) ⟨hx, hb, hml, hown, hts⟩ (k_X1_begin l D g m_rb e_rb m_rw e_rw hz13) (cwV 1 hts gX3_addLayer_X1_begin rfl rfl rfl (by decide +kernel) ⟨Nat.le_of_ble_eq_true rfl, Nat.le_of_ble_eq_true rfl⟩) S m_rb e_rb (T := TX1) (N := 2) rfl rfl hl.1 rfl (Nat.le_of_ble_eq_true rfl) dX3_addLayer_13 ⟨Nat.le_of_ble_eq_true rfl, Nat.le_of_ble_eq_true rfl⟩ (fun L7 f8 H locs S w13 => ?_)
  obtain ⟨eL, fv13, E_rb, E_rw⟩ := w13
  rw [eL] at S
  have fr : ∀ b, b ∈ L → b ≠ la → b ≠ ca → b ≠ rb → b ≠ rw → f8 b = f b := fun b mb nb0 nb1 nb2 nb3 => (fv13 b mb nb2 nb3).trans (fr b mb nb0 nb1 nb2 nb3)
  have e_rb : f8 rb = .inr (1, [.ref rw, .int z13.1]) := E_rb
  have e_rw : f8 rw = .inl (g 1, 64, .inr (.inl z13.2)) := E_rw
  refine lv_iconst (v := (0 : Int32)) hx hb dX3_addLayer_16 (by decide) ?_
  refine lv_istore_n (lv' := [(3, .int (0 : Int32)), (0, .ref la), (1, .int i), (2, .ref o1)]) hx hb dX3_addLayer_17 rfl hl (by decide) rfl (fun ls hl => ?_)
  have e_la := ((fv13 la m_la n_la_rb n_la_rw).trans e_la)
  have e_ro := ((fv13 ro m_ro n_ro_rb n_ro_rw).trans e_ro)
  have e_ca := ((fv13 ca m_ca n_ca_rb n_ca_rw).trans e_ca)
  have e_re := ((fv13 re m_re n_re_rb n_re_rw).trans e_re)
  have e_rr := ((fv13 rr m_rr n_rr_rb n_rr_rw).trans e_rr)
  have e_o1 := ((fv13 o1 m_o1 n_o1_rb n_o1_rw).trans e_o1)
  have e_r1 := ((fv13 r1 m_r1 n_r1_rb n_r1_rw).trans e_r1)
  obtain ⟨o18, ho18, hM⟩ := bind_some hM
  have EX18 : ∀ (fl18 : Nat → va_E) (H : Heap) (locs : List Loc) (ls : Array Slot), PS D g (va_A (va_pl L f) szz) s.heap s L fl18 H locs → fl18 la = .inr (3, [.ref ro, .ref ca, .ref re, .int lc, .int lsd]) → fl18 ro = .inl (g 4, 20, .inr (.inr (.inr (.inr rf)))) → fl18 ca = .inl (g 0, 20, .inl kca) → fl18 re = .inr (0, [.ref rr, .int rn]) → fl18 rr = .inl (g 1, 1000, .inr (.inl rv)) → fl18 rb = .inr (1, [.ref rw, .int z13.1]) → fl18 rw = .inl (g 1, 64, .inr (.inl o18.2)) → fl18 o1 = .inr (0, [.ref r1, .int n1]) → fl18 r1 = .inl (g 1, 1000, .inr (.inl v1)) → (∀ b, b ∈ L → b ≠ la → b ≠ ca → b ≠ rb → b ≠ rw → fl18 b = f b) → lv_has ls 4 [(0, .ref la), (1, .int i), (2, .ref o1)] → W p l e { frames := 2, cells := 0, slots := 0, locals := 51 } s m [.ref la, .int i, .ref o1].toArray below meth c H locs 0 0 QQ (F0 m 56 ls []) := by
    intro fl18 H locs ls S e_la e_ro e_ca e_re e_rr e_rb e_rw e_o1 e_r1 fr hl
    refine lv_aload_n hx hb dX3_addLayer_56 rfl (lv_at hl 0 rfl) ?_
    refine q_get hx hb hts in_X3 hown S m_la e_la (C := RX3) (T := TX3) (N := 5) rfl 1 (by decide) rfl (hts (.fieldLink RX3 17 "SieveCabinet$Layers" "came" "[I") (gu_wsX3_addLayer_1 _ gm_2)) dX3_addLayer_57 ?_
    refine lv_iload_n hx hb dX3_addLayer_60 rfl (lv_at hl 1 rfl) ?_
    refine lv_aload_n hx hb dX3_addLayer_61 rfl (lv_at hl 2 rfl) ?_
    obtain ⟨z62, hz62, hM⟩ := bind_some hM
    refine q_vi (As := []) (rest := [.int i, .ref ca]) ⟨hx, hb, hml, hown, hts⟩ (k_X0_count l D g m_o1 e_o1 hz62) (cwV 0 hts gX3_addLayer_X0_count rfl rfl rfl (by decide +kernel) ⟨Nat.le_of_ble_eq_true rfl, Nat.le_of_ble_eq_true rfl⟩) S m_o1 e_o1 (T := TX0) (N := 2) rfl rfl hl.1 rfl (Nat.le_of_ble_eq_true rfl) dX3_addLayer_62 ⟨Nat.le_of_ble_eq_true rfl, Nat.le_of_ble_eq_true rfl⟩ (fun r12 L10 f11 H locs S w62 => ?_)
    obtain ⟨ex62, eL, ef⟩ := w62
    rw [eL, ef] at S
    replace ex62 := ex62.symm
    subst ex62
    obtain ⟨hi65, hM⟩ := ckx hM
    refine k_iast hx hb S m_ca e_ca hi65 dX3_addLayer_65 (fun f13 ef13 H locs S => ?_)
    have e_ca := up_self ef13
    have fr : ∀ b, b ∈ L → b ≠ la → b ≠ ca → b ≠ rb → b ≠ rw → f13 b = f b := fun b mb nb0 nb1 nb2 nb3 => (up_ne ef13 nb1 rfl).trans (fr b mb nb0 nb1 nb2 nb3)
    refine lv_aload_n hx hb dX3_addLayer_66 rfl (lv_at hl 0 rfl) ?_
    refine lv_iload_n hx hb dX3_addLayer_67 rfl (lv_at hl 1 rfl) ?_
    refine lv_iconst (v := (1 : Int32)) hx hb dX3_addLayer_68 (by decide) ?_
    refine lv_iadd hx hb dX3_addLayer_69 ?_
    have e_la := (up_ne ef13 n_la_ca e_la)
    refine k_put hx hb hts in_X3 tyX3 tyX3_ok nmX3 hown S m_la e_la (C := RX3) (T := TX3) (N := 5) rfl 3 (by decide) (hts (.fieldLink RX3 29 "SieveCabinet$Layers" "count" "I") (gu_wsX3_addLayer_1 _ gm_3)) rfl rfl rfl (Nat.le_of_ble_eq_true rfl) dX3_addLayer_70 (fun f14 ef14 H locs S => ?_)
    have e_la : f14 la = .inr (3, [.ref ro, .ref ca, .ref re, .int (i + (1 : Int32)), .int lsd]) := up_self ef14
    have fr : ∀ b, b ∈ L → b ≠ la → b ≠ ca → b ≠ rb → b ≠ rw → f14 b = f b := fun b mb nb0 nb1 nb2 nb3 => (up_ne ef14 nb0 rfl).trans (fr b mb nb0 nb1 nb2 nb3)
    have e_ca := (up_ne ef14 n_ca_la e_ca)
    have e_rb := (up_ne ef14 n_rb_la (up_ne ef13 n_rb_ca e_rb))
    have e_rw := (up_ne ef14 n_rw_la (up_ne ef13 n_rw_ca e_rw))
    subst hQQ
    exact q_retv (post := fun L1 f1 => L1 = L ∧ (∀ b, b ∈ L → b ≠ la → b ≠ ca → b ≠ rb → b ≠ rw → f1 b = f b) ∧ f1 la = .inr (3, [.ref ro, .ref ca, .ref re, .int z.1, .int lsd]) ∧ f1 ca = .inl (g 0, 20, .inl z.2.1) ∧ f1 rb = .inr (1, [.ref rw, .int z.2.2.1]) ∧ f1 rw = .inl (g 1, 64, .inr (.inl z.2.2.2))) hx hb hr hlk S dX3_addLayer_73 (by decide) (by decide) (by have hz := Option.some.inj hM; subst hz; exact ⟨rfl, fr, e_la, e_ca, e_rb, e_rw⟩)
  have LP18 : ∀ (fu : Nat) (x3_18 : Int32) (crw_18 : Nat → Int64) (fl18 : Nat → va_E) (H : Heap) (locs : List Loc) (ls : Array Slot), (mX3_addLayer_L18 lsd i n1 v1 z13) fu x3_18 crw_18 = some o18 → PS D g (va_A (va_pl L f) szz) s.heap s L fl18 H locs → fl18 la = .inr (3, [.ref ro, .ref ca, .ref re, .int lc, .int lsd]) → fl18 ro = .inl (g 4, 20, .inr (.inr (.inr (.inr rf)))) → fl18 ca = .inl (g 0, 20, .inl kca) → fl18 re = .inr (0, [.ref rr, .int rn]) → fl18 rr = .inl (g 1, 1000, .inr (.inl rv)) → fl18 rb = .inr (1, [.ref rw, .int z13.1]) → fl18 rw = .inl (g 1, 64, .inr (.inl crw_18)) → fl18 o1 = .inr (0, [.ref r1, .int n1]) → fl18 r1 = .inl (g 1, 1000, .inr (.inl v1)) → (∀ b, b ∈ L → b ≠ la → b ≠ ca → b ≠ rb → b ≠ rw → fl18 b = f b) → lv_has ls 4 [(3, .int x3_18), (0, .ref la), (1, .int i), (2, .ref o1)] → W p l e { frames := 2, cells := 0, slots := 0, locals := 51 } s m [.ref la, .int i, .ref o1].toArray below meth c H locs 0 0 QQ (F0 m 18 ls []) := by
    intro fu
    induction fu with
    | zero => intro x3_18 crw_18 fl18 H locs ls ho18 S e_la e_ro e_ca e_re e_rr e_rb e_rw e_o1 e_r1 fr hl; exact no_some ho18
    | succ fu ih18 =>
      intro x3_18 crw_18 fl18 H locs ls ho18 S e_la e_ro e_ca e_re e_rr e_rb e_rw e_o1 e_r1 fr hl
      rw [mX3_addLayer_L18] at ho18
      refine lv_iload_n hx hb dX3_addLayer_18 rfl (lv_at hl 0 rfl) ?_
      refine lv_aload_n hx hb dX3_addLayer_19 rfl (lv_at hl 3 rfl) ?_
      obtain ⟨z20, hz20, ho18⟩ := bind_some ho18
      refine q_vi (As := []) (rest := [.int x3_18]) ⟨hx, hb, hml, hown, hts⟩ (k_X0_count l D g m_o1 e_o1 hz20) (cwV 0 hts gX3_addLayer_X0_count rfl rfl rfl (by decide +kernel) ⟨Nat.le_of_ble_eq_true rfl, Nat.le_of_ble_eq_true rfl⟩) S m_o1 e_o1 (T := TX0) (N := 2) rfl rfl hl.1 rfl (Nat.le_of_ble_eq_true rfl) dX3_addLayer_20 ⟨Nat.le_of_ble_eq_true rfl, Nat.le_of_ble_eq_true rfl⟩ (fun r17 L15 f16 H locs S w20 => ?_)
      obtain ⟨ex20, eL, ef⟩ := w20
      rw [eL, ef] at S
      replace ex20 := ex20.symm
      subst ex20
      refine lv_icmp_ge (tgt := 56) hx hb dX3_addLayer_23 (by decide) (fun b23 => ?_) (fun b23 => ?_)
      · have ho18 := itT b23 ho18
        obtain rfl := Option.some.inj ho18
        exact EX18 fl18 _ _ _ S e_la e_ro e_ca e_re e_rr e_rb e_rw e_o1 e_r1 fr (lv_sub hl [1, 2, 3] rfl)
      · have ho18 := itF b23 ho18
        refine lv_aload_n hx hb dX3_addLayer_26 rfl (lv_at hl 1 rfl) ?_
        refine q_get hx hb hts in_X3 hown S m_la e_la (C := RX3) (T := TX3) (N := 5) rfl 0 (by decide) rfl (hts (.fieldLink RX3 13 "SieveCabinet$Layers" "rows" "[LSieveCabinet$BitRow;") (gu_wsX3_addLayer_1 _ gm_0)) dX3_addLayer_27 ?_
        refine lv_iload_n hx hb dX3_addLayer_30 rfl (lv_at hl 2 rfl) ?_
        obtain ⟨hi31, ho18⟩ := ckx ho18
        refine q_ald hx hb S m_ro 4 rfl e_ro hi31 dX3_addLayer_31 ?_
        rw [hF_rb]
        refine W.eq (g2 := F0 m 32 ls [.ref rb]) rfl ?_
        refine lv_aload_n hx hb dX3_addLayer_32 rfl (lv_at hl 3 rfl) ?_
        refine lv_iload_n hx hb dX3_addLayer_33 rfl (lv_at hl 0 rfl) ?_
        obtain ⟨z34, hz34, ho18⟩ := bind_some ho18
        refine q_vl (As := [.int x3_18]) (rest := [.ref rb]) ⟨hx, hb, hml, hown, hts⟩ (k_X0_at l D g m_o1 e_o1 m_r1 e_r1 hz34) (cwV 1 hts gX3_addLayer_X0_at rfl rfl rfl (by decide +kernel) ⟨Nat.le_of_ble_eq_true rfl, Nat.le_of_ble_eq_true rfl⟩) S m_o1 e_o1 (T := TX0) (N := 2) rfl rfl hl.1 rfl (Nat.le_of_ble_eq_true rfl) dX3_addLayer_34 ⟨Nat.le_of_ble_eq_true rfl, Nat.le_of_ble_eq_true rfl⟩ (fun r20 L18 f19 H locs S w34 => ?_)
        obtain ⟨ex34, eL, ef⟩ := w34
        rw [eL, ef] at S
        replace ex34 := ex34.symm
        subst ex34
        refine lv_aload_n hx hb dX3_addLayer_37 rfl (lv_at hl 1 rfl) ?_
        refine q_get hx hb hts in_X3 hown S m_la e_la (C := RX3) (T := TX3) (N := 5) rfl 4 (by decide) rfl (hts (.fieldLink RX3 36 "SieveCabinet$Layers" "seed" "I") (gu_wsX3_addLayer_1 _ gm_1)) dX3_addLayer_38 ?_
        refine lv_iload_n hx hb dX3_addLayer_41 rfl (lv_at hl 2 rfl) ?_
        refine lv_iadd hx hb dX3_addLayer_42 ?_
        obtain ⟨z43, hz43, ho18⟩ := bind_some ho18
        refine q_sl (As := [.long z34, .int (lsd + i)]) (rest := [.ref rb]) ⟨hx, hb, hml, hown, hts⟩ (k_X4_of l D g hz43) (va_cwS 2 hts gX3_addLayer_X4_of rfl rfl rfl (by decide +kernel) ⟨Nat.le_of_ble_eq_true rfl, Nat.le_of_ble_eq_true rfl⟩) S rfl hl.1 rfl (Nat.le_of_ble_eq_true rfl) dX3_addLayer_43 ⟨Nat.le_of_ble_eq_true rfl, Nat.le_of_ble_eq_true rfl⟩ (fun r23 L21 f22 H locs S w43 => ?_)
        obtain ⟨ex43, eL, ef⟩ := w43
        rw [eL, ef] at S
        replace ex43 := ex43.symm
        subst ex43
        refine lv_iconst (v := (3 : Int32)) hx hb dX3_addLayer_46 (by decide) ?_
        obtain ⟨z47, hz47, ho18⟩ := bind_some ho18
        refine q_vv (As := [.long z43, .int (3 : Int32)]) (rest := []) ⟨hx, hb, hml, hown, hts⟩ (k_X1_setMarks l D g m_rb e_rb m_rw e_rw hz47) (cwV 2 hts gX3_addLayer_X1_setMarks rfl rfl rfl (by decide +kernel) ⟨Nat.le_of_ble_eq_true rfl, Nat.le_of_ble_eq_true rfl⟩) S m_rb e_rb (T := TX1) (N := 2) rfl rfl hl.1 rfl (Nat.le_of_ble_eq_true rfl) dX3_addLayer_47 ⟨Nat.le_of_ble_eq_true rfl, Nat.le_of_ble_eq_true rfl⟩ (fun L24 f25 H locs S w47 => ?_)
        obtain ⟨eL, fv47, E_rw⟩ := w47
        rw [eL] at S
        have fr : ∀ b, b ∈ L → b ≠ la → b ≠ ca → b ≠ rb → b ≠ rw → f25 b = f b := fun b mb nb0 nb1 nb2 nb3 => (fv47 b mb nb3).trans (fr b mb nb0 nb1 nb2 nb3)
        have e_rw : f25 rw = .inl (g 1, 64, .inr (.inl z47)) := E_rw
        refine lv_iinc (v := (x3_18 + 1)) (lv' := [(3, .int (x3_18 + 1)), (0, .ref la), (1, .int i), (2, .ref o1)]) hx hb dX3_addLayer_50 hl (k := 0) rfl rfl (by decide) rfl (fun ls hl => ?_)
        refine lv_goto (tgt := 18) hx hb dX3_addLayer_53 (by decide) ?_
        have e_la := ((fv47 la m_la n_la_rw).trans e_la)
        have e_ro := ((fv47 ro m_ro n_ro_rw).trans e_ro)
        have e_ca := ((fv47 ca m_ca n_ca_rw).trans e_ca)
        have e_re := ((fv47 re m_re n_re_rw).trans e_re)
        have e_rr := ((fv47 rr m_rr n_rr_rw).trans e_rr)
        have e_rb := ((fv47 rb m_rb n_rb_rw).trans e_rb)
        have e_o1 := ((fv47 o1 m_o1 n_o1_rw).trans e_o1)
        have e_r1 := ((fv47 r1 m_r1 n_r1_rw).trans e_r1)
        exact ih18 (x3_18 + 1) z47 f25 _ _ _ ho18 S e_la e_ro e_ca e_re e_rr e_rb e_rw e_o1 e_r1 fr (lv_sub hl [0, 1, 2, 3] rfl)
  exact LP18 FU (0 : Int32) z13.2 f8 _ _ _ ho18 S e_la e_ro e_ca e_re e_rr e_rb e_rw e_o1 e_r1 fr (lv_sub hl [0, 1, 2, 3] rfl)

def mX3_sift_L7 (lsd : Int32) (i : Int32) (z0 : Int32) (dw : Nat → Int64) (n2 : Int32) (v2 : Nat → Int64) : Nat → Int32 → Int32 → (Nat → Int64) → Option (Int32 × Int32 × (Nat → Int64))
  | 0, _, _, _ => none
  | fu + 1, x4_7, co3_1_7, cr3_7 => (mX0_count n2).bind fun z10 => if z10 ≤ x4_7 then (some (x4_7, co3_1_7, cr3_7)) else ((mX0_at n2 v2 x4_7).bind fun z21 => (mX3_passesLayer lsd i z21 z0 dw).bind fun z24 => if z24 = 0 then (mX3_sift_L7 lsd i z0 dw n2 v2 fu (x4_7 + 1) co3_1_7 cr3_7) else ((mX0_at n2 v2 x4_7).bind fun z34 => (mX0_append co3_1_7 cr3_7 z34).bind fun z37 => mX3_sift_L7 lsd i z0 dw n2 v2 fu (x4_7 + 1) z37.1 z37.2))
def mX3_sift (lsd : Int32) (i : Int32) (z0 : Int32) (dw : Nat → Int64) (n2 : Int32) (v2 : Nat → Int64) (v3 : Nat → Int64) : Option (Int32 × (Nat → Int64)) := (mX0_empty).bind fun z1 => (mX3_sift_L7 lsd i z0 dw n2 v2 FU (0 : Int32) z1 v3).bind fun o7 => some (o7.2.1, o7.2.2)
set_option maxHeartbeats 4000000 in
set_option maxRecDepth 100000 in
theorem k_X3_sift (l : Launch) (D : va_G) (g : Nat → ClassId) {L : List Nat} {f : Nat → va_E} {ca la o2 o3 r2 r3 rb re ro rr rw : Nat} {lc : Int32} {lsd : Int32} {rf : Nat → Option Nat} {kca : Nat → Int32} {rn : Int32} {rv : Nat → Int64} {i : Int32} {z0 : Int32} {dw : Nat → Int64} {n2 : Int32} {v2 : Nat → Int64} {n3 : Int32} {v3 : Nat → Int64} {z : Int32 × (Nat → Int64)} (m_la : la ∈ L) (e_la : f la = .inr (3, [.ref ro, .ref ca, .ref re, .int lc, .int lsd])) (m_ro : ro ∈ L) (e_ro : f ro = .inl (g 4, 20, .inr (.inr (.inr (.inr rf))))) (m_ca : ca ∈ L) (e_ca : f ca = .inl (g 0, 20, .inl kca)) (m_re : re ∈ L) (e_re : f re = .inr (0, [.ref rr, .int rn])) (m_rr : rr ∈ L) (e_rr : f rr = .inl (g 1, 1000, .inr (.inl rv))) (m_rb : rb ∈ L) (e_rb : f rb = .inr (1, [.ref rw, .int z0])) (m_rw : rw ∈ L) (e_rw : f rw = .inl (g 1, 64, .inr (.inl dw))) (m_o2 : o2 ∈ L) (e_o2 : f o2 = .inr (0, [.ref r2, .int n2])) (m_r2 : r2 ∈ L) (e_r2 : f r2 = .inl (g 1, 1000, .inr (.inl v2))) (m_o3 : o3 ∈ L) (e_o3 : f o3 = .inr (0, [.ref r3, .int n3])) (m_r3 : r3 ∈ L) (e_r3 : f r3 = .inl (g 1, 1000, .inr (.inl v3))) (n_re_o3 : re ≠ o3) (n_o2_o3 : o2 ≠ o3) (n_rr_r3 : rr ≠ r3) (n_r2_r3 : r2 ≠ r3)  (hF_rb : rf (Int32.toNatClampNeg i) = some rb)  (hM : mX3_sift lsd i z0 dw n2 v2 v3 = some z) : cV l yX3_sift wsX3_sift { frames := 3, cells := 0, slots := 0, locals := 74 } D g [.ref la, .int i, .ref o2, .ref o3] L f 0 0 (fun L1 f1 => L1 = L ∧ (∀ b, b ∈ L → b ≠ o3 → b ≠ r3 → f1 b = f b) ∧ f1 o3 = .inr (0, [.ref r3, .int z.1]) ∧ f1 r3 = .inl (g 1, 1000, .inr (.inl z.2))) := by
  refine cV_of (cc := cX3_sift) (maxL := 5) (ret := none) (by decide) rfl (Nat.le_of_ble_eq_true rfl) ?_
  intro szz p e s m below meth c hx hb hr hml hts hown hlk hnm S ls hl
  have hl : lv_has ls 5 [(0, .ref la), (1, .int i), (2, .ref o2), (3, .ref o3)] := hl
  have n_la_o3 : la ≠ o3 := ne_rr e_o3 e_la (by decide)
  have n_ro_o3 : ro ≠ o3 := ne_ri e_o3 e_ro
  have n_ca_o3 : ca ≠ o3 := ne_ri e_o3 e_ca
  have n_rr_o3 : rr ≠ o3 := ne_ri e_o3 e_rr
  have n_rb_o3 : rb ≠ o3 := ne_rr e_o3 e_rb (by decide)
  have n_rw_o3 : rw ≠ o3 := ne_ri e_o3 e_rw
  have n_r2_o3 : r2 ≠ o3 := ne_ri e_o3 e_r2
  have n_r3_o3 : r3 ≠ o3 := ne_ri e_o3 e_r3
  have n_la_r3 : la ≠ r3 := ne_ir e_r3 e_la
  have n_ro_r3 : ro ≠ r3 := ne_len e_r3 e_ro (by decide)
  have n_ca_r3 : ca ≠ r3 := ne_len e_r3 e_ca (by decide)
  have n_re_r3 : re ≠ r3 := ne_ir e_r3 e_re
  have n_rb_r3 : rb ≠ r3 := ne_ir e_r3 e_rb
  have n_rw_r3 : rw ≠ r3 := ne_len e_r3 e_rw (by decide)
  have n_o2_r3 : o2 ≠ r3 := ne_ir e_r3 e_o2
  have fr : ∀ b, b ∈ L → b ≠ o3 → b ≠ r3 → f b = f b := fun _ _ _ _ => rfl
  unfold mX3_sift at hM
  refine W_gen (fun QQ hQQ => ?_)
  refine lv_aload_n hx hb dX3_sift_0 rfl (lv_at hl 3 rfl) ?_
  obtain ⟨z1, hz1, hM⟩ := bind_some hM
  refine q_vv (As := []) (rest := []) ⟨hx, hb, hml, hown, hts⟩ (k_X0_empty l D g m_o3 e_o3 hz1) (cwV 0 hts gX3_sift_X0_empty rfl rfl rfl (by decide +kernel) ⟨Nat.le_of_ble_eq_true rfl, Nat.le_of_ble_eq_true rfl⟩) S m_o3 e_o3 (T := TX0) (N := 2) rfl rfl hl.1 rfl (Nat.le_of_ble_eq_true rfl) dX3_sift_1 ⟨Nat.le_of_ble_eq_true rfl, Nat.le_of_ble_eq_true rfl⟩ (fun L1 f2 H locs S w1 => ?_)
  obtain ⟨eL, fv1, E_o3⟩ := w1
  rw [eL] at S
  have fr : ∀ b, b ∈ L → b ≠ o3 → b ≠ r3 → f2 b = f b := fun b mb nb0 nb1 => (fv1 b mb nb0).trans (fr b mb nb0 nb1)
  have e_o3 : f2 o3 = .inr (0, [.ref r3, .int z1]) := E_o3
  refine lv_iconst (v := (0 : Int32)) hx hb dX3_sift_4 (by decide) ?_
  refine lv_istore (lv' := [(4, .int (0 : Int32)), (0, .ref la), (1, .int i), (2, .ref o2), (3, .ref o3)]) hx hb dX3_sift_5 hl (by decide) rfl (fun ls hl => ?_)
  have e_la := ((fv1 la m_la n_la_o3).trans e_la)
  have e_ro := ((fv1 ro m_ro n_ro_o3).trans e_ro)
  have e_ca := ((fv1 ca m_ca n_ca_o3).trans e_ca)
  have e_re := ((fv1 re m_re n_re_o3).trans e_re)
  have e_rr := ((fv1 rr m_rr n_rr_o3).trans e_rr)
  have e_rb := ((fv1 rb m_rb n_rb_o3).trans e_rb)
  have e_rw := ((fv1 rw m_rw n_rw_o3).trans e_rw)
  have e_o2 := ((fv1 o2 m_o2 n_o2_o3).trans e_o2)
  have e_r2 := ((fv1 r2 m_r2 n_r2_o3).trans e_r2)
  have e_r3 := ((fv1 r3 m_r3 n_r3_o3).trans e_r3)
  obtain ⟨o7, ho7, hM⟩ := bind_some hM
  have EX7 : ∀ (fl7 : Nat → va_E) (H : Heap) (locs : List Loc) (ls : Array Slot), PS D g (va_A (va_pl L f) szz) s.heap s L fl7 H locs → fl7 la = .inr (3, [.ref ro, .ref ca, .ref re, .int lc, .int lsd]) → fl7 ro = .inl (g 4, 20, .inr (.inr (.inr (.inr rf)))) → fl7 ca = .inl (g 0, 20, .inl kca) → fl7 re = .inr (0, [.ref rr, .int rn]) → fl7 rr = .inl (g 1, 1000, .inr (.inl rv)) → fl7 rb = .inr (1, [.ref rw, .int z0]) → fl7 rw = .inl (g 1, 64, .inr (.inl dw)) → fl7 o2 = .inr (0, [.ref r2, .int n2]) → fl7 r2 = .inl (g 1, 1000, .inr (.inl v2)) → fl7 o3 = .inr (0, [.ref r3, .int o7.2.1]) → fl7 r3 = .inl (g 1, 1000, .inr (.inl o7.2.2)) → (∀ b, b ∈ L → b ≠ o3 → b ≠ r3 → fl7 b = f b) → lv_has ls 5 [] → W p l e { frames := 3, cells := 0, slots := 0, locals := 74 } s m [.ref la, .int i, .ref o2, .ref o3].toArray below meth c H locs 0 0 QQ (F0 m 46 ls []) := by
    intro fl7 H locs ls S e_la e_ro e_ca e_re e_rr e_rb e_rw e_o2 e_r2 e_o3 e_r3 fr hl
    subst hQQ
    exact q_retv (post := fun L1 f1 => L1 = L ∧ (∀ b, b ∈ L → b ≠ o3 → b ≠ r3 → f1 b = f b) ∧ f1 o3 = .inr (0, [.ref r3, .int z.1]) ∧ f1 r3 = .inl (g 1, 1000, .inr (.inl z.2))) hx hb hr hlk S dX3_sift_46 (by decide) (by decide) (by have hz := Option.some.inj hM; subst hz; exact ⟨rfl, fr, e_o3, e_r3⟩)
  have LP7 : ∀ (fu : Nat) (x4_7 : Int32) (co3_1_7 : Int32) (cr3_7 : Nat → Int64) (fl7 : Nat → va_E) (H : Heap) (locs : List Loc) (ls : Array Slot), (mX3_sift_L7 lsd i z0 dw n2 v2) fu x4_7 co3_1_7 cr3_7 = some o7 → PS D g (va_A (va_pl L f) szz) s.heap s L fl7 H locs → fl7 la = .inr (3, [.ref ro, .ref ca, .ref re, .int lc, .int lsd]) → fl7 ro = .inl (g 4, 20, .inr (.inr (.inr (.inr rf)))) → fl7 ca = .inl (g 0, 20, .inl kca) → fl7 re = .inr (0, [.ref rr, .int rn]) → fl7 rr = .inl (g 1, 1000, .inr (.inl rv)) → fl7 rb = .inr (1, [.ref rw, .int z0]) → fl7 rw = .inl (g 1, 64, .inr (.inl dw)) → fl7 o2 = .inr (0, [.ref r2, .int n2]) → fl7 r2 = .inl (g 1, 1000, .inr (.inl v2)) → fl7 o3 = .inr (0, [.ref r3, .int co3_1_7]) → fl7 r3 = .inl (g 1, 1000, .inr (.inl cr3_7)) → (∀ b, b ∈ L → b ≠ o3 → b ≠ r3 → fl7 b = f b) → lv_has ls 5 [(4, .int x4_7), (0, .ref la), (1, .int i), (2, .ref o2), (3, .ref o3)] → W p l e { frames := 3, cells := 0, slots := 0, locals := 74 } s m [.ref la, .int i, .ref o2, .ref o3].toArray below meth c H locs 0 0 QQ (F0 m 7 ls []) := by
    intro fu
    induction fu with
    | zero => intro x4_7 co3_1_7 cr3_7 fl7 H locs ls ho7 S e_la e_ro e_ca e_re e_rr e_rb e_rw e_o2 e_r2 e_o3 e_r3 fr hl; exact no_some ho7
    | succ fu ih7 =>
      intro x4_7 co3_1_7 cr3_7 fl7 H locs ls ho7 S e_la e_ro e_ca e_re e_rr e_rb e_rw e_o2 e_r2 e_o3 e_r3 fr hl
      rw [mX3_sift_L7] at ho7
      refine lv_iload hx hb dX3_sift_7 (lv_at hl 0 rfl) ?_
      refine lv_aload_n hx hb dX3_sift_9 rfl (lv_at hl 3 rfl) ?_
      obtain ⟨z10, hz10, ho7⟩ := bind_some ho7
      refine q_vi (As := []) (rest := [.int x4_7]) ⟨hx, hb, hml, hown, hts⟩ (k_X0_count l D g m_o2 e_o2 hz10) (cwV 0 hts gX3_sift_X0_count rfl rfl rfl (by decide +kernel) ⟨Nat.le_of_ble_eq_true rfl, Nat.le_of_ble_eq_true rfl⟩) S m_o2 e_o2 (T := TX0) (N := 2) rfl rfl hl.1 rfl (Nat.le_of_ble_eq_true rfl) dX3_sift_10 ⟨Nat.le_of_ble_eq_true rfl, Nat.le_of_ble_eq_true rfl⟩ (fun r6 L4 f5 H locs S w10 => ?_)
      obtain ⟨ex10, eL, ef⟩ := w10
      rw [eL, ef] at S
      replace ex10 := ex10.symm
      subst ex10
      refine lv_icmp_ge (tgt := 46) hx hb dX3_sift_13 (by decide) (fun b13 => ?_) (fun b13 => ?_)
      · have ho7 := itT b13 ho7
        obtain rfl := Option.some.inj ho7
        exact EX7 fl7 _ _ _ S e_la e_ro e_ca e_re e_rr e_rb e_rw e_o2 e_r2 e_o3 e_r3 fr (lv_sub hl [] rfl)
      · have ho7 := itF b13 ho7
        refine lv_aload_n hx hb dX3_sift_16 rfl (lv_at hl 1 rfl) ?_
        refine lv_iload_n hx hb dX3_sift_17 rfl (lv_at hl 2 rfl) ?_
        refine lv_aload_n hx hb dX3_sift_18 rfl (lv_at hl 3 rfl) ?_
        refine lv_iload hx hb dX3_sift_19 (lv_at hl 0 rfl) ?_
        obtain ⟨z21, hz21, ho7⟩ := bind_some ho7
        refine q_vl (As := [.int x4_7]) (rest := [.int i, .ref la]) ⟨hx, hb, hml, hown, hts⟩ (k_X0_at l D g m_o2 e_o2 m_r2 e_r2 hz21) (cwV 1 hts gX3_sift_X0_at rfl rfl rfl (by decide +kernel) ⟨Nat.le_of_ble_eq_true rfl, Nat.le_of_ble_eq_true rfl⟩) S m_o2 e_o2 (T := TX0) (N := 2) rfl rfl hl.1 rfl (Nat.le_of_ble_eq_true rfl) dX3_sift_21 ⟨Nat.le_of_ble_eq_true rfl, Nat.le_of_ble_eq_true rfl⟩ (fun r9 L7 f8 H locs S w21 => ?_)
        obtain ⟨ex21, eL, ef⟩ := w21
        rw [eL, ef] at S
        replace ex21 := ex21.symm
        subst ex21
        obtain ⟨z24, hz24, ho7⟩ := bind_some ho7
        refine q_vi (As := [.int i, .long z21]) (rest := []) ⟨hx, hb, hml, hown, hts⟩ (k_X3_passesLayer l D g m_la e_la m_ro e_ro m_rb e_rb m_rw e_rw hF_rb hz24) (cwV 2 hts gX3_sift_X3_passesLayer rfl rfl rfl (by decide +kernel) ⟨Nat.le_of_ble_eq_true rfl, Nat.le_of_ble_eq_true rfl⟩) S m_la e_la (T := TX3) (N := 5) rfl rfl hl.1 rfl (Nat.le_of_ble_eq_true rfl) dX3_sift_24 ⟨Nat.le_of_ble_eq_true rfl, Nat.le_of_ble_eq_true rfl⟩ (fun r12 L10 f11 H locs S w24 => ?_)
        obtain ⟨ex24, eL, ef⟩ := w24
        rw [eL, ef] at S
        replace ex24 := ex24.symm
        subst ex24
        refine lv_if_eq (tgt := 40) hx hb dX3_sift_27 (by decide) (fun b27 => ?_) (fun b27 => ?_)
        · have ho7 := itT b27 ho7
          refine lv_iinc (v := (x4_7 + 1)) (lv' := [(4, .int (x4_7 + 1)), (0, .ref la), (1, .int i), (2, .ref o2), (3, .ref o3)]) hx hb dX3_sift_40 hl (k := 0) rfl rfl (by decide) rfl (fun ls hl => ?_)
          refine lv_goto (tgt := 7) hx hb dX3_sift_43 (by decide) ?_
          exact ih7 (x4_7 + 1) co3_1_7 cr3_7 fl7 _ _ _ ho7 S e_la e_ro e_ca e_re e_rr e_rb e_rw e_o2 e_r2 e_o3 e_r3 fr (lv_sub hl [0, 1, 2, 3, 4] rfl)
        · have ho7 := itF b27 ho7
          refine lv_aload_n hx hb dX3_sift_30 rfl (lv_at hl 4 rfl) ?_
          refine lv_aload_n hx hb dX3_sift_31 rfl (lv_at hl 3 rfl) ?_
          refine lv_iload hx hb dX3_sift_32 (lv_at hl 0 rfl) ?_
          obtain ⟨z34, hz34, ho7⟩ := bind_some ho7
          refine q_vl (As := [.int x4_7]) (rest := [.ref o3]) ⟨hx, hb, hml, hown, hts⟩ (k_X0_at l D g m_o2 e_o2 m_r2 e_r2 hz34) (cwV 1 hts gX3_sift_X0_at rfl rfl rfl (by decide +kernel) ⟨Nat.le_of_ble_eq_true rfl, Nat.le_of_ble_eq_true rfl⟩) S m_o2 e_o2 (T := TX0) (N := 2) rfl rfl hl.1 rfl (Nat.le_of_ble_eq_true rfl) dX3_sift_34 ⟨Nat.le_of_ble_eq_true rfl, Nat.le_of_ble_eq_true rfl⟩ (fun r15 L13 f14 H locs S w34 => ?_)
          obtain ⟨ex34, eL, ef⟩ := w34
          rw [eL, ef] at S
          replace ex34 := ex34.symm
          subst ex34
          obtain ⟨z37, hz37, ho7⟩ := bind_some ho7
          refine q_vv (As := [.long z34]) (rest := []) ⟨hx, hb, hml, hown, hts⟩ (k_X0_append l D g m_o3 e_o3 m_r3 e_r3 hz37) (cwV 1 hts gX3_sift_X0_append rfl rfl rfl (by decide +kernel) ⟨Nat.le_of_ble_eq_true rfl, Nat.le_of_ble_eq_true rfl⟩) S m_o3 e_o3 (T := TX0) (N := 2) rfl rfl hl.1 rfl (Nat.le_of_ble_eq_true rfl) dX3_sift_37 ⟨Nat.le_of_ble_eq_true rfl, Nat.le_of_ble_eq_true rfl⟩ (fun L16 f17 H locs S w37 => ?_)
          obtain ⟨eL, fv37, E_o3, E_r3⟩ := w37
          rw [eL] at S
          have fr : ∀ b, b ∈ L → b ≠ o3 → b ≠ r3 → f17 b = f b := fun b mb nb0 nb1 => (fv37 b mb nb0 nb1).trans (fr b mb nb0 nb1)
          have e_o3 : f17 o3 = .inr (0, [.ref r3, .int z37.1]) := E_o3
          have e_r3 : f17 r3 = .inl (g 1, 1000, .inr (.inl z37.2)) := E_r3
          refine lv_iinc (v := (x4_7 + 1)) (lv' := [(4, .int (x4_7 + 1)), (0, .ref la), (1, .int i), (2, .ref o2), (3, .ref o3)]) hx hb dX3_sift_40 hl (k := 0) rfl rfl (by decide) rfl (fun ls hl => ?_)
          refine lv_goto (tgt := 7) hx hb dX3_sift_43 (by decide) ?_
          have e_la := ((fv37 la m_la n_la_o3 n_la_r3).trans e_la)
          have e_ro := ((fv37 ro m_ro n_ro_o3 n_ro_r3).trans e_ro)
          have e_ca := ((fv37 ca m_ca n_ca_o3 n_ca_r3).trans e_ca)
          have e_re := ((fv37 re m_re n_re_o3 n_re_r3).trans e_re)
          have e_rr := ((fv37 rr m_rr n_rr_o3 n_rr_r3).trans e_rr)
          have e_rb := ((fv37 rb m_rb n_rb_o3 n_rb_r3).trans e_rb)
          have e_rw := ((fv37 rw m_rw n_rw_o3 n_rw_r3).trans e_rw)
          have e_o2 := ((fv37 o2 m_o2 n_o2_o3 n_o2_r3).trans e_o2)
          have e_r2 := ((fv37 r2 m_r2 n_r2_o3 n_r2_r3).trans e_r2)
          exact ih7 (x4_7 + 1) z37.1 z37.2 f17 _ _ _ ho7 S e_la e_ro e_ca e_re e_rr e_rb e_rw e_o2 e_r2 e_o3 e_r3 fr (lv_sub hl [0, 1, 2, 3, 4] rfl)
  exact LP7 FU (0 : Int32) z1 v3 f2 _ _ _ ho7 S e_la e_ro e_ca e_re e_rr e_rb e_rw e_o2 e_r2 e_o3 e_r3 fr (lv_sub hl [0, 1, 2, 3, 4] rfl)

def mX3_weight_L13 (lc : Int32) (lz : Nat → Int32) : Nat → Int32 → Int32 → Option (Int32 × Int32)
  | 0, _, _ => none
  | fu + 1, x2_13, x1_13 => if lc ≤ x2_13 then (some (x2_13, x1_13)) else (if ix x2_13 20 = true then ((mX1_size (lz (Int32.toNatClampNeg x2_13))).bind fun z28 => mX3_weight_L13 lc lz fu (x2_13 + 1) (x1_13 + z28)) else none)
def mX3_weight (lc : Int32) (rn : Int32) (lz : Nat → Int32) : Option (Int32) := (mX0_count rn).bind fun z6 => (mX3_weight_L13 lc lz FU (0 : Int32) ((64 : Int32) * z6)).bind fun o13 => some o13.2
set_option maxRecDepth 20000 in
theorem gu_wsX3_weight_2 : ∀ w ∈ wsX30, w ∈ wsX3_weight := fun _ h => List.mem_cons_of_mem _ (List.mem_append_left _ (List.mem_append_left _ (List.mem_append_right _ h)))
set_option maxHeartbeats 4000000 in
set_option maxRecDepth 100000 in
theorem k_X3_weight (l : Launch) (D : va_G) (g : Nat → ClassId) {L : List Nat} {f : Nat → va_E} {lb lw : Nat → Nat} {ca la re ro rr : Nat} {lc : Int32} {lsd : Int32} {rf : Nat → Option Nat} {rn : Int32} {lz : Nat → Int32} {ld : Nat → Nat → Int64} {z : Int32} (m_la : la ∈ L) (e_la : f la = .inr (3, [.ref ro, .ref ca, .ref re, .int lc, .int lsd])) (m_ro : ro ∈ L) (e_ro : f ro = .inl (g 4, 20, .inr (.inr (.inr (.inr rf))))) (m_re : re ∈ L) (e_re : f re = .inr (0, [.ref rr, .int rn])) (e_fam : LF g L f rf lb lw lz ld)    (hM : mX3_weight lc rn lz = some z) : cI l yX3_weight wsX3_weight { frames := 1, cells := 0, slots := 0, locals := 20 } D g [.ref la] L f 0 0 (fun x L1 f1 => x = z ∧ L1 = L ∧ f1 = f) := by
  refine cI_of (cc := cX3_weight) (maxL := 3) (ret := (some .int)) (by decide) rfl (Nat.le_of_ble_eq_true rfl) ?_
  intro szz p e s m below meth c hx hb hr hml hts hown hlk hnm S ls hl
  have hl : lv_has ls 3 [(0, .ref la)] := hl
  have in_X3 : ∀ w ∈ wsX30, w ∈ wsX3_weight := gu_wsX3_weight_2
  unfold mX3_weight at hM
  refine W_gen (fun QQ hQQ => ?_)
  refine lv_bipush (v := (64 : Int32)) hx hb dX3_weight_0 (by decide) ?_
  refine lv_aload_n hx hb dX3_weight_2 rfl (lv_at hl 0 rfl) ?_
  refine q_get hx hb hts in_X3 hown S m_la e_la (C := RX3) (T := TX3) (N := 5) rfl 2 (by decide) rfl (hts (.fieldLink RX3 24 "SieveCabinet$Layers" "rest" "LSieveCabinet$Bag;") (gu_wsX3_weight_1 _ gm_0)) dX3_weight_3 ?_
  obtain ⟨z6, hz6, hM⟩ := bind_some hM
  refine q_vi (As := []) (rest := [.int (64 : Int32)]) ⟨hx, hb, hml, hown, hts⟩ (k_X0_count l D g m_re e_re hz6) (cwV 0 hts gX3_weight_X0_count rfl rfl rfl (by decide +kernel) ⟨Nat.le_of_ble_eq_true rfl, Nat.le_of_ble_eq_true rfl⟩) S m_re e_re (T := TX0) (N := 2) rfl rfl hl.1 rfl (Nat.le_of_ble_eq_true rfl) dX3_weight_6 ⟨Nat.le_of_ble_eq_true rfl, Nat.le_of_ble_eq_true rfl⟩ (fun r3 L1 f2 H locs S w6 => ?_)
  obtain ⟨ex6, eL, ef⟩ := w6
  rw [eL, ef] at S
  replace ex6 := ex6.symm
  subst ex6
  refine lv_imul hx hb dX3_weight_9 ?_
  refine lv_istore_n (lv' := [(1, .int ((64 : Int32) * z6)), (0, .ref la)]) hx hb dX3_weight_10 rfl hl (by decide) rfl (fun ls hl => ?_)
  refine lv_iconst (v := (0 : Int32)) hx hb dX3_weight_11 (by decide) ?_
  refine lv_istore_n (lv' := [(2, .int (0 : Int32)), (1, .int ((64 : Int32) * z6)), (0, .ref la)]) hx hb dX3_weight_12 rfl hl (by decide) rfl (fun ls hl => ?_)
  obtain ⟨o13, ho13, hM⟩ := bind_some hM
  have EX13 : ∀ (H : Heap) (locs : List Loc) (ls : Array Slot), PS D g (va_A (va_pl L f) szz) s.heap s L f H locs → lv_has ls 3 [(1, .int o13.2)] → W p l e { frames := 1, cells := 0, slots := 0, locals := 20 } s m [.ref la].toArray below meth c H locs 0 0 QQ (F0 m 39 ls []) := by
    intro H locs ls S hl
    refine lv_iload_n hx hb dX3_weight_39 rfl (lv_at hl 0 rfl) ?_
    subst hQQ
    exact q_reti (post := fun x L1 f1 => x = z ∧ L1 = L ∧ f1 = f) hx hb hr hlk S dX3_weight_40 (by decide) (by decide) (by have hz := Option.some.inj hM; subst hz; exact ⟨rfl, rfl, rfl⟩)
  have LP13 : ∀ (fu : Nat) (x2_13 : Int32) (x1_13 : Int32) (H : Heap) (locs : List Loc) (ls : Array Slot), (mX3_weight_L13 lc lz) fu x2_13 x1_13 = some o13 → PS D g (va_A (va_pl L f) szz) s.heap s L f H locs → lv_has ls 3 [(2, .int x2_13), (1, .int x1_13), (0, .ref la)] → W p l e { frames := 1, cells := 0, slots := 0, locals := 20 } s m [.ref la].toArray below meth c H locs 0 0 QQ (F0 m 13 ls []) := by
    intro fu
    induction fu with
    | zero => intro x2_13 x1_13 H locs ls ho13 S hl; exact no_some ho13
    | succ fu ih13 =>
      intro x2_13 x1_13 H locs ls ho13 S hl
      rw [mX3_weight_L13] at ho13
      refine lv_iload_n hx hb dX3_weight_13 rfl (lv_at hl 0 rfl) ?_
      refine lv_aload_n hx hb dX3_weight_14 rfl (lv_at hl 2 rfl) ?_
      refine q_get hx hb hts in_X3 hown S m_la e_la (C := RX3) (T := TX3) (N := 5) rfl 3 (by decide) rfl (hts (.fieldLink RX3 29 "SieveCabinet$Layers" "count" "I") (gu_wsX3_weight_1 _ gm_1)) dX3_weight_15 ?_
      refine lv_icmp_ge (tgt := 39) hx hb dX3_weight_18 (by decide) (fun b18 => ?_) (fun b18 => ?_)
      · have ho13 := itT b18 ho13
        obtain rfl := Option.some.inj ho13
        exact EX13 _ _ _ S (lv_sub hl [1] rfl)
      · have ho13 := itF b18 ho13
        refine lv_iload_n hx hb dX3_weight_21 rfl (lv_at hl 1 rfl) ?_
        refine lv_aload_n hx hb dX3_weight_22 rfl (lv_at hl 2 rfl) ?_
        refine q_get hx hb hts in_X3 hown S m_la e_la (C := RX3) (T := TX3) (N := 5) rfl 0 (by decide) rfl (hts (.fieldLink RX3 13 "SieveCabinet$Layers" "rows" "[LSieveCabinet$BitRow;") (gu_wsX3_weight_1 _ gm_2)) dX3_weight_23 ?_
        refine lv_iload_n hx hb dX3_weight_26 rfl (lv_at hl 0 rfl) ?_
        obtain ⟨hi27, ho13⟩ := ckx ho13
        obtain ⟨rb27, rw27, eb27, ew27, hF_rb27, m_rb27, e_rb27, m_rw27, e_rw27⟩ := LF_at e_fam hi27
        refine q_ald hx hb S m_ro 4 rfl e_ro hi27 dX3_weight_27 ?_
        rw [hF_rb27]
        refine W.eq (g2 := F0 m 28 ls [.ref rb27, .int x1_13]) rfl ?_
        obtain ⟨z28, hz28, ho13⟩ := bind_some ho13
        refine q_vi (As := []) (rest := [.int x1_13]) ⟨hx, hb, hml, hown, hts⟩ (k_X1_size l D g m_rb27 e_rb27 hz28) (cwV 0 hts gX3_weight_X1_size rfl rfl rfl (by decide +kernel) ⟨Nat.le_of_ble_eq_true rfl, Nat.le_of_ble_eq_true rfl⟩) S m_rb27 e_rb27 (T := TX1) (N := 2) rfl rfl hl.1 rfl (Nat.le_of_ble_eq_true rfl) dX3_weight_28 ⟨Nat.le_of_ble_eq_true rfl, Nat.le_of_ble_eq_true rfl⟩ (fun r6 L4 f5 H locs S w28 => ?_)
        obtain ⟨ex28, eL, ef⟩ := w28
        rw [eL, ef] at S
        replace ex28 := ex28.symm
        subst ex28
        refine lv_iadd hx hb dX3_weight_31 ?_
        refine lv_istore_n (lv' := [(1, .int (x1_13 + z28)), (2, .int x2_13), (0, .ref la)]) hx hb dX3_weight_32 rfl hl (by decide) rfl (fun ls hl => ?_)
        refine lv_iinc (v := (x2_13 + 1)) (lv' := [(2, .int (x2_13 + 1)), (1, .int (x1_13 + z28)), (0, .ref la)]) hx hb dX3_weight_33 hl (k := 1) rfl rfl (by decide) rfl (fun ls hl => ?_)
        refine lv_goto (tgt := 13) hx hb dX3_weight_36 (by decide) ?_
        exact ih13 (x2_13 + 1) (x1_13 + z28) _ _ _ ho13 S (lv_sub hl [0, 1, 2] rfl)
  exact LP13 FU (0 : Int32) ((64 : Int32) * z6) _ _ _ ho13 S (lv_sub hl [0, 1, 2] rfl)

def mX3_passes_L2 (lc : Int32) (lsd : Int32) (lz : Nat → Int32) (ld : Nat → Nat → Int64) (t : Int64) : Nat → Int32 → Option ((Int32) ⊕ Int32)
  | 0, _ => none
  | fu + 1, x3_2 => if lc ≤ x3_2 then (some (.inr x3_2)) else (if ix x3_2 20 = true then ((mX3_passesLayer lsd x3_2 t (lz (Int32.toNatClampNeg x3_2)) (ld (Int32.toNatClampNeg x3_2))).bind fun z13 => if z13 = 0 then (if (irm x3_2 (2 : Int32)) = (1 : Int32) then (some (.inl (1 : Int32))) else (some (.inl (0 : Int32)))) else (mX3_passes_L2 lc lsd lz ld t fu (x3_2 + 1))) else none)
def mX3_passes (lc : Int32) (lsd : Int32) (rn : Int32) (rv : Nat → Int64) (lz : Nat → Int32) (ld : Nat → Nat → Int64) (t : Int64) : Option (Int32) := (mX3_passes_L2 lc lsd lz ld t FU (0 : Int32)).bind fun o2 => Sum.elim (fun r_ => some r_) (fun s2 => if (irm lc (2 : Int32)) = (1 : Int32) then ((mX0_has rn rv t).bind fun z58 => if (1 : Int32) = z58 then (some (0 : Int32)) else (some (1 : Int32))) else ((mX0_has rn rv t).bind fun z58 => if (0 : Int32) = z58 then (some (0 : Int32)) else (some (1 : Int32)))) o2
set_option maxHeartbeats 4000000 in
set_option maxRecDepth 100000 in
theorem k_X3_passes (l : Launch) (D : va_G) (g : Nat → ClassId) {L : List Nat} {f : Nat → va_E} {lb lw : Nat → Nat} {ca la re ro rr : Nat} {lc : Int32} {lsd : Int32} {rf : Nat → Option Nat} {rn : Int32} {rv : Nat → Int64} {lz : Nat → Int32} {ld : Nat → Nat → Int64} {t : Int64} {z : Int32} (m_la : la ∈ L) (e_la : f la = .inr (3, [.ref ro, .ref ca, .ref re, .int lc, .int lsd])) (m_ro : ro ∈ L) (e_ro : f ro = .inl (g 4, 20, .inr (.inr (.inr (.inr rf))))) (m_re : re ∈ L) (e_re : f re = .inr (0, [.ref rr, .int rn])) (m_rr : rr ∈ L) (e_rr : f rr = .inl (g 1, 1000, .inr (.inl rv))) (e_fam : LF g L f rf lb lw lz ld)    (hM : mX3_passes lc lsd rn rv lz ld t = some z) : cI l yX3_passes wsX3_passes { frames := 3, cells := 0, slots := 0, locals := 74 } D g [.ref la, .long t] L f 0 0 (fun x L1 f1 => x = z ∧ L1 = L ∧ f1 = f) := by
  refine cI_of (cc := cX3_passes) (maxL := 4) (ret := (some .boolean)) (by decide) rfl (Nat.le_of_ble_eq_true rfl) ?_
  intro szz p e s m below meth c hx hb hr hml hts hown hlk hnm S ls hl
  have hl : lv_has ls 4 [(0, .ref la), (1, .long t)] := hl
  have in_X3 : ∀ w ∈ wsX30, w ∈ wsX3_passes := gu_wsX3_passes_3
  unfold mX3_passes at hM
  refine W_gen (fun QQ hQQ => ?_)
  refine lv_iconst (v := (0 : Int32)) hx hb dX3_passes_0 (by decide) ?_
  refine lv_istore_n (lv' := [(3, .int (0 : Int32)), (0, .ref la), (1, .long t)]) hx hb dX3_passes_1 rfl hl (by decide) rfl (fun ls hl => ?_)
  obtain ⟨o2, ho2, hM⟩ := bind_some hM
  have EX2 : ∀ (s2 : Int32), o2 = .inr s2 → ∀ (H : Heap) (locs : List Loc) (ls : Array Slot), PS D g (va_A (va_pl L f) szz) s.heap s L f H locs → lv_has ls 4 [(0, .ref la), (1, .long t)] → W p l e { frames := 3, cells := 0, slots := 0, locals := 74 } s m [.ref la, .long t].toArray below meth c H locs 0 0 QQ (F0 m 38 ls []) := by
    intro s2 eo2
    rw [eo2] at hM
    simp only [Sum.elim_inr] at hM
    intro H locs ls S hl
    refine lv_aload_n hx hb dX3_passes_38 rfl (lv_at hl 0 rfl) ?_
    refine q_get hx hb hts in_X3 hown S m_la e_la (C := RX3) (T := TX3) (N := 5) rfl 3 (by decide) rfl (hts (.fieldLink RX3 29 "SieveCabinet$Layers" "count" "I") (gu_wsX3_passes_1 _ gm_0)) dX3_passes_39 ?_
    refine lv_iconst (v := (2 : Int32)) hx hb dX3_passes_42 (by decide) ?_
    refine lv_irem hx hb dX3_passes_43 (by decide) ?_
    refine W.eq (g2 := F0 m 44 ls [.int (irm lc (2 : Int32))]) rfl ?_
    refine lv_iconst (v := (1 : Int32)) hx hb dX3_passes_44 (by decide) ?_
    refine lv_icmp_ne (tgt := 52) hx hb dX3_passes_45 (by decide) (fun b45 => ?_) (fun b45 => ?_)
    · have hM := itF b45 hM
      refine lv_iconst (v := (0 : Int32)) hx hb dX3_passes_52 (by decide) ?_
      refine lv_aload_n hx hb dX3_passes_53 rfl (lv_at hl 0 rfl) ?_
      refine q_get hx hb hts in_X3 hown S m_la e_la (C := RX3) (T := TX3) (N := 5) rfl 2 (by decide) rfl (hts (.fieldLink RX3 24 "SieveCabinet$Layers" "rest" "LSieveCabinet$Bag;") (gu_wsX3_passes_1 _ gm_1)) dX3_passes_54 ?_
      refine lv_lload_n hx hb dX3_passes_57 rfl (lv_at hl 1 rfl) ?_
      obtain ⟨z58, hz58, hM⟩ := bind_some hM
      refine q_vi (As := [.long t]) (rest := [.int (0 : Int32)]) ⟨hx, hb, hml, hown, hts⟩ (k_X0_has l D g m_re e_re m_rr e_rr hz58) (cwV 1 hts gX3_passes_X0_has rfl rfl rfl (by decide +kernel) ⟨Nat.le_of_ble_eq_true rfl, Nat.le_of_ble_eq_true rfl⟩) S m_re e_re (T := TX0) (N := 2) rfl rfl hl.1 rfl (Nat.le_of_ble_eq_true rfl) dX3_passes_58 ⟨Nat.le_of_ble_eq_true rfl, Nat.le_of_ble_eq_true rfl⟩ (fun r3 L1 f2 H locs S w58 => ?_)
      obtain ⟨ex58, eL, ef⟩ := w58
      rw [eL, ef] at S
      replace ex58 := ex58.symm
      subst ex58
      refine lv_icmp_eq (tgt := 68) hx hb dX3_passes_61 (by decide) (fun b61 => ?_) (fun b61 => ?_)
      · have hM := itT b61 hM
        refine lv_iconst (v := (0 : Int32)) hx hb dX3_passes_68 (by decide) ?_
        subst hQQ
        exact q_retz (post := fun x L1 f1 => x = z ∧ L1 = L ∧ f1 = f) hx hb hr hlk S dX3_passes_69 (by decide) (by decide) (by decide) (by have hz := Option.some.inj hM; subst hz; exact ⟨rfl, rfl, rfl⟩)
      · have hM := itF b61 hM
        refine lv_iconst (v := (1 : Int32)) hx hb dX3_passes_64 (by decide) ?_
        refine lv_goto (tgt := 69) hx hb dX3_passes_65 (by decide) ?_
        subst hQQ
        exact q_retz (post := fun x L1 f1 => x = z ∧ L1 = L ∧ f1 = f) hx hb hr hlk S dX3_passes_69 (by decide) (by decide) (by decide) (by have hz := Option.some.inj hM; subst hz; exact ⟨rfl, rfl, rfl⟩)
    · have hM := itT b45 hM
      refine lv_iconst (v := (1 : Int32)) hx hb dX3_passes_48 (by decide) ?_
      refine lv_goto (tgt := 53) hx hb dX3_passes_49 (by decide) ?_
      refine lv_aload_n hx hb dX3_passes_53 rfl (lv_at hl 0 rfl) ?_
      refine q_get hx hb hts in_X3 hown S m_la e_la (C := RX3) (T := TX3) (N := 5) rfl 2 (by decide) rfl (hts (.fieldLink RX3 24 "SieveCabinet$Layers" "rest" "LSieveCabinet$Bag;") (gu_wsX3_passes_1 _ gm_1)) dX3_passes_54 ?_
      refine lv_lload_n hx hb dX3_passes_57 rfl (lv_at hl 1 rfl) ?_
      obtain ⟨z58, hz58, hM⟩ := bind_some hM
      refine q_vi (As := [.long t]) (rest := [.int (1 : Int32)]) ⟨hx, hb, hml, hown, hts⟩ (k_X0_has l D g m_re e_re m_rr e_rr hz58) (cwV 1 hts gX3_passes_X0_has rfl rfl rfl (by decide +kernel) ⟨Nat.le_of_ble_eq_true rfl, Nat.le_of_ble_eq_true rfl⟩) S m_re e_re (T := TX0) (N := 2) rfl rfl hl.1 rfl (Nat.le_of_ble_eq_true rfl) dX3_passes_58 ⟨Nat.le_of_ble_eq_true rfl, Nat.le_of_ble_eq_true rfl⟩ (fun r6 L4 f5 H locs S w58 => ?_)
      obtain ⟨ex58, eL, ef⟩ := w58
      rw [eL, ef] at S
      replace ex58 := ex58.symm
      subst ex58
      refine lv_icmp_eq (tgt := 68) hx hb dX3_passes_61 (by decide) (fun b61 => ?_) (fun b61 => ?_)
      · have hM := itT b61 hM
        refine lv_iconst (v := (0 : Int32)) hx hb dX3_passes_68 (by decide) ?_
        subst hQQ
        exact q_retz (post := fun x L1 f1 => x = z ∧ L1 = L ∧ f1 = f) hx hb hr hlk S dX3_passes_69 (by decide) (by decide) (by decide) (by have hz := Option.some.inj hM; subst hz; exact ⟨rfl, rfl, rfl⟩)
      · have hM := itF b61 hM
        refine lv_iconst (v := (1 : Int32)) hx hb dX3_passes_64 (by decide) ?_
        refine lv_goto (tgt := 69) hx hb dX3_passes_65 (by decide) ?_
        subst hQQ
        exact q_retz (post := fun x L1 f1 => x = z ∧ L1 = L ∧ f1 = f) hx hb hr hlk S dX3_passes_69 (by decide) (by decide) (by decide) (by have hz := Option.some.inj hM; subst hz; exact ⟨rfl, rfl, rfl⟩)
  have LP2 : ∀ (fu : Nat) (x3_2 : Int32) (H : Heap) (locs : List Loc) (ls : Array Slot), (mX3_passes_L2 lc lsd lz ld t) fu x3_2 = some o2 → PS D g (va_A (va_pl L f) szz) s.heap s L f H locs → lv_has ls 4 [(3, .int x3_2), (0, .ref la), (1, .long t)] → W p l e { frames := 3, cells := 0, slots := 0, locals := 74 } s m [.ref la, .long t].toArray below meth c H locs 0 0 QQ (F0 m 2 ls []) := by
    intro fu
    induction fu with
    | zero => intro x3_2 H locs ls ho2 S hl; exact no_some ho2
    | succ fu ih2 =>
      intro x3_2 H locs ls ho2 S hl
      rw [mX3_passes_L2] at ho2
      refine lv_iload_n hx hb dX3_passes_2 rfl (lv_at hl 0 rfl) ?_
      refine lv_aload_n hx hb dX3_passes_3 rfl (lv_at hl 1 rfl) ?_
      refine q_get hx hb hts in_X3 hown S m_la e_la (C := RX3) (T := TX3) (N := 5) rfl 3 (by decide) rfl (hts (.fieldLink RX3 29 "SieveCabinet$Layers" "count" "I") (gu_wsX3_passes_1 _ gm_0)) dX3_passes_4 ?_
      refine lv_icmp_ge (tgt := 38) hx hb dX3_passes_7 (by decide) (fun b7 => ?_) (fun b7 => ?_)
      · have ho2 := itT b7 ho2
        obtain rfl := Option.some.inj ho2
        exact EX2 _ rfl _ _ _ S (lv_sub hl [1, 2] rfl)
      · have ho2 := itF b7 ho2
        refine lv_aload_n hx hb dX3_passes_10 rfl (lv_at hl 1 rfl) ?_
        refine lv_iload_n hx hb dX3_passes_11 rfl (lv_at hl 0 rfl) ?_
        refine lv_lload_n hx hb dX3_passes_12 rfl (lv_at hl 2 rfl) ?_
        obtain ⟨hk13, ho2⟩ := ckx ho2
        obtain ⟨rb13, rw13, eb13, ew13, hF_rb13, m_rb13, e_rb13, m_rw13, e_rw13⟩ := LF_at e_fam hk13
        obtain ⟨z13, hz13, ho2⟩ := bind_some ho2
        refine q_vi (As := [.int x3_2, .long t]) (rest := []) ⟨hx, hb, hml, hown, hts⟩ (k_X3_passesLayer l D g m_la e_la m_ro e_ro m_rb13 e_rb13 m_rw13 e_rw13 hF_rb13 hz13) (cwV 2 hts gX3_passes_X3_passesLayer rfl rfl rfl (by decide +kernel) ⟨Nat.le_of_ble_eq_true rfl, Nat.le_of_ble_eq_true rfl⟩) S m_la e_la (T := TX3) (N := 5) rfl rfl hl.1 rfl (Nat.le_of_ble_eq_true rfl) dX3_passes_13 ⟨Nat.le_of_ble_eq_true rfl, Nat.le_of_ble_eq_true rfl⟩ (fun r9 L7 f8 H locs S w13 => ?_)
        obtain ⟨ex13, eL, ef⟩ := w13
        rw [eL, ef] at S
        replace ex13 := ex13.symm
        subst ex13
        refine lv_if_ne (tgt := 32) hx hb dX3_passes_16 (by decide) (fun b16 => ?_) (fun b16 => ?_)
        · have ho2 := itF b16 ho2
          refine lv_iinc (v := (x3_2 + 1)) (lv' := [(3, .int (x3_2 + 1)), (0, .ref la), (1, .long t)]) hx hb dX3_passes_32 hl (k := 0) rfl rfl (by decide) rfl (fun ls hl => ?_)
          refine lv_goto (tgt := 2) hx hb dX3_passes_35 (by decide) ?_
          exact ih2 (x3_2 + 1) _ _ _ ho2 S (lv_sub hl [0, 1, 2] rfl)
        · have ho2 := itT b16 ho2
          refine lv_iload_n hx hb dX3_passes_19 rfl (lv_at hl 0 rfl) ?_
          refine lv_iconst (v := (2 : Int32)) hx hb dX3_passes_20 (by decide) ?_
          refine lv_irem hx hb dX3_passes_21 (by decide) ?_
          refine W.eq (g2 := F0 m 22 ls [.int (irm x3_2 (2 : Int32))]) rfl ?_
          refine lv_iconst (v := (1 : Int32)) hx hb dX3_passes_22 (by decide) ?_
          refine lv_icmp_ne (tgt := 30) hx hb dX3_passes_23 (by decide) (fun b23 => ?_) (fun b23 => ?_)
          · have ho2 := itF b23 ho2
            refine lv_iconst (v := (0 : Int32)) hx hb dX3_passes_30 (by decide) ?_
            obtain rfl := Option.some.inj ho2
            simp only [Sum.elim_inl] at hM
            subst hQQ
            exact q_retz (post := fun x L1 f1 => x = z ∧ L1 = L ∧ f1 = f) hx hb hr hlk S dX3_passes_31 (by decide) (by decide) (by decide) (by have hz := Option.some.inj hM; subst hz; exact ⟨rfl, rfl, rfl⟩)
          · have ho2 := itT b23 ho2
            refine lv_iconst (v := (1 : Int32)) hx hb dX3_passes_26 (by decide) ?_
            refine lv_goto (tgt := 31) hx hb dX3_passes_27 (by decide) ?_
            obtain rfl := Option.some.inj ho2
            simp only [Sum.elim_inl] at hM
            subst hQQ
            exact q_retz (post := fun x L1 f1 => x = z ∧ L1 = L ∧ f1 = f) hx hb hr hlk S dX3_passes_31 (by decide) (by decide) (by decide) (by have hz := Option.some.inj hM; subst hz; exact ⟨rfl, rfl, rfl⟩)
  exact LP2 FU (0 : Int32) _ _ _ ho2 S (lv_sub hl [0, 1, 2] rfl)
