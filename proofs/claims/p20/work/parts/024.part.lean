def mX0_count (n : Int32) : Option (Int32) := some n
set_option maxHeartbeats 4000000 in
set_option maxRecDepth 100000 in
theorem k_X0_count (l : Launch) (D : va_G) (g : Nat → ClassId) {L : List Nat} {f : Nat → va_E} {h r : Nat} {n : Int32} {z : Int32} (m_h : h ∈ L) (e_h : f h = .inr (0, [.ref r, .int n]))    (hM : mX0_count n = some z) : cI l yX0_count wsX0_count { frames := 0, cells := 0, slots := 0, locals := 0 } D g [.ref h] L f 0 0 (fun x L1 f1 => x = z ∧ L1 = L ∧ f1 = f) := by
  refine cI_of (cc := cX0_count) (maxL := 1) (ret := (some .int)) (by decide) rfl (Nat.le_of_ble_eq_true rfl) ?_
  intro szz p e s m below meth c hx hb hr hml hts hown hlk hnm S ls hl
  have hl : lv_has ls 1 [(0, .ref h)] := hl
  have in_X0 : ∀ w ∈ wsX00, w ∈ wsX0_count := by decide +kernel
  unfold mX0_count at hM
  refine W_gen (fun QQ hQQ => ?_)
  refine lv_aload_n hx hb dX0_count_0 rfl (lv_at hl 0 rfl) ?_
  refine q_get hx hb hts in_X0 hown S m_h e_h (C := RX0) (T := TX0) (N := 2) rfl 1 (by decide) rfl (hts (.fieldLink RX0 15 "SieveCabinet$Bag" "count" "I") (by decide +kernel)) dX0_count_1 ?_
  subst hQQ
  exact q_reti (post := fun x L1 f1 => x = z ∧ L1 = L ∧ f1 = f) hx hb hr hlk S dX0_count_4 (by decide) (by decide) (by have hz := Option.some.inj hM; subst hz; exact ⟨rfl, rfl, rfl⟩)

def mX0_isFull (n : Int32) : Option (Int32) := if n < (1000 : Int32) then (some (0 : Int32)) else (some (1 : Int32))
set_option maxHeartbeats 4000000 in
set_option maxRecDepth 100000 in
theorem k_X0_isFull (l : Launch) (D : va_G) (g : Nat → ClassId) {L : List Nat} {f : Nat → va_E} {h r : Nat} {n : Int32} {z : Int32} (m_h : h ∈ L) (e_h : f h = .inr (0, [.ref r, .int n]))    (hM : mX0_isFull n = some z) : cI l yX0_isFull wsX0_isFull { frames := 0, cells := 0, slots := 0, locals := 0 } D g [.ref h] L f 0 0 (fun x L1 f1 => x = z ∧ L1 = L ∧ f1 = f) := by
  refine cI_of (cc := cX0_isFull) (maxL := 1) (ret := (some .boolean)) (by decide) rfl (Nat.le_of_ble_eq_true rfl) ?_
  intro szz p e s m below meth c hx hb hr hml hts hown hlk hnm S ls hl
  have hl : lv_has ls 1 [(0, .ref h)] := hl
  have in_X0 : ∀ w ∈ wsX00, w ∈ wsX0_isFull := by decide +kernel
  unfold mX0_isFull at hM
  refine W_gen (fun QQ hQQ => ?_)
  refine lv_aload_n hx hb dX0_isFull_0 rfl (lv_at hl 0 rfl) ?_
  refine q_get hx hb hts in_X0 hown S m_h e_h (C := RX0) (T := TX0) (N := 2) rfl 1 (by decide) rfl (hts (.fieldLink RX0 15 "SieveCabinet$Bag" "count" "I") (by decide +kernel)) dX0_isFull_1 ?_
  refine lv_sipush (v := (1000 : Int32)) hx hb dX0_isFull_4 (by decide) ?_
  refine lv_icmp_lt (tgt := 14) hx hb dX0_isFull_7 (by decide) (fun b7 => ?_) (fun b7 => ?_)
  · have hM := itT b7 hM
    refine lv_iconst (v := (0 : Int32)) hx hb dX0_isFull_14 (by decide) ?_
    subst hQQ
    exact q_retz (post := fun x L1 f1 => x = z ∧ L1 = L ∧ f1 = f) hx hb hr hlk S dX0_isFull_15 (by decide) (by decide) (by decide) (by have hz := Option.some.inj hM; subst hz; exact ⟨rfl, rfl, rfl⟩)
  · have hM := itF b7 hM
    refine lv_iconst (v := (1 : Int32)) hx hb dX0_isFull_10 (by decide) ?_
    refine lv_goto (tgt := 15) hx hb dX0_isFull_11 (by decide) ?_
    subst hQQ
    exact q_retz (post := fun x L1 f1 => x = z ∧ L1 = L ∧ f1 = f) hx hb hr hlk S dX0_isFull_15 (by decide) (by decide) (by decide) (by have hz := Option.some.inj hM; subst hz; exact ⟨rfl, rfl, rfl⟩)

def mX0_empty  : Option (Int32) := some (0 : Int32)
set_option maxHeartbeats 4000000 in
set_option maxRecDepth 100000 in
theorem k_X0_empty (l : Launch) (D : va_G) (g : Nat → ClassId) {L : List Nat} {f : Nat → va_E} {h r : Nat} {n : Int32} {z : Int32} (m_h : h ∈ L) (e_h : f h = .inr (0, [.ref r, .int n]))    (hM : mX0_empty = some z) : cV l yX0_empty wsX0_empty { frames := 0, cells := 0, slots := 0, locals := 0 } D g [.ref h] L f 0 0 (fun L1 f1 => L1 = L ∧ (∀ b, b ∈ L → b ≠ h → f1 b = f b) ∧ f1 h = .inr (0, [.ref r, .int z])) := by
  refine cV_of (cc := cX0_empty) (maxL := 1) (ret := none) (by decide) rfl (Nat.le_of_ble_eq_true rfl) ?_
  intro szz p e s m below meth c hx hb hr hml hts hown hlk hnm S ls hl
  have hl : lv_has ls 1 [(0, .ref h)] := hl
  have in_X0 : ∀ w ∈ wsX00, w ∈ wsX0_empty := by decide +kernel
  have fr : ∀ b, b ∈ L → b ≠ h → f b = f b := fun _ _ _ => rfl
  unfold mX0_empty at hM
  refine W_gen (fun QQ hQQ => ?_)
  refine lv_aload_n hx hb dX0_empty_0 rfl (lv_at hl 0 rfl) ?_
  refine lv_iconst (v := (0 : Int32)) hx hb dX0_empty_1 (by decide) ?_
  refine k_put hx hb hts in_X0 tyX0 tyX0_ok nmX0 hown S m_h e_h (C := RX0) (T := TX0) (N := 2) rfl 1 (by decide) (hts (.fieldLink RX0 15 "SieveCabinet$Bag" "count" "I") (by decide +kernel)) rfl rfl rfl (Nat.le_of_ble_eq_true rfl) dX0_empty_2 (fun f1 ef1 H locs S => ?_)
  have e_h : f1 h = .inr (0, [.ref r, .int (0 : Int32)]) := up_self ef1
  have fr : ∀ b, b ∈ L → b ≠ h → f1 b = f b := fun b mb nb0 => (up_ne ef1 nb0 rfl).trans (fr b mb nb0)
  subst hQQ
  exact q_retv (post := fun L1 f1 => L1 = L ∧ (∀ b, b ∈ L → b ≠ h → f1 b = f b) ∧ f1 h = .inr (0, [.ref r, .int z])) hx hb hr hlk S dX0_empty_5 (by decide) (by decide) (by have hz := Option.some.inj hM; subst hz; exact ⟨rfl, fr, e_h⟩)

def mX0_at (n : Int32) (v : Nat → Int64) (i : Int32) : Option (Int64) := if i < 0 then (some (0 : Int64)) else (if n ≤ i then (some (0 : Int64)) else (if ix i 1000 = true then (some (v (Int32.toNatClampNeg i))) else none))
set_option maxHeartbeats 4000000 in
set_option maxRecDepth 100000 in
theorem k_X0_at (l : Launch) (D : va_G) (g : Nat → ClassId) {L : List Nat} {f : Nat → va_E} {h r : Nat} {n : Int32} {v : Nat → Int64} {i : Int32} {z : Int64} (m_h : h ∈ L) (e_h : f h = .inr (0, [.ref r, .int n])) (m_r : r ∈ L) (e_r : f r = .inl (g 1, 1000, .inr (.inl v)))    (hM : mX0_at n v i = some z) : cL l yX0_at wsX0_at { frames := 0, cells := 0, slots := 0, locals := 0 } D g [.ref h, .int i] L f 0 0 (fun x L1 f1 => x = z ∧ L1 = L ∧ f1 = f) := by
  refine cL_of (cc := cX0_at) (maxL := 2) (ret := (some .long)) (by decide) rfl (Nat.le_of_ble_eq_true rfl) ?_
  intro szz p e s m below meth c hx hb hr hml hts hown hlk hnm S ls hl
  have hl : lv_has ls 2 [(0, .ref h), (1, .int i)] := hl
  have in_X0 : ∀ w ∈ wsX00, w ∈ wsX0_at := by decide +kernel
  unfold mX0_at at hM
  refine W_gen (fun QQ hQQ => ?_)
  refine lv_iload_n hx hb dX0_at_0 rfl (lv_at hl 1 rfl) ?_
  refine lv_if_lt (tgt := 21) hx hb dX0_at_1 (by decide) (fun b1 => ?_) (fun b1 => ?_)
  · have hM := itT b1 hM
    refine lv_lconst (v := (0 : Int64)) hx hb dX0_at_21 (by decide) ?_
    subst hQQ
    exact q_retl (post := fun x L1 f1 => x = z ∧ L1 = L ∧ f1 = f) hx hb hr hlk S dX0_at_22 (by decide) (by decide) (by have hz := Option.some.inj hM; subst hz; exact ⟨rfl, rfl, rfl⟩)
  · have hM := itF b1 hM
    refine lv_iload_n hx hb dX0_at_4 rfl (lv_at hl 1 rfl) ?_
    refine lv_aload_n hx hb dX0_at_5 rfl (lv_at hl 0 rfl) ?_
    refine q_get hx hb hts in_X0 hown S m_h e_h (C := RX0) (T := TX0) (N := 2) rfl 1 (by decide) rfl (hts (.fieldLink RX0 15 "SieveCabinet$Bag" "count" "I") (by decide +kernel)) dX0_at_6 ?_
    refine lv_icmp_ge (tgt := 21) hx hb dX0_at_9 (by decide) (fun b9 => ?_) (fun b9 => ?_)
    · have hM := itT b9 hM
      refine lv_lconst (v := (0 : Int64)) hx hb dX0_at_21 (by decide) ?_
      subst hQQ
      exact q_retl (post := fun x L1 f1 => x = z ∧ L1 = L ∧ f1 = f) hx hb hr hlk S dX0_at_22 (by decide) (by decide) (by have hz := Option.some.inj hM; subst hz; exact ⟨rfl, rfl, rfl⟩)
    · have hM := itF b9 hM
      refine lv_aload_n hx hb dX0_at_12 rfl (lv_at hl 0 rfl) ?_
      refine q_get hx hb hts in_X0 hown S m_h e_h (C := RX0) (T := TX0) (N := 2) rfl 0 (by decide) rfl (hts (.fieldLink RX0 9 "SieveCabinet$Bag" "row" "[J") (by decide +kernel)) dX0_at_13 ?_
      refine lv_iload_n hx hb dX0_at_16 rfl (lv_at hl 1 rfl) ?_
      obtain ⟨hi17, hM⟩ := ckx hM
      refine q_lald hx hb S m_r e_r hi17 dX0_at_17 ?_
      refine lv_goto (tgt := 22) hx hb dX0_at_18 (by decide) ?_
      subst hQQ
      exact q_retl (post := fun x L1 f1 => x = z ∧ L1 = L ∧ f1 = f) hx hb hr hlk S dX0_at_22 (by decide) (by decide) (by have hz := Option.some.inj hM; subst hz; exact ⟨rfl, rfl, rfl⟩)

def mX0_countBelow_L7 (n : Int32) (v : Nat → Int64) (t : Int64) : Nat → Int32 → Int32 → Option (Int32 × Int32)
  | 0, _, _ => none
  | fu + 1, x4_7, x3_7 => if x4_7 ≤ 0 then (some (x4_7, x3_7)) else (if n ≤ ((x3_7 + x4_7) - (1 : Int32)) then (mX0_countBelow_L7 n v t fu (x4_7 / (2 : Int32)) x3_7) else (if ix ((x3_7 + x4_7) - (1 : Int32)) 1000 = true then (if 0 ≤ (lg_cmp (v (Int32.toNatClampNeg ((x3_7 + x4_7) - (1 : Int32)))) t) then (mX0_countBelow_L7 n v t fu (x4_7 / (2 : Int32)) x3_7) else (mX0_countBelow_L7 n v t fu (x4_7 / (2 : Int32)) (x3_7 + x4_7))) else none))
def mX0_countBelow (n : Int32) (v : Nat → Int64) (t : Int64) : Option (Int32) := (mX0_countBelow_L7 n v t FU (512 : Int32) (0 : Int32)).bind fun o7 => some o7.2
set_option maxHeartbeats 4000000 in
set_option maxRecDepth 100000 in
theorem k_X0_countBelow (l : Launch) (D : va_G) (g : Nat → ClassId) {L : List Nat} {f : Nat → va_E} {h r : Nat} {n : Int32} {v : Nat → Int64} {t : Int64} {z : Int32} (m_h : h ∈ L) (e_h : f h = .inr (0, [.ref r, .int n])) (m_r : r ∈ L) (e_r : f r = .inl (g 1, 1000, .inr (.inl v)))    (hM : mX0_countBelow n v t = some z) : cI l yX0_countBelow wsX0_countBelow { frames := 0, cells := 0, slots := 0, locals := 0 } D g [.ref h, .long t] L f 0 0 (fun x L1 f1 => x = z ∧ L1 = L ∧ f1 = f) := by
  refine cI_of (cc := cX0_countBelow) (maxL := 6) (ret := (some .int)) (by decide) rfl (Nat.le_of_ble_eq_true rfl) ?_
  intro szz p e s m below meth c hx hb hr hml hts hown hlk hnm S ls hl
  have hl : lv_has ls 6 [(0, .ref h), (1, .long t)] := hl
  have in_X0 : ∀ w ∈ wsX00, w ∈ wsX0_countBelow := by decide +kernel
  unfold mX0_countBelow at hM
  refine W_gen (fun QQ hQQ => ?_)
  refine lv_iconst (v := (0 : Int32)) hx hb dX0_countBelow_0 (by decide) ?_
  refine lv_istore_n (lv' := [(3, .int (0 : Int32)), (0, .ref h), (1, .long t)]) hx hb dX0_countBelow_1 rfl hl (by decide) rfl (fun ls hl => ?_)
  refine lv_sipush (v := (512 : Int32)) hx hb dX0_countBelow_2 (by decide) ?_
  refine lv_istore (lv' := [(4, .int (512 : Int32)), (3, .int (0 : Int32)), (0, .ref h), (1, .long t)]) hx hb dX0_countBelow_5 hl (by decide) rfl (fun ls hl => ?_)
  obtain ⟨o7, ho7, hM⟩ := bind_some hM
  have EX7 : ∀ (H : Heap) (locs : List Loc) (ls : Array Slot), PS D g (va_A (va_pl L f) szz) s.heap s L f H locs → lv_has ls 6 [(3, .int o7.2)] → W p l e { frames := 0, cells := 0, slots := 0, locals := 0 } s m [.ref h, .long t].toArray below meth c H locs 0 0 QQ (F0 m 55 ls []) := by
    intro H locs ls S hl
    refine lv_iload_n hx hb dX0_countBelow_55 rfl (lv_at hl 0 rfl) ?_
    subst hQQ
    exact q_reti (post := fun x L1 f1 => x = z ∧ L1 = L ∧ f1 = f) hx hb hr hlk S dX0_countBelow_56 (by decide) (by decide) (by have hz := Option.some.inj hM; subst hz; exact ⟨rfl, rfl, rfl⟩)
  have LP7 : ∀ (fu : Nat) (x4_7 : Int32) (x3_7 : Int32) (H : Heap) (locs : List Loc) (ls : Array Slot), (mX0_countBelow_L7 n v t) fu x4_7 x3_7 = some o7 → PS D g (va_A (va_pl L f) szz) s.heap s L f H locs → lv_has ls 6 [(4, .int x4_7), (3, .int x3_7), (0, .ref h), (1, .long t)] → W p l e { frames := 0, cells := 0, slots := 0, locals := 0 } s m [.ref h, .long t].toArray below meth c H locs 0 0 QQ (F0 m 7 ls []) := by
    intro fu
    induction fu with
    | zero => intro x4_7 x3_7 H locs ls ho7 S hl; exact no_some ho7
    | succ fu ih7 =>
      intro x4_7 x3_7 H locs ls ho7 S hl
      rw [mX0_countBelow_L7] at ho7
      refine lv_iload hx hb dX0_countBelow_7 (lv_at hl 0 rfl) ?_
      refine lv_if_le (tgt := 55) hx hb dX0_countBelow_9 (by decide) (fun b9 => ?_) (fun b9 => ?_)
      · have ho7 := itT b9 ho7
        obtain rfl := Option.some.inj ho7
        exact EX7 _ _ _ S (lv_sub hl [1] rfl)
      · have ho7 := itF b9 ho7
        refine lv_iload_n hx hb dX0_countBelow_12 rfl (lv_at hl 1 rfl) ?_
        refine lv_iload hx hb dX0_countBelow_13 (lv_at hl 0 rfl) ?_
        refine lv_iadd hx hb dX0_countBelow_15 ?_
        refine lv_iconst (v := (1 : Int32)) hx hb dX0_countBelow_16 (by decide) ?_
        refine lv_isub hx hb dX0_countBelow_17 ?_
        refine lv_istore (lv' := [(5, .int ((x3_7 + x4_7) - (1 : Int32))), (4, .int x4_7), (3, .int x3_7), (0, .ref h), (1, .long t)]) hx hb dX0_countBelow_18 hl (by decide) rfl (fun ls hl => ?_)
        refine lv_iload hx hb dX0_countBelow_20 (lv_at hl 0 rfl) ?_
        refine lv_aload_n hx hb dX0_countBelow_22 rfl (lv_at hl 3 rfl) ?_
        refine q_get hx hb hts in_X0 hown S m_h e_h (C := RX0) (T := TX0) (N := 2) rfl 1 (by decide) rfl (hts (.fieldLink RX0 15 "SieveCabinet$Bag" "count" "I") (by decide +kernel)) dX0_countBelow_23 ?_
        refine lv_icmp_ge (tgt := 46) hx hb dX0_countBelow_26 (by decide) (fun b26 => ?_) (fun b26 => ?_)
        · have ho7 := itT b26 ho7
          refine lv_iload hx hb dX0_countBelow_46 (lv_at hl 1 rfl) ?_
          refine lv_iconst (v := (2 : Int32)) hx hb dX0_countBelow_48 (by decide) ?_
          refine lv_idiv hx hb dX0_countBelow_49 (by decide) ?_
          refine lv_istore (lv' := [(4, .int (x4_7 / (2 : Int32))), (5, .int ((x3_7 + x4_7) - (1 : Int32))), (3, .int x3_7), (0, .ref h), (1, .long t)]) hx hb dX0_countBelow_50 hl (by decide) rfl (fun ls hl => ?_)
          refine lv_goto (tgt := 7) hx hb dX0_countBelow_52 (by decide) ?_
          exact ih7 (x4_7 / (2 : Int32)) x3_7 _ _ _ ho7 S (lv_sub hl [0, 2, 3, 4] rfl)
        · have ho7 := itF b26 ho7
          refine lv_aload_n hx hb dX0_countBelow_29 rfl (lv_at hl 3 rfl) ?_
          refine q_get hx hb hts in_X0 hown S m_h e_h (C := RX0) (T := TX0) (N := 2) rfl 0 (by decide) rfl (hts (.fieldLink RX0 9 "SieveCabinet$Bag" "row" "[J") (by decide +kernel)) dX0_countBelow_30 ?_
          refine lv_iload hx hb dX0_countBelow_33 (lv_at hl 0 rfl) ?_
          obtain ⟨hi35, ho7⟩ := ckx ho7
          refine q_lald hx hb S m_r e_r hi35 dX0_countBelow_35 ?_
          refine lv_lload_n hx hb dX0_countBelow_36 rfl (lv_at hl 4 rfl) ?_
          refine W.lcmp hx hb dX0_countBelow_37 ?_
          refine lv_if_ge (tgt := 46) hx hb dX0_countBelow_38 (by decide) (fun b38 => ?_) (fun b38 => ?_)
          · have ho7 := itT b38 ho7
            refine lv_iload hx hb dX0_countBelow_46 (lv_at hl 1 rfl) ?_
            refine lv_iconst (v := (2 : Int32)) hx hb dX0_countBelow_48 (by decide) ?_
            refine lv_idiv hx hb dX0_countBelow_49 (by decide) ?_
            refine lv_istore (lv' := [(4, .int (x4_7 / (2 : Int32))), (5, .int ((x3_7 + x4_7) - (1 : Int32))), (3, .int x3_7), (0, .ref h), (1, .long t)]) hx hb dX0_countBelow_50 hl (by decide) rfl (fun ls hl => ?_)
            refine lv_goto (tgt := 7) hx hb dX0_countBelow_52 (by decide) ?_
            exact ih7 (x4_7 / (2 : Int32)) x3_7 _ _ _ ho7 S (lv_sub hl [0, 2, 3, 4] rfl)
          · have ho7 := itF b38 ho7
            refine lv_iload_n hx hb dX0_countBelow_41 rfl (lv_at hl 2 rfl) ?_
            refine lv_iload hx hb dX0_countBelow_42 (lv_at hl 1 rfl) ?_
            refine lv_iadd hx hb dX0_countBelow_44 ?_
            refine lv_istore_n (lv' := [(3, .int (x3_7 + x4_7)), (5, .int ((x3_7 + x4_7) - (1 : Int32))), (4, .int x4_7), (0, .ref h), (1, .long t)]) hx hb dX0_countBelow_45 rfl hl (by decide) rfl (fun ls hl => ?_)
            refine lv_iload hx hb dX0_countBelow_46 (lv_at hl 2 rfl) ?_
            refine lv_iconst (v := (2 : Int32)) hx hb dX0_countBelow_48 (by decide) ?_
            refine lv_idiv hx hb dX0_countBelow_49 (by decide) ?_
            refine lv_istore (lv' := [(4, .int (x4_7 / (2 : Int32))), (3, .int (x3_7 + x4_7)), (5, .int ((x3_7 + x4_7) - (1 : Int32))), (0, .ref h), (1, .long t)]) hx hb dX0_countBelow_50 hl (by decide) rfl (fun ls hl => ?_)
            refine lv_goto (tgt := 7) hx hb dX0_countBelow_52 (by decide) ?_
            exact ih7 (x4_7 / (2 : Int32)) (x3_7 + x4_7) _ _ _ ho7 S (lv_sub hl [0, 1, 3, 4] rfl)
  exact LP7 FU (512 : Int32) (0 : Int32) _ _ _ ho7 S (lv_sub hl [0, 1, 2, 3] rfl)

def mX0_has (n : Int32) (v : Nat → Int64) (t : Int64) : Option (Int32) := (mX0_countBelow n v t).bind fun z2 => if n ≤ z2 then (some (0 : Int32)) else (if ix z2 1000 = true then (if (lg_cmp (v (Int32.toNatClampNeg z2)) t) = 0 then (some (1 : Int32)) else (some (0 : Int32))) else none)
set_option maxHeartbeats 4000000 in
set_option maxRecDepth 100000 in
theorem k_X0_has (l : Launch) (D : va_G) (g : Nat → ClassId) {L : List Nat} {f : Nat → va_E} {h r : Nat} {n : Int32} {v : Nat → Int64} {t : Int64} {z : Int32} (m_h : h ∈ L) (e_h : f h = .inr (0, [.ref r, .int n])) (m_r : r ∈ L) (e_r : f r = .inl (g 1, 1000, .inr (.inl v)))    (hM : mX0_has n v t = some z) : cI l yX0_has wsX0_has { frames := 1, cells := 0, slots := 0, locals := 25 } D g [.ref h, .long t] L f 0 0 (fun x L1 f1 => x = z ∧ L1 = L ∧ f1 = f) := by
  refine cI_of (cc := cX0_has) (maxL := 4) (ret := (some .boolean)) (by decide) rfl (Nat.le_of_ble_eq_true rfl) ?_
  intro szz p e s m below meth c hx hb hr hml hts hown hlk hnm S ls hl
  have hl : lv_has ls 4 [(0, .ref h), (1, .long t)] := hl
  have in_X0 : ∀ w ∈ wsX00, w ∈ wsX0_has := by decide +kernel
  unfold mX0_has at hM
  refine W_gen (fun QQ hQQ => ?_)
  refine lv_aload_n hx hb dX0_has_0 rfl (lv_at hl 0 rfl) ?_
  refine lv_lload_n hx hb dX0_has_1 rfl (lv_at hl 1 rfl) ?_
  obtain ⟨z2, hz2, hM⟩ := bind_some hM
  refine q_vi (As := [.long t]) (rest := []) ⟨hx, hb, hml, hown, hts⟩ (k_X0_countBelow l D g m_h e_h m_r e_r hz2) (cwV 1 hts gX0_has_X0_countBelow rfl rfl rfl (by decide +kernel) ⟨Nat.le_of_ble_eq_true rfl, Nat.le_of_ble_eq_true rfl⟩) S m_h e_h (T := TX0) (N := 2) rfl rfl hl.1 rfl (Nat.le_of_ble_eq_true rfl) dX0_has_2 ⟨Nat.le_of_ble_eq_true rfl, Nat.le_of_ble_eq_true rfl⟩ (fun r3 L1 f2 H locs S w2 => ?_)
  obtain ⟨ex2, eL, ef⟩ := w2
  rw [eL, ef] at S
  replace ex2 := ex2.symm
  subst ex2
  refine lv_istore_n (lv' := [(3, .int z2), (0, .ref h), (1, .long t)]) hx hb dX0_has_5 rfl hl (by decide) rfl (fun ls hl => ?_)
  refine lv_iload_n hx hb dX0_has_6 rfl (lv_at hl 0 rfl) ?_
  refine lv_aload_n hx hb dX0_has_7 rfl (lv_at hl 1 rfl) ?_
  refine q_get hx hb hts in_X0 hown S m_h e_h (C := RX0) (T := TX0) (N := 2) rfl 1 (by decide) rfl (hts (.fieldLink RX0 15 "SieveCabinet$Bag" "count" "I") (by decide +kernel)) dX0_has_8 ?_
  refine lv_icmp_ge (tgt := 29) hx hb dX0_has_11 (by decide) (fun b11 => ?_) (fun b11 => ?_)
  · have hM := itT b11 hM
    refine lv_iconst (v := (0 : Int32)) hx hb dX0_has_29 (by decide) ?_
    subst hQQ
    exact q_retz (post := fun x L1 f1 => x = z ∧ L1 = L ∧ f1 = f) hx hb hr hlk S dX0_has_30 (by decide) (by decide) (by decide) (by have hz := Option.some.inj hM; subst hz; exact ⟨rfl, rfl, rfl⟩)
  · have hM := itF b11 hM
    refine lv_aload_n hx hb dX0_has_14 rfl (lv_at hl 1 rfl) ?_
    refine q_get hx hb hts in_X0 hown S m_h e_h (C := RX0) (T := TX0) (N := 2) rfl 0 (by decide) rfl (hts (.fieldLink RX0 9 "SieveCabinet$Bag" "row" "[J") (by decide +kernel)) dX0_has_15 ?_
    refine lv_iload_n hx hb dX0_has_18 rfl (lv_at hl 0 rfl) ?_
    obtain ⟨hi19, hM⟩ := ckx hM
    refine q_lald hx hb S m_r e_r hi19 dX0_has_19 ?_
    refine lv_lload_n hx hb dX0_has_20 rfl (lv_at hl 2 rfl) ?_
    refine W.lcmp hx hb dX0_has_21 ?_
    refine lv_if_ne (tgt := 29) hx hb dX0_has_22 (by decide) (fun b22 => ?_) (fun b22 => ?_)
    · have hM := itF b22 hM
      refine lv_iconst (v := (0 : Int32)) hx hb dX0_has_29 (by decide) ?_
      subst hQQ
      exact q_retz (post := fun x L1 f1 => x = z ∧ L1 = L ∧ f1 = f) hx hb hr hlk S dX0_has_30 (by decide) (by decide) (by decide) (by have hz := Option.some.inj hM; subst hz; exact ⟨rfl, rfl, rfl⟩)
    · have hM := itT b22 hM
      refine lv_iconst (v := (1 : Int32)) hx hb dX0_has_25 (by decide) ?_
      refine lv_goto (tgt := 30) hx hb dX0_has_26 (by decide) ?_
      subst hQQ
      exact q_retz (post := fun x L1 f1 => x = z ∧ L1 = L ∧ f1 = f) hx hb hr hlk S dX0_has_30 (by decide) (by decide) (by decide) (by have hz := Option.some.inj hM; subst hz; exact ⟨rfl, rfl, rfl⟩)

def mX0_insert (n : Int32) (v : Nat → Int64) (t : Int64) : Option (Int32 × Int32 × (Nat → Int64)) := (mX0_isFull n).bind fun z1 => if z1 = 0 then ((mX0_countBelow n v t).bind fun z11 => if cpok z11 (z11 + (1 : Int32)) (n - z11) 1000 1000 = true then (if ix z11 1000 = true then (some ((1 : Int32), (n + (1 : Int32)), (vp_updL (va_cpy v v (Int32.toNatClampNeg z11) (Int32.toNatClampNeg (z11 + (1 : Int32))) (Int32.toNatClampNeg (n - z11))) (Int32.toNatClampNeg z11) t))) else none) else none) else (some ((0 : Int32), n, v))
set_option maxHeartbeats 4000000 in
set_option maxRecDepth 100000 in
theorem k_X0_insert (l : Launch) (D : va_G) (g : Nat → ClassId) {L : List Nat} {f : Nat → va_E} {h r : Nat} {n : Int32} {v : Nat → Int64} {t : Int64} {z : Int32 × Int32 × (Nat → Int64)} (m_h : h ∈ L) (e_h : f h = .inr (0, [.ref r, .int n])) (m_r : r ∈ L) (e_r : f r = .inl (g 1, 1000, .inr (.inl v)))    (hM : mX0_insert n v t = some z) : cI l yX0_insert wsX0_insert { frames := 1, cells := 0, slots := 0, locals := 25 } D g [.ref h, .long t] L f 0 0 (fun x L1 f1 => x = z.1 ∧ L1 = L ∧ (∀ b, b ∈ L → b ≠ h → b ≠ r → f1 b = f b) ∧ f1 h = .inr (0, [.ref r, .int z.2.1]) ∧ f1 r = .inl (g 1, 1000, .inr (.inl z.2.2))) := by
  refine cI_of (cc := cX0_insert) (maxL := 4) (ret := (some .boolean)) (by decide) rfl (Nat.le_of_ble_eq_true rfl) ?_
  intro szz p e s m below meth c hx hb hr hml hts hown hlk hnm S ls hl
  have hl : lv_has ls 4 [(0, .ref h), (1, .long t)] := hl
  have in_X0 : ∀ w ∈ wsX00, w ∈ wsX0_insert := by decide +kernel
  have n_h_r : h ≠ r := ne_ir e_r e_h
  have n_r_h : r ≠ h := ne_ri e_h e_r
  have fr : ∀ b, b ∈ L → b ≠ h → b ≠ r → f b = f b := fun _ _ _ _ => rfl
  unfold mX0_insert at hM
  refine W_gen (fun QQ hQQ => ?_)
  refine lv_aload_n hx hb dX0_insert_0 rfl (lv_at hl 0 rfl) ?_
  obtain ⟨z1, hz1, hM⟩ := bind_some hM
  refine q_vi (As := []) (rest := []) ⟨hx, hb, hml, hown, hts⟩ (k_X0_isFull l D g m_h e_h hz1) (cwV 0 hts gX0_insert_X0_isFull rfl rfl rfl (by decide +kernel) ⟨Nat.le_of_ble_eq_true rfl, Nat.le_of_ble_eq_true rfl⟩) S m_h e_h (T := TX0) (N := 2) rfl rfl hl.1 rfl (Nat.le_of_ble_eq_true rfl) dX0_insert_1 ⟨Nat.le_of_ble_eq_true rfl, Nat.le_of_ble_eq_true rfl⟩ (fun r3 L1 f2 H locs S w1 => ?_)
  obtain ⟨ex1, eL, ef⟩ := w1
  rw [eL, ef] at S
  replace ex1 := ex1.symm
  subst ex1
  refine lv_if_eq (tgt := 9) hx hb dX0_insert_4 (by decide) (fun b4 => ?_) (fun b4 => ?_)
  · have hM := itT b4 hM
    refine lv_aload_n hx hb dX0_insert_9 rfl (lv_at hl 0 rfl) ?_
    refine lv_lload_n hx hb dX0_insert_10 rfl (lv_at hl 1 rfl) ?_
    obtain ⟨z11, hz11, hM⟩ := bind_some hM
    refine q_vi (As := [.long t]) (rest := []) ⟨hx, hb, hml, hown, hts⟩ (k_X0_countBelow l D g m_h e_h m_r e_r hz11) (cwV 1 hts gX0_insert_X0_countBelow rfl rfl rfl (by decide +kernel) ⟨Nat.le_of_ble_eq_true rfl, Nat.le_of_ble_eq_true rfl⟩) S m_h e_h (T := TX0) (N := 2) rfl rfl hl.1 rfl (Nat.le_of_ble_eq_true rfl) dX0_insert_11 ⟨Nat.le_of_ble_eq_true rfl, Nat.le_of_ble_eq_true rfl⟩ (fun r6 L4 f5 H locs S w11 => ?_)
    obtain ⟨ex11, eL, ef⟩ := w11
    rw [eL, ef] at S
    replace ex11 := ex11.symm
    subst ex11
    refine lv_istore_n (lv' := [(3, .int z11), (0, .ref h), (1, .long t)]) hx hb dX0_insert_14 rfl hl (by decide) rfl (fun ls hl => ?_)
    refine lv_aload_n hx hb dX0_insert_15 rfl (lv_at hl 1 rfl) ?_
    refine q_get hx hb hts in_X0 hown S m_h e_h (C := RX0) (T := TX0) (N := 2) rfl 0 (by decide) rfl (hts (.fieldLink RX0 9 "SieveCabinet$Bag" "row" "[J") (by decide +kernel)) dX0_insert_16 ?_
    refine lv_iload_n hx hb dX0_insert_19 rfl (lv_at hl 0 rfl) ?_
    refine lv_aload_n hx hb dX0_insert_20 rfl (lv_at hl 1 rfl) ?_
    refine q_get hx hb hts in_X0 hown S m_h e_h (C := RX0) (T := TX0) (N := 2) rfl 0 (by decide) rfl (hts (.fieldLink RX0 9 "SieveCabinet$Bag" "row" "[J") (by decide +kernel)) dX0_insert_21 ?_
    refine lv_iload_n hx hb dX0_insert_24 rfl (lv_at hl 0 rfl) ?_
    refine lv_iconst (v := (1 : Int32)) hx hb dX0_insert_25 (by decide) ?_
    refine lv_iadd hx hb dX0_insert_26 ?_
    refine lv_aload_n hx hb dX0_insert_27 rfl (lv_at hl 1 rfl) ?_
    refine q_get hx hb hts in_X0 hown S m_h e_h (C := RX0) (T := TX0) (N := 2) rfl 1 (by decide) rfl (hts (.fieldLink RX0 15 "SieveCabinet$Bag" "count" "I") (by decide +kernel)) dX0_insert_28 ?_
    refine lv_iload_n hx hb dX0_insert_31 rfl (lv_at hl 0 rfl) ?_
    refine lv_isub hx hb dX0_insert_32 ?_
    obtain ⟨hc33, hM⟩ := ck hM
    refine k_copyl (rest := []) (x1 := z11) (x2 := (z11 + (1 : Int32))) (k := (n - z11)) hx hb (by rw [hml]; exact hl.1.symm) hown (hts (.methodLink RX0 27 arraycopyName) (by decide +kernel)) (hts (.native arraycopyName) (by decide +kernel)) (hts (.static arraycopyName) (by decide +kernel)) (hts (.initialized "java/lang/System") (by decide +kernel)) S m_r e_r m_r e_r hc33 (Nat.le_of_ble_eq_true rfl) (Nat.le_of_ble_eq_true rfl) dX0_insert_33 (fun f7 ef7 H locs S => ?_)
    have e_r := up_self ef7
    have fr : ∀ b, b ∈ L → b ≠ h → b ≠ r → f7 b = f b := fun b mb nb0 nb1 => (up_ne ef7 nb1 rfl).trans (fr b mb nb0 nb1)
    refine lv_aload_n hx hb dX0_insert_36 rfl (lv_at hl 1 rfl) ?_
    have e_h := (up_ne ef7 n_h_r e_h)
    refine q_get hx hb hts in_X0 hown S m_h e_h (C := RX0) (T := TX0) (N := 2) rfl 0 (by decide) rfl (hts (.fieldLink RX0 9 "SieveCabinet$Bag" "row" "[J") (by decide +kernel)) dX0_insert_37 ?_
    refine lv_iload_n hx hb dX0_insert_40 rfl (lv_at hl 0 rfl) ?_
    refine lv_lload_n hx hb dX0_insert_41 rfl (lv_at hl 2 rfl) ?_
    obtain ⟨hi42, hM⟩ := ckx hM
    refine k_last hx hb S m_r e_r hi42 dX0_insert_42 (fun f8 ef8 H locs S => ?_)
    have e_r := up_self ef8
    have fr : ∀ b, b ∈ L → b ≠ h → b ≠ r → f8 b = f b := fun b mb nb0 nb1 => (up_ne ef8 nb1 rfl).trans (fr b mb nb0 nb1)
    refine lv_aload_n hx hb dX0_insert_43 rfl (lv_at hl 1 rfl) ?_
    refine lv_dup hx hb dX0_insert_44 rfl ?_
    have e_h := (up_ne ef8 n_h_r e_h)
    refine q_get hx hb hts in_X0 hown S m_h e_h (C := RX0) (T := TX0) (N := 2) rfl 1 (by decide) rfl (hts (.fieldLink RX0 15 "SieveCabinet$Bag" "count" "I") (by decide +kernel)) dX0_insert_45 ?_
    refine lv_iconst (v := (1 : Int32)) hx hb dX0_insert_48 (by decide) ?_
    refine lv_iadd hx hb dX0_insert_49 ?_
    refine k_put hx hb hts in_X0 tyX0 tyX0_ok nmX0 hown S m_h e_h (C := RX0) (T := TX0) (N := 2) rfl 1 (by decide) (hts (.fieldLink RX0 15 "SieveCabinet$Bag" "count" "I") (by decide +kernel)) rfl rfl rfl (Nat.le_of_ble_eq_true rfl) dX0_insert_50 (fun f9 ef9 H locs S => ?_)
    have e_h : f9 h = .inr (0, [.ref r, .int (n + (1 : Int32))]) := up_self ef9
    have fr : ∀ b, b ∈ L → b ≠ h → b ≠ r → f9 b = f b := fun b mb nb0 nb1 => (up_ne ef9 nb0 rfl).trans (fr b mb nb0 nb1)
    refine lv_iconst (v := (1 : Int32)) hx hb dX0_insert_53 (by decide) ?_
    have e_r := (up_ne ef9 n_r_h e_r)
    subst hQQ
    exact q_retz (post := fun x L1 f1 => x = z.1 ∧ L1 = L ∧ (∀ b, b ∈ L → b ≠ h → b ≠ r → f1 b = f b) ∧ f1 h = .inr (0, [.ref r, .int z.2.1]) ∧ f1 r = .inl (g 1, 1000, .inr (.inl z.2.2))) hx hb hr hlk S dX0_insert_54 (by decide) (by decide) (by decide) (by have hz := Option.some.inj hM; subst hz; exact ⟨rfl, rfl, fr, e_h, e_r⟩)
  · have hM := itF b4 hM
    refine lv_iconst (v := (0 : Int32)) hx hb dX0_insert_7 (by decide) ?_
    subst hQQ
    exact q_retz (post := fun x L1 f1 => x = z.1 ∧ L1 = L ∧ (∀ b, b ∈ L → b ≠ h → b ≠ r → f1 b = f b) ∧ f1 h = .inr (0, [.ref r, .int z.2.1]) ∧ f1 r = .inl (g 1, 1000, .inr (.inl z.2.2))) hx hb hr hlk S dX0_insert_8 (by decide) (by decide) (by decide) (by have hz := Option.some.inj hM; subst hz; exact ⟨rfl, rfl, fr, e_h, e_r⟩)

def mX0_takeOne (n : Int32) (v : Nat → Int64) (t : Int64) : Option (Int32 × Int32 × (Nat → Int64)) := (mX0_countBelow n v t).bind fun z2 => if n ≤ z2 then (some ((0 : Int32), n, v)) else (if ix z2 1000 = true then (if (lg_cmp (v (Int32.toNatClampNeg z2)) t) = 0 then (if cpok (z2 + (1 : Int32)) z2 ((n - z2) - (1 : Int32)) 1000 1000 = true then (some ((1 : Int32), (n - (1 : Int32)), (va_cpy v v (Int32.toNatClampNeg (z2 + (1 : Int32))) (Int32.toNatClampNeg z2) (Int32.toNatClampNeg ((n - z2) - (1 : Int32)))))) else none) else (some ((0 : Int32), n, v))) else none)
set_option maxHeartbeats 4000000 in
set_option maxRecDepth 100000 in
theorem k_X0_takeOne (l : Launch) (D : va_G) (g : Nat → ClassId) {L : List Nat} {f : Nat → va_E} {h r : Nat} {n : Int32} {v : Nat → Int64} {t : Int64} {z : Int32 × Int32 × (Nat → Int64)} (m_h : h ∈ L) (e_h : f h = .inr (0, [.ref r, .int n])) (m_r : r ∈ L) (e_r : f r = .inl (g 1, 1000, .inr (.inl v)))    (hM : mX0_takeOne n v t = some z) : cI l yX0_takeOne wsX0_takeOne { frames := 1, cells := 0, slots := 0, locals := 25 } D g [.ref h, .long t] L f 0 0 (fun x L1 f1 => x = z.1 ∧ L1 = L ∧ (∀ b, b ∈ L → b ≠ h → b ≠ r → f1 b = f b) ∧ f1 h = .inr (0, [.ref r, .int z.2.1]) ∧ f1 r = .inl (g 1, 1000, .inr (.inl z.2.2))) := by
  refine cI_of (cc := cX0_takeOne) (maxL := 4) (ret := (some .boolean)) (by decide) rfl (Nat.le_of_ble_eq_true rfl) ?_
  intro szz p e s m below meth c hx hb hr hml hts hown hlk hnm S ls hl
  have hl : lv_has ls 4 [(0, .ref h), (1, .long t)] := hl
  have in_X0 : ∀ w ∈ wsX00, w ∈ wsX0_takeOne := by decide +kernel
  have n_h_r : h ≠ r := ne_ir e_r e_h
  have n_r_h : r ≠ h := ne_ri e_h e_r
  have fr : ∀ b, b ∈ L → b ≠ h → b ≠ r → f b = f b := fun _ _ _ _ => rfl
  unfold mX0_takeOne at hM
  refine W_gen (fun QQ hQQ => ?_)
  refine lv_aload_n hx hb dX0_takeOne_0 rfl (lv_at hl 0 rfl) ?_
  refine lv_lload_n hx hb dX0_takeOne_1 rfl (lv_at hl 1 rfl) ?_
  obtain ⟨z2, hz2, hM⟩ := bind_some hM
  refine q_vi (As := [.long t]) (rest := []) ⟨hx, hb, hml, hown, hts⟩ (k_X0_countBelow l D g m_h e_h m_r e_r hz2) (cwV 1 hts gX0_takeOne_X0_countBelow rfl rfl rfl (by decide +kernel) ⟨Nat.le_of_ble_eq_true rfl, Nat.le_of_ble_eq_true rfl⟩) S m_h e_h (T := TX0) (N := 2) rfl rfl hl.1 rfl (Nat.le_of_ble_eq_true rfl) dX0_takeOne_2 ⟨Nat.le_of_ble_eq_true rfl, Nat.le_of_ble_eq_true rfl⟩ (fun r3 L1 f2 H locs S w2 => ?_)
  obtain ⟨ex2, eL, ef⟩ := w2
  rw [eL, ef] at S
  replace ex2 := ex2.symm
  subst ex2
  refine lv_istore_n (lv' := [(3, .int z2), (0, .ref h), (1, .long t)]) hx hb dX0_takeOne_5 rfl hl (by decide) rfl (fun ls hl => ?_)
  refine lv_iload_n hx hb dX0_takeOne_6 rfl (lv_at hl 0 rfl) ?_
  refine lv_aload_n hx hb dX0_takeOne_7 rfl (lv_at hl 1 rfl) ?_
  refine q_get hx hb hts in_X0 hown S m_h e_h (C := RX0) (T := TX0) (N := 2) rfl 1 (by decide) rfl (hts (.fieldLink RX0 15 "SieveCabinet$Bag" "count" "I") (by decide +kernel)) dX0_takeOne_8 ?_
  refine lv_icmp_ge (tgt := 25) hx hb dX0_takeOne_11 (by decide) (fun b11 => ?_) (fun b11 => ?_)
  · have hM := itT b11 hM
    refine lv_iconst (v := (0 : Int32)) hx hb dX0_takeOne_25 (by decide) ?_
    subst hQQ
    exact q_retz (post := fun x L1 f1 => x = z.1 ∧ L1 = L ∧ (∀ b, b ∈ L → b ≠ h → b ≠ r → f1 b = f b) ∧ f1 h = .inr (0, [.ref r, .int z.2.1]) ∧ f1 r = .inl (g 1, 1000, .inr (.inl z.2.2))) hx hb hr hlk S dX0_takeOne_26 (by decide) (by decide) (by decide) (by have hz := Option.some.inj hM; subst hz; exact ⟨rfl, rfl, fr, e_h, e_r⟩)
  · have hM := itF b11 hM
    refine lv_aload_n hx hb dX0_takeOne_14 rfl (lv_at hl 1 rfl) ?_
    refine q_get hx hb hts in_X0 hown S m_h e_h (C := RX0) (T := TX0) (N := 2) rfl 0 (by decide) rfl (hts (.fieldLink RX0 9 "SieveCabinet$Bag" "row" "[J") (by decide +kernel)) dX0_takeOne_15 ?_
    refine lv_iload_n hx hb dX0_takeOne_18 rfl (lv_at hl 0 rfl) ?_
    obtain ⟨hi19, hM⟩ := ckx hM
    refine q_lald hx hb S m_r e_r hi19 dX0_takeOne_19 ?_
    refine lv_lload_n hx hb dX0_takeOne_20 rfl (lv_at hl 2 rfl) ?_
    refine W.lcmp hx hb dX0_takeOne_21 ?_
    refine lv_if_eq (tgt := 27) hx hb dX0_takeOne_22 (by decide) (fun b22 => ?_) (fun b22 => ?_)
    · have hM := itT b22 hM
      refine lv_aload_n hx hb dX0_takeOne_27 rfl (lv_at hl 1 rfl) ?_
      refine q_get hx hb hts in_X0 hown S m_h e_h (C := RX0) (T := TX0) (N := 2) rfl 0 (by decide) rfl (hts (.fieldLink RX0 9 "SieveCabinet$Bag" "row" "[J") (by decide +kernel)) dX0_takeOne_28 ?_
      refine lv_iload_n hx hb dX0_takeOne_31 rfl (lv_at hl 0 rfl) ?_
      refine lv_iconst (v := (1 : Int32)) hx hb dX0_takeOne_32 (by decide) ?_
      refine lv_iadd hx hb dX0_takeOne_33 ?_
      refine lv_aload_n hx hb dX0_takeOne_34 rfl (lv_at hl 1 rfl) ?_
      refine q_get hx hb hts in_X0 hown S m_h e_h (C := RX0) (T := TX0) (N := 2) rfl 0 (by decide) rfl (hts (.fieldLink RX0 9 "SieveCabinet$Bag" "row" "[J") (by decide +kernel)) dX0_takeOne_35 ?_
      refine lv_iload_n hx hb dX0_takeOne_38 rfl (lv_at hl 0 rfl) ?_
      refine lv_aload_n hx hb dX0_takeOne_39 rfl (lv_at hl 1 rfl) ?_
      refine q_get hx hb hts in_X0 hown S m_h e_h (C := RX0) (T := TX0) (N := 2) rfl 1 (by decide) rfl (hts (.fieldLink RX0 15 "SieveCabinet$Bag" "count" "I") (by decide +kernel)) dX0_takeOne_40 ?_
      refine lv_iload_n hx hb dX0_takeOne_43 rfl (lv_at hl 0 rfl) ?_
      refine lv_isub hx hb dX0_takeOne_44 ?_
      refine lv_iconst (v := (1 : Int32)) hx hb dX0_takeOne_45 (by decide) ?_
      refine lv_isub hx hb dX0_takeOne_46 ?_
      obtain ⟨hc47, hM⟩ := ck hM
      refine k_copyl (rest := []) (x1 := (z2 + (1 : Int32))) (x2 := z2) (k := ((n - z2) - (1 : Int32))) hx hb (by rw [hml]; exact hl.1.symm) hown (hts (.methodLink RX0 27 arraycopyName) (by decide +kernel)) (hts (.native arraycopyName) (by decide +kernel)) (hts (.static arraycopyName) (by decide +kernel)) (hts (.initialized "java/lang/System") (by decide +kernel)) S m_r e_r m_r e_r hc47 (Nat.le_of_ble_eq_true rfl) (Nat.le_of_ble_eq_true rfl) dX0_takeOne_47 (fun f4 ef4 H locs S => ?_)
      have e_r := up_self ef4
      have fr : ∀ b, b ∈ L → b ≠ h → b ≠ r → f4 b = f b := fun b mb nb0 nb1 => (up_ne ef4 nb1 rfl).trans (fr b mb nb0 nb1)
      refine lv_aload_n hx hb dX0_takeOne_50 rfl (lv_at hl 1 rfl) ?_
      refine lv_dup hx hb dX0_takeOne_51 rfl ?_
      have e_h := (up_ne ef4 n_h_r e_h)
      refine q_get hx hb hts in_X0 hown S m_h e_h (C := RX0) (T := TX0) (N := 2) rfl 1 (by decide) rfl (hts (.fieldLink RX0 15 "SieveCabinet$Bag" "count" "I") (by decide +kernel)) dX0_takeOne_52 ?_
      refine lv_iconst (v := (1 : Int32)) hx hb dX0_takeOne_55 (by decide) ?_
      refine lv_isub hx hb dX0_takeOne_56 ?_
      refine k_put hx hb hts in_X0 tyX0 tyX0_ok nmX0 hown S m_h e_h (C := RX0) (T := TX0) (N := 2) rfl 1 (by decide) (hts (.fieldLink RX0 15 "SieveCabinet$Bag" "count" "I") (by decide +kernel)) rfl rfl rfl (Nat.le_of_ble_eq_true rfl) dX0_takeOne_57 (fun f5 ef5 H locs S => ?_)
      have e_h : f5 h = .inr (0, [.ref r, .int (n - (1 : Int32))]) := up_self ef5
      have fr : ∀ b, b ∈ L → b ≠ h → b ≠ r → f5 b = f b := fun b mb nb0 nb1 => (up_ne ef5 nb0 rfl).trans (fr b mb nb0 nb1)
      refine lv_iconst (v := (1 : Int32)) hx hb dX0_takeOne_60 (by decide) ?_
      have e_r := (up_ne ef5 n_r_h e_r)
      subst hQQ
      exact q_retz (post := fun x L1 f1 => x = z.1 ∧ L1 = L ∧ (∀ b, b ∈ L → b ≠ h → b ≠ r → f1 b = f b) ∧ f1 h = .inr (0, [.ref r, .int z.2.1]) ∧ f1 r = .inl (g 1, 1000, .inr (.inl z.2.2))) hx hb hr hlk S dX0_takeOne_61 (by decide) (by decide) (by decide) (by have hz := Option.some.inj hM; subst hz; exact ⟨rfl, rfl, fr, e_h, e_r⟩)
    · have hM := itF b22 hM
      refine lv_iconst (v := (0 : Int32)) hx hb dX0_takeOne_25 (by decide) ?_
      subst hQQ
      exact q_retz (post := fun x L1 f1 => x = z.1 ∧ L1 = L ∧ (∀ b, b ∈ L → b ≠ h → b ≠ r → f1 b = f b) ∧ f1 h = .inr (0, [.ref r, .int z.2.1]) ∧ f1 r = .inl (g 1, 1000, .inr (.inl z.2.2))) hx hb hr hlk S dX0_takeOne_26 (by decide) (by decide) (by decide) (by have hz := Option.some.inj hM; subst hz; exact ⟨rfl, rfl, fr, e_h, e_r⟩)

def mX0_append (n : Int32) (v : Nat → Int64) (t : Int64) : Option (Int32 × (Nat → Int64)) := (mX0_isFull n).bind fun z1 => if z1 = 0 then (if ix n 1000 = true then (some ((n + (1 : Int32)), (vp_updL v (Int32.toNatClampNeg n) t))) else none) else (some (n, v))
set_option maxHeartbeats 4000000 in
set_option maxRecDepth 100000 in
theorem k_X0_append (l : Launch) (D : va_G) (g : Nat → ClassId) {L : List Nat} {f : Nat → va_E} {h r : Nat} {n : Int32} {v : Nat → Int64} {t : Int64} {z : Int32 × (Nat → Int64)} (m_h : h ∈ L) (e_h : f h = .inr (0, [.ref r, .int n])) (m_r : r ∈ L) (e_r : f r = .inl (g 1, 1000, .inr (.inl v)))    (hM : mX0_append n v t = some z) : cV l yX0_append wsX0_append { frames := 1, cells := 0, slots := 0, locals := 20 } D g [.ref h, .long t] L f 0 0 (fun L1 f1 => L1 = L ∧ (∀ b, b ∈ L → b ≠ h → b ≠ r → f1 b = f b) ∧ f1 h = .inr (0, [.ref r, .int z.1]) ∧ f1 r = .inl (g 1, 1000, .inr (.inl z.2))) := by
  refine cV_of (cc := cX0_append) (maxL := 3) (ret := none) (by decide) rfl (Nat.le_of_ble_eq_true rfl) ?_
  intro szz p e s m below meth c hx hb hr hml hts hown hlk hnm S ls hl
  have hl : lv_has ls 3 [(0, .ref h), (1, .long t)] := hl
  have in_X0 : ∀ w ∈ wsX00, w ∈ wsX0_append := by decide +kernel
  have n_h_r : h ≠ r := ne_ir e_r e_h
  have n_r_h : r ≠ h := ne_ri e_h e_r
  have fr : ∀ b, b ∈ L → b ≠ h → b ≠ r → f b = f b := fun _ _ _ _ => rfl
  unfold mX0_append at hM
  refine W_gen (fun QQ hQQ => ?_)
  refine lv_aload_n hx hb dX0_append_0 rfl (lv_at hl 0 rfl) ?_
  obtain ⟨z1, hz1, hM⟩ := bind_some hM
  refine q_vi (As := []) (rest := []) ⟨hx, hb, hml, hown, hts⟩ (k_X0_isFull l D g m_h e_h hz1) (cwV 0 hts gX0_append_X0_isFull rfl rfl rfl (by decide +kernel) ⟨Nat.le_of_ble_eq_true rfl, Nat.le_of_ble_eq_true rfl⟩) S m_h e_h (T := TX0) (N := 2) rfl rfl hl.1 rfl (Nat.le_of_ble_eq_true rfl) dX0_append_1 ⟨Nat.le_of_ble_eq_true rfl, Nat.le_of_ble_eq_true rfl⟩ (fun r3 L1 f2 H locs S w1 => ?_)
  obtain ⟨ex1, eL, ef⟩ := w1
  rw [eL, ef] at S
  replace ex1 := ex1.symm
  subst ex1
  refine lv_if_ne (tgt := 27) hx hb dX0_append_4 (by decide) (fun b4 => ?_) (fun b4 => ?_)
  · have hM := itF b4 hM
    subst hQQ
    exact q_retv (post := fun L1 f1 => L1 = L ∧ (∀ b, b ∈ L → b ≠ h → b ≠ r → f1 b = f b) ∧ f1 h = .inr (0, [.ref r, .int z.1]) ∧ f1 r = .inl (g 1, 1000, .inr (.inl z.2))) hx hb hr hlk S dX0_append_27 (by decide) (by decide) (by have hz := Option.some.inj hM; subst hz; exact ⟨rfl, fr, e_h, e_r⟩)
  · have hM := itT b4 hM
    refine lv_aload_n hx hb dX0_append_7 rfl (lv_at hl 0 rfl) ?_
    refine q_get hx hb hts in_X0 hown S m_h e_h (C := RX0) (T := TX0) (N := 2) rfl 0 (by decide) rfl (hts (.fieldLink RX0 9 "SieveCabinet$Bag" "row" "[J") (by decide +kernel)) dX0_append_8 ?_
    refine lv_aload_n hx hb dX0_append_11 rfl (lv_at hl 0 rfl) ?_
    refine q_get hx hb hts in_X0 hown S m_h e_h (C := RX0) (T := TX0) (N := 2) rfl 1 (by decide) rfl (hts (.fieldLink RX0 15 "SieveCabinet$Bag" "count" "I") (by decide +kernel)) dX0_append_12 ?_
    refine lv_lload_n hx hb dX0_append_15 rfl (lv_at hl 1 rfl) ?_
    obtain ⟨hi16, hM⟩ := ckx hM
    refine k_last hx hb S m_r e_r hi16 dX0_append_16 (fun f4 ef4 H locs S => ?_)
    have e_r := up_self ef4
    have fr : ∀ b, b ∈ L → b ≠ h → b ≠ r → f4 b = f b := fun b mb nb0 nb1 => (up_ne ef4 nb1 rfl).trans (fr b mb nb0 nb1)
    refine lv_aload_n hx hb dX0_append_17 rfl (lv_at hl 0 rfl) ?_
    refine lv_dup hx hb dX0_append_18 rfl ?_
    have e_h := (up_ne ef4 n_h_r e_h)
    refine q_get hx hb hts in_X0 hown S m_h e_h (C := RX0) (T := TX0) (N := 2) rfl 1 (by decide) rfl (hts (.fieldLink RX0 15 "SieveCabinet$Bag" "count" "I") (by decide +kernel)) dX0_append_19 ?_
    refine lv_iconst (v := (1 : Int32)) hx hb dX0_append_22 (by decide) ?_
    refine lv_iadd hx hb dX0_append_23 ?_
    refine k_put hx hb hts in_X0 tyX0 tyX0_ok nmX0 hown S m_h e_h (C := RX0) (T := TX0) (N := 2) rfl 1 (by decide) (hts (.fieldLink RX0 15 "SieveCabinet$Bag" "count" "I") (by decide +kernel)) rfl rfl rfl (Nat.le_of_ble_eq_true rfl) dX0_append_24 (fun f5 ef5 H locs S => ?_)
    have e_h : f5 h = .inr (0, [.ref r, .int (n + (1 : Int32))]) := up_self ef5
    have fr : ∀ b, b ∈ L → b ≠ h → b ≠ r → f5 b = f b := fun b mb nb0 nb1 => (up_ne ef5 nb0 rfl).trans (fr b mb nb0 nb1)
    have e_r := (up_ne ef5 n_r_h e_r)
    subst hQQ
    exact q_retv (post := fun L1 f1 => L1 = L ∧ (∀ b, b ∈ L → b ≠ h → b ≠ r → f1 b = f b) ∧ f1 h = .inr (0, [.ref r, .int z.1]) ∧ f1 r = .inl (g 1, 1000, .inr (.inl z.2))) hx hb hr hlk S dX0_append_27 (by decide) (by decide) (by have hz := Option.some.inj hM; subst hz; exact ⟨rfl, fr, e_h, e_r⟩)

def mX0_copyFrom (v : Nat → Int64) (no : Int32) (vo : Nat → Int64) : Option (Int32 × (Nat → Int64)) := if cpok (0 : Int32) (0 : Int32) no 1000 1000 = true then (some (no, (va_cpy vo v (Int32.toNatClampNeg (0 : Int32)) (Int32.toNatClampNeg (0 : Int32)) (Int32.toNatClampNeg no)))) else none
set_option maxHeartbeats 4000000 in
set_option maxRecDepth 100000 in
theorem k_X0_copyFrom (l : Launch) (D : va_G) (g : Nat → ClassId) {L : List Nat} {f : Nat → va_E} {h o r ro : Nat} {n : Int32} {v : Nat → Int64} {no : Int32} {vo : Nat → Int64} {z : Int32 × (Nat → Int64)} (m_h : h ∈ L) (e_h : f h = .inr (0, [.ref r, .int n])) (m_r : r ∈ L) (e_r : f r = .inl (g 1, 1000, .inr (.inl v))) (m_o : o ∈ L) (e_o : f o = .inr (0, [.ref ro, .int no])) (m_ro : ro ∈ L) (e_ro : f ro = .inl (g 1, 1000, .inr (.inl vo)))    (hM : mX0_copyFrom v no vo = some z) : cV l yX0_copyFrom wsX0_copyFrom { frames := 1, cells := 0, slots := 0, locals := 18 } D g [.ref h, .ref o] L f 0 0 (fun L1 f1 => L1 = L ∧ (∀ b, b ∈ L → b ≠ h → b ≠ r → f1 b = f b) ∧ f1 h = .inr (0, [.ref r, .int z.1]) ∧ f1 r = .inl (g 1, 1000, .inr (.inl z.2))) := by
  refine cV_of (cc := cX0_copyFrom) (maxL := 2) (ret := none) (by decide) rfl (Nat.le_of_ble_eq_true rfl) ?_
  intro szz p e s m below meth c hx hb hr hml hts hown hlk hnm S ls hl
  have hl : lv_has ls 2 [(0, .ref h), (1, .ref o)] := hl
  have in_X0 : ∀ w ∈ wsX00, w ∈ wsX0_copyFrom := by decide +kernel
  have n_o_r : o ≠ r := ne_ir e_r e_o
  have n_h_r : h ≠ r := ne_ir e_r e_h
  have n_r_h : r ≠ h := ne_ri e_h e_r
  have fr : ∀ b, b ∈ L → b ≠ h → b ≠ r → f b = f b := fun _ _ _ _ => rfl
  unfold mX0_copyFrom at hM
  refine W_gen (fun QQ hQQ => ?_)
  refine lv_aload_n hx hb dX0_copyFrom_0 rfl (lv_at hl 1 rfl) ?_
  refine q_get hx hb hts in_X0 hown S m_o e_o (C := RX0) (T := TX0) (N := 2) rfl 0 (by decide) rfl (hts (.fieldLink RX0 9 "SieveCabinet$Bag" "row" "[J") (by decide +kernel)) dX0_copyFrom_1 ?_
  refine lv_iconst (v := (0 : Int32)) hx hb dX0_copyFrom_4 (by decide) ?_
  refine lv_aload_n hx hb dX0_copyFrom_5 rfl (lv_at hl 0 rfl) ?_
  refine q_get hx hb hts in_X0 hown S m_h e_h (C := RX0) (T := TX0) (N := 2) rfl 0 (by decide) rfl (hts (.fieldLink RX0 9 "SieveCabinet$Bag" "row" "[J") (by decide +kernel)) dX0_copyFrom_6 ?_
  refine lv_iconst (v := (0 : Int32)) hx hb dX0_copyFrom_9 (by decide) ?_
  refine lv_aload_n hx hb dX0_copyFrom_10 rfl (lv_at hl 1 rfl) ?_
  refine q_get hx hb hts in_X0 hown S m_o e_o (C := RX0) (T := TX0) (N := 2) rfl 1 (by decide) rfl (hts (.fieldLink RX0 15 "SieveCabinet$Bag" "count" "I") (by decide +kernel)) dX0_copyFrom_11 ?_
  obtain ⟨hc14, hM⟩ := ck hM
  refine k_copyl (rest := []) (x1 := (0 : Int32)) (x2 := (0 : Int32)) (k := no) hx hb (by rw [hml]; exact hl.1.symm) hown (hts (.methodLink RX0 27 arraycopyName) (by decide +kernel)) (hts (.native arraycopyName) (by decide +kernel)) (hts (.static arraycopyName) (by decide +kernel)) (hts (.initialized "java/lang/System") (by decide +kernel)) S m_ro e_ro m_r e_r hc14 (Nat.le_of_ble_eq_true rfl) (Nat.le_of_ble_eq_true rfl) dX0_copyFrom_14 (fun f1 ef1 H locs S => ?_)
  have e_r := up_self ef1
  have fr : ∀ b, b ∈ L → b ≠ h → b ≠ r → f1 b = f b := fun b mb nb0 nb1 => (up_ne ef1 nb1 rfl).trans (fr b mb nb0 nb1)
  refine lv_aload_n hx hb dX0_copyFrom_17 rfl (lv_at hl 0 rfl) ?_
  refine lv_aload_n hx hb dX0_copyFrom_18 rfl (lv_at hl 1 rfl) ?_
  have e_o := (up_ne ef1 n_o_r e_o)
  refine q_get hx hb hts in_X0 hown S m_o e_o (C := RX0) (T := TX0) (N := 2) rfl 1 (by decide) rfl (hts (.fieldLink RX0 15 "SieveCabinet$Bag" "count" "I") (by decide +kernel)) dX0_copyFrom_19 ?_
  have e_h := (up_ne ef1 n_h_r e_h)
  refine k_put hx hb hts in_X0 tyX0 tyX0_ok nmX0 hown S m_h e_h (C := RX0) (T := TX0) (N := 2) rfl 1 (by decide) (hts (.fieldLink RX0 15 "SieveCabinet$Bag" "count" "I") (by decide +kernel)) rfl rfl rfl (Nat.le_of_ble_eq_true rfl) dX0_copyFrom_22 (fun f2 ef2 H locs S => ?_)
  have e_h : f2 h = .inr (0, [.ref r, .int no]) := up_self ef2
  have fr : ∀ b, b ∈ L → b ≠ h → b ≠ r → f2 b = f b := fun b mb nb0 nb1 => (up_ne ef2 nb0 rfl).trans (fr b mb nb0 nb1)
  have e_r := (up_ne ef2 n_r_h e_r)
  subst hQQ
  exact q_retv (post := fun L1 f1 => L1 = L ∧ (∀ b, b ∈ L → b ≠ h → b ≠ r → f1 b = f b) ∧ f1 h = .inr (0, [.ref r, .int z.1]) ∧ f1 r = .inl (g 1, 1000, .inr (.inl z.2))) hx hb hr hlk S dX0_copyFrom_25 (by decide) (by decide) (by have hz := Option.some.inj hM; subst hz; exact ⟨rfl, fr, e_h, e_r⟩)

def mX0_becomeTogether_L7 (no2 : Int32) (vo2 : Nat → Int64) : Nat → Int32 → Int32 → (Nat → Int64) → Option (Int32 × Int32 × (Nat → Int64))
  | 0, _, _, _ => none
  | fu + 1, x3_7, ch_1_7, cr_7 => if no2 ≤ x3_7 then (some (x3_7, ch_1_7, cr_7)) else (if ix x3_7 1000 = true then ((mX0_insert ch_1_7 cr_7 (vo2 (Int32.toNatClampNeg x3_7))).bind fun z22 => mX0_becomeTogether_L7 no2 vo2 fu (x3_7 + 1) z22.2.1 z22.2.2) else none)
def mX0_becomeTogether (v : Nat → Int64) (no : Int32) (vo : Nat → Int64) (no2 : Int32) (vo2 : Nat → Int64) : Option (Int32 × (Nat → Int64)) := (mX0_copyFrom v no vo).bind fun z2 => (mX0_becomeTogether_L7 no2 vo2 FU (0 : Int32) z2.1 z2.2).bind fun o7 => some (o7.2.1, o7.2.2)
set_option maxHeartbeats 4000000 in
set_option maxRecDepth 100000 in
theorem k_X0_becomeTogether (l : Launch) (D : va_G) (g : Nat → ClassId) {L : List Nat} {f : Nat → va_E} {h o o2 r ro ro2 : Nat} {n : Int32} {v : Nat → Int64} {no : Int32} {vo : Nat → Int64} {no2 : Int32} {vo2 : Nat → Int64} {z : Int32 × (Nat → Int64)} (m_h : h ∈ L) (e_h : f h = .inr (0, [.ref r, .int n])) (m_r : r ∈ L) (e_r : f r = .inl (g 1, 1000, .inr (.inl v))) (m_o : o ∈ L) (e_o : f o = .inr (0, [.ref ro, .int no])) (m_ro : ro ∈ L) (e_ro : f ro = .inl (g 1, 1000, .inr (.inl vo))) (m_o2 : o2 ∈ L) (e_o2 : f o2 = .inr (0, [.ref ro2, .int no2])) (m_ro2 : ro2 ∈ L) (e_ro2 : f ro2 = .inl (g 1, 1000, .inr (.inl vo2))) (n_o_h : o ≠ h) (n_ro_r : ro ≠ r) (n_o2_h : o2 ≠ h) (n_ro2_r : ro2 ≠ r)   (hM : mX0_becomeTogether v no vo no2 vo2 = some z) : cV l yX0_becomeTogether wsX0_becomeTogether { frames := 2, cells := 0, slots := 0, locals := 48 } D g [.ref h, .ref o, .ref o2] L f 0 0 (fun L1 f1 => L1 = L ∧ (∀ b, b ∈ L → b ≠ h → b ≠ r → f1 b = f b) ∧ f1 h = .inr (0, [.ref r, .int z.1]) ∧ f1 r = .inl (g 1, 1000, .inr (.inl z.2))) := by
  refine cV_of (cc := cX0_becomeTogether) (maxL := 4) (ret := none) (by decide) rfl (Nat.le_of_ble_eq_true rfl) ?_
  intro szz p e s m below meth c hx hb hr hml hts hown hlk hnm S ls hl
  have hl : lv_has ls 4 [(0, .ref h), (1, .ref o), (2, .ref o2)] := hl
  have in_X0 : ∀ w ∈ wsX00, w ∈ wsX0_becomeTogether := by decide +kernel
  have n_o_r : o ≠ r := ne_ir e_r e_o
  have n_ro_h : ro ≠ h := ne_ri e_h e_ro
  have n_o2_r : o2 ≠ r := ne_ir e_r e_o2
  have n_ro2_h : ro2 ≠ h := ne_ri e_h e_ro2
  have fr : ∀ b, b ∈ L → b ≠ h → b ≠ r → f b = f b := fun _ _ _ _ => rfl
  unfold mX0_becomeTogether at hM
  refine W_gen (fun QQ hQQ => ?_)
  refine lv_aload_n hx hb dX0_becomeTogether_0 rfl (lv_at hl 0 rfl) ?_
  refine lv_aload_n hx hb dX0_becomeTogether_1 rfl (lv_at hl 1 rfl) ?_
  obtain ⟨z2, hz2, hM⟩ := bind_some hM
  refine q_vv (As := [.ref o]) (rest := []) ⟨hx, hb, hml, hown, hts⟩ (k_X0_copyFrom l D g m_h e_h m_r e_r m_o e_o m_ro e_ro hz2) (cwV 1 hts gX0_becomeTogether_X0_copyFrom rfl rfl rfl (by decide +kernel) ⟨Nat.le_of_ble_eq_true rfl, Nat.le_of_ble_eq_true rfl⟩) S m_h e_h (T := TX0) (N := 2) rfl rfl hl.1 rfl (Nat.le_of_ble_eq_true rfl) dX0_becomeTogether_2 ⟨Nat.le_of_ble_eq_true rfl, Nat.le_of_ble_eq_true rfl⟩ (fun L1 f2 H locs S w2 => ?_)
  obtain ⟨eL, fv2, E_h, E_r⟩ := w2
  rw [eL] at S
  have fr : ∀ b, b ∈ L → b ≠ h → b ≠ r → f2 b = f b := fun b mb nb0 nb1 => (fv2 b mb nb0 nb1).trans (fr b mb nb0 nb1)
  have e_h : f2 h = .inr (0, [.ref r, .int z2.1]) := E_h
  have e_r : f2 r = .inl (g 1, 1000, .inr (.inl z2.2)) := E_r
  refine lv_iconst (v := (0 : Int32)) hx hb dX0_becomeTogether_5 (by decide) ?_
  refine lv_istore_n (lv' := [(3, .int (0 : Int32)), (0, .ref h), (1, .ref o), (2, .ref o2)]) hx hb dX0_becomeTogether_6 rfl hl (by decide) rfl (fun ls hl => ?_)
  have e_o := ((fv2 o m_o n_o_h n_o_r).trans e_o)
  have e_ro := ((fv2 ro m_ro n_ro_h n_ro_r).trans e_ro)
  have e_o2 := ((fv2 o2 m_o2 n_o2_h n_o2_r).trans e_o2)
  have e_ro2 := ((fv2 ro2 m_ro2 n_ro2_h n_ro2_r).trans e_ro2)
  obtain ⟨o7, ho7, hM⟩ := bind_some hM
  have EX7 : ∀ (fl7 : Nat → va_E) (H : Heap) (locs : List Loc) (ls : Array Slot), PS D g (va_A (va_pl L f) szz) s.heap s L fl7 H locs → fl7 h = .inr (0, [.ref r, .int o7.2.1]) → fl7 r = .inl (g 1, 1000, .inr (.inl o7.2.2)) → fl7 o = .inr (0, [.ref ro, .int no]) → fl7 ro = .inl (g 1, 1000, .inr (.inl vo)) → fl7 o2 = .inr (0, [.ref ro2, .int no2]) → fl7 ro2 = .inl (g 1, 1000, .inr (.inl vo2)) → (∀ b, b ∈ L → b ≠ h → b ≠ r → fl7 b = f b) → lv_has ls 4 [] → W p l e { frames := 2, cells := 0, slots := 0, locals := 48 } s m [.ref h, .ref o, .ref o2].toArray below meth c H locs 0 0 QQ (F0 m 32 ls []) := by
    intro fl7 H locs ls S e_h e_r e_o e_ro e_o2 e_ro2 fr hl
    subst hQQ
    exact q_retv (post := fun L1 f1 => L1 = L ∧ (∀ b, b ∈ L → b ≠ h → b ≠ r → f1 b = f b) ∧ f1 h = .inr (0, [.ref r, .int z.1]) ∧ f1 r = .inl (g 1, 1000, .inr (.inl z.2))) hx hb hr hlk S dX0_becomeTogether_32 (by decide) (by decide) (by have hz := Option.some.inj hM; subst hz; exact ⟨rfl, fr, e_h, e_r⟩)
  have LP7 : ∀ (fu : Nat) (x3_7 : Int32) (ch_1_7 : Int32) (cr_7 : Nat → Int64) (fl7 : Nat → va_E) (H : Heap) (locs : List Loc) (ls : Array Slot), (mX0_becomeTogether_L7 no2 vo2) fu x3_7 ch_1_7 cr_7 = some o7 → PS D g (va_A (va_pl L f) szz) s.heap s L fl7 H locs → fl7 h = .inr (0, [.ref r, .int ch_1_7]) → fl7 r = .inl (g 1, 1000, .inr (.inl cr_7)) → fl7 o = .inr (0, [.ref ro, .int no]) → fl7 ro = .inl (g 1, 1000, .inr (.inl vo)) → fl7 o2 = .inr (0, [.ref ro2, .int no2]) → fl7 ro2 = .inl (g 1, 1000, .inr (.inl vo2)) → (∀ b, b ∈ L → b ≠ h → b ≠ r → fl7 b = f b) → lv_has ls 4 [(3, .int x3_7), (0, .ref h), (2, .ref o2)] → W p l e { frames := 2, cells := 0, slots := 0, locals := 48 } s m [.ref h, .ref o, .ref o2].toArray below meth c H locs 0 0 QQ (F0 m 7 ls []) := by
    intro fu
    induction fu with
    | zero => intro x3_7 ch_1_7 cr_7 fl7 H locs ls ho7 S e_h e_r e_o e_ro e_o2 e_ro2 fr hl; exact no_some ho7
    | succ fu ih7 =>
      intro x3_7 ch_1_7 cr_7 fl7 H locs ls ho7 S e_h e_r e_o e_ro e_o2 e_ro2 fr hl
      rw [mX0_becomeTogether_L7] at ho7
      refine lv_iload_n hx hb dX0_becomeTogether_7 rfl (lv_at hl 0 rfl) ?_
      refine lv_aload_n hx hb dX0_becomeTogether_8 rfl (lv_at hl 2 rfl) ?_
      refine q_get hx hb hts in_X0 hown S m_o2 e_o2 (C := RX0) (T := TX0) (N := 2) rfl 1 (by decide) rfl (hts (.fieldLink RX0 15 "SieveCabinet$Bag" "count" "I") (by decide +kernel)) dX0_becomeTogether_9 ?_
      refine lv_icmp_ge (tgt := 32) hx hb dX0_becomeTogether_12 (by decide) (fun b12 => ?_) (fun b12 => ?_)
      · have ho7 := itT b12 ho7
        obtain rfl := Option.some.inj ho7
        exact EX7 fl7 _ _ _ S e_h e_r e_o e_ro e_o2 e_ro2 fr (lv_sub hl [] rfl)
      · have ho7 := itF b12 ho7
        refine lv_aload_n hx hb dX0_becomeTogether_15 rfl (lv_at hl 1 rfl) ?_
        refine lv_aload_n hx hb dX0_becomeTogether_16 rfl (lv_at hl 2 rfl) ?_
        refine q_get hx hb hts in_X0 hown S m_o2 e_o2 (C := RX0) (T := TX0) (N := 2) rfl 0 (by decide) rfl (hts (.fieldLink RX0 9 "SieveCabinet$Bag" "row" "[J") (by decide +kernel)) dX0_becomeTogether_17 ?_
        refine lv_iload_n hx hb dX0_becomeTogether_20 rfl (lv_at hl 0 rfl) ?_
        obtain ⟨hi21, ho7⟩ := ckx ho7
        refine q_lald hx hb S m_ro2 e_ro2 hi21 dX0_becomeTogether_21 ?_
        obtain ⟨z22, hz22, ho7⟩ := bind_some ho7
        refine q_vi (As := [.long (vo2 (Int32.toNatClampNeg x3_7))]) (rest := []) ⟨hx, hb, hml, hown, hts⟩ (k_X0_insert l D g m_h e_h m_r e_r hz22) (cwV 1 hts gX0_becomeTogether_X0_insert rfl rfl rfl (by decide +kernel) ⟨Nat.le_of_ble_eq_true rfl, Nat.le_of_ble_eq_true rfl⟩) S m_h e_h (T := TX0) (N := 2) rfl rfl hl.1 rfl (Nat.le_of_ble_eq_true rfl) dX0_becomeTogether_22 ⟨Nat.le_of_ble_eq_true rfl, Nat.le_of_ble_eq_true rfl⟩ (fun r6 L4 f5 H locs S w22 => ?_)
        obtain ⟨ex22, eL, fv22, E_h, E_r⟩ := w22
        rw [eL] at S
        have fr : ∀ b, b ∈ L → b ≠ h → b ≠ r → f5 b = f b := fun b mb nb0 nb1 => (fv22 b mb nb0 nb1).trans (fr b mb nb0 nb1)
        have e_h : f5 h = .inr (0, [.ref r, .int z22.2.1]) := E_h
        have e_r : f5 r = .inl (g 1, 1000, .inr (.inl z22.2.2)) := E_r
        replace ex22 := ex22.symm
        subst ex22
        refine lv_pop hx hb dX0_becomeTogether_25 rfl ?_
        refine lv_iinc (v := (x3_7 + 1)) (lv' := [(3, .int (x3_7 + 1)), (0, .ref h), (2, .ref o2)]) hx hb dX0_becomeTogether_26 hl (k := 0) rfl rfl (by decide) rfl (fun ls hl => ?_)
        refine lv_goto (tgt := 7) hx hb dX0_becomeTogether_29 (by decide) ?_
        have e_o := ((fv22 o m_o n_o_h n_o_r).trans e_o)
        have e_ro := ((fv22 ro m_ro n_ro_h n_ro_r).trans e_ro)
        have e_o2 := ((fv22 o2 m_o2 n_o2_h n_o2_r).trans e_o2)
        have e_ro2 := ((fv22 ro2 m_ro2 n_ro2_h n_ro2_r).trans e_ro2)
        exact ih7 (x3_7 + 1) z22.2.1 z22.2.2 f5 _ _ _ ho7 S e_h e_r e_o e_ro e_o2 e_ro2 fr (lv_sub hl [0, 1, 2] rfl)
  exact LP7 FU (0 : Int32) z2.1 z2.2 f2 _ _ _ ho7 S e_h e_r e_o e_ro e_o2 e_ro2 fr (lv_sub hl [0, 1, 3] rfl)

def mX0_becomeShared_L18 (vo : Nat → Int64) (no2 : Int32) (vo2 : Nat → Int64) (x4_9 : Int32) : Nat → Int32 → Option (Int32)
  | 0, _ => none
  | fu + 1, x3_18 => if no2 ≤ x3_18 then (some x3_18) else (if ix x3_18 1000 = true then (if ix x4_9 1000 = true then (if 0 ≤ (lg_cmp (vo2 (Int32.toNatClampNeg x3_18)) (vo (Int32.toNatClampNeg x4_9))) then (some x3_18) else (mX0_becomeShared_L18 vo no2 vo2 x4_9 fu (x3_18 + 1))) else none) else none)
def mX0_becomeShared_L9 (no : Int32) (vo : Nat → Int64) (no2 : Int32) (vo2 : Nat → Int64) : Nat → Int32 → Int32 → Int32 → (Nat → Int64) → Option (Int32 × Int32 × Int32 × (Nat → Int64))
  | 0, _, _, _, _ => none
  | fu + 1, x4_9, x3_9, ch_1_9, cr_9 => if no ≤ x4_9 then (some (x4_9, x3_9, ch_1_9, cr_9)) else ((mX0_becomeShared_L18 vo no2 vo2 x4_9 FU x3_9).bind fun o18 => if no2 ≤ o18 then (mX0_becomeShared_L9 no vo no2 vo2 fu (x4_9 + 1) o18 ch_1_9 cr_9) else (if ix o18 1000 = true then (if ix x4_9 1000 = true then (if (lg_cmp (vo2 (Int32.toNatClampNeg o18)) (vo (Int32.toNatClampNeg x4_9))) = 0 then (if ix x4_9 1000 = true then ((mX0_append ch_1_9 cr_9 (vo (Int32.toNatClampNeg x4_9))).bind fun z82 => mX0_becomeShared_L9 no vo no2 vo2 fu (x4_9 + 1) (o18 + 1) z82.1 z82.2) else none) else (mX0_becomeShared_L9 no vo no2 vo2 fu (x4_9 + 1) o18 ch_1_9 cr_9)) else none) else none))
def mX0_becomeShared (v : Nat → Int64) (no : Int32) (vo : Nat → Int64) (no2 : Int32) (vo2 : Nat → Int64) : Option (Int32 × (Nat → Int64)) := (mX0_empty).bind fun z1 => (mX0_becomeShared_L9 no vo no2 vo2 FU (0 : Int32) (0 : Int32) z1 v).bind fun o9 => some (o9.2.2.1, o9.2.2.2)
set_option maxHeartbeats 4000000 in
set_option maxRecDepth 100000 in
theorem k_X0_becomeShared (l : Launch) (D : va_G) (g : Nat → ClassId) {L : List Nat} {f : Nat → va_E} {h o o2 r ro ro2 : Nat} {n : Int32} {v : Nat → Int64} {no : Int32} {vo : Nat → Int64} {no2 : Int32} {vo2 : Nat → Int64} {z : Int32 × (Nat → Int64)} (m_h : h ∈ L) (e_h : f h = .inr (0, [.ref r, .int n])) (m_r : r ∈ L) (e_r : f r = .inl (g 1, 1000, .inr (.inl v))) (m_o : o ∈ L) (e_o : f o = .inr (0, [.ref ro, .int no])) (m_ro : ro ∈ L) (e_ro : f ro = .inl (g 1, 1000, .inr (.inl vo))) (m_o2 : o2 ∈ L) (e_o2 : f o2 = .inr (0, [.ref ro2, .int no2])) (m_ro2 : ro2 ∈ L) (e_ro2 : f ro2 = .inl (g 1, 1000, .inr (.inl vo2))) (n_o_h : o ≠ h) (n_o2_h : o2 ≠ h) (n_ro_r : ro ≠ r) (n_ro2_r : ro2 ≠ r)   (hM : mX0_becomeShared v no vo no2 vo2 = some z) : cV l yX0_becomeShared wsX0_becomeShared { frames := 2, cells := 0, slots := 0, locals := 42 } D g [.ref h, .ref o, .ref o2] L f 0 0 (fun L1 f1 => L1 = L ∧ (∀ b, b ∈ L → b ≠ h → b ≠ r → f1 b = f b) ∧ f1 h = .inr (0, [.ref r, .int z.1]) ∧ f1 r = .inl (g 1, 1000, .inr (.inl z.2))) := by
  refine cV_of (cc := cX0_becomeShared) (maxL := 5) (ret := none) (by decide) rfl (Nat.le_of_ble_eq_true rfl) ?_
  intro szz p e s m below meth c hx hb hr hml hts hown hlk hnm S ls hl
  have hl : lv_has ls 5 [(0, .ref h), (1, .ref o), (2, .ref o2)] := hl
  have in_X0 : ∀ w ∈ wsX00, w ∈ wsX0_becomeShared := by decide +kernel
  have n_r_h : r ≠ h := ne_ri e_h e_r
  have n_ro_h : ro ≠ h := ne_ri e_h e_ro
  have n_ro2_h : ro2 ≠ h := ne_ri e_h e_ro2
  have n_o_r : o ≠ r := ne_ir e_r e_o
  have n_o2_r : o2 ≠ r := ne_ir e_r e_o2
  have fr : ∀ b, b ∈ L → b ≠ h → b ≠ r → f b = f b := fun _ _ _ _ => rfl
  unfold mX0_becomeShared at hM
  refine W_gen (fun QQ hQQ => ?_)
  refine lv_aload_n hx hb dX0_becomeShared_0 rfl (lv_at hl 0 rfl) ?_
  obtain ⟨z1, hz1, hM⟩ := bind_some hM
  refine q_vv (As := []) (rest := []) ⟨hx, hb, hml, hown, hts⟩ (k_X0_empty l D g m_h e_h hz1) (cwV 0 hts gX0_becomeShared_X0_empty rfl rfl rfl (by decide +kernel) ⟨Nat.le_of_ble_eq_true rfl, Nat.le_of_ble_eq_true rfl⟩) S m_h e_h (T := TX0) (N := 2) rfl rfl hl.1 rfl (Nat.le_of_ble_eq_true rfl) dX0_becomeShared_1 ⟨Nat.le_of_ble_eq_true rfl, Nat.le_of_ble_eq_true rfl⟩ (fun L1 f2 H locs S w1 => ?_)
  obtain ⟨eL, fv1, E_h⟩ := w1
  rw [eL] at S
  have fr : ∀ b, b ∈ L → b ≠ h → b ≠ r → f2 b = f b := fun b mb nb0 nb1 => (fv1 b mb nb0).trans (fr b mb nb0 nb1)
  have e_h : f2 h = .inr (0, [.ref r, .int z1]) := E_h
  refine lv_iconst (v := (0 : Int32)) hx hb dX0_becomeShared_4 (by decide) ?_
  refine lv_istore_n (lv' := [(3, .int (0 : Int32)), (0, .ref h), (1, .ref o), (2, .ref o2)]) hx hb dX0_becomeShared_5 rfl hl (by decide) rfl (fun ls hl => ?_)
  refine lv_iconst (v := (0 : Int32)) hx hb dX0_becomeShared_6 (by decide) ?_
  refine lv_istore (lv' := [(4, .int (0 : Int32)), (3, .int (0 : Int32)), (0, .ref h), (1, .ref o), (2, .ref o2)]) hx hb dX0_becomeShared_7 hl (by decide) rfl (fun ls hl => ?_)
  have e_r := ((fv1 r m_r n_r_h).trans e_r)
  have e_o := ((fv1 o m_o n_o_h).trans e_o)
  have e_ro := ((fv1 ro m_ro n_ro_h).trans e_ro)
  have e_o2 := ((fv1 o2 m_o2 n_o2_h).trans e_o2)
  have e_ro2 := ((fv1 ro2 m_ro2 n_ro2_h).trans e_ro2)
  obtain ⟨o9, ho9, hM⟩ := bind_some hM
  have EX9 : ∀ (fl9 : Nat → va_E) (H : Heap) (locs : List Loc) (ls : Array Slot), PS D g (va_A (va_pl L f) szz) s.heap s L fl9 H locs → fl9 h = .inr (0, [.ref r, .int o9.2.2.1]) → fl9 r = .inl (g 1, 1000, .inr (.inl o9.2.2.2)) → fl9 o = .inr (0, [.ref ro, .int no]) → fl9 ro = .inl (g 1, 1000, .inr (.inl vo)) → fl9 o2 = .inr (0, [.ref ro2, .int no2]) → fl9 ro2 = .inl (g 1, 1000, .inr (.inl vo2)) → (∀ b, b ∈ L → b ≠ h → b ≠ r → fl9 b = f b) → lv_has ls 5 [] → W p l e { frames := 2, cells := 0, slots := 0, locals := 42 } s m [.ref h, .ref o, .ref o2].toArray below meth c H locs 0 0 QQ (F0 m 94 ls []) := by
    intro fl9 H locs ls S e_h e_r e_o e_ro e_o2 e_ro2 fr hl
    subst hQQ
    exact q_retv (post := fun L1 f1 => L1 = L ∧ (∀ b, b ∈ L → b ≠ h → b ≠ r → f1 b = f b) ∧ f1 h = .inr (0, [.ref r, .int z.1]) ∧ f1 r = .inl (g 1, 1000, .inr (.inl z.2))) hx hb hr hlk S dX0_becomeShared_94 (by decide) (by decide) (by have hz := Option.some.inj hM; subst hz; exact ⟨rfl, fr, e_h, e_r⟩)
  have LP9 : ∀ (fu : Nat) (x4_9 : Int32) (x3_9 : Int32) (ch_1_9 : Int32) (cr_9 : Nat → Int64) (fl9 : Nat → va_E) (H : Heap) (locs : List Loc) (ls : Array Slot), (mX0_becomeShared_L9 no vo no2 vo2) fu x4_9 x3_9 ch_1_9 cr_9 = some o9 → PS D g (va_A (va_pl L f) szz) s.heap s L fl9 H locs → fl9 h = .inr (0, [.ref r, .int ch_1_9]) → fl9 r = .inl (g 1, 1000, .inr (.inl cr_9)) → fl9 o = .inr (0, [.ref ro, .int no]) → fl9 ro = .inl (g 1, 1000, .inr (.inl vo)) → fl9 o2 = .inr (0, [.ref ro2, .int no2]) → fl9 ro2 = .inl (g 1, 1000, .inr (.inl vo2)) → (∀ b, b ∈ L → b ≠ h → b ≠ r → fl9 b = f b) → lv_has ls 5 [(4, .int x4_9), (3, .int x3_9), (0, .ref h), (1, .ref o), (2, .ref o2)] → W p l e { frames := 2, cells := 0, slots := 0, locals := 42 } s m [.ref h, .ref o, .ref o2].toArray below meth c H locs 0 0 QQ (F0 m 9 ls []) := by
    intro fu
    induction fu with
    | zero => intro x4_9 x3_9 ch_1_9 cr_9 fl9 H locs ls ho9 S e_h e_r e_o e_ro e_o2 e_ro2 fr hl; exact no_some ho9
    | succ fu ih9 =>
      intro x4_9 x3_9 ch_1_9 cr_9 fl9 H locs ls ho9 S e_h e_r e_o e_ro e_o2 e_ro2 fr hl
      rw [mX0_becomeShared_L9] at ho9
      refine lv_iload hx hb dX0_becomeShared_9 (lv_at hl 0 rfl) ?_
      refine lv_aload_n hx hb dX0_becomeShared_11 rfl (lv_at hl 3 rfl) ?_
      refine q_get hx hb hts in_X0 hown S m_o e_o (C := RX0) (T := TX0) (N := 2) rfl 1 (by decide) rfl (hts (.fieldLink RX0 15 "SieveCabinet$Bag" "count" "I") (by decide +kernel)) dX0_becomeShared_12 ?_
      refine lv_icmp_ge (tgt := 94) hx hb dX0_becomeShared_15 (by decide) (fun b15 => ?_) (fun b15 => ?_)
      · have ho9 := itT b15 ho9
        obtain rfl := Option.some.inj ho9
        exact EX9 fl9 _ _ _ S e_h e_r e_o e_ro e_o2 e_ro2 fr (lv_sub hl [] rfl)
      · have ho9 := itF b15 ho9
        obtain ⟨o18, ho18, ho9⟩ := bind_some ho9
        have EX18 : ∀ (H : Heap) (locs : List Loc) (ls : Array Slot), PS D g (va_A (va_pl L f) szz) s.heap s L fl9 H locs → lv_has ls 5 [(4, .int x4_9), (3, .int o18), (0, .ref h), (1, .ref o), (2, .ref o2)] → W p l e { frames := 2, cells := 0, slots := 0, locals := 42 } s m [.ref h, .ref o, .ref o2].toArray below meth c H locs 0 0 QQ (F0 m 49 ls []) := by
          intro H locs ls S hl
          refine lv_iload_n hx hb dX0_becomeShared_49 rfl (lv_at hl 1 rfl) ?_
          refine lv_aload_n hx hb dX0_becomeShared_50 rfl (lv_at hl 4 rfl) ?_
          refine q_get hx hb hts in_X0 hown S m_o2 e_o2 (C := RX0) (T := TX0) (N := 2) rfl 1 (by decide) rfl (hts (.fieldLink RX0 15 "SieveCabinet$Bag" "count" "I") (by decide +kernel)) dX0_becomeShared_51 ?_
          refine lv_icmp_ge (tgt := 88) hx hb dX0_becomeShared_54 (by decide) (fun b54 => ?_) (fun b54 => ?_)
          · have ho9 := itT b54 ho9
            refine lv_iinc (v := (x4_9 + 1)) (lv' := [(4, .int (x4_9 + 1)), (3, .int o18), (0, .ref h), (1, .ref o), (2, .ref o2)]) hx hb dX0_becomeShared_88 hl (k := 0) rfl rfl (by decide) rfl (fun ls hl => ?_)
            refine lv_goto (tgt := 9) hx hb dX0_becomeShared_91 (by decide) ?_
            exact ih9 (x4_9 + 1) o18 ch_1_9 cr_9 fl9 _ _ _ ho9 S e_h e_r e_o e_ro e_o2 e_ro2 fr (lv_sub hl [0, 1, 2, 3, 4] rfl)
          · have ho9 := itF b54 ho9
            refine lv_aload_n hx hb dX0_becomeShared_57 rfl (lv_at hl 4 rfl) ?_
            refine q_get hx hb hts in_X0 hown S m_o2 e_o2 (C := RX0) (T := TX0) (N := 2) rfl 0 (by decide) rfl (hts (.fieldLink RX0 9 "SieveCabinet$Bag" "row" "[J") (by decide +kernel)) dX0_becomeShared_58 ?_
            refine lv_iload_n hx hb dX0_becomeShared_61 rfl (lv_at hl 1 rfl) ?_
            obtain ⟨hi62, ho9⟩ := ckx ho9
            refine q_lald hx hb S m_ro2 e_ro2 hi62 dX0_becomeShared_62 ?_
            refine lv_aload_n hx hb dX0_becomeShared_63 rfl (lv_at hl 3 rfl) ?_
            refine q_get hx hb hts in_X0 hown S m_o e_o (C := RX0) (T := TX0) (N := 2) rfl 0 (by decide) rfl (hts (.fieldLink RX0 9 "SieveCabinet$Bag" "row" "[J") (by decide +kernel)) dX0_becomeShared_64 ?_
            refine lv_iload hx hb dX0_becomeShared_67 (lv_at hl 0 rfl) ?_
            obtain ⟨hi69, ho9⟩ := ckx ho9
            refine q_lald hx hb S m_ro e_ro hi69 dX0_becomeShared_69 ?_
            refine W.lcmp hx hb dX0_becomeShared_70 ?_
            refine lv_if_ne (tgt := 88) hx hb dX0_becomeShared_71 (by decide) (fun b71 => ?_) (fun b71 => ?_)
            · have ho9 := itF b71 ho9
              refine lv_iinc (v := (x4_9 + 1)) (lv' := [(4, .int (x4_9 + 1)), (3, .int o18), (0, .ref h), (1, .ref o), (2, .ref o2)]) hx hb dX0_becomeShared_88 hl (k := 0) rfl rfl (by decide) rfl (fun ls hl => ?_)
              refine lv_goto (tgt := 9) hx hb dX0_becomeShared_91 (by decide) ?_
              exact ih9 (x4_9 + 1) o18 ch_1_9 cr_9 fl9 _ _ _ ho9 S e_h e_r e_o e_ro e_o2 e_ro2 fr (lv_sub hl [0, 1, 2, 3, 4] rfl)
            · have ho9 := itT b71 ho9
              refine lv_aload_n hx hb dX0_becomeShared_74 rfl (lv_at hl 2 rfl) ?_
              refine lv_aload_n hx hb dX0_becomeShared_75 rfl (lv_at hl 3 rfl) ?_
              refine q_get hx hb hts in_X0 hown S m_o e_o (C := RX0) (T := TX0) (N := 2) rfl 0 (by decide) rfl (hts (.fieldLink RX0 9 "SieveCabinet$Bag" "row" "[J") (by decide +kernel)) dX0_becomeShared_76 ?_
              refine lv_iload hx hb dX0_becomeShared_79 (lv_at hl 0 rfl) ?_
              obtain ⟨hi81, ho9⟩ := ckx ho9
              refine q_lald hx hb S m_ro e_ro hi81 dX0_becomeShared_81 ?_
              obtain ⟨z82, hz82, ho9⟩ := bind_some ho9
              refine q_vv (As := [.long (vo (Int32.toNatClampNeg x4_9))]) (rest := []) ⟨hx, hb, hml, hown, hts⟩ (k_X0_append l D g m_h e_h m_r e_r hz82) (cwV 1 hts gX0_becomeShared_X0_append rfl rfl rfl (by decide +kernel) ⟨Nat.le_of_ble_eq_true rfl, Nat.le_of_ble_eq_true rfl⟩) S m_h e_h (T := TX0) (N := 2) rfl rfl hl.1 rfl (Nat.le_of_ble_eq_true rfl) dX0_becomeShared_82 ⟨Nat.le_of_ble_eq_true rfl, Nat.le_of_ble_eq_true rfl⟩ (fun L4 f5 H locs S w82 => ?_)
              obtain ⟨eL, fv82, E_h, E_r⟩ := w82
              rw [eL] at S
              have fr : ∀ b, b ∈ L → b ≠ h → b ≠ r → f5 b = f b := fun b mb nb0 nb1 => (fv82 b mb nb0 nb1).trans (fr b mb nb0 nb1)
              have e_h : f5 h = .inr (0, [.ref r, .int z82.1]) := E_h
              have e_r : f5 r = .inl (g 1, 1000, .inr (.inl z82.2)) := E_r
              refine lv_iinc (v := (o18 + 1)) (lv' := [(3, .int (o18 + 1)), (4, .int x4_9), (0, .ref h), (1, .ref o), (2, .ref o2)]) hx hb dX0_becomeShared_85 hl (k := 1) rfl rfl (by decide) rfl (fun ls hl => ?_)
              refine lv_iinc (v := (x4_9 + 1)) (lv' := [(4, .int (x4_9 + 1)), (3, .int (o18 + 1)), (0, .ref h), (1, .ref o), (2, .ref o2)]) hx hb dX0_becomeShared_88 hl (k := 1) rfl rfl (by decide) rfl (fun ls hl => ?_)
              refine lv_goto (tgt := 9) hx hb dX0_becomeShared_91 (by decide) ?_
              have e_o := ((fv82 o m_o n_o_h n_o_r).trans e_o)
              have e_ro := ((fv82 ro m_ro n_ro_h n_ro_r).trans e_ro)
              have e_o2 := ((fv82 o2 m_o2 n_o2_h n_o2_r).trans e_o2)
              have e_ro2 := ((fv82 ro2 m_ro2 n_ro2_h n_ro2_r).trans e_ro2)
              exact ih9 (x4_9 + 1) (o18 + 1) z82.1 z82.2 f5 _ _ _ ho9 S e_h e_r e_o e_ro e_o2 e_ro2 fr (lv_sub hl [0, 1, 2, 3, 4] rfl)
        have LP18 : ∀ (fu : Nat) (x3_18 : Int32) (H : Heap) (locs : List Loc) (ls : Array Slot), (mX0_becomeShared_L18 vo no2 vo2 x4_9) fu x3_18 = some o18 → PS D g (va_A (va_pl L f) szz) s.heap s L fl9 H locs → lv_has ls 5 [(4, .int x4_9), (3, .int x3_18), (0, .ref h), (1, .ref o), (2, .ref o2)] → W p l e { frames := 2, cells := 0, slots := 0, locals := 42 } s m [.ref h, .ref o, .ref o2].toArray below meth c H locs 0 0 QQ (F0 m 18 ls []) := by
          intro fu
          induction fu with
          | zero => intro x3_18 H locs ls ho18 S hl; exact no_some ho18
          | succ fu ih18 =>
            intro x3_18 H locs ls ho18 S hl
            rw [mX0_becomeShared_L18] at ho18
            refine lv_iload_n hx hb dX0_becomeShared_18 rfl (lv_at hl 1 rfl) ?_
            refine lv_aload_n hx hb dX0_becomeShared_19 rfl (lv_at hl 4 rfl) ?_
            refine q_get hx hb hts in_X0 hown S m_o2 e_o2 (C := RX0) (T := TX0) (N := 2) rfl 1 (by decide) rfl (hts (.fieldLink RX0 15 "SieveCabinet$Bag" "count" "I") (by decide +kernel)) dX0_becomeShared_20 ?_
            refine lv_icmp_ge (tgt := 49) hx hb dX0_becomeShared_23 (by decide) (fun b23 => ?_) (fun b23 => ?_)
            · have ho18 := itT b23 ho18
              obtain rfl := Option.some.inj ho18
              exact EX18 _ _ _ S (lv_sub hl [0, 1, 2, 3, 4] rfl)
            · have ho18 := itF b23 ho18
              refine lv_aload_n hx hb dX0_becomeShared_26 rfl (lv_at hl 4 rfl) ?_
              refine q_get hx hb hts in_X0 hown S m_o2 e_o2 (C := RX0) (T := TX0) (N := 2) rfl 0 (by decide) rfl (hts (.fieldLink RX0 9 "SieveCabinet$Bag" "row" "[J") (by decide +kernel)) dX0_becomeShared_27 ?_
              refine lv_iload_n hx hb dX0_becomeShared_30 rfl (lv_at hl 1 rfl) ?_
              obtain ⟨hi31, ho18⟩ := ckx ho18
              refine q_lald hx hb S m_ro2 e_ro2 hi31 dX0_becomeShared_31 ?_
              refine lv_aload_n hx hb dX0_becomeShared_32 rfl (lv_at hl 3 rfl) ?_
              refine q_get hx hb hts in_X0 hown S m_o e_o (C := RX0) (T := TX0) (N := 2) rfl 0 (by decide) rfl (hts (.fieldLink RX0 9 "SieveCabinet$Bag" "row" "[J") (by decide +kernel)) dX0_becomeShared_33 ?_
              refine lv_iload hx hb dX0_becomeShared_36 (lv_at hl 0 rfl) ?_
              obtain ⟨hi38, ho18⟩ := ckx ho18
              refine q_lald hx hb S m_ro e_ro hi38 dX0_becomeShared_38 ?_
              refine W.lcmp hx hb dX0_becomeShared_39 ?_
              refine lv_if_ge (tgt := 49) hx hb dX0_becomeShared_40 (by decide) (fun b40 => ?_) (fun b40 => ?_)
              · have ho18 := itT b40 ho18
                obtain rfl := Option.some.inj ho18
                exact EX18 _ _ _ S (lv_sub hl [0, 1, 2, 3, 4] rfl)
              · have ho18 := itF b40 ho18
                refine lv_iinc (v := (x3_18 + 1)) (lv' := [(3, .int (x3_18 + 1)), (4, .int x4_9), (0, .ref h), (1, .ref o), (2, .ref o2)]) hx hb dX0_becomeShared_43 hl (k := 1) rfl rfl (by decide) rfl (fun ls hl => ?_)
                refine lv_goto (tgt := 18) hx hb dX0_becomeShared_46 (by decide) ?_
                exact ih18 (x3_18 + 1) _ _ _ ho18 S (lv_sub hl [1, 0, 2, 3, 4] rfl)
        exact LP18 FU x3_9 _ _ _ ho18 S (lv_sub hl [0, 1, 2, 3, 4] rfl)
  exact LP9 FU (0 : Int32) (0 : Int32) z1 v f2 _ _ _ ho9 S e_h e_r e_o e_ro e_o2 e_ro2 fr (lv_sub hl [0, 1, 2, 3, 4] rfl)

def mX0_becomeWithout_L6 (no : Int32) (vo : Nat → Int64) (no2 : Int32) (vo2 : Nat → Int64) : Nat → Int32 → Int32 → (Nat → Int64) → Option (Int32 × Int32 × (Nat → Int64))
  | 0, _, _, _ => none
  | fu + 1, x3_6, ch_1_6, cr_6 => if no ≤ x3_6 then (some (x3_6, ch_1_6, cr_6)) else (if ix x3_6 1000 = true then ((mX0_has no2 vo2 (vo (Int32.toNatClampNeg x3_6))).bind fun z21 => if z21 = 0 then (if ix x3_6 1000 = true then ((mX0_append ch_1_6 cr_6 (vo (Int32.toNatClampNeg x3_6))).bind fun z34 => mX0_becomeWithout_L6 no vo no2 vo2 fu (x3_6 + 1) z34.1 z34.2) else none) else (mX0_becomeWithout_L6 no vo no2 vo2 fu (x3_6 + 1) ch_1_6 cr_6)) else none)
def mX0_becomeWithout (v : Nat → Int64) (no : Int32) (vo : Nat → Int64) (no2 : Int32) (vo2 : Nat → Int64) : Option (Int32 × (Nat → Int64)) := (mX0_empty).bind fun z1 => (mX0_becomeWithout_L6 no vo no2 vo2 FU (0 : Int32) z1 v).bind fun o6 => some (o6.2.1, o6.2.2)
set_option maxHeartbeats 4000000 in
set_option maxRecDepth 100000 in
theorem k_X0_becomeWithout (l : Launch) (D : va_G) (g : Nat → ClassId) {L : List Nat} {f : Nat → va_E} {h o o2 r ro ro2 : Nat} {n : Int32} {v : Nat → Int64} {no : Int32} {vo : Nat → Int64} {no2 : Int32} {vo2 : Nat → Int64} {z : Int32 × (Nat → Int64)} (m_h : h ∈ L) (e_h : f h = .inr (0, [.ref r, .int n])) (m_r : r ∈ L) (e_r : f r = .inl (g 1, 1000, .inr (.inl v))) (m_o : o ∈ L) (e_o : f o = .inr (0, [.ref ro, .int no])) (m_ro : ro ∈ L) (e_ro : f ro = .inl (g 1, 1000, .inr (.inl vo))) (m_o2 : o2 ∈ L) (e_o2 : f o2 = .inr (0, [.ref ro2, .int no2])) (m_ro2 : ro2 ∈ L) (e_ro2 : f ro2 = .inl (g 1, 1000, .inr (.inl vo2))) (n_o_h : o ≠ h) (n_o2_h : o2 ≠ h) (n_ro_r : ro ≠ r) (n_ro2_r : ro2 ≠ r)   (hM : mX0_becomeWithout v no vo no2 vo2 = some z) : cV l yX0_becomeWithout wsX0_becomeWithout { frames := 2, cells := 0, slots := 0, locals := 48 } D g [.ref h, .ref o, .ref o2] L f 0 0 (fun L1 f1 => L1 = L ∧ (∀ b, b ∈ L → b ≠ h → b ≠ r → f1 b = f b) ∧ f1 h = .inr (0, [.ref r, .int z.1]) ∧ f1 r = .inl (g 1, 1000, .inr (.inl z.2))) := by
  refine cV_of (cc := cX0_becomeWithout) (maxL := 4) (ret := none) (by decide) rfl (Nat.le_of_ble_eq_true rfl) ?_
  intro szz p e s m below meth c hx hb hr hml hts hown hlk hnm S ls hl
  have hl : lv_has ls 4 [(0, .ref h), (1, .ref o), (2, .ref o2)] := hl
  have in_X0 : ∀ w ∈ wsX00, w ∈ wsX0_becomeWithout := by decide +kernel
  have n_r_h : r ≠ h := ne_ri e_h e_r
  have n_ro_h : ro ≠ h := ne_ri e_h e_ro
  have n_ro2_h : ro2 ≠ h := ne_ri e_h e_ro2
  have n_o_r : o ≠ r := ne_ir e_r e_o
  have n_o2_r : o2 ≠ r := ne_ir e_r e_o2
  have fr : ∀ b, b ∈ L → b ≠ h → b ≠ r → f b = f b := fun _ _ _ _ => rfl
  unfold mX0_becomeWithout at hM
  refine W_gen (fun QQ hQQ => ?_)
  refine lv_aload_n hx hb dX0_becomeWithout_0 rfl (lv_at hl 0 rfl) ?_
  obtain ⟨z1, hz1, hM⟩ := bind_some hM
  refine q_vv (As := []) (rest := []) ⟨hx, hb, hml, hown, hts⟩ (k_X0_empty l D g m_h e_h hz1) (cwV 0 hts gX0_becomeWithout_X0_empty rfl rfl rfl (by decide +kernel) ⟨Nat.le_of_ble_eq_true rfl, Nat.le_of_ble_eq_true rfl⟩) S m_h e_h (T := TX0) (N := 2) rfl rfl hl.1 rfl (Nat.le_of_ble_eq_true rfl) dX0_becomeWithout_1 ⟨Nat.le_of_ble_eq_true rfl, Nat.le_of_ble_eq_true rfl⟩ (fun L1 f2 H locs S w1 => ?_)
  obtain ⟨eL, fv1, E_h⟩ := w1
  rw [eL] at S
  have fr : ∀ b, b ∈ L → b ≠ h → b ≠ r → f2 b = f b := fun b mb nb0 nb1 => (fv1 b mb nb0).trans (fr b mb nb0 nb1)
  have e_h : f2 h = .inr (0, [.ref r, .int z1]) := E_h
  refine lv_iconst (v := (0 : Int32)) hx hb dX0_becomeWithout_4 (by decide) ?_
  refine lv_istore_n (lv' := [(3, .int (0 : Int32)), (0, .ref h), (1, .ref o), (2, .ref o2)]) hx hb dX0_becomeWithout_5 rfl hl (by decide) rfl (fun ls hl => ?_)
  have e_r := ((fv1 r m_r n_r_h).trans e_r)
  have e_o := ((fv1 o m_o n_o_h).trans e_o)
  have e_ro := ((fv1 ro m_ro n_ro_h).trans e_ro)
  have e_o2 := ((fv1 o2 m_o2 n_o2_h).trans e_o2)
  have e_ro2 := ((fv1 ro2 m_ro2 n_ro2_h).trans e_ro2)
  obtain ⟨o6, ho6, hM⟩ := bind_some hM
  have EX6 : ∀ (fl6 : Nat → va_E) (H : Heap) (locs : List Loc) (ls : Array Slot), PS D g (va_A (va_pl L f) szz) s.heap s L fl6 H locs → fl6 h = .inr (0, [.ref r, .int o6.2.1]) → fl6 r = .inl (g 1, 1000, .inr (.inl o6.2.2)) → fl6 o = .inr (0, [.ref ro, .int no]) → fl6 ro = .inl (g 1, 1000, .inr (.inl vo)) → fl6 o2 = .inr (0, [.ref ro2, .int no2]) → fl6 ro2 = .inl (g 1, 1000, .inr (.inl vo2)) → (∀ b, b ∈ L → b ≠ h → b ≠ r → fl6 b = f b) → lv_has ls 4 [] → W p l e { frames := 2, cells := 0, slots := 0, locals := 48 } s m [.ref h, .ref o, .ref o2].toArray below meth c H locs 0 0 QQ (F0 m 43 ls []) := by
    intro fl6 H locs ls S e_h e_r e_o e_ro e_o2 e_ro2 fr hl
    subst hQQ
    exact q_retv (post := fun L1 f1 => L1 = L ∧ (∀ b, b ∈ L → b ≠ h → b ≠ r → f1 b = f b) ∧ f1 h = .inr (0, [.ref r, .int z.1]) ∧ f1 r = .inl (g 1, 1000, .inr (.inl z.2))) hx hb hr hlk S dX0_becomeWithout_43 (by decide) (by decide) (by have hz := Option.some.inj hM; subst hz; exact ⟨rfl, fr, e_h, e_r⟩)
  have LP6 : ∀ (fu : Nat) (x3_6 : Int32) (ch_1_6 : Int32) (cr_6 : Nat → Int64) (fl6 : Nat → va_E) (H : Heap) (locs : List Loc) (ls : Array Slot), (mX0_becomeWithout_L6 no vo no2 vo2) fu x3_6 ch_1_6 cr_6 = some o6 → PS D g (va_A (va_pl L f) szz) s.heap s L fl6 H locs → fl6 h = .inr (0, [.ref r, .int ch_1_6]) → fl6 r = .inl (g 1, 1000, .inr (.inl cr_6)) → fl6 o = .inr (0, [.ref ro, .int no]) → fl6 ro = .inl (g 1, 1000, .inr (.inl vo)) → fl6 o2 = .inr (0, [.ref ro2, .int no2]) → fl6 ro2 = .inl (g 1, 1000, .inr (.inl vo2)) → (∀ b, b ∈ L → b ≠ h → b ≠ r → fl6 b = f b) → lv_has ls 4 [(3, .int x3_6), (0, .ref h), (1, .ref o), (2, .ref o2)] → W p l e { frames := 2, cells := 0, slots := 0, locals := 48 } s m [.ref h, .ref o, .ref o2].toArray below meth c H locs 0 0 QQ (F0 m 6 ls []) := by
    intro fu
    induction fu with
    | zero => intro x3_6 ch_1_6 cr_6 fl6 H locs ls ho6 S e_h e_r e_o e_ro e_o2 e_ro2 fr hl; exact no_some ho6
    | succ fu ih6 =>
      intro x3_6 ch_1_6 cr_6 fl6 H locs ls ho6 S e_h e_r e_o e_ro e_o2 e_ro2 fr hl
      rw [mX0_becomeWithout_L6] at ho6
      refine lv_iload_n hx hb dX0_becomeWithout_6 rfl (lv_at hl 0 rfl) ?_
      refine lv_aload_n hx hb dX0_becomeWithout_7 rfl (lv_at hl 2 rfl) ?_
      refine q_get hx hb hts in_X0 hown S m_o e_o (C := RX0) (T := TX0) (N := 2) rfl 1 (by decide) rfl (hts (.fieldLink RX0 15 "SieveCabinet$Bag" "count" "I") (by decide +kernel)) dX0_becomeWithout_8 ?_
      refine lv_icmp_ge (tgt := 43) hx hb dX0_becomeWithout_11 (by decide) (fun b11 => ?_) (fun b11 => ?_)
      · have ho6 := itT b11 ho6
        obtain rfl := Option.some.inj ho6
        exact EX6 fl6 _ _ _ S e_h e_r e_o e_ro e_o2 e_ro2 fr (lv_sub hl [] rfl)
      · have ho6 := itF b11 ho6
        refine lv_aload_n hx hb dX0_becomeWithout_14 rfl (lv_at hl 3 rfl) ?_
        refine lv_aload_n hx hb dX0_becomeWithout_15 rfl (lv_at hl 2 rfl) ?_
        refine q_get hx hb hts in_X0 hown S m_o e_o (C := RX0) (T := TX0) (N := 2) rfl 0 (by decide) rfl (hts (.fieldLink RX0 9 "SieveCabinet$Bag" "row" "[J") (by decide +kernel)) dX0_becomeWithout_16 ?_
        refine lv_iload_n hx hb dX0_becomeWithout_19 rfl (lv_at hl 0 rfl) ?_
        obtain ⟨hi20, ho6⟩ := ckx ho6
        refine q_lald hx hb S m_ro e_ro hi20 dX0_becomeWithout_20 ?_
        obtain ⟨z21, hz21, ho6⟩ := bind_some ho6
        refine q_vi (As := [.long (vo (Int32.toNatClampNeg x3_6))]) (rest := []) ⟨hx, hb, hml, hown, hts⟩ (k_X0_has l D g m_o2 e_o2 m_ro2 e_ro2 hz21) (cwV 1 hts gX0_becomeWithout_X0_has rfl rfl rfl (by decide +kernel) ⟨Nat.le_of_ble_eq_true rfl, Nat.le_of_ble_eq_true rfl⟩) S m_o2 e_o2 (T := TX0) (N := 2) rfl rfl hl.1 rfl (Nat.le_of_ble_eq_true rfl) dX0_becomeWithout_21 ⟨Nat.le_of_ble_eq_true rfl, Nat.le_of_ble_eq_true rfl⟩ (fun r6 L4 f5 H locs S w21 => ?_)
        obtain ⟨ex21, eL, ef⟩ := w21
        rw [eL, ef] at S
        replace ex21 := ex21.symm
        subst ex21
        refine lv_if_ne (tgt := 37) hx hb dX0_becomeWithout_24 (by decide) (fun b24 => ?_) (fun b24 => ?_)
        · have ho6 := itF b24 ho6
          refine lv_iinc (v := (x3_6 + 1)) (lv' := [(3, .int (x3_6 + 1)), (0, .ref h), (1, .ref o), (2, .ref o2)]) hx hb dX0_becomeWithout_37 hl (k := 0) rfl rfl (by decide) rfl (fun ls hl => ?_)
          refine lv_goto (tgt := 6) hx hb dX0_becomeWithout_40 (by decide) ?_
          exact ih6 (x3_6 + 1) ch_1_6 cr_6 fl6 _ _ _ ho6 S e_h e_r e_o e_ro e_o2 e_ro2 fr (lv_sub hl [0, 1, 2, 3] rfl)
        · have ho6 := itT b24 ho6
          refine lv_aload_n hx hb dX0_becomeWithout_27 rfl (lv_at hl 1 rfl) ?_
          refine lv_aload_n hx hb dX0_becomeWithout_28 rfl (lv_at hl 2 rfl) ?_
          refine q_get hx hb hts in_X0 hown S m_o e_o (C := RX0) (T := TX0) (N := 2) rfl 0 (by decide) rfl (hts (.fieldLink RX0 9 "SieveCabinet$Bag" "row" "[J") (by decide +kernel)) dX0_becomeWithout_29 ?_
          refine lv_iload_n hx hb dX0_becomeWithout_32 rfl (lv_at hl 0 rfl) ?_
          obtain ⟨hi33, ho6⟩ := ckx ho6
          refine q_lald hx hb S m_ro e_ro hi33 dX0_becomeWithout_33 ?_
          obtain ⟨z34, hz34, ho6⟩ := bind_some ho6
          refine q_vv (As := [.long (vo (Int32.toNatClampNeg x3_6))]) (rest := []) ⟨hx, hb, hml, hown, hts⟩ (k_X0_append l D g m_h e_h m_r e_r hz34) (cwV 1 hts gX0_becomeWithout_X0_append rfl rfl rfl (by decide +kernel) ⟨Nat.le_of_ble_eq_true rfl, Nat.le_of_ble_eq_true rfl⟩) S m_h e_h (T := TX0) (N := 2) rfl rfl hl.1 rfl (Nat.le_of_ble_eq_true rfl) dX0_becomeWithout_34 ⟨Nat.le_of_ble_eq_true rfl, Nat.le_of_ble_eq_true rfl⟩ (fun L7 f8 H locs S w34 => ?_)
          obtain ⟨eL, fv34, E_h, E_r⟩ := w34
          rw [eL] at S
          have fr : ∀ b, b ∈ L → b ≠ h → b ≠ r → f8 b = f b := fun b mb nb0 nb1 => (fv34 b mb nb0 nb1).trans (fr b mb nb0 nb1)
          have e_h : f8 h = .inr (0, [.ref r, .int z34.1]) := E_h
          have e_r : f8 r = .inl (g 1, 1000, .inr (.inl z34.2)) := E_r
          refine lv_iinc (v := (x3_6 + 1)) (lv' := [(3, .int (x3_6 + 1)), (0, .ref h), (1, .ref o), (2, .ref o2)]) hx hb dX0_becomeWithout_37 hl (k := 0) rfl rfl (by decide) rfl (fun ls hl => ?_)
          refine lv_goto (tgt := 6) hx hb dX0_becomeWithout_40 (by decide) ?_
          have e_o := ((fv34 o m_o n_o_h n_o_r).trans e_o)
          have e_ro := ((fv34 ro m_ro n_ro_h n_ro_r).trans e_ro)
          have e_o2 := ((fv34 o2 m_o2 n_o2_h n_o2_r).trans e_o2)
          have e_ro2 := ((fv34 ro2 m_ro2 n_ro2_h n_ro2_r).trans e_ro2)
          exact ih6 (x3_6 + 1) z34.1 z34.2 f8 _ _ _ ho6 S e_h e_r e_o e_ro e_o2 e_ro2 fr (lv_sub hl [0, 1, 2, 3] rfl)
  exact LP6 FU (0 : Int32) z1 v f2 _ _ _ ho6 S e_h e_r e_o e_ro e_o2 e_ro2 fr (lv_sub hl [0, 1, 2, 3] rfl)
