def mX8_worldAt (wf : Nat → Option Nat) (wi : Int32) : Option ((Option Nat)) := if wi < 0 then (some none) else (if (8 : Int32) ≤ wi then (some none) else (if ix wi 8 = true then (some (wf (Int32.toNatClampNeg wi))) else none))
set_option maxRecDepth 20000 in
theorem gu_wsX8_worldAt_2 : ∀ w ∈ wsX80, w ∈ wsX8_worldAt := fun _ h => List.mem_cons_of_mem _ (List.mem_append_right _ h)
set_option maxRecDepth 20000 in
theorem gu_wsX8_worldAt_1 : ∀ w ∈ ([Cond.fieldLink RX8 11 "SieveCabinet" "worlds" "[LSieveCabinet$Bag;"] : List Cond), w ∈ wsX8_worldAt := fun _ h => List.mem_cons_of_mem _ (List.mem_append_left _ h)
set_option maxHeartbeats 4000000 in
set_option maxRecDepth 100000 in
theorem k_X8_worldAt (l : Launch) (D : va_G) (g : Nat → ClassId) {L : List Nat} {f : Nat → va_E} {Sl ch dr ri so th wo xb : Nat} {md : Int32} {wf : Nat → Option Nat} {wi : Int32} {z : (Option Nat)} (m_xb : xb ∈ L) (e_xb : f xb = .inr (6, [.ref wo, .ref Sl, .ref dr, .ref ri, .ref th, .ref so, .ref ch, .int md])) (m_wo : wo ∈ L) (e_wo : f wo = .inl (g 3, 8, .inr (.inr (.inr (.inr wf)))))    (hM : mX8_worldAt wf wi = some z) : cQ l yX8_worldAt wsX8_worldAt { frames := 0, cells := 0, slots := 0, locals := 0 } D g [.ref xb, .int wi] L f 0 0 (fun x L1 f1 => x = z ∧ L1 = L ∧ f1 = f) := by
  refine cQ_of (cc := cX8_worldAt) (maxL := 2) (ret := (some (.object "SieveCabinet$Bag"))) (by decide) rfl (Nat.le_of_ble_eq_true rfl) ?_
  intro szz p e s m below meth c hx hb hr hml hts hown hlk hnm S ls hl
  have hl : lv_has ls 2 [(0, .ref xb), (1, .int wi)] := hl
  have in_X8 : ∀ w ∈ wsX80, w ∈ wsX8_worldAt := gu_wsX8_worldAt_2
  unfold mX8_worldAt at hM
  refine W_gen (fun QQ hQQ => ?_)
  refine lv_iload_n hx hb dX8_worldAt_0 rfl (lv_at hl 1 rfl) ?_
  refine lv_if_lt (tgt := 19) hx hb dX8_worldAt_1 (by decide) (fun b1 => ?_) (fun b1 => ?_)
  · have hM := itT b1 hM
    refine lv_null hx hb dX8_worldAt_19 ?_
    subst hQQ
    exact q_retq (v := none) (post := fun x L1 f1 => x = z ∧ L1 = L ∧ f1 = f) hx hb hr hlk S dX8_worldAt_20 (by decide) (by decide) (by have hz := Option.some.inj hM; subst hz; exact ⟨rfl, rfl, rfl⟩)
  · have hM := itF b1 hM
    refine lv_iload_n hx hb dX8_worldAt_4 rfl (lv_at hl 1 rfl) ?_
    refine lv_bipush (v := (8 : Int32)) hx hb dX8_worldAt_5 (by decide) ?_
    refine lv_icmp_ge (tgt := 19) hx hb dX8_worldAt_7 (by decide) (fun b7 => ?_) (fun b7 => ?_)
    · have hM := itT b7 hM
      refine lv_null hx hb dX8_worldAt_19 ?_
      subst hQQ
      exact q_retq (v := none) (post := fun x L1 f1 => x = z ∧ L1 = L ∧ f1 = f) hx hb hr hlk S dX8_worldAt_20 (by decide) (by decide) (by have hz := Option.some.inj hM; subst hz; exact ⟨rfl, rfl, rfl⟩)
    · have hM := itF b7 hM
      refine lv_aload_n hx hb dX8_worldAt_10 rfl (lv_at hl 0 rfl) ?_
      refine q_get hx hb hts in_X8 hown S m_xb e_xb (C := RX8) (T := TX8) (N := 8) rfl 0 (by decide) rfl (hts (.fieldLink RX8 11 "SieveCabinet" "worlds" "[LSieveCabinet$Bag;") (gu_wsX8_worldAt_1 _ gm_0)) dX8_worldAt_11 ?_
      refine lv_iload_n hx hb dX8_worldAt_14 rfl (lv_at hl 1 rfl) ?_
      obtain ⟨hi15, hM⟩ := ckx hM
      refine q_ald hx hb S m_wo 3 rfl e_wo hi15 dX8_worldAt_15 ?_
      refine lv_goto (tgt := 20) hx hb dX8_worldAt_16 (by decide) ?_
      subst hQQ
      exact q_retq (v := (wf (Int32.toNatClampNeg wi))) (post := fun x L1 f1 => x = z ∧ L1 = L ∧ f1 = f) hx hb hr hlk S dX8_worldAt_20 (by decide) (by decide) (by have hz := Option.some.inj hM; subst hz; exact ⟨rfl, rfl, rfl⟩)

def mX8_sieveAt (md : Int32) (sf : Nat → Option Nat) (si_ : Int32) : Option ((Option Nat)) := if si_ < 0 then (some none) else (if md ≤ si_ then (some none) else (if (30 : Int32) ≤ si_ then (some none) else (if ix si_ 30 = true then (some (sf (Int32.toNatClampNeg si_))) else none)))
set_option maxRecDepth 20000 in
theorem gu_wsX8_sieveAt_2 : ∀ w ∈ wsX80, w ∈ wsX8_sieveAt := fun _ h => List.mem_cons_of_mem _ (List.mem_append_right _ h)
set_option maxRecDepth 20000 in
theorem gu_wsX8_sieveAt_1 : ∀ w ∈ ([Cond.fieldLink RX8 84 "SieveCabinet" "made" "I", Cond.fieldLink RX8 17 "SieveCabinet" "slots" "[LSieveCabinet$Sieve;"] : List Cond), w ∈ wsX8_sieveAt := fun _ h => List.mem_cons_of_mem _ (List.mem_append_left _ h)
set_option maxHeartbeats 4000000 in
set_option maxRecDepth 100000 in
theorem k_X8_sieveAt (l : Launch) (D : va_G) (g : Nat → ClassId) {L : List Nat} {f : Nat → va_E} {Sl ch dr ri so th wo xb : Nat} {md : Int32} {sf : Nat → Option Nat} {si_ : Int32} {z : (Option Nat)} (m_xb : xb ∈ L) (e_xb : f xb = .inr (6, [.ref wo, .ref Sl, .ref dr, .ref ri, .ref th, .ref so, .ref ch, .int md])) (m_Sl : Sl ∈ L) (e_Sl : f Sl = .inl (g 5, 30, .inr (.inr (.inr (.inr sf)))))    (hM : mX8_sieveAt md sf si_ = some z) : cQ l yX8_sieveAt wsX8_sieveAt { frames := 0, cells := 0, slots := 0, locals := 0 } D g [.ref xb, .int si_] L f 0 0 (fun x L1 f1 => x = z ∧ L1 = L ∧ f1 = f) := by
  refine cQ_of (cc := cX8_sieveAt) (maxL := 2) (ret := (some (.object "SieveCabinet$Sieve"))) (by decide) rfl (Nat.le_of_ble_eq_true rfl) ?_
  intro szz p e s m below meth c hx hb hr hml hts hown hlk hnm S ls hl
  have hl : lv_has ls 2 [(0, .ref xb), (1, .int si_)] := hl
  have in_X8 : ∀ w ∈ wsX80, w ∈ wsX8_sieveAt := gu_wsX8_sieveAt_2
  unfold mX8_sieveAt at hM
  refine W_gen (fun QQ hQQ => ?_)
  refine lv_iload_n hx hb dX8_sieveAt_0 rfl (lv_at hl 1 rfl) ?_
  refine lv_if_lt (tgt := 27) hx hb dX8_sieveAt_1 (by decide) (fun b1 => ?_) (fun b1 => ?_)
  · have hM := itT b1 hM
    refine lv_null hx hb dX8_sieveAt_27 ?_
    subst hQQ
    exact q_retq (v := none) (post := fun x L1 f1 => x = z ∧ L1 = L ∧ f1 = f) hx hb hr hlk S dX8_sieveAt_28 (by decide) (by decide) (by have hz := Option.some.inj hM; subst hz; exact ⟨rfl, rfl, rfl⟩)
  · have hM := itF b1 hM
    refine lv_iload_n hx hb dX8_sieveAt_4 rfl (lv_at hl 1 rfl) ?_
    refine lv_aload_n hx hb dX8_sieveAt_5 rfl (lv_at hl 0 rfl) ?_
    refine q_get hx hb hts in_X8 hown S m_xb e_xb (C := RX8) (T := TX8) (N := 8) rfl 7 (by decide) rfl (hts (.fieldLink RX8 84 "SieveCabinet" "made" "I") (gu_wsX8_sieveAt_1 _ gm_0)) dX8_sieveAt_6 ?_
    refine lv_icmp_ge (tgt := 27) hx hb dX8_sieveAt_9 (by decide) (fun b9 => ?_) (fun b9 => ?_)
    · have hM := itT b9 hM
      refine lv_null hx hb dX8_sieveAt_27 ?_
      subst hQQ
      exact q_retq (v := none) (post := fun x L1 f1 => x = z ∧ L1 = L ∧ f1 = f) hx hb hr hlk S dX8_sieveAt_28 (by decide) (by decide) (by have hz := Option.some.inj hM; subst hz; exact ⟨rfl, rfl, rfl⟩)
    · have hM := itF b9 hM
      refine lv_iload_n hx hb dX8_sieveAt_12 rfl (lv_at hl 1 rfl) ?_
      refine lv_bipush (v := (30 : Int32)) hx hb dX8_sieveAt_13 (by decide) ?_
      refine lv_icmp_ge (tgt := 27) hx hb dX8_sieveAt_15 (by decide) (fun b15 => ?_) (fun b15 => ?_)
      · have hM := itT b15 hM
        refine lv_null hx hb dX8_sieveAt_27 ?_
        subst hQQ
        exact q_retq (v := none) (post := fun x L1 f1 => x = z ∧ L1 = L ∧ f1 = f) hx hb hr hlk S dX8_sieveAt_28 (by decide) (by decide) (by have hz := Option.some.inj hM; subst hz; exact ⟨rfl, rfl, rfl⟩)
      · have hM := itF b15 hM
        refine lv_aload_n hx hb dX8_sieveAt_18 rfl (lv_at hl 0 rfl) ?_
        refine q_get hx hb hts in_X8 hown S m_xb e_xb (C := RX8) (T := TX8) (N := 8) rfl 1 (by decide) rfl (hts (.fieldLink RX8 17 "SieveCabinet" "slots" "[LSieveCabinet$Sieve;") (gu_wsX8_sieveAt_1 _ gm_1)) dX8_sieveAt_19 ?_
        refine lv_iload_n hx hb dX8_sieveAt_22 rfl (lv_at hl 1 rfl) ?_
        obtain ⟨hi23, hM⟩ := ckx hM
        refine q_ald hx hb S m_Sl 5 rfl e_Sl hi23 dX8_sieveAt_23 ?_
        refine lv_goto (tgt := 28) hx hb dX8_sieveAt_24 (by decide) ?_
        subst hQQ
        exact q_retq (v := (sf (Int32.toNatClampNeg si_))) (post := fun x L1 f1 => x = z ∧ L1 = L ∧ f1 = f) hx hb hr hlk S dX8_sieveAt_28 (by decide) (by decide) (by have hz := Option.some.inj hM; subst hz; exact ⟨rfl, rfl, rfl⟩)

def mX8_isPowerOfTwo (z0 : Int32) (lo : Int32) (hi : Int32) : Option (Int32) := if z0 < lo then (some (0 : Int32)) else (if hi < z0 then (some (0 : Int32)) else (if (z0 &&& (z0 - (1 : Int32))) = 0 then (some (1 : Int32)) else (some (0 : Int32))))
set_option maxHeartbeats 4000000 in
set_option maxRecDepth 100000 in
theorem k_X8_isPowerOfTwo (l : Launch) (D : va_G) (g : Nat → ClassId) {L : List Nat} {f : Nat → va_E} {z0 : Int32} {lo : Int32} {hi : Int32} {z : Int32}     (hM : mX8_isPowerOfTwo z0 lo hi = some z) : cI l yX8_isPowerOfTwo wsX8_isPowerOfTwo { frames := 0, cells := 0, slots := 0, locals := 0 } D g [.int z0, .int lo, .int hi] L f 0 0 (fun x L1 f1 => x = z ∧ L1 = L ∧ f1 = f) := by
  refine cI_of (cc := cX8_isPowerOfTwo) (maxL := 3) (ret := (some .boolean)) (by decide) rfl (Nat.le_of_ble_eq_true rfl) ?_
  intro szz p e s m below meth c hx hb hr hml hts hown hlk hnm S ls hl
  have hl : lv_has ls 3 [(0, .int z0), (1, .int lo), (2, .int hi)] := hl
  unfold mX8_isPowerOfTwo at hM
  refine W_gen (fun QQ hQQ => ?_)
  refine lv_iload_n hx hb dX8_isPowerOfTwo_0 rfl (lv_at hl 0 rfl) ?_
  refine lv_iload_n hx hb dX8_isPowerOfTwo_1 rfl (lv_at hl 1 rfl) ?_
  refine lv_icmp_lt (tgt := 22) hx hb dX8_isPowerOfTwo_2 (by decide) (fun b2 => ?_) (fun b2 => ?_)
  · have hM := itT b2 hM
    refine lv_iconst (v := (0 : Int32)) hx hb dX8_isPowerOfTwo_22 (by decide) ?_
    subst hQQ
    exact q_retz (post := fun x L1 f1 => x = z ∧ L1 = L ∧ f1 = f) hx hb hr hlk S dX8_isPowerOfTwo_23 (by decide) (by decide) (by decide) (by have hz := Option.some.inj hM; subst hz; exact ⟨rfl, rfl, rfl⟩)
  · have hM := itF b2 hM
    refine lv_iload_n hx hb dX8_isPowerOfTwo_5 rfl (lv_at hl 0 rfl) ?_
    refine lv_iload_n hx hb dX8_isPowerOfTwo_6 rfl (lv_at hl 2 rfl) ?_
    refine lv_icmp_gt (tgt := 22) hx hb dX8_isPowerOfTwo_7 (by decide) (fun b7 => ?_) (fun b7 => ?_)
    · have hM := itT b7 hM
      refine lv_iconst (v := (0 : Int32)) hx hb dX8_isPowerOfTwo_22 (by decide) ?_
      subst hQQ
      exact q_retz (post := fun x L1 f1 => x = z ∧ L1 = L ∧ f1 = f) hx hb hr hlk S dX8_isPowerOfTwo_23 (by decide) (by decide) (by decide) (by have hz := Option.some.inj hM; subst hz; exact ⟨rfl, rfl, rfl⟩)
    · have hM := itF b7 hM
      refine lv_iload_n hx hb dX8_isPowerOfTwo_10 rfl (lv_at hl 0 rfl) ?_
      refine lv_iload_n hx hb dX8_isPowerOfTwo_11 rfl (lv_at hl 0 rfl) ?_
      refine lv_iconst (v := (1 : Int32)) hx hb dX8_isPowerOfTwo_12 (by decide) ?_
      refine lv_isub hx hb dX8_isPowerOfTwo_13 ?_
      refine lv_iand hx hb dX8_isPowerOfTwo_14 ?_
      refine lv_if_ne (tgt := 22) hx hb dX8_isPowerOfTwo_15 (by decide) (fun b15 => ?_) (fun b15 => ?_)
      · have hM := itF b15 hM
        refine lv_iconst (v := (0 : Int32)) hx hb dX8_isPowerOfTwo_22 (by decide) ?_
        subst hQQ
        exact q_retz (post := fun x L1 f1 => x = z ∧ L1 = L ∧ f1 = f) hx hb hr hlk S dX8_isPowerOfTwo_23 (by decide) (by decide) (by decide) (by have hz := Option.some.inj hM; subst hz; exact ⟨rfl, rfl, rfl⟩)
      · have hM := itT b15 hM
        refine lv_iconst (v := (1 : Int32)) hx hb dX8_isPowerOfTwo_18 (by decide) ?_
        refine lv_goto (tgt := 23) hx hb dX8_isPowerOfTwo_19 (by decide) ?_
        subst hQQ
        exact q_retz (post := fun x L1 f1 => x = z ∧ L1 = L ∧ f1 = f) hx hb hr hlk S dX8_isPowerOfTwo_23 (by decide) (by decide) (by decide) (by have hz := Option.some.inj hM; subst hz; exact ⟨rfl, rfl, rfl⟩)

def mX8_isMakeable (k0 : Int32) (k1 : Int32) (k2 : Int32) : Option (Int32) := if k0 = (2 : Int32) then ((mX8_isPowerOfTwo k1 (1 : Int32) (256 : Int32)).bind fun z10 => if z10 = 0 ∨ z10 = 1 then (some z10) else none) else (if k0 = 0 then ((mX8_isPowerOfTwo k1 (8 : Int32) (4096 : Int32)).bind fun z31 => if z31 = 0 then (some (0 : Int32)) else (if k2 < (1 : Int32) then (some (0 : Int32)) else (if (8 : Int32) < k2 then (some (0 : Int32)) else (some (1 : Int32))))) else (if k0 = (1 : Int32) then ((mX8_isPowerOfTwo k1 (8 : Int32) (4096 : Int32)).bind fun z31 => if z31 = 0 then (some (0 : Int32)) else (if k2 < (1 : Int32) then (some (0 : Int32)) else (if (8 : Int32) < k2 then (some (0 : Int32)) else (some (1 : Int32))))) else (some (0 : Int32))))
set_option maxHeartbeats 4000000 in
set_option maxRecDepth 100000 in
theorem k_X8_isMakeable (l : Launch) (D : va_G) (g : Nat → ClassId) {L : List Nat} {f : Nat → va_E} {k0 : Int32} {k1 : Int32} {k2 : Int32} {z : Int32}     (hM : mX8_isMakeable k0 k1 k2 = some z) : cI l yX8_isMakeable wsX8_isMakeable { frames := 1, cells := 0, slots := 0, locals := 22 } D g [.int k0, .int k1, .int k2] L f 0 0 (fun x L1 f1 => x = z ∧ L1 = L ∧ f1 = f) := by
  refine cI_of (cc := cX8_isMakeable) (maxL := 3) (ret := (some .boolean)) (by decide) rfl (Nat.le_of_ble_eq_true rfl) ?_
  intro szz p e s m below meth c hx hb hr hml hts hown hlk hnm S ls hl
  have hl : lv_has ls 3 [(0, .int k0), (1, .int k1), (2, .int k2)] := hl
  unfold mX8_isMakeable at hM
  refine W_gen (fun QQ hQQ => ?_)
  refine lv_iload_n hx hb dX8_isMakeable_0 rfl (lv_at hl 0 rfl) ?_
  refine lv_iconst (v := (2 : Int32)) hx hb dX8_isMakeable_1 (by decide) ?_
  refine lv_icmp_ne (tgt := 14) hx hb dX8_isMakeable_2 (by decide) (fun b2 => ?_) (fun b2 => ?_)
  · have hM := itF b2 hM
    refine lv_iload_n hx hb dX8_isMakeable_14 rfl (lv_at hl 0 rfl) ?_
    refine lv_if_eq (tgt := 25) hx hb dX8_isMakeable_15 (by decide) (fun b15 => ?_) (fun b15 => ?_)
    · have hM := itT b15 hM
      refine lv_iload_n hx hb dX8_isMakeable_25 rfl (lv_at hl 1 rfl) ?_
      refine lv_bipush (v := (8 : Int32)) hx hb dX8_isMakeable_26 (by decide) ?_
      refine lv_sipush (v := (4096 : Int32)) hx hb dX8_isMakeable_28 (by decide) ?_
      obtain ⟨z31, hz31, hM⟩ := bind_some hM
      refine q_si (As := [.int k1, .int (8 : Int32), .int (4096 : Int32)]) (rest := []) ⟨hx, hb, hml, hown, hts⟩ (k_X8_isPowerOfTwo l D g hz31) (va_cwS 3 hts gX8_isMakeable_X8_isPowerOfTwo rfl rfl rfl (by decide +kernel) ⟨Nat.le_of_ble_eq_true rfl, Nat.le_of_ble_eq_true rfl⟩) S rfl hl.1 rfl (Nat.le_of_ble_eq_true rfl) dX8_isMakeable_31 ⟨Nat.le_of_ble_eq_true rfl, Nat.le_of_ble_eq_true rfl⟩ (fun r3 L1 f2 H locs S w31 => ?_)
      obtain ⟨ex31, eL, ef⟩ := w31
      rw [eL, ef] at S
      replace ex31 := ex31.symm
      subst ex31
      refine lv_if_eq (tgt := 52) hx hb dX8_isMakeable_34 (by decide) (fun b34 => ?_) (fun b34 => ?_)
      · have hM := itT b34 hM
        refine lv_iconst (v := (0 : Int32)) hx hb dX8_isMakeable_52 (by decide) ?_
        subst hQQ
        exact q_retz (post := fun x L1 f1 => x = z ∧ L1 = L ∧ f1 = f) hx hb hr hlk S dX8_isMakeable_53 (by decide) (by decide) (by decide) (by have hz := Option.some.inj hM; subst hz; exact ⟨rfl, rfl, rfl⟩)
      · have hM := itF b34 hM
        refine lv_iload_n hx hb dX8_isMakeable_37 rfl (lv_at hl 2 rfl) ?_
        refine lv_iconst (v := (1 : Int32)) hx hb dX8_isMakeable_38 (by decide) ?_
        refine lv_icmp_lt (tgt := 52) hx hb dX8_isMakeable_39 (by decide) (fun b39 => ?_) (fun b39 => ?_)
        · have hM := itT b39 hM
          refine lv_iconst (v := (0 : Int32)) hx hb dX8_isMakeable_52 (by decide) ?_
          subst hQQ
          exact q_retz (post := fun x L1 f1 => x = z ∧ L1 = L ∧ f1 = f) hx hb hr hlk S dX8_isMakeable_53 (by decide) (by decide) (by decide) (by have hz := Option.some.inj hM; subst hz; exact ⟨rfl, rfl, rfl⟩)
        · have hM := itF b39 hM
          refine lv_iload_n hx hb dX8_isMakeable_42 rfl (lv_at hl 2 rfl) ?_
          refine lv_bipush (v := (8 : Int32)) hx hb dX8_isMakeable_43 (by decide) ?_
          refine lv_icmp_gt (tgt := 52) hx hb dX8_isMakeable_45 (by decide) (fun b45 => ?_) (fun b45 => ?_)
          · have hM := itT b45 hM
            refine lv_iconst (v := (0 : Int32)) hx hb dX8_isMakeable_52 (by decide) ?_
            subst hQQ
            exact q_retz (post := fun x L1 f1 => x = z ∧ L1 = L ∧ f1 = f) hx hb hr hlk S dX8_isMakeable_53 (by decide) (by decide) (by decide) (by have hz := Option.some.inj hM; subst hz; exact ⟨rfl, rfl, rfl⟩)
          · have hM := itF b45 hM
            refine lv_iconst (v := (1 : Int32)) hx hb dX8_isMakeable_48 (by decide) ?_
            refine lv_goto (tgt := 53) hx hb dX8_isMakeable_49 (by decide) ?_
            subst hQQ
            exact q_retz (post := fun x L1 f1 => x = z ∧ L1 = L ∧ f1 = f) hx hb hr hlk S dX8_isMakeable_53 (by decide) (by decide) (by decide) (by have hz := Option.some.inj hM; subst hz; exact ⟨rfl, rfl, rfl⟩)
    · have hM := itF b15 hM
      refine lv_iload_n hx hb dX8_isMakeable_18 rfl (lv_at hl 0 rfl) ?_
      refine lv_iconst (v := (1 : Int32)) hx hb dX8_isMakeable_19 (by decide) ?_
      refine lv_icmp_eq (tgt := 25) hx hb dX8_isMakeable_20 (by decide) (fun b20 => ?_) (fun b20 => ?_)
      · have hM := itT b20 hM
        refine lv_iload_n hx hb dX8_isMakeable_25 rfl (lv_at hl 1 rfl) ?_
        refine lv_bipush (v := (8 : Int32)) hx hb dX8_isMakeable_26 (by decide) ?_
        refine lv_sipush (v := (4096 : Int32)) hx hb dX8_isMakeable_28 (by decide) ?_
        obtain ⟨z31, hz31, hM⟩ := bind_some hM
        refine q_si (As := [.int k1, .int (8 : Int32), .int (4096 : Int32)]) (rest := []) ⟨hx, hb, hml, hown, hts⟩ (k_X8_isPowerOfTwo l D g hz31) (va_cwS 3 hts gX8_isMakeable_X8_isPowerOfTwo rfl rfl rfl (by decide +kernel) ⟨Nat.le_of_ble_eq_true rfl, Nat.le_of_ble_eq_true rfl⟩) S rfl hl.1 rfl (Nat.le_of_ble_eq_true rfl) dX8_isMakeable_31 ⟨Nat.le_of_ble_eq_true rfl, Nat.le_of_ble_eq_true rfl⟩ (fun r6 L4 f5 H locs S w31 => ?_)
        obtain ⟨ex31, eL, ef⟩ := w31
        rw [eL, ef] at S
        replace ex31 := ex31.symm
        subst ex31
        refine lv_if_eq (tgt := 52) hx hb dX8_isMakeable_34 (by decide) (fun b34 => ?_) (fun b34 => ?_)
        · have hM := itT b34 hM
          refine lv_iconst (v := (0 : Int32)) hx hb dX8_isMakeable_52 (by decide) ?_
          subst hQQ
          exact q_retz (post := fun x L1 f1 => x = z ∧ L1 = L ∧ f1 = f) hx hb hr hlk S dX8_isMakeable_53 (by decide) (by decide) (by decide) (by have hz := Option.some.inj hM; subst hz; exact ⟨rfl, rfl, rfl⟩)
        · have hM := itF b34 hM
          refine lv_iload_n hx hb dX8_isMakeable_37 rfl (lv_at hl 2 rfl) ?_
          refine lv_iconst (v := (1 : Int32)) hx hb dX8_isMakeable_38 (by decide) ?_
          refine lv_icmp_lt (tgt := 52) hx hb dX8_isMakeable_39 (by decide) (fun b39 => ?_) (fun b39 => ?_)
          · have hM := itT b39 hM
            refine lv_iconst (v := (0 : Int32)) hx hb dX8_isMakeable_52 (by decide) ?_
            subst hQQ
            exact q_retz (post := fun x L1 f1 => x = z ∧ L1 = L ∧ f1 = f) hx hb hr hlk S dX8_isMakeable_53 (by decide) (by decide) (by decide) (by have hz := Option.some.inj hM; subst hz; exact ⟨rfl, rfl, rfl⟩)
          · have hM := itF b39 hM
            refine lv_iload_n hx hb dX8_isMakeable_42 rfl (lv_at hl 2 rfl) ?_
            refine lv_bipush (v := (8 : Int32)) hx hb dX8_isMakeable_43 (by decide) ?_
            refine lv_icmp_gt (tgt := 52) hx hb dX8_isMakeable_45 (by decide) (fun b45 => ?_) (fun b45 => ?_)
            · have hM := itT b45 hM
              refine lv_iconst (v := (0 : Int32)) hx hb dX8_isMakeable_52 (by decide) ?_
              subst hQQ
              exact q_retz (post := fun x L1 f1 => x = z ∧ L1 = L ∧ f1 = f) hx hb hr hlk S dX8_isMakeable_53 (by decide) (by decide) (by decide) (by have hz := Option.some.inj hM; subst hz; exact ⟨rfl, rfl, rfl⟩)
            · have hM := itF b45 hM
              refine lv_iconst (v := (1 : Int32)) hx hb dX8_isMakeable_48 (by decide) ?_
              refine lv_goto (tgt := 53) hx hb dX8_isMakeable_49 (by decide) ?_
              subst hQQ
              exact q_retz (post := fun x L1 f1 => x = z ∧ L1 = L ∧ f1 = f) hx hb hr hlk S dX8_isMakeable_53 (by decide) (by decide) (by decide) (by have hz := Option.some.inj hM; subst hz; exact ⟨rfl, rfl, rfl⟩)
      · have hM := itF b20 hM
        refine lv_iconst (v := (0 : Int32)) hx hb dX8_isMakeable_23 (by decide) ?_
        subst hQQ
        exact q_retz (post := fun x L1 f1 => x = z ∧ L1 = L ∧ f1 = f) hx hb hr hlk S dX8_isMakeable_24 (by decide) (by decide) (by decide) (by have hz := Option.some.inj hM; subst hz; exact ⟨rfl, rfl, rfl⟩)
  · have hM := itT b2 hM
    refine lv_iload_n hx hb dX8_isMakeable_5 rfl (lv_at hl 1 rfl) ?_
    refine lv_iconst (v := (1 : Int32)) hx hb dX8_isMakeable_6 (by decide) ?_
    refine lv_sipush (v := (256 : Int32)) hx hb dX8_isMakeable_7 (by decide) ?_
    obtain ⟨z10, hz10, hM⟩ := bind_some hM
    refine q_si (As := [.int k1, .int (1 : Int32), .int (256 : Int32)]) (rest := []) ⟨hx, hb, hml, hown, hts⟩ (k_X8_isPowerOfTwo l D g hz10) (va_cwS 3 hts gX8_isMakeable_X8_isPowerOfTwo rfl rfl rfl (by decide +kernel) ⟨Nat.le_of_ble_eq_true rfl, Nat.le_of_ble_eq_true rfl⟩) S rfl hl.1 rfl (Nat.le_of_ble_eq_true rfl) dX8_isMakeable_10 ⟨Nat.le_of_ble_eq_true rfl, Nat.le_of_ble_eq_true rfl⟩ (fun r9 L7 f8 H locs S w10 => ?_)
    obtain ⟨ex10, eL, ef⟩ := w10
    rw [eL, ef] at S
    replace ex10 := ex10.symm
    subst ex10
    obtain ⟨hbz, hM⟩ := ck hM
    subst hQQ
    exact q_retz (post := fun x L1 f1 => x = z ∧ L1 = L ∧ f1 = f) hx hb hr hlk S dX8_isMakeable_13 hbz (by decide) (by decide) (by have hz := Option.some.inj hM; subst hz; exact ⟨rfl, rfl, rfl⟩)

def mX8_nextSlotN (md : Int32) : Option (Unit) := if md < 0 then (some ()) else (if md < (30 : Int32) then (if ix md 30 = true then (none) else none) else (some ()))
set_option maxRecDepth 20000 in
theorem gu_wsX8_nextSlot_2 : ∀ w ∈ wsX80, w ∈ wsX8_nextSlot := fun _ h => List.mem_cons_of_mem _ (List.mem_append_left _ (List.mem_append_left _ (List.mem_append_right _ h)))
set_option maxHeartbeats 4000000 in
set_option maxRecDepth 100000 in
theorem k_X8_nextSlotN (l : Launch) (D : va_G) (g : Nat → ClassId) {L : List Nat} {f : Nat → va_E} {Sl ch dr ri so th wo xb : Nat} {md : Int32} {sf : Nat → Option Nat} {z : Unit} (m_xb : xb ∈ L) (e_xb : f xb = .inr (6, [.ref wo, .ref Sl, .ref dr, .ref ri, .ref th, .ref so, .ref ch, .int md])) (m_Sl : Sl ∈ L) (e_Sl : f Sl = .inl (g 5, 30, .inr (.inr (.inr (.inr sf)))))    (hM : mX8_nextSlotN md = some z) : cQ l yX8_nextSlot wsX8_nextSlot { frames := 0, cells := 0, slots := 0, locals := 0 } D g [.ref xb] L f 0 0 (fun x L1 f1 => x = none ∧ L1 = L ∧ f1 = f) := by
  refine cQ_of (cc := cX8_nextSlot) (maxL := 1) (ret := (some (.object "SieveCabinet$Sieve"))) (by decide) rfl (Nat.le_of_ble_eq_true rfl) ?_
  intro szz p e s m below meth c hx hb hr hml hts hown hlk hnm S ls hl
  have hl : lv_has ls 1 [(0, .ref xb)] := hl
  have in_X8 : ∀ w ∈ wsX80, w ∈ wsX8_nextSlot := gu_wsX8_nextSlot_2
  unfold mX8_nextSlotN at hM
  refine W_gen (fun QQ hQQ => ?_)
  refine lv_aload_n hx hb dX8_nextSlot_0 rfl (lv_at hl 0 rfl) ?_
  refine q_get hx hb hts in_X8 hown S m_xb e_xb (C := RX8) (T := TX8) (N := 8) rfl 7 (by decide) rfl (hts (.fieldLink RX8 84 "SieveCabinet" "made" "I") (gu_wsX8_nextSlot_1 _ gm_0)) dX8_nextSlot_1 ?_
  refine lv_if_lt (tgt := 16) hx hb dX8_nextSlot_4 (by decide) (fun b4 => ?_) (fun b4 => ?_)
  · have hM := itT b4 hM
    refine lv_null hx hb dX8_nextSlot_16 ?_
    subst hQQ
    exact q_retq (v := none) (post := fun x L1 f1 => x = none ∧ L1 = L ∧ f1 = f) hx hb hr hlk S dX8_nextSlot_17 (by decide) (by decide) (by have hz := Option.some.inj hM; subst hz; exact ⟨rfl, rfl, rfl⟩)
  · have hM := itF b4 hM
    refine lv_aload_n hx hb dX8_nextSlot_7 rfl (lv_at hl 0 rfl) ?_
    refine q_get hx hb hts in_X8 hown S m_xb e_xb (C := RX8) (T := TX8) (N := 8) rfl 7 (by decide) rfl (hts (.fieldLink RX8 84 "SieveCabinet" "made" "I") (gu_wsX8_nextSlot_1 _ gm_0)) dX8_nextSlot_8 ?_
    refine lv_bipush (v := (30 : Int32)) hx hb dX8_nextSlot_11 (by decide) ?_
    refine lv_icmp_lt (tgt := 18) hx hb dX8_nextSlot_13 (by decide) (fun b13 => ?_) (fun b13 => ?_)
    · have hM := itT b13 hM
      refine lv_aload_n hx hb dX8_nextSlot_18 rfl (lv_at hl 0 rfl) ?_
      refine q_get hx hb hts in_X8 hown S m_xb e_xb (C := RX8) (T := TX8) (N := 8) rfl 1 (by decide) rfl (hts (.fieldLink RX8 17 "SieveCabinet" "slots" "[LSieveCabinet$Sieve;") (gu_wsX8_nextSlot_1 _ gm_1)) dX8_nextSlot_19 ?_
      refine lv_aload_n hx hb dX8_nextSlot_22 rfl (lv_at hl 0 rfl) ?_
      refine q_get hx hb hts in_X8 hown S m_xb e_xb (C := RX8) (T := TX8) (N := 8) rfl 7 (by decide) rfl (hts (.fieldLink RX8 84 "SieveCabinet" "made" "I") (gu_wsX8_nextSlot_1 _ gm_0)) dX8_nextSlot_23 ?_
      obtain ⟨hi26, hM⟩ := ckx hM
      refine q_ald hx hb S m_Sl 5 rfl e_Sl hi26 dX8_nextSlot_26 ?_
      exact no_some hM
    · have hM := itF b13 hM
      refine lv_null hx hb dX8_nextSlot_16 ?_
      subst hQQ
      exact q_retq (v := none) (post := fun x L1 f1 => x = none ∧ L1 = L ∧ f1 = f) hx hb hr hlk S dX8_nextSlot_17 (by decide) (by decide) (by have hz := Option.some.inj hM; subst hz; exact ⟨rfl, rfl, rfl⟩)

def mX8_nextSlotE (md : Int32) : Option (Unit) := if md < 0 then none else (if md < (30 : Int32) then (if ix md 30 = true then (if ix md 30 = true then (some ()) else none) else none) else none)
set_option maxHeartbeats 4000000 in
set_option maxRecDepth 100000 in
theorem k_X8_nextSlotE (l : Launch) (D : va_G) (g : Nat → ClassId) {L : List Nat} {f : Nat → va_E} {Sl ch dr h ri so th wo xb : Nat} {md : Int32} {sf : Nat → Option Nat} {z : Unit} (m_xb : xb ∈ L) (e_xb : f xb = .inr (6, [.ref wo, .ref Sl, .ref dr, .ref ri, .ref th, .ref so, .ref ch, .int md])) (m_Sl : Sl ∈ L) (e_Sl : f Sl = .inl (g 5, 30, .inr (.inr (.inr (.inr sf)))))   (hF_h : sf (Int32.toNatClampNeg md) = some h)  (hM : mX8_nextSlotE md = some z) : cQ l yX8_nextSlot wsX8_nextSlot { frames := 0, cells := 0, slots := 0, locals := 0 } D g [.ref xb] L f 0 0 (fun x L1 f1 => x = (some h) ∧ L1 = L ∧ f1 = f) := by
  refine cQ_of (cc := cX8_nextSlot) (maxL := 1) (ret := (some (.object "SieveCabinet$Sieve"))) (by decide) rfl (Nat.le_of_ble_eq_true rfl) ?_
  intro szz p e s m below meth c hx hb hr hml hts hown hlk hnm S ls hl
  have hl : lv_has ls 1 [(0, .ref xb)] := hl
  have in_X8 : ∀ w ∈ wsX80, w ∈ wsX8_nextSlot := gu_wsX8_nextSlot_2
  unfold mX8_nextSlotE at hM
  refine W_gen (fun QQ hQQ => ?_)
  refine lv_aload_n hx hb dX8_nextSlot_0 rfl (lv_at hl 0 rfl) ?_
  refine q_get hx hb hts in_X8 hown S m_xb e_xb (C := RX8) (T := TX8) (N := 8) rfl 7 (by decide) rfl (hts (.fieldLink RX8 84 "SieveCabinet" "made" "I") (gu_wsX8_nextSlot_1 _ gm_0)) dX8_nextSlot_1 ?_
  refine lv_if_lt (tgt := 16) hx hb dX8_nextSlot_4 (by decide) (fun b4 => ?_) (fun b4 => ?_)
  · have hM := itT b4 hM
    refine lv_null hx hb dX8_nextSlot_16 ?_
    exact no_some hM
  · have hM := itF b4 hM
    refine lv_aload_n hx hb dX8_nextSlot_7 rfl (lv_at hl 0 rfl) ?_
    refine q_get hx hb hts in_X8 hown S m_xb e_xb (C := RX8) (T := TX8) (N := 8) rfl 7 (by decide) rfl (hts (.fieldLink RX8 84 "SieveCabinet" "made" "I") (gu_wsX8_nextSlot_1 _ gm_0)) dX8_nextSlot_8 ?_
    refine lv_bipush (v := (30 : Int32)) hx hb dX8_nextSlot_11 (by decide) ?_
    refine lv_icmp_lt (tgt := 18) hx hb dX8_nextSlot_13 (by decide) (fun b13 => ?_) (fun b13 => ?_)
    · have hM := itT b13 hM
      refine lv_aload_n hx hb dX8_nextSlot_18 rfl (lv_at hl 0 rfl) ?_
      refine q_get hx hb hts in_X8 hown S m_xb e_xb (C := RX8) (T := TX8) (N := 8) rfl 1 (by decide) rfl (hts (.fieldLink RX8 17 "SieveCabinet" "slots" "[LSieveCabinet$Sieve;") (gu_wsX8_nextSlot_1 _ gm_1)) dX8_nextSlot_19 ?_
      refine lv_aload_n hx hb dX8_nextSlot_22 rfl (lv_at hl 0 rfl) ?_
      refine q_get hx hb hts in_X8 hown S m_xb e_xb (C := RX8) (T := TX8) (N := 8) rfl 7 (by decide) rfl (hts (.fieldLink RX8 84 "SieveCabinet" "made" "I") (gu_wsX8_nextSlot_1 _ gm_0)) dX8_nextSlot_23 ?_
      obtain ⟨hi26, hM⟩ := ckx hM
      refine q_ald hx hb S m_Sl 5 rfl e_Sl hi26 dX8_nextSlot_26 ?_
      rw [hF_h]
      refine W.eq (g2 := F0 m 27 ls [.ref h]) rfl ?_
      refine lv_ifnonnull (tgt := 46) hx hb dX8_nextSlot_27 (by decide) ?_
      refine lv_aload_n hx hb dX8_nextSlot_46 rfl (lv_at hl 0 rfl) ?_
      refine q_get hx hb hts in_X8 hown S m_xb e_xb (C := RX8) (T := TX8) (N := 8) rfl 1 (by decide) rfl (hts (.fieldLink RX8 17 "SieveCabinet" "slots" "[LSieveCabinet$Sieve;") (gu_wsX8_nextSlot_1 _ gm_1)) dX8_nextSlot_47 ?_
      refine lv_aload_n hx hb dX8_nextSlot_50 rfl (lv_at hl 0 rfl) ?_
      refine q_get hx hb hts in_X8 hown S m_xb e_xb (C := RX8) (T := TX8) (N := 8) rfl 7 (by decide) rfl (hts (.fieldLink RX8 84 "SieveCabinet" "made" "I") (gu_wsX8_nextSlot_1 _ gm_0)) dX8_nextSlot_51 ?_
      obtain ⟨hi54, hM⟩ := ckx hM
      refine q_ald hx hb S m_Sl 5 rfl e_Sl hi54 dX8_nextSlot_54 ?_
      rw [hF_h]
      refine W.eq (g2 := F0 m 55 ls [.ref h]) rfl ?_
      subst hQQ
      exact q_retq (v := (some h)) (post := fun x L1 f1 => x = (some h) ∧ L1 = L ∧ f1 = f) hx hb hr hlk S dX8_nextSlot_55 (by decide) (by decide) (by have hz := Option.some.inj hM; subst hz; exact ⟨rfl, rfl, rfl⟩)
    · have hM := itF b13 hM
      refine lv_null hx hb dX8_nextSlot_16 ?_
      exact no_some hM

def mX8_nextSlotF (md : Int32) : Option (Int32 × Int32 × Int32 × Int32 × (Nat → Int32) × Int32 × (Nat → Int64)) := if md < 0 then none else (if md < (30 : Int32) then (if ix md 30 = true then (if ix md 30 = true then (if ix md 30 = true then (some (0, 0, 0, 0, (fun _ => 0), 0, (fun _ => 0))) else none) else none) else none) else none)
set_option maxHeartbeats 4000000 in
set_option maxRecDepth 100000 in
theorem k_X8_nextSlotF (l : Launch) (D : va_G) (g : Nat → ClassId) {L : List Nat} {f : Nat → va_E} {Sl ch dr ri so th wo xb : Nat} {md : Int32} {sf : Nat → Option Nat} {z : Int32 × Int32 × Int32 × Int32 × (Nat → Int32) × Int32 × (Nat → Int64)} (m_xb : xb ∈ L) (e_xb : f xb = .inr (6, [.ref wo, .ref Sl, .ref dr, .ref ri, .ref th, .ref so, .ref ch, .int md])) (m_Sl : Sl ∈ L) (e_Sl : f Sl = .inl (g 5, 30, .inr (.inr (.inr (.inr sf)))))   (hF0 : sf (Int32.toNatClampNeg md) = none) (hM : mX8_nextSlotF md = some z) : cQ l yX8_nextSlot wsX8_nextSlot { frames := 3, cells := 4, slots := 5105, locals := 52 } D g [.ref xb] L f 4 5105 (fun x L1 f1 => ∃ q38 : Nat, ∃ ce : Nat, ∃ co : Nat, ∃ cr : Nat, x = (some q38) ∧ (∀ b, b ∈ L → b ∈ L1) ∧ (∀ b, b ∈ L → b ≠ Sl → f1 b = f b) ∧ f1 Sl = .inl (g 5, 30, .inr (.inr (.inr (.inr (va_up sf (Int32.toNatClampNeg md) (some q38)))))) ∧ (q38 ∉ L ∧ q38 ∈ L1 ∧ f1 q38 = .inr (4, [.ref ce, .ref co, .null, .int z.1, .int z.2.1, .int z.2.2.1, .int z.2.2.2.1])) ∧ (ce ∉ L ∧ ce ∈ L1 ∧ f1 ce = .inl (g 0, 4096, .inl z.2.2.2.2.1)) ∧ (co ∉ L ∧ co ∈ L1 ∧ f1 co = .inr (0, [.ref cr, .int z.2.2.2.2.2.1])) ∧ (cr ∉ L ∧ cr ∈ L1 ∧ f1 cr = .inl (g 1, 1000, .inr (.inl z.2.2.2.2.2.2)))) := by
  refine cQ_of (cc := cX8_nextSlot) (maxL := 1) (ret := (some (.object "SieveCabinet$Sieve"))) (by decide) rfl (Nat.le_of_ble_eq_true rfl) ?_
  intro szz p e s m below meth c hx hb hr hml hts hown hlk hnm S ls hl
  have hl : lv_has ls 1 [(0, .ref xb)] := hl
  have in_X6 : ∀ w ∈ wsX60, w ∈ wsX8_nextSlot := gu_wsX8_nextSlot_3
  have in_X8 : ∀ w ∈ wsX80, w ∈ wsX8_nextSlot := gu_wsX8_nextSlot_2
  have n_xb_Sl : xb ≠ Sl := ne_ir e_Sl e_xb
  have fr : ∀ b, b ∈ L → b ≠ Sl → f b = f b := fun _ _ _ => rfl
  have mono : ∀ b, b ∈ L → b ∈ L := fun _ h => h
  unfold mX8_nextSlotF at hM
  refine W_gen (fun QQ hQQ => ?_)
  refine lv_aload_n hx hb dX8_nextSlot_0 rfl (lv_at hl 0 rfl) ?_
  refine q_get hx hb hts in_X8 hown S m_xb e_xb (C := RX8) (T := TX8) (N := 8) rfl 7 (by decide) rfl (hts (.fieldLink RX8 84 "SieveCabinet" "made" "I") (gu_wsX8_nextSlot_1 _ gm_0)) dX8_nextSlot_1 ?_
  refine lv_if_lt (tgt := 16) hx hb dX8_nextSlot_4 (by decide) (fun b4 => ?_) (fun b4 => ?_)
  · have hM := itT b4 hM
    refine lv_null hx hb dX8_nextSlot_16 ?_
    exact no_some hM
  · have hM := itF b4 hM
    refine lv_aload_n hx hb dX8_nextSlot_7 rfl (lv_at hl 0 rfl) ?_
    refine q_get hx hb hts in_X8 hown S m_xb e_xb (C := RX8) (T := TX8) (N := 8) rfl 7 (by decide) rfl (hts (.fieldLink RX8 84 "SieveCabinet" "made" "I") (gu_wsX8_nextSlot_1 _ gm_0)) dX8_nextSlot_8 ?_
    refine lv_bipush (v := (30 : Int32)) hx hb dX8_nextSlot_11 (by decide) ?_
    refine lv_icmp_lt (tgt := 18) hx hb dX8_nextSlot_13 (by decide) (fun b13 => ?_) (fun b13 => ?_)
    · have hM := itT b13 hM
      refine lv_aload_n hx hb dX8_nextSlot_18 rfl (lv_at hl 0 rfl) ?_
      refine q_get hx hb hts in_X8 hown S m_xb e_xb (C := RX8) (T := TX8) (N := 8) rfl 1 (by decide) rfl (hts (.fieldLink RX8 17 "SieveCabinet" "slots" "[LSieveCabinet$Sieve;") (gu_wsX8_nextSlot_1 _ gm_1)) dX8_nextSlot_19 ?_
      refine lv_aload_n hx hb dX8_nextSlot_22 rfl (lv_at hl 0 rfl) ?_
      refine q_get hx hb hts in_X8 hown S m_xb e_xb (C := RX8) (T := TX8) (N := 8) rfl 7 (by decide) rfl (hts (.fieldLink RX8 84 "SieveCabinet" "made" "I") (gu_wsX8_nextSlot_1 _ gm_0)) dX8_nextSlot_23 ?_
      obtain ⟨hi26, hM⟩ := ckx hM
      refine q_ald hx hb S m_Sl 5 rfl e_Sl hi26 dX8_nextSlot_26 ?_
      rw [hF0]
      refine W.eq (g2 := F0 m 27 ls [.null]) rfl ?_
      refine lv_ifnonnullN hx hb dX8_nextSlot_27 ?_
      refine lv_aload_n hx hb dX8_nextSlot_30 rfl (lv_at hl 0 rfl) ?_
      refine q_get hx hb hts in_X8 hown S m_xb e_xb (C := RX8) (T := TX8) (N := 8) rfl 1 (by decide) rfl (hts (.fieldLink RX8 17 "SieveCabinet" "slots" "[LSieveCabinet$Sieve;") (gu_wsX8_nextSlot_1 _ gm_1)) dX8_nextSlot_31 ?_
      refine lv_aload_n hx hb dX8_nextSlot_34 rfl (lv_at hl 0 rfl) ?_
      refine q_get hx hb hts in_X8 hown S m_xb e_xb (C := RX8) (T := TX8) (N := 8) rfl 7 (by decide) rfl (hts (.fieldLink RX8 84 "SieveCabinet" "made" "I") (gu_wsX8_nextSlot_1 _ gm_0)) dX8_nextSlot_35 ?_
      refine q_new (fs := [.null, .null, .null, .int 0, .int 0, .int 0, .int 0]) (C := RX6) (T := TX6) (N := 7) (ci := 4) hx hb hts in_X6 tyX6 tyX6_ok hown (hts (.classLink RX8 15 RX6) (gu_wsX8_nextSlot_1 _ gm_2)) (hts (.instantiable RX6 7) (gu_wsX8_nextSlot_1 _ gm_3)) (hts (.initialized RX6) (gu_wsX8_nextSlot_1 _ gm_4)) S rfl (fun j hj => by rcases (show j = 0 ∨ j = 1 ∨ j = 2 ∨ j = 3 ∨ j = 4 ∨ j = 5 ∨ j = 6 by omega) with rfl | rfl | rfl | rfl | rfl | rfl | rfl <;> rfl) (Nat.le_of_ble_eq_true rfl) (Nat.le_of_ble_eq_true rfl) dX8_nextSlot_38 (fun q38 H nq38 S => ?_)
      refine W.widen (k := 1) (n := 7) (by decide) (by decide) ?_
      obtain ⟨f1, ef1⟩ : ∃ z_, z_ = va_up f q38 (.inr (4, [.null, .null, .null, .int 0, .int 0, .int 0, .int 0])) := ⟨_, rfl⟩
      obtain ⟨L2, eL2⟩ : ∃ z_, z_ = L ++ [q38] := ⟨_, rfl⟩
      rw [← ef1, ← eL2] at S
      have n_xb_q38 : xb ≠ q38 := fun h => nq38 (h ▸ m_xb)
      have n_q38_xb : q38 ≠ xb := Ne.symm n_xb_q38
      have n_Sl_q38 : Sl ≠ q38 := fun h => nq38 (h ▸ m_Sl)
      have n_q38_Sl : q38 ≠ Sl := Ne.symm n_Sl_q38
      have m_xb : xb ∈ L2 := by rw [eL2]; exact List.mem_append_left _ m_xb
      have m_Sl : Sl ∈ L2 := by rw [eL2]; exact List.mem_append_left _ m_Sl
      have nz_q38 : q38 ∉ L := nq38
      have mono : ∀ b, b ∈ L → b ∈ L2 := fun b h => by rw [eL2]; exact List.mem_append_left _ (h)
      have m_q38 : q38 ∈ L2 := by rw [eL2]; simp
      have fr : ∀ b, b ∈ L → b ≠ Sl → f1 b = f b := fun b mb nb0 => (up_ne ef1 (fun h_ => nz_q38 (h_ ▸ mb)) rfl).trans (fr b mb nb0)
      have e_q38 : f1 q38 = .inr (4, [.null, .null, .null, .int 0, .int 0, .int 0, .int 0]) := up_self ef1
      refine lv_dup hx hb dX8_nextSlot_41 rfl ?_
      refine q_nv (As := []) (rest := [.ref q38, .int md, .ref Sl]) (host := "SieveCabinet") ⟨hx, hb, hml, hown, hts⟩ (c_X6_init l D g m_q38 e_q38) ⟨va_cnB 0 hts gX8_nextSlot_X6_init_n195 rfl rfl rfl (S.1.2.1 _ (List.mem_of_getElem? (i := 5) rfl)) (hts (.initialized RX6) (gu_wsX8_nextSlot_1 _ gm_4)) (by decide +kernel) ⟨Nat.le_of_ble_eq_true rfl, Nat.le_of_ble_eq_true rfl⟩, rfl, hts (.instanceMethod yX6_init) (by decide +kernel)⟩ S rfl hl.1 rfl (Nat.le_of_ble_eq_true rfl) dX8_nextSlot_42 ⟨Nat.le_of_ble_eq_true rfl, Nat.le_of_ble_eq_true rfl⟩ (fun L3 f4 H locs S w42 => ?_)
      refine W.widen (k := 4) (n := 5105) (by decide) (by decide) ?_
      obtain ⟨ce, co, cr, mo, fv, ⟨nq_ce, mq_ce, E_ce⟩, ⟨nq_co, mq_co, E_co⟩, ⟨nq_cr, mq_cr, E_cr⟩, E_⟩ := w42
      have mono0 := mono
      have e_xb := (up_ne ef1 n_xb_q38 e_xb)
      have e_xb := (fv xb m_xb n_xb_q38).trans e_xb
      have e_Sl := (up_ne ef1 n_Sl_q38 e_Sl)
      have e_Sl := (fv Sl m_Sl n_Sl_q38).trans e_Sl
      have fr : ∀ b, b ∈ L → b ≠ Sl → f4 b = f b := fun b mb nb0 => (fv b (mono0 b mb) (fun h_ => nz_q38 (h_ ▸ mb))).trans (fr b mb nb0)
      have n_xb_ce : xb ≠ ce := fun h => nq_ce (h ▸ m_xb)
      have n_ce_xb : ce ≠ xb := Ne.symm n_xb_ce
      have n_xb_co : xb ≠ co := fun h => nq_co (h ▸ m_xb)
      have n_co_xb : co ≠ xb := Ne.symm n_xb_co
      have n_xb_cr : xb ≠ cr := fun h => nq_cr (h ▸ m_xb)
      have n_cr_xb : cr ≠ xb := Ne.symm n_xb_cr
      have n_Sl_ce : Sl ≠ ce := fun h => nq_ce (h ▸ m_Sl)
      have n_ce_Sl : ce ≠ Sl := Ne.symm n_Sl_ce
      have n_Sl_co : Sl ≠ co := fun h => nq_co (h ▸ m_Sl)
      have n_co_Sl : co ≠ Sl := Ne.symm n_Sl_co
      have n_Sl_cr : Sl ≠ cr := fun h => nq_cr (h ▸ m_Sl)
      have n_cr_Sl : cr ≠ Sl := Ne.symm n_Sl_cr
      have n_q38_ce : q38 ≠ ce := fun h => nq_ce (h ▸ m_q38)
      have n_ce_q38 : ce ≠ q38 := Ne.symm n_q38_ce
      have n_q38_co : q38 ≠ co := fun h => nq_co (h ▸ m_q38)
      have n_co_q38 : co ≠ q38 := Ne.symm n_q38_co
      have n_q38_cr : q38 ≠ cr := fun h => nq_cr (h ▸ m_q38)
      have n_cr_q38 : cr ≠ q38 := Ne.symm n_q38_cr
      have m_xb : xb ∈ L3 := mo xb m_xb
      have m_Sl : Sl ∈ L3 := mo Sl m_Sl
      have m_q38 : q38 ∈ L3 := mo q38 m_q38
      have nz_ce : ce ∉ L := fun h => nq_ce (mono _ h)
      have nz_co : co ∉ L := fun h => nq_co (mono _ h)
      have nz_cr : cr ∉ L := fun h => nq_cr (mono _ h)
      have mono : ∀ b, b ∈ L → b ∈ L3 := fun b h => mo b (mono0 b h)
      have m_ce := mq_ce
      have m_co := mq_co
      have m_cr := mq_cr
      have e_ce : f4 ce = .inl (g 0, 4096, .inl (fun _ => 0)) := E_ce
      have e_co : f4 co = .inr (0, [.ref cr, .int 0]) := E_co
      have e_cr : f4 cr = .inl (g 1, 1000, .inr (.inl (fun _ => 0))) := E_cr
      have n_co_ce : co ≠ ce := ne_ir e_ce e_co
      have n_cr_ce : cr ≠ ce := ne_len e_ce e_cr (by decide)
      have n_ce_co : ce ≠ co := ne_ri e_co e_ce
      have n_cr_co : cr ≠ co := ne_ri e_co e_cr
      have n_ce_cr : ce ≠ cr := ne_len e_cr e_ce (by decide)
      have n_co_cr : co ≠ cr := ne_ir e_cr e_co
      have e_q38 : f4 q38 = .inr (4, [.ref ce, .ref co, .null, .int 0, .int 0, .int 0, .int 0]) := E_
      obtain ⟨hi45, hM⟩ := ckx hM
      refine k_ast hx hb S m_Sl 5 (r := (RX6, TX6, 7)) rfl e_Sl m_q38 e_q38 rfl hi45 dX8_nextSlot_45 (fun f5 ef5 H locs S => ?_)
      have e_Sl := up_self ef5
      have fr : ∀ b, b ∈ L → b ≠ Sl → f5 b = f b := fun b mb nb0 => (up_ne ef5 nb0 rfl).trans (fr b mb nb0)
      refine lv_aload_n hx hb dX8_nextSlot_46 rfl (lv_at hl 0 rfl) ?_
      have e_xb := (up_ne ef5 n_xb_Sl e_xb)
      refine q_get hx hb hts in_X8 hown S m_xb e_xb (C := RX8) (T := TX8) (N := 8) rfl 1 (by decide) rfl (hts (.fieldLink RX8 17 "SieveCabinet" "slots" "[LSieveCabinet$Sieve;") (gu_wsX8_nextSlot_1 _ gm_1)) dX8_nextSlot_47 ?_
      refine lv_aload_n hx hb dX8_nextSlot_50 rfl (lv_at hl 0 rfl) ?_
      refine q_get hx hb hts in_X8 hown S m_xb e_xb (C := RX8) (T := TX8) (N := 8) rfl 7 (by decide) rfl (hts (.fieldLink RX8 84 "SieveCabinet" "made" "I") (gu_wsX8_nextSlot_1 _ gm_0)) dX8_nextSlot_51 ?_
      obtain ⟨hi54, hM⟩ := ckx hM
      refine q_ald hx hb S m_Sl 5 rfl e_Sl hi54 dX8_nextSlot_54 ?_
      rw [va_up_self]
      refine W.eq (g2 := F0 m 55 ls [.ref q38]) rfl ?_
      have e_q38 := (up_ne ef5 n_q38_Sl e_q38)
      have e_ce := (up_ne ef5 n_ce_Sl e_ce)
      have e_co := (up_ne ef5 n_co_Sl e_co)
      have e_cr := (up_ne ef5 n_cr_Sl e_cr)
      subst hQQ
      exact q_retq (v := (some q38)) (post := fun x L1 f1 => ∃ q38 : Nat, ∃ ce : Nat, ∃ co : Nat, ∃ cr : Nat, x = (some q38) ∧ (∀ b, b ∈ L → b ∈ L1) ∧ (∀ b, b ∈ L → b ≠ Sl → f1 b = f b) ∧ f1 Sl = .inl (g 5, 30, .inr (.inr (.inr (.inr (va_up sf (Int32.toNatClampNeg md) (some q38)))))) ∧ (q38 ∉ L ∧ q38 ∈ L1 ∧ f1 q38 = .inr (4, [.ref ce, .ref co, .null, .int z.1, .int z.2.1, .int z.2.2.1, .int z.2.2.2.1])) ∧ (ce ∉ L ∧ ce ∈ L1 ∧ f1 ce = .inl (g 0, 4096, .inl z.2.2.2.2.1)) ∧ (co ∉ L ∧ co ∈ L1 ∧ f1 co = .inr (0, [.ref cr, .int z.2.2.2.2.2.1])) ∧ (cr ∉ L ∧ cr ∈ L1 ∧ f1 cr = .inl (g 1, 1000, .inr (.inl z.2.2.2.2.2.2)))) hx hb hr hlk S dX8_nextSlot_55 (by decide) (by decide) (by have hz := Option.some.inj hM; subst hz; exact ⟨q38, ce, co, cr, rfl, mono, fr, e_Sl, ⟨nz_q38, m_q38, e_q38⟩, ⟨nz_ce, m_ce, e_ce⟩, ⟨nz_co, m_co, e_co⟩, ⟨nz_cr, m_cr, e_cr⟩⟩)
    · have hM := itF b13 hM
      refine lv_null hx hb dX8_nextSlot_16 ?_
      exact no_some hM

def mX3_factF (lc : Int32) (kca : Nat → Int32) (lz : Nat → Int32) (ld : Nat → Nat → Int64) (i : Int32) (wh : Int32) : Option (Int32) := if i < 0 then (some (-1 : Int32)) else (if i < lc then (if wh = (0 : Int32) then (if ix i 20 = true then ((mX1_size (lz (Int32.toNatClampNeg i))).bind fun z46 => some z46) else none) else (if wh = (1 : Int32) then (if ix i 20 = true then (some (kca (Int32.toNatClampNeg i))) else none) else (if wh = (2 : Int32) then (if ix i 20 = true then ((mX1_total (ld (Int32.toNatClampNeg i))).bind fun z63 => some z63) else none) else (some (-1 : Int32))))) else (some (-1 : Int32)))
set_option maxHeartbeats 4000000 in
set_option maxRecDepth 100000 in
theorem k_X3_factF (l : Launch) (D : va_G) (g : Nat → ClassId) {L : List Nat} {f : Nat → va_E} {lb lw : Nat → Nat} {ca la re ro : Nat} {lc : Int32} {lsd : Int32} {rf : Nat → Option Nat} {kca : Nat → Int32} {lz : Nat → Int32} {ld : Nat → Nat → Int64} {i : Int32} {wh : Int32} {z : Int32} (m_la : la ∈ L) (e_la : f la = .inr (3, [.ref ro, .ref ca, .ref re, .int lc, .int lsd])) (m_ro : ro ∈ L) (e_ro : f ro = .inl (g 4, 20, .inr (.inr (.inr (.inr rf))))) (m_ca : ca ∈ L) (e_ca : f ca = .inl (g 0, 20, .inl kca)) (e_fam : LF g L f rf lb lw lz ld)    (hM : mX3_factF lc kca lz ld i wh = some z) : cI l yX3_fact wsX3_fact { frames := 2, cells := 0, slots := 0, locals := 43 } D g [.ref la, .int i, .int wh] L f 0 0 (fun x L1 f1 => x = z ∧ L1 = L ∧ f1 = f) := by
  refine cI_of (cc := cX3_fact) (maxL := 3) (ret := (some .int)) (by decide) rfl (Nat.le_of_ble_eq_true rfl) ?_
  intro szz p e s m below meth c hx hb hr hml hts hown hlk hnm S ls hl
  have hl : lv_has ls 3 [(0, .ref la), (1, .int i), (2, .int wh)] := hl
  have in_X3 : ∀ w ∈ wsX30, w ∈ wsX3_fact := gu_wsX3_fact_2
  unfold mX3_factF at hM
  refine W_gen (fun QQ hQQ => ?_)
  refine lv_iload_n hx hb dX3_fact_0 rfl (lv_at hl 1 rfl) ?_
  refine lv_if_lt (tgt := 12) hx hb dX3_fact_1 (by decide) (fun b1 => ?_) (fun b1 => ?_)
  · have hM := itT b1 hM
    refine lv_iconst (v := (-1 : Int32)) hx hb dX3_fact_12 (by decide) ?_
    subst hQQ
    exact q_reti (post := fun x L1 f1 => x = z ∧ L1 = L ∧ f1 = f) hx hb hr hlk S dX3_fact_13 (by decide) (by decide) (by have hz := Option.some.inj hM; subst hz; exact ⟨rfl, rfl, rfl⟩)
  · have hM := itF b1 hM
    refine lv_iload_n hx hb dX3_fact_4 rfl (lv_at hl 1 rfl) ?_
    refine lv_aload_n hx hb dX3_fact_5 rfl (lv_at hl 0 rfl) ?_
    refine q_get hx hb hts in_X3 hown S m_la e_la (C := RX3) (T := TX3) (N := 5) rfl 3 (by decide) rfl (hts (.fieldLink RX3 29 "SieveCabinet$Layers" "count" "I") (gu_wsX3_fact_1 _ gm_0)) dX3_fact_6 ?_
    refine lv_icmp_lt (tgt := 14) hx hb dX3_fact_9 (by decide) (fun b9 => ?_) (fun b9 => ?_)
    · have hM := itT b9 hM
      refine lv_iload_n hx hb dX3_fact_14 rfl (lv_at hl 2 rfl) ?_
      by_cases w15_0 : wh = (0 : Int32)
      · have hM := itT w15_0 hM
        refine lv_tableIn (off := 25) (tgt := 40) hx hb dX3_fact_15 (by rw [w15_0]; decide) (by rw [w15_0]; decide) (by rw [w15_0]; rfl) (by decide) ?_
        refine lv_aload_n hx hb dX3_fact_40 rfl (lv_at hl 0 rfl) ?_
        refine q_get hx hb hts in_X3 hown S m_la e_la (C := RX3) (T := TX3) (N := 5) rfl 0 (by decide) rfl (hts (.fieldLink RX3 13 "SieveCabinet$Layers" "rows" "[LSieveCabinet$BitRow;") (gu_wsX3_fact_1 _ gm_1)) dX3_fact_41 ?_
        refine lv_iload_n hx hb dX3_fact_44 rfl (lv_at hl 1 rfl) ?_
        obtain ⟨hi45, hM⟩ := ckx hM
        obtain ⟨rb45, rw45, eb45, ew45, hF_rb45, m_rb45, e_rb45, m_rw45, e_rw45⟩ := LF_at e_fam hi45
        refine q_ald hx hb S m_ro 4 rfl e_ro hi45 dX3_fact_45 ?_
        rw [hF_rb45]
        refine W.eq (g2 := F0 m 46 ls [.ref rb45]) rfl ?_
        obtain ⟨z46, hz46, hM⟩ := bind_some hM
        refine q_vi (As := []) (rest := []) ⟨hx, hb, hml, hown, hts⟩ (k_X1_size l D g m_rb45 e_rb45 hz46) (cwV 0 hts gX3_fact_X1_size rfl rfl rfl (by decide +kernel) ⟨Nat.le_of_ble_eq_true rfl, Nat.le_of_ble_eq_true rfl⟩) S m_rb45 e_rb45 (T := TX1) (N := 2) rfl rfl hl.1 rfl (Nat.le_of_ble_eq_true rfl) dX3_fact_46 ⟨Nat.le_of_ble_eq_true rfl, Nat.le_of_ble_eq_true rfl⟩ (fun r3 L1 f2 H locs S w46 => ?_)
        obtain ⟨ex46, eL, ef⟩ := w46
        rw [eL, ef] at S
        replace ex46 := ex46.symm
        subst ex46
        subst hQQ
        exact q_reti (post := fun x L1 f1 => x = z ∧ L1 = L ∧ f1 = f) hx hb hr hlk S dX3_fact_49 (by decide) (by decide) (by have hz := Option.some.inj hM; subst hz; exact ⟨rfl, rfl, rfl⟩)
      have hM := itF w15_0 hM
      by_cases w15_1 : wh = (1 : Int32)
      · have hM := itT w15_1 hM
        refine lv_tableIn (off := 35) (tgt := 50) hx hb dX3_fact_15 (by rw [w15_1]; decide) (by rw [w15_1]; decide) (by rw [w15_1]; rfl) (by decide) ?_
        refine lv_aload_n hx hb dX3_fact_50 rfl (lv_at hl 0 rfl) ?_
        refine q_get hx hb hts in_X3 hown S m_la e_la (C := RX3) (T := TX3) (N := 5) rfl 1 (by decide) rfl (hts (.fieldLink RX3 17 "SieveCabinet$Layers" "came" "[I") (gu_wsX3_fact_1 _ gm_2)) dX3_fact_51 ?_
        refine lv_iload_n hx hb dX3_fact_54 rfl (lv_at hl 1 rfl) ?_
        obtain ⟨hi55, hM⟩ := ckx hM
        refine q_iald hx hb S m_ca e_ca hi55 dX3_fact_55 ?_
        subst hQQ
        exact q_reti (post := fun x L1 f1 => x = z ∧ L1 = L ∧ f1 = f) hx hb hr hlk S dX3_fact_56 (by decide) (by decide) (by have hz := Option.some.inj hM; subst hz; exact ⟨rfl, rfl, rfl⟩)
      have hM := itF w15_1 hM
      by_cases w15_2 : wh = (2 : Int32)
      · have hM := itT w15_2 hM
        refine lv_tableIn (off := 42) (tgt := 57) hx hb dX3_fact_15 (by rw [w15_2]; decide) (by rw [w15_2]; decide) (by rw [w15_2]; rfl) (by decide) ?_
        refine lv_aload_n hx hb dX3_fact_57 rfl (lv_at hl 0 rfl) ?_
        refine q_get hx hb hts in_X3 hown S m_la e_la (C := RX3) (T := TX3) (N := 5) rfl 0 (by decide) rfl (hts (.fieldLink RX3 13 "SieveCabinet$Layers" "rows" "[LSieveCabinet$BitRow;") (gu_wsX3_fact_1 _ gm_1)) dX3_fact_58 ?_
        refine lv_iload_n hx hb dX3_fact_61 rfl (lv_at hl 1 rfl) ?_
        obtain ⟨hi62, hM⟩ := ckx hM
        obtain ⟨rb62, rw62, eb62, ew62, hF_rb62, m_rb62, e_rb62, m_rw62, e_rw62⟩ := LF_at e_fam hi62
        refine q_ald hx hb S m_ro 4 rfl e_ro hi62 dX3_fact_62 ?_
        rw [hF_rb62]
        refine W.eq (g2 := F0 m 63 ls [.ref rb62]) rfl ?_
        obtain ⟨z63, hz63, hM⟩ := bind_some hM
        refine q_vi (As := []) (rest := []) ⟨hx, hb, hml, hown, hts⟩ (k_X1_total l D g m_rb62 e_rb62 m_rw62 e_rw62 hz63) (cwV 0 hts gX3_fact_X1_total rfl rfl rfl (by decide +kernel) ⟨Nat.le_of_ble_eq_true rfl, Nat.le_of_ble_eq_true rfl⟩) S m_rb62 e_rb62 (T := TX1) (N := 2) rfl rfl hl.1 rfl (Nat.le_of_ble_eq_true rfl) dX3_fact_63 ⟨Nat.le_of_ble_eq_true rfl, Nat.le_of_ble_eq_true rfl⟩ (fun r6 L4 f5 H locs S w63 => ?_)
        obtain ⟨ex63, eL, ef⟩ := w63
        rw [eL, ef] at S
        replace ex63 := ex63.symm
        subst ex63
        subst hQQ
        exact q_reti (post := fun x L1 f1 => x = z ∧ L1 = L ∧ f1 = f) hx hb hr hlk S dX3_fact_66 (by decide) (by decide) (by have hz := Option.some.inj hM; subst hz; exact ⟨rfl, rfl, rfl⟩)
      have hM := itF w15_2 hM
      refine lv_tableOut (tgt := 67) hx hb dX3_fact_15 (by have q0 := lv_neT w15_0 (a := 0) rfl; have q1 := lv_neT w15_1 (a := 1) rfl; have q2 := lv_neT w15_2 (a := 2) rfl; omega) (by decide) ?_
      refine lv_iconst (v := (-1 : Int32)) hx hb dX3_fact_67 (by decide) ?_
      subst hQQ
      exact q_reti (post := fun x L1 f1 => x = z ∧ L1 = L ∧ f1 = f) hx hb hr hlk S dX3_fact_68 (by decide) (by decide) (by have hz := Option.some.inj hM; subst hz; exact ⟨rfl, rfl, rfl⟩)
    · have hM := itF b9 hM
      refine lv_iconst (v := (-1 : Int32)) hx hb dX3_fact_12 (by decide) ?_
      subst hQQ
      exact q_reti (post := fun x L1 f1 => x = z ∧ L1 = L ∧ f1 = f) hx hb hr hlk S dX3_fact_13 (by decide) (by decide) (by have hz := Option.some.inj hM; subst hz; exact ⟨rfl, rfl, rfl⟩)
