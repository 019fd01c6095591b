def mX1_begin (v : Nat → Int64) (b : Int32) : Option (Int32 × (Nat → Int64)) := (mJ7_fill_d0a16 64 v (0 : Int64)).bind fun z20 => some ((imx (0 : Int32) (imn b (4096 : Int32))), z20)
set_option maxRecDepth 20000 in
theorem gu_wsX1_begin_2 : ∀ w ∈ wsX10, w ∈ wsX1_begin := fun _ h => List.mem_cons_of_mem _ (List.mem_append_right _ h)
set_option maxHeartbeats 4000000 in
set_option maxRecDepth 100000 in
theorem k_X1_begin (l : Launch) (D : va_G) (g : Nat → ClassId) {L : List Nat} {f : Nat → va_E} {h w : Nat} {z0 : Int32} {v : Nat → Int64} {b : Int32} {z : Int32 × (Nat → Int64)} (m_h : h ∈ L) (e_h : f h = .inr (1, [.ref w, .int z0])) (m_w : w ∈ L) (e_w : f w = .inl (g 1, 64, .inr (.inl v)))    (hM : mX1_begin v b = some z) : cV l yX1_begin wsX1_begin { frames := 1, cells := 0, slots := 0, locals := 24 } D g [.ref h, .int b] L f 0 0 (fun L1 f1 => L1 = L ∧ (∀ b, b ∈ L → b ≠ h → b ≠ w → f1 b = f b) ∧ f1 h = .inr (1, [.ref w, .int z.1]) ∧ f1 w = .inl (g 1, 64, .inr (.inl z.2))) := by
  refine cV_of (cc := cX1_begin) (maxL := 2) (ret := none) (by decide) rfl (Nat.le_of_ble_eq_true rfl) ?_
  intro szz p e s m below meth c hx hb hr hml hts hown hlk hnm S ls hl
  have hl : lv_has ls 2 [(0, .ref h), (1, .int b)] := hl
  have in_X1 : ∀ w ∈ wsX10, w ∈ wsX1_begin := gu_wsX1_begin_2
  have n_w_h : w ≠ h := ne_ri e_h e_w
  have n_h_w : h ≠ w := ne_ir e_w e_h
  have fr : ∀ b, b ∈ L → b ≠ h → b ≠ w → f b = f b := fun _ _ _ _ => rfl
  unfold mX1_begin at hM
  refine W_gen (fun QQ hQQ => ?_)
  refine lv_aload_n hx hb dX1_begin_0 rfl (lv_at hl 0 rfl) ?_
  refine lv_iconst (v := (0 : Int32)) hx hb dX1_begin_1 (by decide) ?_
  refine lv_iload_n hx hb dX1_begin_2 rfl (lv_at hl 1 rfl) ?_
  refine lv_sipush (v := (4096 : Int32)) hx hb dX1_begin_3 (by decide) ?_
  refine va_mmin (rest := [.int (0 : Int32), .ref h]) hx hb (by rw [hml]; exact hl.1.symm) hown (hts (.methodLink RX1 15 Lib.Math.min.name) (gu_wsX1_begin_1 _ gm_0)) (hts (.static Lib.Math.min.name) (gu_wsX1_begin_1 _ gm_1)) (hts (.initialized "java/lang/Math") (gu_wsX1_begin_1 _ gm_2)) (hts (.code Lib.Math.min.name Lib.Math.min.code 2 (some .int)) (gu_wsX1_begin_1 _ gm_3)) (Nat.le_of_ble_eq_true rfl) (Nat.le_of_ble_eq_true rfl) (Nat.le_of_ble_eq_true rfl) (Nat.le_of_ble_eq_true rfl) dX1_begin_6 ?_
  refine W.eq (g2 := F0 m 9 ls [.int (imn b (4096 : Int32)), .int (0 : Int32), .ref h]) rfl ?_
  refine va_mmax (rest := [.ref h]) hx hb (by rw [hml]; exact hl.1.symm) hown (hts (.methodLink RX1 21 Lib.Math.max.name) (gu_wsX1_begin_1 _ gm_4)) (hts (.static Lib.Math.max.name) (gu_wsX1_begin_1 _ gm_5)) (hts (.initialized "java/lang/Math") (gu_wsX1_begin_1 _ gm_2)) (hts (.code Lib.Math.max.name Lib.Math.max.code 2 (some .int)) (gu_wsX1_begin_1 _ gm_6)) (Nat.le_of_ble_eq_true rfl) (Nat.le_of_ble_eq_true rfl) (Nat.le_of_ble_eq_true rfl) (Nat.le_of_ble_eq_true rfl) dX1_begin_9 ?_
  refine W.eq (g2 := F0 m 12 ls [.int (imx (0 : Int32) (imn b (4096 : Int32))), .ref h]) rfl ?_
  refine k_put hx hb hts in_X1 tyX1 tyX1_ok nmX1 hown S m_h e_h (C := RX1) (T := TX1) (N := 2) rfl 1 (by decide) (hts (.fieldLink RX1 24 "SieveCabinet$BitRow" "size" "I") (gu_wsX1_begin_1 _ gm_7)) rfl rfl rfl (Nat.le_of_ble_eq_true rfl) dX1_begin_12 (fun f1 ef1 H locs S => ?_)
  have e_h : f1 h = .inr (1, [.ref w, .int (imx (0 : Int32) (imn b (4096 : Int32)))]) := up_self ef1
  have fr : ∀ b, b ∈ L → b ≠ h → b ≠ w → f1 b = f b := fun b mb nb0 nb1 => (up_ne ef1 nb0 rfl).trans (fr b mb nb0 nb1)
  refine lv_aload_n hx hb dX1_begin_15 rfl (lv_at hl 0 rfl) ?_
  refine q_get hx hb hts in_X1 hown S m_h e_h (C := RX1) (T := TX1) (N := 2) rfl 0 (by decide) rfl (hts (.fieldLink RX1 9 "SieveCabinet$BitRow" "words" "[J") (gu_wsX1_begin_1 _ gm_8)) dX1_begin_16 ?_
  refine lv_lconst (v := (0 : Int64)) hx hb dX1_begin_19 (by decide) ?_
  obtain ⟨z20, hz20, hM⟩ := bind_some hM
  have e_w := (up_ne ef1 n_w_h e_w)
  refine q_sv (As := [.ref w, .long (0 : Int64)]) (rest := []) ⟨hx, hb, hml, hown, hts⟩ (k_J7_fill_d0a16 l D g m_w e_w hz20) (va_cwS 2 hts gX1_begin_J7_fill_d0a16 rfl rfl rfl (by decide +kernel) ⟨Nat.le_of_ble_eq_true rfl, Nat.le_of_ble_eq_true rfl⟩) S rfl hl.1 rfl (Nat.le_of_ble_eq_true rfl) dX1_begin_20 ⟨Nat.le_of_ble_eq_true rfl, Nat.le_of_ble_eq_true rfl⟩ (fun L2 f3 H locs S w20 => ?_)
  obtain ⟨eL, fv20, E_w⟩ := w20
  rw [eL] at S
  have fr : ∀ b, b ∈ L → b ≠ h → b ≠ w → f3 b = f b := fun b mb nb0 nb1 => (fv20 b mb nb1).trans (fr b mb nb0 nb1)
  have e_w : f3 w = .inl (g 1, 64, .inr (.inl z20)) := E_w
  have e_h := ((fv20 h m_h n_h_w).trans e_h)
  subst hQQ
  exact q_retv (post := fun L1 f1 => L1 = L ∧ (∀ b, b ∈ L → b ≠ h → b ≠ w → f1 b = f b) ∧ f1 h = .inr (1, [.ref w, .int z.1]) ∧ f1 w = .inl (g 1, 64, .inr (.inl z.2))) hx hb hr hlk S dX1_begin_23 (by decide) (by decide) (by have hz := Option.some.inj hM; subst hz; exact ⟨rfl, fr, e_h, e_w⟩)

def mX1_size (z0 : Int32) : Option (Int32) := some z0
set_option maxRecDepth 20000 in
theorem gu_wsX1_size_2 : ∀ w ∈ wsX10, w ∈ wsX1_size := fun _ h => List.mem_cons_of_mem _ (List.mem_append_right _ h)
set_option maxRecDepth 20000 in
theorem gu_wsX1_size_1 : ∀ w ∈ ([Cond.fieldLink RX1 24 "SieveCabinet$BitRow" "size" "I"] : List Cond), w ∈ wsX1_size := fun _ h => List.mem_cons_of_mem _ (List.mem_append_left _ h)
set_option maxHeartbeats 4000000 in
set_option maxRecDepth 100000 in
theorem k_X1_size (l : Launch) (D : va_G) (g : Nat → ClassId) {L : List Nat} {f : Nat → va_E} {h w : Nat} {z0 : Int32} {z : Int32} (m_h : h ∈ L) (e_h : f h = .inr (1, [.ref w, .int z0]))    (hM : mX1_size z0 = some z) : cI l yX1_size wsX1_size { frames := 0, cells := 0, slots := 0, locals := 0 } D g [.ref h] L f 0 0 (fun x L1 f1 => x = z ∧ L1 = L ∧ f1 = f) := by
  refine cI_of (cc := cX1_size) (maxL := 1) (ret := (some .int)) (by decide) rfl (Nat.le_of_ble_eq_true rfl) ?_
  intro szz p e s m below meth c hx hb hr hml hts hown hlk hnm S ls hl
  have hl : lv_has ls 1 [(0, .ref h)] := hl
  have in_X1 : ∀ w ∈ wsX10, w ∈ wsX1_size := gu_wsX1_size_2
  unfold mX1_size at hM
  refine W_gen (fun QQ hQQ => ?_)
  refine lv_aload_n hx hb dX1_size_0 rfl (lv_at hl 0 rfl) ?_
  refine q_get hx hb hts in_X1 hown S m_h e_h (C := RX1) (T := TX1) (N := 2) rfl 1 (by decide) rfl (hts (.fieldLink RX1 24 "SieveCabinet$BitRow" "size" "I") (gu_wsX1_size_1 _ gm_0)) dX1_size_1 ?_
  subst hQQ
  exact q_reti (post := fun x L1 f1 => x = z ∧ L1 = L ∧ f1 = f) hx hb hr hlk S dX1_size_4 (by decide) (by decide) (by have hz := Option.some.inj hM; subst hz; exact ⟨rfl, rfl, rfl⟩)

def mX1_has (z0 : Int32) (v : Nat → Int64) (i : Int32) : Option (Int32) := if i < 0 then (some (0 : Int32)) else (if z0 ≤ i then (some (0 : Int32)) else (if ix (i / (64 : Int32)) 64 = true then (if (lg_cmp ((lush_ (v (Int32.toNatClampNeg (i / (64 : Int32)))) (irm i (64 : Int32))) &&& (1 : Int64)) (1 : Int64)) = 0 then (some (1 : Int32)) else (some (0 : Int32))) else none))
set_option maxRecDepth 20000 in
theorem gu_wsX1_has_2 : ∀ w ∈ wsX10, w ∈ wsX1_has := fun _ h => List.mem_cons_of_mem _ (List.mem_append_right _ h)
set_option maxRecDepth 20000 in
theorem gu_wsX1_has_1 : ∀ w ∈ ([Cond.fieldLink RX1 24 "SieveCabinet$BitRow" "size" "I", Cond.fieldLink RX1 9 "SieveCabinet$BitRow" "words" "[J"] : List Cond), w ∈ wsX1_has := fun _ h => List.mem_cons_of_mem _ (List.mem_append_left _ h)
set_option maxHeartbeats 4000000 in
set_option maxRecDepth 100000 in
theorem k_X1_has (l : Launch) (D : va_G) (g : Nat → ClassId) {L : List Nat} {f : Nat → va_E} {h w : Nat} {z0 : Int32} {v : Nat → Int64} {i : Int32} {z : Int32} (m_h : h ∈ L) (e_h : f h = .inr (1, [.ref w, .int z0])) (m_w : w ∈ L) (e_w : f w = .inl (g 1, 64, .inr (.inl v)))    (hM : mX1_has z0 v i = some z) : cI l yX1_has wsX1_has { frames := 0, cells := 0, slots := 0, locals := 0 } D g [.ref h, .int i] L f 0 0 (fun x L1 f1 => x = z ∧ L1 = L ∧ f1 = f) := by
  refine cI_of (cc := cX1_has) (maxL := 2) (ret := (some .boolean)) (by decide) rfl (Nat.le_of_ble_eq_true rfl) ?_
  intro szz p e s m below meth c hx hb hr hml hts hown hlk hnm S ls hl
  have hl : lv_has ls 2 [(0, .ref h), (1, .int i)] := hl
  have in_X1 : ∀ w ∈ wsX10, w ∈ wsX1_has := gu_wsX1_has_2
  unfold mX1_has at hM
  refine W_gen (fun QQ hQQ => ?_)
  refine lv_iload_n hx hb dX1_has_0 rfl (lv_at hl 1 rfl) ?_
  refine lv_if_lt (tgt := 37) hx hb dX1_has_1 (by decide) (fun b1 => ?_) (fun b1 => ?_)
  · have hM := itT b1 hM
    refine lv_iconst (v := (0 : Int32)) hx hb dX1_has_37 (by decide) ?_
    subst hQQ
    exact q_retz (post := fun x L1 f1 => x = z ∧ L1 = L ∧ f1 = f) hx hb hr hlk S dX1_has_38 (by decide) (by decide) (by decide) (by have hz := Option.some.inj hM; subst hz; exact ⟨rfl, rfl, rfl⟩)
  · have hM := itF b1 hM
    refine lv_iload_n hx hb dX1_has_4 rfl (lv_at hl 1 rfl) ?_
    refine lv_aload_n hx hb dX1_has_5 rfl (lv_at hl 0 rfl) ?_
    refine q_get hx hb hts in_X1 hown S m_h e_h (C := RX1) (T := TX1) (N := 2) rfl 1 (by decide) rfl (hts (.fieldLink RX1 24 "SieveCabinet$BitRow" "size" "I") (gu_wsX1_has_1 _ gm_0)) dX1_has_6 ?_
    refine lv_icmp_ge (tgt := 37) hx hb dX1_has_9 (by decide) (fun b9 => ?_) (fun b9 => ?_)
    · have hM := itT b9 hM
      refine lv_iconst (v := (0 : Int32)) hx hb dX1_has_37 (by decide) ?_
      subst hQQ
      exact q_retz (post := fun x L1 f1 => x = z ∧ L1 = L ∧ f1 = f) hx hb hr hlk S dX1_has_38 (by decide) (by decide) (by decide) (by have hz := Option.some.inj hM; subst hz; exact ⟨rfl, rfl, rfl⟩)
    · have hM := itF b9 hM
      refine lv_aload_n hx hb dX1_has_12 rfl (lv_at hl 0 rfl) ?_
      refine q_get hx hb hts in_X1 hown S m_h e_h (C := RX1) (T := TX1) (N := 2) rfl 0 (by decide) rfl (hts (.fieldLink RX1 9 "SieveCabinet$BitRow" "words" "[J") (gu_wsX1_has_1 _ gm_1)) dX1_has_13 ?_
      refine lv_iload_n hx hb dX1_has_16 rfl (lv_at hl 1 rfl) ?_
      refine lv_bipush (v := (64 : Int32)) hx hb dX1_has_17 (by decide) ?_
      refine lv_idiv hx hb dX1_has_19 (by decide) ?_
      obtain ⟨hi20, hM⟩ := ckx hM
      refine q_lald hx hb S m_w e_w hi20 dX1_has_20 ?_
      refine lv_iload_n hx hb dX1_has_21 rfl (lv_at hl 1 rfl) ?_
      refine lv_bipush (v := (64 : Int32)) hx hb dX1_has_22 (by decide) ?_
      refine lv_irem hx hb dX1_has_24 (by decide) ?_
      refine W.eq (g2 := F0 m 25 ls [.int (irm i (64 : Int32)), .long (v (Int32.toNatClampNeg (i / (64 : Int32))))]) rfl ?_
      refine lv_lushr (v := (lush_ (v (Int32.toNatClampNeg (i / (64 : Int32)))) (irm i (64 : Int32)))) hx hb dX1_has_25 rfl ?_
      refine lv_lconst (v := (1 : Int64)) hx hb dX1_has_26 (by decide) ?_
      refine lv_land hx hb dX1_has_27 ?_
      refine lv_lconst (v := (1 : Int64)) hx hb dX1_has_28 (by decide) ?_
      refine W.lcmp hx hb dX1_has_29 ?_
      refine lv_if_ne (tgt := 37) hx hb dX1_has_30 (by decide) (fun b30 => ?_) (fun b30 => ?_)
      · have hM := itF b30 hM
        refine lv_iconst (v := (0 : Int32)) hx hb dX1_has_37 (by decide) ?_
        subst hQQ
        exact q_retz (post := fun x L1 f1 => x = z ∧ L1 = L ∧ f1 = f) hx hb hr hlk S dX1_has_38 (by decide) (by decide) (by decide) (by have hz := Option.some.inj hM; subst hz; exact ⟨rfl, rfl, rfl⟩)
      · have hM := itT b30 hM
        refine lv_iconst (v := (1 : Int32)) hx hb dX1_has_33 (by decide) ?_
        refine lv_goto (tgt := 38) hx hb dX1_has_34 (by decide) ?_
        subst hQQ
        exact q_retz (post := fun x L1 f1 => x = z ∧ L1 = L ∧ f1 = f) hx hb hr hlk S dX1_has_38 (by decide) (by decide) (by decide) (by have hz := Option.some.inj hM; subst hz; exact ⟨rfl, rfl, rfl⟩)

def mX1_set (z0 : Int32) (v : Nat → Int64) (i : Int32) : Option ((Nat → Int64)) := if i < 0 then (some v) else (if z0 ≤ i then (some v) else (if ix (i / (64 : Int32)) 64 = true then (if ix (i / (64 : Int32)) 64 = true then (some (vp_updL v (Int32.toNatClampNeg (i / (64 : Int32))) ((v (Int32.toNatClampNeg (i / (64 : Int32)))) ||| (lsh_ (1 : Int64) (irm i (64 : Int32)))))) else none) else none))
set_option maxRecDepth 20000 in
theorem gu_wsX1_set_2 : ∀ w ∈ wsX10, w ∈ wsX1_set := fun _ h => List.mem_cons_of_mem _ (List.mem_append_right _ h)
set_option maxRecDepth 20000 in
theorem gu_wsX1_set_1 : ∀ w ∈ ([Cond.fieldLink RX1 24 "SieveCabinet$BitRow" "size" "I", Cond.fieldLink RX1 9 "SieveCabinet$BitRow" "words" "[J"] : List Cond), w ∈ wsX1_set := fun _ h => List.mem_cons_of_mem _ (List.mem_append_left _ h)
set_option maxHeartbeats 4000000 in
set_option maxRecDepth 100000 in
theorem k_X1_set (l : Launch) (D : va_G) (g : Nat → ClassId) {L : List Nat} {f : Nat → va_E} {h w : Nat} {z0 : Int32} {v : Nat → Int64} {i : Int32} {z : (Nat → Int64)} (m_h : h ∈ L) (e_h : f h = .inr (1, [.ref w, .int z0])) (m_w : w ∈ L) (e_w : f w = .inl (g 1, 64, .inr (.inl v)))    (hM : mX1_set z0 v i = some z) : cV l yX1_set wsX1_set { frames := 0, cells := 0, slots := 0, locals := 0 } D g [.ref h, .int i] L f 0 0 (fun L1 f1 => L1 = L ∧ (∀ b, b ∈ L → b ≠ w → f1 b = f b) ∧ f1 w = .inl (g 1, 64, .inr (.inl z))) := by
  refine cV_of (cc := cX1_set) (maxL := 2) (ret := none) (by decide) rfl (Nat.le_of_ble_eq_true rfl) ?_
  intro szz p e s m below meth c hx hb hr hml hts hown hlk hnm S ls hl
  have hl : lv_has ls 2 [(0, .ref h), (1, .int i)] := hl
  have in_X1 : ∀ w ∈ wsX10, w ∈ wsX1_set := gu_wsX1_set_2
  have fr : ∀ b, b ∈ L → b ≠ w → f b = f b := fun _ _ _ => rfl
  unfold mX1_set at hM
  refine W_gen (fun QQ hQQ => ?_)
  refine lv_iload_n hx hb dX1_set_0 rfl (lv_at hl 1 rfl) ?_
  refine lv_if_lt (tgt := 30) hx hb dX1_set_1 (by decide) (fun b1 => ?_) (fun b1 => ?_)
  · have hM := itT b1 hM
    subst hQQ
    exact q_retv (post := fun L1 f1 => L1 = L ∧ (∀ b, b ∈ L → b ≠ w → f1 b = f b) ∧ f1 w = .inl (g 1, 64, .inr (.inl z))) hx hb hr hlk S dX1_set_30 (by decide) (by decide) (by have hz := Option.some.inj hM; subst hz; exact ⟨rfl, fr, e_w⟩)
  · have hM := itF b1 hM
    refine lv_iload_n hx hb dX1_set_4 rfl (lv_at hl 1 rfl) ?_
    refine lv_aload_n hx hb dX1_set_5 rfl (lv_at hl 0 rfl) ?_
    refine q_get hx hb hts in_X1 hown S m_h e_h (C := RX1) (T := TX1) (N := 2) rfl 1 (by decide) rfl (hts (.fieldLink RX1 24 "SieveCabinet$BitRow" "size" "I") (gu_wsX1_set_1 _ gm_0)) dX1_set_6 ?_
    refine lv_icmp_ge (tgt := 30) hx hb dX1_set_9 (by decide) (fun b9 => ?_) (fun b9 => ?_)
    · have hM := itT b9 hM
      subst hQQ
      exact q_retv (post := fun L1 f1 => L1 = L ∧ (∀ b, b ∈ L → b ≠ w → f1 b = f b) ∧ f1 w = .inl (g 1, 64, .inr (.inl z))) hx hb hr hlk S dX1_set_30 (by decide) (by decide) (by have hz := Option.some.inj hM; subst hz; exact ⟨rfl, fr, e_w⟩)
    · have hM := itF b9 hM
      refine lv_aload_n hx hb dX1_set_12 rfl (lv_at hl 0 rfl) ?_
      refine q_get hx hb hts in_X1 hown S m_h e_h (C := RX1) (T := TX1) (N := 2) rfl 0 (by decide) rfl (hts (.fieldLink RX1 9 "SieveCabinet$BitRow" "words" "[J") (gu_wsX1_set_1 _ gm_1)) dX1_set_13 ?_
      refine lv_iload_n hx hb dX1_set_16 rfl (lv_at hl 1 rfl) ?_
      refine lv_bipush (v := (64 : Int32)) hx hb dX1_set_17 (by decide) ?_
      refine lv_idiv hx hb dX1_set_19 (by decide) ?_
      refine lv_dup2_11 hx hb dX1_set_20 rfl rfl ?_
      obtain ⟨hi21, hM⟩ := ckx hM
      refine q_lald hx hb S m_w e_w hi21 dX1_set_21 ?_
      refine lv_lconst (v := (1 : Int64)) hx hb dX1_set_22 (by decide) ?_
      refine lv_iload_n hx hb dX1_set_23 rfl (lv_at hl 1 rfl) ?_
      refine lv_bipush (v := (64 : Int32)) hx hb dX1_set_24 (by decide) ?_
      refine lv_irem hx hb dX1_set_26 (by decide) ?_
      refine W.eq (g2 := F0 m 27 ls [.int (irm i (64 : Int32)), .long (1 : Int64), .long (v (Int32.toNatClampNeg (i / (64 : Int32)))), .int (i / (64 : Int32)), .ref w]) rfl ?_
      refine lv_lshl (v := (lsh_ (1 : Int64) (irm i (64 : Int32)))) hx hb dX1_set_27 rfl ?_
      refine lv_lor hx hb dX1_set_28 ?_
      obtain ⟨hi29, hM⟩ := ckx hM
      refine k_last hx hb S m_w e_w hi29 dX1_set_29 (fun f1 ef1 H locs S => ?_)
      have e_w := up_self ef1
      have fr : ∀ b, b ∈ L → b ≠ w → f1 b = f b := fun b mb nb0 => (up_ne ef1 nb0 rfl).trans (fr b mb nb0)
      subst hQQ
      exact q_retv (post := fun L1 f1 => L1 = L ∧ (∀ b, b ∈ L → b ≠ w → f1 b = f b) ∧ f1 w = .inl (g 1, 64, .inr (.inl z))) hx hb hr hlk S dX1_set_30 (by decide) (by decide) (by have hz := Option.some.inj hM; subst hz; exact ⟨rfl, fr, e_w⟩)

def mX1_clear (z0 : Int32) (v : Nat → Int64) (i : Int32) : Option ((Nat → Int64)) := if i < 0 then (some v) else (if z0 ≤ i then (some v) else (if ix (i / (64 : Int32)) 64 = true then (if ix (i / (64 : Int32)) 64 = true then (some (vp_updL v (Int32.toNatClampNeg (i / (64 : Int32))) ((v (Int32.toNatClampNeg (i / (64 : Int32)))) &&& ((lsh_ (1 : Int64) (irm i (64 : Int32))) ^^^ (-1 : Int64))))) else none) else none))
set_option maxRecDepth 20000 in
theorem gu_wsX1_clear_2 : ∀ w ∈ wsX10, w ∈ wsX1_clear := fun _ h => List.mem_cons_of_mem _ (List.mem_append_right _ h)
set_option maxRecDepth 20000 in
theorem gu_wsX1_clear_1 : ∀ w ∈ ([Cond.fieldLink RX1 24 "SieveCabinet$BitRow" "size" "I", Cond.fieldLink RX1 9 "SieveCabinet$BitRow" "words" "[J", Cond.constantLong RX1 34 (-1)] : List Cond), w ∈ wsX1_clear := fun _ h => List.mem_cons_of_mem _ (List.mem_append_left _ h)
set_option maxHeartbeats 4000000 in
set_option maxRecDepth 100000 in
theorem k_X1_clear (l : Launch) (D : va_G) (g : Nat → ClassId) {L : List Nat} {f : Nat → va_E} {h w : Nat} {z0 : Int32} {v : Nat → Int64} {i : Int32} {z : (Nat → Int64)} (m_h : h ∈ L) (e_h : f h = .inr (1, [.ref w, .int z0])) (m_w : w ∈ L) (e_w : f w = .inl (g 1, 64, .inr (.inl v)))    (hM : mX1_clear z0 v i = some z) : cV l yX1_clear wsX1_clear { frames := 0, cells := 0, slots := 0, locals := 0 } D g [.ref h, .int i] L f 0 0 (fun L1 f1 => L1 = L ∧ (∀ b, b ∈ L → b ≠ w → f1 b = f b) ∧ f1 w = .inl (g 1, 64, .inr (.inl z))) := by
  refine cV_of (cc := cX1_clear) (maxL := 2) (ret := none) (by decide) rfl (Nat.le_of_ble_eq_true rfl) ?_
  intro szz p e s m below meth c hx hb hr hml hts hown hlk hnm S ls hl
  have hl : lv_has ls 2 [(0, .ref h), (1, .int i)] := hl
  have in_X1 : ∀ w ∈ wsX10, w ∈ wsX1_clear := gu_wsX1_clear_2
  have fr : ∀ b, b ∈ L → b ≠ w → f b = f b := fun _ _ _ => rfl
  unfold mX1_clear at hM
  refine W_gen (fun QQ hQQ => ?_)
  refine lv_iload_n hx hb dX1_clear_0 rfl (lv_at hl 1 rfl) ?_
  refine lv_if_lt (tgt := 34) hx hb dX1_clear_1 (by decide) (fun b1 => ?_) (fun b1 => ?_)
  · have hM := itT b1 hM
    subst hQQ
    exact q_retv (post := fun L1 f1 => L1 = L ∧ (∀ b, b ∈ L → b ≠ w → f1 b = f b) ∧ f1 w = .inl (g 1, 64, .inr (.inl z))) hx hb hr hlk S dX1_clear_34 (by decide) (by decide) (by have hz := Option.some.inj hM; subst hz; exact ⟨rfl, fr, e_w⟩)
  · have hM := itF b1 hM
    refine lv_iload_n hx hb dX1_clear_4 rfl (lv_at hl 1 rfl) ?_
    refine lv_aload_n hx hb dX1_clear_5 rfl (lv_at hl 0 rfl) ?_
    refine q_get hx hb hts in_X1 hown S m_h e_h (C := RX1) (T := TX1) (N := 2) rfl 1 (by decide) rfl (hts (.fieldLink RX1 24 "SieveCabinet$BitRow" "size" "I") (gu_wsX1_clear_1 _ gm_0)) dX1_clear_6 ?_
    refine lv_icmp_ge (tgt := 34) hx hb dX1_clear_9 (by decide) (fun b9 => ?_) (fun b9 => ?_)
    · have hM := itT b9 hM
      subst hQQ
      exact q_retv (post := fun L1 f1 => L1 = L ∧ (∀ b, b ∈ L → b ≠ w → f1 b = f b) ∧ f1 w = .inl (g 1, 64, .inr (.inl z))) hx hb hr hlk S dX1_clear_34 (by decide) (by decide) (by have hz := Option.some.inj hM; subst hz; exact ⟨rfl, fr, e_w⟩)
    · have hM := itF b9 hM
      refine lv_aload_n hx hb dX1_clear_12 rfl (lv_at hl 0 rfl) ?_
      refine q_get hx hb hts in_X1 hown S m_h e_h (C := RX1) (T := TX1) (N := 2) rfl 0 (by decide) rfl (hts (.fieldLink RX1 9 "SieveCabinet$BitRow" "words" "[J") (gu_wsX1_clear_1 _ gm_1)) dX1_clear_13 ?_
      refine lv_iload_n hx hb dX1_clear_16 rfl (lv_at hl 1 rfl) ?_
      refine lv_bipush (v := (64 : Int32)) hx hb dX1_clear_17 (by decide) ?_
      refine lv_idiv hx hb dX1_clear_19 (by decide) ?_
      refine lv_dup2_11 hx hb dX1_clear_20 rfl rfl ?_
      obtain ⟨hi21, hM⟩ := ckx hM
      refine q_lald hx hb S m_w e_w hi21 dX1_clear_21 ?_
      refine lv_lconst (v := (1 : Int64)) hx hb dX1_clear_22 (by decide) ?_
      refine lv_iload_n hx hb dX1_clear_23 rfl (lv_at hl 1 rfl) ?_
      refine lv_bipush (v := (64 : Int32)) hx hb dX1_clear_24 (by decide) ?_
      refine lv_irem hx hb dX1_clear_26 (by decide) ?_
      refine W.eq (g2 := F0 m 27 ls [.int (irm i (64 : Int32)), .long (1 : Int64), .long (v (Int32.toNatClampNeg (i / (64 : Int32)))), .int (i / (64 : Int32)), .ref w]) rfl ?_
      refine lv_lshl (v := (lsh_ (1 : Int64) (irm i (64 : Int32)))) hx hb dX1_clear_27 rfl ?_
      refine lv_ldc2 (v := (-1 : Int64)) hx hb hown (hts (.constantLong RX1 34 (-1)) (gu_wsX1_clear_1 _ gm_2)) dX1_clear_28 ?_
      refine lv_lxor hx hb dX1_clear_31 ?_
      refine lv_land hx hb dX1_clear_32 ?_
      obtain ⟨hi33, hM⟩ := ckx hM
      refine k_last hx hb S m_w e_w hi33 dX1_clear_33 (fun f1 ef1 H locs S => ?_)
      have e_w := up_self ef1
      have fr : ∀ b, b ∈ L → b ≠ w → f1 b = f b := fun b mb nb0 => (up_ne ef1 nb0 rfl).trans (fr b mb nb0)
      subst hQQ
      exact q_retv (post := fun L1 f1 => L1 = L ∧ (∀ b, b ∈ L → b ≠ w → f1 b = f b) ∧ f1 w = .inl (g 1, 64, .inr (.inl z))) hx hb hr hlk S dX1_clear_34 (by decide) (by decide) (by have hz := Option.some.inj hM; subst hz; exact ⟨rfl, fr, e_w⟩)

def mX1_least_L2 (v : Nat → Int64) : Nat → Int32 → Option ((Int32) ⊕ Int32)
  | 0, _ => none
  | fu + 1, x1_2 => if (64 : Int32) ≤ x1_2 then (some (.inr x1_2)) else (if ix x1_2 64 = true then (if (lg_cmp (v (Int32.toNatClampNeg x1_2)) (0 : Int64)) = 0 then (mX1_least_L2 v fu (x1_2 + 1)) else (if ix x1_2 64 = true then ((mJ13_numberOfTrailingZeros_95d88 (v (Int32.toNatClampNeg x1_2))).bind fun z32 => some (.inl (((64 : Int32) * x1_2) + z32))) else none)) else none)
def mX1_least (v : Nat → Int64) : Option (Int32) := (mX1_least_L2 v FU (0 : Int32)).bind fun o2 => Sum.elim (fun r_ => some r_) (fun s2 => some (-1 : Int32)) o2
set_option maxRecDepth 20000 in
theorem gu_wsX1_least_2 : ∀ w ∈ wsX10, w ∈ wsX1_least := fun _ h => List.mem_cons_of_mem _ (List.mem_append_right _ h)
set_option maxHeartbeats 4000000 in
set_option maxRecDepth 100000 in
theorem k_X1_least (l : Launch) (D : va_G) (g : Nat → ClassId) {L : List Nat} {f : Nat → va_E} {h w : Nat} {z0 : Int32} {v : Nat → Int64} {z : Int32} (m_h : h ∈ L) (e_h : f h = .inr (1, [.ref w, .int z0])) (m_w : w ∈ L) (e_w : f w = .inl (g 1, 64, .inr (.inl v)))    (hM : mX1_least v = some z) : cI l yX1_least wsX1_least { frames := 2, cells := 0, slots := 0, locals := 43 } D g [.ref h] L f 0 0 (fun x L1 f1 => x = z ∧ L1 = L ∧ f1 = f) := by
  refine cI_of (cc := cX1_least) (maxL := 2) (ret := (some .int)) (by decide) rfl (Nat.le_of_ble_eq_true rfl) ?_
  intro szz p e s m below meth c hx hb hr hml hts hown hlk hnm S ls hl
  have hl : lv_has ls 2 [(0, .ref h)] := hl
  have in_X1 : ∀ w ∈ wsX10, w ∈ wsX1_least := gu_wsX1_least_2
  unfold mX1_least at hM
  refine W_gen (fun QQ hQQ => ?_)
  refine lv_iconst (v := (0 : Int32)) hx hb dX1_least_0 (by decide) ?_
  refine lv_istore_n (lv' := [(1, .int (0 : Int32)), (0, .ref h)]) hx hb dX1_least_1 rfl hl (by decide) rfl (fun ls hl => ?_)
  obtain ⟨o2, ho2, hM⟩ := bind_some hM
  have EX2 : ∀ (s2 : Int32), o2 = .inr s2 → ∀ (H : Heap) (locs : List Loc) (ls : Array Slot), PS D g (va_A (va_pl L f) szz) s.heap s L f H locs → lv_has ls 2 [] → W p l e { frames := 2, cells := 0, slots := 0, locals := 43 } s m [.ref h].toArray below meth c H locs 0 0 QQ (F0 m 43 ls []) := by
    intro s2 eo2
    rw [eo2] at hM
    simp only [Sum.elim_inr] at hM
    intro H locs ls S hl
    refine lv_iconst (v := (-1 : Int32)) hx hb dX1_least_43 (by decide) ?_
    subst hQQ
    exact q_reti (post := fun x L1 f1 => x = z ∧ L1 = L ∧ f1 = f) hx hb hr hlk S dX1_least_44 (by decide) (by decide) (by have hz := Option.some.inj hM; subst hz; exact ⟨rfl, rfl, rfl⟩)
  have LP2 : ∀ (fu : Nat) (x1_2 : Int32) (H : Heap) (locs : List Loc) (ls : Array Slot), (mX1_least_L2 v) fu x1_2 = some o2 → PS D g (va_A (va_pl L f) szz) s.heap s L f H locs → lv_has ls 2 [(1, .int x1_2), (0, .ref h)] → W p l e { frames := 2, cells := 0, slots := 0, locals := 43 } s m [.ref h].toArray below meth c H locs 0 0 QQ (F0 m 2 ls []) := by
    intro fu
    induction fu with
    | zero => intro x1_2 H locs ls ho2 S hl; exact no_some ho2
    | succ fu ih2 =>
      intro x1_2 H locs ls ho2 S hl
      rw [mX1_least_L2] at ho2
      refine lv_iload_n hx hb dX1_least_2 rfl (lv_at hl 0 rfl) ?_
      refine lv_aload_n hx hb dX1_least_3 rfl (lv_at hl 1 rfl) ?_
      refine q_get hx hb hts in_X1 hown S m_h e_h (C := RX1) (T := TX1) (N := 2) rfl 0 (by decide) rfl (hts (.fieldLink RX1 9 "SieveCabinet$BitRow" "words" "[J") (gu_wsX1_least_1 _ gm_0)) dX1_least_4 ?_
      refine q_alen hx hb S m_w 1 rfl e_w (v := (64 : Int32)) rfl dX1_least_7 ?_
      refine lv_icmp_ge (tgt := 43) hx hb dX1_least_8 (by decide) (fun b8 => ?_) (fun b8 => ?_)
      · have ho2 := itT b8 ho2
        obtain rfl := Option.some.inj ho2
        exact EX2 _ rfl _ _ _ S (lv_sub hl [] rfl)
      · have ho2 := itF b8 ho2
        refine lv_aload_n hx hb dX1_least_11 rfl (lv_at hl 1 rfl) ?_
        refine q_get hx hb hts in_X1 hown S m_h e_h (C := RX1) (T := TX1) (N := 2) rfl 0 (by decide) rfl (hts (.fieldLink RX1 9 "SieveCabinet$BitRow" "words" "[J") (gu_wsX1_least_1 _ gm_0)) dX1_least_12 ?_
        refine lv_iload_n hx hb dX1_least_15 rfl (lv_at hl 0 rfl) ?_
        obtain ⟨hi16, ho2⟩ := ckx ho2
        refine q_lald hx hb S m_w e_w hi16 dX1_least_16 ?_
        refine lv_lconst (v := (0 : Int64)) hx hb dX1_least_17 (by decide) ?_
        refine W.lcmp hx hb dX1_least_18 ?_
        refine lv_if_eq (tgt := 37) hx hb dX1_least_19 (by decide) (fun b19 => ?_) (fun b19 => ?_)
        · have ho2 := itT b19 ho2
          refine lv_iinc (v := (x1_2 + 1)) (lv' := [(1, .int (x1_2 + 1)), (0, .ref h)]) hx hb dX1_least_37 hl (k := 0) rfl rfl (by decide) rfl (fun ls hl => ?_)
          refine lv_goto (tgt := 2) hx hb dX1_least_40 (by decide) ?_
          exact ih2 (x1_2 + 1) _ _ _ ho2 S (lv_sub hl [0, 1] rfl)
        · have ho2 := itF b19 ho2
          refine lv_bipush (v := (64 : Int32)) hx hb dX1_least_22 (by decide) ?_
          refine lv_iload_n hx hb dX1_least_24 rfl (lv_at hl 0 rfl) ?_
          refine lv_imul hx hb dX1_least_25 ?_
          refine lv_aload_n hx hb dX1_least_26 rfl (lv_at hl 1 rfl) ?_
          refine q_get hx hb hts in_X1 hown S m_h e_h (C := RX1) (T := TX1) (N := 2) rfl 0 (by decide) rfl (hts (.fieldLink RX1 9 "SieveCabinet$BitRow" "words" "[J") (gu_wsX1_least_1 _ gm_0)) dX1_least_27 ?_
          refine lv_iload_n hx hb dX1_least_30 rfl (lv_at hl 0 rfl) ?_
          obtain ⟨hi31, ho2⟩ := ckx ho2
          refine q_lald hx hb S m_w e_w hi31 dX1_least_31 ?_
          obtain ⟨z32, hz32, ho2⟩ := bind_some ho2
          refine q_si (As := [.long (v (Int32.toNatClampNeg x1_2))]) (rest := [.int ((64 : Int32) * x1_2)]) ⟨hx, hb, hml, hown, hts⟩ (k_J13_numberOfTrailingZeros_95d88 l D g hz32) (va_cwS 1 hts gX1_least_J13_numberOfTrailingZeros_95d88 rfl rfl rfl (by decide +kernel) ⟨Nat.le_of_ble_eq_true rfl, Nat.le_of_ble_eq_true rfl⟩) S rfl hl.1 rfl (Nat.le_of_ble_eq_true rfl) dX1_least_32 ⟨Nat.le_of_ble_eq_true rfl, Nat.le_of_ble_eq_true rfl⟩ (fun r3 L1 f2 H locs S w32 => ?_)
          obtain ⟨ex32, eL, ef⟩ := w32
          rw [eL, ef] at S
          replace ex32 := ex32.symm
          subst ex32
          refine lv_iadd hx hb dX1_least_35 ?_
          obtain rfl := Option.some.inj ho2
          simp only [Sum.elim_inl] at hM
          subst hQQ
          exact q_reti (post := fun x L1 f1 => x = z ∧ L1 = L ∧ f1 = f) hx hb hr hlk S dX1_least_36 (by decide) (by decide) (by have hz := Option.some.inj hM; subst hz; exact ⟨rfl, rfl, rfl⟩)
  exact LP2 FU (0 : Int32) _ _ _ ho2 S (lv_sub hl [0, 1] rfl)

def mX1_total_L4 (v : Nat → Int64) : Nat → Int32 → Int32 → Option (Int32 × Int32)
  | 0, _, _ => none
  | fu + 1, x2_4, x1_4 => if (64 : Int32) ≤ x2_4 then (some (x2_4, x1_4)) else (if ix x2_4 64 = true then ((mJ13_bitCount_95d88 (v (Int32.toNatClampNeg x2_4))).bind fun z20 => mX1_total_L4 v fu (x2_4 + 1) (x1_4 + z20)) else none)
def mX1_total (v : Nat → Int64) : Option (Int32) := (mX1_total_L4 v FU (0 : Int32) (0 : Int32)).bind fun o4 => some o4.2
set_option maxRecDepth 20000 in
theorem gu_wsX1_total_2 : ∀ w ∈ wsX10, w ∈ wsX1_total := fun _ h => List.mem_cons_of_mem _ (List.mem_append_right _ h)
set_option maxHeartbeats 4000000 in
set_option maxRecDepth 100000 in
theorem k_X1_total (l : Launch) (D : va_G) (g : Nat → ClassId) {L : List Nat} {f : Nat → va_E} {h w : Nat} {z0 : Int32} {v : Nat → Int64} {z : Int32} (m_h : h ∈ L) (e_h : f h = .inr (1, [.ref w, .int z0])) (m_w : w ∈ L) (e_w : f w = .inl (g 1, 64, .inr (.inl v)))    (hM : mX1_total v = some z) : cI l yX1_total wsX1_total { frames := 1, cells := 0, slots := 0, locals := 21 } D g [.ref h] L f 0 0 (fun x L1 f1 => x = z ∧ L1 = L ∧ f1 = f) := by
  refine cI_of (cc := cX1_total) (maxL := 3) (ret := (some .int)) (by decide) rfl (Nat.le_of_ble_eq_true rfl) ?_
  intro szz p e s m below meth c hx hb hr hml hts hown hlk hnm S ls hl
  have hl : lv_has ls 3 [(0, .ref h)] := hl
  have in_X1 : ∀ w ∈ wsX10, w ∈ wsX1_total := gu_wsX1_total_2
  unfold mX1_total at hM
  refine W_gen (fun QQ hQQ => ?_)
  refine lv_iconst (v := (0 : Int32)) hx hb dX1_total_0 (by decide) ?_
  refine lv_istore_n (lv' := [(1, .int (0 : Int32)), (0, .ref h)]) hx hb dX1_total_1 rfl hl (by decide) rfl (fun ls hl => ?_)
  refine lv_iconst (v := (0 : Int32)) hx hb dX1_total_2 (by decide) ?_
  refine lv_istore_n (lv' := [(2, .int (0 : Int32)), (1, .int (0 : Int32)), (0, .ref h)]) hx hb dX1_total_3 rfl hl (by decide) rfl (fun ls hl => ?_)
  obtain ⟨o4, ho4, hM⟩ := bind_some hM
  have EX4 : ∀ (H : Heap) (locs : List Loc) (ls : Array Slot), PS D g (va_A (va_pl L f) szz) s.heap s L f H locs → lv_has ls 3 [(1, .int o4.2)] → W p l e { frames := 1, cells := 0, slots := 0, locals := 21 } s m [.ref h].toArray below meth c H locs 0 0 QQ (F0 m 31 ls []) := by
    intro H locs ls S hl
    refine lv_iload_n hx hb dX1_total_31 rfl (lv_at hl 0 rfl) ?_
    subst hQQ
    exact q_reti (post := fun x L1 f1 => x = z ∧ L1 = L ∧ f1 = f) hx hb hr hlk S dX1_total_32 (by decide) (by decide) (by have hz := Option.some.inj hM; subst hz; exact ⟨rfl, rfl, rfl⟩)
  have LP4 : ∀ (fu : Nat) (x2_4 : Int32) (x1_4 : Int32) (H : Heap) (locs : List Loc) (ls : Array Slot), (mX1_total_L4 v) fu x2_4 x1_4 = some o4 → PS D g (va_A (va_pl L f) szz) s.heap s L f H locs → lv_has ls 3 [(2, .int x2_4), (1, .int x1_4), (0, .ref h)] → W p l e { frames := 1, cells := 0, slots := 0, locals := 21 } s m [.ref h].toArray below meth c H locs 0 0 QQ (F0 m 4 ls []) := by
    intro fu
    induction fu with
    | zero => intro x2_4 x1_4 H locs ls ho4 S hl; exact no_some ho4
    | succ fu ih4 =>
      intro x2_4 x1_4 H locs ls ho4 S hl
      rw [mX1_total_L4] at ho4
      refine lv_iload_n hx hb dX1_total_4 rfl (lv_at hl 0 rfl) ?_
      refine lv_aload_n hx hb dX1_total_5 rfl (lv_at hl 2 rfl) ?_
      refine q_get hx hb hts in_X1 hown S m_h e_h (C := RX1) (T := TX1) (N := 2) rfl 0 (by decide) rfl (hts (.fieldLink RX1 9 "SieveCabinet$BitRow" "words" "[J") (gu_wsX1_total_1 _ gm_0)) dX1_total_6 ?_
      refine q_alen hx hb S m_w 1 rfl e_w (v := (64 : Int32)) rfl dX1_total_9 ?_
      refine lv_icmp_ge (tgt := 31) hx hb dX1_total_10 (by decide) (fun b10 => ?_) (fun b10 => ?_)
      · have ho4 := itT b10 ho4
        obtain rfl := Option.some.inj ho4
        exact EX4 _ _ _ S (lv_sub hl [1] rfl)
      · have ho4 := itF b10 ho4
        refine lv_iload_n hx hb dX1_total_13 rfl (lv_at hl 1 rfl) ?_
        refine lv_aload_n hx hb dX1_total_14 rfl (lv_at hl 2 rfl) ?_
        refine q_get hx hb hts in_X1 hown S m_h e_h (C := RX1) (T := TX1) (N := 2) rfl 0 (by decide) rfl (hts (.fieldLink RX1 9 "SieveCabinet$BitRow" "words" "[J") (gu_wsX1_total_1 _ gm_0)) dX1_total_15 ?_
        refine lv_iload_n hx hb dX1_total_18 rfl (lv_at hl 0 rfl) ?_
        obtain ⟨hi19, ho4⟩ := ckx ho4
        refine q_lald hx hb S m_w e_w hi19 dX1_total_19 ?_
        obtain ⟨z20, hz20, ho4⟩ := bind_some ho4
        refine q_si (As := [.long (v (Int32.toNatClampNeg x2_4))]) (rest := [.int x1_4]) ⟨hx, hb, hml, hown, hts⟩ (k_J13_bitCount_95d88 l D g hz20) (va_cwS 1 hts gX1_total_J13_bitCount_95d88 rfl rfl rfl (by decide +kernel) ⟨Nat.le_of_ble_eq_true rfl, Nat.le_of_ble_eq_true rfl⟩) S rfl hl.1 rfl (Nat.le_of_ble_eq_true rfl) dX1_total_20 ⟨Nat.le_of_ble_eq_true rfl, Nat.le_of_ble_eq_true rfl⟩ (fun r3 L1 f2 H locs S w20 => ?_)
        obtain ⟨ex20, eL, ef⟩ := w20
        rw [eL, ef] at S
        replace ex20 := ex20.symm
        subst ex20
        refine lv_iadd hx hb dX1_total_23 ?_
        refine lv_istore_n (lv' := [(1, .int (x1_4 + z20)), (2, .int x2_4), (0, .ref h)]) hx hb dX1_total_24 rfl hl (by decide) rfl (fun ls hl => ?_)
        refine lv_iinc (v := (x2_4 + 1)) (lv' := [(2, .int (x2_4 + 1)), (1, .int (x1_4 + z20)), (0, .ref h)]) hx hb dX1_total_25 hl (k := 1) rfl rfl (by decide) rfl (fun ls hl => ?_)
        refine lv_goto (tgt := 4) hx hb dX1_total_28 (by decide) ?_
        exact ih4 (x2_4 + 1) (x1_4 + z20) _ _ _ ho4 S (lv_sub hl [0, 1, 2] rfl)
  exact LP4 FU (0 : Int32) (0 : Int32) _ _ _ ho4 S (lv_sub hl [0, 1, 2] rfl)

def mX1_setMarks_L3 (z0 : Int32) (mx : Int64) (mk : Int32) : Nat → Int32 → (Nat → Int64) → Option (Int32 × (Nat → Int64))
  | 0, _, _ => none
  | fu + 1, x4_3, cw_3 => if mk ≤ x4_3 then (some (x4_3, cw_3)) else ((mX4_markPlace mx x4_3 z0).bind fun z17 => (mX1_set z0 cw_3 z17).bind fun z20 => mX1_setMarks_L3 z0 mx mk fu (x4_3 + 1) z20)
def mX1_setMarks (z0 : Int32) (v : Nat → Int64) (mx : Int64) (mk : Int32) : Option ((Nat → Int64)) := (mX1_setMarks_L3 z0 mx mk FU (0 : Int32) v).bind fun o3 => some o3.2
set_option maxHeartbeats 4000000 in
set_option maxRecDepth 100000 in
theorem k_X1_setMarks (l : Launch) (D : va_G) (g : Nat → ClassId) {L : List Nat} {f : Nat → va_E} {h w : Nat} {z0 : Int32} {v : Nat → Int64} {mx : Int64} {mk : Int32} {z : (Nat → Int64)} (m_h : h ∈ L) (e_h : f h = .inr (1, [.ref w, .int z0])) (m_w : w ∈ L) (e_w : f w = .inl (g 1, 64, .inr (.inl v)))    (hM : mX1_setMarks z0 v mx mk = some z) : cV l yX1_setMarks wsX1_setMarks { frames := 1, cells := 0, slots := 0, locals := 27 } D g [.ref h, .long mx, .int mk] L f 0 0 (fun L1 f1 => L1 = L ∧ (∀ b, b ∈ L → b ≠ w → f1 b = f b) ∧ f1 w = .inl (g 1, 64, .inr (.inl z))) := by
  refine cV_of (cc := cX1_setMarks) (maxL := 5) (ret := none) (by decide) rfl (Nat.le_of_ble_eq_true rfl) ?_
  intro szz p e s m below meth c hx hb hr hml hts hown hlk hnm S ls hl
  have hl : lv_has ls 5 [(0, .ref h), (1, .long mx), (3, .int mk)] := hl
  have in_X1 : ∀ w ∈ wsX10, w ∈ wsX1_setMarks := gu_wsX1_setMarks_2
  have n_h_w : h ≠ w := ne_ir e_w e_h
  have fr : ∀ b, b ∈ L → b ≠ w → f b = f b := fun _ _ _ => rfl
  unfold mX1_setMarks at hM
  refine W_gen (fun QQ hQQ => ?_)
  refine lv_iconst (v := (0 : Int32)) hx hb dX1_setMarks_0 (by decide) ?_
  refine lv_istore (lv' := [(4, .int (0 : Int32)), (0, .ref h), (1, .long mx), (3, .int mk)]) hx hb dX1_setMarks_1 hl (by decide) rfl (fun ls hl => ?_)
  obtain ⟨o3, ho3, hM⟩ := bind_some hM
  have EX3 : ∀ (fl3 : Nat → va_E) (H : Heap) (locs : List Loc) (ls : Array Slot), PS D g (va_A (va_pl L f) szz) s.heap s L fl3 H locs → fl3 h = .inr (1, [.ref w, .int z0]) → fl3 w = .inl (g 1, 64, .inr (.inl o3.2)) → (∀ b, b ∈ L → b ≠ w → fl3 b = f b) → lv_has ls 5 [] → W p l e { frames := 1, cells := 0, slots := 0, locals := 27 } s m [.ref h, .long mx, .int mk].toArray below meth c H locs 0 0 QQ (F0 m 29 ls []) := by
    intro fl3 H locs ls S e_h e_w fr hl
    subst hQQ
    exact q_retv (post := fun L1 f1 => L1 = L ∧ (∀ b, b ∈ L → b ≠ w → f1 b = f b) ∧ f1 w = .inl (g 1, 64, .inr (.inl z))) hx hb hr hlk S dX1_setMarks_29 (by decide) (by decide) (by have hz := Option.some.inj hM; subst hz; exact ⟨rfl, fr, e_w⟩)
  have LP3 : ∀ (fu : Nat) (x4_3 : Int32) (cw_3 : Nat → Int64) (fl3 : Nat → va_E) (H : Heap) (locs : List Loc) (ls : Array Slot), (mX1_setMarks_L3 z0 mx mk) fu x4_3 cw_3 = some o3 → PS D g (va_A (va_pl L f) szz) s.heap s L fl3 H locs → fl3 h = .inr (1, [.ref w, .int z0]) → fl3 w = .inl (g 1, 64, .inr (.inl cw_3)) → (∀ b, b ∈ L → b ≠ w → fl3 b = f b) → lv_has ls 5 [(4, .int x4_3), (0, .ref h), (1, .long mx), (3, .int mk)] → W p l e { frames := 1, cells := 0, slots := 0, locals := 27 } s m [.ref h, .long mx, .int mk].toArray below meth c H locs 0 0 QQ (F0 m 3 ls []) := by
    intro fu
    induction fu with
    | zero => intro x4_3 cw_3 fl3 H locs ls ho3 S e_h e_w fr hl; exact no_some ho3
    | succ fu ih3 =>
      intro x4_3 cw_3 fl3 H locs ls ho3 S e_h e_w fr hl
      rw [mX1_setMarks_L3] at ho3
      refine lv_iload hx hb dX1_setMarks_3 (lv_at hl 0 rfl) ?_
      refine lv_iload_n hx hb dX1_setMarks_5 rfl (lv_at hl 3 rfl) ?_
      refine lv_icmp_ge (tgt := 29) hx hb dX1_setMarks_6 (by decide) (fun b6 => ?_) (fun b6 => ?_)
      · have ho3 := itT b6 ho3
        obtain rfl := Option.some.inj ho3
        exact EX3 fl3 _ _ _ S e_h e_w fr (lv_sub hl [] rfl)
      · have ho3 := itF b6 ho3
        refine lv_aload_n hx hb dX1_setMarks_9 rfl (lv_at hl 1 rfl) ?_
        refine lv_lload_n hx hb dX1_setMarks_10 rfl (lv_at hl 2 rfl) ?_
        refine lv_iload hx hb dX1_setMarks_11 (lv_at hl 0 rfl) ?_
        refine lv_aload_n hx hb dX1_setMarks_13 rfl (lv_at hl 1 rfl) ?_
        refine q_get hx hb hts in_X1 hown S m_h e_h (C := RX1) (T := TX1) (N := 2) rfl 1 (by decide) rfl (hts (.fieldLink RX1 24 "SieveCabinet$BitRow" "size" "I") (gu_wsX1_setMarks_1 _ gm_0)) dX1_setMarks_14 ?_
        obtain ⟨z17, hz17, ho3⟩ := bind_some ho3
        refine q_si (As := [.long mx, .int x4_3, .int z0]) (rest := [.ref h]) ⟨hx, hb, hml, hown, hts⟩ (k_X4_markPlace l D g hz17) (va_cwS 3 hts gX1_setMarks_X4_markPlace rfl rfl rfl (by decide +kernel) ⟨Nat.le_of_ble_eq_true rfl, Nat.le_of_ble_eq_true rfl⟩) S rfl hl.1 rfl (Nat.le_of_ble_eq_true rfl) dX1_setMarks_17 ⟨Nat.le_of_ble_eq_true rfl, Nat.le_of_ble_eq_true rfl⟩ (fun r3 L1 f2 H locs S w17 => ?_)
        obtain ⟨ex17, eL, ef⟩ := w17
        rw [eL, ef] at S
        replace ex17 := ex17.symm
        subst ex17
        obtain ⟨z20, hz20, ho3⟩ := bind_some ho3
        refine q_vv (As := [.int z17]) (rest := []) ⟨hx, hb, hml, hown, hts⟩ (k_X1_set l D g m_h e_h m_w e_w hz20) (cwV 1 hts gX1_setMarks_X1_set rfl rfl rfl (by decide +kernel) ⟨Nat.le_of_ble_eq_true rfl, Nat.le_of_ble_eq_true rfl⟩) S m_h e_h (T := TX1) (N := 2) rfl rfl hl.1 rfl (Nat.le_of_ble_eq_true rfl) dX1_setMarks_20 ⟨Nat.le_of_ble_eq_true rfl, Nat.le_of_ble_eq_true rfl⟩ (fun L4 f5 H locs S w20 => ?_)
        obtain ⟨eL, fv20, E_w⟩ := w20
        rw [eL] at S
        have fr : ∀ b, b ∈ L → b ≠ w → f5 b = f b := fun b mb nb0 => (fv20 b mb nb0).trans (fr b mb nb0)
        have e_w : f5 w = .inl (g 1, 64, .inr (.inl z20)) := E_w
        refine lv_iinc (v := (x4_3 + 1)) (lv' := [(4, .int (x4_3 + 1)), (0, .ref h), (1, .long mx), (3, .int mk)]) hx hb dX1_setMarks_23 hl (k := 0) rfl rfl (by decide) rfl (fun ls hl => ?_)
        refine lv_goto (tgt := 3) hx hb dX1_setMarks_26 (by decide) ?_
        have e_h := ((fv20 h m_h n_h_w).trans e_h)
        exact ih3 (x4_3 + 1) z20 f5 _ _ _ ho3 S e_h e_w fr (lv_sub hl [0, 1, 2, 3] rfl)
  exact LP3 FU (0 : Int32) v f _ _ _ ho3 S e_h e_w fr (lv_sub hl [0, 1, 2, 3] rfl)

def mX1_hasMarks_L3 (z0 : Int32) (v : Nat → Int64) (mx : Int64) (mk : Int32) : Nat → Int32 → Option ((Int32) ⊕ Int32)
  | 0, _ => none
  | fu + 1, x4_3 => if mk ≤ x4_3 then (some (.inr x4_3)) else ((mX4_markPlace mx x4_3 z0).bind fun z17 => (mX1_has z0 v z17).bind fun z20 => if z20 = 0 then (some (.inl (0 : Int32))) else (mX1_hasMarks_L3 z0 v mx mk fu (x4_3 + 1)))
def mX1_hasMarks (z0 : Int32) (v : Nat → Int64) (mx : Int64) (mk : Int32) : Option (Int32) := (mX1_hasMarks_L3 z0 v mx mk FU (0 : Int32)).bind fun o3 => Sum.elim (fun r_ => some r_) (fun s3 => some (1 : Int32)) o3
set_option maxHeartbeats 4000000 in
set_option maxRecDepth 100000 in
theorem k_X1_hasMarks (l : Launch) (D : va_G) (g : Nat → ClassId) {L : List Nat} {f : Nat → va_E} {h w : Nat} {z0 : Int32} {v : Nat → Int64} {mx : Int64} {mk : Int32} {z : Int32} (m_h : h ∈ L) (e_h : f h = .inr (1, [.ref w, .int z0])) (m_w : w ∈ L) (e_w : f w = .inl (g 1, 64, .inr (.inl v)))    (hM : mX1_hasMarks z0 v mx mk = some z) : cI l yX1_hasMarks wsX1_hasMarks { frames := 1, cells := 0, slots := 0, locals := 27 } D g [.ref h, .long mx, .int mk] L f 0 0 (fun x L1 f1 => x = z ∧ L1 = L ∧ f1 = f) := by
  refine cI_of (cc := cX1_hasMarks) (maxL := 5) (ret := (some .boolean)) (by decide) rfl (Nat.le_of_ble_eq_true rfl) ?_
  intro szz p e s m below meth c hx hb hr hml hts hown hlk hnm S ls hl
  have hl : lv_has ls 5 [(0, .ref h), (1, .long mx), (3, .int mk)] := hl
  have in_X1 : ∀ w ∈ wsX10, w ∈ wsX1_hasMarks := gu_wsX1_hasMarks_2
  unfold mX1_hasMarks at hM
  refine W_gen (fun QQ hQQ => ?_)
  refine lv_iconst (v := (0 : Int32)) hx hb dX1_hasMarks_0 (by decide) ?_
  refine lv_istore (lv' := [(4, .int (0 : Int32)), (0, .ref h), (1, .long mx), (3, .int mk)]) hx hb dX1_hasMarks_1 hl (by decide) rfl (fun ls hl => ?_)
  obtain ⟨o3, ho3, hM⟩ := bind_some hM
  have EX3 : ∀ (s3 : Int32), o3 = .inr s3 → ∀ (H : Heap) (locs : List Loc) (ls : Array Slot), PS D g (va_A (va_pl L f) szz) s.heap s L f H locs → lv_has ls 5 [] → W p l e { frames := 1, cells := 0, slots := 0, locals := 27 } s m [.ref h, .long mx, .int mk].toArray below meth c H locs 0 0 QQ (F0 m 34 ls []) := by
    intro s3 eo3
    rw [eo3] at hM
    simp only [Sum.elim_inr] at hM
    intro H locs ls S hl
    refine lv_iconst (v := (1 : Int32)) hx hb dX1_hasMarks_34 (by decide) ?_
    subst hQQ
    exact q_retz (post := fun x L1 f1 => x = z ∧ L1 = L ∧ f1 = f) hx hb hr hlk S dX1_hasMarks_35 (by decide) (by decide) (by decide) (by have hz := Option.some.inj hM; subst hz; exact ⟨rfl, rfl, rfl⟩)
  have LP3 : ∀ (fu : Nat) (x4_3 : Int32) (H : Heap) (locs : List Loc) (ls : Array Slot), (mX1_hasMarks_L3 z0 v mx mk) fu x4_3 = some o3 → PS D g (va_A (va_pl L f) szz) s.heap s L f H locs → lv_has ls 5 [(4, .int x4_3), (0, .ref h), (1, .long mx), (3, .int mk)] → W p l e { frames := 1, cells := 0, slots := 0, locals := 27 } s m [.ref h, .long mx, .int mk].toArray below meth c H locs 0 0 QQ (F0 m 3 ls []) := by
    intro fu
    induction fu with
    | zero => intro x4_3 H locs ls ho3 S hl; exact no_some ho3
    | succ fu ih3 =>
      intro x4_3 H locs ls ho3 S hl
      rw [mX1_hasMarks_L3] at ho3
      refine lv_iload hx hb dX1_hasMarks_3 (lv_at hl 0 rfl) ?_
      refine lv_iload_n hx hb dX1_hasMarks_5 rfl (lv_at hl 3 rfl) ?_
      refine lv_icmp_ge (tgt := 34) hx hb dX1_hasMarks_6 (by decide) (fun b6 => ?_) (fun b6 => ?_)
      · have ho3 := itT b6 ho3
        obtain rfl := Option.some.inj ho3
        exact EX3 _ rfl _ _ _ S (lv_sub hl [] rfl)
      · have ho3 := itF b6 ho3
        refine lv_aload_n hx hb dX1_hasMarks_9 rfl (lv_at hl 1 rfl) ?_
        refine lv_lload_n hx hb dX1_hasMarks_10 rfl (lv_at hl 2 rfl) ?_
        refine lv_iload hx hb dX1_hasMarks_11 (lv_at hl 0 rfl) ?_
        refine lv_aload_n hx hb dX1_hasMarks_13 rfl (lv_at hl 1 rfl) ?_
        refine q_get hx hb hts in_X1 hown S m_h e_h (C := RX1) (T := TX1) (N := 2) rfl 1 (by decide) rfl (hts (.fieldLink RX1 24 "SieveCabinet$BitRow" "size" "I") (gu_wsX1_hasMarks_1 _ gm_0)) dX1_hasMarks_14 ?_
        obtain ⟨z17, hz17, ho3⟩ := bind_some ho3
        refine q_si (As := [.long mx, .int x4_3, .int z0]) (rest := [.ref h]) ⟨hx, hb, hml, hown, hts⟩ (k_X4_markPlace l D g hz17) (va_cwS 3 hts gX1_hasMarks_X4_markPlace rfl rfl rfl (by decide +kernel) ⟨Nat.le_of_ble_eq_true rfl, Nat.le_of_ble_eq_true rfl⟩) S rfl hl.1 rfl (Nat.le_of_ble_eq_true rfl) dX1_hasMarks_17 ⟨Nat.le_of_ble_eq_true rfl, Nat.le_of_ble_eq_true rfl⟩ (fun r3 L1 f2 H locs S w17 => ?_)
        obtain ⟨ex17, eL, ef⟩ := w17
        rw [eL, ef] at S
        replace ex17 := ex17.symm
        subst ex17
        obtain ⟨z20, hz20, ho3⟩ := bind_some ho3
        refine q_vi (As := [.int z17]) (rest := []) ⟨hx, hb, hml, hown, hts⟩ (k_X1_has l D g m_h e_h m_w e_w hz20) (cwV 1 hts gX1_hasMarks_X1_has rfl rfl rfl (by decide +kernel) ⟨Nat.le_of_ble_eq_true rfl, Nat.le_of_ble_eq_true rfl⟩) S m_h e_h (T := TX1) (N := 2) rfl rfl hl.1 rfl (Nat.le_of_ble_eq_true rfl) dX1_hasMarks_20 ⟨Nat.le_of_ble_eq_true rfl, Nat.le_of_ble_eq_true rfl⟩ (fun r6 L4 f5 H locs S w20 => ?_)
        obtain ⟨ex20, eL, ef⟩ := w20
        rw [eL, ef] at S
        replace ex20 := ex20.symm
        subst ex20
        refine lv_if_ne (tgt := 28) hx hb dX1_hasMarks_23 (by decide) (fun b23 => ?_) (fun b23 => ?_)
        · have ho3 := itF b23 ho3
          refine lv_iinc (v := (x4_3 + 1)) (lv' := [(4, .int (x4_3 + 1)), (0, .ref h), (1, .long mx), (3, .int mk)]) hx hb dX1_hasMarks_28 hl (k := 0) rfl rfl (by decide) rfl (fun ls hl => ?_)
          refine lv_goto (tgt := 3) hx hb dX1_hasMarks_31 (by decide) ?_
          exact ih3 (x4_3 + 1) _ _ _ ho3 S (lv_sub hl [0, 1, 2, 3] rfl)
        · have ho3 := itT b23 ho3
          refine lv_iconst (v := (0 : Int32)) hx hb dX1_hasMarks_26 (by decide) ?_
          obtain rfl := Option.some.inj ho3
          simp only [Sum.elim_inl] at hM
          subst hQQ
          exact q_retz (post := fun x L1 f1 => x = z ∧ L1 = L ∧ f1 = f) hx hb hr hlk S dX1_hasMarks_27 (by decide) (by decide) (by decide) (by have hz := Option.some.inj hM; subst hz; exact ⟨rfl, rfl, rfl⟩)
  exact LP3 FU (0 : Int32) _ _ _ ho3 S (lv_sub hl [0, 1, 2, 3] rfl)
