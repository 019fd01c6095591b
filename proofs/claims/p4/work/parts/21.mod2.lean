set_option maxHeartbeats 4000000 in
set_option maxRecDepth 100000 in
/-- reference: isWide -/
theorem c_X9_isWide (l : Launch) (D : va_G) (g : Nat → ClassId) {L : List Nat} {f : Nat → va_E} {z lo hi : Int32}   : cI l yX9_isWide wsX9_isWide { frames := 0, cells := 0, slots := 0, locals := 0 } D g [.int z, .int lo, .int hi] L f 0 0 (fun x L1 f1 => ((x = 1 ∧ mkP lo hi z) ∨ (x = 0 ∧ ¬ mkP lo hi z)) ∧ L1 = L ∧ f1 = f) := by
  refine cI_of (cc := cX9_isWide) (maxL := 3) (ret := (some .boolean)) (by decide) rfl (Nat.le_of_ble_eq_true rfl) ?_
  intro sz p e s m below meth c hx hb hr hml hts hown hlk hnm S ls hl
  have hl : lv_has ls 3 [(0, .int z), (1, .int lo), (2, .int hi)] := hl
  refine lv_iload_n hx hb dX9_isWide_0 rfl (lv_at hl 0 rfl) ?_
  refine lv_iload_n hx hb dX9_isWide_1 rfl (lv_at hl 1 rfl) ?_
  refine lv_icmp_lt (tgt := 22) hx hb dX9_isWide_2 (by decide) (fun b2 => ?_) (fun b2 => ?_)
  · skip
    refine lv_iconst (v := 0) hx hb dX9_isWide_22 (by decide) ?_
    exact q_retz (post := fun x L1 f1 => ((x = 1 ∧ mkP lo hi z) ∨ (x = 0 ∧ ¬ mkP lo hi z)) ∧ L1 = L ∧ f1 = f) hx hb hr hlk S dX9_isWide_23 (by decide) (by decide) (by decide) (⟨Or.inr ⟨rfl, fun h => h.1 b2⟩, rfl, rfl⟩)
  · skip
    refine lv_iload_n hx hb dX9_isWide_5 rfl (lv_at hl 0 rfl) ?_
    refine lv_iload_n hx hb dX9_isWide_6 rfl (lv_at hl 2 rfl) ?_
    refine lv_icmp_gt (tgt := 22) hx hb dX9_isWide_7 (by decide) (fun b7 => ?_) (fun b7 => ?_)
    · skip
      refine lv_iconst (v := 0) hx hb dX9_isWide_22 (by decide) ?_
      exact q_retz (post := fun x L1 f1 => ((x = 1 ∧ mkP lo hi z) ∨ (x = 0 ∧ ¬ mkP lo hi z)) ∧ L1 = L ∧ f1 = f) hx hb hr hlk S dX9_isWide_23 (by decide) (by decide) (by decide) (⟨Or.inr ⟨rfl, fun h => h.2.1 b7⟩, rfl, rfl⟩)
    · skip
      refine lv_iload_n hx hb dX9_isWide_10 rfl (lv_at hl 0 rfl) ?_
      refine lv_iload_n hx hb dX9_isWide_11 rfl (lv_at hl 0 rfl) ?_
      refine lv_iconst (v := 1) hx hb dX9_isWide_12 (by decide) ?_
      refine lv_isub hx hb dX9_isWide_13 ?_
      refine lv_iand hx hb dX9_isWide_14 ?_
      refine lv_if_ne (tgt := 22) hx hb dX9_isWide_15 (by decide) (fun b15 => ?_) (fun b15 => ?_)
      · skip
        refine lv_iconst (v := 0) hx hb dX9_isWide_22 (by decide) ?_
        exact q_retz (post := fun x L1 f1 => ((x = 1 ∧ mkP lo hi z) ∨ (x = 0 ∧ ¬ mkP lo hi z)) ∧ L1 = L ∧ f1 = f) hx hb hr hlk S dX9_isWide_23 (by decide) (by decide) (by decide) (⟨Or.inr ⟨rfl, fun h => b15 h.2.2⟩, rfl, rfl⟩)
      · skip
        refine lv_iconst (v := 1) hx hb dX9_isWide_18 (by decide) ?_
        refine lv_goto (tgt := 23) hx hb dX9_isWide_19 (by decide) ?_
        exact q_retz (post := fun x L1 f1 => ((x = 1 ∧ mkP lo hi z) ∨ (x = 0 ∧ ¬ mkP lo hi z)) ∧ L1 = L ∧ f1 = f) hx hb hr hlk S dX9_isWide_23 (by decide) (by decide) (by decide) (⟨Or.inl ⟨rfl, b2, b7, b15⟩, rfl, rfl⟩)

set_option maxHeartbeats 4000000 in
set_option maxRecDepth 100000 in
/-- isPowerOfTwo -/
theorem c_X8_isPowerOfTwo (l : Launch) (D : va_G) (g : Nat → ClassId) {L : List Nat} {f : Nat → va_E} {z lo hi : Int32}   : cI l yX8_isPowerOfTwo wsX8_isPowerOfTwo { frames := 0, cells := 0, slots := 0, locals := 0 } D g [.int z, .int lo, .int hi] L f 0 0 (fun x L1 f1 => ((x = 1 ∧ mkP lo hi z) ∨ (x = 0 ∧ ¬ mkP lo hi z)) ∧ L1 = L ∧ f1 = f) := by
  refine cI_of (cc := cX8_isPowerOfTwo) (maxL := 3) (ret := (some .boolean)) (by decide) rfl (Nat.le_of_ble_eq_true rfl) ?_
  intro sz p e s m below meth c hx hb hr hml hts hown hlk hnm S ls hl
  have hl : lv_has ls 3 [(0, .int z), (1, .int lo), (2, .int hi)] := hl
  refine lv_iload_n hx hb dX8_isPowerOfTwo_0 rfl (lv_at hl 0 rfl) ?_
  refine lv_iload_n hx hb dX8_isPowerOfTwo_1 rfl (lv_at hl 1 rfl) ?_
  refine lv_icmp_lt (tgt := 22) hx hb dX8_isPowerOfTwo_2 (by decide) (fun b2 => ?_) (fun b2 => ?_)
  · skip
    refine lv_iconst (v := 0) hx hb dX8_isPowerOfTwo_22 (by decide) ?_
    exact q_retz (post := fun x L1 f1 => ((x = 1 ∧ mkP lo hi z) ∨ (x = 0 ∧ ¬ mkP lo hi z)) ∧ L1 = L ∧ f1 = f) hx hb hr hlk S dX8_isPowerOfTwo_23 (by decide) (by decide) (by decide) (⟨Or.inr ⟨rfl, fun h => h.1 b2⟩, rfl, rfl⟩)
  · skip
    refine lv_iload_n hx hb dX8_isPowerOfTwo_5 rfl (lv_at hl 0 rfl) ?_
    refine lv_iload_n hx hb dX8_isPowerOfTwo_6 rfl (lv_at hl 2 rfl) ?_
    refine lv_icmp_gt (tgt := 22) hx hb dX8_isPowerOfTwo_7 (by decide) (fun b7 => ?_) (fun b7 => ?_)
    · skip
      refine lv_iconst (v := 0) hx hb dX8_isPowerOfTwo_22 (by decide) ?_
      exact q_retz (post := fun x L1 f1 => ((x = 1 ∧ mkP lo hi z) ∨ (x = 0 ∧ ¬ mkP lo hi z)) ∧ L1 = L ∧ f1 = f) hx hb hr hlk S dX8_isPowerOfTwo_23 (by decide) (by decide) (by decide) (⟨Or.inr ⟨rfl, fun h => h.2.1 b7⟩, rfl, rfl⟩)
    · skip
      refine lv_iload_n hx hb dX8_isPowerOfTwo_10 rfl (lv_at hl 0 rfl) ?_
      refine lv_iload_n hx hb dX8_isPowerOfTwo_11 rfl (lv_at hl 0 rfl) ?_
      refine lv_iconst (v := 1) hx hb dX8_isPowerOfTwo_12 (by decide) ?_
      refine lv_isub hx hb dX8_isPowerOfTwo_13 ?_
      refine lv_iand hx hb dX8_isPowerOfTwo_14 ?_
      refine lv_if_ne (tgt := 22) hx hb dX8_isPowerOfTwo_15 (by decide) (fun b15 => ?_) (fun b15 => ?_)
      · skip
        refine lv_iconst (v := 0) hx hb dX8_isPowerOfTwo_22 (by decide) ?_
        exact q_retz (post := fun x L1 f1 => ((x = 1 ∧ mkP lo hi z) ∨ (x = 0 ∧ ¬ mkP lo hi z)) ∧ L1 = L ∧ f1 = f) hx hb hr hlk S dX8_isPowerOfTwo_23 (by decide) (by decide) (by decide) (⟨Or.inr ⟨rfl, fun h => b15 h.2.2⟩, rfl, rfl⟩)
      · skip
        refine lv_iconst (v := 1) hx hb dX8_isPowerOfTwo_18 (by decide) ?_
        refine lv_goto (tgt := 23) hx hb dX8_isPowerOfTwo_19 (by decide) ?_
        exact q_retz (post := fun x L1 f1 => ((x = 1 ∧ mkP lo hi z) ∨ (x = 0 ∧ ¬ mkP lo hi z)) ∧ L1 = L ∧ f1 = f) hx hb hr hlk S dX8_isPowerOfTwo_23 (by decide) (by decide) (by decide) (⟨Or.inl ⟨rfl, b2, b7, b15⟩, rfl, rfl⟩)

set_option maxHeartbeats 4000000 in
set_option maxRecDepth 100000 in
/-- reference: begin, the first -/
theorem c_X9_begin0 (l : Launch) (D : va_G) (g : Nat → ClassId) {L : List Nat} {f : Nat → va_E} {y y0 y1 y2 y3 y4 y5 y6 y7 y8 y9 y10 y11 y12 y13 y15 y16 y17 y18 y19 y20 y21 y22 : Nat}   {v_kind : Nat → Int32} {v_size : Nat → Int32} {v_marks : Nat → Int32} {v_seed : Nat → Int32}  {v_contentMany : Nat → Int32} {v_row : Nat → Int32}     {v_restMany : Nat → Int32}         {k0 k1 k2 k3 : Int32} (m_y : y ∈ L) (e_y : f y = .inr (7, [.ref y0, .ref y1, .ref y2, .ref y3, .ref y4, .ref y5, .ref y6, .ref y7, .ref y8, .ref y9, .ref y10, .ref y11, .ref y12, .ref y13, .int 0, .ref y15, .ref y16, .ref y17, .ref y18, .ref y19, .ref y20, .ref y21, .ref y22])) (m_y2 : y2 ∈ L) (e_y2 : f y2 = .inl (g 0, 30, .inl v_kind)) (m_y3 : y3 ∈ L) (e_y3 : f y3 = .inl (g 0, 30, .inl v_size)) (m_y4 : y4 ∈ L) (e_y4 : f y4 = .inl (g 0, 30, .inl v_marks)) (m_y5 : y5 ∈ L) (e_y5 : f y5 = .inl (g 0, 30, .inl v_seed)) (m_y7 : y7 ∈ L) (e_y7 : f y7 = .inl (g 0, 30, .inl v_contentMany)) (m_y13 : y13 ∈ L) (e_y13 : f y13 = .inl (g 0, 30, .inl v_restMany)) (m_y8 : y8 ∈ L) (e_y8 : f y8 = .inl (g 0, 122880, .inl v_row)) (hnd : [y, y0, y1, y2, y3, y4, y5, y6, y7, y8, y9, y10, y11, y12, y13, y15, y16, y17, y18, y19, y20, y21, y22].Nodup) : cI l yX9_begin wsX9_begin { frames := 0, cells := 0, slots := 0, locals := 0 } D g [.ref y, .int k0, .int k1, .int k2, .int k3] L f 0 0 (fun x L1 f1 => x = 0 ∧ L1 = L ∧ (∀ b, b ∈ L → b ≠ y → b ≠ y2 → b ≠ y3 → b ≠ y4 → b ≠ y5 → b ≠ y7 → b ≠ y13 → b ≠ y8 → f1 b = f b) ∧ f1 y = .inr (7, [.ref y0, .ref y1, .ref y2, .ref y3, .ref y4, .ref y5, .ref y6, .ref y7, .ref y8, .ref y9, .ref y10, .ref y11, .ref y12, .ref y13, .int ((0 + 1)), .ref y15, .ref y16, .ref y17, .ref y18, .ref y19, .ref y20, .ref y21, .ref y22]) ∧ ∃ w_kind : Nat → Int32, ∃ w_size : Nat → Int32, ∃ w_marks : Nat → Int32, ∃ w_seed : Nat → Int32, ∃ w_contentMany : Nat → Int32, ∃ w_restMany : Nat → Int32, ∃ w_row : Nat → Int32, f1 y2 = .inl (g 0, 30, .inl w_kind) ∧ f1 y3 = .inl (g 0, 30, .inl w_size) ∧ f1 y4 = .inl (g 0, 30, .inl w_marks) ∧ f1 y5 = .inl (g 0, 30, .inl w_seed) ∧ f1 y7 = .inl (g 0, 30, .inl w_contentMany) ∧ f1 y13 = .inl (g 0, 30, .inl w_restMany) ∧ f1 y8 = .inl (g 0, 122880, .inl w_row)) := by
  refine cI_of (cc := cX9_begin) (maxL := 7) (ret := (some .int)) (by decide) rfl (Nat.le_of_ble_eq_true rfl) ?_
  intro sz p e s m below meth c hx hb hr hml hts hown hlk hnm S ls hl
  have hl : lv_has ls 7 [(0, .ref y), (1, .int k0), (2, .int k1), (3, .int k2), (4, .int k3)] := hl
  have in_X9 : ∀ w ∈ wsX90, w ∈ wsX9_begin := by decide +kernel
  have fr : ∀ b, b ∈ L → b ≠ y → b ≠ y2 → b ≠ y3 → b ≠ y4 → b ≠ y5 → b ≠ y7 → b ≠ y13 → b ≠ y8 → f b = f b := fun _ _ _ _ _ _ _ _ _ _ => rfl
  have mono : ∀ b, b ∈ L → b ∈ L := fun _ h => h
  refine lv_aload_n hx hb dX9_begin_0 rfl (lv_at hl 0 rfl) ?_
  refine q_get hx hb hts in_X9 hown S m_y e_y (C := RX9) (T := TX9) (N := 23) rfl 14 (by decide) rfl (hts (.fieldLink RX9 88 "SieveCabinetModel" "many" "I") (by decide +kernel)) dX9_begin_1 ?_
  refine lv_istore (lv' := [(5, .int 0), (0, .ref y), (1, .int k0), (2, .int k1), (3, .int k2), (4, .int k3)]) hx hb dX9_begin_4 hl (by decide) rfl (fun ls hl => ?_)
  refine lv_aload_n hx hb dX9_begin_6 rfl (lv_at hl 1 rfl) ?_
  refine q_get hx hb hts in_X9 hown S m_y e_y (C := RX9) (T := TX9) (N := 23) rfl 2 (by decide) rfl (hts (.fieldLink RX9 17 "SieveCabinetModel" "kind" "[I") (by decide +kernel)) dX9_begin_7 ?_
  refine lv_iload hx hb dX9_begin_10 (lv_at hl 0 rfl) ?_
  refine lv_iload_n hx hb dX9_begin_12 rfl (lv_at hl 2 rfl) ?_
  refine q_iast hx hb S m_y2 e_y2 (pu_in0 (by decide) (by decide)) dX9_begin_13 (fun H locs S => ?_)
  obtain ⟨f1, ef1⟩ : ∃ z_, z_ = va_up f y2 (.inl (g 0, 30, .inl (upd v_kind (0 : Int32).toNatClampNeg k0))) := ⟨_, rfl⟩
  have S : PS D g (va_A (va_pl L f) sz) s.heap s L f1 H locs := by rw [ef1]; exact S
  have e_y : f1 y = .inr (7, [.ref y0, .ref y1, .ref y2, .ref y3, .ref y4, .ref y5, .ref y6, .ref y7, .ref y8, .ref y9, .ref y10, .ref y11, .ref y12, .ref y13, .int 0, .ref y15, .ref y16, .ref y17, .ref y18, .ref y19, .ref y20, .ref y21, .ref y22]) := up_ne ef1 (nd_ne hnd (i := 3) (j := 0) rfl rfl (by decide)) e_y
  have e_y3 : f1 y3 = .inl (g 0, 30, .inl v_size) := up_ne ef1 (nd_ne hnd (i := 3) (j := 4) rfl rfl (by decide)) e_y3
  have e_y4 : f1 y4 = .inl (g 0, 30, .inl v_marks) := up_ne ef1 (nd_ne hnd (i := 3) (j := 5) rfl rfl (by decide)) e_y4
  have e_y5 : f1 y5 = .inl (g 0, 30, .inl v_seed) := up_ne ef1 (nd_ne hnd (i := 3) (j := 6) rfl rfl (by decide)) e_y5
  have e_y7 : f1 y7 = .inl (g 0, 30, .inl v_contentMany) := up_ne ef1 (nd_ne hnd (i := 3) (j := 8) rfl rfl (by decide)) e_y7
  have e_y13 : f1 y13 = .inl (g 0, 30, .inl v_restMany) := up_ne ef1 (nd_ne hnd (i := 3) (j := 14) rfl rfl (by decide)) e_y13
  have e_y8 : f1 y8 = .inl (g 0, 122880, .inl v_row) := up_ne ef1 (nd_ne hnd (i := 3) (j := 9) rfl rfl (by decide)) e_y8
  have e_y2 : f1 y2 = .inl (g 0, 30, .inl (upd v_kind (0 : Int32).toNatClampNeg k0)) := up_self ef1
  have fr : ∀ b, b ∈ L → b ≠ y → b ≠ y2 → b ≠ y3 → b ≠ y4 → b ≠ y5 → b ≠ y7 → b ≠ y13 → b ≠ y8 → f1 b = f b := fun b mb nb0 nb1 nb2 nb3 nb4 nb5 nb6 nb7 => (up_ne ef1 nb1 rfl).trans (fr b mb nb0 nb1 nb2 nb3 nb4 nb5 nb6 nb7)
  refine lv_aload_n hx hb dX9_begin_14 rfl (lv_at hl 1 rfl) ?_
  refine q_get hx hb hts in_X9 hown S m_y e_y (C := RX9) (T := TX9) (N := 23) rfl 3 (by decide) rfl (hts (.fieldLink RX9 20 "SieveCabinetModel" "size" "[I") (by decide +kernel)) dX9_begin_15 ?_
  refine lv_iload hx hb dX9_begin_18 (lv_at hl 0 rfl) ?_
  refine lv_iload_n hx hb dX9_begin_20 rfl (lv_at hl 3 rfl) ?_
  refine q_iast hx hb S m_y3 e_y3 (pu_in0 (by decide) (by decide)) dX9_begin_21 (fun H locs S => ?_)
  obtain ⟨f2, ef2⟩ : ∃ z_, z_ = va_up f1 y3 (.inl (g 0, 30, .inl (upd v_size (0 : Int32).toNatClampNeg k1))) := ⟨_, rfl⟩
  have S : PS D g (va_A (va_pl L f) sz) s.heap s L f2 H locs := by rw [ef2]; exact S
  have e_y : f2 y = .inr (7, [.ref y0, .ref y1, .ref y2, .ref y3, .ref y4, .ref y5, .ref y6, .ref y7, .ref y8, .ref y9, .ref y10, .ref y11, .ref y12, .ref y13, .int 0, .ref y15, .ref y16, .ref y17, .ref y18, .ref y19, .ref y20, .ref y21, .ref y22]) := up_ne ef2 (nd_ne hnd (i := 4) (j := 0) rfl rfl (by decide)) e_y
  have e_y2 : f2 y2 = .inl (g 0, 30, .inl (upd v_kind (0 : Int32).toNatClampNeg k0)) := up_ne ef2 (nd_ne hnd (i := 4) (j := 3) rfl rfl (by decide)) e_y2
  have e_y4 : f2 y4 = .inl (g 0, 30, .inl v_marks) := up_ne ef2 (nd_ne hnd (i := 4) (j := 5) rfl rfl (by decide)) e_y4
  have e_y5 : f2 y5 = .inl (g 0, 30, .inl v_seed) := up_ne ef2 (nd_ne hnd (i := 4) (j := 6) rfl rfl (by decide)) e_y5
  have e_y7 : f2 y7 = .inl (g 0, 30, .inl v_contentMany) := up_ne ef2 (nd_ne hnd (i := 4) (j := 8) rfl rfl (by decide)) e_y7
  have e_y13 : f2 y13 = .inl (g 0, 30, .inl v_restMany) := up_ne ef2 (nd_ne hnd (i := 4) (j := 14) rfl rfl (by decide)) e_y13
  have e_y8 : f2 y8 = .inl (g 0, 122880, .inl v_row) := up_ne ef2 (nd_ne hnd (i := 4) (j := 9) rfl rfl (by decide)) e_y8
  have e_y3 : f2 y3 = .inl (g 0, 30, .inl (upd v_size (0 : Int32).toNatClampNeg k1)) := up_self ef2
  have fr : ∀ b, b ∈ L → b ≠ y → b ≠ y2 → b ≠ y3 → b ≠ y4 → b ≠ y5 → b ≠ y7 → b ≠ y13 → b ≠ y8 → f2 b = f b := fun b mb nb0 nb1 nb2 nb3 nb4 nb5 nb6 nb7 => (up_ne ef2 nb2 rfl).trans (fr b mb nb0 nb1 nb2 nb3 nb4 nb5 nb6 nb7)
  refine lv_aload_n hx hb dX9_begin_22 rfl (lv_at hl 1 rfl) ?_
  refine q_get hx hb hts in_X9 hown S m_y e_y (C := RX9) (T := TX9) (N := 23) rfl 4 (by decide) rfl (hts (.fieldLink RX9 23 "SieveCabinetModel" "marks" "[I") (by decide +kernel)) dX9_begin_23 ?_
  refine lv_iload hx hb dX9_begin_26 (lv_at hl 0 rfl) ?_
  refine lv_iload_n hx hb dX9_begin_28 rfl (lv_at hl 4 rfl) ?_
  refine q_iast hx hb S m_y4 e_y4 (pu_in0 (by decide) (by decide)) dX9_begin_29 (fun H locs S => ?_)
  obtain ⟨f3, ef3⟩ : ∃ z_, z_ = va_up f2 y4 (.inl (g 0, 30, .inl (upd v_marks (0 : Int32).toNatClampNeg k2))) := ⟨_, rfl⟩
  have S : PS D g (va_A (va_pl L f) sz) s.heap s L f3 H locs := by rw [ef3]; exact S
  have e_y : f3 y = .inr (7, [.ref y0, .ref y1, .ref y2, .ref y3, .ref y4, .ref y5, .ref y6, .ref y7, .ref y8, .ref y9, .ref y10, .ref y11, .ref y12, .ref y13, .int 0, .ref y15, .ref y16, .ref y17, .ref y18, .ref y19, .ref y20, .ref y21, .ref y22]) := up_ne ef3 (nd_ne hnd (i := 5) (j := 0) rfl rfl (by decide)) e_y
  have e_y2 : f3 y2 = .inl (g 0, 30, .inl (upd v_kind (0 : Int32).toNatClampNeg k0)) := up_ne ef3 (nd_ne hnd (i := 5) (j := 3) rfl rfl (by decide)) e_y2
  have e_y3 : f3 y3 = .inl (g 0, 30, .inl (upd v_size (0 : Int32).toNatClampNeg k1)) := up_ne ef3 (nd_ne hnd (i := 5) (j := 4) rfl rfl (by decide)) e_y3
  have e_y5 : f3 y5 = .inl (g 0, 30, .inl v_seed) := up_ne ef3 (nd_ne hnd (i := 5) (j := 6) rfl rfl (by decide)) e_y5
  have e_y7 : f3 y7 = .inl (g 0, 30, .inl v_contentMany) := up_ne ef3 (nd_ne hnd (i := 5) (j := 8) rfl rfl (by decide)) e_y7
  have e_y13 : f3 y13 = .inl (g 0, 30, .inl v_restMany) := up_ne ef3 (nd_ne hnd (i := 5) (j := 14) rfl rfl (by decide)) e_y13
  have e_y8 : f3 y8 = .inl (g 0, 122880, .inl v_row) := up_ne ef3 (nd_ne hnd (i := 5) (j := 9) rfl rfl (by decide)) e_y8
  have e_y4 : f3 y4 = .inl (g 0, 30, .inl (upd v_marks (0 : Int32).toNatClampNeg k2)) := up_self ef3
  have fr : ∀ b, b ∈ L → b ≠ y → b ≠ y2 → b ≠ y3 → b ≠ y4 → b ≠ y5 → b ≠ y7 → b ≠ y13 → b ≠ y8 → f3 b = f b := fun b mb nb0 nb1 nb2 nb3 nb4 nb5 nb6 nb7 => (up_ne ef3 nb3 rfl).trans (fr b mb nb0 nb1 nb2 nb3 nb4 nb5 nb6 nb7)
  refine lv_aload_n hx hb dX9_begin_30 rfl (lv_at hl 1 rfl) ?_
  refine q_get hx hb hts in_X9 hown S m_y e_y (C := RX9) (T := TX9) (N := 23) rfl 5 (by decide) rfl (hts (.fieldLink RX9 26 "SieveCabinetModel" "seed" "[I") (by decide +kernel)) dX9_begin_31 ?_
  refine lv_iload hx hb dX9_begin_34 (lv_at hl 0 rfl) ?_
  refine lv_iload hx hb dX9_begin_36 (lv_at hl 5 rfl) ?_
  refine q_iast hx hb S m_y5 e_y5 (pu_in0 (by decide) (by decide)) dX9_begin_38 (fun H locs S => ?_)
  obtain ⟨f4, ef4⟩ : ∃ z_, z_ = va_up f3 y5 (.inl (g 0, 30, .inl (upd v_seed (0 : Int32).toNatClampNeg k3))) := ⟨_, rfl⟩
  have S : PS D g (va_A (va_pl L f) sz) s.heap s L f4 H locs := by rw [ef4]; exact S
  have e_y : f4 y = .inr (7, [.ref y0, .ref y1, .ref y2, .ref y3, .ref y4, .ref y5, .ref y6, .ref y7, .ref y8, .ref y9, .ref y10, .ref y11, .ref y12, .ref y13, .int 0, .ref y15, .ref y16, .ref y17, .ref y18, .ref y19, .ref y20, .ref y21, .ref y22]) := up_ne ef4 (nd_ne hnd (i := 6) (j := 0) rfl rfl (by decide)) e_y
  have e_y2 : f4 y2 = .inl (g 0, 30, .inl (upd v_kind (0 : Int32).toNatClampNeg k0)) := up_ne ef4 (nd_ne hnd (i := 6) (j := 3) rfl rfl (by decide)) e_y2
  have e_y3 : f4 y3 = .inl (g 0, 30, .inl (upd v_size (0 : Int32).toNatClampNeg k1)) := up_ne ef4 (nd_ne hnd (i := 6) (j := 4) rfl rfl (by decide)) e_y3
  have e_y4 : f4 y4 = .inl (g 0, 30, .inl (upd v_marks (0 : Int32).toNatClampNeg k2)) := up_ne ef4 (nd_ne hnd (i := 6) (j := 5) rfl rfl (by decide)) e_y4
  have e_y7 : f4 y7 = .inl (g 0, 30, .inl v_contentMany) := up_ne ef4 (nd_ne hnd (i := 6) (j := 8) rfl rfl (by decide)) e_y7
  have e_y13 : f4 y13 = .inl (g 0, 30, .inl v_restMany) := up_ne ef4 (nd_ne hnd (i := 6) (j := 14) rfl rfl (by decide)) e_y13
  have e_y8 : f4 y8 = .inl (g 0, 122880, .inl v_row) := up_ne ef4 (nd_ne hnd (i := 6) (j := 9) rfl rfl (by decide)) e_y8
  have e_y5 : f4 y5 = .inl (g 0, 30, .inl (upd v_seed (0 : Int32).toNatClampNeg k3)) := up_self ef4
  have fr : ∀ b, b ∈ L → b ≠ y → b ≠ y2 → b ≠ y3 → b ≠ y4 → b ≠ y5 → b ≠ y7 → b ≠ y13 → b ≠ y8 → f4 b = f b := fun b mb nb0 nb1 nb2 nb3 nb4 nb5 nb6 nb7 => (up_ne ef4 nb4 rfl).trans (fr b mb nb0 nb1 nb2 nb3 nb4 nb5 nb6 nb7)
  refine lv_aload_n hx hb dX9_begin_39 rfl (lv_at hl 1 rfl) ?_
  refine q_get hx hb hts in_X9 hown S m_y e_y (C := RX9) (T := TX9) (N := 23) rfl 7 (by decide) rfl (hts (.fieldLink RX9 32 "SieveCabinetModel" "contentMany" "[I") (by decide +kernel)) dX9_begin_40 ?_
  refine lv_iload hx hb dX9_begin_43 (lv_at hl 0 rfl) ?_
  refine lv_iconst (v := 0) hx hb dX9_begin_45 (by decide) ?_
  refine q_iast hx hb S m_y7 e_y7 (pu_in0 (by decide) (by decide)) dX9_begin_46 (fun H locs S => ?_)
  obtain ⟨f5, ef5⟩ : ∃ z_, z_ = va_up f4 y7 (.inl (g 0, 30, .inl (upd v_contentMany (0 : Int32).toNatClampNeg 0))) := ⟨_, rfl⟩
  have S : PS D g (va_A (va_pl L f) sz) s.heap s L f5 H locs := by rw [ef5]; exact S
  have e_y : f5 y = .inr (7, [.ref y0, .ref y1, .ref y2, .ref y3, .ref y4, .ref y5, .ref y6, .ref y7, .ref y8, .ref y9, .ref y10, .ref y11, .ref y12, .ref y13, .int 0, .ref y15, .ref y16, .ref y17, .ref y18, .ref y19, .ref y20, .ref y21, .ref y22]) := up_ne ef5 (nd_ne hnd (i := 8) (j := 0) rfl rfl (by decide)) e_y
  have e_y2 : f5 y2 = .inl (g 0, 30, .inl (upd v_kind (0 : Int32).toNatClampNeg k0)) := up_ne ef5 (nd_ne hnd (i := 8) (j := 3) rfl rfl (by decide)) e_y2
  have e_y3 : f5 y3 = .inl (g 0, 30, .inl (upd v_size (0 : Int32).toNatClampNeg k1)) := up_ne ef5 (nd_ne hnd (i := 8) (j := 4) rfl rfl (by decide)) e_y3
  have e_y4 : f5 y4 = .inl (g 0, 30, .inl (upd v_marks (0 : Int32).toNatClampNeg k2)) := up_ne ef5 (nd_ne hnd (i := 8) (j := 5) rfl rfl (by decide)) e_y4
  have e_y5 : f5 y5 = .inl (g 0, 30, .inl (upd v_seed (0 : Int32).toNatClampNeg k3)) := up_ne ef5 (nd_ne hnd (i := 8) (j := 6) rfl rfl (by decide)) e_y5
  have e_y13 : f5 y13 = .inl (g 0, 30, .inl v_restMany) := up_ne ef5 (nd_ne hnd (i := 8) (j := 14) rfl rfl (by decide)) e_y13
  have e_y8 : f5 y8 = .inl (g 0, 122880, .inl v_row) := up_ne ef5 (nd_ne hnd (i := 8) (j := 9) rfl rfl (by decide)) e_y8
  have e_y7 : f5 y7 = .inl (g 0, 30, .inl (upd v_contentMany (0 : Int32).toNatClampNeg 0)) := up_self ef5
  have fr : ∀ b, b ∈ L → b ≠ y → b ≠ y2 → b ≠ y3 → b ≠ y4 → b ≠ y5 → b ≠ y7 → b ≠ y13 → b ≠ y8 → f5 b = f b := fun b mb nb0 nb1 nb2 nb3 nb4 nb5 nb6 nb7 => (up_ne ef5 nb5 rfl).trans (fr b mb nb0 nb1 nb2 nb3 nb4 nb5 nb6 nb7)
  refine lv_aload_n hx hb dX9_begin_47 rfl (lv_at hl 1 rfl) ?_
  refine q_get hx hb hts in_X9 hown S m_y e_y (C := RX9) (T := TX9) (N := 23) rfl 13 (by decide) rfl (hts (.fieldLink RX9 52 "SieveCabinetModel" "restMany" "[I") (by decide +kernel)) dX9_begin_48 ?_
  refine lv_iload hx hb dX9_begin_51 (lv_at hl 0 rfl) ?_
  refine lv_iconst (v := 0) hx hb dX9_begin_53 (by decide) ?_
  refine q_iast hx hb S m_y13 e_y13 (pu_in0 (by decide) (by decide)) dX9_begin_54 (fun H locs S => ?_)
  obtain ⟨f6, ef6⟩ : ∃ z_, z_ = va_up f5 y13 (.inl (g 0, 30, .inl (upd v_restMany (0 : Int32).toNatClampNeg 0))) := ⟨_, rfl⟩
  have S : PS D g (va_A (va_pl L f) sz) s.heap s L f6 H locs := by rw [ef6]; exact S
  have e_y : f6 y = .inr (7, [.ref y0, .ref y1, .ref y2, .ref y3, .ref y4, .ref y5, .ref y6, .ref y7, .ref y8, .ref y9, .ref y10, .ref y11, .ref y12, .ref y13, .int 0, .ref y15, .ref y16, .ref y17, .ref y18, .ref y19, .ref y20, .ref y21, .ref y22]) := up_ne ef6 (nd_ne hnd (i := 14) (j := 0) rfl rfl (by decide)) e_y
  have e_y2 : f6 y2 = .inl (g 0, 30, .inl (upd v_kind (0 : Int32).toNatClampNeg k0)) := up_ne ef6 (nd_ne hnd (i := 14) (j := 3) rfl rfl (by decide)) e_y2
  have e_y3 : f6 y3 = .inl (g 0, 30, .inl (upd v_size (0 : Int32).toNatClampNeg k1)) := up_ne ef6 (nd_ne hnd (i := 14) (j := 4) rfl rfl (by decide)) e_y3
  have e_y4 : f6 y4 = .inl (g 0, 30, .inl (upd v_marks (0 : Int32).toNatClampNeg k2)) := up_ne ef6 (nd_ne hnd (i := 14) (j := 5) rfl rfl (by decide)) e_y4
  have e_y5 : f6 y5 = .inl (g 0, 30, .inl (upd v_seed (0 : Int32).toNatClampNeg k3)) := up_ne ef6 (nd_ne hnd (i := 14) (j := 6) rfl rfl (by decide)) e_y5
  have e_y7 : f6 y7 = .inl (g 0, 30, .inl (upd v_contentMany (0 : Int32).toNatClampNeg 0)) := up_ne ef6 (nd_ne hnd (i := 14) (j := 8) rfl rfl (by decide)) e_y7
  have e_y8 : f6 y8 = .inl (g 0, 122880, .inl v_row) := up_ne ef6 (nd_ne hnd (i := 14) (j := 9) rfl rfl (by decide)) e_y8
  have e_y13 : f6 y13 = .inl (g 0, 30, .inl (upd v_restMany (0 : Int32).toNatClampNeg 0)) := up_self ef6
  have fr : ∀ b, b ∈ L → b ≠ y → b ≠ y2 → b ≠ y3 → b ≠ y4 → b ≠ y5 → b ≠ y7 → b ≠ y13 → b ≠ y8 → f6 b = f b := fun b mb nb0 nb1 nb2 nb3 nb4 nb5 nb6 nb7 => (up_ne ef6 nb6 rfl).trans (fr b mb nb0 nb1 nb2 nb3 nb4 nb5 nb6 nb7)
  refine lv_iconst (v := 0) hx hb dX9_begin_55 (by decide) ?_
  refine lv_istore (lv' := [(6, .int 0), (5, .int 0), (0, .ref y), (1, .int k0), (2, .int k1), (3, .int k2), (4, .int k3)]) hx hb dX9_begin_56 hl (by decide) rfl (fun ls hl => ?_)
  obtain ⟨i, ei⟩ : ∃ z_ : Nat, z_ = 0 := ⟨_, rfl⟩
  obtain ⟨k_y8, ek_y8⟩ : ∃ z_ : Nat → Int32, z_ = v_row := ⟨_, rfl⟩
  obtain ⟨fl, efl⟩ : ∃ z_, z_ = f6 := ⟨_, rfl⟩
  have e_y : fl y = .inr (7, [.ref y0, .ref y1, .ref y2, .ref y3, .ref y4, .ref y5, .ref y6, .ref y7, .ref y8, .ref y9, .ref y10, .ref y11, .ref y12, .ref y13, .int 0, .ref y15, .ref y16, .ref y17, .ref y18, .ref y19, .ref y20, .ref y21, .ref y22]) := by rw [efl]; exact e_y
  have e_y2 : fl y2 = .inl (g 0, 30, .inl (upd v_kind (0 : Int32).toNatClampNeg k0)) := by rw [efl]; exact e_y2
  have e_y3 : fl y3 = .inl (g 0, 30, .inl (upd v_size (0 : Int32).toNatClampNeg k1)) := by rw [efl]; exact e_y3
  have e_y4 : fl y4 = .inl (g 0, 30, .inl (upd v_marks (0 : Int32).toNatClampNeg k2)) := by rw [efl]; exact e_y4
  have e_y5 : fl y5 = .inl (g 0, 30, .inl (upd v_seed (0 : Int32).toNatClampNeg k3)) := by rw [efl]; exact e_y5
  have e_y7 : fl y7 = .inl (g 0, 30, .inl (upd v_contentMany (0 : Int32).toNatClampNeg 0)) := by rw [efl]; exact e_y7
  have e_y13 : fl y13 = .inl (g 0, 30, .inl (upd v_restMany (0 : Int32).toNatClampNeg 0)) := by rw [efl]; exact e_y13
  have e_y8 : fl y8 = .inl (g 0, 122880, .inl k_y8) := by rw [efl, ek_y8]; exact e_y8
  have fr : ∀ b, b ∈ L → b ≠ y → b ≠ y2 → b ≠ y3 → b ≠ y4 → b ≠ y5 → b ≠ y7 → b ≠ y13 → b ≠ y8 → fl b = f b := by rw [efl]; exact fr
  have S_0 : PS D g (va_A (va_pl L f) sz) s.heap s L fl H locs := by rw [efl]; exact S
  refine W_any (X := fun H locs => PS D g (va_A (va_pl L f) sz) s.heap s L fl H locs) S_0 (fun H locs S => ?_)
  refine W_ls (lv := [(6, .int ((nI i))), (5, .int 0), (0, .ref y), (1, .int k0), (2, .int k1), (3, .int k2), (4, .int k3)]) (by have q := lv_sub hl [0, 1, 2, 3, 4, 5, 6] rfl; rw [ei]; exact q) (fun ls hl => ?_)
  obtain ⟨d, hd⟩ : ∃ z_ : Nat, i + z_ = 4096 := ⟨4096 - i, by omega⟩
  clear ei ek_y8 efl S_0
  induction d generalizing i k_y8 fl H locs ls with
  | zero =>
    have hN : i = 4096 := by omega
    refine lv_iload hx hb dX9_begin_58 (lv_at hl 0 rfl) ?_
    refine lv_sipush (v := 4096) hx hb dX9_begin_60 (by decide) ?_
    refine lv_icmp_ge (tgt := 87) hx hb dX9_begin_63 (by decide) (fun b63 => ?_) (fun b63 => absurd (by rw [hN]; decide) b63)
    refine lv_aload_n hx hb dX9_begin_87 rfl (lv_at hl 2 rfl) ?_
    refine lv_dup hx hb dX9_begin_88 rfl ?_
    refine q_get hx hb hts in_X9 hown S m_y e_y (C := RX9) (T := TX9) (N := 23) rfl 14 (by decide) rfl (hts (.fieldLink RX9 88 "SieveCabinetModel" "many" "I") (by decide +kernel)) dX9_begin_89 ?_
    refine lv_iconst (v := 1) hx hb dX9_begin_92 (by decide) ?_
    refine lv_iadd hx hb dX9_begin_93 ?_
    refine q_put hx hb hts in_X9 tyX9 tyX9_ok nmX9 hown S m_y e_y (C := RX9) (T := TX9) (N := 23) rfl 14 (by decide) (hts (.fieldLink RX9 88 "SieveCabinetModel" "many" "I") (by decide +kernel)) rfl rfl rfl (Nat.le_of_ble_eq_true rfl) dX9_begin_94 (fun H locs S => ?_)
    obtain ⟨f7, ef7⟩ : ∃ z_, z_ = va_up fl y (.inr (7, [.ref y0, .ref y1, .ref y2, .ref y3, .ref y4, .ref y5, .ref y6, .ref y7, .ref y8, .ref y9, .ref y10, .ref y11, .ref y12, .ref y13, .int ((0 + 1)), .ref y15, .ref y16, .ref y17, .ref y18, .ref y19, .ref y20, .ref y21, .ref y22])) := ⟨_, rfl⟩
    have S : PS D g (va_A (va_pl L f) sz) s.heap s L f7 H locs := by rw [ef7]; exact S
    have e_y2 : f7 y2 = .inl (g 0, 30, .inl (upd v_kind (0 : Int32).toNatClampNeg k0)) := up_ne ef7 (nd_ne hnd (i := 0) (j := 3) rfl rfl (by decide)) e_y2
    have e_y3 : f7 y3 = .inl (g 0, 30, .inl (upd v_size (0 : Int32).toNatClampNeg k1)) := up_ne ef7 (nd_ne hnd (i := 0) (j := 4) rfl rfl (by decide)) e_y3
    have e_y4 : f7 y4 = .inl (g 0, 30, .inl (upd v_marks (0 : Int32).toNatClampNeg k2)) := up_ne ef7 (nd_ne hnd (i := 0) (j := 5) rfl rfl (by decide)) e_y4
    have e_y5 : f7 y5 = .inl (g 0, 30, .inl (upd v_seed (0 : Int32).toNatClampNeg k3)) := up_ne ef7 (nd_ne hnd (i := 0) (j := 6) rfl rfl (by decide)) e_y5
    have e_y7 : f7 y7 = .inl (g 0, 30, .inl (upd v_contentMany (0 : Int32).toNatClampNeg 0)) := up_ne ef7 (nd_ne hnd (i := 0) (j := 8) rfl rfl (by decide)) e_y7
    have e_y13 : f7 y13 = .inl (g 0, 30, .inl (upd v_restMany (0 : Int32).toNatClampNeg 0)) := up_ne ef7 (nd_ne hnd (i := 0) (j := 14) rfl rfl (by decide)) e_y13
    have e_y8 : f7 y8 = .inl (g 0, 122880, .inl k_y8) := up_ne ef7 (nd_ne hnd (i := 0) (j := 9) rfl rfl (by decide)) e_y8
    have e_y : f7 y = .inr (7, [.ref y0, .ref y1, .ref y2, .ref y3, .ref y4, .ref y5, .ref y6, .ref y7, .ref y8, .ref y9, .ref y10, .ref y11, .ref y12, .ref y13, .int ((0 + 1)), .ref y15, .ref y16, .ref y17, .ref y18, .ref y19, .ref y20, .ref y21, .ref y22]) := up_self ef7
    have fr : ∀ b, b ∈ L → b ≠ y → b ≠ y2 → b ≠ y3 → b ≠ y4 → b ≠ y5 → b ≠ y7 → b ≠ y13 → b ≠ y8 → f7 b = f b := fun b mb nb0 nb1 nb2 nb3 nb4 nb5 nb6 nb7 => (up_ne ef7 nb0 rfl).trans (fr b mb nb0 nb1 nb2 nb3 nb4 nb5 nb6 nb7)
    refine lv_iload hx hb dX9_begin_97 (lv_at hl 1 rfl) ?_
    exact q_reti (post := fun x L1 f1 => x = 0 ∧ L1 = L ∧ (∀ b, b ∈ L → b ≠ y → b ≠ y2 → b ≠ y3 → b ≠ y4 → b ≠ y5 → b ≠ y7 → b ≠ y13 → b ≠ y8 → f1 b = f b) ∧ f1 y = .inr (7, [.ref y0, .ref y1, .ref y2, .ref y3, .ref y4, .ref y5, .ref y6, .ref y7, .ref y8, .ref y9, .ref y10, .ref y11, .ref y12, .ref y13, .int ((0 + 1)), .ref y15, .ref y16, .ref y17, .ref y18, .ref y19, .ref y20, .ref y21, .ref y22]) ∧ ∃ w_kind : Nat → Int32, ∃ w_size : Nat → Int32, ∃ w_marks : Nat → Int32, ∃ w_seed : Nat → Int32, ∃ w_contentMany : Nat → Int32, ∃ w_restMany : Nat → Int32, ∃ w_row : Nat → Int32, f1 y2 = .inl (g 0, 30, .inl w_kind) ∧ f1 y3 = .inl (g 0, 30, .inl w_size) ∧ f1 y4 = .inl (g 0, 30, .inl w_marks) ∧ f1 y5 = .inl (g 0, 30, .inl w_seed) ∧ f1 y7 = .inl (g 0, 30, .inl w_contentMany) ∧ f1 y13 = .inl (g 0, 30, .inl w_restMany) ∧ f1 y8 = .inl (g 0, 122880, .inl w_row)) hx hb hr hlk S dX9_begin_99 (by decide) (by decide) (⟨rfl, rfl, fr, e_y, _, _, _, _, _, _, _, e_y2, e_y3, e_y4, e_y5, e_y7, e_y13, e_y8⟩)
  | succ d ih =>
    have hlt : i < 4096 := by omega
    refine lv_iload hx hb dX9_begin_58 (lv_at hl 0 rfl) ?_
    refine lv_sipush (v := 4096) hx hb dX9_begin_60 (by decide) ?_
    refine lv_icmp_ge (tgt := 87) hx hb dX9_begin_63 (by decide) (fun b63 => absurd b63 (nI_ge (b := 4096) hlt (by decide))) (fun b63 => ?_)
    refine lv_aload_n hx hb dX9_begin_66 rfl (lv_at hl 2 rfl) ?_
    refine q_get hx hb hts in_X9 hown S m_y e_y (C := RX9) (T := TX9) (N := 23) rfl 8 (by decide) rfl (hts (.fieldLink RX9 36 "SieveCabinetModel" "row" "[I") (by decide +kernel)) dX9_begin_67 ?_
    refine lv_iload hx hb dX9_begin_70 (lv_at hl 1 rfl) ?_
    refine lv_sipush (v := 4096) hx hb dX9_begin_72 (by decide) ?_
    refine lv_imul hx hb dX9_begin_75 ?_
    refine lv_iload hx hb dX9_begin_76 (lv_at hl 0 rfl) ?_
    refine lv_iadd hx hb dX9_begin_78 ?_
    refine lv_iconst (v := 0) hx hb dX9_begin_79 (by decide) ?_
    refine q_iast hx hb S m_y8 e_y8 (by rw [show (0 : Int32) * 4096 + nI i = nI i from by rw [show (0 : Int32) * 4096 = 0 from by decide, Int32.zero_add]]; exact vp_in_nI (by omega) (by decide)) dX9_begin_80 (fun H locs S => ?_)
    obtain ⟨f8, ef8⟩ : ∃ z_, z_ = va_up fl y8 (.inl (g 0, 122880, .inl (upd k_y8 (((0 * 4096) + (nI i)) : Int32).toNatClampNeg 0))) := ⟨_, rfl⟩
    have S : PS D g (va_A (va_pl L f) sz) s.heap s L f8 H locs := by rw [ef8]; exact S
    have e_y : f8 y = .inr (7, [.ref y0, .ref y1, .ref y2, .ref y3, .ref y4, .ref y5, .ref y6, .ref y7, .ref y8, .ref y9, .ref y10, .ref y11, .ref y12, .ref y13, .int 0, .ref y15, .ref y16, .ref y17, .ref y18, .ref y19, .ref y20, .ref y21, .ref y22]) := up_ne ef8 (nd_ne hnd (i := 9) (j := 0) rfl rfl (by decide)) e_y
    have e_y2 : f8 y2 = .inl (g 0, 30, .inl (upd v_kind (0 : Int32).toNatClampNeg k0)) := up_ne ef8 (nd_ne hnd (i := 9) (j := 3) rfl rfl (by decide)) e_y2
    have e_y3 : f8 y3 = .inl (g 0, 30, .inl (upd v_size (0 : Int32).toNatClampNeg k1)) := up_ne ef8 (nd_ne hnd (i := 9) (j := 4) rfl rfl (by decide)) e_y3
    have e_y4 : f8 y4 = .inl (g 0, 30, .inl (upd v_marks (0 : Int32).toNatClampNeg k2)) := up_ne ef8 (nd_ne hnd (i := 9) (j := 5) rfl rfl (by decide)) e_y4
    have e_y5 : f8 y5 = .inl (g 0, 30, .inl (upd v_seed (0 : Int32).toNatClampNeg k3)) := up_ne ef8 (nd_ne hnd (i := 9) (j := 6) rfl rfl (by decide)) e_y5
    have e_y7 : f8 y7 = .inl (g 0, 30, .inl (upd v_contentMany (0 : Int32).toNatClampNeg 0)) := up_ne ef8 (nd_ne hnd (i := 9) (j := 8) rfl rfl (by decide)) e_y7
    have e_y13 : f8 y13 = .inl (g 0, 30, .inl (upd v_restMany (0 : Int32).toNatClampNeg 0)) := up_ne ef8 (nd_ne hnd (i := 9) (j := 14) rfl rfl (by decide)) e_y13
    have e_y8 : f8 y8 = .inl (g 0, 122880, .inl (upd k_y8 (((0 * 4096) + (nI i)) : Int32).toNatClampNeg 0)) := up_self ef8
    have fr : ∀ b, b ∈ L → b ≠ y → b ≠ y2 → b ≠ y3 → b ≠ y4 → b ≠ y5 → b ≠ y7 → b ≠ y13 → b ≠ y8 → f8 b = f b := fun b mb nb0 nb1 nb2 nb3 nb4 nb5 nb6 nb7 => (up_ne ef8 nb7 rfl).trans (fr b mb nb0 nb1 nb2 nb3 nb4 nb5 nb6 nb7)
    obtain ⟨i1, ei1⟩ : ∃ y : Int32, y = (nI i) + (1) := ⟨_, rfl⟩
    refine lv_iinc (v := i1) (lv' := [(6, .int i1), (5, .int 0), (0, .ref y), (1, .int k0), (2, .int k1), (3, .int k2), (4, .int k3)]) hx hb dX9_begin_81 hl (k := 0) rfl (by rw [ei1]; rfl) (by decide) rfl (fun ls hl => ?_)
    refine lv_goto (tgt := 58) hx hb dX9_begin_84 (by decide) ?_
    exact ih (i := (i + 1)) (k_y8 := (upd k_y8 (((0 * 4096) + (nI i)) : Int32).toNatClampNeg 0)) (fl := f8) (e_y := e_y) (e_y2 := e_y2) (e_y3 := e_y3) (e_y4 := e_y4) (e_y5 := e_y5) (e_y7 := e_y7) (e_y13 := e_y13) (e_y8 := e_y8) (fr := fr) (H := _) (locs := _) (S := S) (ls := ls) (hd := by omega) (hl := by have q := lv_sub hl [0, 1, 2, 3, 4, 5, 6] rfl; rw [ei1, nI_1] at q; exact q)

set_option maxHeartbeats 4000000 in
set_option maxRecDepth 100000 in
/-- reference: make of a new one -/
theorem c_X9_make0 (l : Launch) (D : va_G) (g : Nat → ClassId) {L : List Nat} {f : Nat → va_E} {y y0 y1 y2 y3 y4 y5 y6 y7 y8 y9 y10 y11 y12 y13 y15 y16 y17 y18 y19 y20 y21 y22 : Nat}   {v_kind : Nat → Int32} {v_size : Nat → Int32} {v_marks : Nat → Int32} {v_seed : Nat → Int32}  {v_contentMany : Nat → Int32} {v_row : Nat → Int32}     {v_restMany : Nat → Int32}         {k z mk sd : Int32} (m_y : y ∈ L) (e_y : f y = .inr (7, [.ref y0, .ref y1, .ref y2, .ref y3, .ref y4, .ref y5, .ref y6, .ref y7, .ref y8, .ref y9, .ref y10, .ref y11, .ref y12, .ref y13, .int 0, .ref y15, .ref y16, .ref y17, .ref y18, .ref y19, .ref y20, .ref y21, .ref y22])) (m_y2 : y2 ∈ L) (e_y2 : f y2 = .inl (g 0, 30, .inl v_kind)) (m_y3 : y3 ∈ L) (e_y3 : f y3 = .inl (g 0, 30, .inl v_size)) (m_y4 : y4 ∈ L) (e_y4 : f y4 = .inl (g 0, 30, .inl v_marks)) (m_y5 : y5 ∈ L) (e_y5 : f y5 = .inl (g 0, 30, .inl v_seed)) (m_y7 : y7 ∈ L) (e_y7 : f y7 = .inl (g 0, 30, .inl v_contentMany)) (m_y13 : y13 ∈ L) (e_y13 : f y13 = .inl (g 0, 30, .inl v_restMany)) (m_y8 : y8 ∈ L) (e_y8 : f y8 = .inl (g 0, 122880, .inl v_row)) (hnd : [y, y0, y1, y2, y3, y4, y5, y6, y7, y8, y9, y10, y11, y12, y13, y15, y16, y17, y18, y19, y20, y21, y22].Nodup) : cI l yX9_make wsX9_make { frames := 1, cells := 0, slots := 0, locals := 26 } D g [.ref y, .int k, .int z, .int mk, .int sd] L f 0 0 (fun x _ _ => (makeP k z mk → x = 0) ∧ (¬ makeP k z mk → x = -1)) := by
  refine cI_of (cc := cX9_make) (maxL := 5) (ret := (some .int)) (by decide) rfl (Nat.le_of_ble_eq_true rfl) ?_
  intro sz p e s m below meth c hx hb hr hml hts hown hlk hnm S ls hl
  have hl : lv_has ls 5 [(0, .ref y), (1, .int k), (2, .int z), (3, .int mk), (4, .int sd)] := hl
  have in_X9 : ∀ w ∈ wsX90, w ∈ wsX9_make := by decide +kernel
  refine lv_iload_n hx hb dX9_make_0 rfl (lv_at hl 1 rfl) ?_
  refine lv_if_lt (tgt := 9) hx hb dX9_make_1 (by decide) (fun b1 => ?_) (fun b1 => ?_)
  · skip
    refine lv_iconst (v := -1) hx hb dX9_make_9 (by decide) ?_
    exact q_reti (post := fun x _ _ => (makeP k z mk → x = 0) ∧ (¬ makeP k z mk → x = -1)) hx hb hr hlk S dX9_make_10 (by decide) (by decide) (⟨fun h => absurd h (mk_lo b1), fun _ => rfl⟩)
  · skip
    refine lv_iload_n hx hb dX9_make_4 rfl (lv_at hl 1 rfl) ?_
    refine lv_iconst (v := 2) hx hb dX9_make_5 (by decide) ?_
    refine lv_icmp_le (tgt := 11) hx hb dX9_make_6 (by decide) (fun b6 => ?_) (fun b6 => ?_)
    · skip
      refine lv_iload_n hx hb dX9_make_11 rfl (lv_at hl 1 rfl) ?_
      refine lv_iconst (v := 2) hx hb dX9_make_12 (by decide) ?_
      refine lv_icmp_ne (tgt := 30) hx hb dX9_make_13 (by decide) (fun b13 => ?_) (fun b13 => ?_)
      · skip
        refine lv_iload_n hx hb dX9_make_30 rfl (lv_at hl 2 rfl) ?_
        refine lv_bipush (v := 8) hx hb dX9_make_31 (by decide) ?_
        refine lv_sipush (v := 4096) hx hb dX9_make_33 (by decide) ?_
        refine q_si (As := [.int z, .int 8, .int 4096]) (rest := []) ⟨hx, hb, hml, hown, hts⟩ (c_X9_isWide l D g ) (va_cwS 3 hts gX9_make_X9_isWide rfl rfl rfl (by decide +kernel) ⟨Nat.le_of_ble_eq_true rfl, Nat.le_of_ble_eq_true rfl⟩) S rfl hl.1 rfl (Nat.le_of_ble_eq_true rfl) dX9_make_36 ⟨Nat.le_of_ble_eq_true rfl, Nat.le_of_ble_eq_true rfl⟩ (fun r3 L1 f2 H locs S w36 => ?_)
        obtain ⟨exw36, eLw36, efw36⟩ := w36
        rw [eLw36, efw36] at S
        rcases exw36 with ⟨er36, hp36⟩ | ⟨er36, hp36⟩
        · skip
          subst er36
          refine lv_if_eq (tgt := 53) hx hb dX9_make_39 (by decide) (fun b39 => absurd b39 (by decide)) (fun b39 => ?_)
          refine lv_iload_n hx hb dX9_make_42 rfl (lv_at hl 3 rfl) ?_
          refine lv_iconst (v := 1) hx hb dX9_make_43 (by decide) ?_
          refine lv_icmp_lt (tgt := 53) hx hb dX9_make_44 (by decide) (fun b44 => ?_) (fun b44 => ?_)
          · skip
            refine lv_iconst (v := -1) hx hb dX9_make_53 (by decide) ?_
            exact q_reti (post := fun x _ _ => (makeP k z mk → x = 0) ∧ (¬ makeP k z mk → x = -1)) hx hb hr hlk S dX9_make_54 (by decide) (by decide) (⟨fun h => absurd h (mk_n b13 (Or.inr (Or.inl b44))), fun _ => rfl⟩)
          · skip
            refine lv_iload_n hx hb dX9_make_47 rfl (lv_at hl 3 rfl) ?_
            refine lv_bipush (v := 8) hx hb dX9_make_48 (by decide) ?_
            refine lv_icmp_le (tgt := 55) hx hb dX9_make_50 (by decide) (fun b50 => ?_) (fun b50 => ?_)
            · skip
              refine lv_aload_n hx hb dX9_make_55 rfl (lv_at hl 0 rfl) ?_
              refine q_get hx hb hts in_X9 hown S m_y e_y (C := RX9) (T := TX9) (N := 23) rfl 14 (by decide) rfl (hts (.fieldLink RX9 88 "SieveCabinetModel" "many" "I") (by decide +kernel)) dX9_make_56 ?_
              refine lv_bipush (v := 30) hx hb dX9_make_59 (by decide) ?_
              refine lv_icmp_ne (tgt := 69) hx hb dX9_make_61 (by decide) (fun b61 => ?_) (fun b61 => absurd b61 (by decide))
              refine lv_aload_n hx hb dX9_make_69 rfl (lv_at hl 0 rfl) ?_
              refine lv_iload_n hx hb dX9_make_70 rfl (lv_at hl 1 rfl) ?_
              refine lv_iload_n hx hb dX9_make_71 rfl (lv_at hl 2 rfl) ?_
              refine lv_iload_n hx hb dX9_make_72 rfl (lv_at hl 1 rfl) ?_
              refine lv_iconst (v := 2) hx hb dX9_make_73 (by decide) ?_
              refine lv_icmp_ne (tgt := 81) hx hb dX9_make_74 (by decide) (fun b74 => ?_) (fun b74 => ?_)
              · skip
                refine lv_iload_n hx hb dX9_make_81 rfl (lv_at hl 3 rfl) ?_
                refine lv_iload hx hb dX9_make_82 (lv_at hl 4 rfl) ?_
                refine q_vi (As := [.int k, .int z, .int mk, .int sd]) (rest := []) ⟨hx, hb, hml, hown, hts⟩ (c_X9_begin0 l D g m_y e_y m_y2 e_y2 m_y3 e_y3 m_y4 e_y4 m_y5 e_y5 m_y7 e_y7 m_y13 e_y13 m_y8 e_y8 hnd) (cwV 4 hts gX9_make_X9_begin rfl rfl rfl (by decide +kernel) ⟨Nat.le_of_ble_eq_true rfl, Nat.le_of_ble_eq_true rfl⟩) S m_y e_y (T := TX9) (N := 23) rfl rfl hl.1 rfl (Nat.le_of_ble_eq_true rfl) dX9_make_84 ⟨Nat.le_of_ble_eq_true rfl, Nat.le_of_ble_eq_true rfl⟩ (fun r6 L4 f5 H locs S w84 => ?_)
                obtain ⟨exw84, eLw84, fvw84, e_y, w_kind, w_size, w_marks, w_seed, w_contentMany, w_restMany, w_row, e_y2, e_y3, e_y4, e_y5, e_y7, e_y13, e_y8⟩ := w84
                rw [eLw84] at S
                subst exw84
                exact q_reti (post := fun x _ _ => (makeP k z mk → x = 0) ∧ (¬ makeP k z mk → x = -1)) hx hb hr hlk S dX9_make_87 (by decide) (by decide) (⟨fun _ => rfl, fun h => absurd (Or.inr ⟨mk_y b1 b6 b13, hp36, b44, Int32.not_lt.mpr b50⟩) h⟩)
              · skip
                refine lv_iconst (v := 0) hx hb dX9_make_77 (by decide) ?_
                refine lv_goto (tgt := 82) hx hb dX9_make_78 (by decide) ?_
                refine lv_iload hx hb dX9_make_82 (lv_at hl 4 rfl) ?_
                refine q_vi (As := [.int k, .int z, .int 0, .int sd]) (rest := []) ⟨hx, hb, hml, hown, hts⟩ (c_X9_begin0 l D g m_y e_y m_y2 e_y2 m_y3 e_y3 m_y4 e_y4 m_y5 e_y5 m_y7 e_y7 m_y13 e_y13 m_y8 e_y8 hnd) (cwV 4 hts gX9_make_X9_begin rfl rfl rfl (by decide +kernel) ⟨Nat.le_of_ble_eq_true rfl, Nat.le_of_ble_eq_true rfl⟩) S m_y e_y (T := TX9) (N := 23) rfl rfl hl.1 rfl (Nat.le_of_ble_eq_true rfl) dX9_make_84 ⟨Nat.le_of_ble_eq_true rfl, Nat.le_of_ble_eq_true rfl⟩ (fun r9 L7 f8 H locs S w84 => ?_)
                obtain ⟨exw84, eLw84, fvw84, e_y, w_kind, w_size, w_marks, w_seed, w_contentMany, w_restMany, w_row, e_y2, e_y3, e_y4, e_y5, e_y7, e_y13, e_y8⟩ := w84
                rw [eLw84] at S
                subst exw84
                exact q_reti (post := fun x _ _ => (makeP k z mk → x = 0) ∧ (¬ makeP k z mk → x = -1)) hx hb hr hlk S dX9_make_87 (by decide) (by decide) (⟨fun _ => rfl, fun h => absurd (Or.inr ⟨mk_y b1 b6 b13, hp36, b44, Int32.not_lt.mpr b50⟩) h⟩)
            · skip
              refine lv_iconst (v := -1) hx hb dX9_make_53 (by decide) ?_
              exact q_reti (post := fun x _ _ => (makeP k z mk → x = 0) ∧ (¬ makeP k z mk → x = -1)) hx hb hr hlk S dX9_make_54 (by decide) (by decide) (⟨fun h => absurd h (mk_n b13 (Or.inr (Or.inr (Int32.not_le.mp b50)))), fun _ => rfl⟩)
        · skip
          subst er36
          refine lv_if_eq (tgt := 53) hx hb dX9_make_39 (by decide) (fun b39 => ?_) (fun b39 => absurd (rfl) b39)
          refine lv_iconst (v := -1) hx hb dX9_make_53 (by decide) ?_
          exact q_reti (post := fun x _ _ => (makeP k z mk → x = 0) ∧ (¬ makeP k z mk → x = -1)) hx hb hr hlk S dX9_make_54 (by decide) (by decide) (⟨fun h => absurd h (mk_n b13 (Or.inl hp36)), fun _ => rfl⟩)
      · skip
        refine lv_iload_n hx hb dX9_make_16 rfl (lv_at hl 2 rfl) ?_
        refine lv_iconst (v := 1) hx hb dX9_make_17 (by decide) ?_
        refine lv_sipush (v := 256) hx hb dX9_make_18 (by decide) ?_
        refine q_si (As := [.int z, .int 1, .int 256]) (rest := []) ⟨hx, hb, hml, hown, hts⟩ (c_X9_isWide l D g ) (va_cwS 3 hts gX9_make_X9_isWide rfl rfl rfl (by decide +kernel) ⟨Nat.le_of_ble_eq_true rfl, Nat.le_of_ble_eq_true rfl⟩) S rfl hl.1 rfl (Nat.le_of_ble_eq_true rfl) dX9_make_21 ⟨Nat.le_of_ble_eq_true rfl, Nat.le_of_ble_eq_true rfl⟩ (fun r6 L4 f5 H locs S w21 => ?_)
        obtain ⟨exw21, eLw21, efw21⟩ := w21
        rw [eLw21, efw21] at S
        rcases exw21 with ⟨er21, hp21⟩ | ⟨er21, hp21⟩
        · skip
          subst er21
          refine lv_if_ne (tgt := 55) hx hb dX9_make_24 (by decide) (fun b24 => ?_) (fun b24 => absurd b24 (by decide))
          refine lv_aload_n hx hb dX9_make_55 rfl (lv_at hl 0 rfl) ?_
          refine q_get hx hb hts in_X9 hown S m_y e_y (C := RX9) (T := TX9) (N := 23) rfl 14 (by decide) rfl (hts (.fieldLink RX9 88 "SieveCabinetModel" "many" "I") (by decide +kernel)) dX9_make_56 ?_
          refine lv_bipush (v := 30) hx hb dX9_make_59 (by decide) ?_
          refine lv_icmp_ne (tgt := 69) hx hb dX9_make_61 (by decide) (fun b61 => ?_) (fun b61 => absurd b61 (by decide))
          refine lv_aload_n hx hb dX9_make_69 rfl (lv_at hl 0 rfl) ?_
          refine lv_iload_n hx hb dX9_make_70 rfl (lv_at hl 1 rfl) ?_
          refine lv_iload_n hx hb dX9_make_71 rfl (lv_at hl 2 rfl) ?_
          refine lv_iload_n hx hb dX9_make_72 rfl (lv_at hl 1 rfl) ?_
          refine lv_iconst (v := 2) hx hb dX9_make_73 (by decide) ?_
          refine lv_icmp_ne (tgt := 81) hx hb dX9_make_74 (by decide) (fun b74 => ?_) (fun b74 => ?_)
          · skip
            refine lv_iload_n hx hb dX9_make_81 rfl (lv_at hl 3 rfl) ?_
            refine lv_iload hx hb dX9_make_82 (lv_at hl 4 rfl) ?_
            refine q_vi (As := [.int k, .int z, .int mk, .int sd]) (rest := []) ⟨hx, hb, hml, hown, hts⟩ (c_X9_begin0 l D g m_y e_y m_y2 e_y2 m_y3 e_y3 m_y4 e_y4 m_y5 e_y5 m_y7 e_y7 m_y13 e_y13 m_y8 e_y8 hnd) (cwV 4 hts gX9_make_X9_begin rfl rfl rfl (by decide +kernel) ⟨Nat.le_of_ble_eq_true rfl, Nat.le_of_ble_eq_true rfl⟩) S m_y e_y (T := TX9) (N := 23) rfl rfl hl.1 rfl (Nat.le_of_ble_eq_true rfl) dX9_make_84 ⟨Nat.le_of_ble_eq_true rfl, Nat.le_of_ble_eq_true rfl⟩ (fun r9 L7 f8 H locs S w84 => ?_)
            obtain ⟨exw84, eLw84, fvw84, e_y, w_kind, w_size, w_marks, w_seed, w_contentMany, w_restMany, w_row, e_y2, e_y3, e_y4, e_y5, e_y7, e_y13, e_y8⟩ := w84
            rw [eLw84] at S
            subst exw84
            exact q_reti (post := fun x _ _ => (makeP k z mk → x = 0) ∧ (¬ makeP k z mk → x = -1)) hx hb hr hlk S dX9_make_87 (by decide) (by decide) (⟨fun _ => rfl, fun h => absurd (Or.inl ⟨b13, hp21⟩) h⟩)
          · skip
            refine lv_iconst (v := 0) hx hb dX9_make_77 (by decide) ?_
            refine lv_goto (tgt := 82) hx hb dX9_make_78 (by decide) ?_
            refine lv_iload hx hb dX9_make_82 (lv_at hl 4 rfl) ?_
            refine q_vi (As := [.int k, .int z, .int 0, .int sd]) (rest := []) ⟨hx, hb, hml, hown, hts⟩ (c_X9_begin0 l D g m_y e_y m_y2 e_y2 m_y3 e_y3 m_y4 e_y4 m_y5 e_y5 m_y7 e_y7 m_y13 e_y13 m_y8 e_y8 hnd) (cwV 4 hts gX9_make_X9_begin rfl rfl rfl (by decide +kernel) ⟨Nat.le_of_ble_eq_true rfl, Nat.le_of_ble_eq_true rfl⟩) S m_y e_y (T := TX9) (N := 23) rfl rfl hl.1 rfl (Nat.le_of_ble_eq_true rfl) dX9_make_84 ⟨Nat.le_of_ble_eq_true rfl, Nat.le_of_ble_eq_true rfl⟩ (fun r12 L10 f11 H locs S w84 => ?_)
            obtain ⟨exw84, eLw84, fvw84, e_y, w_kind, w_size, w_marks, w_seed, w_contentMany, w_restMany, w_row, e_y2, e_y3, e_y4, e_y5, e_y7, e_y13, e_y8⟩ := w84
            rw [eLw84] at S
            subst exw84
            exact q_reti (post := fun x _ _ => (makeP k z mk → x = 0) ∧ (¬ makeP k z mk → x = -1)) hx hb hr hlk S dX9_make_87 (by decide) (by decide) (⟨fun _ => rfl, fun h => absurd (Or.inl ⟨b13, hp21⟩) h⟩)
        · skip
          subst er21
          refine lv_if_ne (tgt := 55) hx hb dX9_make_24 (by decide) (fun b24 => absurd b24 (fun h => h rfl)) (fun b24 => ?_)
          refine lv_goto (tgt := 53) hx hb dX9_make_27 (by decide) ?_
          refine lv_iconst (v := -1) hx hb dX9_make_53 (by decide) ?_
          exact q_reti (post := fun x _ _ => (makeP k z mk → x = 0) ∧ (¬ makeP k z mk → x = -1)) hx hb hr hlk S dX9_make_54 (by decide) (by decide) (⟨fun h => absurd h (mk_2 b13 hp21), fun _ => rfl⟩)
    · skip
      refine lv_iconst (v := -1) hx hb dX9_make_9 (by decide) ?_
      exact q_reti (post := fun x _ _ => (makeP k z mk → x = 0) ∧ (¬ makeP k z mk → x = -1)) hx hb hr hlk S dX9_make_10 (by decide) (by decide) (⟨fun h => absurd h (mk_hi b6), fun _ => rfl⟩)
