set_option maxHeartbeats 4000000 in
set_option maxRecDepth 100000 in
/-- is: none are made -/
theorem c_X9_is0 (l : Launch) (D : va_G) (g : Nat → ClassId) {L : List Nat} {f : Nat → va_E} {y y0 y1 y2 y3 y4 y5 y6 y7 y8 y9 y10 y11 y12 y13 y15 y16 y17 y18 y19 y20 y21 y22 : Nat}   {i : Int32} (m_y : y ∈ L) (e_y : f y = .inr (7, [.ref y0, .ref y1, .ref y2, .ref y3, .ref y4, .ref y5, .ref y6, .ref y7, .ref y8, .ref y9, .ref y10, .ref y11, .ref y12, .ref y13, .int 0, .ref y15, .ref y16, .ref y17, .ref y18, .ref y19, .ref y20, .ref y21, .ref y22]))  : cI l yX9_is wsX9_is { frames := 0, cells := 0, slots := 0, locals := 0 } D g [.ref y, .int i] L f 0 0 (fun z L1 f1 => z = 0 ∧ L1 = L ∧ f1 = f) := by
  refine cI_of (cc := cX9_is) (maxL := 2) (ret := (some .boolean)) (by decide) rfl (Nat.le_of_ble_eq_true rfl) ?_
  intro sz p e s m below meth c hx hb hr hml hts hown hlk hnm S ls hl
  have hl : lv_has ls 2 [(0, .ref y), (1, .int i)] := hl
  have in_X9 : ∀ w ∈ wsX90, w ∈ wsX9_is := by decide +kernel
  refine lv_iload_n hx hb dX9_is_0 rfl (lv_at hl 1 rfl) ?_
  refine lv_if_lt (tgt := 16) hx hb dX9_is_1 (by decide) (fun b1 => ?_) (fun b1 => ?_)
  · skip
    refine lv_iconst (v := 0) hx hb dX9_is_16 (by decide) ?_
    exact q_retz (post := fun z L1 f1 => z = 0 ∧ L1 = L ∧ f1 = f) hx hb hr hlk S dX9_is_17 (by decide) (by decide) (by decide) (⟨rfl, rfl, rfl⟩)
  · skip
    refine lv_iload_n hx hb dX9_is_4 rfl (lv_at hl 1 rfl) ?_
    refine lv_aload_n hx hb dX9_is_5 rfl (lv_at hl 0 rfl) ?_
    refine q_get hx hb hts in_X9 hown S m_y e_y (C := RX9) (T := TX9) (N := 23) rfl 14 (by decide) rfl (hts (.fieldLink RX9 88 "SieveCabinetModel" "many" "I") (by decide +kernel)) dX9_is_6 ?_
    refine lv_icmp_ge (tgt := 16) hx hb dX9_is_9 (by decide) (fun b9 => ?_) (fun b9 => absurd (Int32.not_lt.mp b1) b9)
    refine lv_iconst (v := 0) hx hb dX9_is_16 (by decide) ?_
    exact q_retz (post := fun z L1 f1 => z = 0 ∧ L1 = L ∧ f1 = f) hx hb hr hlk S dX9_is_17 (by decide) (by decide) (by decide) (⟨rfl, rfl, rfl⟩)

set_option maxHeartbeats 4000000 in
set_option maxRecDepth 100000 in
/-- isWorld -/
theorem c_X9_isWorld (l : Launch) (D : va_G) (g : Nat → ClassId) {L : List Nat} {f : Nat → va_E} {w : Int32}   : cI l yX9_isWorld wsX9_isWorld { frames := 0, cells := 0, slots := 0, locals := 0 } D g [.int w] L f 0 0 (fun z L1 f1 => z = (if ¬ w < 0 ∧ ¬ 8 ≤ w then 1 else 0) ∧ L1 = L ∧ f1 = f) := by
  refine cI_of (cc := cX9_isWorld) (maxL := 1) (ret := (some .boolean)) (by decide) rfl (Nat.le_of_ble_eq_true rfl) ?_
  intro sz p e s m below meth c hx hb hr hml hts hown hlk hnm S ls hl
  have hl : lv_has ls 1 [(0, .int w)] := hl
  refine lv_iload_n hx hb dX9_isWorld_0 rfl (lv_at hl 0 rfl) ?_
  refine lv_if_lt (tgt := 14) hx hb dX9_isWorld_1 (by decide) (fun b1 => ?_) (fun b1 => ?_)
  · skip
    refine lv_iconst (v := 0) hx hb dX9_isWorld_14 (by decide) ?_
    exact q_retz (post := fun z L1 f1 => z = (if ¬ w < 0 ∧ ¬ 8 ≤ w then 1 else 0) ∧ L1 = L ∧ f1 = f) hx hb hr hlk S dX9_isWorld_15 (by decide) (by decide) (by decide) (⟨(if_neg (fun h => h.1 b1)).symm, rfl, rfl⟩)
  · skip
    refine lv_iload_n hx hb dX9_isWorld_4 rfl (lv_at hl 0 rfl) ?_
    refine lv_bipush (v := 8) hx hb dX9_isWorld_5 (by decide) ?_
    refine lv_icmp_ge (tgt := 14) hx hb dX9_isWorld_7 (by decide) (fun b7 => ?_) (fun b7 => ?_)
    · skip
      refine lv_iconst (v := 0) hx hb dX9_isWorld_14 (by decide) ?_
      exact q_retz (post := fun z L1 f1 => z = (if ¬ w < 0 ∧ ¬ 8 ≤ w then 1 else 0) ∧ L1 = L ∧ f1 = f) hx hb hr hlk S dX9_isWorld_15 (by decide) (by decide) (by decide) (⟨(if_neg (fun h => h.2 b7)).symm, rfl, rfl⟩)
    · skip
      refine lv_iconst (v := 1) hx hb dX9_isWorld_10 (by decide) ?_
      refine lv_goto (tgt := 15) hx hb dX9_isWorld_11 (by decide) ?_
      exact q_retz (post := fun z L1 f1 => z = (if ¬ w < 0 ∧ ¬ 8 ≤ w then 1 else 0) ∧ L1 = L ∧ f1 = f) hx hb hr hlk S dX9_isWorld_15 (by decide) (by decide) (by decide) (⟨(if_pos ⟨b1, b7⟩).symm, rfl, rfl⟩)

set_option maxHeartbeats 4000000 in
set_option maxRecDepth 100000 in
/-- reference: put of a new one -/
theorem c_X9_put0 (l : Launch) (D : va_G) (g : Nat → ClassId) {L : List Nat} {f : Nat → va_E} {y y0 y1 y2 y3 y4 y5 y6 y7 y8 y9 y10 y11 y12 y13 y15 y16 y17 y18 y19 y20 y21 y22 : Nat}   {i : Int32} {t : Int64} (m_y : y ∈ L) (e_y : f y = .inr (7, [.ref y0, .ref y1, .ref y2, .ref y3, .ref y4, .ref y5, .ref y6, .ref y7, .ref y8, .ref y9, .ref y10, .ref y11, .ref y12, .ref y13, .int 0, .ref y15, .ref y16, .ref y17, .ref y18, .ref y19, .ref y20, .ref y21, .ref y22]))  : cI l yX9_put wsX9_put { frames := 1, cells := 0, slots := 0, locals := 21 } D g [.ref y, .int i, .long t] L f 0 0 (fun z L1 f1 => z = -1 ∧ L1 = L ∧ f1 = f) := by
  refine cI_of (cc := cX9_put) (maxL := 4) (ret := (some .int)) (by decide) rfl (Nat.le_of_ble_eq_true rfl) ?_
  intro sz p e s m below meth c hx hb hr hml hts hown hlk hnm S ls hl
  have hl : lv_has ls 4 [(0, .ref y), (1, .int i), (2, .long t)] := hl
  refine lv_aload_n hx hb dX9_put_0 rfl (lv_at hl 0 rfl) ?_
  refine lv_iload_n hx hb dX9_put_1 rfl (lv_at hl 1 rfl) ?_
  refine q_vi (As := [.int i]) (rest := []) ⟨hx, hb, hml, hown, hts⟩ (c_X9_is0 l D g m_y e_y) (cwV 1 hts gX9_put_X9_is rfl rfl rfl (by decide +kernel) ⟨Nat.le_of_ble_eq_true rfl, Nat.le_of_ble_eq_true rfl⟩) S m_y e_y (T := TX9) (N := 23) rfl rfl hl.1 rfl (Nat.le_of_ble_eq_true rfl) dX9_put_2 ⟨Nat.le_of_ble_eq_true rfl, Nat.le_of_ble_eq_true rfl⟩ (fun r3 L1 f2 H locs S w2 => ?_)
  obtain ⟨exw2, eLw2, efw2⟩ := w2
  rw [eLw2, efw2] at S
  subst exw2
  refine lv_if_ne (tgt := 10) hx hb dX9_put_5 (by decide) (fun b5 => absurd b5 (fun h => h rfl)) (fun b5 => ?_)
  refine lv_iconst (v := -1) hx hb dX9_put_8 (by decide) ?_
  exact q_reti (post := fun z L1 f1 => z = -1 ∧ L1 = L ∧ f1 = f) hx hb hr hlk S dX9_put_9 (by decide) (by decide) (⟨rfl, rfl, rfl⟩)

set_option maxHeartbeats 4000000 in
set_option maxRecDepth 100000 in
/-- reference: drop of a new one -/
theorem c_X9_drop0 (l : Launch) (D : va_G) (g : Nat → ClassId) {L : List Nat} {f : Nat → va_E} {y y0 y1 y2 y3 y4 y5 y6 y7 y8 y9 y10 y11 y12 y13 y15 y16 y17 y18 y19 y20 y21 y22 : Nat}   {i : Int32} {t : Int64} (m_y : y ∈ L) (e_y : f y = .inr (7, [.ref y0, .ref y1, .ref y2, .ref y3, .ref y4, .ref y5, .ref y6, .ref y7, .ref y8, .ref y9, .ref y10, .ref y11, .ref y12, .ref y13, .int 0, .ref y15, .ref y16, .ref y17, .ref y18, .ref y19, .ref y20, .ref y21, .ref y22]))  : cI l yX9_drop wsX9_drop { frames := 1, cells := 0, slots := 0, locals := 21 } D g [.ref y, .int i, .long t] L f 0 0 (fun z L1 f1 => z = -1 ∧ L1 = L ∧ f1 = f) := by
  refine cI_of (cc := cX9_drop) (maxL := 8) (ret := (some .int)) (by decide) rfl (Nat.le_of_ble_eq_true rfl) ?_
  intro sz p e s m below meth c hx hb hr hml hts hown hlk hnm S ls hl
  have hl : lv_has ls 8 [(0, .ref y), (1, .int i), (2, .long t)] := hl
  refine lv_aload_n hx hb dX9_drop_0 rfl (lv_at hl 0 rfl) ?_
  refine lv_iload_n hx hb dX9_drop_1 rfl (lv_at hl 1 rfl) ?_
  refine q_vi (As := [.int i]) (rest := []) ⟨hx, hb, hml, hown, hts⟩ (c_X9_is0 l D g m_y e_y) (cwV 1 hts gX9_drop_X9_is rfl rfl rfl (by decide +kernel) ⟨Nat.le_of_ble_eq_true rfl, Nat.le_of_ble_eq_true rfl⟩) S m_y e_y (T := TX9) (N := 23) rfl rfl hl.1 rfl (Nat.le_of_ble_eq_true rfl) dX9_drop_2 ⟨Nat.le_of_ble_eq_true rfl, Nat.le_of_ble_eq_true rfl⟩ (fun r3 L1 f2 H locs S w2 => ?_)
  obtain ⟨exw2, eLw2, efw2⟩ := w2
  rw [eLw2, efw2] at S
  subst exw2
  refine lv_if_ne (tgt := 10) hx hb dX9_drop_5 (by decide) (fun b5 => absurd b5 (fun h => h rfl)) (fun b5 => ?_)
  refine lv_iconst (v := -1) hx hb dX9_drop_8 (by decide) ?_
  exact q_reti (post := fun z L1 f1 => z = -1 ∧ L1 = L ∧ f1 = f) hx hb hr hlk S dX9_drop_9 (by decide) (by decide) (⟨rfl, rfl, rfl⟩)

set_option maxHeartbeats 4000000 in
set_option maxRecDepth 100000 in
/-- reference: lets of a new one -/
theorem c_X9_lets0 (l : Launch) (D : va_G) (g : Nat → ClassId) {L : List Nat} {f : Nat → va_E} {y y0 y1 y2 y3 y4 y5 y6 y7 y8 y9 y10 y11 y12 y13 y15 y16 y17 y18 y19 y20 y21 y22 : Nat}   {i : Int32} {t : Int64} (m_y : y ∈ L) (e_y : f y = .inr (7, [.ref y0, .ref y1, .ref y2, .ref y3, .ref y4, .ref y5, .ref y6, .ref y7, .ref y8, .ref y9, .ref y10, .ref y11, .ref y12, .ref y13, .int 0, .ref y15, .ref y16, .ref y17, .ref y18, .ref y19, .ref y20, .ref y21, .ref y22]))  : cI l yX9_lets wsX9_lets { frames := 1, cells := 0, slots := 0, locals := 21 } D g [.ref y, .int i, .long t] L f 0 0 (fun z L1 f1 => z = -1 ∧ L1 = L ∧ f1 = f) := by
  refine cI_of (cc := cX9_lets) (maxL := 4) (ret := (some .int)) (by decide) rfl (Nat.le_of_ble_eq_true rfl) ?_
  intro sz p e s m below meth c hx hb hr hml hts hown hlk hnm S ls hl
  have hl : lv_has ls 4 [(0, .ref y), (1, .int i), (2, .long t)] := hl
  refine lv_aload_n hx hb dX9_lets_0 rfl (lv_at hl 0 rfl) ?_
  refine lv_iload_n hx hb dX9_lets_1 rfl (lv_at hl 1 rfl) ?_
  refine q_vi (As := [.int i]) (rest := []) ⟨hx, hb, hml, hown, hts⟩ (c_X9_is0 l D g m_y e_y) (cwV 1 hts gX9_lets_X9_is rfl rfl rfl (by decide +kernel) ⟨Nat.le_of_ble_eq_true rfl, Nat.le_of_ble_eq_true rfl⟩) S m_y e_y (T := TX9) (N := 23) rfl rfl hl.1 rfl (Nat.le_of_ble_eq_true rfl) dX9_lets_2 ⟨Nat.le_of_ble_eq_true rfl, Nat.le_of_ble_eq_true rfl⟩ (fun r3 L1 f2 H locs S w2 => ?_)
  obtain ⟨exw2, eLw2, efw2⟩ := w2
  rw [eLw2, efw2] at S
  subst exw2
  refine lv_if_eq (tgt := 25) hx hb dX9_lets_5 (by decide) (fun b5 => ?_) (fun b5 => absurd (rfl) b5)
  refine lv_iconst (v := -1) hx hb dX9_lets_25 (by decide) ?_
  exact q_reti (post := fun z L1 f1 => z = -1 ∧ L1 = L ∧ f1 = f) hx hb hr hlk S dX9_lets_26 (by decide) (by decide) (⟨rfl, rfl, rfl⟩)

set_option maxHeartbeats 4000000 in
set_option maxRecDepth 100000 in
/-- reference: missed of a new one -/
theorem c_X9_missed0 (l : Launch) (D : va_G) (g : Nat → ClassId) {L : List Nat} {f : Nat → va_E} {y y0 y1 y2 y3 y4 y5 y6 y7 y8 y9 y10 y11 y12 y13 y15 y16 y17 y18 y19 y20 y21 y22 : Nat}   {i : Int32} (m_y : y ∈ L) (e_y : f y = .inr (7, [.ref y0, .ref y1, .ref y2, .ref y3, .ref y4, .ref y5, .ref y6, .ref y7, .ref y8, .ref y9, .ref y10, .ref y11, .ref y12, .ref y13, .int 0, .ref y15, .ref y16, .ref y17, .ref y18, .ref y19, .ref y20, .ref y21, .ref y22]))  : cI l yX9_missed wsX9_missed { frames := 1, cells := 0, slots := 0, locals := 21 } D g [.ref y, .int i] L f 0 0 (fun z L1 f1 => z = -1 ∧ L1 = L ∧ f1 = f) := by
  refine cI_of (cc := cX9_missed) (maxL := 4) (ret := (some .int)) (by decide) rfl (Nat.le_of_ble_eq_true rfl) ?_
  intro sz p e s m below meth c hx hb hr hml hts hown hlk hnm S ls hl
  have hl : lv_has ls 4 [(0, .ref y), (1, .int i)] := hl
  refine lv_aload_n hx hb dX9_missed_0 rfl (lv_at hl 0 rfl) ?_
  refine lv_iload_n hx hb dX9_missed_1 rfl (lv_at hl 1 rfl) ?_
  refine q_vi (As := [.int i]) (rest := []) ⟨hx, hb, hml, hown, hts⟩ (c_X9_is0 l D g m_y e_y) (cwV 1 hts gX9_missed_X9_is rfl rfl rfl (by decide +kernel) ⟨Nat.le_of_ble_eq_true rfl, Nat.le_of_ble_eq_true rfl⟩) S m_y e_y (T := TX9) (N := 23) rfl rfl hl.1 rfl (Nat.le_of_ble_eq_true rfl) dX9_missed_2 ⟨Nat.le_of_ble_eq_true rfl, Nat.le_of_ble_eq_true rfl⟩ (fun r3 L1 f2 H locs S w2 => ?_)
  obtain ⟨exw2, eLw2, efw2⟩ := w2
  rw [eLw2, efw2] at S
  subst exw2
  refine lv_if_ne (tgt := 10) hx hb dX9_missed_5 (by decide) (fun b5 => absurd b5 (fun h => h rfl)) (fun b5 => ?_)
  refine lv_iconst (v := -1) hx hb dX9_missed_8 (by decide) ?_
  exact q_reti (post := fun z L1 f1 => z = -1 ∧ L1 = L ∧ f1 = f) hx hb hr hlk S dX9_missed_9 (by decide) (by decide) (⟨rfl, rfl, rfl⟩)

set_option maxHeartbeats 4000000 in
set_option maxRecDepth 100000 in
/-- reference: fold of a new one -/
theorem c_X9_fold0 (l : Launch) (D : va_G) (g : Nat → ClassId) {L : List Nat} {f : Nat → va_E} {y y0 y1 y2 y3 y4 y5 y6 y7 y8 y9 y10 y11 y12 y13 y15 y16 y17 y18 y19 y20 y21 y22 : Nat}   {i : Int32} (m_y : y ∈ L) (e_y : f y = .inr (7, [.ref y0, .ref y1, .ref y2, .ref y3, .ref y4, .ref y5, .ref y6, .ref y7, .ref y8, .ref y9, .ref y10, .ref y11, .ref y12, .ref y13, .int 0, .ref y15, .ref y16, .ref y17, .ref y18, .ref y19, .ref y20, .ref y21, .ref y22]))  : cI l yX9_fold wsX9_fold { frames := 1, cells := 0, slots := 0, locals := 21 } D g [.ref y, .int i] L f 0 0 (fun z L1 f1 => z = -1 ∧ L1 = L ∧ f1 = f) := by
  refine cI_of (cc := cX9_fold) (maxL := 5) (ret := (some .int)) (by decide) rfl (Nat.le_of_ble_eq_true rfl) ?_
  intro sz p e s m below meth c hx hb hr hml hts hown hlk hnm S ls hl
  have hl : lv_has ls 5 [(0, .ref y), (1, .int i)] := hl
  refine lv_aload_n hx hb dX9_fold_0 rfl (lv_at hl 0 rfl) ?_
  refine lv_iload_n hx hb dX9_fold_1 rfl (lv_at hl 1 rfl) ?_
  refine q_vi (As := [.int i]) (rest := []) ⟨hx, hb, hml, hown, hts⟩ (c_X9_is0 l D g m_y e_y) (cwV 1 hts gX9_fold_X9_is rfl rfl rfl (by decide +kernel) ⟨Nat.le_of_ble_eq_true rfl, Nat.le_of_ble_eq_true rfl⟩) S m_y e_y (T := TX9) (N := 23) rfl rfl hl.1 rfl (Nat.le_of_ble_eq_true rfl) dX9_fold_2 ⟨Nat.le_of_ble_eq_true rfl, Nat.le_of_ble_eq_true rfl⟩ (fun r3 L1 f2 H locs S w2 => ?_)
  obtain ⟨exw2, eLw2, efw2⟩ := w2
  rw [eLw2, efw2] at S
  subst exw2
  refine lv_if_ne (tgt := 10) hx hb dX9_fold_5 (by decide) (fun b5 => absurd b5 (fun h => h rfl)) (fun b5 => ?_)
  refine lv_iconst (v := -1) hx hb dX9_fold_8 (by decide) ?_
  exact q_reti (post := fun z L1 f1 => z = -1 ∧ L1 = L ∧ f1 = f) hx hb hr hlk S dX9_fold_9 (by decide) (by decide) (⟨rfl, rfl, rfl⟩)

set_option maxHeartbeats 4000000 in
set_option maxRecDepth 100000 in
/-- reference: about of a new one -/
theorem c_X9_about0 (l : Launch) (D : va_G) (g : Nat → ClassId) {L : List Nat} {f : Nat → va_E} {y y0 y1 y2 y3 y4 y5 y6 y7 y8 y9 y10 y11 y12 y13 y15 y16 y17 y18 y19 y20 y21 y22 : Nat}   {i k : Int32} (m_y : y ∈ L) (e_y : f y = .inr (7, [.ref y0, .ref y1, .ref y2, .ref y3, .ref y4, .ref y5, .ref y6, .ref y7, .ref y8, .ref y9, .ref y10, .ref y11, .ref y12, .ref y13, .int 0, .ref y15, .ref y16, .ref y17, .ref y18, .ref y19, .ref y20, .ref y21, .ref y22]))  : cI l yX9_about wsX9_about { frames := 1, cells := 0, slots := 0, locals := 21 } D g [.ref y, .int i, .int k] L f 0 0 (fun z L1 f1 => z = -1 ∧ L1 = L ∧ f1 = f) := by
  refine cI_of (cc := cX9_about) (maxL := 3) (ret := (some .int)) (by decide) rfl (Nat.le_of_ble_eq_true rfl) ?_
  intro sz p e s m below meth c hx hb hr hml hts hown hlk hnm S ls hl
  have hl : lv_has ls 3 [(0, .ref y), (1, .int i), (2, .int k)] := hl
  refine lv_aload_n hx hb dX9_about_0 rfl (lv_at hl 0 rfl) ?_
  refine lv_iload_n hx hb dX9_about_1 rfl (lv_at hl 1 rfl) ?_
  refine q_vi (As := [.int i]) (rest := []) ⟨hx, hb, hml, hown, hts⟩ (c_X9_is0 l D g m_y e_y) (cwV 1 hts gX9_about_X9_is rfl rfl rfl (by decide +kernel) ⟨Nat.le_of_ble_eq_true rfl, Nat.le_of_ble_eq_true rfl⟩) S m_y e_y (T := TX9) (N := 23) rfl rfl hl.1 rfl (Nat.le_of_ble_eq_true rfl) dX9_about_2 ⟨Nat.le_of_ble_eq_true rfl, Nat.le_of_ble_eq_true rfl⟩ (fun r3 L1 f2 H locs S w2 => ?_)
  obtain ⟨exw2, eLw2, efw2⟩ := w2
  rw [eLw2, efw2] at S
  subst exw2
  refine lv_if_eq (tgt := 18) hx hb dX9_about_5 (by decide) (fun b5 => ?_) (fun b5 => absurd (rfl) b5)
  refine lv_iconst (v := -1) hx hb dX9_about_18 (by decide) ?_
  exact q_reti (post := fun z L1 f1 => z = -1 ∧ L1 = L ∧ f1 = f) hx hb hr hlk S dX9_about_19 (by decide) (by decide) (⟨rfl, rfl, rfl⟩)

set_option maxHeartbeats 4000000 in
set_option maxRecDepth 100000 in
/-- reference: cell of a new one -/
theorem c_X9_cell0 (l : Launch) (D : va_G) (g : Nat → ClassId) {L : List Nat} {f : Nat → va_E} {y y0 y1 y2 y3 y4 y5 y6 y7 y8 y9 y10 y11 y12 y13 y15 y16 y17 y18 y19 y20 y21 y22 : Nat}   {i k : Int32} (m_y : y ∈ L) (e_y : f y = .inr (7, [.ref y0, .ref y1, .ref y2, .ref y3, .ref y4, .ref y5, .ref y6, .ref y7, .ref y8, .ref y9, .ref y10, .ref y11, .ref y12, .ref y13, .int 0, .ref y15, .ref y16, .ref y17, .ref y18, .ref y19, .ref y20, .ref y21, .ref y22]))  : cI l yX9_cell wsX9_cell { frames := 1, cells := 0, slots := 0, locals := 21 } D g [.ref y, .int i, .int k] L f 0 0 (fun z L1 f1 => z = -1 ∧ L1 = L ∧ f1 = f) := by
  refine cI_of (cc := cX9_cell) (maxL := 3) (ret := (some .int)) (by decide) rfl (Nat.le_of_ble_eq_true rfl) ?_
  intro sz p e s m below meth c hx hb hr hml hts hown hlk hnm S ls hl
  have hl : lv_has ls 3 [(0, .ref y), (1, .int i), (2, .int k)] := hl
  refine lv_aload_n hx hb dX9_cell_0 rfl (lv_at hl 0 rfl) ?_
  refine lv_iload_n hx hb dX9_cell_1 rfl (lv_at hl 1 rfl) ?_
  refine q_vi (As := [.int i]) (rest := []) ⟨hx, hb, hml, hown, hts⟩ (c_X9_is0 l D g m_y e_y) (cwV 1 hts gX9_cell_X9_is rfl rfl rfl (by decide +kernel) ⟨Nat.le_of_ble_eq_true rfl, Nat.le_of_ble_eq_true rfl⟩) S m_y e_y (T := TX9) (N := 23) rfl rfl hl.1 rfl (Nat.le_of_ble_eq_true rfl) dX9_cell_2 ⟨Nat.le_of_ble_eq_true rfl, Nat.le_of_ble_eq_true rfl⟩ (fun r3 L1 f2 H locs S w2 => ?_)
  obtain ⟨exw2, eLw2, efw2⟩ := w2
  rw [eLw2, efw2] at S
  subst exw2
  refine lv_if_ne (tgt := 10) hx hb dX9_cell_5 (by decide) (fun b5 => absurd b5 (fun h => h rfl)) (fun b5 => ?_)
  refine lv_iconst (v := -1) hx hb dX9_cell_8 (by decide) ?_
  exact q_reti (post := fun z L1 f1 => z = -1 ∧ L1 = L ∧ f1 = f) hx hb hr hlk S dX9_cell_9 (by decide) (by decide) (⟨rfl, rfl, rfl⟩)

set_option maxHeartbeats 4000000 in
set_option maxRecDepth 100000 in
/-- reference: layer of a new one -/
theorem c_X9_layer0 (l : Launch) (D : va_G) (g : Nat → ClassId) {L : List Nat} {f : Nat → va_E} {y y0 y1 y2 y3 y4 y5 y6 y7 y8 y9 y10 y11 y12 y13 y15 y16 y17 y18 y19 y20 y21 y22 : Nat}   {i k q : Int32} (m_y : y ∈ L) (e_y : f y = .inr (7, [.ref y0, .ref y1, .ref y2, .ref y3, .ref y4, .ref y5, .ref y6, .ref y7, .ref y8, .ref y9, .ref y10, .ref y11, .ref y12, .ref y13, .int 0, .ref y15, .ref y16, .ref y17, .ref y18, .ref y19, .ref y20, .ref y21, .ref y22]))  : cI l yX9_layer wsX9_layer { frames := 1, cells := 0, slots := 0, locals := 21 } D g [.ref y, .int i, .int k, .int q] L f 0 0 (fun z L1 f1 => z = -1 ∧ L1 = L ∧ f1 = f) := by
  refine cI_of (cc := cX9_layer) (maxL := 7) (ret := (some .int)) (by decide) rfl (Nat.le_of_ble_eq_true rfl) ?_
  intro sz p e s m below meth c hx hb hr hml hts hown hlk hnm S ls hl
  have hl : lv_has ls 7 [(0, .ref y), (1, .int i), (2, .int k), (3, .int q)] := hl
  refine lv_aload_n hx hb dX9_layer_0 rfl (lv_at hl 0 rfl) ?_
  refine lv_iload_n hx hb dX9_layer_1 rfl (lv_at hl 1 rfl) ?_
  refine q_vi (As := [.int i]) (rest := []) ⟨hx, hb, hml, hown, hts⟩ (c_X9_is0 l D g m_y e_y) (cwV 1 hts gX9_layer_X9_is rfl rfl rfl (by decide +kernel) ⟨Nat.le_of_ble_eq_true rfl, Nat.le_of_ble_eq_true rfl⟩) S m_y e_y (T := TX9) (N := 23) rfl rfl hl.1 rfl (Nat.le_of_ble_eq_true rfl) dX9_layer_2 ⟨Nat.le_of_ble_eq_true rfl, Nat.le_of_ble_eq_true rfl⟩ (fun r3 L1 f2 H locs S w2 => ?_)
  obtain ⟨exw2, eLw2, efw2⟩ := w2
  rw [eLw2, efw2] at S
  subst exw2
  refine lv_if_eq (tgt := 17) hx hb dX9_layer_5 (by decide) (fun b5 => ?_) (fun b5 => absurd (rfl) b5)
  refine lv_iconst (v := -1) hx hb dX9_layer_17 (by decide) ?_
  exact q_reti (post := fun z L1 f1 => z = -1 ∧ L1 = L ∧ f1 = f) hx hb hr hlk S dX9_layer_18 (by decide) (by decide) (⟨rfl, rfl, rfl⟩)

set_option maxHeartbeats 4000000 in
set_option maxRecDepth 100000 in
/-- reference: mark of a new one -/
theorem c_X9_mark0 (l : Launch) (D : va_G) (g : Nat → ClassId) {L : List Nat} {f : Nat → va_E} {y y0 y1 y2 y3 y4 y5 y6 y7 y8 y9 y10 y11 y12 y13 y15 y16 y17 y18 y19 y20 y21 y22 : Nat}   {i k : Int32} {t : Int64} (m_y : y ∈ L) (e_y : f y = .inr (7, [.ref y0, .ref y1, .ref y2, .ref y3, .ref y4, .ref y5, .ref y6, .ref y7, .ref y8, .ref y9, .ref y10, .ref y11, .ref y12, .ref y13, .int 0, .ref y15, .ref y16, .ref y17, .ref y18, .ref y19, .ref y20, .ref y21, .ref y22]))  : cI l yX9_mark wsX9_mark { frames := 1, cells := 0, slots := 0, locals := 21 } D g [.ref y, .int i, .long t, .int k] L f 0 0 (fun z L1 f1 => z = -1 ∧ L1 = L ∧ f1 = f) := by
  refine cI_of (cc := cX9_mark) (maxL := 8) (ret := (some .int)) (by decide) rfl (Nat.le_of_ble_eq_true rfl) ?_
  intro sz p e s m below meth c hx hb hr hml hts hown hlk hnm S ls hl
  have hl : lv_has ls 8 [(0, .ref y), (1, .int i), (2, .long t), (4, .int k)] := hl
  refine lv_aload_n hx hb dX9_mark_0 rfl (lv_at hl 0 rfl) ?_
  refine lv_iload_n hx hb dX9_mark_1 rfl (lv_at hl 1 rfl) ?_
  refine q_vi (As := [.int i]) (rest := []) ⟨hx, hb, hml, hown, hts⟩ (c_X9_is0 l D g m_y e_y) (cwV 1 hts gX9_mark_X9_is rfl rfl rfl (by decide +kernel) ⟨Nat.le_of_ble_eq_true rfl, Nat.le_of_ble_eq_true rfl⟩) S m_y e_y (T := TX9) (N := 23) rfl rfl hl.1 rfl (Nat.le_of_ble_eq_true rfl) dX9_mark_2 ⟨Nat.le_of_ble_eq_true rfl, Nat.le_of_ble_eq_true rfl⟩ (fun r3 L1 f2 H locs S w2 => ?_)
  obtain ⟨exw2, eLw2, efw2⟩ := w2
  rw [eLw2, efw2] at S
  subst exw2
  refine lv_if_ne (tgt := 10) hx hb dX9_mark_5 (by decide) (fun b5 => absurd b5 (fun h => h rfl)) (fun b5 => ?_)
  refine lv_iconst (v := -1) hx hb dX9_mark_8 (by decide) ?_
  exact q_reti (post := fun z L1 f1 => z = -1 ∧ L1 = L ∧ f1 = f) hx hb hr hlk S dX9_mark_9 (by decide) (by decide) (⟨rfl, rfl, rfl⟩)

set_option maxHeartbeats 4000000 in
set_option maxRecDepth 100000 in
/-- reference: join of a new one -/
theorem c_X9_join0 (l : Launch) (D : va_G) (g : Nat → ClassId) {L : List Nat} {f : Nat → va_E} {y y0 y1 y2 y3 y4 y5 y6 y7 y8 y9 y10 y11 y12 y13 y15 y16 y17 y18 y19 y20 y21 y22 : Nat}   {i k q : Int32} (m_y : y ∈ L) (e_y : f y = .inr (7, [.ref y0, .ref y1, .ref y2, .ref y3, .ref y4, .ref y5, .ref y6, .ref y7, .ref y8, .ref y9, .ref y10, .ref y11, .ref y12, .ref y13, .int 0, .ref y15, .ref y16, .ref y17, .ref y18, .ref y19, .ref y20, .ref y21, .ref y22]))  : cI l yX9_join wsX9_join { frames := 1, cells := 0, slots := 0, locals := 21 } D g [.ref y, .int i, .int k, .int q] L f 0 0 (fun z L1 f1 => z = -1 ∧ L1 = L ∧ f1 = f) := by
  refine cI_of (cc := cX9_join) (maxL := 8) (ret := (some .int)) (by decide) rfl (Nat.le_of_ble_eq_true rfl) ?_
  intro sz p e s m below meth c hx hb hr hml hts hown hlk hnm S ls hl
  have hl : lv_has ls 8 [(0, .ref y), (1, .int i), (2, .int k), (3, .int q)] := hl
  refine lv_iload_n hx hb dX9_join_0 rfl (lv_at hl 1 rfl) ?_
  refine lv_if_lt (tgt := 25) hx hb dX9_join_1 (by decide) (fun b1 => ?_) (fun b1 => ?_)
  · skip
    refine lv_iconst (v := -1) hx hb dX9_join_25 (by decide) ?_
    exact q_reti (post := fun z L1 f1 => z = -1 ∧ L1 = L ∧ f1 = f) hx hb hr hlk S dX9_join_26 (by decide) (by decide) (⟨rfl, rfl, rfl⟩)
  · skip
    refine lv_iload_n hx hb dX9_join_4 rfl (lv_at hl 1 rfl) ?_
    refine lv_iconst (v := 1) hx hb dX9_join_5 (by decide) ?_
    refine lv_icmp_gt (tgt := 25) hx hb dX9_join_6 (by decide) (fun b6 => ?_) (fun b6 => ?_)
    · skip
      refine lv_iconst (v := -1) hx hb dX9_join_25 (by decide) ?_
      exact q_reti (post := fun z L1 f1 => z = -1 ∧ L1 = L ∧ f1 = f) hx hb hr hlk S dX9_join_26 (by decide) (by decide) (⟨rfl, rfl, rfl⟩)
    · skip
      refine lv_aload_n hx hb dX9_join_9 rfl (lv_at hl 0 rfl) ?_
      refine lv_iload_n hx hb dX9_join_10 rfl (lv_at hl 2 rfl) ?_
      refine q_vi (As := [.int k]) (rest := []) ⟨hx, hb, hml, hown, hts⟩ (c_X9_is0 l D g m_y e_y) (cwV 1 hts gX9_join_X9_is rfl rfl rfl (by decide +kernel) ⟨Nat.le_of_ble_eq_true rfl, Nat.le_of_ble_eq_true rfl⟩) S m_y e_y (T := TX9) (N := 23) rfl rfl hl.1 rfl (Nat.le_of_ble_eq_true rfl) dX9_join_11 ⟨Nat.le_of_ble_eq_true rfl, Nat.le_of_ble_eq_true rfl⟩ (fun r3 L1 f2 H locs S w11 => ?_)
      obtain ⟨exw11, eLw11, efw11⟩ := w11
      rw [eLw11, efw11] at S
      subst exw11
      refine lv_if_eq (tgt := 25) hx hb dX9_join_14 (by decide) (fun b14 => ?_) (fun b14 => absurd (rfl) b14)
      refine lv_iconst (v := -1) hx hb dX9_join_25 (by decide) ?_
      exact q_reti (post := fun z L1 f1 => z = -1 ∧ L1 = L ∧ f1 = f) hx hb hr hlk S dX9_join_26 (by decide) (by decide) (⟨rfl, rfl, rfl⟩)

set_option maxHeartbeats 4000000 in
set_option maxRecDepth 100000 in
/-- reference: putAll of a new one -/
theorem c_X9_putAll0 (l : Launch) (D : va_G) (g : Nat → ClassId) {L : List Nat} {f : Nat → va_E} {y y0 y1 y2 y3 y4 y5 y6 y7 y8 y9 y10 y11 y12 y13 y15 y16 y17 y18 y19 y20 y21 y22 : Nat}   {i w : Int32} (m_y : y ∈ L) (e_y : f y = .inr (7, [.ref y0, .ref y1, .ref y2, .ref y3, .ref y4, .ref y5, .ref y6, .ref y7, .ref y8, .ref y9, .ref y10, .ref y11, .ref y12, .ref y13, .int 0, .ref y15, .ref y16, .ref y17, .ref y18, .ref y19, .ref y20, .ref y21, .ref y22]))  : cI l yX9_putAll wsX9_putAll { frames := 1, cells := 0, slots := 0, locals := 21 } D g [.ref y, .int i, .int w] L f 0 0 (fun z L1 f1 => z = -1 ∧ L1 = L ∧ f1 = f) := by
  refine cI_of (cc := cX9_putAll) (maxL := 4) (ret := (some .int)) (by decide) rfl (Nat.le_of_ble_eq_true rfl) ?_
  intro sz p e s m below meth c hx hb hr hml hts hown hlk hnm S ls hl
  have hl : lv_has ls 4 [(0, .ref y), (1, .int i), (2, .int w)] := hl
  refine lv_aload_n hx hb dX9_putAll_0 rfl (lv_at hl 0 rfl) ?_
  refine lv_iload_n hx hb dX9_putAll_1 rfl (lv_at hl 1 rfl) ?_
  refine q_vi (As := [.int i]) (rest := []) ⟨hx, hb, hml, hown, hts⟩ (c_X9_is0 l D g m_y e_y) (cwV 1 hts gX9_putAll_X9_is rfl rfl rfl (by decide +kernel) ⟨Nat.le_of_ble_eq_true rfl, Nat.le_of_ble_eq_true rfl⟩) S m_y e_y (T := TX9) (N := 23) rfl rfl hl.1 rfl (Nat.le_of_ble_eq_true rfl) dX9_putAll_2 ⟨Nat.le_of_ble_eq_true rfl, Nat.le_of_ble_eq_true rfl⟩ (fun r3 L1 f2 H locs S w2 => ?_)
  obtain ⟨exw2, eLw2, efw2⟩ := w2
  rw [eLw2, efw2] at S
  subst exw2
  refine lv_if_eq (tgt := 15) hx hb dX9_putAll_5 (by decide) (fun b5 => ?_) (fun b5 => absurd (rfl) b5)
  refine lv_iconst (v := -1) hx hb dX9_putAll_15 (by decide) ?_
  exact q_reti (post := fun z L1 f1 => z = -1 ∧ L1 = L ∧ f1 = f) hx hb hr hlk S dX9_putAll_16 (by decide) (by decide) (⟨rfl, rfl, rfl⟩)

set_option maxHeartbeats 4000000 in
set_option maxRecDepth 100000 in
/-- reference: falses of a new one -/
theorem c_X9_falses0 (l : Launch) (D : va_G) (g : Nat → ClassId) {L : List Nat} {f : Nat → va_E} {y y0 y1 y2 y3 y4 y5 y6 y7 y8 y9 y10 y11 y12 y13 y15 y16 y17 y18 y19 y20 y21 y22 : Nat}   {i w : Int32} (m_y : y ∈ L) (e_y : f y = .inr (7, [.ref y0, .ref y1, .ref y2, .ref y3, .ref y4, .ref y5, .ref y6, .ref y7, .ref y8, .ref y9, .ref y10, .ref y11, .ref y12, .ref y13, .int 0, .ref y15, .ref y16, .ref y17, .ref y18, .ref y19, .ref y20, .ref y21, .ref y22]))  : cI l yX9_falses wsX9_falses { frames := 1, cells := 0, slots := 0, locals := 21 } D g [.ref y, .int i, .int w] L f 0 0 (fun z L1 f1 => z = -1 ∧ L1 = L ∧ f1 = f) := by
  refine cI_of (cc := cX9_falses) (maxL := 7) (ret := (some .int)) (by decide) rfl (Nat.le_of_ble_eq_true rfl) ?_
  intro sz p e s m below meth c hx hb hr hml hts hown hlk hnm S ls hl
  have hl : lv_has ls 7 [(0, .ref y), (1, .int i), (2, .int w)] := hl
  refine lv_aload_n hx hb dX9_falses_0 rfl (lv_at hl 0 rfl) ?_
  refine lv_iload_n hx hb dX9_falses_1 rfl (lv_at hl 1 rfl) ?_
  refine q_vi (As := [.int i]) (rest := []) ⟨hx, hb, hml, hown, hts⟩ (c_X9_is0 l D g m_y e_y) (cwV 1 hts gX9_falses_X9_is rfl rfl rfl (by decide +kernel) ⟨Nat.le_of_ble_eq_true rfl, Nat.le_of_ble_eq_true rfl⟩) S m_y e_y (T := TX9) (N := 23) rfl rfl hl.1 rfl (Nat.le_of_ble_eq_true rfl) dX9_falses_2 ⟨Nat.le_of_ble_eq_true rfl, Nat.le_of_ble_eq_true rfl⟩ (fun r3 L1 f2 H locs S w2 => ?_)
  obtain ⟨exw2, eLw2, efw2⟩ := w2
  rw [eLw2, efw2] at S
  subst exw2
  refine lv_if_eq (tgt := 15) hx hb dX9_falses_5 (by decide) (fun b5 => ?_) (fun b5 => absurd (rfl) b5)
  refine lv_iconst (v := -1) hx hb dX9_falses_15 (by decide) ?_
  exact q_reti (post := fun z L1 f1 => z = -1 ∧ L1 = L ∧ f1 = f) hx hb hr hlk S dX9_falses_16 (by decide) (by decide) (⟨rfl, rfl, rfl⟩)

set_option maxHeartbeats 4000000 in
set_option maxRecDepth 100000 in
/-- reference: falseOne of a new one -/
theorem c_X9_falseOne0 (l : Launch) (D : va_G) (g : Nat → ClassId) {L : List Nat} {f : Nat → va_E} {y y0 y1 y2 y3 y4 y5 y6 y7 y8 y9 y10 y11 y12 y13 y15 y16 y17 y18 y19 y20 y21 y22 : Nat}   {i w q : Int32} (m_y : y ∈ L) (e_y : f y = .inr (7, [.ref y0, .ref y1, .ref y2, .ref y3, .ref y4, .ref y5, .ref y6, .ref y7, .ref y8, .ref y9, .ref y10, .ref y11, .ref y12, .ref y13, .int 0, .ref y15, .ref y16, .ref y17, .ref y18, .ref y19, .ref y20, .ref y21, .ref y22]))  : cL l yX9_falseOne wsX9_falseOne { frames := 1, cells := 0, slots := 0, locals := 21 } D g [.ref y, .int i, .int w, .int q] L f 0 0 (fun z L1 f1 => z = 0 ∧ L1 = L ∧ f1 = f) := by
  refine cL_of (cc := cX9_falseOne) (maxL := 8) (ret := (some .long)) (by decide) rfl (Nat.le_of_ble_eq_true rfl) ?_
  intro sz p e s m below meth c hx hb hr hml hts hown hlk hnm S ls hl
  have hl : lv_has ls 8 [(0, .ref y), (1, .int i), (2, .int w), (3, .int q)] := hl
  refine lv_aload_n hx hb dX9_falseOne_0 rfl (lv_at hl 0 rfl) ?_
  refine lv_iload_n hx hb dX9_falseOne_1 rfl (lv_at hl 1 rfl) ?_
  refine q_vi (As := [.int i]) (rest := []) ⟨hx, hb, hml, hown, hts⟩ (c_X9_is0 l D g m_y e_y) (cwV 1 hts gX9_falseOne_X9_is rfl rfl rfl (by decide +kernel) ⟨Nat.le_of_ble_eq_true rfl, Nat.le_of_ble_eq_true rfl⟩) S m_y e_y (T := TX9) (N := 23) rfl rfl hl.1 rfl (Nat.le_of_ble_eq_true rfl) dX9_falseOne_2 ⟨Nat.le_of_ble_eq_true rfl, Nat.le_of_ble_eq_true rfl⟩ (fun r3 L1 f2 H locs S w2 => ?_)
  obtain ⟨exw2, eLw2, efw2⟩ := w2
  rw [eLw2, efw2] at S
  subst exw2
  refine lv_if_eq (tgt := 19) hx hb dX9_falseOne_5 (by decide) (fun b5 => ?_) (fun b5 => absurd (rfl) b5)
  refine lv_lconst (v := 0) hx hb dX9_falseOne_19 (by decide) ?_
  exact q_retl (post := fun z L1 f1 => z = 0 ∧ L1 = L ∧ f1 = f) hx hb hr hlk S dX9_falseOne_20 (by decide) (by decide) (⟨rfl, rfl, rfl⟩)

set_option maxHeartbeats 4000000 in
set_option maxRecDepth 100000 in
/-- reference: remove of a new one -/
theorem c_X9_remove0 (l : Launch) (D : va_G) (g : Nat → ClassId) {L : List Nat} {f : Nat → va_E} {y y0 y1 y2 y3 y4 y5 y6 y7 y8 y9 y10 y11 y12 y13 y15 y16 y17 y18 y19 y20 y21 y22 : Nat}   (m_y : y ∈ L) (e_y : f y = .inr (7, [.ref y0, .ref y1, .ref y2, .ref y3, .ref y4, .ref y5, .ref y6, .ref y7, .ref y8, .ref y9, .ref y10, .ref y11, .ref y12, .ref y13, .int 0, .ref y15, .ref y16, .ref y17, .ref y18, .ref y19, .ref y20, .ref y21, .ref y22]))  : cI l yX9_remove wsX9_remove { frames := 0, cells := 0, slots := 0, locals := 0 } D g [.ref y] L f 0 0 (fun z L1 f1 => z = -1 ∧ L1 = L ∧ f1 = f) := by
  refine cI_of (cc := cX9_remove) (maxL := 1) (ret := (some .int)) (by decide) rfl (Nat.le_of_ble_eq_true rfl) ?_
  intro sz p e s m below meth c hx hb hr hml hts hown hlk hnm S ls hl
  have hl : lv_has ls 1 [(0, .ref y)] := hl
  have in_X9 : ∀ w ∈ wsX90, w ∈ wsX9_remove := by decide +kernel
  refine lv_aload_n hx hb dX9_remove_0 rfl (lv_at hl 0 rfl) ?_
  refine q_get hx hb hts in_X9 hown S m_y e_y (C := RX9) (T := TX9) (N := 23) rfl 14 (by decide) rfl (hts (.fieldLink RX9 88 "SieveCabinetModel" "many" "I") (by decide +kernel)) dX9_remove_1 ?_
  refine lv_if_ne (tgt := 9) hx hb dX9_remove_4 (by decide) (fun b4 => absurd b4 (fun h => h rfl)) (fun b4 => ?_)
  refine lv_iconst (v := -1) hx hb dX9_remove_7 (by decide) ?_
  exact q_reti (post := fun z L1 f1 => z = -1 ∧ L1 = L ∧ f1 = f) hx hb hr hlk S dX9_remove_8 (by decide) (by decide) (⟨rfl, rfl, rfl⟩)

set_option maxHeartbeats 4000000 in
set_option maxRecDepth 100000 in
/-- reference: sieves of a new one -/
theorem c_X9_sieves0 (l : Launch) (D : va_G) (g : Nat → ClassId) {L : List Nat} {f : Nat → va_E} {y y0 y1 y2 y3 y4 y5 y6 y7 y8 y9 y10 y11 y12 y13 y15 y16 y17 y18 y19 y20 y21 y22 : Nat}   (m_y : y ∈ L) (e_y : f y = .inr (7, [.ref y0, .ref y1, .ref y2, .ref y3, .ref y4, .ref y5, .ref y6, .ref y7, .ref y8, .ref y9, .ref y10, .ref y11, .ref y12, .ref y13, .int 0, .ref y15, .ref y16, .ref y17, .ref y18, .ref y19, .ref y20, .ref y21, .ref y22]))  : cI l yX9_sieves wsX9_sieves { frames := 0, cells := 0, slots := 0, locals := 0 } D g [.ref y] L f 0 0 (fun z L1 f1 => z = 0 ∧ L1 = L ∧ f1 = f) := by
  refine cI_of (cc := cX9_sieves) (maxL := 1) (ret := (some .int)) (by decide) rfl (Nat.le_of_ble_eq_true rfl) ?_
  intro sz p e s m below meth c hx hb hr hml hts hown hlk hnm S ls hl
  have hl : lv_has ls 1 [(0, .ref y)] := hl
  have in_X9 : ∀ w ∈ wsX90, w ∈ wsX9_sieves := by decide +kernel
  refine lv_aload_n hx hb dX9_sieves_0 rfl (lv_at hl 0 rfl) ?_
  refine q_get hx hb hts in_X9 hown S m_y e_y (C := RX9) (T := TX9) (N := 23) rfl 14 (by decide) rfl (hts (.fieldLink RX9 88 "SieveCabinetModel" "many" "I") (by decide +kernel)) dX9_sieves_1 ?_
  exact q_reti (post := fun z L1 f1 => z = 0 ∧ L1 = L ∧ f1 = f) hx hb hr hlk S dX9_sieves_4 (by decide) (by decide) (⟨rfl, rfl, rfl⟩)

set_option maxHeartbeats 4000000 in
set_option maxRecDepth 100000 in
/-- reference: things of a new one -/
theorem c_X9_things0 (l : Launch) (D : va_G) (g : Nat → ClassId) {L : List Nat} {f : Nat → va_E} {y y0 y1 y2 y3 y4 y5 y6 y7 y8 y9 y10 y11 y12 y13 y15 y16 y17 y18 y19 y20 y21 y22 : Nat} {iw : Nat → Int32}  {w : Int32} (m_y : y ∈ L) (e_y : f y = .inr (7, [.ref y0, .ref y1, .ref y2, .ref y3, .ref y4, .ref y5, .ref y6, .ref y7, .ref y8, .ref y9, .ref y10, .ref y11, .ref y12, .ref y13, .int 0, .ref y15, .ref y16, .ref y17, .ref y18, .ref y19, .ref y20, .ref y21, .ref y22])) (m_y1 : y1 ∈ L) (e_y1 : f y1 = .inl (g 0, 8, .inl iw)) (hI : ∀ j, j < 8 → iw j = 0) : cI l yX9_things wsX9_things { frames := 1, cells := 0, slots := 0, locals := 20 } D g [.ref y, .int w] L f 0 0 (fun z L1 f1 => z = (if ¬ w < 0 ∧ ¬ 8 ≤ w then 0 else -1) ∧ L1 = L ∧ f1 = f) := by
  refine cI_of (cc := cX9_things) (maxL := 2) (ret := (some .int)) (by decide) rfl (Nat.le_of_ble_eq_true rfl) ?_
  intro sz p e s m below meth c hx hb hr hml hts hown hlk hnm S ls hl
  have hl : lv_has ls 2 [(0, .ref y), (1, .int w)] := hl
  have in_X9 : ∀ w ∈ wsX90, w ∈ wsX9_things := by decide +kernel
  refine lv_iload_n hx hb dX9_things_0 rfl (lv_at hl 1 rfl) ?_
  refine q_si (As := [.int w]) (rest := []) ⟨hx, hb, hml, hown, hts⟩ (c_X9_isWorld l D g (w := w)) (va_cwS 1 hts gX9_things_X9_isWorld rfl rfl rfl (by decide +kernel) ⟨Nat.le_of_ble_eq_true rfl, Nat.le_of_ble_eq_true rfl⟩) S rfl hl.1 rfl (Nat.le_of_ble_eq_true rfl) dX9_things_1 ⟨Nat.le_of_ble_eq_true rfl, Nat.le_of_ble_eq_true rfl⟩ (fun r3 L1 f2 H locs S w1 => ?_)
  obtain ⟨exw1, eLw1, efw1⟩ := w1
  rw [eLw1, efw1] at S
  by_cases hw1 : ¬ w < 0 ∧ ¬ 8 ≤ w
  · skip
    rw [if_pos hw1] at exw1
    subst exw1
    obtain ⟨j1, hj1, ej1⟩ := pu_of (n := 8) hw1.1 hw1.2 (by decide)
    refine lv_if_eq (tgt := 16) hx hb dX9_things_4 (by decide) (fun b4 => absurd b4 (by decide)) (fun b4 => ?_)
    refine lv_aload_n hx hb dX9_things_7 rfl (lv_at hl 0 rfl) ?_
    refine q_get hx hb hts in_X9 hown S m_y e_y (C := RX9) (T := TX9) (N := 23) rfl 1 (by decide) rfl (hts (.fieldLink RX9 13 "SieveCabinetModel" "inWorld" "[I") (by decide +kernel)) dX9_things_8 ?_
    refine lv_iload_n hx hb dX9_things_11 rfl (lv_at hl 1 rfl) ?_
    refine q_iald hx hb S m_y1 e_y1 (by rw [ej1]; exact vp_in_nI hj1 (by decide)) dX9_things_12 ?_
    refine lv_goto (tgt := 17) hx hb dX9_things_13 (by decide) ?_
    exact q_reti (post := fun z L1 f1 => z = (if ¬ w < 0 ∧ ¬ 8 ≤ w then 0 else -1) ∧ L1 = L ∧ f1 = f) hx hb hr hlk S dX9_things_17 (by decide) (by decide) (⟨by rw [if_pos hw1, ej1, nI_clamp (by omega), hI _ hj1], rfl, rfl⟩)
  · skip
    rw [if_neg hw1] at exw1
    subst exw1
    refine lv_if_eq (tgt := 16) hx hb dX9_things_4 (by decide) (fun b4 => ?_) (fun b4 => absurd (rfl) b4)
    refine lv_iconst (v := -1) hx hb dX9_things_16 (by decide) ?_
    exact q_reti (post := fun z L1 f1 => z = (if ¬ w < 0 ∧ ¬ 8 ≤ w then 0 else -1) ∧ L1 = L ∧ f1 = f) hx hb hr hlk S dX9_things_17 (by decide) (by decide) (⟨(if_neg hw1).symm, rfl, rfl⟩)

set_option maxHeartbeats 4000000 in
set_option maxRecDepth 100000 in
/-- reference: thing of a new one -/
theorem c_X9_thing0 (l : Launch) (D : va_G) (g : Nat → ClassId) {L : List Nat} {f : Nat → va_E} {y y0 y1 y2 y3 y4 y5 y6 y7 y8 y9 y10 y11 y12 y13 y15 y16 y17 y18 y19 y20 y21 y22 : Nat} {iw : Nat → Int32}  {w i : Int32} (m_y : y ∈ L) (e_y : f y = .inr (7, [.ref y0, .ref y1, .ref y2, .ref y3, .ref y4, .ref y5, .ref y6, .ref y7, .ref y8, .ref y9, .ref y10, .ref y11, .ref y12, .ref y13, .int 0, .ref y15, .ref y16, .ref y17, .ref y18, .ref y19, .ref y20, .ref y21, .ref y22])) (m_y1 : y1 ∈ L) (e_y1 : f y1 = .inl (g 0, 8, .inl iw)) (hI : ∀ j, j < 8 → iw j = 0) : cL l yX9_thing wsX9_thing { frames := 1, cells := 0, slots := 0, locals := 20 } D g [.ref y, .int w, .int i] L f 0 0 (fun z L1 f1 => z = 0 ∧ L1 = L ∧ f1 = f) := by
  refine cL_of (cc := cX9_thing) (maxL := 3) (ret := (some .long)) (by decide) rfl (Nat.le_of_ble_eq_true rfl) ?_
  intro sz p e s m below meth c hx hb hr hml hts hown hlk hnm S ls hl
  have hl : lv_has ls 3 [(0, .ref y), (1, .int w), (2, .int i)] := hl
  have in_X9 : ∀ w ∈ wsX90, w ∈ wsX9_thing := by decide +kernel
  refine lv_iload_n hx hb dX9_thing_0 rfl (lv_at hl 1 rfl) ?_
  refine q_si (As := [.int w]) (rest := []) ⟨hx, hb, hml, hown, hts⟩ (c_X9_isWorld l D g (w := w)) (va_cwS 1 hts gX9_thing_X9_isWorld rfl rfl rfl (by decide +kernel) ⟨Nat.le_of_ble_eq_true rfl, Nat.le_of_ble_eq_true rfl⟩) S rfl hl.1 rfl (Nat.le_of_ble_eq_true rfl) dX9_thing_1 ⟨Nat.le_of_ble_eq_true rfl, Nat.le_of_ble_eq_true rfl⟩ (fun r3 L1 f2 H locs S w1 => ?_)
  obtain ⟨exw1, eLw1, efw1⟩ := w1
  rw [eLw1, efw1] at S
  by_cases hw1 : ¬ w < 0 ∧ ¬ 8 ≤ w
  · skip
    rw [if_pos hw1] at exw1
    subst exw1
    obtain ⟨j1, hj1, ej1⟩ := pu_of (n := 8) hw1.1 hw1.2 (by decide)
    refine lv_if_eq (tgt := 36) hx hb dX9_thing_4 (by decide) (fun b4 => absurd b4 (by decide)) (fun b4 => ?_)
    refine lv_iload_n hx hb dX9_thing_7 rfl (lv_at hl 2 rfl) ?_
    refine lv_if_lt (tgt := 36) hx hb dX9_thing_8 (by decide) (fun b8 => ?_) (fun b8 => ?_)
    · skip
      refine lv_lconst (v := 0) hx hb dX9_thing_36 (by decide) ?_
      exact q_retl (post := fun z L1 f1 => z = 0 ∧ L1 = L ∧ f1 = f) hx hb hr hlk S dX9_thing_37 (by decide) (by decide) (⟨rfl, rfl, rfl⟩)
    · skip
      refine lv_iload_n hx hb dX9_thing_11 rfl (lv_at hl 2 rfl) ?_
      refine lv_aload_n hx hb dX9_thing_12 rfl (lv_at hl 0 rfl) ?_
      refine q_get hx hb hts in_X9 hown S m_y e_y (C := RX9) (T := TX9) (N := 23) rfl 1 (by decide) rfl (hts (.fieldLink RX9 13 "SieveCabinetModel" "inWorld" "[I") (by decide +kernel)) dX9_thing_13 ?_
      refine lv_iload_n hx hb dX9_thing_16 rfl (lv_at hl 1 rfl) ?_
      refine q_iald hx hb S m_y1 e_y1 (by rw [ej1]; exact vp_in_nI hj1 (by decide)) dX9_thing_17 ?_
      refine lv_icmp_ge (tgt := 36) hx hb dX9_thing_18 (by decide) (fun b18 => ?_) (fun b18 => absurd (by rw [ej1, nI_clamp (by omega), hI _ hj1]; exact Int32.not_lt.mp b8) b18)
      refine lv_lconst (v := 0) hx hb dX9_thing_36 (by decide) ?_
      exact q_retl (post := fun z L1 f1 => z = 0 ∧ L1 = L ∧ f1 = f) hx hb hr hlk S dX9_thing_37 (by decide) (by decide) (⟨rfl, rfl, rfl⟩)
  · skip
    rw [if_neg hw1] at exw1
    subst exw1
    refine lv_if_eq (tgt := 36) hx hb dX9_thing_4 (by decide) (fun b4 => ?_) (fun b4 => absurd (rfl) b4)
    refine lv_lconst (v := 0) hx hb dX9_thing_36 (by decide) ?_
    exact q_retl (post := fun z L1 f1 => z = 0 ∧ L1 = L ∧ f1 = f) hx hb hr hlk S dX9_thing_37 (by decide) (by decide) (⟨rfl, rfl, rfl⟩)

set_option maxHeartbeats 4000000 in
set_option maxRecDepth 100000 in
/-- reference: placeOf in an empty world -/
theorem c_X9_placeOf0 (l : Launch) (D : va_G) (g : Nat → ClassId) {L : List Nat} {f : Nat → va_E} {y y0 y1 y2 y3 y4 y5 y6 y7 y8 y9 y10 y11 y12 y13 y15 y16 y17 y18 y19 y20 y21 y22 : Nat} {iw : Nat → Int32}  {j : Nat} {t : Int64} (m_y : y ∈ L) (e_y : f y = .inr (7, [.ref y0, .ref y1, .ref y2, .ref y3, .ref y4, .ref y5, .ref y6, .ref y7, .ref y8, .ref y9, .ref y10, .ref y11, .ref y12, .ref y13, .int 0, .ref y15, .ref y16, .ref y17, .ref y18, .ref y19, .ref y20, .ref y21, .ref y22])) (m_y1 : y1 ∈ L) (e_y1 : f y1 = .inl (g 0, 8, .inl iw)) (hj : j < 8) (hI : iw j = 0) : cI l yX9_placeOf wsX9_placeOf { frames := 0, cells := 0, slots := 0, locals := 0 } D g [.ref y, .int ((nI j)), .long t] L f 0 0 (fun z L1 f1 => z = -1 ∧ L1 = L ∧ f1 = f) := by
  refine cI_of (cc := cX9_placeOf) (maxL := 5) (ret := (some .int)) (by decide) rfl (Nat.le_of_ble_eq_true rfl) ?_
  intro sz p e s m below meth c hx hb hr hml hts hown hlk hnm S ls hl
  have hl : lv_has ls 5 [(0, .ref y), (1, .int ((nI j))), (2, .long t)] := hl
  have in_X9 : ∀ w ∈ wsX90, w ∈ wsX9_placeOf := by decide +kernel
  refine lv_iconst (v := 0) hx hb dX9_placeOf_0 (by decide) ?_
  refine lv_istore (lv' := [(4, .int 0), (0, .ref y), (1, .int ((nI j))), (2, .long t)]) hx hb dX9_placeOf_1 hl (by decide) rfl (fun ls hl => ?_)
  refine lv_iload hx hb dX9_placeOf_3 (lv_at hl 0 rfl) ?_
  refine lv_aload_n hx hb dX9_placeOf_5 rfl (lv_at hl 1 rfl) ?_
  refine q_get hx hb hts in_X9 hown S m_y e_y (C := RX9) (T := TX9) (N := 23) rfl 1 (by decide) rfl (hts (.fieldLink RX9 13 "SieveCabinetModel" "inWorld" "[I") (by decide +kernel)) dX9_placeOf_6 ?_
  refine lv_iload_n hx hb dX9_placeOf_9 rfl (lv_at hl 2 rfl) ?_
  refine q_iald hx hb S m_y1 e_y1 (vp_in_nI hj (by decide)) dX9_placeOf_10 ?_
  refine lv_icmp_ge (tgt := 41) hx hb dX9_placeOf_11 (by decide) (fun b11 => ?_) (fun b11 => absurd (by rw [nI_clamp (by omega), hI]; decide) b11)
  refine lv_iconst (v := -1) hx hb dX9_placeOf_41 (by decide) ?_
  exact q_reti (post := fun z L1 f1 => z = -1 ∧ L1 = L ∧ f1 = f) hx hb hr hlk S dX9_placeOf_42 (by decide) (by decide) (⟨rfl, rfl, rfl⟩)

set_option maxHeartbeats 4000000 in
set_option maxRecDepth 100000 in
/-- reference: take of a new one -/
theorem c_X9_take0 (l : Launch) (D : va_G) (g : Nat → ClassId) {L : List Nat} {f : Nat → va_E} {y y0 y1 y2 y3 y4 y5 y6 y7 y8 y9 y10 y11 y12 y13 y15 y16 y17 y18 y19 y20 y21 y22 : Nat} {iw : Nat → Int32}  {w : Int32} {t : Int64} (m_y : y ∈ L) (e_y : f y = .inr (7, [.ref y0, .ref y1, .ref y2, .ref y3, .ref y4, .ref y5, .ref y6, .ref y7, .ref y8, .ref y9, .ref y10, .ref y11, .ref y12, .ref y13, .int 0, .ref y15, .ref y16, .ref y17, .ref y18, .ref y19, .ref y20, .ref y21, .ref y22])) (m_y1 : y1 ∈ L) (e_y1 : f y1 = .inl (g 0, 8, .inl iw)) (hI : ∀ j, j < 8 → iw j = 0) : cI l yX9_take wsX9_take { frames := 1, cells := 0, slots := 0, locals := 24 } D g [.ref y, .int w, .long t] L f 0 0 (fun z L1 f1 => z = -1 ∧ L1 = L ∧ f1 = f) := by
  refine cI_of (cc := cX9_take) (maxL := 6) (ret := (some .int)) (by decide) rfl (Nat.le_of_ble_eq_true rfl) ?_
  intro sz p e s m below meth c hx hb hr hml hts hown hlk hnm S ls hl
  have hl : lv_has ls 6 [(0, .ref y), (1, .int w), (2, .long t)] := hl
  refine lv_iload_n hx hb dX9_take_0 rfl (lv_at hl 1 rfl) ?_
  refine q_si (As := [.int w]) (rest := []) ⟨hx, hb, hml, hown, hts⟩ (c_X9_isWorld l D g (w := w)) (va_cwS 1 hts gX9_take_X9_isWorld rfl rfl rfl (by decide +kernel) ⟨Nat.le_of_ble_eq_true rfl, Nat.le_of_ble_eq_true rfl⟩) S rfl hl.1 rfl (Nat.le_of_ble_eq_true rfl) dX9_take_1 ⟨Nat.le_of_ble_eq_true rfl, Nat.le_of_ble_eq_true rfl⟩ (fun r3 L1 f2 H locs S w1 => ?_)
  obtain ⟨exw1, eLw1, efw1⟩ := w1
  rw [eLw1, efw1] at S
  by_cases hw1 : ¬ w < 0 ∧ ¬ 8 ≤ w
  · skip
    rw [if_pos hw1] at exw1
    subst exw1
    obtain ⟨j1, hj1, ej1⟩ := pu_of (n := 8) hw1.1 hw1.2 (by decide)
    refine lv_if_eq (tgt := 16) hx hb dX9_take_4 (by decide) (fun b4 => absurd b4 (by decide)) (fun b4 => ?_)
    refine lv_aload_n hx hb dX9_take_7 rfl (lv_at hl 0 rfl) ?_
    refine lv_iload_n hx hb dX9_take_8 rfl (lv_at hl 1 rfl) ?_
    refine lv_lload_n hx hb dX9_take_9 rfl (lv_at hl 2 rfl) ?_
    subst ej1
    refine q_vi (As := [.int ((nI j1)), .long t]) (rest := []) ⟨hx, hb, hml, hown, hts⟩ (c_X9_placeOf0 l D g m_y e_y m_y1 e_y1 hj1 (hI _ hj1)) (cwV 2 hts gX9_take_X9_placeOf rfl rfl rfl (by decide +kernel) ⟨Nat.le_of_ble_eq_true rfl, Nat.le_of_ble_eq_true rfl⟩) S m_y e_y (T := TX9) (N := 23) rfl rfl hl.1 rfl (Nat.le_of_ble_eq_true rfl) dX9_take_10 ⟨Nat.le_of_ble_eq_true rfl, Nat.le_of_ble_eq_true rfl⟩ (fun r6 L4 f5 H locs S w10 => ?_)
    obtain ⟨exw10, eLw10, efw10⟩ := w10
    rw [eLw10, efw10] at S
    subst exw10
    refine lv_goto (tgt := 17) hx hb dX9_take_13 (by decide) ?_
    refine lv_istore (lv' := [(4, .int ((-1))), (0, .ref y), (1, .int ((nI j1))), (2, .long t)]) hx hb dX9_take_17 hl (by decide) rfl (fun ls hl => ?_)
    refine lv_iload hx hb dX9_take_19 (lv_at hl 0 rfl) ?_
    refine lv_if_ge (tgt := 26) hx hb dX9_take_21 (by decide) (fun b21 => absurd b21 (by decide)) (fun b21 => ?_)
    refine lv_iconst (v := -1) hx hb dX9_take_24 (by decide) ?_
    exact q_reti (post := fun z L1 f1 => z = -1 ∧ L1 = L ∧ f1 = f) hx hb hr hlk S dX9_take_25 (by decide) (by decide) (⟨rfl, rfl, rfl⟩)
  · skip
    rw [if_neg hw1] at exw1
    subst exw1
    refine lv_if_eq (tgt := 16) hx hb dX9_take_4 (by decide) (fun b4 => ?_) (fun b4 => absurd (rfl) b4)
    refine lv_iconst (v := -1) hx hb dX9_take_16 (by decide) ?_
    refine lv_istore (lv' := [(4, .int ((-1))), (0, .ref y), (1, .int w), (2, .long t)]) hx hb dX9_take_17 hl (by decide) rfl (fun ls hl => ?_)
    refine lv_iload hx hb dX9_take_19 (lv_at hl 0 rfl) ?_
    refine lv_if_ge (tgt := 26) hx hb dX9_take_21 (by decide) (fun b21 => absurd b21 (by decide)) (fun b21 => ?_)
    refine lv_iconst (v := -1) hx hb dX9_take_24 (by decide) ?_
    exact q_reti (post := fun z L1 f1 => z = -1 ∧ L1 = L ∧ f1 = f) hx hb hr hlk S dX9_take_25 (by decide) (by decide) (⟨rfl, rfl, rfl⟩)
