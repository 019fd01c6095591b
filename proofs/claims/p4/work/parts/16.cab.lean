set_option maxHeartbeats 4000000 in
set_option maxRecDepth 100000 in
/-- sieveAt: none are made -/
theorem c_X8_sieveAt0 (l : Launch) (D : va_G) (g : Nat → ClassId) {L : List Nat} {f : Nat → va_E} {x wo Sl dr ri th so ch : Nat}  {i : Int32} (m_x : x ∈ L) (e_x : f x = .inr (6, [.ref wo, .ref Sl, .ref dr, .ref ri, .ref th, .ref so, .ref ch, .int 0]))  : cQ l yX8_sieveAt wsX8_sieveAt { frames := 0, cells := 0, slots := 0, locals := 0 } D g [.ref x, .int i] L f 0 0 (fun z L1 f1 => z = none ∧ L1 = L ∧ f1 = f) := by
  refine cQ_of (cc := cX8_sieveAt) (maxL := 2) (ret := (some (.object "SieveCabinet$Sieve"))) (by decide) rfl (Nat.le_of_ble_eq_true rfl) ?_
  intro sz p e s m below meth c hx hb hr hml hts hown hlk hnm S ls hl
  have hl : lv_has ls 2 [(0, .ref x), (1, .int i)] := hl
  have in_X8 : ∀ w ∈ wsX80, w ∈ wsX8_sieveAt := by decide +kernel
  refine lv_iload_n hx hb dX8_sieveAt_0 rfl (lv_at hl 1 rfl) ?_
  refine lv_if_lt (tgt := 27) hx hb dX8_sieveAt_1 (by decide) (fun b1 => ?_) (fun b1 => ?_)
  · skip
    refine lv_null hx hb dX8_sieveAt_27 ?_
    exact q_retq (post := fun z L1 f1 => z = none ∧ L1 = L ∧ f1 = f) (v := none) hx hb hr hlk S dX8_sieveAt_28 (by decide) (by decide) (⟨rfl, rfl, rfl⟩)
  · skip
    refine lv_iload_n hx hb dX8_sieveAt_4 rfl (lv_at hl 1 rfl) ?_
    refine lv_aload_n hx hb dX8_sieveAt_5 rfl (lv_at hl 0 rfl) ?_
    refine q_get hx hb hts in_X8 hown S m_x e_x (C := RX8) (T := TX8) (N := 8) rfl 7 (by decide) rfl (hts (.fieldLink RX8 84 "SieveCabinet" "made" "I") (by decide +kernel)) dX8_sieveAt_6 ?_
    refine lv_icmp_ge (tgt := 27) hx hb dX8_sieveAt_9 (by decide) (fun b9 => ?_) (fun b9 => absurd (Int32.not_lt.mp b1) b9)
    refine lv_null hx hb dX8_sieveAt_27 ?_
    exact q_retq (post := fun z L1 f1 => z = none ∧ L1 = L ∧ f1 = f) (v := none) hx hb hr hlk S dX8_sieveAt_28 (by decide) (by decide) (⟨rfl, rfl, rfl⟩)

set_option maxHeartbeats 4000000 in
set_option maxRecDepth 100000 in
/-- worldAt -/
theorem c_X8_worldAt (l : Launch) (D : va_G) (g : Nat → ClassId) {L : List Nat} {f : Nat → va_E} {x wo Sl dr ri th so ch : Nat} {wf : Nat → Option Nat} {w : Int32} (m_x : x ∈ L) (e_x : f x = .inr (6, [.ref wo, .ref Sl, .ref dr, .ref ri, .ref th, .ref so, .ref ch, .int 0])) (m_wo : wo ∈ L) (e_wo : f wo = .inl (g 3, 8, .inr (.inr (.inr (.inr wf)))))  : cQ l yX8_worldAt wsX8_worldAt { frames := 0, cells := 0, slots := 0, locals := 0 } D g [.ref x, .int w] L f 0 0 (fun z L1 f1 => z = (if ¬ w < 0 ∧ ¬ 8 ≤ w then wf w.toNatClampNeg else none) ∧ L1 = L ∧ f1 = f) := by
  refine cQ_of (cc := cX8_worldAt) (maxL := 2) (ret := (some (.object "SieveCabinet$Bag"))) (by decide) rfl (Nat.le_of_ble_eq_true rfl) ?_
  intro sz p e s m below meth c hx hb hr hml hts hown hlk hnm S ls hl
  have hl : lv_has ls 2 [(0, .ref x), (1, .int w)] := hl
  have in_X8 : ∀ w ∈ wsX80, w ∈ wsX8_worldAt := by decide +kernel
  refine lv_iload_n hx hb dX8_worldAt_0 rfl (lv_at hl 1 rfl) ?_
  refine lv_if_lt (tgt := 19) hx hb dX8_worldAt_1 (by decide) (fun b1 => ?_) (fun b1 => ?_)
  · skip
    refine lv_null hx hb dX8_worldAt_19 ?_
    exact q_retq (post := fun z L1 f1 => z = (if ¬ w < 0 ∧ ¬ 8 ≤ w then wf w.toNatClampNeg else none) ∧ L1 = L ∧ f1 = f) (v := none) hx hb hr hlk S dX8_worldAt_20 (by decide) (by decide) (⟨(if_neg (fun h => h.1 b1)).symm, rfl, rfl⟩)
  · skip
    refine lv_iload_n hx hb dX8_worldAt_4 rfl (lv_at hl 1 rfl) ?_
    refine lv_bipush (v := 8) hx hb dX8_worldAt_5 (by decide) ?_
    refine lv_icmp_ge (tgt := 19) hx hb dX8_worldAt_7 (by decide) (fun b7 => ?_) (fun b7 => ?_)
    · skip
      refine lv_null hx hb dX8_worldAt_19 ?_
      exact q_retq (post := fun z L1 f1 => z = (if ¬ w < 0 ∧ ¬ 8 ≤ w then wf w.toNatClampNeg else none) ∧ L1 = L ∧ f1 = f) (v := none) hx hb hr hlk S dX8_worldAt_20 (by decide) (by decide) (⟨(if_neg (fun h => h.2 b7)).symm, rfl, rfl⟩)
    · skip
      refine lv_aload_n hx hb dX8_worldAt_10 rfl (lv_at hl 0 rfl) ?_
      refine q_get hx hb hts in_X8 hown S m_x e_x (C := RX8) (T := TX8) (N := 8) rfl 0 (by decide) rfl (hts (.fieldLink RX8 11 "SieveCabinet" "worlds" "[LSieveCabinet$Bag;") (by decide +kernel)) dX8_worldAt_11 ?_
      refine lv_iload_n hx hb dX8_worldAt_14 rfl (lv_at hl 1 rfl) ?_
      refine q_ald hx hb S m_wo 3 rfl e_wo (pu_in (n := 8) b1 b7 (Nat.le_refl _) (by decide)) dX8_worldAt_15 ?_
      refine lv_goto (tgt := 20) hx hb dX8_worldAt_16 (by decide) ?_
      exact q_retq (post := fun z L1 f1 => z = (if ¬ w < 0 ∧ ¬ 8 ≤ w then wf w.toNatClampNeg else none) ∧ L1 = L ∧ f1 = f) (v := (wf (w : Int32).toNatClampNeg)) hx hb hr hlk S dX8_worldAt_20 (by decide) (by decide) (⟨(if_pos ⟨b1, b7⟩).symm, rfl, rfl⟩)

set_option maxHeartbeats 4000000 in
set_option maxRecDepth 100000 in
/-- put of a new one -/
theorem c_X8_put0 (l : Launch) (D : va_G) (g : Nat → ClassId) {L : List Nat} {f : Nat → va_E} {x wo Sl dr ri th so ch : Nat}  {i : Int32} {t : Int64} (m_x : x ∈ L) (e_x : f x = .inr (6, [.ref wo, .ref Sl, .ref dr, .ref ri, .ref th, .ref so, .ref ch, .int 0]))  : cI l yX8_put wsX8_put { frames := 1, cells := 0, slots := 0, locals := 21 } D g [.ref x, .int i, .long t] L f 0 0 (fun z L1 f1 => z = -1 ∧ L1 = L ∧ f1 = f) := by
  refine cI_of (cc := cX8_put) (maxL := 5) (ret := (some .int)) (by decide) rfl (Nat.le_of_ble_eq_true rfl) ?_
  intro sz p e s m below meth c hx hb hr hml hts hown hlk hnm S ls hl
  have hl : lv_has ls 5 [(0, .ref x), (1, .int i), (2, .long t)] := hl
  refine lv_aload_n hx hb dX8_put_0 rfl (lv_at hl 0 rfl) ?_
  refine lv_iload_n hx hb dX8_put_1 rfl (lv_at hl 1 rfl) ?_
  refine q_vq (As := [.int i]) (rest := []) ⟨hx, hb, hml, hown, hts⟩ (c_X8_sieveAt0 l D g m_x e_x) (cwV 1 hts gX8_put_X8_sieveAt rfl rfl rfl (by decide +kernel) ⟨Nat.le_of_ble_eq_true rfl, Nat.le_of_ble_eq_true rfl⟩) S m_x e_x (T := TX8) (N := 8) rfl rfl hl.1 rfl (Nat.le_of_ble_eq_true rfl) dX8_put_2 ⟨Nat.le_of_ble_eq_true rfl, Nat.le_of_ble_eq_true rfl⟩ (fun r3 L1 f2 H locs S w2 => ?_)
  obtain ⟨exw2, eLw2, efw2⟩ := w2
  rw [eLw2, efw2] at S
  subst exw2
  refine W.eq (g2 := F0 m 5 ls [.null]) rfl ?_
  refine lv_astoreN (lv' := [(4, .null), (0, .ref x), (1, .int i), (2, .long t)]) hx hb dX8_put_5 hl (by decide) rfl (fun ls hl => ?_)
  refine lv_aloadN hx hb dX8_put_7 (lv_at hl 0 rfl) ?_
  refine lv_ifnonnullN hx hb dX8_put_9 ?_
  refine lv_iconst (v := -1) hx hb dX8_put_12 (by decide) ?_
  exact q_reti (post := fun z L1 f1 => z = -1 ∧ L1 = L ∧ f1 = f) hx hb hr hlk S dX8_put_13 (by decide) (by decide) (⟨rfl, rfl, rfl⟩)

set_option maxHeartbeats 4000000 in
set_option maxRecDepth 100000 in
/-- drop of a new one -/
theorem c_X8_drop0 (l : Launch) (D : va_G) (g : Nat → ClassId) {L : List Nat} {f : Nat → va_E} {x wo Sl dr ri th so ch : Nat}  {i : Int32} {t : Int64} (m_x : x ∈ L) (e_x : f x = .inr (6, [.ref wo, .ref Sl, .ref dr, .ref ri, .ref th, .ref so, .ref ch, .int 0]))  : cI l yX8_drop wsX8_drop { frames := 1, cells := 0, slots := 0, locals := 21 } D g [.ref x, .int i, .long t] L f 0 0 (fun z L1 f1 => z = -1 ∧ L1 = L ∧ f1 = f) := by
  refine cI_of (cc := cX8_drop) (maxL := 5) (ret := (some .int)) (by decide) rfl (Nat.le_of_ble_eq_true rfl) ?_
  intro sz p e s m below meth c hx hb hr hml hts hown hlk hnm S ls hl
  have hl : lv_has ls 5 [(0, .ref x), (1, .int i), (2, .long t)] := hl
  refine lv_aload_n hx hb dX8_drop_0 rfl (lv_at hl 0 rfl) ?_
  refine lv_iload_n hx hb dX8_drop_1 rfl (lv_at hl 1 rfl) ?_
  refine q_vq (As := [.int i]) (rest := []) ⟨hx, hb, hml, hown, hts⟩ (c_X8_sieveAt0 l D g m_x e_x) (cwV 1 hts gX8_drop_X8_sieveAt rfl rfl rfl (by decide +kernel) ⟨Nat.le_of_ble_eq_true rfl, Nat.le_of_ble_eq_true rfl⟩) S m_x e_x (T := TX8) (N := 8) rfl rfl hl.1 rfl (Nat.le_of_ble_eq_true rfl) dX8_drop_2 ⟨Nat.le_of_ble_eq_true rfl, Nat.le_of_ble_eq_true rfl⟩ (fun r3 L1 f2 H locs S w2 => ?_)
  obtain ⟨exw2, eLw2, efw2⟩ := w2
  rw [eLw2, efw2] at S
  subst exw2
  refine W.eq (g2 := F0 m 5 ls [.null]) rfl ?_
  refine lv_astoreN (lv' := [(4, .null), (0, .ref x), (1, .int i), (2, .long t)]) hx hb dX8_drop_5 hl (by decide) rfl (fun ls hl => ?_)
  refine lv_aloadN hx hb dX8_drop_7 (lv_at hl 0 rfl) ?_
  refine lv_ifnonnullN hx hb dX8_drop_9 ?_
  refine lv_iconst (v := -1) hx hb dX8_drop_12 (by decide) ?_
  exact q_reti (post := fun z L1 f1 => z = -1 ∧ L1 = L ∧ f1 = f) hx hb hr hlk S dX8_drop_13 (by decide) (by decide) (⟨rfl, rfl, rfl⟩)

set_option maxHeartbeats 4000000 in
set_option maxRecDepth 100000 in
/-- lets of a new one -/
theorem c_X8_lets0 (l : Launch) (D : va_G) (g : Nat → ClassId) {L : List Nat} {f : Nat → va_E} {x wo Sl dr ri th so ch : Nat}  {i : Int32} {t : Int64} (m_x : x ∈ L) (e_x : f x = .inr (6, [.ref wo, .ref Sl, .ref dr, .ref ri, .ref th, .ref so, .ref ch, .int 0]))  : cI l yX8_lets wsX8_lets { frames := 1, cells := 0, slots := 0, locals := 21 } D g [.ref x, .int i, .long t] L f 0 0 (fun z L1 f1 => z = -1 ∧ L1 = L ∧ f1 = f) := by
  refine cI_of (cc := cX8_lets) (maxL := 5) (ret := (some .int)) (by decide) rfl (Nat.le_of_ble_eq_true rfl) ?_
  intro sz p e s m below meth c hx hb hr hml hts hown hlk hnm S ls hl
  have hl : lv_has ls 5 [(0, .ref x), (1, .int i), (2, .long t)] := hl
  refine lv_aload_n hx hb dX8_lets_0 rfl (lv_at hl 0 rfl) ?_
  refine lv_iload_n hx hb dX8_lets_1 rfl (lv_at hl 1 rfl) ?_
  refine q_vq (As := [.int i]) (rest := []) ⟨hx, hb, hml, hown, hts⟩ (c_X8_sieveAt0 l D g m_x e_x) (cwV 1 hts gX8_lets_X8_sieveAt rfl rfl rfl (by decide +kernel) ⟨Nat.le_of_ble_eq_true rfl, Nat.le_of_ble_eq_true rfl⟩) S m_x e_x (T := TX8) (N := 8) rfl rfl hl.1 rfl (Nat.le_of_ble_eq_true rfl) dX8_lets_2 ⟨Nat.le_of_ble_eq_true rfl, Nat.le_of_ble_eq_true rfl⟩ (fun r3 L1 f2 H locs S w2 => ?_)
  obtain ⟨exw2, eLw2, efw2⟩ := w2
  rw [eLw2, efw2] at S
  subst exw2
  refine W.eq (g2 := F0 m 5 ls [.null]) rfl ?_
  refine lv_astoreN (lv' := [(4, .null), (0, .ref x), (1, .int i), (2, .long t)]) hx hb dX8_lets_5 hl (by decide) rfl (fun ls hl => ?_)
  refine lv_aloadN hx hb dX8_lets_7 (lv_at hl 0 rfl) ?_
  refine lv_ifnonnullN hx hb dX8_lets_9 ?_
  refine lv_iconst (v := -1) hx hb dX8_lets_12 (by decide) ?_
  exact q_reti (post := fun z L1 f1 => z = -1 ∧ L1 = L ∧ f1 = f) hx hb hr hlk S dX8_lets_13 (by decide) (by decide) (⟨rfl, rfl, rfl⟩)

set_option maxHeartbeats 4000000 in
set_option maxRecDepth 100000 in
/-- missed of a new one -/
theorem c_X8_missed0 (l : Launch) (D : va_G) (g : Nat → ClassId) {L : List Nat} {f : Nat → va_E} {x wo Sl dr ri th so ch : Nat}  {i : Int32} (m_x : x ∈ L) (e_x : f x = .inr (6, [.ref wo, .ref Sl, .ref dr, .ref ri, .ref th, .ref so, .ref ch, .int 0]))  : cI l yX8_missed wsX8_missed { frames := 1, cells := 0, slots := 0, locals := 21 } D g [.ref x, .int i] L f 0 0 (fun z L1 f1 => z = -1 ∧ L1 = L ∧ f1 = f) := by
  refine cI_of (cc := cX8_missed) (maxL := 5) (ret := (some .int)) (by decide) rfl (Nat.le_of_ble_eq_true rfl) ?_
  intro sz p e s m below meth c hx hb hr hml hts hown hlk hnm S ls hl
  have hl : lv_has ls 5 [(0, .ref x), (1, .int i)] := hl
  refine lv_aload_n hx hb dX8_missed_0 rfl (lv_at hl 0 rfl) ?_
  refine lv_iload_n hx hb dX8_missed_1 rfl (lv_at hl 1 rfl) ?_
  refine q_vq (As := [.int i]) (rest := []) ⟨hx, hb, hml, hown, hts⟩ (c_X8_sieveAt0 l D g m_x e_x) (cwV 1 hts gX8_missed_X8_sieveAt rfl rfl rfl (by decide +kernel) ⟨Nat.le_of_ble_eq_true rfl, Nat.le_of_ble_eq_true rfl⟩) S m_x e_x (T := TX8) (N := 8) rfl rfl hl.1 rfl (Nat.le_of_ble_eq_true rfl) dX8_missed_2 ⟨Nat.le_of_ble_eq_true rfl, Nat.le_of_ble_eq_true rfl⟩ (fun r3 L1 f2 H locs S w2 => ?_)
  obtain ⟨exw2, eLw2, efw2⟩ := w2
  rw [eLw2, efw2] at S
  subst exw2
  refine W.eq (g2 := F0 m 5 ls [.null]) rfl ?_
  refine lv_astore_nN (lv' := [(2, .null), (0, .ref x), (1, .int i)]) hx hb dX8_missed_5 rfl hl (by decide) rfl (fun ls hl => ?_)
  refine lv_aload_nN hx hb dX8_missed_6 rfl (lv_at hl 0 rfl) ?_
  refine lv_ifnonnullN hx hb dX8_missed_7 ?_
  refine lv_iconst (v := -1) hx hb dX8_missed_10 (by decide) ?_
  exact q_reti (post := fun z L1 f1 => z = -1 ∧ L1 = L ∧ f1 = f) hx hb hr hlk S dX8_missed_11 (by decide) (by decide) (⟨rfl, rfl, rfl⟩)

set_option maxHeartbeats 4000000 in
set_option maxRecDepth 100000 in
/-- fold of a new one -/
theorem c_X8_fold0 (l : Launch) (D : va_G) (g : Nat → ClassId) {L : List Nat} {f : Nat → va_E} {x wo Sl dr ri th so ch : Nat}  {i : Int32} (m_x : x ∈ L) (e_x : f x = .inr (6, [.ref wo, .ref Sl, .ref dr, .ref ri, .ref th, .ref so, .ref ch, .int 0]))  : cI l yX8_fold wsX8_fold { frames := 1, cells := 0, slots := 0, locals := 21 } D g [.ref x, .int i] L f 0 0 (fun z L1 f1 => z = -1 ∧ L1 = L ∧ f1 = f) := by
  refine cI_of (cc := cX8_fold) (maxL := 4) (ret := (some .int)) (by decide) rfl (Nat.le_of_ble_eq_true rfl) ?_
  intro sz p e s m below meth c hx hb hr hml hts hown hlk hnm S ls hl
  have hl : lv_has ls 4 [(0, .ref x), (1, .int i)] := hl
  refine lv_aload_n hx hb dX8_fold_0 rfl (lv_at hl 0 rfl) ?_
  refine lv_iload_n hx hb dX8_fold_1 rfl (lv_at hl 1 rfl) ?_
  refine q_vq (As := [.int i]) (rest := []) ⟨hx, hb, hml, hown, hts⟩ (c_X8_sieveAt0 l D g m_x e_x) (cwV 1 hts gX8_fold_X8_sieveAt rfl rfl rfl (by decide +kernel) ⟨Nat.le_of_ble_eq_true rfl, Nat.le_of_ble_eq_true rfl⟩) S m_x e_x (T := TX8) (N := 8) rfl rfl hl.1 rfl (Nat.le_of_ble_eq_true rfl) dX8_fold_2 ⟨Nat.le_of_ble_eq_true rfl, Nat.le_of_ble_eq_true rfl⟩ (fun r3 L1 f2 H locs S w2 => ?_)
  obtain ⟨exw2, eLw2, efw2⟩ := w2
  rw [eLw2, efw2] at S
  subst exw2
  refine W.eq (g2 := F0 m 5 ls [.null]) rfl ?_
  refine lv_astore_nN (lv' := [(2, .null), (0, .ref x), (1, .int i)]) hx hb dX8_fold_5 rfl hl (by decide) rfl (fun ls hl => ?_)
  refine lv_aload_nN hx hb dX8_fold_6 rfl (lv_at hl 0 rfl) ?_
  refine lv_ifnonnullN hx hb dX8_fold_7 ?_
  refine lv_iconst (v := -1) hx hb dX8_fold_10 (by decide) ?_
  exact q_reti (post := fun z L1 f1 => z = -1 ∧ L1 = L ∧ f1 = f) hx hb hr hlk S dX8_fold_11 (by decide) (by decide) (⟨rfl, rfl, rfl⟩)

set_option maxHeartbeats 4000000 in
set_option maxRecDepth 100000 in
/-- about of a new one -/
theorem c_X8_about0 (l : Launch) (D : va_G) (g : Nat → ClassId) {L : List Nat} {f : Nat → va_E} {x wo Sl dr ri th so ch : Nat}  {i k : Int32} (m_x : x ∈ L) (e_x : f x = .inr (6, [.ref wo, .ref Sl, .ref dr, .ref ri, .ref th, .ref so, .ref ch, .int 0]))  : cI l yX8_about wsX8_about { frames := 1, cells := 0, slots := 0, locals := 21 } D g [.ref x, .int i, .int k] L f 0 0 (fun z L1 f1 => z = -1 ∧ L1 = L ∧ f1 = f) := by
  refine cI_of (cc := cX8_about) (maxL := 4) (ret := (some .int)) (by decide) rfl (Nat.le_of_ble_eq_true rfl) ?_
  intro sz p e s m below meth c hx hb hr hml hts hown hlk hnm S ls hl
  have hl : lv_has ls 4 [(0, .ref x), (1, .int i), (2, .int k)] := hl
  refine lv_aload_n hx hb dX8_about_0 rfl (lv_at hl 0 rfl) ?_
  refine lv_iload_n hx hb dX8_about_1 rfl (lv_at hl 1 rfl) ?_
  refine q_vq (As := [.int i]) (rest := []) ⟨hx, hb, hml, hown, hts⟩ (c_X8_sieveAt0 l D g m_x e_x) (cwV 1 hts gX8_about_X8_sieveAt rfl rfl rfl (by decide +kernel) ⟨Nat.le_of_ble_eq_true rfl, Nat.le_of_ble_eq_true rfl⟩) S m_x e_x (T := TX8) (N := 8) rfl rfl hl.1 rfl (Nat.le_of_ble_eq_true rfl) dX8_about_2 ⟨Nat.le_of_ble_eq_true rfl, Nat.le_of_ble_eq_true rfl⟩ (fun r3 L1 f2 H locs S w2 => ?_)
  obtain ⟨exw2, eLw2, efw2⟩ := w2
  rw [eLw2, efw2] at S
  subst exw2
  refine W.eq (g2 := F0 m 5 ls [.null]) rfl ?_
  refine lv_astore_nN (lv' := [(3, .null), (0, .ref x), (1, .int i), (2, .int k)]) hx hb dX8_about_5 rfl hl (by decide) rfl (fun ls hl => ?_)
  refine lv_aload_nN hx hb dX8_about_6 rfl (lv_at hl 0 rfl) ?_
  refine lv_ifnonnullN hx hb dX8_about_7 ?_
  refine lv_iconst (v := -1) hx hb dX8_about_10 (by decide) ?_
  exact q_reti (post := fun z L1 f1 => z = -1 ∧ L1 = L ∧ f1 = f) hx hb hr hlk S dX8_about_11 (by decide) (by decide) (⟨rfl, rfl, rfl⟩)

set_option maxHeartbeats 4000000 in
set_option maxRecDepth 100000 in
/-- cell of a new one -/
theorem c_X8_cell0 (l : Launch) (D : va_G) (g : Nat → ClassId) {L : List Nat} {f : Nat → va_E} {x wo Sl dr ri th so ch : Nat}  {i k : Int32} (m_x : x ∈ L) (e_x : f x = .inr (6, [.ref wo, .ref Sl, .ref dr, .ref ri, .ref th, .ref so, .ref ch, .int 0]))  : cI l yX8_cell wsX8_cell { frames := 1, cells := 0, slots := 0, locals := 21 } D g [.ref x, .int i, .int k] L f 0 0 (fun z L1 f1 => z = -1 ∧ L1 = L ∧ f1 = f) := by
  refine cI_of (cc := cX8_cell) (maxL := 4) (ret := (some .int)) (by decide) rfl (Nat.le_of_ble_eq_true rfl) ?_
  intro sz p e s m below meth c hx hb hr hml hts hown hlk hnm S ls hl
  have hl : lv_has ls 4 [(0, .ref x), (1, .int i), (2, .int k)] := hl
  refine lv_aload_n hx hb dX8_cell_0 rfl (lv_at hl 0 rfl) ?_
  refine lv_iload_n hx hb dX8_cell_1 rfl (lv_at hl 1 rfl) ?_
  refine q_vq (As := [.int i]) (rest := []) ⟨hx, hb, hml, hown, hts⟩ (c_X8_sieveAt0 l D g m_x e_x) (cwV 1 hts gX8_cell_X8_sieveAt rfl rfl rfl (by decide +kernel) ⟨Nat.le_of_ble_eq_true rfl, Nat.le_of_ble_eq_true rfl⟩) S m_x e_x (T := TX8) (N := 8) rfl rfl hl.1 rfl (Nat.le_of_ble_eq_true rfl) dX8_cell_2 ⟨Nat.le_of_ble_eq_true rfl, Nat.le_of_ble_eq_true rfl⟩ (fun r3 L1 f2 H locs S w2 => ?_)
  obtain ⟨exw2, eLw2, efw2⟩ := w2
  rw [eLw2, efw2] at S
  subst exw2
  refine W.eq (g2 := F0 m 5 ls [.null]) rfl ?_
  refine lv_astore_nN (lv' := [(3, .null), (0, .ref x), (1, .int i), (2, .int k)]) hx hb dX8_cell_5 rfl hl (by decide) rfl (fun ls hl => ?_)
  refine lv_aload_nN hx hb dX8_cell_6 rfl (lv_at hl 0 rfl) ?_
  refine lv_ifnullN (tgt := 22) hx hb dX8_cell_7 (by decide) ?_
  refine lv_iconst (v := -1) hx hb dX8_cell_22 (by decide) ?_
  exact q_reti (post := fun z L1 f1 => z = -1 ∧ L1 = L ∧ f1 = f) hx hb hr hlk S dX8_cell_23 (by decide) (by decide) (⟨rfl, rfl, rfl⟩)

set_option maxHeartbeats 4000000 in
set_option maxRecDepth 100000 in
/-- layer of a new one -/
theorem c_X8_layer0 (l : Launch) (D : va_G) (g : Nat → ClassId) {L : List Nat} {f : Nat → va_E} {x wo Sl dr ri th so ch : Nat}  {i k q : Int32} (m_x : x ∈ L) (e_x : f x = .inr (6, [.ref wo, .ref Sl, .ref dr, .ref ri, .ref th, .ref so, .ref ch, .int 0]))  : cI l yX8_layer wsX8_layer { frames := 1, cells := 0, slots := 0, locals := 21 } D g [.ref x, .int i, .int k, .int q] L f 0 0 (fun z L1 f1 => z = -1 ∧ L1 = L ∧ f1 = f) := by
  refine cI_of (cc := cX8_layer) (maxL := 5) (ret := (some .int)) (by decide) rfl (Nat.le_of_ble_eq_true rfl) ?_
  intro sz p e s m below meth c hx hb hr hml hts hown hlk hnm S ls hl
  have hl : lv_has ls 5 [(0, .ref x), (1, .int i), (2, .int k), (3, .int q)] := hl
  refine lv_aload_n hx hb dX8_layer_0 rfl (lv_at hl 0 rfl) ?_
  refine lv_iload_n hx hb dX8_layer_1 rfl (lv_at hl 1 rfl) ?_
  refine q_vq (As := [.int i]) (rest := []) ⟨hx, hb, hml, hown, hts⟩ (c_X8_sieveAt0 l D g m_x e_x) (cwV 1 hts gX8_layer_X8_sieveAt rfl rfl rfl (by decide +kernel) ⟨Nat.le_of_ble_eq_true rfl, Nat.le_of_ble_eq_true rfl⟩) S m_x e_x (T := TX8) (N := 8) rfl rfl hl.1 rfl (Nat.le_of_ble_eq_true rfl) dX8_layer_2 ⟨Nat.le_of_ble_eq_true rfl, Nat.le_of_ble_eq_true rfl⟩ (fun r3 L1 f2 H locs S w2 => ?_)
  obtain ⟨exw2, eLw2, efw2⟩ := w2
  rw [eLw2, efw2] at S
  subst exw2
  refine W.eq (g2 := F0 m 5 ls [.null]) rfl ?_
  refine lv_astoreN (lv' := [(4, .null), (0, .ref x), (1, .int i), (2, .int k), (3, .int q)]) hx hb dX8_layer_5 hl (by decide) rfl (fun ls hl => ?_)
  refine lv_aloadN hx hb dX8_layer_7 (lv_at hl 0 rfl) ?_
  refine lv_ifnullN (tgt := 21) hx hb dX8_layer_9 (by decide) ?_
  refine lv_iconst (v := -1) hx hb dX8_layer_21 (by decide) ?_
  exact q_reti (post := fun z L1 f1 => z = -1 ∧ L1 = L ∧ f1 = f) hx hb hr hlk S dX8_layer_22 (by decide) (by decide) (⟨rfl, rfl, rfl⟩)

set_option maxHeartbeats 4000000 in
set_option maxRecDepth 100000 in
/-- mark of a new one -/
theorem c_X8_mark0 (l : Launch) (D : va_G) (g : Nat → ClassId) {L : List Nat} {f : Nat → va_E} {x wo Sl dr ri th so ch : Nat}  {i k : Int32} {t : Int64} (m_x : x ∈ L) (e_x : f x = .inr (6, [.ref wo, .ref Sl, .ref dr, .ref ri, .ref th, .ref so, .ref ch, .int 0]))  : cI l yX8_mark wsX8_mark { frames := 1, cells := 0, slots := 0, locals := 21 } D g [.ref x, .int i, .long t, .int k] L f 0 0 (fun z L1 f1 => z = -1 ∧ L1 = L ∧ f1 = f) := by
  refine cI_of (cc := cX8_mark) (maxL := 6) (ret := (some .int)) (by decide) rfl (Nat.le_of_ble_eq_true rfl) ?_
  intro sz p e s m below meth c hx hb hr hml hts hown hlk hnm S ls hl
  have hl : lv_has ls 6 [(0, .ref x), (1, .int i), (2, .long t), (4, .int k)] := hl
  refine lv_aload_n hx hb dX8_mark_0 rfl (lv_at hl 0 rfl) ?_
  refine lv_iload_n hx hb dX8_mark_1 rfl (lv_at hl 1 rfl) ?_
  refine q_vq (As := [.int i]) (rest := []) ⟨hx, hb, hml, hown, hts⟩ (c_X8_sieveAt0 l D g m_x e_x) (cwV 1 hts gX8_mark_X8_sieveAt rfl rfl rfl (by decide +kernel) ⟨Nat.le_of_ble_eq_true rfl, Nat.le_of_ble_eq_true rfl⟩) S m_x e_x (T := TX8) (N := 8) rfl rfl hl.1 rfl (Nat.le_of_ble_eq_true rfl) dX8_mark_2 ⟨Nat.le_of_ble_eq_true rfl, Nat.le_of_ble_eq_true rfl⟩ (fun r3 L1 f2 H locs S w2 => ?_)
  obtain ⟨exw2, eLw2, efw2⟩ := w2
  rw [eLw2, efw2] at S
  subst exw2
  refine W.eq (g2 := F0 m 5 ls [.null]) rfl ?_
  refine lv_astoreN (lv' := [(5, .null), (0, .ref x), (1, .int i), (2, .long t), (4, .int k)]) hx hb dX8_mark_5 hl (by decide) rfl (fun ls hl => ?_)
  refine lv_aloadN hx hb dX8_mark_7 (lv_at hl 0 rfl) ?_
  refine lv_ifnonnullN hx hb dX8_mark_9 ?_
  refine lv_iconst (v := -1) hx hb dX8_mark_12 (by decide) ?_
  exact q_reti (post := fun z L1 f1 => z = -1 ∧ L1 = L ∧ f1 = f) hx hb hr hlk S dX8_mark_13 (by decide) (by decide) (⟨rfl, rfl, rfl⟩)

set_option maxHeartbeats 4000000 in
set_option maxRecDepth 100000 in
/-- join of a new one -/
theorem c_X8_join0 (l : Launch) (D : va_G) (g : Nat → ClassId) {L : List Nat} {f : Nat → va_E} {x wo Sl dr ri th so ch : Nat}  {i k q : Int32} (m_x : x ∈ L) (e_x : f x = .inr (6, [.ref wo, .ref Sl, .ref dr, .ref ri, .ref th, .ref so, .ref ch, .int 0]))  : cI l yX8_join wsX8_join { frames := 1, cells := 0, slots := 0, locals := 21 } D g [.ref x, .int i, .int k, .int q] L f 0 0 (fun z L1 f1 => z = -1 ∧ L1 = L ∧ f1 = f) := by
  refine cI_of (cc := cX8_join) (maxL := 8) (ret := (some .int)) (by decide) rfl (Nat.le_of_ble_eq_true rfl) ?_
  intro sz p e s m below meth c hx hb hr hml hts hown hlk hnm S ls hl
  have hl : lv_has ls 8 [(0, .ref x), (1, .int i), (2, .int k), (3, .int q)] := hl
  refine lv_aload_n hx hb dX8_join_0 rfl (lv_at hl 0 rfl) ?_
  refine lv_iload_n hx hb dX8_join_1 rfl (lv_at hl 2 rfl) ?_
  refine q_vq (As := [.int k]) (rest := []) ⟨hx, hb, hml, hown, hts⟩ (c_X8_sieveAt0 l D g m_x e_x) (cwV 1 hts gX8_join_X8_sieveAt rfl rfl rfl (by decide +kernel) ⟨Nat.le_of_ble_eq_true rfl, Nat.le_of_ble_eq_true rfl⟩) S m_x e_x (T := TX8) (N := 8) rfl rfl hl.1 rfl (Nat.le_of_ble_eq_true rfl) dX8_join_2 ⟨Nat.le_of_ble_eq_true rfl, Nat.le_of_ble_eq_true rfl⟩ (fun r3 L1 f2 H locs S w2 => ?_)
  obtain ⟨exw2, eLw2, efw2⟩ := w2
  rw [eLw2, efw2] at S
  subst exw2
  refine W.eq (g2 := F0 m 5 ls [.null]) rfl ?_
  refine lv_astoreN (lv' := [(4, .null), (0, .ref x), (1, .int i), (2, .int k), (3, .int q)]) hx hb dX8_join_5 hl (by decide) rfl (fun ls hl => ?_)
  refine lv_aload_n hx hb dX8_join_7 rfl (lv_at hl 1 rfl) ?_
  refine lv_iload_n hx hb dX8_join_8 rfl (lv_at hl 4 rfl) ?_
  refine q_vq (As := [.int q]) (rest := []) ⟨hx, hb, hml, hown, hts⟩ (c_X8_sieveAt0 l D g m_x e_x) (cwV 1 hts gX8_join_X8_sieveAt rfl rfl rfl (by decide +kernel) ⟨Nat.le_of_ble_eq_true rfl, Nat.le_of_ble_eq_true rfl⟩) S m_x e_x (T := TX8) (N := 8) rfl rfl hl.1 rfl (Nat.le_of_ble_eq_true rfl) dX8_join_9 ⟨Nat.le_of_ble_eq_true rfl, Nat.le_of_ble_eq_true rfl⟩ (fun r6 L4 f5 H locs S w9 => ?_)
  obtain ⟨exw9, eLw9, efw9⟩ := w9
  rw [eLw9, efw9] at S
  subst exw9
  refine W.eq (g2 := F0 m 12 ls [.null]) rfl ?_
  refine lv_astoreN (lv' := [(5, .null), (4, .null), (0, .ref x), (1, .int i), (2, .int k), (3, .int q)]) hx hb dX8_join_12 hl (by decide) rfl (fun ls hl => ?_)
  refine lv_aloadN hx hb dX8_join_14 (lv_at hl 1 rfl) ?_
  refine lv_ifnullN (tgt := 33) hx hb dX8_join_16 (by decide) ?_
  refine lv_iconst (v := -1) hx hb dX8_join_33 (by decide) ?_
  exact q_reti (post := fun z L1 f1 => z = -1 ∧ L1 = L ∧ f1 = f) hx hb hr hlk S dX8_join_34 (by decide) (by decide) (⟨rfl, rfl, rfl⟩)

set_option maxHeartbeats 4000000 in
set_option maxRecDepth 100000 in
/-- putAll of a new one -/
theorem c_X8_putAll0 (l : Launch) (D : va_G) (g : Nat → ClassId) {L : List Nat} {f : Nat → va_E} {x wo Sl dr ri th so ch : Nat} {wf : Nat → Option Nat} {i w : Int32} (m_x : x ∈ L) (e_x : f x = .inr (6, [.ref wo, .ref Sl, .ref dr, .ref ri, .ref th, .ref so, .ref ch, .int 0])) (m_wo : wo ∈ L) (e_wo : f wo = .inl (g 3, 8, .inr (.inr (.inr (.inr wf))))) (hW : ∀ j, j < 8 → ∃ b rb : Nat, ∃ vb : Nat → Int64, wf j = some b ∧ b ∈ L ∧ f b = .inr (0, [.ref rb, .int (nI 0)]) ∧ rb ∈ L ∧ f rb = .inl (g 1, 1000, .inr (.inl vb)) ∧ b ≠ dr ∧ b ≠ ri ∧ b ≠ th) : cI l yX8_putAll wsX8_putAll { frames := 1, cells := 0, slots := 0, locals := 21 } D g [.ref x, .int i, .int w] L f 0 0 (fun z L1 f1 => z = -1 ∧ L1 = L ∧ f1 = f) := by
  refine cI_of (cc := cX8_putAll) (maxL := 6) (ret := (some .int)) (by decide) rfl (Nat.le_of_ble_eq_true rfl) ?_
  intro sz p e s m below meth c hx hb hr hml hts hown hlk hnm S ls hl
  have hl : lv_has ls 6 [(0, .ref x), (1, .int i), (2, .int w)] := hl
  refine lv_aload_n hx hb dX8_putAll_0 rfl (lv_at hl 0 rfl) ?_
  refine lv_iload_n hx hb dX8_putAll_1 rfl (lv_at hl 1 rfl) ?_
  refine q_vq (As := [.int i]) (rest := []) ⟨hx, hb, hml, hown, hts⟩ (c_X8_sieveAt0 l D g m_x e_x) (cwV 1 hts gX8_putAll_X8_sieveAt rfl rfl rfl (by decide +kernel) ⟨Nat.le_of_ble_eq_true rfl, Nat.le_of_ble_eq_true rfl⟩) S m_x e_x (T := TX8) (N := 8) rfl rfl hl.1 rfl (Nat.le_of_ble_eq_true rfl) dX8_putAll_2 ⟨Nat.le_of_ble_eq_true rfl, Nat.le_of_ble_eq_true rfl⟩ (fun r3 L1 f2 H locs S w2 => ?_)
  obtain ⟨exw2, eLw2, efw2⟩ := w2
  rw [eLw2, efw2] at S
  subst exw2
  refine W.eq (g2 := F0 m 5 ls [.null]) rfl ?_
  refine lv_astore_nN (lv' := [(3, .null), (0, .ref x), (1, .int i), (2, .int w)]) hx hb dX8_putAll_5 rfl hl (by decide) rfl (fun ls hl => ?_)
  refine lv_aload_n hx hb dX8_putAll_6 rfl (lv_at hl 1 rfl) ?_
  refine lv_iload_n hx hb dX8_putAll_7 rfl (lv_at hl 3 rfl) ?_
  refine q_vq (As := [.int w]) (rest := []) ⟨hx, hb, hml, hown, hts⟩ (c_X8_worldAt l D g m_x e_x m_wo e_wo) (cwV 1 hts gX8_putAll_X8_worldAt rfl rfl rfl (by decide +kernel) ⟨Nat.le_of_ble_eq_true rfl, Nat.le_of_ble_eq_true rfl⟩) S m_x e_x (T := TX8) (N := 8) rfl rfl hl.1 rfl (Nat.le_of_ble_eq_true rfl) dX8_putAll_8 ⟨Nat.le_of_ble_eq_true rfl, Nat.le_of_ble_eq_true rfl⟩ (fun r6 L4 f5 H locs S w8 => ?_)
  obtain ⟨exw8, eLw8, efw8⟩ := w8
  rw [eLw8, efw8] at S
  by_cases hw8 : ¬ w < 0 ∧ ¬ 8 ≤ w
  · skip
    obtain ⟨j8, hj8, ej8⟩ := pu_of (n := 8) hw8.1 hw8.2 (by decide)
    obtain ⟨b8_, rb8_, vb8_, ew8, m_b8_, e_b8_, m_rb8_, e_rb8_, n_b8__dr, n_b8__ri, n_b8__th⟩ := hW j8 hj8
    rw [if_pos hw8, ej8, nI_clamp (by omega), ew8] at exw8
    subst exw8
    refine W.eq (g2 := F0 m 11 ls [.ref b8_]) rfl ?_
    refine lv_astore (lv' := [(4, .ref b8_), (3, .null), (0, .ref x), (1, .int i), (2, .int w)]) hx hb dX8_putAll_11 hl (by decide) rfl (fun ls hl => ?_)
    refine lv_aload_nN hx hb dX8_putAll_13 rfl (lv_at hl 1 rfl) ?_
    refine lv_ifnullN (tgt := 22) hx hb dX8_putAll_14 (by decide) ?_
    refine lv_iconst (v := -1) hx hb dX8_putAll_22 (by decide) ?_
    exact q_reti (post := fun z L1 f1 => z = -1 ∧ L1 = L ∧ f1 = f) hx hb hr hlk S dX8_putAll_23 (by decide) (by decide) (⟨rfl, rfl, rfl⟩)
  · skip
    rw [if_neg hw8] at exw8
    subst exw8
    refine W.eq (g2 := F0 m 11 ls [.null]) rfl ?_
    refine lv_astoreN (lv' := [(4, .null), (3, .null), (0, .ref x), (1, .int i), (2, .int w)]) hx hb dX8_putAll_11 hl (by decide) rfl (fun ls hl => ?_)
    refine lv_aload_nN hx hb dX8_putAll_13 rfl (lv_at hl 1 rfl) ?_
    refine lv_ifnullN (tgt := 22) hx hb dX8_putAll_14 (by decide) ?_
    refine lv_iconst (v := -1) hx hb dX8_putAll_22 (by decide) ?_
    exact q_reti (post := fun z L1 f1 => z = -1 ∧ L1 = L ∧ f1 = f) hx hb hr hlk S dX8_putAll_23 (by decide) (by decide) (⟨rfl, rfl, rfl⟩)

set_option maxHeartbeats 4000000 in
set_option maxRecDepth 100000 in
/-- falses of a new one -/
theorem c_X8_falses0 (l : Launch) (D : va_G) (g : Nat → ClassId) {L : List Nat} {f : Nat → va_E} {x wo Sl dr ri th so ch : Nat} {wf : Nat → Option Nat} {i w : Int32} (m_x : x ∈ L) (e_x : f x = .inr (6, [.ref wo, .ref Sl, .ref dr, .ref ri, .ref th, .ref so, .ref ch, .int 0])) (m_wo : wo ∈ L) (e_wo : f wo = .inl (g 3, 8, .inr (.inr (.inr (.inr wf))))) (hW : ∀ j, j < 8 → ∃ b rb : Nat, ∃ vb : Nat → Int64, wf j = some b ∧ b ∈ L ∧ f b = .inr (0, [.ref rb, .int (nI 0)]) ∧ rb ∈ L ∧ f rb = .inl (g 1, 1000, .inr (.inl vb)) ∧ b ≠ dr ∧ b ≠ ri ∧ b ≠ th) : cI l yX8_falses wsX8_falses { frames := 1, cells := 0, slots := 0, locals := 21 } D g [.ref x, .int i, .int w] L f 0 0 (fun z L1 f1 => z = -1 ∧ L1 = L ∧ f1 = f) := by
  refine cI_of (cc := cX8_falses) (maxL := 7) (ret := (some .int)) (by decide) rfl (Nat.le_of_ble_eq_true rfl) ?_
  intro sz p e s m below meth c hx hb hr hml hts hown hlk hnm S ls hl
  have hl : lv_has ls 7 [(0, .ref x), (1, .int i), (2, .int w)] := hl
  refine lv_aload_n hx hb dX8_falses_0 rfl (lv_at hl 0 rfl) ?_
  refine lv_iload_n hx hb dX8_falses_1 rfl (lv_at hl 1 rfl) ?_
  refine q_vq (As := [.int i]) (rest := []) ⟨hx, hb, hml, hown, hts⟩ (c_X8_sieveAt0 l D g m_x e_x) (cwV 1 hts gX8_falses_X8_sieveAt rfl rfl rfl (by decide +kernel) ⟨Nat.le_of_ble_eq_true rfl, Nat.le_of_ble_eq_true rfl⟩) S m_x e_x (T := TX8) (N := 8) rfl rfl hl.1 rfl (Nat.le_of_ble_eq_true rfl) dX8_falses_2 ⟨Nat.le_of_ble_eq_true rfl, Nat.le_of_ble_eq_true rfl⟩ (fun r3 L1 f2 H locs S w2 => ?_)
  obtain ⟨exw2, eLw2, efw2⟩ := w2
  rw [eLw2, efw2] at S
  subst exw2
  refine W.eq (g2 := F0 m 5 ls [.null]) rfl ?_
  refine lv_astore_nN (lv' := [(3, .null), (0, .ref x), (1, .int i), (2, .int w)]) hx hb dX8_falses_5 rfl hl (by decide) rfl (fun ls hl => ?_)
  refine lv_aload_n hx hb dX8_falses_6 rfl (lv_at hl 1 rfl) ?_
  refine lv_iload_n hx hb dX8_falses_7 rfl (lv_at hl 3 rfl) ?_
  refine q_vq (As := [.int w]) (rest := []) ⟨hx, hb, hml, hown, hts⟩ (c_X8_worldAt l D g m_x e_x m_wo e_wo) (cwV 1 hts gX8_falses_X8_worldAt rfl rfl rfl (by decide +kernel) ⟨Nat.le_of_ble_eq_true rfl, Nat.le_of_ble_eq_true rfl⟩) S m_x e_x (T := TX8) (N := 8) rfl rfl hl.1 rfl (Nat.le_of_ble_eq_true rfl) dX8_falses_8 ⟨Nat.le_of_ble_eq_true rfl, Nat.le_of_ble_eq_true rfl⟩ (fun r6 L4 f5 H locs S w8 => ?_)
  obtain ⟨exw8, eLw8, efw8⟩ := w8
  rw [eLw8, efw8] at S
  by_cases hw8 : ¬ w < 0 ∧ ¬ 8 ≤ w
  · skip
    obtain ⟨j8, hj8, ej8⟩ := pu_of (n := 8) hw8.1 hw8.2 (by decide)
    obtain ⟨b8_, rb8_, vb8_, ew8, m_b8_, e_b8_, m_rb8_, e_rb8_, n_b8__dr, n_b8__ri, n_b8__th⟩ := hW j8 hj8
    rw [if_pos hw8, ej8, nI_clamp (by omega), ew8] at exw8
    subst exw8
    refine W.eq (g2 := F0 m 11 ls [.ref b8_]) rfl ?_
    refine lv_astore (lv' := [(4, .ref b8_), (3, .null), (0, .ref x), (1, .int i), (2, .int w)]) hx hb dX8_falses_11 hl (by decide) rfl (fun ls hl => ?_)
    refine lv_aload_nN hx hb dX8_falses_13 rfl (lv_at hl 1 rfl) ?_
    refine lv_ifnullN (tgt := 22) hx hb dX8_falses_14 (by decide) ?_
    refine lv_iconst (v := -1) hx hb dX8_falses_22 (by decide) ?_
    exact q_reti (post := fun z L1 f1 => z = -1 ∧ L1 = L ∧ f1 = f) hx hb hr hlk S dX8_falses_23 (by decide) (by decide) (⟨rfl, rfl, rfl⟩)
  · skip
    rw [if_neg hw8] at exw8
    subst exw8
    refine W.eq (g2 := F0 m 11 ls [.null]) rfl ?_
    refine lv_astoreN (lv' := [(4, .null), (3, .null), (0, .ref x), (1, .int i), (2, .int w)]) hx hb dX8_falses_11 hl (by decide) rfl (fun ls hl => ?_)
    refine lv_aload_nN hx hb dX8_falses_13 rfl (lv_at hl 1 rfl) ?_
    refine lv_ifnullN (tgt := 22) hx hb dX8_falses_14 (by decide) ?_
    refine lv_iconst (v := -1) hx hb dX8_falses_22 (by decide) ?_
    exact q_reti (post := fun z L1 f1 => z = -1 ∧ L1 = L ∧ f1 = f) hx hb hr hlk S dX8_falses_23 (by decide) (by decide) (⟨rfl, rfl, rfl⟩)

set_option maxHeartbeats 4000000 in
set_option maxRecDepth 100000 in
/-- falseOne of a new one -/
theorem c_X8_falseOne0 (l : Launch) (D : va_G) (g : Nat → ClassId) {L : List Nat} {f : Nat → va_E} {x wo Sl dr ri th so ch : Nat} {wf : Nat → Option Nat} {i w q : Int32} (m_x : x ∈ L) (e_x : f x = .inr (6, [.ref wo, .ref Sl, .ref dr, .ref ri, .ref th, .ref so, .ref ch, .int 0])) (m_wo : wo ∈ L) (e_wo : f wo = .inl (g 3, 8, .inr (.inr (.inr (.inr wf))))) (hW : ∀ j, j < 8 → ∃ b rb : Nat, ∃ vb : Nat → Int64, wf j = some b ∧ b ∈ L ∧ f b = .inr (0, [.ref rb, .int (nI 0)]) ∧ rb ∈ L ∧ f rb = .inl (g 1, 1000, .inr (.inl vb)) ∧ b ≠ dr ∧ b ≠ ri ∧ b ≠ th) : cL l yX8_falseOne wsX8_falseOne { frames := 1, cells := 0, slots := 0, locals := 21 } D g [.ref x, .int i, .int w, .int q] L f 0 0 (fun z L1 f1 => z = 0 ∧ L1 = L ∧ f1 = f) := by
  refine cL_of (cc := cX8_falseOne) (maxL := 8) (ret := (some .long)) (by decide) rfl (Nat.le_of_ble_eq_true rfl) ?_
  intro sz p e s m below meth c hx hb hr hml hts hown hlk hnm S ls hl
  have hl : lv_has ls 8 [(0, .ref x), (1, .int i), (2, .int w), (3, .int q)] := hl
  refine lv_aload_n hx hb dX8_falseOne_0 rfl (lv_at hl 0 rfl) ?_
  refine lv_iload_n hx hb dX8_falseOne_1 rfl (lv_at hl 1 rfl) ?_
  refine q_vq (As := [.int i]) (rest := []) ⟨hx, hb, hml, hown, hts⟩ (c_X8_sieveAt0 l D g m_x e_x) (cwV 1 hts gX8_falseOne_X8_sieveAt rfl rfl rfl (by decide +kernel) ⟨Nat.le_of_ble_eq_true rfl, Nat.le_of_ble_eq_true rfl⟩) S m_x e_x (T := TX8) (N := 8) rfl rfl hl.1 rfl (Nat.le_of_ble_eq_true rfl) dX8_falseOne_2 ⟨Nat.le_of_ble_eq_true rfl, Nat.le_of_ble_eq_true rfl⟩ (fun r3 L1 f2 H locs S w2 => ?_)
  obtain ⟨exw2, eLw2, efw2⟩ := w2
  rw [eLw2, efw2] at S
  subst exw2
  refine W.eq (g2 := F0 m 5 ls [.null]) rfl ?_
  refine lv_astoreN (lv' := [(4, .null), (0, .ref x), (1, .int i), (2, .int w), (3, .int q)]) hx hb dX8_falseOne_5 hl (by decide) rfl (fun ls hl => ?_)
  refine lv_aload_n hx hb dX8_falseOne_7 rfl (lv_at hl 1 rfl) ?_
  refine lv_iload_n hx hb dX8_falseOne_8 rfl (lv_at hl 3 rfl) ?_
  refine q_vq (As := [.int w]) (rest := []) ⟨hx, hb, hml, hown, hts⟩ (c_X8_worldAt l D g m_x e_x m_wo e_wo) (cwV 1 hts gX8_falseOne_X8_worldAt rfl rfl rfl (by decide +kernel) ⟨Nat.le_of_ble_eq_true rfl, Nat.le_of_ble_eq_true rfl⟩) S m_x e_x (T := TX8) (N := 8) rfl rfl hl.1 rfl (Nat.le_of_ble_eq_true rfl) dX8_falseOne_9 ⟨Nat.le_of_ble_eq_true rfl, Nat.le_of_ble_eq_true rfl⟩ (fun r6 L4 f5 H locs S w9 => ?_)
  obtain ⟨exw9, eLw9, efw9⟩ := w9
  rw [eLw9, efw9] at S
  by_cases hw9 : ¬ w < 0 ∧ ¬ 8 ≤ w
  · skip
    obtain ⟨j9, hj9, ej9⟩ := pu_of (n := 8) hw9.1 hw9.2 (by decide)
    obtain ⟨b9_, rb9_, vb9_, ew9, m_b9_, e_b9_, m_rb9_, e_rb9_, n_b9__dr, n_b9__ri, n_b9__th⟩ := hW j9 hj9
    rw [if_pos hw9, ej9, nI_clamp (by omega), ew9] at exw9
    subst exw9
    refine W.eq (g2 := F0 m 12 ls [.ref b9_]) rfl ?_
    refine lv_astore (lv' := [(5, .ref b9_), (4, .null), (0, .ref x), (1, .int i), (2, .int w), (3, .int q)]) hx hb dX8_falseOne_12 hl (by decide) rfl (fun ls hl => ?_)
    refine lv_aloadN hx hb dX8_falseOne_14 (lv_at hl 1 rfl) ?_
    refine lv_ifnullN (tgt := 28) hx hb dX8_falseOne_16 (by decide) ?_
    refine lv_lconst (v := 0) hx hb dX8_falseOne_28 (by decide) ?_
    exact q_retl (post := fun z L1 f1 => z = 0 ∧ L1 = L ∧ f1 = f) hx hb hr hlk S dX8_falseOne_29 (by decide) (by decide) (⟨rfl, rfl, rfl⟩)
  · skip
    rw [if_neg hw9] at exw9
    subst exw9
    refine W.eq (g2 := F0 m 12 ls [.null]) rfl ?_
    refine lv_astoreN (lv' := [(5, .null), (4, .null), (0, .ref x), (1, .int i), (2, .int w), (3, .int q)]) hx hb dX8_falseOne_12 hl (by decide) rfl (fun ls hl => ?_)
    refine lv_aloadN hx hb dX8_falseOne_14 (lv_at hl 1 rfl) ?_
    refine lv_ifnullN (tgt := 28) hx hb dX8_falseOne_16 (by decide) ?_
    refine lv_lconst (v := 0) hx hb dX8_falseOne_28 (by decide) ?_
    exact q_retl (post := fun z L1 f1 => z = 0 ∧ L1 = L ∧ f1 = f) hx hb hr hlk S dX8_falseOne_29 (by decide) (by decide) (⟨rfl, rfl, rfl⟩)

set_option maxHeartbeats 4000000 in
set_option maxRecDepth 100000 in
/-- remove of a new one -/
theorem c_X8_remove0 (l : Launch) (D : va_G) (g : Nat → ClassId) {L : List Nat} {f : Nat → va_E} {x wo Sl dr ri th so ch : Nat}  (m_x : x ∈ L) (e_x : f x = .inr (6, [.ref wo, .ref Sl, .ref dr, .ref ri, .ref th, .ref so, .ref ch, .int 0]))  : cI l yX8_remove wsX8_remove { frames := 0, cells := 0, slots := 0, locals := 0 } D g [.ref x] L f 0 0 (fun z L1 f1 => z = -1 ∧ L1 = L ∧ f1 = f) := by
  refine cI_of (cc := cX8_remove) (maxL := 1) (ret := (some .int)) (by decide) rfl (Nat.le_of_ble_eq_true rfl) ?_
  intro sz p e s m below meth c hx hb hr hml hts hown hlk hnm S ls hl
  have hl : lv_has ls 1 [(0, .ref x)] := hl
  have in_X8 : ∀ w ∈ wsX80, w ∈ wsX8_remove := by decide +kernel
  refine lv_aload_n hx hb dX8_remove_0 rfl (lv_at hl 0 rfl) ?_
  refine q_get hx hb hts in_X8 hown S m_x e_x (C := RX8) (T := TX8) (N := 8) rfl 7 (by decide) rfl (hts (.fieldLink RX8 84 "SieveCabinet" "made" "I") (by decide +kernel)) dX8_remove_1 ?_
  refine lv_if_gt (tgt := 9) hx hb dX8_remove_4 (by decide) (fun b4 => absurd b4 (by decide)) (fun b4 => ?_)
  refine lv_iconst (v := -1) hx hb dX8_remove_7 (by decide) ?_
  exact q_reti (post := fun z L1 f1 => z = -1 ∧ L1 = L ∧ f1 = f) hx hb hr hlk S dX8_remove_8 (by decide) (by decide) (⟨rfl, rfl, rfl⟩)

set_option maxHeartbeats 4000000 in
set_option maxRecDepth 100000 in
/-- sieves of a new one -/
theorem c_X8_sieves0 (l : Launch) (D : va_G) (g : Nat → ClassId) {L : List Nat} {f : Nat → va_E} {x wo Sl dr ri th so ch : Nat}  (m_x : x ∈ L) (e_x : f x = .inr (6, [.ref wo, .ref Sl, .ref dr, .ref ri, .ref th, .ref so, .ref ch, .int 0]))  : cI l yX8_sieves wsX8_sieves { frames := 0, cells := 0, slots := 0, locals := 0 } D g [.ref x] L f 0 0 (fun z L1 f1 => z = 0 ∧ L1 = L ∧ f1 = f) := by
  refine cI_of (cc := cX8_sieves) (maxL := 1) (ret := (some .int)) (by decide) rfl (Nat.le_of_ble_eq_true rfl) ?_
  intro sz p e s m below meth c hx hb hr hml hts hown hlk hnm S ls hl
  have hl : lv_has ls 1 [(0, .ref x)] := hl
  have in_X8 : ∀ w ∈ wsX80, w ∈ wsX8_sieves := by decide +kernel
  refine lv_aload_n hx hb dX8_sieves_0 rfl (lv_at hl 0 rfl) ?_
  refine q_get hx hb hts in_X8 hown S m_x e_x (C := RX8) (T := TX8) (N := 8) rfl 7 (by decide) rfl (hts (.fieldLink RX8 84 "SieveCabinet" "made" "I") (by decide +kernel)) dX8_sieves_1 ?_
  exact q_reti (post := fun z L1 f1 => z = 0 ∧ L1 = L ∧ f1 = f) hx hb hr hlk S dX8_sieves_4 (by decide) (by decide) (⟨rfl, rfl, rfl⟩)

set_option maxHeartbeats 4000000 in
set_option maxRecDepth 100000 in
/-- things of a new one -/
theorem c_X8_things0 (l : Launch) (D : va_G) (g : Nat → ClassId) {L : List Nat} {f : Nat → va_E} {x wo Sl dr ri th so ch : Nat} {wf : Nat → Option Nat} {w : Int32} (m_x : x ∈ L) (e_x : f x = .inr (6, [.ref wo, .ref Sl, .ref dr, .ref ri, .ref th, .ref so, .ref ch, .int 0])) (m_wo : wo ∈ L) (e_wo : f wo = .inl (g 3, 8, .inr (.inr (.inr (.inr wf))))) (hW : ∀ j, j < 8 → ∃ b rb : Nat, ∃ vb : Nat → Int64, wf j = some b ∧ b ∈ L ∧ f b = .inr (0, [.ref rb, .int (nI 0)]) ∧ rb ∈ L ∧ f rb = .inl (g 1, 1000, .inr (.inl vb)) ∧ b ≠ dr ∧ b ≠ ri ∧ b ≠ th) : cI l yX8_things wsX8_things { frames := 1, cells := 0, slots := 0, locals := 21 } D g [.ref x, .int w] L f 0 0 (fun z L1 f1 => z = (if ¬ w < 0 ∧ ¬ 8 ≤ w then 0 else -1) ∧ L1 = L ∧ f1 = f) := by
  refine cI_of (cc := cX8_things) (maxL := 3) (ret := (some .int)) (by decide) rfl (Nat.le_of_ble_eq_true rfl) ?_
  intro sz p e s m below meth c hx hb hr hml hts hown hlk hnm S ls hl
  have hl : lv_has ls 3 [(0, .ref x), (1, .int w)] := hl
  refine lv_aload_n hx hb dX8_things_0 rfl (lv_at hl 0 rfl) ?_
  refine lv_iload_n hx hb dX8_things_1 rfl (lv_at hl 1 rfl) ?_
  refine q_vq (As := [.int w]) (rest := []) ⟨hx, hb, hml, hown, hts⟩ (c_X8_worldAt l D g m_x e_x m_wo e_wo) (cwV 1 hts gX8_things_X8_worldAt rfl rfl rfl (by decide +kernel) ⟨Nat.le_of_ble_eq_true rfl, Nat.le_of_ble_eq_true rfl⟩) S m_x e_x (T := TX8) (N := 8) rfl rfl hl.1 rfl (Nat.le_of_ble_eq_true rfl) dX8_things_2 ⟨Nat.le_of_ble_eq_true rfl, Nat.le_of_ble_eq_true rfl⟩ (fun r3 L1 f2 H locs S w2 => ?_)
  obtain ⟨exw2, eLw2, efw2⟩ := w2
  rw [eLw2, efw2] at S
  by_cases hw2 : ¬ w < 0 ∧ ¬ 8 ≤ w
  · skip
    obtain ⟨j2, hj2, ej2⟩ := pu_of (n := 8) hw2.1 hw2.2 (by decide)
    obtain ⟨b2_, rb2_, vb2_, ew2, m_b2_, e_b2_, m_rb2_, e_rb2_, n_b2__dr, n_b2__ri, n_b2__th⟩ := hW j2 hj2
    rw [if_pos hw2, ej2, nI_clamp (by omega), ew2] at exw2
    subst exw2
    refine W.eq (g2 := F0 m 5 ls [.ref b2_]) rfl ?_
    refine lv_astore_n (lv' := [(2, .ref b2_), (0, .ref x), (1, .int w)]) hx hb dX8_things_5 rfl hl (by decide) rfl (fun ls hl => ?_)
    refine lv_aload_n hx hb dX8_things_6 rfl (lv_at hl 0 rfl) ?_
    refine lv_ifnonnull (tgt := 14) hx hb dX8_things_7 (by decide) ?_
    refine lv_aload_n hx hb dX8_things_14 rfl (lv_at hl 0 rfl) ?_
    refine q_vi (As := []) (rest := []) ⟨hx, hb, hml, hown, hts⟩ (c_X0_count l D g m_b2_ e_b2_) (cwV 0 hts gX8_things_X0_count rfl rfl rfl (by decide +kernel) ⟨Nat.le_of_ble_eq_true rfl, Nat.le_of_ble_eq_true rfl⟩) S m_b2_ e_b2_ (T := TX0) (N := 2) rfl rfl hl.1 rfl (Nat.le_of_ble_eq_true rfl) dX8_things_15 ⟨Nat.le_of_ble_eq_true rfl, Nat.le_of_ble_eq_true rfl⟩ (fun r6 L4 f5 H locs S w15 => ?_)
    obtain ⟨exw15, eLw15, efw15⟩ := w15
    rw [eLw15, efw15] at S
    subst exw15
    exact q_reti (post := fun z L1 f1 => z = (if ¬ w < 0 ∧ ¬ 8 ≤ w then 0 else -1) ∧ L1 = L ∧ f1 = f) hx hb hr hlk S dX8_things_18 (by decide) (by decide) (⟨(if_pos hw2).symm, rfl, rfl⟩)
  · skip
    rw [if_neg hw2] at exw2
    subst exw2
    refine W.eq (g2 := F0 m 5 ls [.null]) rfl ?_
    refine lv_astore_nN (lv' := [(2, .null), (0, .ref x), (1, .int w)]) hx hb dX8_things_5 rfl hl (by decide) rfl (fun ls hl => ?_)
    refine lv_aload_nN hx hb dX8_things_6 rfl (lv_at hl 0 rfl) ?_
    refine lv_ifnonnullN hx hb dX8_things_7 ?_
    refine lv_iconst (v := -1) hx hb dX8_things_10 (by decide) ?_
    refine lv_goto (tgt := 18) hx hb dX8_things_11 (by decide) ?_
    exact q_reti (post := fun z L1 f1 => z = (if ¬ w < 0 ∧ ¬ 8 ≤ w then 0 else -1) ∧ L1 = L ∧ f1 = f) hx hb hr hlk S dX8_things_18 (by decide) (by decide) (⟨(if_neg hw2).symm, rfl, rfl⟩)

set_option maxHeartbeats 4000000 in
set_option maxRecDepth 100000 in
/-- thing of a new one -/
theorem c_X8_thing0 (l : Launch) (D : va_G) (g : Nat → ClassId) {L : List Nat} {f : Nat → va_E} {x wo Sl dr ri th so ch : Nat} {wf : Nat → Option Nat} {w i : Int32} (m_x : x ∈ L) (e_x : f x = .inr (6, [.ref wo, .ref Sl, .ref dr, .ref ri, .ref th, .ref so, .ref ch, .int 0])) (m_wo : wo ∈ L) (e_wo : f wo = .inl (g 3, 8, .inr (.inr (.inr (.inr wf))))) (hW : ∀ j, j < 8 → ∃ b rb : Nat, ∃ vb : Nat → Int64, wf j = some b ∧ b ∈ L ∧ f b = .inr (0, [.ref rb, .int (nI 0)]) ∧ rb ∈ L ∧ f rb = .inl (g 1, 1000, .inr (.inl vb)) ∧ b ≠ dr ∧ b ≠ ri ∧ b ≠ th) : cL l yX8_thing wsX8_thing { frames := 1, cells := 0, slots := 0, locals := 21 } D g [.ref x, .int w, .int i] L f 0 0 (fun z L1 f1 => z = 0 ∧ L1 = L ∧ f1 = f) := by
  refine cL_of (cc := cX8_thing) (maxL := 4) (ret := (some .long)) (by decide) rfl (Nat.le_of_ble_eq_true rfl) ?_
  intro sz p e s m below meth c hx hb hr hml hts hown hlk hnm S ls hl
  have hl : lv_has ls 4 [(0, .ref x), (1, .int w), (2, .int i)] := hl
  refine lv_aload_n hx hb dX8_thing_0 rfl (lv_at hl 0 rfl) ?_
  refine lv_iload_n hx hb dX8_thing_1 rfl (lv_at hl 1 rfl) ?_
  refine q_vq (As := [.int w]) (rest := []) ⟨hx, hb, hml, hown, hts⟩ (c_X8_worldAt l D g m_x e_x m_wo e_wo) (cwV 1 hts gX8_thing_X8_worldAt rfl rfl rfl (by decide +kernel) ⟨Nat.le_of_ble_eq_true rfl, Nat.le_of_ble_eq_true rfl⟩) S m_x e_x (T := TX8) (N := 8) rfl rfl hl.1 rfl (Nat.le_of_ble_eq_true rfl) dX8_thing_2 ⟨Nat.le_of_ble_eq_true rfl, Nat.le_of_ble_eq_true rfl⟩ (fun r3 L1 f2 H locs S w2 => ?_)
  obtain ⟨exw2, eLw2, efw2⟩ := w2
  rw [eLw2, efw2] at S
  by_cases hw2 : ¬ w < 0 ∧ ¬ 8 ≤ w
  · skip
    obtain ⟨j2, hj2, ej2⟩ := pu_of (n := 8) hw2.1 hw2.2 (by decide)
    obtain ⟨b2_, rb2_, vb2_, ew2, m_b2_, e_b2_, m_rb2_, e_rb2_, n_b2__dr, n_b2__ri, n_b2__th⟩ := hW j2 hj2
    rw [if_pos hw2, ej2, nI_clamp (by omega), ew2] at exw2
    subst exw2
    refine W.eq (g2 := F0 m 5 ls [.ref b2_]) rfl ?_
    refine lv_astore_n (lv' := [(3, .ref b2_), (0, .ref x), (1, .int w), (2, .int i)]) hx hb dX8_thing_5 rfl hl (by decide) rfl (fun ls hl => ?_)
    refine lv_aload_n hx hb dX8_thing_6 rfl (lv_at hl 0 rfl) ?_
    refine lv_ifnonnull (tgt := 14) hx hb dX8_thing_7 (by decide) ?_
    refine lv_aload_n hx hb dX8_thing_14 rfl (lv_at hl 0 rfl) ?_
    refine lv_iload_n hx hb dX8_thing_15 rfl (lv_at hl 3 rfl) ?_
    refine q_vl (As := [.int i]) (rest := []) ⟨hx, hb, hml, hown, hts⟩ (c_X0_at l D g (i := i) m_b2_ e_b2_ m_rb2_ e_rb2_ (by omega)) (cwV 1 hts gX8_thing_X0_at rfl rfl rfl (by decide +kernel) ⟨Nat.le_of_ble_eq_true rfl, Nat.le_of_ble_eq_true rfl⟩) S m_b2_ e_b2_ (T := TX0) (N := 2) rfl rfl hl.1 rfl (Nat.le_of_ble_eq_true rfl) dX8_thing_16 ⟨Nat.le_of_ble_eq_true rfl, Nat.le_of_ble_eq_true rfl⟩ (fun r6 L4 f5 H locs S w16 => ?_)
    obtain ⟨exw16, eLw16, efw16⟩ := w16
    rw [eLw16, efw16] at S
    rw [if_neg (fun h => h.2 (Int32.not_lt.mp h.1))] at exw16
    subst exw16
    exact q_retl (post := fun z L1 f1 => z = 0 ∧ L1 = L ∧ f1 = f) hx hb hr hlk S dX8_thing_19 (by decide) (by decide) (⟨rfl, rfl, rfl⟩)
  · skip
    rw [if_neg hw2] at exw2
    subst exw2
    refine W.eq (g2 := F0 m 5 ls [.null]) rfl ?_
    refine lv_astore_nN (lv' := [(3, .null), (0, .ref x), (1, .int w), (2, .int i)]) hx hb dX8_thing_5 rfl hl (by decide) rfl (fun ls hl => ?_)
    refine lv_aload_nN hx hb dX8_thing_6 rfl (lv_at hl 0 rfl) ?_
    refine lv_ifnonnullN hx hb dX8_thing_7 ?_
    refine lv_lconst (v := 0) hx hb dX8_thing_10 (by decide) ?_
    refine lv_goto (tgt := 19) hx hb dX8_thing_11 (by decide) ?_
    exact q_retl (post := fun z L1 f1 => z = 0 ∧ L1 = L ∧ f1 = f) hx hb hr hlk S dX8_thing_19 (by decide) (by decide) (⟨rfl, rfl, rfl⟩)

set_option maxHeartbeats 4000000 in
set_option maxRecDepth 100000 in
/-- take of a new one -/
theorem c_X8_take0 (l : Launch) (D : va_G) (g : Nat → ClassId) {L : List Nat} {f : Nat → va_E} {x wo Sl dr ri th so ch : Nat} {wf : Nat → Option Nat} {w : Int32} {t : Int64} (m_x : x ∈ L) (e_x : f x = .inr (6, [.ref wo, .ref Sl, .ref dr, .ref ri, .ref th, .ref so, .ref ch, .int 0])) (m_wo : wo ∈ L) (e_wo : f wo = .inl (g 3, 8, .inr (.inr (.inr (.inr wf))))) (hW : ∀ j, j < 8 → ∃ b rb : Nat, ∃ vb : Nat → Int64, wf j = some b ∧ b ∈ L ∧ f b = .inr (0, [.ref rb, .int (nI 0)]) ∧ rb ∈ L ∧ f rb = .inl (g 1, 1000, .inr (.inl vb)) ∧ b ≠ dr ∧ b ≠ ri ∧ b ≠ th) : cI l yX8_take wsX8_take { frames := 2, cells := 0, slots := 0, locals := 48 } D g [.ref x, .int w, .long t] L f 0 0 (fun z L1 f1 => z = -1 ∧ L1 = L ∧ f1 = f) := by
  refine cI_of (cc := cX8_take) (maxL := 5) (ret := (some .int)) (by decide) rfl (Nat.le_of_ble_eq_true rfl) ?_
  intro sz p e s m below meth c hx hb hr hml hts hown hlk hnm S ls hl
  have hl : lv_has ls 5 [(0, .ref x), (1, .int w), (2, .long t)] := hl
  refine lv_aload_n hx hb dX8_take_0 rfl (lv_at hl 0 rfl) ?_
  refine lv_iload_n hx hb dX8_take_1 rfl (lv_at hl 1 rfl) ?_
  refine q_vq (As := [.int w]) (rest := []) ⟨hx, hb, hml, hown, hts⟩ (c_X8_worldAt l D g m_x e_x m_wo e_wo) (cwV 1 hts gX8_take_X8_worldAt rfl rfl rfl (by decide +kernel) ⟨Nat.le_of_ble_eq_true rfl, Nat.le_of_ble_eq_true rfl⟩) S m_x e_x (T := TX8) (N := 8) rfl rfl hl.1 rfl (Nat.le_of_ble_eq_true rfl) dX8_take_2 ⟨Nat.le_of_ble_eq_true rfl, Nat.le_of_ble_eq_true rfl⟩ (fun r3 L1 f2 H locs S w2 => ?_)
  obtain ⟨exw2, eLw2, efw2⟩ := w2
  rw [eLw2, efw2] at S
  by_cases hw2 : ¬ w < 0 ∧ ¬ 8 ≤ w
  · skip
    obtain ⟨j2, hj2, ej2⟩ := pu_of (n := 8) hw2.1 hw2.2 (by decide)
    obtain ⟨b2_, rb2_, vb2_, ew2, m_b2_, e_b2_, m_rb2_, e_rb2_, n_b2__dr, n_b2__ri, n_b2__th⟩ := hW j2 hj2
    rw [if_pos hw2, ej2, nI_clamp (by omega), ew2] at exw2
    subst exw2
    refine W.eq (g2 := F0 m 5 ls [.ref b2_]) rfl ?_
    refine lv_astore (lv' := [(4, .ref b2_), (0, .ref x), (1, .int w), (2, .long t)]) hx hb dX8_take_5 hl (by decide) rfl (fun ls hl => ?_)
    refine lv_aload hx hb dX8_take_7 (lv_at hl 0 rfl) ?_
    refine lv_ifnull hx hb dX8_take_9 ?_
    refine lv_aload hx hb dX8_take_12 (lv_at hl 0 rfl) ?_
    refine lv_lload_n hx hb dX8_take_14 rfl (lv_at hl 3 rfl) ?_
    refine q_vi (As := [.long t]) (rest := []) ⟨hx, hb, hml, hown, hts⟩ (c_X0_takeOne0 l D g m_b2_ e_b2_ m_rb2_ e_rb2_) (cwV 1 hts gX8_take_X0_takeOne rfl rfl rfl (by decide +kernel) ⟨Nat.le_of_ble_eq_true rfl, Nat.le_of_ble_eq_true rfl⟩) S m_b2_ e_b2_ (T := TX0) (N := 2) rfl rfl hl.1 rfl (Nat.le_of_ble_eq_true rfl) dX8_take_15 ⟨Nat.le_of_ble_eq_true rfl, Nat.le_of_ble_eq_true rfl⟩ (fun r6 L4 f5 H locs S w15 => ?_)
    obtain ⟨exw15, eLw15, efw15⟩ := w15
    rw [eLw15, efw15] at S
    subst exw15
    refine lv_if_ne (tgt := 23) hx hb dX8_take_18 (by decide) (fun b18 => absurd b18 (fun h => h rfl)) (fun b18 => ?_)
    refine lv_iconst (v := -1) hx hb dX8_take_21 (by decide) ?_
    exact q_reti (post := fun z L1 f1 => z = -1 ∧ L1 = L ∧ f1 = f) hx hb hr hlk S dX8_take_22 (by decide) (by decide) (⟨rfl, rfl, rfl⟩)
  · skip
    rw [if_neg hw2] at exw2
    subst exw2
    refine W.eq (g2 := F0 m 5 ls [.null]) rfl ?_
    refine lv_astoreN (lv' := [(4, .null), (0, .ref x), (1, .int w), (2, .long t)]) hx hb dX8_take_5 hl (by decide) rfl (fun ls hl => ?_)
    refine lv_aloadN hx hb dX8_take_7 (lv_at hl 0 rfl) ?_
    refine lv_ifnullN (tgt := 21) hx hb dX8_take_9 (by decide) ?_
    refine lv_iconst (v := -1) hx hb dX8_take_21 (by decide) ?_
    exact q_reti (post := fun z L1 f1 => z = -1 ∧ L1 = L ∧ f1 = f) hx hb hr hlk S dX8_take_22 (by decide) (by decide) (⟨rfl, rfl, rfl⟩)
