set_option maxHeartbeats 4000000 in
set_option maxRecDepth 100000 in
/-- Bag.count -/
theorem c_X0_count (l : Launch) (D : va_G) (g : Nat → ClassId) {L : List Nat} {f : Nat → va_E} {h r n : Nat} (m_h : h ∈ L) (e_h : f h = .inr (0, [.ref r, .int ((nI n))]))  : cI l yX0_count wsX0_count { frames := 0, cells := 0, slots := 0, locals := 0 } D g [.ref h] L f 0 0 (fun x L1 f1 => x = nI n ∧ L1 = L ∧ f1 = f) := by
  refine cI_of (cc := cX0_count) (maxL := 1) (ret := (some .int)) (by decide) rfl (Nat.le_of_ble_eq_true rfl) ?_
  intro sz p e s m below meth c hx hb hr hml hts hown hlk hnm S ls hl
  have hl : lv_has ls 1 [(0, .ref h)] := hl
  have in_X0 : ∀ w ∈ wsX00, w ∈ wsX0_count := by decide +kernel
  refine lv_aload_n hx hb dX0_count_0 rfl (lv_at hl 0 rfl) ?_
  refine q_get hx hb hts in_X0 hown S m_h e_h (C := RX0) (T := TX0) (N := 2) rfl 1 (by decide) rfl (hts (.fieldLink RX0 15 "SieveCabinet$Bag" "count" "I") (by decide +kernel)) dX0_count_1 ?_
  exact q_reti (post := fun x L1 f1 => x = nI n ∧ L1 = L ∧ f1 = f) hx hb hr hlk S dX0_count_4 (by decide) (by decide) (⟨rfl, rfl, rfl⟩)

set_option maxHeartbeats 4000000 in
set_option maxRecDepth 100000 in
/-- Bag.isFull -/
theorem c_X0_isFull (l : Launch) (D : va_G) (g : Nat → ClassId) {L : List Nat} {f : Nat → va_E} {h r n : Nat} (m_h : h ∈ L) (e_h : f h = .inr (0, [.ref r, .int ((nI n))])) (hn : n ≤ 1000) : cI l yX0_isFull wsX0_isFull { frames := 0, cells := 0, slots := 0, locals := 0 } D g [.ref h] L f 0 0 (fun x L1 f1 => x = (if 1000 ≤ n then 1 else 0) ∧ L1 = L ∧ f1 = f) := by
  refine cI_of (cc := cX0_isFull) (maxL := 1) (ret := (some .boolean)) (by decide) rfl (Nat.le_of_ble_eq_true rfl) ?_
  intro sz p e s m below meth c hx hb hr hml hts hown hlk hnm S ls hl
  have hl : lv_has ls 1 [(0, .ref h)] := hl
  have in_X0 : ∀ w ∈ wsX00, w ∈ wsX0_isFull := by decide +kernel
  refine lv_aload_n hx hb dX0_isFull_0 rfl (lv_at hl 0 rfl) ?_
  refine q_get hx hb hts in_X0 hown S m_h e_h (C := RX0) (T := TX0) (N := 2) rfl 1 (by decide) rfl (hts (.fieldLink RX0 15 "SieveCabinet$Bag" "count" "I") (by decide +kernel)) dX0_isFull_1 ?_
  refine lv_sipush (v := 1000) hx hb dX0_isFull_4 (by decide) ?_
  refine lv_icmp_lt (tgt := 14) hx hb dX0_isFull_7 (by decide) (fun b7 => ?_) (fun b7 => ?_)
  · skip
    refine lv_iconst (v := 0) hx hb dX0_isFull_14 (by decide) ?_
    exact q_retz (post := fun x L1 f1 => x = (if 1000 ≤ n then 1 else 0) ∧ L1 = L ∧ f1 = f) hx hb hr hlk S dX0_isFull_15 (by decide) (by decide) (by decide) (⟨(if_neg (fun h => absurd ((nI_ltI (b := 1000) (by omega) (by decide)).mp b7) (by omega))).symm, rfl, rfl⟩)
  · skip
    refine lv_iconst (v := 1) hx hb dX0_isFull_10 (by decide) ?_
    refine lv_goto (tgt := 15) hx hb dX0_isFull_11 (by decide) ?_
    exact q_retz (post := fun x L1 f1 => x = (if 1000 ≤ n then 1 else 0) ∧ L1 = L ∧ f1 = f) hx hb hr hlk S dX0_isFull_15 (by decide) (by decide) (by decide) (⟨(if_pos (Nat.le_of_not_lt (fun h => b7 ((nI_ltI (b := 1000) (by omega) (by decide)).mpr h)))).symm, rfl, rfl⟩)

set_option maxHeartbeats 4000000 in
set_option maxRecDepth 100000 in
/-- Bag.empty -/
theorem c_X0_empty (l : Launch) (D : va_G) (g : Nat → ClassId) {L : List Nat} {f : Nat → va_E} {h r n : Nat} (m_h : h ∈ L) (e_h : f h = .inr (0, [.ref r, .int ((nI n))]))  : cV l yX0_empty wsX0_empty { frames := 0, cells := 0, slots := 0, locals := 0 } D g [.ref h] L f 0 0 (fun L1 f1 => L1 = L ∧ f1 = va_up f h (.inr (0, [.ref r, .int 0]))) := by
  refine cV_of (cc := cX0_empty) (maxL := 1) (ret := none) (by decide) rfl (Nat.le_of_ble_eq_true rfl) ?_
  intro sz p e s m below meth c hx hb hr hml hts hown hlk hnm S ls hl
  have hl : lv_has ls 1 [(0, .ref h)] := hl
  have in_X0 : ∀ w ∈ wsX00, w ∈ wsX0_empty := by decide +kernel
  refine lv_aload_n hx hb dX0_empty_0 rfl (lv_at hl 0 rfl) ?_
  refine lv_iconst (v := 0) hx hb dX0_empty_1 (by decide) ?_
  refine q_put hx hb hts in_X0 tyX0 tyX0_ok nmX0 hown S m_h e_h (C := RX0) (T := TX0) (N := 2) rfl 1 (by decide) (hts (.fieldLink RX0 15 "SieveCabinet$Bag" "count" "I") (by decide +kernel)) rfl rfl rfl (Nat.le_of_ble_eq_true rfl) dX0_empty_2 (fun H locs S => ?_)
  obtain ⟨f1, ef1⟩ : ∃ z_, z_ = va_up f h (.inr (0, [.ref r, .int 0])) := ⟨_, rfl⟩
  have S : PS D g (va_A (va_pl L f) sz) s.heap s L f1 H locs := by rw [ef1]; exact S
  have e_h : f1 h = .inr (0, [.ref r, .int 0]) := up_self ef1
  exact q_retv (post := fun L1 f1 => L1 = L ∧ f1 = va_up f h (.inr (0, [.ref r, .int 0]))) hx hb hr hlk S dX0_empty_5 (by decide) (by decide) (⟨rfl, ef1⟩)

set_option maxHeartbeats 4000000 in
set_option maxRecDepth 100000 in
/-- Bag.at -/
theorem c_X0_at (l : Launch) (D : va_G) (g : Nat → ClassId) {L : List Nat} {f : Nat → va_E} {h r n : Nat} {v : Nat → Int64} {i : Int32} (m_h : h ∈ L) (e_h : f h = .inr (0, [.ref r, .int ((nI n))])) (m_r : r ∈ L) (e_r : f r = .inl (g 1, 1000, .inr (.inl v))) (hn : n ≤ 1000) : cL l yX0_at wsX0_at { frames := 0, cells := 0, slots := 0, locals := 0 } D g [.ref h, .int i] L f 0 0 (fun x L1 f1 => x = (if ¬ i < 0 ∧ ¬ nI n ≤ i then v i.toNatClampNeg else 0) ∧ L1 = L ∧ f1 = f) := by
  refine cL_of (cc := cX0_at) (maxL := 2) (ret := (some .long)) (by decide) rfl (Nat.le_of_ble_eq_true rfl) ?_
  intro sz p e s m below meth c hx hb hr hml hts hown hlk hnm S ls hl
  have hl : lv_has ls 2 [(0, .ref h), (1, .int i)] := hl
  have in_X0 : ∀ w ∈ wsX00, w ∈ wsX0_at := by decide +kernel
  refine lv_iload_n hx hb dX0_at_0 rfl (lv_at hl 1 rfl) ?_
  refine lv_if_lt (tgt := 21) hx hb dX0_at_1 (by decide) (fun b1 => ?_) (fun b1 => ?_)
  · skip
    refine lv_lconst (v := 0) hx hb dX0_at_21 (by decide) ?_
    exact q_retl (post := fun x L1 f1 => x = (if ¬ i < 0 ∧ ¬ nI n ≤ i then v i.toNatClampNeg else 0) ∧ L1 = L ∧ f1 = f) hx hb hr hlk S dX0_at_22 (by decide) (by decide) (⟨(if_neg (fun h => h.1 b1)).symm, rfl, rfl⟩)
  · skip
    refine lv_iload_n hx hb dX0_at_4 rfl (lv_at hl 1 rfl) ?_
    refine lv_aload_n hx hb dX0_at_5 rfl (lv_at hl 0 rfl) ?_
    refine q_get hx hb hts in_X0 hown S m_h e_h (C := RX0) (T := TX0) (N := 2) rfl 1 (by decide) rfl (hts (.fieldLink RX0 15 "SieveCabinet$Bag" "count" "I") (by decide +kernel)) dX0_at_6 ?_
    refine lv_icmp_ge (tgt := 21) hx hb dX0_at_9 (by decide) (fun b9 => ?_) (fun b9 => ?_)
    · skip
      refine lv_lconst (v := 0) hx hb dX0_at_21 (by decide) ?_
      exact q_retl (post := fun x L1 f1 => x = (if ¬ i < 0 ∧ ¬ nI n ≤ i then v i.toNatClampNeg else 0) ∧ L1 = L ∧ f1 = f) hx hb hr hlk S dX0_at_22 (by decide) (by decide) (⟨(if_neg (fun h => h.2 b9)).symm, rfl, rfl⟩)
    · skip
      refine lv_aload_n hx hb dX0_at_12 rfl (lv_at hl 0 rfl) ?_
      refine q_get hx hb hts in_X0 hown S m_h e_h (C := RX0) (T := TX0) (N := 2) rfl 0 (by decide) rfl (hts (.fieldLink RX0 9 "SieveCabinet$Bag" "row" "[J") (by decide +kernel)) dX0_at_13 ?_
      refine lv_iload_n hx hb dX0_at_16 rfl (lv_at hl 1 rfl) ?_
      refine q_lald hx hb S m_r e_r (pu_in b1 b9 hn (by decide)) dX0_at_17 ?_
      refine lv_goto (tgt := 22) hx hb dX0_at_18 (by decide) ?_
      exact q_retl (post := fun x L1 f1 => x = (if ¬ i < 0 ∧ ¬ nI n ≤ i then v i.toNatClampNeg else 0) ∧ L1 = L ∧ f1 = f) hx hb hr hlk S dX0_at_22 (by decide) (by decide) (⟨(if_pos ⟨b1, b9⟩).symm, rfl, rfl⟩)

set_option maxHeartbeats 4000000 in
set_option maxRecDepth 100000 in
/-- Bag.countBelow -/
theorem c_X0_countBelow (l : Launch) (D : va_G) (g : Nat → ClassId) {L : List Nat} {f : Nat → va_E} {h r n : Nat} {v : Nat → Int64} {t : Int64} (m_h : h ∈ L) (e_h : f h = .inr (0, [.ref r, .int ((nI n))])) (m_r : r ∈ L) (e_r : f r = .inl (g 1, 1000, .inr (.inl v))) (hn : n ≤ 1000) : cI l yX0_countBelow wsX0_countBelow { frames := 0, cells := 0, slots := 0, locals := 0 } D g [.ref h, .long t] L f 0 0 (fun x L1 f1 => x = nI (cb v n t) ∧ L1 = L ∧ f1 = f) := by
  refine cI_of (cc := cX0_countBelow) (maxL := 6) (ret := (some .int)) (by decide) rfl (Nat.le_of_ble_eq_true rfl) ?_
  intro sz p e s m below meth c hx hb hr hml hts hown hlk hnm S ls hl
  have hl : lv_has ls 6 [(0, .ref h), (1, .long t)] := hl
  have in_X0 : ∀ w ∈ wsX00, w ∈ wsX0_countBelow := by decide +kernel
  refine lv_iconst (v := 0) hx hb dX0_countBelow_0 (by decide) ?_
  refine lv_istore_n (lv' := [(3, .int 0), (0, .ref h), (1, .long t)]) hx hb dX0_countBelow_1 rfl hl (by decide) rfl (fun ls hl => ?_)
  refine lv_sipush (v := 512) hx hb dX0_countBelow_2 (by decide) ?_
  refine lv_istore (lv' := [(4, .int 512), (3, .int 0), (0, .ref h), (1, .long t)]) hx hb dX0_countBelow_5 hl (by decide) rfl (fun ls hl => ?_)
  obtain ⟨k, hk⟩ : ∃ k : Nat, k = 10 := ⟨_, rfl⟩
  obtain ⟨b, hb0⟩ : ∃ b : Nat, b = 0 := ⟨_, rfl⟩
  replace hl : lv_has ls 6 [(4, .int (nI (2 ^ k / 2))), (3, .int (nI b)), (0, .ref h), (1, .long t)] := by rw [hk, hb0]; exact hl
  have hk10 : k ≤ 10 := by omega
  have hbn : b ≤ n := by omega
  have hI : cbk v n t k b = cb v n t := by rw [hk, hb0]; rfl
  clear hk hb0
  induction k generalizing b ls with
  | zero =>
    refine lv_iload hx hb dX0_countBelow_7 (lv_at hl 0 rfl) ?_
    refine lv_if_le (tgt := 55) hx hb dX0_countBelow_9 (by decide) (fun b9 => ?_) (fun b9 => absurd (by decide) b9)
    refine lv_iload_n hx hb dX0_countBelow_55 rfl (lv_at hl 1 rfl) ?_
    exact q_reti (post := fun x L1 f1 => x = nI (cb v n t) ∧ L1 = L ∧ f1 = f) hx hb hr hlk S dX0_countBelow_56 (by decide) (by decide) (⟨congrArg nI hI, rfl, rfl⟩)
  | succ k ih =>
    have hp0 : 0 < 2 ^ k := Nat.two_pow_pos k
    have hp1 := pow_le10 (k := k) (by omega)
    have hp2 : 2 ^ (k + 1) / 2 = 2 ^ k := by rw [Nat.pow_succ]; omega
    rw [hp2] at hl
    refine lv_iload hx hb dX0_countBelow_7 (lv_at hl 0 rfl) ?_
    refine lv_if_le (tgt := 55) hx hb dX0_countBelow_9 (by decide) (fun b9 => absurd b9 (nI_nle hp0 (by omega))) (fun b9 => ?_)
    refine lv_iload_n hx hb dX0_countBelow_12 rfl (lv_at hl 1 rfl) ?_
    refine lv_iload hx hb dX0_countBelow_13 (lv_at hl 0 rfl) ?_
    refine lv_iadd hx hb dX0_countBelow_15 ?_
    refine lv_iconst (v := 1) hx hb dX0_countBelow_16 (by decide) ?_
    refine lv_isub hx hb dX0_countBelow_17 ?_
    refine lv_topi (fun la ela => ?_)
    have ela26 : la = nI (b + 2 ^ k - 1) := by rw [ela, nI_add, show b + 2 ^ k = (b + 2 ^ k - 1) + 1 by omega, nI_pred]; simp
    refine lv_istore (lv' := [(5, .int la), (4, .int ((nI (2 ^ k)))), (3, .int ((nI b))), (0, .ref h), (1, .long t)]) hx hb dX0_countBelow_18 hl (by decide) rfl (fun ls hl => ?_)
    refine lv_iload hx hb dX0_countBelow_20 (lv_at hl 0 rfl) ?_
    refine lv_aload_n hx hb dX0_countBelow_22 rfl (lv_at hl 3 rfl) ?_
    refine q_get hx hb hts in_X0 hown S m_h e_h (C := RX0) (T := TX0) (N := 2) rfl 1 (by decide) rfl (hts (.fieldLink RX0 15 "SieveCabinet$Bag" "count" "I") (by decide +kernel)) dX0_countBelow_23 ?_
    refine lv_icmp_ge (tgt := 46) hx hb dX0_countBelow_26 (by decide) (fun b26 => ?_) (fun b26 => ?_)
    · skip
      refine lv_iload hx hb dX0_countBelow_46 (lv_at hl 1 rfl) ?_
      refine lv_iconst (v := 2) hx hb dX0_countBelow_48 (by decide) ?_
      refine lv_idiv hx hb dX0_countBelow_49 (by decide) ?_
      refine lv_istore (lv' := [(4, .int (((nI (2 ^ k)) / 2))), (5, .int la), (3, .int ((nI b))), (0, .ref h), (1, .long t)]) hx hb dX0_countBelow_50 hl (by decide) rfl (fun ls hl => ?_)
      refine lv_goto (tgt := 7) hx hb dX0_countBelow_52 (by decide) ?_
      have hnx : ¬ (b + 2 ^ k - 1 < n ∧ v (b + 2 ^ k - 1) < t) := fun h => absurd (ela26 ▸ b26) (nI_ge h.1 (by omega))
      have hdv : nI (2 ^ k) / 2 = nI (2 ^ k / 2) := pk_div (d := 2) (by omega) (by decide) (by decide)
      exact ih (b := b) (ls := ls) (hl := by have q := lv_sub hl [0, 2, 3, 4] rfl; rw [hdv] at q; exact q) (hk10 := by omega) (hbn := by omega) (hI := by rw [← hI]; show _ = cbk v n t k _; rw [if_neg hnx])
    · skip
      refine lv_aload_n hx hb dX0_countBelow_29 rfl (lv_at hl 3 rfl) ?_
      refine q_get hx hb hts in_X0 hown S m_h e_h (C := RX0) (T := TX0) (N := 2) rfl 0 (by decide) rfl (hts (.fieldLink RX0 9 "SieveCabinet$Bag" "row" "[J") (by decide +kernel)) dX0_countBelow_30 ?_
      refine lv_iload hx hb dX0_countBelow_33 (lv_at hl 0 rfl) ?_
      refine q_lald hx hb S m_r e_r (pu_inL ela26 b26 hn) dX0_countBelow_35 ?_
      refine lv_lload_n hx hb dX0_countBelow_36 rfl (lv_at hl 4 rfl) ?_
      refine W.lcmp hx hb dX0_countBelow_37 ?_
      refine lv_if_ge (tgt := 46) hx hb dX0_countBelow_38 (by decide) (fun b38 => ?_) (fun b38 => ?_)
      · skip
        refine lv_iload hx hb dX0_countBelow_46 (lv_at hl 1 rfl) ?_
        refine lv_iconst (v := 2) hx hb dX0_countBelow_48 (by decide) ?_
        refine lv_idiv hx hb dX0_countBelow_49 (by decide) ?_
        refine lv_istore (lv' := [(4, .int (((nI (2 ^ k)) / 2))), (5, .int la), (3, .int ((nI b))), (0, .ref h), (1, .long t)]) hx hb dX0_countBelow_50 hl (by decide) rfl (fun ls hl => ?_)
        refine lv_goto (tgt := 7) hx hb dX0_countBelow_52 (by decide) ?_
        have hnx : ¬ (b + 2 ^ k - 1 < n ∧ v (b + 2 ^ k - 1) < t) := fun h => absurd h.2 (by rw [ela26, nI_clamp (by omega)] at b38; exact Int64.not_lt.mpr ((lg_cmp_ge _ _).mp b38))
        have hdv : nI (2 ^ k) / 2 = nI (2 ^ k / 2) := pk_div (d := 2) (by omega) (by decide) (by decide)
        exact ih (b := b) (ls := ls) (hl := by have q := lv_sub hl [0, 2, 3, 4] rfl; rw [hdv] at q; exact q) (hk10 := by omega) (hbn := by omega) (hI := by rw [← hI]; show _ = cbk v n t k _; rw [if_neg hnx])
      · skip
        refine lv_iload_n hx hb dX0_countBelow_41 rfl (lv_at hl 2 rfl) ?_
        refine lv_iload hx hb dX0_countBelow_42 (lv_at hl 1 rfl) ?_
        refine lv_iadd hx hb dX0_countBelow_44 ?_
        refine lv_istore_n (lv' := [(3, .int (((nI b) + (nI (2 ^ k))))), (5, .int la), (4, .int ((nI (2 ^ k)))), (0, .ref h), (1, .long t)]) hx hb dX0_countBelow_45 rfl hl (by decide) rfl (fun ls hl => ?_)
        refine lv_iload hx hb dX0_countBelow_46 (lv_at hl 2 rfl) ?_
        refine lv_iconst (v := 2) hx hb dX0_countBelow_48 (by decide) ?_
        refine lv_idiv hx hb dX0_countBelow_49 (by decide) ?_
        refine lv_istore (lv' := [(4, .int (((nI (2 ^ k)) / 2))), (3, .int (((nI b) + (nI (2 ^ k))))), (5, .int la), (0, .ref h), (1, .long t)]) hx hb dX0_countBelow_50 hl (by decide) rfl (fun ls hl => ?_)
        refine lv_goto (tgt := 7) hx hb dX0_countBelow_52 (by decide) ?_
        have hyx : b + 2 ^ k - 1 < n ∧ v (b + 2 ^ k - 1) < t := ⟨Nat.lt_of_not_le (fun h => b26 (ela26 ▸ nI_le h (by omega))), by rw [ela26, nI_clamp (by omega)] at b38; exact Int64.not_le.mp (fun h => b38 ((lg_cmp_ge _ _).mpr h))⟩
        have hdv : nI (2 ^ k) / 2 = nI (2 ^ k / 2) := pk_div (d := 2) (by omega) (by decide) (by decide)
        exact ih (b := b + 2 ^ k) (ls := ls) (hl := by have q := lv_sub hl [0, 1, 3, 4] rfl; rw [hdv, nI_add] at q; exact q) (hk10 := by omega) (hbn := by omega) (hI := by rw [← hI]; show _ = cbk v n t k _; rw [if_pos hyx])

set_option maxHeartbeats 4000000 in
set_option maxRecDepth 100000 in
/-- Bag.has -/
theorem c_X0_has (l : Launch) (D : va_G) (g : Nat → ClassId) {L : List Nat} {f : Nat → va_E} {h r n : Nat} {v : Nat → Int64} {t : Int64} (m_h : h ∈ L) (e_h : f h = .inr (0, [.ref r, .int ((nI n))])) (m_r : r ∈ L) (e_r : f r = .inl (g 1, 1000, .inr (.inl v))) (hn : n ≤ 1000) : cI l yX0_has wsX0_has { frames := 1, cells := 0, slots := 0, locals := 25 } D g [.ref h, .long t] L f 0 0 (fun x L1 f1 => x = (if cb v n t < n ∧ v (cb v n t) = t then 1 else 0) ∧ L1 = L ∧ f1 = f) := by
  refine cI_of (cc := cX0_has) (maxL := 4) (ret := (some .boolean)) (by decide) rfl (Nat.le_of_ble_eq_true rfl) ?_
  intro sz p e s m below meth c hx hb hr hml hts hown hlk hnm S ls hl
  have hl : lv_has ls 4 [(0, .ref h), (1, .long t)] := hl
  have in_X0 : ∀ w ∈ wsX00, w ∈ wsX0_has := by decide +kernel
  refine lv_aload_n hx hb dX0_has_0 rfl (lv_at hl 0 rfl) ?_
  refine lv_lload_n hx hb dX0_has_1 rfl (lv_at hl 1 rfl) ?_
  refine q_vi (As := [.long t]) (rest := []) ⟨hx, hb, hml, hown, hts⟩ (c_X0_countBelow l D g m_h e_h m_r e_r hn) (cwV 1 hts gX0_has_X0_countBelow rfl rfl rfl (by decide +kernel) ⟨Nat.le_of_ble_eq_true rfl, Nat.le_of_ble_eq_true rfl⟩) S m_h e_h (T := TX0) (N := 2) rfl rfl hl.1 rfl (Nat.le_of_ble_eq_true rfl) dX0_has_2 ⟨Nat.le_of_ble_eq_true rfl, Nat.le_of_ble_eq_true rfl⟩ (fun r3 L1 f2 H locs S w2 => ?_)
  obtain ⟨exw2, eLw2, efw2⟩ := w2
  rw [eLw2, efw2] at S
  subst exw2
  refine lv_istore_n (lv' := [(3, .int ((nI (cb v n t)))), (0, .ref h), (1, .long t)]) hx hb dX0_has_5 rfl hl (by decide) rfl (fun ls hl => ?_)
  refine lv_iload_n hx hb dX0_has_6 rfl (lv_at hl 0 rfl) ?_
  refine lv_aload_n hx hb dX0_has_7 rfl (lv_at hl 1 rfl) ?_
  refine q_get hx hb hts in_X0 hown S m_h e_h (C := RX0) (T := TX0) (N := 2) rfl 1 (by decide) rfl (hts (.fieldLink RX0 15 "SieveCabinet$Bag" "count" "I") (by decide +kernel)) dX0_has_8 ?_
  refine lv_icmp_ge (tgt := 29) hx hb dX0_has_11 (by decide) (fun b11 => ?_) (fun b11 => ?_)
  · skip
    refine lv_iconst (v := 0) hx hb dX0_has_29 (by decide) ?_
    exact q_retz (post := fun x L1 f1 => x = (if cb v n t < n ∧ v (cb v n t) = t then 1 else 0) ∧ L1 = L ∧ f1 = f) hx hb hr hlk S dX0_has_30 (by decide) (by decide) (by decide) (⟨(if_neg (fun h => absurd b11 (nI_ge h.1 (by omega)))).symm, rfl, rfl⟩)
  · skip
    refine lv_aload_n hx hb dX0_has_14 rfl (lv_at hl 1 rfl) ?_
    refine q_get hx hb hts in_X0 hown S m_h e_h (C := RX0) (T := TX0) (N := 2) rfl 0 (by decide) rfl (hts (.fieldLink RX0 9 "SieveCabinet$Bag" "row" "[J") (by decide +kernel)) dX0_has_15 ?_
    refine lv_iload_n hx hb dX0_has_18 rfl (lv_at hl 0 rfl) ?_
    refine q_lald hx hb S m_r e_r (pu_inL rfl b11 hn (by have := cb_le v n t; omega)) dX0_has_19 ?_
    refine lv_lload_n hx hb dX0_has_20 rfl (lv_at hl 2 rfl) ?_
    refine W.lcmp hx hb dX0_has_21 ?_
    refine lv_if_ne (tgt := 29) hx hb dX0_has_22 (by decide) (fun b22 => ?_) (fun b22 => ?_)
    · skip
      refine lv_iconst (v := 0) hx hb dX0_has_29 (by decide) ?_
      exact q_retz (post := fun x L1 f1 => x = (if cb v n t < n ∧ v (cb v n t) = t then 1 else 0) ∧ L1 = L ∧ f1 = f) hx hb hr hlk S dX0_has_30 (by decide) (by decide) (by decide) (⟨(if_neg (fun h => b22 ((lg_cmp_eq _ _).mpr (by rw [nI_clamp (by have := cb_le v n t; omega)]; exact h.2)))).symm, rfl, rfl⟩)
    · skip
      refine lv_iconst (v := 1) hx hb dX0_has_25 (by decide) ?_
      refine lv_goto (tgt := 30) hx hb dX0_has_26 (by decide) ?_
      exact q_retz (post := fun x L1 f1 => x = (if cb v n t < n ∧ v (cb v n t) = t then 1 else 0) ∧ L1 = L ∧ f1 = f) hx hb hr hlk S dX0_has_30 (by decide) (by decide) (by decide) (⟨(if_pos ⟨Nat.lt_of_not_le (fun h => b11 (nI_le h (by have := cb_le v n t; omega))), by have q := (lg_cmp_eq _ _).mp b22; rw [nI_clamp (by have := cb_le v n t; omega)] at q; exact q⟩).symm, rfl, rfl⟩)

set_option maxHeartbeats 4000000 in
set_option maxRecDepth 100000 in
/-- Bag.insert with room -/
theorem c_X0_insert (l : Launch) (D : va_G) (g : Nat → ClassId) {L : List Nat} {f : Nat → va_E} {h r n : Nat} {v : Nat → Int64} {t : Int64} (m_h : h ∈ L) (e_h : f h = .inr (0, [.ref r, .int ((nI n))])) (m_r : r ∈ L) (e_r : f r = .inl (g 1, 1000, .inr (.inl v))) (hn : n < 1000) : cI l yX0_insert wsX0_insert { frames := 1, cells := 0, slots := 0, locals := 25 } D g [.ref h, .long t] L f 0 0 (fun x L1 f1 => x = 1 ∧ L1 = L ∧ f1 = va_up (va_up f r (.inl (g 1, 1000, .inr (.inl (insR v n t))))) h (.inr (0, [.ref r, .int (nI (n + 1))]))) := by
  refine cI_of (cc := cX0_insert) (maxL := 4) (ret := (some .boolean)) (by decide) rfl (Nat.le_of_ble_eq_true rfl) ?_
  intro sz p e s m below meth c hx hb hr hml hts hown hlk hnm S ls hl
  have hl : lv_has ls 4 [(0, .ref h), (1, .long t)] := hl
  have in_X0 : ∀ w ∈ wsX00, w ∈ wsX0_insert := by decide +kernel
  refine lv_aload_n hx hb dX0_insert_0 rfl (lv_at hl 0 rfl) ?_
  refine q_vi (As := []) (rest := []) ⟨hx, hb, hml, hown, hts⟩ (c_X0_isFull l D g m_h e_h (Nat.le_of_lt hn)) (cwV 0 hts gX0_insert_X0_isFull rfl rfl rfl (by decide +kernel) ⟨Nat.le_of_ble_eq_true rfl, Nat.le_of_ble_eq_true rfl⟩) S m_h e_h (T := TX0) (N := 2) rfl rfl hl.1 rfl (Nat.le_of_ble_eq_true rfl) dX0_insert_1 ⟨Nat.le_of_ble_eq_true rfl, Nat.le_of_ble_eq_true rfl⟩ (fun r3 L1 f2 H locs S w1 => ?_)
  obtain ⟨exw1, eLw1, efw1⟩ := w1
  rw [eLw1, efw1] at S
  rw [if_neg (by omega)] at exw1
  subst exw1
  refine lv_if_eq (tgt := 9) hx hb dX0_insert_4 (by decide) (fun b4 => ?_) (fun b4 => absurd (rfl) b4)
  refine lv_aload_n hx hb dX0_insert_9 rfl (lv_at hl 0 rfl) ?_
  refine lv_lload_n hx hb dX0_insert_10 rfl (lv_at hl 1 rfl) ?_
  refine q_vi (As := [.long t]) (rest := []) ⟨hx, hb, hml, hown, hts⟩ (c_X0_countBelow l D g m_h e_h m_r e_r (Nat.le_of_lt hn)) (cwV 1 hts gX0_insert_X0_countBelow rfl rfl rfl (by decide +kernel) ⟨Nat.le_of_ble_eq_true rfl, Nat.le_of_ble_eq_true rfl⟩) S m_h e_h (T := TX0) (N := 2) rfl rfl hl.1 rfl (Nat.le_of_ble_eq_true rfl) dX0_insert_11 ⟨Nat.le_of_ble_eq_true rfl, Nat.le_of_ble_eq_true rfl⟩ (fun r6 L4 f5 H locs S w11 => ?_)
  obtain ⟨exw11, eLw11, efw11⟩ := w11
  rw [eLw11, efw11] at S
  subst exw11
  have hcb := cb_le v n t
  generalize hcq : cb v n t = cq at hcb ⊢
  refine lv_istore_n (lv' := [(3, .int ((nI cq))), (0, .ref h), (1, .long t)]) hx hb dX0_insert_14 rfl hl (by decide) rfl (fun ls hl => ?_)
  refine lv_aload_n hx hb dX0_insert_15 rfl (lv_at hl 1 rfl) ?_
  refine q_get hx hb hts in_X0 hown S m_h e_h (C := RX0) (T := TX0) (N := 2) rfl 0 (by decide) rfl (hts (.fieldLink RX0 9 "SieveCabinet$Bag" "row" "[J") (by decide +kernel)) dX0_insert_16 ?_
  refine lv_iload_n hx hb dX0_insert_19 rfl (lv_at hl 0 rfl) ?_
  refine lv_aload_n hx hb dX0_insert_20 rfl (lv_at hl 1 rfl) ?_
  refine q_get hx hb hts in_X0 hown S m_h e_h (C := RX0) (T := TX0) (N := 2) rfl 0 (by decide) rfl (hts (.fieldLink RX0 9 "SieveCabinet$Bag" "row" "[J") (by decide +kernel)) dX0_insert_21 ?_
  refine lv_iload_n hx hb dX0_insert_24 rfl (lv_at hl 0 rfl) ?_
  refine lv_iconst (v := 1) hx hb dX0_insert_25 (by decide) ?_
  refine lv_iadd hx hb dX0_insert_26 ?_
  refine lv_aload_n hx hb dX0_insert_27 rfl (lv_at hl 1 rfl) ?_
  refine q_get hx hb hts in_X0 hown S m_h e_h (C := RX0) (T := TX0) (N := 2) rfl 1 (by decide) rfl (hts (.fieldLink RX0 15 "SieveCabinet$Bag" "count" "I") (by decide +kernel)) dX0_insert_28 ?_
  refine lv_iload_n hx hb dX0_insert_31 rfl (lv_at hl 0 rfl) ?_
  refine lv_isub hx hb dX0_insert_32 ?_
  rw [nI_1, pk_sub hcb]
  refine q_copyl (rest := []) (x1 := cq) (x2 := (cq + 1)) (k := (n - cq)) hx hb (by rw [hml]; exact hl.1.symm) hown (hts (.methodLink RX0 27 arraycopyName) (by decide +kernel)) (hts (.native arraycopyName) (by decide +kernel)) (hts (.static arraycopyName) (by decide +kernel)) (hts (.initialized "java/lang/System") (by decide +kernel)) S m_r e_r m_r e_r (by omega) (by omega) (by decide) (by decide) (Nat.le_of_ble_eq_true rfl) (Nat.le_of_ble_eq_true rfl) dX0_insert_33 (fun H locs S => ?_)
  obtain ⟨f7, ef7⟩ : ∃ z_, z_ = va_up f r (.inl (g 1, 1000, .inr (.inl (va_cpy v v cq (cq + 1) (n - cq))))) := ⟨_, rfl⟩
  have S : PS D g (va_A (va_pl L f) sz) s.heap s L f7 H locs := by rw [ef7]; exact S
  have e_h : f7 h = .inr (0, [.ref r, .int ((nI n))]) := up_ne ef7 (ne_sh e_r e_h (fun h => by cases h)) e_h
  have e_r : f7 r = .inl (g 1, 1000, .inr (.inl (va_cpy v v cq (cq + 1) (n - cq)))) := up_self ef7
  refine lv_aload_n hx hb dX0_insert_36 rfl (lv_at hl 1 rfl) ?_
  refine q_get hx hb hts in_X0 hown S m_h e_h (C := RX0) (T := TX0) (N := 2) rfl 0 (by decide) rfl (hts (.fieldLink RX0 9 "SieveCabinet$Bag" "row" "[J") (by decide +kernel)) dX0_insert_37 ?_
  refine lv_iload_n hx hb dX0_insert_40 rfl (lv_at hl 0 rfl) ?_
  refine lv_lload_n hx hb dX0_insert_41 rfl (lv_at hl 2 rfl) ?_
  refine q_last hx hb S m_r e_r (vp_in_nI (by omega) (by decide)) dX0_insert_42 (fun H locs S => ?_)
  obtain ⟨f8, ef8⟩ : ∃ z_, z_ = va_up f7 r (.inl (g 1, 1000, .inr (.inl (vp_updL (va_cpy v v cq (cq + 1) (n - cq)) ((nI cq) : Int32).toNatClampNeg t)))) := ⟨_, rfl⟩
  have S : PS D g (va_A (va_pl L f) sz) s.heap s L f8 H locs := by rw [ef8]; exact S
  have e_h : f8 h = .inr (0, [.ref r, .int ((nI n))]) := up_ne ef8 (ne_sh e_r e_h (fun h => by cases h)) e_h
  have e_r : f8 r = .inl (g 1, 1000, .inr (.inl (vp_updL (va_cpy v v cq (cq + 1) (n - cq)) ((nI cq) : Int32).toNatClampNeg t))) := up_self ef8
  refine lv_aload_n hx hb dX0_insert_43 rfl (lv_at hl 1 rfl) ?_
  refine lv_dup hx hb dX0_insert_44 rfl ?_
  refine q_get hx hb hts in_X0 hown S m_h e_h (C := RX0) (T := TX0) (N := 2) rfl 1 (by decide) rfl (hts (.fieldLink RX0 15 "SieveCabinet$Bag" "count" "I") (by decide +kernel)) dX0_insert_45 ?_
  refine lv_iconst (v := 1) hx hb dX0_insert_48 (by decide) ?_
  refine lv_iadd hx hb dX0_insert_49 ?_
  refine q_put hx hb hts in_X0 tyX0 tyX0_ok nmX0 hown S m_h e_h (C := RX0) (T := TX0) (N := 2) rfl 1 (by decide) (hts (.fieldLink RX0 15 "SieveCabinet$Bag" "count" "I") (by decide +kernel)) rfl rfl rfl (Nat.le_of_ble_eq_true rfl) dX0_insert_50 (fun H locs S => ?_)
  obtain ⟨f9, ef9⟩ : ∃ z_, z_ = va_up f8 h (.inr (0, [.ref r, .int (((nI n) + 1))])) := ⟨_, rfl⟩
  have S : PS D g (va_A (va_pl L f) sz) s.heap s L f9 H locs := by rw [ef9]; exact S
  have e_r : f9 r = .inl (g 1, 1000, .inr (.inl (vp_updL (va_cpy v v cq (cq + 1) (n - cq)) ((nI cq) : Int32).toNatClampNeg t))) := up_ne ef9 (ne_sh e_h e_r (fun h => by cases h)) e_r
  have e_h : f9 h = .inr (0, [.ref r, .int (((nI n) + 1))]) := up_self ef9
  refine lv_iconst (v := 1) hx hb dX0_insert_53 (by decide) ?_
  exact q_retz (post := fun x L1 f1 => x = 1 ∧ L1 = L ∧ f1 = va_up (va_up f r (.inl (g 1, 1000, .inr (.inl (insR v n t))))) h (.inr (0, [.ref r, .int (nI (n + 1))]))) hx hb hr hlk S dX0_insert_54 (by decide) (by decide) (by decide) (⟨rfl, rfl, by rw [ef9, ef8, ef7, bx_uu, nI_1]; unfold insR; rw [hcq, nI_clamp (by omega)]⟩)

set_option maxHeartbeats 4000000 in
set_option maxRecDepth 100000 in
/-- Bag.copyFrom -/
theorem c_X0_copyFrom (l : Launch) (D : va_G) (g : Nat → ClassId) {L : List Nat} {f : Nat → va_E} {h r n : Nat} {v : Nat → Int64} {o ro no : Nat} {vo : Nat → Int64} (m_h : h ∈ L) (e_h : f h = .inr (0, [.ref r, .int ((nI n))])) (m_r : r ∈ L) (e_r : f r = .inl (g 1, 1000, .inr (.inl v))) (m_o : o ∈ L) (e_o : f o = .inr (0, [.ref ro, .int ((nI no))])) (m_ro : ro ∈ L) (e_ro : f ro = .inl (g 1, 1000, .inr (.inl vo))) (hno : no ≤ 1000) (n_o_h : o ≠ h) (n_ro_r : ro ≠ r) : cV l yX0_copyFrom wsX0_copyFrom { frames := 1, cells := 0, slots := 0, locals := 18 } D g [.ref h, .ref o] L f 0 0 (fun L1 f1 => L1 = L ∧ f1 = va_up (va_up f r (.inl (g 1, 1000, .inr (.inl (va_cpy vo v 0 0 no))))) h (.inr (0, [.ref r, .int (nI no)]))) := by
  refine cV_of (cc := cX0_copyFrom) (maxL := 2) (ret := none) (by decide) rfl (Nat.le_of_ble_eq_true rfl) ?_
  intro sz p e s m below meth c hx hb hr hml hts hown hlk hnm S ls hl
  have hl : lv_has ls 2 [(0, .ref h), (1, .ref o)] := hl
  have in_X0 : ∀ w ∈ wsX00, w ∈ wsX0_copyFrom := by decide +kernel
  refine lv_aload_n hx hb dX0_copyFrom_0 rfl (lv_at hl 1 rfl) ?_
  refine q_get hx hb hts in_X0 hown S m_o e_o (C := RX0) (T := TX0) (N := 2) rfl 0 (by decide) rfl (hts (.fieldLink RX0 9 "SieveCabinet$Bag" "row" "[J") (by decide +kernel)) dX0_copyFrom_1 ?_
  refine lv_iconst (v := 0) hx hb dX0_copyFrom_4 (by decide) ?_
  refine lv_aload_n hx hb dX0_copyFrom_5 rfl (lv_at hl 0 rfl) ?_
  refine q_get hx hb hts in_X0 hown S m_h e_h (C := RX0) (T := TX0) (N := 2) rfl 0 (by decide) rfl (hts (.fieldLink RX0 9 "SieveCabinet$Bag" "row" "[J") (by decide +kernel)) dX0_copyFrom_6 ?_
  refine lv_iconst (v := 0) hx hb dX0_copyFrom_9 (by decide) ?_
  refine lv_aload_n hx hb dX0_copyFrom_10 rfl (lv_at hl 1 rfl) ?_
  refine q_get hx hb hts in_X0 hown S m_o e_o (C := RX0) (T := TX0) (N := 2) rfl 1 (by decide) rfl (hts (.fieldLink RX0 15 "SieveCabinet$Bag" "count" "I") (by decide +kernel)) dX0_copyFrom_11 ?_
  refine q_copyl (rest := []) (x1 := 0) (x2 := 0) (k := no) hx hb (by rw [hml]; exact hl.1.symm) hown (hts (.methodLink RX0 27 arraycopyName) (by decide +kernel)) (hts (.native arraycopyName) (by decide +kernel)) (hts (.static arraycopyName) (by decide +kernel)) (hts (.initialized "java/lang/System") (by decide +kernel)) S m_ro e_ro m_r e_r (by omega) (by omega) (by decide) (by decide) (Nat.le_of_ble_eq_true rfl) (Nat.le_of_ble_eq_true rfl) dX0_copyFrom_14 (fun H locs S => ?_)
  obtain ⟨f1, ef1⟩ : ∃ z_, z_ = va_up f r (.inl (g 1, 1000, .inr (.inl (va_cpy vo v 0 0 no)))) := ⟨_, rfl⟩
  have S : PS D g (va_A (va_pl L f) sz) s.heap s L f1 H locs := by rw [ef1]; exact S
  have e_h : f1 h = .inr (0, [.ref r, .int ((nI n))]) := up_ne ef1 (ne_sh e_r e_h (fun h => by cases h)) e_h
  have e_o : f1 o = .inr (0, [.ref ro, .int ((nI no))]) := up_ne ef1 (ne_sh e_r e_o (fun h => by cases h)) e_o
  have e_ro : f1 ro = .inl (g 1, 1000, .inr (.inl vo)) := up_ne ef1 (n_ro_r) e_ro
  have e_r : f1 r = .inl (g 1, 1000, .inr (.inl (va_cpy vo v 0 0 no))) := up_self ef1
  refine lv_aload_n hx hb dX0_copyFrom_17 rfl (lv_at hl 0 rfl) ?_
  refine lv_aload_n hx hb dX0_copyFrom_18 rfl (lv_at hl 1 rfl) ?_
  refine q_get hx hb hts in_X0 hown S m_o e_o (C := RX0) (T := TX0) (N := 2) rfl 1 (by decide) rfl (hts (.fieldLink RX0 15 "SieveCabinet$Bag" "count" "I") (by decide +kernel)) dX0_copyFrom_19 ?_
  refine q_put hx hb hts in_X0 tyX0 tyX0_ok nmX0 hown S m_h e_h (C := RX0) (T := TX0) (N := 2) rfl 1 (by decide) (hts (.fieldLink RX0 15 "SieveCabinet$Bag" "count" "I") (by decide +kernel)) rfl rfl rfl (Nat.le_of_ble_eq_true rfl) dX0_copyFrom_22 (fun H locs S => ?_)
  obtain ⟨f2, ef2⟩ : ∃ z_, z_ = va_up f1 h (.inr (0, [.ref r, .int ((nI no))])) := ⟨_, rfl⟩
  have S : PS D g (va_A (va_pl L f) sz) s.heap s L f2 H locs := by rw [ef2]; exact S
  have e_r : f2 r = .inl (g 1, 1000, .inr (.inl (va_cpy vo v 0 0 no))) := up_ne ef2 (ne_sh e_h e_r (fun h => by cases h)) e_r
  have e_o : f2 o = .inr (0, [.ref ro, .int ((nI no))]) := up_ne ef2 (n_o_h) e_o
  have e_ro : f2 ro = .inl (g 1, 1000, .inr (.inl vo)) := up_ne ef2 (ne_sh e_h e_ro (fun h => by cases h)) e_ro
  have e_h : f2 h = .inr (0, [.ref r, .int ((nI no))]) := up_self ef2
  exact q_retv (post := fun L1 f1 => L1 = L ∧ f1 = va_up (va_up f r (.inl (g 1, 1000, .inr (.inl (va_cpy vo v 0 0 no))))) h (.inr (0, [.ref r, .int (nI no)]))) hx hb hr hlk S dX0_copyFrom_25 (by decide) (by decide) (⟨rfl, by rw [ef2, ef1]⟩)

set_option maxHeartbeats 4000000 in
set_option maxRecDepth 100000 in
/-- Bag.takeOne of an empty one -/
theorem c_X0_takeOne0 (l : Launch) (D : va_G) (g : Nat → ClassId) {L : List Nat} {f : Nat → va_E} {h r : Nat} {v : Nat → Int64} {t : Int64} (m_h : h ∈ L) (e_h : f h = .inr (0, [.ref r, .int ((nI 0))])) (m_r : r ∈ L) (e_r : f r = .inl (g 1, 1000, .inr (.inl v)))  : cI l yX0_takeOne wsX0_takeOne { frames := 1, cells := 0, slots := 0, locals := 25 } D g [.ref h, .long t] L f 0 0 (fun x L1 f1 => x = 0 ∧ L1 = L ∧ f1 = f) := by
  refine cI_of (cc := cX0_takeOne) (maxL := 4) (ret := (some .boolean)) (by decide) rfl (Nat.le_of_ble_eq_true rfl) ?_
  intro sz p e s m below meth c hx hb hr hml hts hown hlk hnm S ls hl
  have hl : lv_has ls 4 [(0, .ref h), (1, .long t)] := hl
  have in_X0 : ∀ w ∈ wsX00, w ∈ wsX0_takeOne := by decide +kernel
  refine lv_aload_n hx hb dX0_takeOne_0 rfl (lv_at hl 0 rfl) ?_
  refine lv_lload_n hx hb dX0_takeOne_1 rfl (lv_at hl 1 rfl) ?_
  refine q_vi (As := [.long t]) (rest := []) ⟨hx, hb, hml, hown, hts⟩ (c_X0_countBelow l D g m_h e_h m_r e_r (by omega)) (cwV 1 hts gX0_takeOne_X0_countBelow rfl rfl rfl (by decide +kernel) ⟨Nat.le_of_ble_eq_true rfl, Nat.le_of_ble_eq_true rfl⟩) S m_h e_h (T := TX0) (N := 2) rfl rfl hl.1 rfl (Nat.le_of_ble_eq_true rfl) dX0_takeOne_2 ⟨Nat.le_of_ble_eq_true rfl, Nat.le_of_ble_eq_true rfl⟩ (fun r3 L1 f2 H locs S w2 => ?_)
  obtain ⟨exw2, eLw2, efw2⟩ := w2
  rw [eLw2, efw2] at S
  rw [show cb v 0 t = 0 from cbk_0 v t 10 0] at exw2
  subst exw2
  refine lv_istore_n (lv' := [(3, .int ((nI 0))), (0, .ref h), (1, .long t)]) hx hb dX0_takeOne_5 rfl hl (by decide) rfl (fun ls hl => ?_)
  refine lv_iload_n hx hb dX0_takeOne_6 rfl (lv_at hl 0 rfl) ?_
  refine lv_aload_n hx hb dX0_takeOne_7 rfl (lv_at hl 1 rfl) ?_
  refine q_get hx hb hts in_X0 hown S m_h e_h (C := RX0) (T := TX0) (N := 2) rfl 1 (by decide) rfl (hts (.fieldLink RX0 15 "SieveCabinet$Bag" "count" "I") (by decide +kernel)) dX0_takeOne_8 ?_
  refine lv_icmp_ge (tgt := 25) hx hb dX0_takeOne_11 (by decide) (fun b11 => ?_) (fun b11 => absurd (Int32.le_refl _) b11)
  refine lv_iconst (v := 0) hx hb dX0_takeOne_25 (by decide) ?_
  exact q_retz (post := fun x L1 f1 => x = 0 ∧ L1 = L ∧ f1 = f) hx hb hr hlk S dX0_takeOne_26 (by decide) (by decide) (by decide) (⟨rfl, rfl, rfl⟩)

set_option maxHeartbeats 4000000 in
set_option maxRecDepth 100000 in
/-- Bag.becomeWithout: nothing out of an empty one -/
theorem c_X0_becomeWithout0 (l : Launch) (D : va_G) (g : Nat → ClassId) {L : List Nat} {f : Nat → va_E} {h r n : Nat} {o ro o2 : Nat} (m_h : h ∈ L) (e_h : f h = .inr (0, [.ref r, .int ((nI n))])) (m_o : o ∈ L) (e_o : f o = .inr (0, [.ref ro, .int ((nI 0))])) (n_o_h : o ≠ h) : cV l yX0_becomeWithout wsX0_becomeWithout { frames := 1, cells := 0, slots := 0, locals := 20 } D g [.ref h, .ref o, .ref o2] L f 0 0 (fun L1 f1 => L1 = L ∧ f1 = va_up f h (.inr (0, [.ref r, .int 0]))) := by
  refine cV_of (cc := cX0_becomeWithout) (maxL := 4) (ret := none) (by decide) rfl (Nat.le_of_ble_eq_true rfl) ?_
  intro sz p e s m below meth c hx hb hr hml hts hown hlk hnm S ls hl
  have hl : lv_has ls 4 [(0, .ref h), (1, .ref o), (2, .ref o2)] := hl
  have in_X0 : ∀ w ∈ wsX00, w ∈ wsX0_becomeWithout := by decide +kernel
  refine lv_aload_n hx hb dX0_becomeWithout_0 rfl (lv_at hl 0 rfl) ?_
  refine q_vv (As := []) (rest := []) ⟨hx, hb, hml, hown, hts⟩ (c_X0_empty l D g m_h e_h) (cwV 0 hts gX0_becomeWithout_X0_empty rfl rfl rfl (by decide +kernel) ⟨Nat.le_of_ble_eq_true rfl, Nat.le_of_ble_eq_true rfl⟩) S m_h e_h (T := TX0) (N := 2) rfl rfl hl.1 rfl (Nat.le_of_ble_eq_true rfl) dX0_becomeWithout_1 ⟨Nat.le_of_ble_eq_true rfl, Nat.le_of_ble_eq_true rfl⟩ (fun L1 f2 H locs S w1 => ?_)
  obtain ⟨eLw1, efw1⟩ := w1
  rw [eLw1, efw1] at S
  obtain ⟨f4, ef4⟩ : ∃ z_, z_ = va_up f h (.inr (0, [.ref r, .int 0])) := ⟨_, rfl⟩
  have S : PS D g (va_A (va_pl L f) sz) s.heap s L f4 H locs := by rw [ef4]; exact S
  have e_o : f4 o = .inr (0, [.ref ro, .int ((nI 0))]) := up_ne ef4 (n_o_h) e_o
  have e_h : f4 h = .inr (0, [.ref r, .int 0]) := up_self ef4
  refine lv_iconst (v := 0) hx hb dX0_becomeWithout_4 (by decide) ?_
  refine lv_istore_n (lv' := [(3, .int 0), (0, .ref h), (1, .ref o), (2, .ref o2)]) hx hb dX0_becomeWithout_5 rfl hl (by decide) rfl (fun ls hl => ?_)
  refine lv_iload_n hx hb dX0_becomeWithout_6 rfl (lv_at hl 0 rfl) ?_
  refine lv_aload_n hx hb dX0_becomeWithout_7 rfl (lv_at hl 2 rfl) ?_
  refine q_get hx hb hts in_X0 hown S m_o e_o (C := RX0) (T := TX0) (N := 2) rfl 1 (by decide) rfl (hts (.fieldLink RX0 15 "SieveCabinet$Bag" "count" "I") (by decide +kernel)) dX0_becomeWithout_8 ?_
  refine lv_icmp_ge (tgt := 43) hx hb dX0_becomeWithout_11 (by decide) (fun b11 => ?_) (fun b11 => absurd (by decide) b11)
  exact q_retv (post := fun L1 f1 => L1 = L ∧ f1 = va_up f h (.inr (0, [.ref r, .int 0]))) hx hb hr hlk S dX0_becomeWithout_43 (by decide) (by decide) (⟨rfl, ef4⟩)
