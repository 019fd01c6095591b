set_option maxHeartbeats 4000000 in
set_option maxRecDepth 100000 in
/-- reference: placeOf -/
theorem c_X9_placeOf (l : Launch) (D : va_G) (g : Nat → ClassId) {L : List Nat} {f : Nat → va_E} {y y0 y1 y2 y3 y4 y5 y6 y7 y8 y9 y10 y11 y12 y13 y15 y16 y17 y18 y19 y20 y21 y22 : Nat} {v_worlds : Nat → Int64} {v_inWorld : Nat → Int32}                     {mm : Int32} {j cn : Nat} {t : Int64} (m_y : y ∈ L) (e_y : f y = .inr (7, [.ref y0, .ref y1, .ref y2, .ref y3, .ref y4, .ref y5, .ref y6, .ref y7, .ref y8, .ref y9, .ref y10, .ref y11, .ref y12, .ref y13, .int mm, .ref y15, .ref y16, .ref y17, .ref y18, .ref y19, .ref y20, .ref y21, .ref y22])) (m_y1 : y1 ∈ L) (e_y1 : f y1 = .inl (g 0, 8, .inl v_inWorld)) (m_y0 : y0 ∈ L) (e_y0 : f y0 = .inl (g 1, 8000, .inr (.inl v_worlds))) (hj : j < 8) (hc : v_inWorld j = nI cn) (hc1 : cn ≤ 1000) : cI l yX9_placeOf wsX9_placeOf { frames := 0, cells := 0, slots := 0, locals := 0 } D g [.ref y, .int ((nI j)), .long t] L f 0 0 (fun x L1 f1 => ((∃ i : Nat, i < cn ∧ v_worlds (j * 1000 + i) = t ∧ x = nI i) ∨ ((∀ i, i < cn → v_worlds (j * 1000 + i) ≠ t) ∧ x = -1)) ∧ L1 = L ∧ f1 = f) := by
  refine cI_of (cc := cX9_placeOf) (maxL := 5) (ret := (some .int)) (by decide) rfl (Nat.le_of_ble_eq_true rfl) ?_
  intro sz p e s m below meth c hx hb hr hml hts hown hlk hnm S ls hl
  have hl : lv_has ls 5 [(0, .ref y), (1, .int ((nI j))), (2, .long t)] := hl
  have in_X9 : ∀ w ∈ wsX90, w ∈ wsX9_placeOf := by decide +kernel
  refine lv_iconst (v := 0) hx hb dX9_placeOf_0 (by decide) ?_
  refine lv_istore (lv' := [(4, .int 0), (0, .ref y), (1, .int ((nI j))), (2, .long t)]) hx hb dX9_placeOf_1 hl (by decide) rfl (fun ls hl => ?_)
  obtain ⟨i, ei⟩ : ∃ z_ : Nat, z_ = 0 := ⟨_, rfl⟩
  refine W_any (X := fun H locs => PS D g (va_A (va_pl L f) sz) s.heap s L f H locs) S (fun H locs S => ?_)
  refine W_ls (lv := [(4, .int ((nI i))), (0, .ref y), (1, .int ((nI j))), (2, .long t)]) (by have q := lv_sub hl [0, 1, 2, 3] rfl; rw [ei]; exact q) (fun ls hl => ?_)
  have hne : ∀ a, a < i → v_worlds (j * 1000 + a) ≠ t := by intro a ha; omega
  obtain ⟨d, hd⟩ : ∃ z_ : Nat, i + z_ = cn := ⟨cn - i, by omega⟩
  clear ei
  induction d generalizing i H locs ls with
  | zero =>
    have hN : i = cn := by omega
    refine lv_iload hx hb dX9_placeOf_3 (lv_at hl 0 rfl) ?_
    refine lv_aload_n hx hb dX9_placeOf_5 rfl (lv_at hl 1 rfl) ?_
    refine q_get hx hb hts in_X9 hown S m_y e_y (C := RX9) (T := TX9) (N := 23) rfl 1 (by decide) rfl (hts (.fieldLink RX9 13 "SieveCabinetModel" "inWorld" "[I") (by decide +kernel)) dX9_placeOf_6 ?_
    refine lv_iload_n hx hb dX9_placeOf_9 rfl (lv_at hl 2 rfl) ?_
    refine q_iald hx hb S m_y1 e_y1 (vp_in_nI hj (by decide)) dX9_placeOf_10 ?_
    rw [show v_inWorld ((nI j) : Int32).toNatClampNeg = (nI cn) from by rw [nI_clamp (by omega)]; exact hc]
    refine lv_icmp_ge (tgt := 41) hx hb dX9_placeOf_11 (by decide) (fun b11 => ?_) (fun b11 => absurd (by rw [hN]; exact Int32.le_refl _) b11)
    refine lv_iconst (v := -1) hx hb dX9_placeOf_41 (by decide) ?_
    exact q_reti (post := fun x L1 f1 => ((∃ i : Nat, i < cn ∧ v_worlds (j * 1000 + i) = t ∧ x = nI i) ∨ ((∀ i, i < cn → v_worlds (j * 1000 + i) ≠ t) ∧ x = -1)) ∧ L1 = L ∧ f1 = f) hx hb hr hlk S dX9_placeOf_42 (by decide) (by decide) (⟨Or.inr ⟨fun a ha => hne a (by omega), rfl⟩, rfl, rfl⟩)
  | succ d ih =>
    have hlt : i < cn := by omega
    refine lv_iload hx hb dX9_placeOf_3 (lv_at hl 0 rfl) ?_
    refine lv_aload_n hx hb dX9_placeOf_5 rfl (lv_at hl 1 rfl) ?_
    refine q_get hx hb hts in_X9 hown S m_y e_y (C := RX9) (T := TX9) (N := 23) rfl 1 (by decide) rfl (hts (.fieldLink RX9 13 "SieveCabinetModel" "inWorld" "[I") (by decide +kernel)) dX9_placeOf_6 ?_
    refine lv_iload_n hx hb dX9_placeOf_9 rfl (lv_at hl 2 rfl) ?_
    refine q_iald hx hb S m_y1 e_y1 (vp_in_nI hj (by decide)) dX9_placeOf_10 ?_
    rw [show v_inWorld ((nI j) : Int32).toNatClampNeg = (nI cn) from by rw [nI_clamp (by omega)]; exact hc]
    refine lv_icmp_ge (tgt := 41) hx hb dX9_placeOf_11 (by decide) (fun b11 => absurd b11 (nI_ge hlt (by omega))) (fun b11 => ?_)
    refine lv_aload_n hx hb dX9_placeOf_14 rfl (lv_at hl 1 rfl) ?_
    refine q_get hx hb hts in_X9 hown S m_y e_y (C := RX9) (T := TX9) (N := 23) rfl 0 (by decide) rfl (hts (.fieldLink RX9 9 "SieveCabinetModel" "worlds" "[J") (by decide +kernel)) dX9_placeOf_15 ?_
    refine lv_iload_n hx hb dX9_placeOf_18 rfl (lv_at hl 2 rfl) ?_
    refine lv_sipush (v := 1000) hx hb dX9_placeOf_19 (by decide) ?_
    refine lv_imul hx hb dX9_placeOf_22 ?_
    refine lv_iload hx hb dX9_placeOf_23 (lv_at hl 0 rfl) ?_
    refine lv_iadd hx hb dX9_placeOf_25 ?_
    refine q_lald hx hb S m_y0 e_y0 (by rw [pu_ix]; exact vp_in_nI (by omega) (by decide)) dX9_placeOf_26 ?_
    rw [show v_worlds ((((nI j) * 1000) + (nI i)) : Int32).toNatClampNeg = (v_worlds (j * 1000 + i)) from by rw [pu_ix, nI_clamp (by omega)]]
    refine lv_lload_n hx hb dX9_placeOf_27 rfl (lv_at hl 3 rfl) ?_
    refine W.lcmp hx hb dX9_placeOf_28 ?_
    refine lv_if_ne (tgt := 35) hx hb dX9_placeOf_29 (by decide) (fun b29 => ?_) (fun b29 => ?_)
    · skip
      obtain ⟨i1, ei1⟩ : ∃ y : Int32, y = (nI i) + (1) := ⟨_, rfl⟩
      refine lv_iinc (v := i1) (lv' := [(4, .int i1), (0, .ref y), (1, .int ((nI j))), (2, .long t)]) hx hb dX9_placeOf_35 hl (k := 0) rfl (by rw [ei1]; rfl) (by decide) rfl (fun ls hl => ?_)
      refine lv_goto (tgt := 3) hx hb dX9_placeOf_38 (by decide) ?_
      exact ih (i := (i + 1)) (H := _) (locs := _) (S := S) (ls := ls) (hd := by omega) (hne := by intro a ha; exact (Nat.lt_or_ge a i).elim (fun q => hne a q) (fun q => by have e9 : a = i := (by omega); subst e9; exact fun h9 => b29 ((lg_cmp_eq _ _).mpr h9))) (hl := by have q := lv_sub hl [0, 1, 2, 3] rfl; rw [ei1, nI_1] at q; exact q)
    · skip
      refine lv_iload hx hb dX9_placeOf_32 (lv_at hl 0 rfl) ?_
      exact q_reti (post := fun x L1 f1 => ((∃ i : Nat, i < cn ∧ v_worlds (j * 1000 + i) = t ∧ x = nI i) ∨ ((∀ i, i < cn → v_worlds (j * 1000 + i) ≠ t) ∧ x = -1)) ∧ L1 = L ∧ f1 = f) hx hb hr hlk S dX9_placeOf_34 (by decide) (by decide) (⟨Or.inl ⟨i, hlt, (lg_cmp_eq _ _).mp b29, rfl⟩, rfl, rfl⟩)

set_option maxHeartbeats 4000000 in
set_option maxRecDepth 100000 in
/-- reference: enter, where there is room -/
theorem c_X9_enter (l : Launch) (D : va_G) (g : Nat → ClassId) {L : List Nat} {f : Nat → va_E} {y y0 y1 y2 y3 y4 y5 y6 y7 y8 y9 y10 y11 y12 y13 y15 y16 y17 y18 y19 y20 y21 y22 : Nat} {v_worlds : Nat → Int64} {v_inWorld : Nat → Int32}                     {mm : Int32} {j cn : Nat} {t : Int64} (m_y : y ∈ L) (e_y : f y = .inr (7, [.ref y0, .ref y1, .ref y2, .ref y3, .ref y4, .ref y5, .ref y6, .ref y7, .ref y8, .ref y9, .ref y10, .ref y11, .ref y12, .ref y13, .int mm, .ref y15, .ref y16, .ref y17, .ref y18, .ref y19, .ref y20, .ref y21, .ref y22])) (m_y1 : y1 ∈ L) (e_y1 : f y1 = .inl (g 0, 8, .inl v_inWorld)) (m_y0 : y0 ∈ L) (e_y0 : f y0 = .inl (g 1, 8000, .inr (.inl v_worlds))) (hnd : [y, y0, y1, y2, y3, y4, y5, y6, y7, y8, y9, y10, y11, y12, y13, y15, y16, y17, y18, y19, y20, y21, y22].Nodup) (hj : j < 8) (hc : v_inWorld j = nI cn) (hc1 : cn < 1000) : cV l yX9_enter wsX9_enter { frames := 0, cells := 0, slots := 0, locals := 0 } D g [.ref y, .int ((nI j)), .long t] L f 0 0 (fun L1 f1 => L1 = L ∧ (∀ b, b ∈ L → b ≠ y1 → b ≠ y0 → f1 b = f b) ∧ ∃ u : Nat → Int64, ∃ q : Nat → Int32, f1 y0 = .inl (g 1, 8000, .inr (.inl u)) ∧ f1 y1 = .inl (g 0, 8, .inl q) ∧ q j = nI (cn + 1) ∧ ∀ i, i ≤ cn → u (j * 1000 + i) = t ∨ ∃ a, a < cn ∧ u (j * 1000 + i) = v_worlds (j * 1000 + a)) := by
  refine cV_of (cc := cX9_enter) (maxL := 5) (ret := none) (by decide) rfl (Nat.le_of_ble_eq_true rfl) ?_
  intro sz p e s m below meth c hx hb hr hml hts hown hlk hnm S ls hl
  have hl : lv_has ls 5 [(0, .ref y), (1, .int ((nI j))), (2, .long t)] := hl
  have in_X9 : ∀ w ∈ wsX90, w ∈ wsX9_enter := by decide +kernel
  have fr : ∀ b, b ∈ L → b ≠ y1 → b ≠ y0 → f b = f b := fun _ _ _ _ => rfl
  have mono : ∀ b, b ∈ L → b ∈ L := fun _ h => h
  refine lv_aload_n hx hb dX9_enter_0 rfl (lv_at hl 0 rfl) ?_
  refine q_get hx hb hts in_X9 hown S m_y e_y (C := RX9) (T := TX9) (N := 23) rfl 1 (by decide) rfl (hts (.fieldLink RX9 13 "SieveCabinetModel" "inWorld" "[I") (by decide +kernel)) dX9_enter_1 ?_
  refine lv_iload_n hx hb dX9_enter_4 rfl (lv_at hl 1 rfl) ?_
  refine q_iald hx hb S m_y1 e_y1 (vp_in_nI hj (by decide)) dX9_enter_5 ?_
  rw [show v_inWorld ((nI j) : Int32).toNatClampNeg = (nI cn) from by rw [nI_clamp (by omega)]; exact hc]
  refine lv_istore (lv' := [(4, .int ((nI cn))), (0, .ref y), (1, .int ((nI j))), (2, .long t)]) hx hb dX9_enter_6 hl (by decide) rfl (fun ls hl => ?_)
  obtain ⟨k, ek⟩ : ∃ z_ : Nat, z_ = cn := ⟨_, rfl⟩
  obtain ⟨k_y0, ek_y0⟩ : ∃ z_ : Nat → Int64, z_ = v_worlds := ⟨_, rfl⟩
  obtain ⟨fl, efl⟩ : ∃ z_, z_ = f := ⟨_, rfl⟩
  have e_y : fl y = .inr (7, [.ref y0, .ref y1, .ref y2, .ref y3, .ref y4, .ref y5, .ref y6, .ref y7, .ref y8, .ref y9, .ref y10, .ref y11, .ref y12, .ref y13, .int mm, .ref y15, .ref y16, .ref y17, .ref y18, .ref y19, .ref y20, .ref y21, .ref y22]) := by rw [efl]; exact e_y
  have e_y1 : fl y1 = .inl (g 0, 8, .inl v_inWorld) := by rw [efl]; exact e_y1
  have e_y0 : fl y0 = .inl (g 1, 8000, .inr (.inl k_y0)) := by rw [efl, ek_y0]; exact e_y0
  have fr : ∀ b, b ∈ L → b ≠ y1 → b ≠ y0 → fl b = f b := by rw [efl]; exact fr
  have S_0 : PS D g (va_A (va_pl L f) sz) s.heap s L fl s.heap [] := by rw [efl]; exact S
  refine W_any (X := fun H locs => PS D g (va_A (va_pl L f) sz) s.heap s L fl H locs) S_0 (fun H locs S => ?_)
  refine W_ls (lv := [(4, .int ((nI k))), (0, .ref y), (1, .int ((nI j))), (2, .long t)]) (by have q := lv_sub hl [0, 1, 2, 3] rfl; rw [ek]; exact q) (fun ls hl => ?_)
  have hkc : k ≤ cn := by omega
  have hu : ∀ i, i ≤ cn → i ≠ k → ∃ a, a < cn ∧ k_y0 (j * 1000 + i) = v_worlds (j * 1000 + a) := by intro i hi hik; rw [ek_y0]; exact ⟨i, by omega, rfl⟩
  obtain ⟨d, hd⟩ : ∃ z_ : Nat, k < z_ := ⟨k + 1, by omega⟩
  clear ek ek_y0 efl S_0
  induction d generalizing k k_y0 fl H locs ls with
  | zero => exact absurd hd (by omega)
  | succ d ih =>
    refine lv_iload hx hb dX9_enter_8 (lv_at hl 0 rfl) ?_
    refine lv_if_le (tgt := 67) hx hb dX9_enter_10 (by decide) (fun b10 => ?_) (fun b10 => ?_)
    · skip
      refine lv_aload_n hx hb dX9_enter_67 rfl (lv_at hl 1 rfl) ?_
      refine q_get hx hb hts in_X9 hown S m_y e_y (C := RX9) (T := TX9) (N := 23) rfl 0 (by decide) rfl (hts (.fieldLink RX9 9 "SieveCabinetModel" "worlds" "[J") (by decide +kernel)) dX9_enter_68 ?_
      refine lv_iload_n hx hb dX9_enter_71 rfl (lv_at hl 2 rfl) ?_
      refine lv_sipush (v := 1000) hx hb dX9_enter_72 (by decide) ?_
      refine lv_imul hx hb dX9_enter_75 ?_
      refine lv_iload hx hb dX9_enter_76 (lv_at hl 0 rfl) ?_
      refine lv_iadd hx hb dX9_enter_78 ?_
      refine lv_lload_n hx hb dX9_enter_79 rfl (lv_at hl 3 rfl) ?_
      refine q_last hx hb S m_y0 e_y0 (by rw [pu_ix]; exact vp_in_nI (by omega) (by decide)) dX9_enter_80 (fun H locs S => ?_)
      obtain ⟨f1, ef1⟩ : ∃ z_, z_ = va_up fl y0 (.inl (g 1, 8000, .inr (.inl (vp_updL k_y0 ((((nI j) * 1000) + (nI k)) : Int32).toNatClampNeg t)))) := ⟨_, rfl⟩
      have S : PS D g (va_A (va_pl L f) sz) s.heap s L f1 H locs := by rw [ef1]; exact S
      have e_y : f1 y = .inr (7, [.ref y0, .ref y1, .ref y2, .ref y3, .ref y4, .ref y5, .ref y6, .ref y7, .ref y8, .ref y9, .ref y10, .ref y11, .ref y12, .ref y13, .int mm, .ref y15, .ref y16, .ref y17, .ref y18, .ref y19, .ref y20, .ref y21, .ref y22]) := up_ne ef1 (nd_ne hnd (i := 1) (j := 0) rfl rfl (by decide)) e_y
      have e_y1 : f1 y1 = .inl (g 0, 8, .inl v_inWorld) := up_ne ef1 (nd_ne hnd (i := 1) (j := 2) rfl rfl (by decide)) e_y1
      have e_y0 : f1 y0 = .inl (g 1, 8000, .inr (.inl (vp_updL k_y0 ((((nI j) * 1000) + (nI k)) : Int32).toNatClampNeg t))) := up_self ef1
      have fr : ∀ b, b ∈ L → b ≠ y1 → b ≠ y0 → f1 b = f b := fun b mb nb0 nb1 => (up_ne ef1 nb1 rfl).trans (fr b mb nb0 nb1)
      refine lv_aload_n hx hb dX9_enter_81 rfl (lv_at hl 1 rfl) ?_
      refine q_get hx hb hts in_X9 hown S m_y e_y (C := RX9) (T := TX9) (N := 23) rfl 1 (by decide) rfl (hts (.fieldLink RX9 13 "SieveCabinetModel" "inWorld" "[I") (by decide +kernel)) dX9_enter_82 ?_
      refine lv_iload_n hx hb dX9_enter_85 rfl (lv_at hl 2 rfl) ?_
      refine lv_dup2_11 hx hb dX9_enter_86 rfl rfl ?_
      refine q_iald hx hb S m_y1 e_y1 (vp_in_nI hj (by decide)) dX9_enter_87 ?_
      rw [show v_inWorld ((nI j) : Int32).toNatClampNeg = (nI cn) from by rw [nI_clamp (by omega)]; exact hc]
      refine lv_iconst (v := 1) hx hb dX9_enter_88 (by decide) ?_
      refine lv_iadd hx hb dX9_enter_89 ?_
      refine q_iast hx hb S m_y1 e_y1 (vp_in_nI hj (by decide)) dX9_enter_90 (fun H locs S => ?_)
      obtain ⟨f2, ef2⟩ : ∃ z_, z_ = va_up f1 y1 (.inl (g 0, 8, .inl (upd v_inWorld ((nI j) : Int32).toNatClampNeg ((nI cn) + 1)))) := ⟨_, rfl⟩
      have S : PS D g (va_A (va_pl L f) sz) s.heap s L f2 H locs := by rw [ef2]; exact S
      have e_y : f2 y = .inr (7, [.ref y0, .ref y1, .ref y2, .ref y3, .ref y4, .ref y5, .ref y6, .ref y7, .ref y8, .ref y9, .ref y10, .ref y11, .ref y12, .ref y13, .int mm, .ref y15, .ref y16, .ref y17, .ref y18, .ref y19, .ref y20, .ref y21, .ref y22]) := up_ne ef2 (nd_ne hnd (i := 2) (j := 0) rfl rfl (by decide)) e_y
      have e_y0 : f2 y0 = .inl (g 1, 8000, .inr (.inl (vp_updL k_y0 ((((nI j) * 1000) + (nI k)) : Int32).toNatClampNeg t))) := up_ne ef2 (nd_ne hnd (i := 2) (j := 1) rfl rfl (by decide)) e_y0
      have e_y1 : f2 y1 = .inl (g 0, 8, .inl (upd v_inWorld ((nI j) : Int32).toNatClampNeg ((nI cn) + 1))) := up_self ef2
      have fr : ∀ b, b ∈ L → b ≠ y1 → b ≠ y0 → f2 b = f b := fun b mb nb0 nb1 => (up_ne ef2 nb0 rfl).trans (fr b mb nb0 nb1)
      exact q_retv (post := fun L1 f1 => L1 = L ∧ (∀ b, b ∈ L → b ≠ y1 → b ≠ y0 → f1 b = f b) ∧ ∃ u : Nat → Int64, ∃ q : Nat → Int32, f1 y0 = .inl (g 1, 8000, .inr (.inl u)) ∧ f1 y1 = .inl (g 0, 8, .inl q) ∧ q j = nI (cn + 1) ∧ ∀ i, i ≤ cn → u (j * 1000 + i) = t ∨ ∃ a, a < cn ∧ u (j * 1000 + i) = v_worlds (j * 1000 + a)) hx hb hr hlk S dX9_enter_91 (by decide) (by decide) (⟨rfl, fr, _, _, e_y0, e_y1, by rw [nI_clamp (by omega), pk_us, nI_1], fun i hi => by rw [pu_ix, nI_clamp (by omega)]; exact (if h9 : i = k then (by subst h9; exact Or.inl pk_uLs) else (by rw [pk_uLn (by omega)]; exact Or.inr (hu i hi h9)))⟩)
    · skip
      have hk0 : 0 < k := Nat.pos_of_ne_zero (fun h => b10 (by rw [h]; decide))
      refine lv_aload_n hx hb dX9_enter_13 rfl (lv_at hl 1 rfl) ?_
      refine q_get hx hb hts in_X9 hown S m_y e_y (C := RX9) (T := TX9) (N := 23) rfl 0 (by decide) rfl (hts (.fieldLink RX9 9 "SieveCabinetModel" "worlds" "[J") (by decide +kernel)) dX9_enter_14 ?_
      refine lv_iload_n hx hb dX9_enter_17 rfl (lv_at hl 2 rfl) ?_
      refine lv_sipush (v := 1000) hx hb dX9_enter_18 (by decide) ?_
      refine lv_imul hx hb dX9_enter_21 ?_
      refine lv_iload hx hb dX9_enter_22 (lv_at hl 0 rfl) ?_
      refine lv_iadd hx hb dX9_enter_24 ?_
      refine lv_iconst (v := 1) hx hb dX9_enter_25 (by decide) ?_
      refine lv_isub hx hb dX9_enter_26 ?_
      refine q_lald hx hb S m_y0 e_y0 (by rw [pu_ix1 (by omega)]; exact vp_in_nI (by omega) (by decide)) dX9_enter_27 ?_
      rw [show k_y0 (((((nI j) * 1000) + (nI k)) - 1) : Int32).toNatClampNeg = (k_y0 (j * 1000 + (k - 1))) from by rw [pu_ix1 (by omega), nI_clamp (by omega)]]
      refine lv_lload_n hx hb dX9_enter_28 rfl (lv_at hl 3 rfl) ?_
      refine W.lcmp hx hb dX9_enter_29 ?_
      refine lv_if_le (tgt := 67) hx hb dX9_enter_30 (by decide) (fun b30 => ?_) (fun b30 => ?_)
      · skip
        refine lv_aload_n hx hb dX9_enter_67 rfl (lv_at hl 1 rfl) ?_
        refine q_get hx hb hts in_X9 hown S m_y e_y (C := RX9) (T := TX9) (N := 23) rfl 0 (by decide) rfl (hts (.fieldLink RX9 9 "SieveCabinetModel" "worlds" "[J") (by decide +kernel)) dX9_enter_68 ?_
        refine lv_iload_n hx hb dX9_enter_71 rfl (lv_at hl 2 rfl) ?_
        refine lv_sipush (v := 1000) hx hb dX9_enter_72 (by decide) ?_
        refine lv_imul hx hb dX9_enter_75 ?_
        refine lv_iload hx hb dX9_enter_76 (lv_at hl 0 rfl) ?_
        refine lv_iadd hx hb dX9_enter_78 ?_
        refine lv_lload_n hx hb dX9_enter_79 rfl (lv_at hl 3 rfl) ?_
        refine q_last hx hb S m_y0 e_y0 (by rw [pu_ix]; exact vp_in_nI (by omega) (by decide)) dX9_enter_80 (fun H locs S => ?_)
        obtain ⟨f3, ef3⟩ : ∃ z_, z_ = va_up fl y0 (.inl (g 1, 8000, .inr (.inl (vp_updL k_y0 ((((nI j) * 1000) + (nI k)) : Int32).toNatClampNeg t)))) := ⟨_, rfl⟩
        have S : PS D g (va_A (va_pl L f) sz) s.heap s L f3 H locs := by rw [ef3]; exact S
        have e_y : f3 y = .inr (7, [.ref y0, .ref y1, .ref y2, .ref y3, .ref y4, .ref y5, .ref y6, .ref y7, .ref y8, .ref y9, .ref y10, .ref y11, .ref y12, .ref y13, .int mm, .ref y15, .ref y16, .ref y17, .ref y18, .ref y19, .ref y20, .ref y21, .ref y22]) := up_ne ef3 (nd_ne hnd (i := 1) (j := 0) rfl rfl (by decide)) e_y
        have e_y1 : f3 y1 = .inl (g 0, 8, .inl v_inWorld) := up_ne ef3 (nd_ne hnd (i := 1) (j := 2) rfl rfl (by decide)) e_y1
        have e_y0 : f3 y0 = .inl (g 1, 8000, .inr (.inl (vp_updL k_y0 ((((nI j) * 1000) + (nI k)) : Int32).toNatClampNeg t))) := up_self ef3
        have fr : ∀ b, b ∈ L → b ≠ y1 → b ≠ y0 → f3 b = f b := fun b mb nb0 nb1 => (up_ne ef3 nb1 rfl).trans (fr b mb nb0 nb1)
        refine lv_aload_n hx hb dX9_enter_81 rfl (lv_at hl 1 rfl) ?_
        refine q_get hx hb hts in_X9 hown S m_y e_y (C := RX9) (T := TX9) (N := 23) rfl 1 (by decide) rfl (hts (.fieldLink RX9 13 "SieveCabinetModel" "inWorld" "[I") (by decide +kernel)) dX9_enter_82 ?_
        refine lv_iload_n hx hb dX9_enter_85 rfl (lv_at hl 2 rfl) ?_
        refine lv_dup2_11 hx hb dX9_enter_86 rfl rfl ?_
        refine q_iald hx hb S m_y1 e_y1 (vp_in_nI hj (by decide)) dX9_enter_87 ?_
        rw [show v_inWorld ((nI j) : Int32).toNatClampNeg = (nI cn) from by rw [nI_clamp (by omega)]; exact hc]
        refine lv_iconst (v := 1) hx hb dX9_enter_88 (by decide) ?_
        refine lv_iadd hx hb dX9_enter_89 ?_
        refine q_iast hx hb S m_y1 e_y1 (vp_in_nI hj (by decide)) dX9_enter_90 (fun H locs S => ?_)
        obtain ⟨f4, ef4⟩ : ∃ z_, z_ = va_up f3 y1 (.inl (g 0, 8, .inl (upd v_inWorld ((nI j) : Int32).toNatClampNeg ((nI cn) + 1)))) := ⟨_, rfl⟩
        have S : PS D g (va_A (va_pl L f) sz) s.heap s L f4 H locs := by rw [ef4]; exact S
        have e_y : f4 y = .inr (7, [.ref y0, .ref y1, .ref y2, .ref y3, .ref y4, .ref y5, .ref y6, .ref y7, .ref y8, .ref y9, .ref y10, .ref y11, .ref y12, .ref y13, .int mm, .ref y15, .ref y16, .ref y17, .ref y18, .ref y19, .ref y20, .ref y21, .ref y22]) := up_ne ef4 (nd_ne hnd (i := 2) (j := 0) rfl rfl (by decide)) e_y
        have e_y0 : f4 y0 = .inl (g 1, 8000, .inr (.inl (vp_updL k_y0 ((((nI j) * 1000) + (nI k)) : Int32).toNatClampNeg t))) := up_ne ef4 (nd_ne hnd (i := 2) (j := 1) rfl rfl (by decide)) e_y0
        have e_y1 : f4 y1 = .inl (g 0, 8, .inl (upd v_inWorld ((nI j) : Int32).toNatClampNeg ((nI cn) + 1))) := up_self ef4
        have fr : ∀ b, b ∈ L → b ≠ y1 → b ≠ y0 → f4 b = f b := fun b mb nb0 nb1 => (up_ne ef4 nb0 rfl).trans (fr b mb nb0 nb1)
        exact q_retv (post := fun L1 f1 => L1 = L ∧ (∀ b, b ∈ L → b ≠ y1 → b ≠ y0 → f1 b = f b) ∧ ∃ u : Nat → Int64, ∃ q : Nat → Int32, f1 y0 = .inl (g 1, 8000, .inr (.inl u)) ∧ f1 y1 = .inl (g 0, 8, .inl q) ∧ q j = nI (cn + 1) ∧ ∀ i, i ≤ cn → u (j * 1000 + i) = t ∨ ∃ a, a < cn ∧ u (j * 1000 + i) = v_worlds (j * 1000 + a)) hx hb hr hlk S dX9_enter_91 (by decide) (by decide) (⟨rfl, fr, _, _, e_y0, e_y1, by rw [nI_clamp (by omega), pk_us, nI_1], fun i hi => by rw [pu_ix, nI_clamp (by omega)]; exact (if h9 : i = k then (by subst h9; exact Or.inl pk_uLs) else (by rw [pk_uLn (by omega)]; exact Or.inr (hu i hi h9)))⟩)
      · skip
        refine lv_aload_n hx hb dX9_enter_33 rfl (lv_at hl 1 rfl) ?_
        refine q_get hx hb hts in_X9 hown S m_y e_y (C := RX9) (T := TX9) (N := 23) rfl 0 (by decide) rfl (hts (.fieldLink RX9 9 "SieveCabinetModel" "worlds" "[J") (by decide +kernel)) dX9_enter_34 ?_
        refine lv_iload_n hx hb dX9_enter_37 rfl (lv_at hl 2 rfl) ?_
        refine lv_sipush (v := 1000) hx hb dX9_enter_38 (by decide) ?_
        refine lv_imul hx hb dX9_enter_41 ?_
        refine lv_iload hx hb dX9_enter_42 (lv_at hl 0 rfl) ?_
        refine lv_iadd hx hb dX9_enter_44 ?_
        refine lv_aload_n hx hb dX9_enter_45 rfl (lv_at hl 1 rfl) ?_
        refine q_get hx hb hts in_X9 hown S m_y e_y (C := RX9) (T := TX9) (N := 23) rfl 0 (by decide) rfl (hts (.fieldLink RX9 9 "SieveCabinetModel" "worlds" "[J") (by decide +kernel)) dX9_enter_46 ?_
        refine lv_iload_n hx hb dX9_enter_49 rfl (lv_at hl 2 rfl) ?_
        refine lv_sipush (v := 1000) hx hb dX9_enter_50 (by decide) ?_
        refine lv_imul hx hb dX9_enter_53 ?_
        refine lv_iload hx hb dX9_enter_54 (lv_at hl 0 rfl) ?_
        refine lv_iadd hx hb dX9_enter_56 ?_
        refine lv_iconst (v := 1) hx hb dX9_enter_57 (by decide) ?_
        refine lv_isub hx hb dX9_enter_58 ?_
        refine q_lald hx hb S m_y0 e_y0 (by rw [pu_ix1 (by omega)]; exact vp_in_nI (by omega) (by decide)) dX9_enter_59 ?_
        rw [show k_y0 (((((nI j) * 1000) + (nI k)) - 1) : Int32).toNatClampNeg = (k_y0 (j * 1000 + (k - 1))) from by rw [pu_ix1 (by omega), nI_clamp (by omega)]]
        refine q_last hx hb S m_y0 e_y0 (by rw [pu_ix]; exact vp_in_nI (by omega) (by decide)) dX9_enter_60 (fun H locs S => ?_)
        obtain ⟨f5, ef5⟩ : ∃ z_, z_ = va_up fl y0 (.inl (g 1, 8000, .inr (.inl (vp_updL k_y0 ((((nI j) * 1000) + (nI k)) : Int32).toNatClampNeg (k_y0 (j * 1000 + (k - 1))))))) := ⟨_, rfl⟩
        have S : PS D g (va_A (va_pl L f) sz) s.heap s L f5 H locs := by rw [ef5]; exact S
        have e_y : f5 y = .inr (7, [.ref y0, .ref y1, .ref y2, .ref y3, .ref y4, .ref y5, .ref y6, .ref y7, .ref y8, .ref y9, .ref y10, .ref y11, .ref y12, .ref y13, .int mm, .ref y15, .ref y16, .ref y17, .ref y18, .ref y19, .ref y20, .ref y21, .ref y22]) := up_ne ef5 (nd_ne hnd (i := 1) (j := 0) rfl rfl (by decide)) e_y
        have e_y1 : f5 y1 = .inl (g 0, 8, .inl v_inWorld) := up_ne ef5 (nd_ne hnd (i := 1) (j := 2) rfl rfl (by decide)) e_y1
        have e_y0 : f5 y0 = .inl (g 1, 8000, .inr (.inl (vp_updL k_y0 ((((nI j) * 1000) + (nI k)) : Int32).toNatClampNeg (k_y0 (j * 1000 + (k - 1)))))) := up_self ef5
        have fr : ∀ b, b ∈ L → b ≠ y1 → b ≠ y0 → f5 b = f b := fun b mb nb0 nb1 => (up_ne ef5 nb1 rfl).trans (fr b mb nb0 nb1)
        obtain ⟨k1, ek1⟩ : ∃ y : Int32, y = (nI k) + (-1) := ⟨_, rfl⟩
        refine lv_iinc (v := k1) (lv' := [(4, .int k1), (0, .ref y), (1, .int ((nI j))), (2, .long t)]) hx hb dX9_enter_61 hl (k := 0) rfl (by rw [ek1]; rfl) (by decide) rfl (fun ls hl => ?_)
        refine lv_goto (tgt := 8) hx hb dX9_enter_64 (by decide) ?_
        exact ih (k := (k - 1)) (k_y0 := (vp_updL k_y0 ((((nI j) * 1000) + (nI k)) : Int32).toNatClampNeg (k_y0 (j * 1000 + (k - 1))))) (fl := f5) (e_y := e_y) (e_y1 := e_y1) (e_y0 := e_y0) (fr := fr) (H := _) (locs := _) (S := S) (ls := ls) (hd := by omega) (hkc := by omega) (hu := by intro i hi hik; rw [pu_ix, nI_clamp (by omega)]; exact (if h9 : i = k then (by subst h9; rw [pk_uLs]; exact hu (i - 1) (by omega) (by omega)) else (by rw [pk_uLn (by omega)]; exact hu i hi h9))) (hl := by have q := lv_sub hl [0, 1, 2, 3] rfl; rw [ek1, sb_m1 (by omega)] at q; exact q)
