set_option maxHeartbeats 4000000 in
set_option maxRecDepth 100000 in
/-- reference: take, exact -/
theorem c_X9_takeX (l : Launch) (D : va_G) (g : Nat → ClassId) {L : List Nat} {f : Nat → va_E} {y y0 y1 y2 y3 y4 y5 y6 y7 y8 y9 y10 y11 y12 y13 y15 y16 y17 y18 y19 y20 y21 y22 : Nat} {v_worlds : Nat → Int64} {v_inWorld : Nat → Int32}                     {mm : Int32} {j cn : Nat} {t : Int64} (m_y : y ∈ L) (e_y : f y = .inr (7, [.ref y0, .ref y1, .ref y2, .ref y3, .ref y4, .ref y5, .ref y6, .ref y7, .ref y8, .ref y9, .ref y10, .ref y11, .ref y12, .ref y13, .int mm, .ref y15, .ref y16, .ref y17, .ref y18, .ref y19, .ref y20, .ref y21, .ref y22])) (m_y1 : y1 ∈ L) (e_y1 : f y1 = .inl (g 0, 8, .inl v_inWorld)) (m_y0 : y0 ∈ L) (e_y0 : f y0 = .inl (g 1, 8000, .inr (.inl v_worlds))) (hnd : [y, y0, y1, y2, y3, y4, y5, y6, y7, y8, y9, y10, y11, y12, y13, y15, y16, y17, y18, y19, y20, y21, y22].Nodup) (hj : j < 8) (hc : v_inWorld j = nI cn) (hc1 : cn ≤ 1000) : cI l yX9_take wsX9_take { frames := 1, cells := 0, slots := 0, locals := 24 } D g [.ref y, .int ((nI j)), .long t] L f 0 0 (fun x L1 f1 => L1 = L ∧ ((x = -1 ∧ f1 = f ∧ ∀ i, i < cn → v_worlds (j * 1000 + i) ≠ t) ∨ ((∀ b, b ∈ L → b ≠ y1 → b ≠ y0 → f1 b = f b) ∧ ∃ a, a < cn ∧ v_worlds (j * 1000 + a) = t ∧ x = nI (cn - 1) ∧ ∃ u : Nat → Int64, ∃ q : Nat → Int32, f1 y0 = .inl (g 1, 8000, .inr (.inl u)) ∧ f1 y1 = .inl (g 0, 8, .inl q) ∧ q j = nI (cn - 1) ∧ (∀ b, b ≠ j → q b = v_inWorld b) ∧ (∀ i, a ≤ i → i + 1 < cn → u (j * 1000 + i) = v_worlds (j * 1000 + i + 1)) ∧ (∀ z, (z < j * 1000 + a ∨ j * 1000 + cn - 1 ≤ z) → u z = v_worlds z)))) := by
  refine cI_of (cc := cX9_take) (maxL := 6) (ret := (some .int)) (by decide) rfl (Nat.le_of_ble_eq_true rfl) ?_
  intro sz p e s m below meth c hx hb hr hml hts hown hlk hnm S ls hl
  have hl : lv_has ls 6 [(0, .ref y), (1, .int ((nI j))), (2, .long t)] := hl
  have in_X9 : ∀ w ∈ wsX90, w ∈ wsX9_take := by decide +kernel
  have fr : ∀ b, b ∈ L → b ≠ y1 → b ≠ y0 → f b = f b := fun _ _ _ _ => rfl
  have mono : ∀ b, b ∈ L → b ∈ L := fun _ h => h
  refine lv_iload_n hx hb dX9_take_0 rfl (lv_at hl 1 rfl) ?_
  refine q_si (As := [.int ((nI j))]) (rest := []) ⟨hx, hb, hml, hown, hts⟩ (c_X9_isWorld l D g (w := nI j)) (va_cwS 1 hts gX9_take_X9_isWorld rfl rfl rfl (by decide +kernel) ⟨Nat.le_of_ble_eq_true rfl, Nat.le_of_ble_eq_true rfl⟩) S rfl hl.1 rfl (Nat.le_of_ble_eq_true rfl) dX9_take_1 ⟨Nat.le_of_ble_eq_true rfl, Nat.le_of_ble_eq_true rfl⟩ (fun r3 L1 f2 H locs S w1 => ?_)
  obtain ⟨exw1, eLw1, efw1⟩ := w1
  rw [eLw1, efw1] at S
  rw [if_pos ⟨nI_pos (by omega), nI_ge (b := 8) hj (by decide)⟩] at exw1
  subst exw1
  refine lv_if_eq (tgt := 16) hx hb dX9_take_4 (by decide) (fun b4 => absurd b4 (by decide)) (fun b4 => ?_)
  refine lv_aload_n hx hb dX9_take_7 rfl (lv_at hl 0 rfl) ?_
  refine lv_iload_n hx hb dX9_take_8 rfl (lv_at hl 1 rfl) ?_
  refine lv_lload_n hx hb dX9_take_9 rfl (lv_at hl 2 rfl) ?_
  refine q_vi (As := [.int ((nI j)), .long t]) (rest := []) ⟨hx, hb, hml, hown, hts⟩ (c_X9_placeOf l D g (cn := cn) m_y e_y m_y1 e_y1 m_y0 e_y0 hj hc hc1) (cwV 2 hts gX9_take_X9_placeOf rfl rfl rfl (by decide +kernel) ⟨Nat.le_of_ble_eq_true rfl, Nat.le_of_ble_eq_true rfl⟩) S m_y e_y (T := TX9) (N := 23) rfl rfl hl.1 rfl (Nat.le_of_ble_eq_true rfl) dX9_take_10 ⟨Nat.le_of_ble_eq_true rfl, Nat.le_of_ble_eq_true rfl⟩ (fun r6 L4 f5 H locs S w10 => ?_)
  obtain ⟨exw10, eLw10, efw10⟩ := w10
  rw [eLw10, efw10] at S
  rcases exw10 with ⟨a9, ha9, hv9, er9⟩ | ⟨hno, er9⟩
  · skip
    subst er9
    refine lv_goto (tgt := 17) hx hb dX9_take_13 (by decide) ?_
    refine lv_istore (lv' := [(4, .int ((nI a9))), (0, .ref y), (1, .int ((nI j))), (2, .long t)]) hx hb dX9_take_17 hl (by decide) rfl (fun ls hl => ?_)
    refine lv_iload hx hb dX9_take_19 (lv_at hl 0 rfl) ?_
    refine lv_if_ge (tgt := 26) hx hb dX9_take_21 (by decide) (fun b21 => ?_) (fun b21 => absurd (nI_pos' (by omega)) b21)
    refine lv_aload_n hx hb dX9_take_26 rfl (lv_at hl 1 rfl) ?_
    refine q_get hx hb hts in_X9 hown S m_y e_y (C := RX9) (T := TX9) (N := 23) rfl 1 (by decide) rfl (hts (.fieldLink RX9 13 "SieveCabinetModel" "inWorld" "[I") (by decide +kernel)) dX9_take_27 ?_
    refine lv_iload_n hx hb dX9_take_30 rfl (lv_at hl 2 rfl) ?_
    refine lv_dup2_11 hx hb dX9_take_31 rfl rfl ?_
    refine q_iald hx hb S m_y1 e_y1 (vp_in_nI hj (by decide)) dX9_take_32 ?_
    rw [show v_inWorld ((nI j) : Int32).toNatClampNeg = (nI cn) from by rw [nI_clamp (by omega)]; exact hc]
    refine lv_iconst (v := 1) hx hb dX9_take_33 (by decide) ?_
    refine lv_isub hx hb dX9_take_34 ?_
    refine q_iast hx hb S m_y1 e_y1 (vp_in_nI hj (by decide)) dX9_take_35 (fun H locs S => ?_)
    obtain ⟨f7, ef7⟩ : ∃ z_, z_ = va_up f y1 (.inl (g 0, 8, .inl (upd v_inWorld ((nI j) : Int32).toNatClampNeg ((nI cn) - 1)))) := ⟨_, rfl⟩
    have S : PS D g (va_A (va_pl L f) sz) s.heap s L f7 H locs := by rw [ef7]; exact S
    have e_y : f7 y = .inr (7, [.ref y0, .ref y1, .ref y2, .ref y3, .ref y4, .ref y5, .ref y6, .ref y7, .ref y8, .ref y9, .ref y10, .ref y11, .ref y12, .ref y13, .int mm, .ref y15, .ref y16, .ref y17, .ref y18, .ref y19, .ref y20, .ref y21, .ref y22]) := up_ne ef7 (nd_ne hnd (i := 2) (j := 0) rfl rfl (by decide)) e_y
    have e_y0 : f7 y0 = .inl (g 1, 8000, .inr (.inl v_worlds)) := up_ne ef7 (nd_ne hnd (i := 2) (j := 1) rfl rfl (by decide)) e_y0
    have e_y1 : f7 y1 = .inl (g 0, 8, .inl (upd v_inWorld ((nI j) : Int32).toNatClampNeg ((nI cn) - 1))) := up_self ef7
    have fr : ∀ b, b ∈ L → b ≠ y1 → b ≠ y0 → f7 b = f b := fun b mb nb0 nb1 => (up_ne ef7 nb0 rfl).trans (fr b mb nb0 nb1)
    refine lv_iload hx hb dX9_take_36 (lv_at hl 0 rfl) ?_
    refine lv_istore (lv' := [(5, .int ((nI a9))), (4, .int ((nI a9))), (0, .ref y), (1, .int ((nI j))), (2, .long t)]) hx hb dX9_take_38 hl (by decide) rfl (fun ls hl => ?_)
    obtain ⟨i, ei⟩ : ∃ z_ : Nat, z_ = a9 := ⟨_, rfl⟩
    obtain ⟨k_y0, ek_y0⟩ : ∃ z_ : Nat → Int64, z_ = v_worlds := ⟨_, rfl⟩
    obtain ⟨fl, efl⟩ : ∃ z_, z_ = f7 := ⟨_, rfl⟩
    have e_y : fl y = .inr (7, [.ref y0, .ref y1, .ref y2, .ref y3, .ref y4, .ref y5, .ref y6, .ref y7, .ref y8, .ref y9, .ref y10, .ref y11, .ref y12, .ref y13, .int mm, .ref y15, .ref y16, .ref y17, .ref y18, .ref y19, .ref y20, .ref y21, .ref y22]) := by rw [efl]; exact e_y
    have e_y1 : fl y1 = .inl (g 0, 8, .inl (upd v_inWorld ((nI j) : Int32).toNatClampNeg ((nI cn) - 1))) := by rw [efl]; exact e_y1
    have e_y0 : fl y0 = .inl (g 1, 8000, .inr (.inl k_y0)) := by rw [efl, ek_y0]; exact e_y0
    have fr : ∀ b, b ∈ L → b ≠ y1 → b ≠ y0 → fl b = f b := by rw [efl]; exact fr
    have S_0 : PS D g (va_A (va_pl L f) sz) s.heap s L fl H locs := by rw [efl]; exact S
    refine W_any (X := fun H locs => PS D g (va_A (va_pl L f) sz) s.heap s L fl H locs) S_0 (fun H locs S => ?_)
    refine W_ls (lv := [(5, .int ((nI i))), (4, .int ((nI a9))), (0, .ref y), (1, .int ((nI j))), (2, .long t)]) (by have q := lv_sub hl [0, 1, 2, 3, 4] rfl; rw [ei]; exact q) (fun ls hl => ?_)
    have hA : ∀ b, a9 ≤ b → b < i → k_y0 (j * 1000 + b) = v_worlds (j * 1000 + b + 1) := by intro b h1 h2; omega
    have hB : ∀ z, (z < j * 1000 + a9 ∨ j * 1000 + i ≤ z) → k_y0 z = v_worlds z := by intro z hz; rw [ek_y0]
    have hia : a9 ≤ i := by omega
    obtain ⟨d, hd⟩ : ∃ z_ : Nat, i + z_ = (cn - 1) := ⟨(cn - 1) - i, by omega⟩
    clear ei ek_y0 efl S_0
    induction d generalizing i k_y0 fl H locs ls with
    | zero =>
      have hN : i = (cn - 1) := by omega
      refine lv_iload hx hb dX9_take_40 (lv_at hl 0 rfl) ?_
      refine lv_aload_n hx hb dX9_take_42 rfl (lv_at hl 2 rfl) ?_
      refine q_get hx hb hts in_X9 hown S m_y e_y (C := RX9) (T := TX9) (N := 23) rfl 1 (by decide) rfl (hts (.fieldLink RX9 13 "SieveCabinetModel" "inWorld" "[I") (by decide +kernel)) dX9_take_43 ?_
      refine lv_iload_n hx hb dX9_take_46 rfl (lv_at hl 3 rfl) ?_
      refine q_iald hx hb S m_y1 e_y1 (vp_in_nI hj (by decide)) dX9_take_47 ?_
      rw [show (upd v_inWorld ((nI j) : Int32).toNatClampNeg ((nI cn) - 1)) ((nI j) : Int32).toNatClampNeg = (nI (cn - 1)) from by rw [nI_clamp (by omega), pk_us, pu_dec (by omega)]]
      refine lv_icmp_ge (tgt := 85) hx hb dX9_take_48 (by decide) (fun b48 => ?_) (fun b48 => absurd (by rw [hN]; exact Int32.le_refl _) b48)
      refine lv_aload_n hx hb dX9_take_85 rfl (lv_at hl 2 rfl) ?_
      refine q_get hx hb hts in_X9 hown S m_y e_y (C := RX9) (T := TX9) (N := 23) rfl 1 (by decide) rfl (hts (.fieldLink RX9 13 "SieveCabinetModel" "inWorld" "[I") (by decide +kernel)) dX9_take_86 ?_
      refine lv_iload_n hx hb dX9_take_89 rfl (lv_at hl 3 rfl) ?_
      refine q_iald hx hb S m_y1 e_y1 (vp_in_nI hj (by decide)) dX9_take_90 ?_
      rw [show (upd v_inWorld ((nI j) : Int32).toNatClampNeg ((nI cn) - 1)) ((nI j) : Int32).toNatClampNeg = (nI (cn - 1)) from by rw [nI_clamp (by omega), pk_us, pu_dec (by omega)]]
      exact q_reti (post := fun x L1 f1 => L1 = L ∧ ((x = -1 ∧ f1 = f ∧ ∀ i, i < cn → v_worlds (j * 1000 + i) ≠ t) ∨ ((∀ b, b ∈ L → b ≠ y1 → b ≠ y0 → f1 b = f b) ∧ ∃ a, a < cn ∧ v_worlds (j * 1000 + a) = t ∧ x = nI (cn - 1) ∧ ∃ u : Nat → Int64, ∃ q : Nat → Int32, f1 y0 = .inl (g 1, 8000, .inr (.inl u)) ∧ f1 y1 = .inl (g 0, 8, .inl q) ∧ q j = nI (cn - 1) ∧ (∀ b, b ≠ j → q b = v_inWorld b) ∧ (∀ i, a ≤ i → i + 1 < cn → u (j * 1000 + i) = v_worlds (j * 1000 + i + 1)) ∧ (∀ z, (z < j * 1000 + a ∨ j * 1000 + cn - 1 ≤ z) → u z = v_worlds z)))) hx hb hr hlk S dX9_take_91 (by decide) (by decide) (⟨rfl, Or.inr ⟨fr, a9, ha9, hv9, rfl, _, _, e_y0, e_y1, by rw [nI_clamp (by omega), pk_us, pu_dec (by omega)], fun b h1 => by rw [nI_clamp (by omega)]; exact pk_un h1, fun b h1 h2 => hA b h1 (by omega), fun z hz => hB z (by omega)⟩⟩)
    | succ d ih =>
      have hlt : i < (cn - 1) := by omega
      refine lv_iload hx hb dX9_take_40 (lv_at hl 0 rfl) ?_
      refine lv_aload_n hx hb dX9_take_42 rfl (lv_at hl 2 rfl) ?_
      refine q_get hx hb hts in_X9 hown S m_y e_y (C := RX9) (T := TX9) (N := 23) rfl 1 (by decide) rfl (hts (.fieldLink RX9 13 "SieveCabinetModel" "inWorld" "[I") (by decide +kernel)) dX9_take_43 ?_
      refine lv_iload_n hx hb dX9_take_46 rfl (lv_at hl 3 rfl) ?_
      refine q_iald hx hb S m_y1 e_y1 (vp_in_nI hj (by decide)) dX9_take_47 ?_
      rw [show (upd v_inWorld ((nI j) : Int32).toNatClampNeg ((nI cn) - 1)) ((nI j) : Int32).toNatClampNeg = (nI (cn - 1)) from by rw [nI_clamp (by omega), pk_us, pu_dec (by omega)]]
      refine lv_icmp_ge (tgt := 85) hx hb dX9_take_48 (by decide) (fun b48 => absurd b48 (nI_ge hlt (by omega))) (fun b48 => ?_)
      refine lv_aload_n hx hb dX9_take_51 rfl (lv_at hl 2 rfl) ?_
      refine q_get hx hb hts in_X9 hown S m_y e_y (C := RX9) (T := TX9) (N := 23) rfl 0 (by decide) rfl (hts (.fieldLink RX9 9 "SieveCabinetModel" "worlds" "[J") (by decide +kernel)) dX9_take_52 ?_
      refine lv_iload_n hx hb dX9_take_55 rfl (lv_at hl 3 rfl) ?_
      refine lv_sipush (v := 1000) hx hb dX9_take_56 (by decide) ?_
      refine lv_imul hx hb dX9_take_59 ?_
      refine lv_iload hx hb dX9_take_60 (lv_at hl 0 rfl) ?_
      refine lv_iadd hx hb dX9_take_62 ?_
      refine lv_aload_n hx hb dX9_take_63 rfl (lv_at hl 2 rfl) ?_
      refine q_get hx hb hts in_X9 hown S m_y e_y (C := RX9) (T := TX9) (N := 23) rfl 0 (by decide) rfl (hts (.fieldLink RX9 9 "SieveCabinetModel" "worlds" "[J") (by decide +kernel)) dX9_take_64 ?_
      refine lv_iload_n hx hb dX9_take_67 rfl (lv_at hl 3 rfl) ?_
      refine lv_sipush (v := 1000) hx hb dX9_take_68 (by decide) ?_
      refine lv_imul hx hb dX9_take_71 ?_
      refine lv_iload hx hb dX9_take_72 (lv_at hl 0 rfl) ?_
      refine lv_iadd hx hb dX9_take_74 ?_
      refine lv_iconst (v := 1) hx hb dX9_take_75 (by decide) ?_
      refine lv_iadd hx hb dX9_take_76 ?_
      refine q_lald hx hb S m_y0 e_y0 (by rw [pu_ix, nI_1]; exact vp_in_nI (by omega) (by decide)) dX9_take_77 ?_
      rw [show k_y0 (((((nI j) * 1000) + (nI i)) + 1) : Int32).toNatClampNeg = (k_y0 (j * 1000 + i + 1)) from by rw [pu_ix, nI_1, nI_clamp (by omega)]]
      refine q_last hx hb S m_y0 e_y0 (by rw [pu_ix]; exact vp_in_nI (by omega) (by decide)) dX9_take_78 (fun H locs S => ?_)
      obtain ⟨f8, ef8⟩ : ∃ z_, z_ = va_up fl y0 (.inl (g 1, 8000, .inr (.inl (vp_updL k_y0 ((((nI j) * 1000) + (nI i)) : Int32).toNatClampNeg (k_y0 (j * 1000 + i + 1)))))) := ⟨_, rfl⟩
      have S : PS D g (va_A (va_pl L f) sz) s.heap s L f8 H locs := by rw [ef8]; exact S
      have e_y : f8 y = .inr (7, [.ref y0, .ref y1, .ref y2, .ref y3, .ref y4, .ref y5, .ref y6, .ref y7, .ref y8, .ref y9, .ref y10, .ref y11, .ref y12, .ref y13, .int mm, .ref y15, .ref y16, .ref y17, .ref y18, .ref y19, .ref y20, .ref y21, .ref y22]) := up_ne ef8 (nd_ne hnd (i := 1) (j := 0) rfl rfl (by decide)) e_y
      have e_y1 : f8 y1 = .inl (g 0, 8, .inl (upd v_inWorld ((nI j) : Int32).toNatClampNeg ((nI cn) - 1))) := up_ne ef8 (nd_ne hnd (i := 1) (j := 2) rfl rfl (by decide)) e_y1
      have e_y0 : f8 y0 = .inl (g 1, 8000, .inr (.inl (vp_updL k_y0 ((((nI j) * 1000) + (nI i)) : Int32).toNatClampNeg (k_y0 (j * 1000 + i + 1))))) := up_self ef8
      have fr : ∀ b, b ∈ L → b ≠ y1 → b ≠ y0 → f8 b = f b := fun b mb nb0 nb1 => (up_ne ef8 nb1 rfl).trans (fr b mb nb0 nb1)
      obtain ⟨i1, ei1⟩ : ∃ y : Int32, y = (nI i) + (1) := ⟨_, rfl⟩
      refine lv_iinc (v := i1) (lv' := [(5, .int i1), (4, .int ((nI a9))), (0, .ref y), (1, .int ((nI j))), (2, .long t)]) hx hb dX9_take_79 hl (k := 0) rfl (by rw [ei1]; rfl) (by decide) rfl (fun ls hl => ?_)
      refine lv_goto (tgt := 40) hx hb dX9_take_82 (by decide) ?_
      exact ih (i := (i + 1)) (k_y0 := (vp_updL k_y0 ((((nI j) * 1000) + (nI i)) : Int32).toNatClampNeg (k_y0 (j * 1000 + i + 1)))) (fl := f8) (e_y := e_y) (e_y1 := e_y1) (e_y0 := e_y0) (fr := fr) (H := _) (locs := _) (S := S) (ls := ls) (hd := by omega) (hA := by intro b h1 h2; rw [pu_ix, nI_clamp (by omega)]; exact (if h9 : b = i then (by subst h9; rw [pk_uLs]; exact hB _ (Or.inr (by omega))) else (by rw [pk_uLn (by omega)]; exact hA b h1 (by omega)))) (hB := by intro z hz; rw [pu_ix, nI_clamp (by omega)]; rw [pk_uLn (by omega)]; exact hB z (by omega)) (hia := by omega) (hl := by have q := lv_sub hl [0, 1, 2, 3, 4] rfl; rw [ei1, nI_1] at q; exact q)
  · skip
    subst er9
    refine lv_goto (tgt := 17) hx hb dX9_take_13 (by decide) ?_
    refine lv_istore (lv' := [(4, .int ((-1))), (0, .ref y), (1, .int ((nI j))), (2, .long t)]) hx hb dX9_take_17 hl (by decide) rfl (fun ls hl => ?_)
    refine lv_iload hx hb dX9_take_19 (lv_at hl 0 rfl) ?_
    refine lv_if_ge (tgt := 26) hx hb dX9_take_21 (by decide) (fun b21 => absurd b21 (by decide)) (fun b21 => ?_)
    refine lv_iconst (v := -1) hx hb dX9_take_24 (by decide) ?_
    exact q_reti (post := fun x L1 f1 => L1 = L ∧ ((x = -1 ∧ f1 = f ∧ ∀ i, i < cn → v_worlds (j * 1000 + i) ≠ t) ∨ ((∀ b, b ∈ L → b ≠ y1 → b ≠ y0 → f1 b = f b) ∧ ∃ a, a < cn ∧ v_worlds (j * 1000 + a) = t ∧ x = nI (cn - 1) ∧ ∃ u : Nat → Int64, ∃ q : Nat → Int32, f1 y0 = .inl (g 1, 8000, .inr (.inl u)) ∧ f1 y1 = .inl (g 0, 8, .inl q) ∧ q j = nI (cn - 1) ∧ (∀ b, b ≠ j → q b = v_inWorld b) ∧ (∀ i, a ≤ i → i + 1 < cn → u (j * 1000 + i) = v_worlds (j * 1000 + i + 1)) ∧ (∀ z, (z < j * 1000 + a ∨ j * 1000 + cn - 1 ≤ z) → u z = v_worlds z)))) hx hb hr hlk S dX9_take_25 (by decide) (by decide) (⟨rfl, Or.inl ⟨rfl, rfl, hno⟩⟩)
