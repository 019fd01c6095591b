set_option maxHeartbeats 4000000 in
set_option maxRecDepth 100000 in
/-- reference: span, exact -/
theorem c_X9_spanX (l : Launch) (D : va_G) (g : Nat → ClassId) {L : List Nat} {f : Nat → va_E} {y y0 y1 y2 y3 y4 y5 y6 y7 y8 y9 y10 y11 y12 y13 y15 y16 y17 y18 y19 y20 y21 y22 : Nat} {v_worlds : Nat → Int64} {v_inWorld : Nat → Int32}                     {mm : Int32} {j n cn : Nat} {fst : Int64} {step : Int32} (m_y : y ∈ L) (e_y : f y = .inr (7, [.ref y0, .ref y1, .ref y2, .ref y3, .ref y4, .ref y5, .ref y6, .ref y7, .ref y8, .ref y9, .ref y10, .ref y11, .ref y12, .ref y13, .int mm, .ref y15, .ref y16, .ref y17, .ref y18, .ref y19, .ref y20, .ref y21, .ref y22])) (m_y1 : y1 ∈ L) (e_y1 : f y1 = .inl (g 0, 8, .inl v_inWorld)) (m_y0 : y0 ∈ L) (e_y0 : f y0 = .inl (g 1, 8000, .inr (.inl v_worlds))) (hnd : [y, y0, y1, y2, y3, y4, y5, y6, y7, y8, y9, y10, y11, y12, y13, y15, y16, y17, y18, y19, y20, y21, y22].Nodup) (hj : j < 8) (hc : v_inWorld j = nI cn) (hc1 : cn ≤ 1000) (hn1 : 1 ≤ n) (hn2 : n ≤ 1000) (hw : worldR (fun a => v_worlds (j * 1000 + a)) cn) : cI l yX9_span wsX9_span { frames := 1, cells := 0, slots := 0, locals := 24 } D g [.ref y, .int ((nI j)), .long fst, .int step, .int ((nI n))] L f 0 0 (fun x L1 f1 => L1 = L ∧ ((1000 < (spn cn (fun a => v_worlds (j * 1000 + a)) fst step n).1 ∧ x = -4 ∧ f1 = f) ∨ ((spn cn (fun a => v_worlds (j * 1000 + a)) fst step n).1 ≤ 1000 ∧ x = nI (spn cn (fun a => v_worlds (j * 1000 + a)) fst step n).1 ∧ (∀ b, b ∈ L → b ≠ y1 → b ≠ y0 → f1 b = f b) ∧ ∃ u : Nat → Int64, ∃ q : Nat → Int32, f1 y0 = .inl (g 1, 8000, .inr (.inl u)) ∧ f1 y1 = .inl (g 0, 8, .inl q) ∧ q j = nI (spn cn (fun a => v_worlds (j * 1000 + a)) fst step n).1 ∧ (∀ b, b ≠ j → b < 8 → q b = v_inWorld b) ∧ (∀ a, a < (spn cn (fun a => v_worlds (j * 1000 + a)) fst step n).1 → u (j * 1000 + a) = (spn cn (fun a => v_worlds (j * 1000 + a)) fst step n).2 a) ∧ (∀ z, (z < j * 1000 ∨ j * 1000 + 1000 ≤ z) → u z = v_worlds z)))) := by
  refine cI_of (cc := cX9_span) (maxL := 10) (ret := (some .int)) (by decide) rfl (Nat.le_of_ble_eq_true rfl) ?_
  intro sz p e s m below meth c hx hb hr hml hts hown hlk hnm S ls hl
  have hl : lv_has ls 10 [(0, .ref y), (1, .int ((nI j))), (2, .long fst), (4, .int step), (5, .int ((nI n)))] := hl
  have in_X9 : ∀ w ∈ wsX90, w ∈ wsX9_span := by decide +kernel
  have fr : ∀ b, b ∈ L → b ≠ y1 → b ≠ y0 → f b = f b := fun _ _ _ _ => rfl
  have mono : ∀ b, b ∈ L → b ∈ L := fun _ h => h
  refine lv_iload_n hx hb dX9_span_0 rfl (lv_at hl 1 rfl) ?_
  refine q_si (As := [.int ((nI j))]) (rest := []) ⟨hx, hb, hml, hown, hts⟩ (c_X9_isWorld l D g (w := nI j)) (va_cwS 1 hts gX9_span_X9_isWorld rfl rfl rfl (by decide +kernel) ⟨Nat.le_of_ble_eq_true rfl, Nat.le_of_ble_eq_true rfl⟩) S rfl hl.1 rfl (Nat.le_of_ble_eq_true rfl) dX9_span_1 ⟨Nat.le_of_ble_eq_true rfl, Nat.le_of_ble_eq_true rfl⟩ (fun r3 L1 f2 H locs S w1 => ?_)
  obtain ⟨exw1, eLw1, efw1⟩ := w1
  rw [eLw1, efw1] at S
  rw [if_pos ⟨nI_pos (by omega), nI_ge (b := 8) hj (by decide)⟩] at exw1
  subst exw1
  refine lv_if_eq (tgt := 21) hx hb dX9_span_4 (by decide) (fun b4 => absurd b4 (by decide)) (fun b4 => ?_)
  refine lv_iload hx hb dX9_span_7 (lv_at hl 4 rfl) ?_
  refine lv_iconst (v := 1) hx hb dX9_span_9 (by decide) ?_
  refine lv_icmp_lt (tgt := 21) hx hb dX9_span_10 (by decide) (fun b10 => absurd b10 (fun h => absurd ((nI_ltI (b := 1) (by omega) (by decide)).mp h) (by omega))) (fun b10 => ?_)
  refine lv_iload hx hb dX9_span_13 (lv_at hl 4 rfl) ?_
  refine lv_sipush (v := 1000) hx hb dX9_span_15 (by decide) ?_
  refine lv_icmp_le (tgt := 23) hx hb dX9_span_18 (by decide) (fun b18 => ?_) (fun b18 => absurd (nI_le (b := 1000) hn2 (by decide)) b18)
  refine lv_iconst (v := 0) hx hb dX9_span_23 (by decide) ?_
  refine lv_istore (lv' := [(6, .int 0), (0, .ref y), (1, .int ((nI j))), (2, .long fst), (4, .int step), (5, .int ((nI n)))]) hx hb dX9_span_24 hl (by decide) rfl (fun ls hl => ?_)
  refine lv_iconst (v := 0) hx hb dX9_span_26 (by decide) ?_
  refine lv_istore (lv' := [(7, .int 0), (6, .int 0), (0, .ref y), (1, .int ((nI j))), (2, .long fst), (4, .int step), (5, .int ((nI n)))]) hx hb dX9_span_27 hl (by decide) rfl (fun ls hl => ?_)
  obtain ⟨i, ei⟩ : ∃ z_ : Nat, z_ = 0 := ⟨_, rfl⟩
  refine W_any (X := fun H locs => PS D g (va_A (va_pl L f) sz) s.heap s L f H locs) S (fun H locs S => ?_)
  refine W_ls (lv := [(7, .int ((nI i))), (6, .int ((nI ((spn cn (fun a => v_worlds (j * 1000 + a)) fst step i).1 - cn)))), (0, .ref y), (1, .int ((nI j))), (2, .long fst), (4, .int step), (5, .int ((nI n)))]) (by have q := lv_sub hl [0, 1, 2, 3, 4, 5, 6] rfl; rw [ei]; rw [show ((spn cn (fun a => v_worlds (j * 1000 + a)) fst step 0).1 - cn) = 0 from Nat.sub_self cn]; exact q) (fun ls hl => ?_)
  obtain ⟨d, hd⟩ : ∃ z_ : Nat, i + z_ = n := ⟨n - i, by omega⟩
  clear ei
  induction d generalizing i H locs ls with
  | zero =>
    have hN : i = n := by omega
    refine lv_iload hx hb dX9_span_29 (lv_at hl 0 rfl) ?_
    refine lv_iload hx hb dX9_span_31 (lv_at hl 6 rfl) ?_
    refine lv_icmp_ge (tgt := 83) hx hb dX9_span_33 (by decide) (fun b33 => ?_) (fun b33 => absurd (by rw [hN]; exact Int32.le_refl _) b33)
    refine lv_aload_n hx hb dX9_span_83 rfl (lv_at hl 2 rfl) ?_
    refine q_get hx hb hts in_X9 hown S m_y e_y (C := RX9) (T := TX9) (N := 23) rfl 1 (by decide) rfl (hts (.fieldLink RX9 13 "SieveCabinetModel" "inWorld" "[I") (by decide +kernel)) dX9_span_84 ?_
    refine lv_iload_n hx hb dX9_span_87 rfl (lv_at hl 3 rfl) ?_
    refine q_iald hx hb S m_y1 e_y1 (vp_in_nI hj (by decide)) dX9_span_88 ?_
    rw [show v_inWorld ((nI j) : Int32).toNatClampNeg = (nI cn) from by rw [nI_clamp (by omega)]; exact hc]
    refine lv_iload hx hb dX9_span_89 (lv_at hl 1 rfl) ?_
    refine lv_iadd hx hb dX9_span_91 ?_
    have hge := spn_ge (n0 := cn) (v0 := fun a => v_worlds (j * 1000 + a)) (first := fst) (step := step) i
    have hup := spn_up (n0 := cn) (v0 := fun a => v_worlds (j * 1000 + a)) (first := fst) (step := step) i
    have hsum : nI cn + nI ((spn cn (fun a => v_worlds (j * 1000 + a)) fst step i).1 - cn) = nI (spn cn (fun a => v_worlds (j * 1000 + a)) fst step i).1 := by rw [nI_add]; congr 1; omega
    refine lv_sipush (v := 1000) hx hb dX9_span_92 (by decide) ?_
    refine lv_icmp_le (tgt := 101) hx hb dX9_span_95 (by decide) (fun b95 => ?_) (fun b95 => ?_)
    · skip
      refine lv_iconst (v := 0) hx hb dX9_span_101 (by decide) ?_
      refine lv_istore (lv' := [(7, .int 0), (6, .int ((nI ((spn cn (fun a => v_worlds (j * 1000 + a)) fst step i).1 - cn)))), (0, .ref y), (1, .int ((nI j))), (2, .long fst), (4, .int step), (5, .int ((nI n)))]) hx hb dX9_span_102 hl (by decide) rfl (fun ls hl => ?_)
      have hfin : (spn cn (fun a => v_worlds (j * 1000 + a)) fst step n).1 ≤ 1000 := by rw [← hN]; rw [hsum] at b95; exact (nI_leI (b := 1000) (by omega) (by decide)).mp b95
      obtain ⟨i2, ei2⟩ : ∃ z_ : Nat, z_ = 0 := ⟨_, rfl⟩
      obtain ⟨k2_y1, ek2_y1⟩ : ∃ z_ : Nat → Int32, z_ = v_inWorld := ⟨_, rfl⟩
      obtain ⟨k2_y0, ek2_y0⟩ : ∃ z_ : Nat → Int64, z_ = v_worlds := ⟨_, rfl⟩
      obtain ⟨fl2, efl2⟩ : ∃ z_, z_ = f := ⟨_, rfl⟩
      have e_y : fl2 y = .inr (7, [.ref y0, .ref y1, .ref y2, .ref y3, .ref y4, .ref y5, .ref y6, .ref y7, .ref y8, .ref y9, .ref y10, .ref y11, .ref y12, .ref y13, .int mm, .ref y15, .ref y16, .ref y17, .ref y18, .ref y19, .ref y20, .ref y21, .ref y22]) := by rw [efl2]; exact e_y
      have e_y1 : fl2 y1 = .inl (g 0, 8, .inl k2_y1) := by rw [efl2, ek2_y1]; exact e_y1
      have e_y0 : fl2 y0 = .inl (g 1, 8000, .inr (.inl k2_y0)) := by rw [efl2, ek2_y0]; exact e_y0
      have fr : ∀ b, b ∈ L → b ≠ y1 → b ≠ y0 → fl2 b = f b := by rw [efl2]; exact fr
      have S_0 : PS D g (va_A (va_pl L f) sz) s.heap s L fl2 H locs := by rw [efl2]; exact S
      refine W_any (X := fun H locs => PS D g (va_A (va_pl L f) sz) s.heap s L fl2 H locs) S_0 (fun H locs S => ?_)
      refine W_ls (lv := [(7, .int ((nI i2))), (0, .ref y), (1, .int ((nI j))), (2, .long fst), (4, .int step), (5, .int ((nI n)))]) (by have q := lv_sub hl [0, 2, 3, 4, 5, 6] rfl; rw [ei2]; exact q) (fun ls hl => ?_)
      have hq : k2_y1 j = nI (spn cn (fun a => v_worlds (j * 1000 + a)) fst step i2).1 := by rw [ei2, ek2_y1]; exact hc
      have ho : ∀ b, b ≠ j → b < 8 → k2_y1 b = v_inWorld b := by intro b h1 h2; rw [ek2_y1]
      have hu : ∀ a, a < (spn cn (fun a => v_worlds (j * 1000 + a)) fst step i2).1 → k2_y0 (j * 1000 + a) = (spn cn (fun a => v_worlds (j * 1000 + a)) fst step i2).2 a := by intro a ha; rw [ek2_y0, ei2]; rfl
      have hout : ∀ z, (z < j * 1000 ∨ j * 1000 + 1000 ≤ z) → k2_y0 z = v_worlds z := by intro z hz; rw [ek2_y0]
      have hle2 : (spn cn (fun a => v_worlds (j * 1000 + a)) fst step i2).1 ≤ 1000 := by rw [ei2]; exact hc1
      obtain ⟨d2, hd2⟩ : ∃ z_ : Nat, i2 + z_ = n := ⟨n - i2, by omega⟩
      clear ei2 ek2_y1 ek2_y0 efl2 S_0
      induction d2 generalizing i2 k2_y1 k2_y0 fl2 H locs ls with
      | zero =>
        have hN2 : i2 = n := by omega
        refine lv_iload hx hb dX9_span_104 (lv_at hl 0 rfl) ?_
        refine lv_iload hx hb dX9_span_106 (lv_at hl 5 rfl) ?_
        refine lv_icmp_ge (tgt := 145) hx hb dX9_span_108 (by decide) (fun b108 => ?_) (fun b108 => absurd (by rw [hN2]; exact Int32.le_refl _) b108)
        refine lv_aload_n hx hb dX9_span_145 rfl (lv_at hl 1 rfl) ?_
        refine q_get hx hb hts in_X9 hown S m_y e_y (C := RX9) (T := TX9) (N := 23) rfl 1 (by decide) rfl (hts (.fieldLink RX9 13 "SieveCabinetModel" "inWorld" "[I") (by decide +kernel)) dX9_span_146 ?_
        refine lv_iload_n hx hb dX9_span_149 rfl (lv_at hl 2 rfl) ?_
        refine q_iald hx hb S m_y1 e_y1 (vp_in_nI hj (by decide)) dX9_span_150 ?_
        rw [show k2_y1 ((nI j) : Int32).toNatClampNeg = (nI (spn cn (fun a => v_worlds (j * 1000 + a)) fst step n).1) from by rw [nI_clamp (by omega), hq, hN2]]
        exact q_reti (post := fun x L1 f1 => L1 = L ∧ ((1000 < (spn cn (fun a => v_worlds (j * 1000 + a)) fst step n).1 ∧ x = -4 ∧ f1 = f) ∨ ((spn cn (fun a => v_worlds (j * 1000 + a)) fst step n).1 ≤ 1000 ∧ x = nI (spn cn (fun a => v_worlds (j * 1000 + a)) fst step n).1 ∧ (∀ b, b ∈ L → b ≠ y1 → b ≠ y0 → f1 b = f b) ∧ ∃ u : Nat → Int64, ∃ q : Nat → Int32, f1 y0 = .inl (g 1, 8000, .inr (.inl u)) ∧ f1 y1 = .inl (g 0, 8, .inl q) ∧ q j = nI (spn cn (fun a => v_worlds (j * 1000 + a)) fst step n).1 ∧ (∀ b, b ≠ j → b < 8 → q b = v_inWorld b) ∧ (∀ a, a < (spn cn (fun a => v_worlds (j * 1000 + a)) fst step n).1 → u (j * 1000 + a) = (spn cn (fun a => v_worlds (j * 1000 + a)) fst step n).2 a) ∧ (∀ z, (z < j * 1000 ∨ j * 1000 + 1000 ≤ z) → u z = v_worlds z)))) hx hb hr hlk S dX9_span_151 (by decide) (by decide) (⟨rfl, Or.inr ⟨hfin, rfl, fr, _, _, e_y0, e_y1, by rw [hq, hN2], ho, by rw [← hN2]; exact hu, hout⟩⟩)
      | succ d2 ih2 =>
        have hlt2 : i2 < n := by omega
        refine lv_iload hx hb dX9_span_104 (lv_at hl 0 rfl) ?_
        refine lv_iload hx hb dX9_span_106 (lv_at hl 5 rfl) ?_
        refine lv_icmp_ge (tgt := 145) hx hb dX9_span_108 (by decide) (fun b108 => absurd b108 (nI_ge hlt2 (by omega))) (fun b108 => ?_)
        refine lv_lload_n hx hb dX9_span_111 rfl (lv_at hl 3 rfl) ?_
        refine lv_iload hx hb dX9_span_112 (lv_at hl 0 rfl) ?_
        refine lv_i2l hx hb dX9_span_114 rfl ?_
        refine lv_iload hx hb dX9_span_115 (lv_at hl 4 rfl) ?_
        refine lv_i2l hx hb dX9_span_117 rfl ?_
        refine lv_lmul hx hb dX9_span_118 ?_
        refine lv_ladd hx hb dX9_span_119 ?_
        refine lv_topl (fun tt ett => ?_)
        refine lv_lstore (lv' := [(8, .long tt), (7, .int ((nI i2))), (0, .ref y), (1, .int ((nI j))), (2, .long fst), (4, .int step), (5, .int ((nI n)))]) hx hb dX9_span_120 hl (by decide) rfl (fun ls hl => ?_)
        refine lv_aload_n hx hb dX9_span_122 rfl (lv_at hl 2 rfl) ?_
        refine lv_iload_n hx hb dX9_span_123 rfl (lv_at hl 3 rfl) ?_
        refine lv_lload hx hb dX9_span_124 (lv_at hl 0 rfl) ?_
        refine q_vi (As := [.int ((nI j)), .long tt]) (rest := []) ⟨hx, hb, hml, hown, hts⟩ (c_X9_placeOf l D g (cn := (spn cn (fun a => v_worlds (j * 1000 + a)) fst step i2).1) m_y e_y m_y1 e_y1 m_y0 e_y0 hj hq hle2) (cwV 2 hts gX9_span_X9_placeOf rfl rfl rfl (by decide +kernel) ⟨Nat.le_of_ble_eq_true rfl, Nat.le_of_ble_eq_true rfl⟩) S m_y e_y (T := TX9) (N := 23) rfl rfl hl.1 rfl (Nat.le_of_ble_eq_true rfl) dX9_span_126 ⟨Nat.le_of_ble_eq_true rfl, Nat.le_of_ble_eq_true rfl⟩ (fun r6 L4 f5 H locs S w126 => ?_)
        obtain ⟨exw126, eLw126, efw126⟩ := w126
        rw [eLw126, efw126] at S
        rcases exw126 with ⟨a9, ha9, hv9, er9⟩ | ⟨hno, er9⟩
        · skip
          subst er9
          have hst := spn_y (n0 := cn) (v0 := fun a => v_worlds (j * 1000 + a)) (first := fst) (step := step) (i := i2) ⟨a9, ha9, (hu a9 ha9).symm.trans (hv9.trans ett)⟩
          refine lv_if_ge (tgt := 139) hx hb dX9_span_129 (by decide) (fun b129 => ?_) (fun b129 => absurd (nI_pos' (by omega)) b129)
          obtain ⟨i3, ei3⟩ : ∃ y : Int32, y = (nI i2) + (1) := ⟨_, rfl⟩
          refine lv_iinc (v := i3) (lv' := [(7, .int i3), (8, .long tt), (0, .ref y), (1, .int ((nI j))), (2, .long fst), (4, .int step), (5, .int ((nI n)))]) hx hb dX9_span_139 hl (k := 1) rfl (by rw [ei3]; rfl) (by decide) rfl (fun ls hl => ?_)
          refine lv_goto (tgt := 104) hx hb dX9_span_142 (by decide) ?_
          exact ih2 (i2 := (i2 + 1)) (k2_y1 := k2_y1) (k2_y0 := k2_y0) (fl2 := fl2) (e_y := e_y) (e_y1 := e_y1) (e_y0 := e_y0) (fr := fr) (H := _) (locs := _) (S := S) (ls := ls) (hd2 := by omega) (hq := by rw [hst]; exact hq) (ho := by exact ho) (hu := by rw [hst]; exact hu) (hout := by exact hout) (hle2 := by rw [hst]; exact hle2) (hl := by have q := lv_sub hl [0, 2, 3, 4, 5, 6] rfl; rw [ei3, nI_1] at q; exact q)
        · skip
          subst er9
          have hnm : ¬ memW (spn cn (fun a => v_worlds (j * 1000 + a)) fst step i2).1 (spn cn (fun a => v_worlds (j * 1000 + a)) fst step i2).2 (tk fst step i2) := fun ⟨a, ha, e9⟩ => hno a ha ((hu a ha).trans (e9.trans ett.symm))
          have hst := spn_n hnm
          have hle3 : (spn cn (fun a => v_worlds (j * 1000 + a)) fst step i2).1 + 1 ≤ 1000 := by have q1 := spn_mono (n0 := cn) (v0 := fun a => v_worlds (j * 1000 + a)) (first := fst) (step := step) (show i2 + 1 ≤ n by omega); rw [hst] at q1; exact Nat.le_trans q1 hfin
          refine lv_if_ge (tgt := 139) hx hb dX9_span_129 (by decide) (fun b129 => absurd b129 (by decide)) (fun b129 => ?_)
          refine lv_aload_n hx hb dX9_span_132 rfl (lv_at hl 2 rfl) ?_
          refine lv_iload_n hx hb dX9_span_133 rfl (lv_at hl 3 rfl) ?_
          refine lv_lload hx hb dX9_span_134 (lv_at hl 0 rfl) ?_
          refine q_vv (As := [.int ((nI j)), .long tt]) (rest := []) ⟨hx, hb, hml, hown, hts⟩ (c_X9_enterX l D g (cn := (spn cn (fun a => v_worlds (j * 1000 + a)) fst step i2).1) m_y e_y m_y1 e_y1 m_y0 e_y0 hnd hj hq (by omega)) (cwV 2 hts gX9_span_X9_enter rfl rfl rfl (by decide +kernel) ⟨Nat.le_of_ble_eq_true rfl, Nat.le_of_ble_eq_true rfl⟩) S m_y e_y (T := TX9) (N := 23) rfl rfl hl.1 rfl (Nat.le_of_ble_eq_true rfl) dX9_span_136 ⟨Nat.le_of_ble_eq_true rfl, Nat.le_of_ble_eq_true rfl⟩ (fun L7 f8 H locs S w136 => ?_)
          obtain ⟨eLw136, fvw136, uu, qq, E_y0, E_y1, hqq, hqo, kk, hkk, g1, g2, g3, g4, g5, g6⟩ := w136
          rw [eLw136] at S
          have e_y : f8 y = .inr (7, [.ref y0, .ref y1, .ref y2, .ref y3, .ref y4, .ref y5, .ref y6, .ref y7, .ref y8, .ref y9, .ref y10, .ref y11, .ref y12, .ref y13, .int mm, .ref y15, .ref y16, .ref y17, .ref y18, .ref y19, .ref y20, .ref y21, .ref y22]) := (fvw136 y m_y (nd_ne hnd (i := 2) (j := 0) rfl rfl (by decide)) (nd_ne hnd (i := 1) (j := 0) rfl rfl (by decide))).trans e_y
          have e_y1 := E_y1
          have e_y0 := E_y0
          have fr : ∀ b, b ∈ L → b ≠ y1 → b ≠ y0 → f8 b = f b := fun b mb nb0 nb1 => (fvw136 b (mono b mb) nb0 nb1).trans (fr b mb nb0 nb1)
          obtain ⟨i3, ei3⟩ : ∃ y : Int32, y = (nI i2) + (1) := ⟨_, rfl⟩
          refine lv_iinc (v := i3) (lv' := [(7, .int i3), (8, .long tt), (0, .ref y), (1, .int ((nI j))), (2, .long fst), (4, .int step), (5, .int ((nI n)))]) hx hb dX9_span_139 hl (k := 1) rfl (by rw [ei3]; rfl) (by decide) rfl (fun ls hl => ?_)
          refine lv_goto (tgt := 104) hx hb dX9_span_142 (by decide) ?_
          exact ih2 (i2 := (i2 + 1)) (k2_y1 := qq) (k2_y0 := uu) (fl2 := f8) (e_y := e_y) (e_y1 := e_y1) (e_y0 := e_y0) (fr := fr) (H := _) (locs := _) (S := S) (ls := ls) (hd2 := by omega) (hq := by rw [hst]; exact hqq) (ho := by intro b h1 h2; rw [hqo b h1 h2]; exact ho b h1 h2) (hu := by rw [hst, show tk fst step i2 = tt from ett.symm]; exact enter_ins (v := (spn cn (fun a => v_worlds (j * 1000 + a)) fst step i2).2) (u := fun a => uu (j * 1000 + a)) (spn_world hw hc1 i2 (by omega)) hle2 (fun a ha e9 => hno a ha ((hu a ha).trans e9)) hkk (if h0 : kk = 0 then Or.inl h0 else Or.inr (by rw [← hu (kk - 1) (by omega)]; exact g1.resolve_left h0)) (fun a h1 h2 => by rw [← hu a h2]; exact g2 a h1 h2) (fun a h1 => (g3 a h1).trans (hu a (by omega))) g4 (fun a h1 h2 => (g5 a h1 h2).trans (hu (a - 1) (by omega)))) (hout := by intro z hz; exact (g6 z hz).trans (hout z hz)) (hle2 := by rw [hst]; exact hle3) (hl := by have q := lv_sub hl [0, 2, 3, 4, 5, 6] rfl; rw [ei3, nI_1] at q; exact q)
    · skip
      refine lv_bipush (v := -4) hx hb dX9_span_98 (by decide) ?_
      exact q_reti (post := fun x L1 f1 => L1 = L ∧ ((1000 < (spn cn (fun a => v_worlds (j * 1000 + a)) fst step n).1 ∧ x = -4 ∧ f1 = f) ∨ ((spn cn (fun a => v_worlds (j * 1000 + a)) fst step n).1 ≤ 1000 ∧ x = nI (spn cn (fun a => v_worlds (j * 1000 + a)) fst step n).1 ∧ (∀ b, b ∈ L → b ≠ y1 → b ≠ y0 → f1 b = f b) ∧ ∃ u : Nat → Int64, ∃ q : Nat → Int32, f1 y0 = .inl (g 1, 8000, .inr (.inl u)) ∧ f1 y1 = .inl (g 0, 8, .inl q) ∧ q j = nI (spn cn (fun a => v_worlds (j * 1000 + a)) fst step n).1 ∧ (∀ b, b ≠ j → b < 8 → q b = v_inWorld b) ∧ (∀ a, a < (spn cn (fun a => v_worlds (j * 1000 + a)) fst step n).1 → u (j * 1000 + a) = (spn cn (fun a => v_worlds (j * 1000 + a)) fst step n).2 a) ∧ (∀ z, (z < j * 1000 ∨ j * 1000 + 1000 ≤ z) → u z = v_worlds z)))) hx hb hr hlk S dX9_span_100 (by decide) (by decide) (⟨rfl, Or.inl ⟨by rw [← hN]; rw [hsum] at b95; exact Nat.lt_of_not_le (fun h => b95 (nI_le (b := 1000) h (by decide))), rfl, rfl⟩⟩)
  | succ d ih =>
    have hlt : i < n := by omega
    have hlt2 : i < 1000 := by omega
    refine lv_iload hx hb dX9_span_29 (lv_at hl 0 rfl) ?_
    refine lv_iload hx hb dX9_span_31 (lv_at hl 6 rfl) ?_
    refine lv_icmp_ge (tgt := 83) hx hb dX9_span_33 (by decide) (fun b33 => absurd b33 (nI_ge hlt (by omega))) (fun b33 => ?_)
    refine lv_lload_n hx hb dX9_span_36 rfl (lv_at hl 4 rfl) ?_
    refine lv_iload hx hb dX9_span_37 (lv_at hl 0 rfl) ?_
    refine lv_i2l hx hb dX9_span_39 rfl ?_
    refine lv_iload hx hb dX9_span_40 (lv_at hl 5 rfl) ?_
    refine lv_i2l hx hb dX9_span_42 rfl ?_
    refine lv_lmul hx hb dX9_span_43 ?_
    refine lv_ladd hx hb dX9_span_44 ?_
    refine lv_topl (fun t1 et1 => ?_)
    refine lv_lstore (lv' := [(8, .long t1), (7, .int ((nI i))), (6, .int ((nI ((spn cn (fun a => v_worlds (j * 1000 + a)) fst step i).1 - cn)))), (0, .ref y), (1, .int ((nI j))), (2, .long fst), (4, .int step), (5, .int ((nI n)))]) hx hb dX9_span_45 hl (by decide) rfl (fun ls hl => ?_)
    refine lv_iload hx hb dX9_span_47 (lv_at hl 2 rfl) ?_
    refine lv_aload_n hx hb dX9_span_49 rfl (lv_at hl 3 rfl) ?_
    refine lv_iload_n hx hb dX9_span_50 rfl (lv_at hl 4 rfl) ?_
    refine lv_lload hx hb dX9_span_51 (lv_at hl 0 rfl) ?_
    refine q_vi (As := [.int ((nI j)), .long t1]) (rest := [.int ((nI ((spn cn (fun a => v_worlds (j * 1000 + a)) fst step i).1 - cn)))]) ⟨hx, hb, hml, hown, hts⟩ (c_X9_placeOf l D g (cn := cn) m_y e_y m_y1 e_y1 m_y0 e_y0 hj hc hc1) (cwV 2 hts gX9_span_X9_placeOf rfl rfl rfl (by decide +kernel) ⟨Nat.le_of_ble_eq_true rfl, Nat.le_of_ble_eq_true rfl⟩) S m_y e_y (T := TX9) (N := 23) rfl rfl hl.1 rfl (Nat.le_of_ble_eq_true rfl) dX9_span_53 ⟨Nat.le_of_ble_eq_true rfl, Nat.le_of_ble_eq_true rfl⟩ (fun r9 L7 f8 H locs S w53 => ?_)
    obtain ⟨exw53, eLw53, efw53⟩ := w53
    rw [eLw53, efw53] at S
    rcases exw53 with ⟨a9, ha9, hv9, er9⟩ | ⟨hno, er9⟩
    · skip
      subst er9
      refine lv_if_ge (tgt := 73) hx hb dX9_span_56 (by decide) (fun b56 => ?_) (fun b56 => absurd (nI_pos' (by omega)) b56)
      refine lv_iconst (v := 0) hx hb dX9_span_73 (by decide) ?_
      refine lv_iadd hx hb dX9_span_74 ?_
      refine lv_istore (lv' := [(6, .int (((nI ((spn cn (fun a => v_worlds (j * 1000 + a)) fst step i).1 - cn)) + 0))), (8, .long t1), (7, .int ((nI i))), (0, .ref y), (1, .int ((nI j))), (2, .long fst), (4, .int step), (5, .int ((nI n)))]) hx hb dX9_span_75 hl (by decide) rfl (fun ls hl => ?_)
      obtain ⟨i1, ei1⟩ : ∃ y : Int32, y = (nI i) + (1) := ⟨_, rfl⟩
      refine lv_iinc (v := i1) (lv' := [(7, .int i1), (6, .int (((nI ((spn cn (fun a => v_worlds (j * 1000 + a)) fst step i).1 - cn)) + 0))), (8, .long t1), (0, .ref y), (1, .int ((nI j))), (2, .long fst), (4, .int step), (5, .int ((nI n)))]) hx hb dX9_span_77 hl (k := 2) rfl (by rw [ei1]; rfl) (by decide) rfl (fun ls hl => ?_)
      refine lv_goto (tgt := 29) hx hb dX9_span_80 (by decide) ?_
      exact ih (i := (i + 1)) (H := _) (locs := _) (S := S) (ls := ls) (hd := by omega) (hl := by have q := lv_sub hl [0, 1, 3, 4, 5, 6, 7] rfl; rw [ei1, nI_1, Int32.add_zero, pu_new0 hlt2 (Or.inl ⟨a9, ha9, hv9.trans et1⟩)] at q; exact q)
    · skip
      subst er9
      refine lv_if_ge (tgt := 73) hx hb dX9_span_56 (by decide) (fun b56 => absurd b56 (by decide)) (fun b56 => ?_)
      refine lv_iload hx hb dX9_span_59 (lv_at hl 6 rfl) ?_
      refine lv_if_ne (tgt := 69) hx hb dX9_span_61 (by decide) (fun b61 => ?_) (fun b61 => ?_)
      · skip
        refine lv_iconst (v := 1) hx hb dX9_span_69 (by decide) ?_
        refine lv_goto (tgt := 74) hx hb dX9_span_70 (by decide) ?_
        refine lv_iadd hx hb dX9_span_74 ?_
        refine lv_istore (lv' := [(6, .int (((nI ((spn cn (fun a => v_worlds (j * 1000 + a)) fst step i).1 - cn)) + 1))), (8, .long t1), (7, .int ((nI i))), (0, .ref y), (1, .int ((nI j))), (2, .long fst), (4, .int step), (5, .int ((nI n)))]) hx hb dX9_span_75 hl (by decide) rfl (fun ls hl => ?_)
        obtain ⟨i1, ei1⟩ : ∃ y : Int32, y = (nI i) + (1) := ⟨_, rfl⟩
        refine lv_iinc (v := i1) (lv' := [(7, .int i1), (6, .int (((nI ((spn cn (fun a => v_worlds (j * 1000 + a)) fst step i).1 - cn)) + 1))), (8, .long t1), (0, .ref y), (1, .int ((nI j))), (2, .long fst), (4, .int step), (5, .int ((nI n)))]) hx hb dX9_span_77 hl (k := 2) rfl (by rw [ei1]; rfl) (by decide) rfl (fun ls hl => ?_)
        refine lv_goto (tgt := 29) hx hb dX9_span_80 (by decide) ?_
        exact ih (i := (i + 1)) (H := _) (locs := _) (S := S) (ls := ls) (hd := by omega) (hl := by have q := lv_sub hl [0, 1, 3, 4, 5, 6, 7] rfl; rw [ei1, nI_1, nI_1, pu_new1 hlt2 (fun ⟨a, ha, e⟩ => hno a ha (e.trans et1.symm)) (Or.inl b61)] at q; exact q)
      · skip
        refine lv_iload hx hb dX9_span_64 (lv_at hl 1 rfl) ?_
        refine lv_if_ne (tgt := 73) hx hb dX9_span_66 (by decide) (fun b66 => ?_) (fun b66 => ?_)
        · skip
          refine lv_iconst (v := 0) hx hb dX9_span_73 (by decide) ?_
          refine lv_iadd hx hb dX9_span_74 ?_
          refine lv_istore (lv' := [(6, .int (((nI ((spn cn (fun a => v_worlds (j * 1000 + a)) fst step i).1 - cn)) + 0))), (8, .long t1), (7, .int ((nI i))), (0, .ref y), (1, .int ((nI j))), (2, .long fst), (4, .int step), (5, .int ((nI n)))]) hx hb dX9_span_75 hl (by decide) rfl (fun ls hl => ?_)
          obtain ⟨i1, ei1⟩ : ∃ y : Int32, y = (nI i) + (1) := ⟨_, rfl⟩
          refine lv_iinc (v := i1) (lv' := [(7, .int i1), (6, .int (((nI ((spn cn (fun a => v_worlds (j * 1000 + a)) fst step i).1 - cn)) + 0))), (8, .long t1), (0, .ref y), (1, .int ((nI j))), (2, .long fst), (4, .int step), (5, .int ((nI n)))]) hx hb dX9_span_77 hl (k := 2) rfl (by rw [ei1]; rfl) (by decide) rfl (fun ls hl => ?_)
          refine lv_goto (tgt := 29) hx hb dX9_span_80 (by decide) ?_
          exact ih (i := (i + 1)) (H := _) (locs := _) (S := S) (ls := ls) (hd := by omega) (hl := by have q := lv_sub hl [0, 1, 3, 4, 5, 6, 7] rfl; rw [ei1, nI_1, Int32.add_zero, pu_new0 hlt2 (Or.inr ⟨b61, fun h => b66 (by rw [h]; rfl)⟩)] at q; exact q)
        · skip
          refine lv_iconst (v := 1) hx hb dX9_span_69 (by decide) ?_
          refine lv_goto (tgt := 74) hx hb dX9_span_70 (by decide) ?_
          refine lv_iadd hx hb dX9_span_74 ?_
          refine lv_istore (lv' := [(6, .int (((nI ((spn cn (fun a => v_worlds (j * 1000 + a)) fst step i).1 - cn)) + 1))), (8, .long t1), (7, .int ((nI i))), (0, .ref y), (1, .int ((nI j))), (2, .long fst), (4, .int step), (5, .int ((nI n)))]) hx hb dX9_span_75 hl (by decide) rfl (fun ls hl => ?_)
          obtain ⟨i1, ei1⟩ : ∃ y : Int32, y = (nI i) + (1) := ⟨_, rfl⟩
          refine lv_iinc (v := i1) (lv' := [(7, .int i1), (6, .int (((nI ((spn cn (fun a => v_worlds (j * 1000 + a)) fst step i).1 - cn)) + 1))), (8, .long t1), (0, .ref y), (1, .int ((nI j))), (2, .long fst), (4, .int step), (5, .int ((nI n)))]) hx hb dX9_span_77 hl (k := 2) rfl (by rw [ei1]; rfl) (by decide) rfl (fun ls hl => ?_)
          refine lv_goto (tgt := 29) hx hb dX9_span_80 (by decide) ?_
          exact ih (i := (i + 1)) (H := _) (locs := _) (S := S) (ls := ls) (hd := by omega) (hl := by have q := lv_sub hl [0, 1, 3, 4, 5, 6, 7] rfl; rw [ei1, nI_1, nI_1, pu_new1 hlt2 (fun ⟨a, ha, e⟩ => hno a ha (e.trans et1.symm)) (Or.inr ((nI_eq (b := 0) (by omega) (by decide)).mp b66))] at q; exact q)
