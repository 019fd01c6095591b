set_option maxHeartbeats 4000000 in
set_option maxRecDepth 100000 in
/-- reference: takeOff of an empty world -/
theorem c_X9_takeOff0 (l : Launch) (D : va_G) (g : Nat → ClassId) {L : List Nat} {f : Nat → va_E} {y y0 y1 y2 y3 y4 y5 y6 y7 y8 y9 y10 y11 y12 y13 y15 y16 y17 y18 y19 y20 y21 y22 : Nat}  {v_inWorld : Nat → Int32}                   {v_alone : Nat → Int32}  {mm : Int32} {w sd : Int32} (m_y : y ∈ L) (e_y : f y = .inr (7, [.ref y0, .ref y1, .ref y2, .ref y3, .ref y4, .ref y5, .ref y6, .ref y7, .ref y8, .ref y9, .ref y10, .ref y11, .ref y12, .ref y13, .int mm, .ref y15, .ref y16, .ref y17, .ref y18, .ref y19, .ref y20, .ref y21, .ref y22])) (m_y1 : y1 ∈ L) (e_y1 : f y1 = .inl (g 0, 8, .inl v_inWorld)) (m_y21 : y21 ∈ L) (e_y21 : f y21 = .inl (g 0, 4096, .inl v_alone)) (hnd : [y, y0, y1, y2, y3, y4, y5, y6, y7, y8, y9, y10, y11, y12, y13, y15, y16, y17, y18, y19, y20, y21, y22].Nodup) (p1 : vp_in w 8) (z1 : v_inWorld w.toNatClampNeg = 0) : cI l yX9_takeOff wsX9_takeOff { frames := 0, cells := 0, slots := 0, locals := 0 } D g [.ref y, .int w, .int sd, .int 8] L f 0 0 (fun x L1 f1 => x = 1 ∧ L1 = L ∧ (∀ b, b ∈ L → b ≠ y21 → f1 b = f b) ∧ ∃ w_alone : Nat → Int32, f1 y21 = .inl (g 0, 4096, .inl w_alone)) := by
  refine cI_of (cc := cX9_takeOff) (maxL := 9) (ret := (some .boolean)) (by decide) rfl (Nat.le_of_ble_eq_true rfl) ?_
  intro sz p e s m below meth c hx hb hr hml hts hown hlk hnm S ls hl
  have hl : lv_has ls 9 [(0, .ref y), (1, .int w), (2, .int sd), (3, .int 8)] := hl
  have in_X9 : ∀ w ∈ wsX90, w ∈ wsX9_takeOff := by decide +kernel
  have fr : ∀ b, b ∈ L → b ≠ y21 → f b = f b := fun _ _ _ => rfl
  have mono : ∀ b, b ∈ L → b ∈ L := fun _ h => h
  refine lv_aload_n hx hb dX9_takeOff_0 rfl (lv_at hl 0 rfl) ?_
  refine q_get hx hb hts in_X9 hown S m_y e_y (C := RX9) (T := TX9) (N := 23) rfl 1 (by decide) rfl (hts (.fieldLink RX9 13 "SieveCabinetModel" "inWorld" "[I") (by decide +kernel)) dX9_takeOff_1 ?_
  refine lv_iload_n hx hb dX9_takeOff_4 rfl (lv_at hl 1 rfl) ?_
  refine q_iald hx hb S m_y1 e_y1 (p1) dX9_takeOff_5 ?_
  rw [show v_inWorld (w : Int32).toNatClampNeg = 0 from z1]
  refine lv_istore (lv' := [(4, .int 0), (0, .ref y), (1, .int w), (2, .int sd), (3, .int 8)]) hx hb dX9_takeOff_6 hl (by decide) rfl (fun ls hl => ?_)
  refine lv_iconst (v := 0) hx hb dX9_takeOff_8 (by decide) ?_
  refine lv_istore (lv' := [(5, .int 0), (4, .int 0), (0, .ref y), (1, .int w), (2, .int sd), (3, .int 8)]) hx hb dX9_takeOff_9 hl (by decide) rfl (fun ls hl => ?_)
  obtain ⟨i, ei⟩ : ∃ z_ : Nat, z_ = 0 := ⟨_, rfl⟩
  obtain ⟨k_y21, ek_y21⟩ : ∃ z_ : Nat → Int32, z_ = v_alone := ⟨_, rfl⟩
  obtain ⟨fl, efl⟩ : ∃ z_, z_ = f := ⟨_, rfl⟩
  have e_y : fl y = .inr (7, [.ref y0, .ref y1, .ref y2, .ref y3, .ref y4, .ref y5, .ref y6, .ref y7, .ref y8, .ref y9, .ref y10, .ref y11, .ref y12, .ref y13, .int mm, .ref y15, .ref y16, .ref y17, .ref y18, .ref y19, .ref y20, .ref y21, .ref y22]) := by rw [efl]; exact e_y
  have e_y1 : fl y1 = .inl (g 0, 8, .inl v_inWorld) := by rw [efl]; exact e_y1
  have e_y21 : fl y21 = .inl (g 0, 4096, .inl k_y21) := by rw [efl, ek_y21]; exact e_y21
  have fr : ∀ b, b ∈ L → b ≠ y21 → fl b = f b := by rw [efl]; exact fr
  have S_0 : PS D g (va_A (va_pl L f) sz) s.heap s L fl s.heap [] := by rw [efl]; exact S
  refine W_any (X := fun H locs => PS D g (va_A (va_pl L f) sz) s.heap s L fl H locs) S_0 (fun H locs S => ?_)
  refine W_ls (lv := [(5, .int ((nI i))), (4, .int 0), (0, .ref y), (1, .int w), (2, .int sd), (3, .int 8)]) (by have q := lv_sub hl [0, 1, 2, 3, 4, 5] rfl; rw [ei]; exact q) (fun ls hl => ?_)
  obtain ⟨d, hd⟩ : ∃ z_ : Nat, i + z_ = 24 := ⟨24 - i, by omega⟩
  clear ei ek_y21 efl S_0
  induction d generalizing i k_y21 fl H locs ls with
  | zero =>
    have hN : i = 24 := by omega
    refine lv_iload hx hb dX9_takeOff_11 (lv_at hl 0 rfl) ?_
    refine lv_iconst (v := 3) hx hb dX9_takeOff_13 (by decide) ?_
    refine lv_iload_n hx hb dX9_takeOff_14 rfl (lv_at hl 5 rfl) ?_
    refine lv_imul hx hb dX9_takeOff_15 ?_
    refine lv_topi (fun t_ et_ => ?_)
    obtain rfl : t_ = 24 := et_.trans (by decide)
    refine lv_icmp_ge (tgt := 33) hx hb dX9_takeOff_16 (by decide) (fun b16 => ?_) (fun b16 => absurd (by rw [hN]; decide) b16)
    refine lv_iconst (v := 0) hx hb dX9_takeOff_33 (by decide) ?_
    refine lv_istore (lv' := [(5, .int 0), (4, .int 0), (0, .ref y), (1, .int w), (2, .int sd), (3, .int 8)]) hx hb dX9_takeOff_34 hl (by decide) rfl (fun ls hl => ?_)
    refine lv_iload hx hb dX9_takeOff_36 (lv_at hl 0 rfl) ?_
    refine lv_iload hx hb dX9_takeOff_38 (lv_at hl 1 rfl) ?_
    refine lv_icmp_ge (tgt := 108) hx hb dX9_takeOff_40 (by decide) (fun b40 => ?_) (fun b40 => absurd (by decide) b40)
    refine lv_iconst (v := 0) hx hb dX9_takeOff_108 (by decide) ?_
    refine lv_istore (lv' := [(5, .int 0), (4, .int 0), (0, .ref y), (1, .int w), (2, .int sd), (3, .int 8)]) hx hb dX9_takeOff_109 hl (by decide) rfl (fun ls hl => ?_)
    refine lv_iload hx hb dX9_takeOff_111 (lv_at hl 0 rfl) ?_
    refine lv_iload hx hb dX9_takeOff_113 (lv_at hl 1 rfl) ?_
    refine lv_icmp_ge (tgt := 284) hx hb dX9_takeOff_115 (by decide) (fun b115 => ?_) (fun b115 => absurd (by decide) b115)
    refine lv_iconst (v := 1) hx hb dX9_takeOff_284 (by decide) ?_
    exact q_retz (post := fun x L1 f1 => x = 1 ∧ L1 = L ∧ (∀ b, b ∈ L → b ≠ y21 → f1 b = f b) ∧ ∃ w_alone : Nat → Int32, f1 y21 = .inl (g 0, 4096, .inl w_alone)) hx hb hr hlk S dX9_takeOff_285 (by decide) (by decide) (by decide) (⟨rfl, rfl, fr, _, e_y21⟩)
  | succ d ih =>
    have hlt : i < 24 := by omega
    refine lv_iload hx hb dX9_takeOff_11 (lv_at hl 0 rfl) ?_
    refine lv_iconst (v := 3) hx hb dX9_takeOff_13 (by decide) ?_
    refine lv_iload_n hx hb dX9_takeOff_14 rfl (lv_at hl 5 rfl) ?_
    refine lv_imul hx hb dX9_takeOff_15 ?_
    refine lv_topi (fun t_ et_ => ?_)
    obtain rfl : t_ = 24 := et_.trans (by decide)
    refine lv_icmp_ge (tgt := 33) hx hb dX9_takeOff_16 (by decide) (fun b16 => absurd b16 (nI_ge (b := 24) hlt (by decide))) (fun b16 => ?_)
    refine lv_aload_n hx hb dX9_takeOff_19 rfl (lv_at hl 2 rfl) ?_
    refine q_get hx hb hts in_X9 hown S m_y e_y (C := RX9) (T := TX9) (N := 23) rfl 21 (by decide) rfl (hts (.fieldLink RX9 74 "SieveCabinetModel" "alone" "[I") (by decide +kernel)) dX9_takeOff_20 ?_
    refine lv_iload hx hb dX9_takeOff_23 (lv_at hl 0 rfl) ?_
    refine lv_iconst (v := 0) hx hb dX9_takeOff_25 (by decide) ?_
    refine q_iast hx hb S m_y21 e_y21 (vp_in_nI (by omega) (by decide)) dX9_takeOff_26 (fun H locs S => ?_)
    obtain ⟨f1, ef1⟩ : ∃ z_, z_ = va_up fl y21 (.inl (g 0, 4096, .inl (upd k_y21 ((nI i) : Int32).toNatClampNeg 0))) := ⟨_, rfl⟩
    have S : PS D g (va_A (va_pl L f) sz) s.heap s L f1 H locs := by rw [ef1]; exact S
    have e_y : f1 y = .inr (7, [.ref y0, .ref y1, .ref y2, .ref y3, .ref y4, .ref y5, .ref y6, .ref y7, .ref y8, .ref y9, .ref y10, .ref y11, .ref y12, .ref y13, .int mm, .ref y15, .ref y16, .ref y17, .ref y18, .ref y19, .ref y20, .ref y21, .ref y22]) := up_ne ef1 (nd_ne hnd (i := 21) (j := 0) rfl rfl (by decide)) e_y
    have e_y1 : f1 y1 = .inl (g 0, 8, .inl v_inWorld) := up_ne ef1 (nd_ne hnd (i := 21) (j := 2) rfl rfl (by decide)) e_y1
    have e_y21 : f1 y21 = .inl (g 0, 4096, .inl (upd k_y21 ((nI i) : Int32).toNatClampNeg 0)) := up_self ef1
    have fr : ∀ b, b ∈ L → b ≠ y21 → f1 b = f b := fun b mb nb0 => (up_ne ef1 nb0 rfl).trans (fr b mb nb0)
    obtain ⟨i1, ei1⟩ : ∃ y : Int32, y = (nI i) + (1) := ⟨_, rfl⟩
    refine lv_iinc (v := i1) (lv' := [(5, .int i1), (4, .int 0), (0, .ref y), (1, .int w), (2, .int sd), (3, .int 8)]) hx hb dX9_takeOff_27 hl (k := 0) rfl (by rw [ei1]; rfl) (by decide) rfl (fun ls hl => ?_)
    refine lv_goto (tgt := 11) hx hb dX9_takeOff_30 (by decide) ?_
    exact ih (i := (i + 1)) (k_y21 := (upd k_y21 ((nI i) : Int32).toNatClampNeg 0)) (fl := f1) (e_y := e_y) (e_y1 := e_y1) (e_y21 := e_y21) (fr := fr) (H := _) (locs := _) (S := S) (ls := ls) (hd := by omega) (hl := by have q := lv_sub hl [0, 1, 2, 3, 4, 5] rfl; rw [ei1, nI_1] at q; exact q)

set_option maxHeartbeats 4000000 in
set_option maxRecDepth 100000 in
/-- reference: fillFrom an empty world -/
theorem c_X9_fillFrom0 (l : Launch) (D : va_G) (g : Nat → ClassId) {L : List Nat} {f : Nat → va_E} {y y0 y1 y2 y3 y4 y5 y6 y7 y8 y9 y10 y11 y12 y13 y15 y16 y17 y18 y19 y20 y21 y22 : Nat}  {v_inWorld : Nat → Int32}      {v_contentMany : Nat → Int32}               {mm : Int32} {w : Int32} (m_y : y ∈ L) (e_y : f y = .inr (7, [.ref y0, .ref y1, .ref y2, .ref y3, .ref y4, .ref y5, .ref y6, .ref y7, .ref y8, .ref y9, .ref y10, .ref y11, .ref y12, .ref y13, .int mm, .ref y15, .ref y16, .ref y17, .ref y18, .ref y19, .ref y20, .ref y21, .ref y22])) (m_y1 : y1 ∈ L) (e_y1 : f y1 = .inl (g 0, 8, .inl v_inWorld)) (m_y7 : y7 ∈ L) (e_y7 : f y7 = .inl (g 0, 30, .inl v_contentMany)) (hnd : [y, y0, y1, y2, y3, y4, y5, y6, y7, y8, y9, y10, y11, y12, y13, y15, y16, y17, y18, y19, y20, y21, y22].Nodup) (p1 : vp_in w 8) (z1 : v_inWorld w.toNatClampNeg = 0) : cV l yX9_fillFrom wsX9_fillFrom { frames := 0, cells := 0, slots := 0, locals := 0 } D g [.ref y, .int 0, .int w] L f 0 0 (fun L1 f1 => L1 = L ∧ (∀ b, b ∈ L → b ≠ y7 → f1 b = f b) ∧ ∃ w_cm : Nat → Int32, f1 y7 = .inl (g 0, 30, .inl w_cm)) := by
  refine cV_of (cc := cX9_fillFrom) (maxL := 4) (ret := none) (by decide) rfl (Nat.le_of_ble_eq_true rfl) ?_
  intro sz p e s m below meth c hx hb hr hml hts hown hlk hnm S ls hl
  have hl : lv_has ls 4 [(0, .ref y), (1, .int 0), (2, .int w)] := hl
  have in_X9 : ∀ w ∈ wsX90, w ∈ wsX9_fillFrom := by decide +kernel
  have fr : ∀ b, b ∈ L → b ≠ y7 → f b = f b := fun _ _ _ => rfl
  have mono : ∀ b, b ∈ L → b ∈ L := fun _ h => h
  refine lv_aload_n hx hb dX9_fillFrom_0 rfl (lv_at hl 0 rfl) ?_
  refine q_get hx hb hts in_X9 hown S m_y e_y (C := RX9) (T := TX9) (N := 23) rfl 7 (by decide) rfl (hts (.fieldLink RX9 32 "SieveCabinetModel" "contentMany" "[I") (by decide +kernel)) dX9_fillFrom_1 ?_
  refine lv_iload_n hx hb dX9_fillFrom_4 rfl (lv_at hl 1 rfl) ?_
  refine lv_aload_n hx hb dX9_fillFrom_5 rfl (lv_at hl 0 rfl) ?_
  refine q_get hx hb hts in_X9 hown S m_y e_y (C := RX9) (T := TX9) (N := 23) rfl 1 (by decide) rfl (hts (.fieldLink RX9 13 "SieveCabinetModel" "inWorld" "[I") (by decide +kernel)) dX9_fillFrom_6 ?_
  refine lv_iload_n hx hb dX9_fillFrom_9 rfl (lv_at hl 2 rfl) ?_
  refine q_iald hx hb S m_y1 e_y1 (p1) dX9_fillFrom_10 ?_
  rw [show v_inWorld (w : Int32).toNatClampNeg = 0 from z1]
  refine q_iast hx hb S m_y7 e_y7 (pu_in0 (by decide) (by decide)) dX9_fillFrom_11 (fun H locs S => ?_)
  obtain ⟨f1, ef1⟩ : ∃ z_, z_ = va_up f y7 (.inl (g 0, 30, .inl (upd v_contentMany (0 : Int32).toNatClampNeg 0))) := ⟨_, rfl⟩
  have S : PS D g (va_A (va_pl L f) sz) s.heap s L f1 H locs := by rw [ef1]; exact S
  have e_y : f1 y = .inr (7, [.ref y0, .ref y1, .ref y2, .ref y3, .ref y4, .ref y5, .ref y6, .ref y7, .ref y8, .ref y9, .ref y10, .ref y11, .ref y12, .ref y13, .int mm, .ref y15, .ref y16, .ref y17, .ref y18, .ref y19, .ref y20, .ref y21, .ref y22]) := up_ne ef1 (nd_ne hnd (i := 8) (j := 0) rfl rfl (by decide)) e_y
  have e_y1 : f1 y1 = .inl (g 0, 8, .inl v_inWorld) := up_ne ef1 (nd_ne hnd (i := 8) (j := 2) rfl rfl (by decide)) e_y1
  have e_y7 : f1 y7 = .inl (g 0, 30, .inl (upd v_contentMany (0 : Int32).toNatClampNeg 0)) := up_self ef1
  have fr : ∀ b, b ∈ L → b ≠ y7 → f1 b = f b := fun b mb nb0 => (up_ne ef1 nb0 rfl).trans (fr b mb nb0)
  refine lv_iconst (v := 0) hx hb dX9_fillFrom_12 (by decide) ?_
  refine lv_istore_n (lv' := [(3, .int 0), (0, .ref y), (1, .int 0), (2, .int w)]) hx hb dX9_fillFrom_13 rfl hl (by decide) rfl (fun ls hl => ?_)
  refine lv_iload_n hx hb dX9_fillFrom_14 rfl (lv_at hl 0 rfl) ?_
  refine lv_aload_n hx hb dX9_fillFrom_15 rfl (lv_at hl 1 rfl) ?_
  refine q_get hx hb hts in_X9 hown S m_y e_y (C := RX9) (T := TX9) (N := 23) rfl 1 (by decide) rfl (hts (.fieldLink RX9 13 "SieveCabinetModel" "inWorld" "[I") (by decide +kernel)) dX9_fillFrom_16 ?_
  refine lv_iload_n hx hb dX9_fillFrom_19 rfl (lv_at hl 3 rfl) ?_
  refine q_iald hx hb S m_y1 e_y1 (p1) dX9_fillFrom_20 ?_
  rw [show v_inWorld (w : Int32).toNatClampNeg = 0 from z1]
  refine lv_icmp_ge (tgt := 54) hx hb dX9_fillFrom_21 (by decide) (fun b21 => ?_) (fun b21 => absurd (by decide) b21)
  exact q_retv (post := fun L1 f1 => L1 = L ∧ (∀ b, b ∈ L → b ≠ y7 → f1 b = f b) ∧ ∃ w_cm : Nat → Int32, f1 y7 = .inl (g 0, 30, .inl w_cm)) hx hb hr hlk S dX9_fillFrom_54 (by decide) (by decide) (⟨rfl, fr, _, e_y7⟩)

set_option maxHeartbeats 4000000 in
set_option maxRecDepth 100000 in
/-- reference: solve of a new one -/
theorem c_X9_solve0 (l : Launch) (D : va_G) (g : Nat → ClassId) {L : List Nat} {f : Nat → va_E} {y y0 y1 y2 y3 y4 y5 y6 y7 y8 y9 y10 y11 y12 y13 y15 y16 y17 y18 y19 y20 y21 y22 : Nat}  {v_inWorld : Nat → Int32} {v_kind : Nat → Int32} {v_size : Nat → Int32} {v_marks : Nat → Int32} {v_seed : Nat → Int32}  {v_contentMany : Nat → Int32} {v_row : Nat → Int32}     {v_restMany : Nat → Int32}       {v_alone : Nat → Int32}  {w sd : Int32} (m_y : y ∈ L) (e_y : f y = .inr (7, [.ref y0, .ref y1, .ref y2, .ref y3, .ref y4, .ref y5, .ref y6, .ref y7, .ref y8, .ref y9, .ref y10, .ref y11, .ref y12, .ref y13, .int 0, .ref y15, .ref y16, .ref y17, .ref y18, .ref y19, .ref y20, .ref y21, .ref y22])) (m_y1 : y1 ∈ L) (e_y1 : f y1 = .inl (g 0, 8, .inl v_inWorld)) (m_y21 : y21 ∈ L) (e_y21 : f y21 = .inl (g 0, 4096, .inl v_alone)) (m_y2 : y2 ∈ L) (e_y2 : f y2 = .inl (g 0, 30, .inl v_kind)) (m_y3 : y3 ∈ L) (e_y3 : f y3 = .inl (g 0, 30, .inl v_size)) (m_y4 : y4 ∈ L) (e_y4 : f y4 = .inl (g 0, 30, .inl v_marks)) (m_y5 : y5 ∈ L) (e_y5 : f y5 = .inl (g 0, 30, .inl v_seed)) (m_y7 : y7 ∈ L) (e_y7 : f y7 = .inl (g 0, 30, .inl v_contentMany)) (m_y13 : y13 ∈ L) (e_y13 : f y13 = .inl (g 0, 30, .inl v_restMany)) (m_y8 : y8 ∈ L) (e_y8 : f y8 = .inl (g 0, 122880, .inl v_row)) (hnd : [y, y0, y1, y2, y3, y4, y5, y6, y7, y8, y9, y10, y11, y12, y13, y15, y16, y17, y18, y19, y20, y21, y22].Nodup) (hI : ∀ j, j < 8 → v_inWorld j = 0) : cI l yX9_solve wsX9_solve { frames := 1, cells := 0, slots := 0, locals := 28 } D g [.ref y, .int w, .int sd] L f 0 0 (fun x _ _ => x = (if ¬ w < 0 ∧ ¬ 8 ≤ w then 0 else -1)) := by
  refine cI_of (cc := cX9_solve) (maxL := 12) (ret := (some .int)) (by decide) rfl (Nat.le_of_ble_eq_true rfl) ?_
  intro sz p e s m below meth c hx hb hr hml hts hown hlk hnm S ls hl
  have hl : lv_has ls 12 [(0, .ref y), (1, .int w), (2, .int sd)] := hl
  have in_X9 : ∀ w ∈ wsX90, w ∈ wsX9_solve := by decide +kernel
  refine lv_iload_n hx hb dX9_solve_0 rfl (lv_at hl 1 rfl) ?_
  refine q_si (As := [.int w]) (rest := []) ⟨hx, hb, hml, hown, hts⟩ (c_X9_isWorld l D g (w := w)) (va_cwS 1 hts gX9_solve_X9_isWorld rfl rfl rfl (by decide +kernel) ⟨Nat.le_of_ble_eq_true rfl, Nat.le_of_ble_eq_true rfl⟩) S rfl hl.1 rfl (Nat.le_of_ble_eq_true rfl) dX9_solve_1 ⟨Nat.le_of_ble_eq_true rfl, Nat.le_of_ble_eq_true rfl⟩ (fun r3 L1 f2 H locs S w1 => ?_)
  obtain ⟨exw1, eLw1, efw1⟩ := w1
  rw [eLw1, efw1] at S
  by_cases hw1 : ¬ w < 0 ∧ ¬ 8 ≤ w
  · skip
    rw [if_pos hw1] at exw1
    subst exw1
    obtain ⟨j1, hj1, ej1⟩ := pu_of (n := 8) hw1.1 hw1.2 (by decide)
    have p1 : vp_in w 8 := by rw [ej1]; exact vp_in_nI hj1 (by decide)
    have z1 : v_inWorld (w : Int32).toNatClampNeg = 0 := by rw [ej1, nI_clamp (by omega)]; exact hI _ hj1
    refine lv_if_ne (tgt := 9) hx hb dX9_solve_4 (by decide) (fun b4 => ?_) (fun b4 => absurd b4 (by decide))
    refine lv_aload_n hx hb dX9_solve_9 rfl (lv_at hl 0 rfl) ?_
    refine q_get hx hb hts in_X9 hown S m_y e_y (C := RX9) (T := TX9) (N := 23) rfl 1 (by decide) rfl (hts (.fieldLink RX9 13 "SieveCabinetModel" "inWorld" "[I") (by decide +kernel)) dX9_solve_10 ?_
    refine lv_iload_n hx hb dX9_solve_13 rfl (lv_at hl 1 rfl) ?_
    refine q_iald hx hb S m_y1 e_y1 (p1) dX9_solve_14 ?_
    rw [show v_inWorld (w : Int32).toNatClampNeg = 0 from z1]
    refine lv_istore_n (lv' := [(3, .int 0), (0, .ref y), (1, .int w), (2, .int sd)]) hx hb dX9_solve_15 rfl hl (by decide) rfl (fun ls hl => ?_)
    refine lv_iload_n hx hb dX9_solve_16 rfl (lv_at hl 0 rfl) ?_
    refine lv_iload_n hx hb dX9_solve_17 rfl (lv_at hl 0 rfl) ?_
    refine lv_iconst (v := 4) hx hb dX9_solve_18 (by decide) ?_
    refine lv_idiv hx hb dX9_solve_19 (by decide) ?_
    refine lv_topi (fun t_ et_ => ?_)
    obtain rfl : t_ = 0 := et_.trans (by decide)
    refine lv_iadd hx hb dX9_solve_20 ?_
    refine lv_topi (fun t_ et_ => ?_)
    obtain rfl : t_ = 0 := et_.trans (by decide)
    refine lv_bipush (v := 8) hx hb dX9_solve_21 (by decide) ?_
    refine lv_iadd hx hb dX9_solve_23 ?_
    refine lv_topi (fun t_ et_ => ?_)
    obtain rfl : t_ = 8 := et_.trans (by decide)
    refine lv_istore (lv' := [(4, .int 8), (3, .int 0), (0, .ref y), (1, .int w), (2, .int sd)]) hx hb dX9_solve_24 hl (by decide) rfl (fun ls hl => ?_)
    refine lv_iconst (v := -1) hx hb dX9_solve_26 (by decide) ?_
    refine lv_istore (lv' := [(5, .int ((-1))), (4, .int 8), (3, .int 0), (0, .ref y), (1, .int w), (2, .int sd)]) hx hb dX9_solve_27 hl (by decide) rfl (fun ls hl => ?_)
    refine lv_iconst (v := 0) hx hb dX9_solve_29 (by decide) ?_
    refine lv_istore (lv' := [(6, .int 0), (5, .int ((-1))), (4, .int 8), (3, .int 0), (0, .ref y), (1, .int w), (2, .int sd)]) hx hb dX9_solve_30 hl (by decide) rfl (fun ls hl => ?_)
    refine lv_iload hx hb dX9_solve_32 (lv_at hl 0 rfl) ?_
    refine lv_bipush (v := 50) hx hb dX9_solve_34 (by decide) ?_
    refine lv_icmp_ge (tgt := 72) hx hb dX9_solve_36 (by decide) (fun b36 => absurd b36 (by decide)) (fun b36 => ?_)
    refine lv_iload hx hb dX9_solve_39 (lv_at hl 1 rfl) ?_
    refine lv_if_ge (tgt := 72) hx hb dX9_solve_41 (by decide) (fun b41 => absurd b41 (by decide)) (fun b41 => ?_)
    refine lv_aload_n hx hb dX9_solve_44 rfl (lv_at hl 4 rfl) ?_
    refine lv_iload_n hx hb dX9_solve_45 rfl (lv_at hl 5 rfl) ?_
    refine lv_iload_n hx hb dX9_solve_46 rfl (lv_at hl 6 rfl) ?_
    refine lv_iload hx hb dX9_solve_47 (lv_at hl 0 rfl) ?_
    refine lv_iadd hx hb dX9_solve_49 ?_
    refine lv_iload hx hb dX9_solve_50 (lv_at hl 2 rfl) ?_
    refine q_vi (As := [.int w, .int ((sd + 0)), .int 8]) (rest := []) ⟨hx, hb, hml, hown, hts⟩ (c_X9_takeOff0 l D g m_y e_y m_y1 e_y1 m_y21 e_y21 hnd p1 z1) (cwV 3 hts gX9_solve_X9_takeOff rfl rfl rfl (by decide +kernel) ⟨Nat.le_of_ble_eq_true rfl, Nat.le_of_ble_eq_true rfl⟩) S m_y e_y (T := TX9) (N := 23) rfl rfl hl.1 rfl (Nat.le_of_ble_eq_true rfl) dX9_solve_52 ⟨Nat.le_of_ble_eq_true rfl, Nat.le_of_ble_eq_true rfl⟩ (fun r6 L4 f5 H locs S w52 => ?_)
    obtain ⟨exw52, eLw52, fvw52, w_alone, e_y21⟩ := w52
    rw [eLw52] at S
    subst exw52
    have e_y : f5 y = .inr (7, [.ref y0, .ref y1, .ref y2, .ref y3, .ref y4, .ref y5, .ref y6, .ref y7, .ref y8, .ref y9, .ref y10, .ref y11, .ref y12, .ref y13, .int 0, .ref y15, .ref y16, .ref y17, .ref y18, .ref y19, .ref y20, .ref y21, .ref y22]) := (fvw52 y m_y (nd_ne hnd (i := 21) (j := 0) rfl rfl (by decide))).trans e_y
    have e_y1 : f5 y1 = .inl (g 0, 8, .inl v_inWorld) := (fvw52 y1 m_y1 (nd_ne hnd (i := 21) (j := 2) rfl rfl (by decide))).trans e_y1
    have e_y2 : f5 y2 = .inl (g 0, 30, .inl v_kind) := (fvw52 y2 m_y2 (nd_ne hnd (i := 21) (j := 3) rfl rfl (by decide))).trans e_y2
    have e_y3 : f5 y3 = .inl (g 0, 30, .inl v_size) := (fvw52 y3 m_y3 (nd_ne hnd (i := 21) (j := 4) rfl rfl (by decide))).trans e_y3
    have e_y4 : f5 y4 = .inl (g 0, 30, .inl v_marks) := (fvw52 y4 m_y4 (nd_ne hnd (i := 21) (j := 5) rfl rfl (by decide))).trans e_y4
    have e_y5 : f5 y5 = .inl (g 0, 30, .inl v_seed) := (fvw52 y5 m_y5 (nd_ne hnd (i := 21) (j := 6) rfl rfl (by decide))).trans e_y5
    have e_y7 : f5 y7 = .inl (g 0, 30, .inl v_contentMany) := (fvw52 y7 m_y7 (nd_ne hnd (i := 21) (j := 8) rfl rfl (by decide))).trans e_y7
    have e_y13 : f5 y13 = .inl (g 0, 30, .inl v_restMany) := (fvw52 y13 m_y13 (nd_ne hnd (i := 21) (j := 14) rfl rfl (by decide))).trans e_y13
    have e_y8 : f5 y8 = .inl (g 0, 122880, .inl v_row) := (fvw52 y8 m_y8 (nd_ne hnd (i := 21) (j := 9) rfl rfl (by decide))).trans e_y8
    refine lv_if_eq (tgt := 63) hx hb dX9_solve_55 (by decide) (fun b55 => absurd b55 (by decide)) (fun b55 => ?_)
    refine lv_iload hx hb dX9_solve_58 (lv_at hl 0 rfl) ?_
    refine lv_goto (tgt := 64) hx hb dX9_solve_60 (by decide) ?_
    refine lv_istore (lv' := [(5, .int 0), (6, .int 0), (4, .int 8), (3, .int 0), (0, .ref y), (1, .int w), (2, .int sd)]) hx hb dX9_solve_64 hl (by decide) rfl (fun ls hl => ?_)
    obtain ⟨i1, ei1⟩ : ∃ y : Int32, y = 0 + (1) := ⟨_, rfl⟩
    refine lv_iinc (v := i1) (lv' := [(6, .int i1), (5, .int 0), (4, .int 8), (3, .int 0), (0, .ref y), (1, .int w), (2, .int sd)]) hx hb dX9_solve_66 hl (k := 1) rfl (by rw [ei1]; rfl) (by decide) rfl (fun ls hl => ?_)
    refine lv_goto (tgt := 32) hx hb dX9_solve_69 (by decide) ?_
    refine lv_iload hx hb dX9_solve_32 (lv_at hl 0 rfl) ?_
    refine lv_bipush (v := 50) hx hb dX9_solve_34 (by decide) ?_
    refine lv_icmp_ge (tgt := 72) hx hb dX9_solve_36 (by decide) (fun b36 => absurd b36 (by rw [ei1]; decide)) (fun b36 => ?_)
    refine lv_iload hx hb dX9_solve_39 (lv_at hl 1 rfl) ?_
    refine lv_if_ge (tgt := 72) hx hb dX9_solve_41 (by decide) (fun b41 => ?_) (fun b41 => absurd (by decide) b41)
    refine lv_iload hx hb dX9_solve_72 (lv_at hl 1 rfl) ?_
    refine lv_if_ge (tgt := 80) hx hb dX9_solve_74 (by decide) (fun b74 => ?_) (fun b74 => absurd (by decide) b74)
    refine lv_aload_n hx hb dX9_solve_80 rfl (lv_at hl 4 rfl) ?_
    refine q_get hx hb hts in_X9 hown S m_y e_y (C := RX9) (T := TX9) (N := 23) rfl 14 (by decide) rfl (hts (.fieldLink RX9 88 "SieveCabinetModel" "many" "I") (by decide +kernel)) dX9_solve_81 ?_
    refine lv_bipush (v := 30) hx hb dX9_solve_84 (by decide) ?_
    refine lv_icmp_ne (tgt := 92) hx hb dX9_solve_86 (by decide) (fun b86 => ?_) (fun b86 => absurd b86 (by decide))
    refine lv_aload_n hx hb dX9_solve_92 rfl (lv_at hl 4 rfl) ?_
    refine lv_iconst (v := 3) hx hb dX9_solve_93 (by decide) ?_
    refine lv_iload hx hb dX9_solve_94 (lv_at hl 2 rfl) ?_
    refine lv_iconst (v := 0) hx hb dX9_solve_96 (by decide) ?_
    refine lv_iload_n hx hb dX9_solve_97 rfl (lv_at hl 6 rfl) ?_
    refine lv_iload hx hb dX9_solve_98 (lv_at hl 1 rfl) ?_
    refine lv_iadd hx hb dX9_solve_100 ?_
    refine q_vi (As := [.int 3, .int 8, .int 0, .int ((sd + 0))]) (rest := []) ⟨hx, hb, hml, hown, hts⟩ (c_X9_begin0 l D g m_y e_y m_y2 e_y2 m_y3 e_y3 m_y4 e_y4 m_y5 e_y5 m_y7 e_y7 m_y13 e_y13 m_y8 e_y8 hnd) (cwV 4 hts gX9_solve_X9_begin rfl rfl rfl (by decide +kernel) ⟨Nat.le_of_ble_eq_true rfl, Nat.le_of_ble_eq_true rfl⟩) S m_y e_y (T := TX9) (N := 23) rfl rfl hl.1 rfl (Nat.le_of_ble_eq_true rfl) dX9_solve_101 ⟨Nat.le_of_ble_eq_true rfl, Nat.le_of_ble_eq_true rfl⟩ (fun r9 L7 f8 H locs S w101 => ?_)
    obtain ⟨exw101, eLw101, fvw101, e_y, w_kind, w_size, w_marks, w_seed, w_contentMany, w_restMany, w_row, e_y2, e_y3, e_y4, e_y5, e_y7, e_y13, e_y8⟩ := w101
    rw [eLw101] at S
    subst exw101
    have e_y1 : f8 y1 = .inl (g 0, 8, .inl v_inWorld) := (fvw101 y1 m_y1 (nd_ne hnd (i := 0) (j := 2) rfl rfl (by decide)) (nd_ne hnd (i := 3) (j := 2) rfl rfl (by decide)) (nd_ne hnd (i := 4) (j := 2) rfl rfl (by decide)) (nd_ne hnd (i := 5) (j := 2) rfl rfl (by decide)) (nd_ne hnd (i := 6) (j := 2) rfl rfl (by decide)) (nd_ne hnd (i := 8) (j := 2) rfl rfl (by decide)) (nd_ne hnd (i := 14) (j := 2) rfl rfl (by decide)) (nd_ne hnd (i := 9) (j := 2) rfl rfl (by decide))).trans e_y1
    have e_y21 : f8 y21 = .inl (g 0, 4096, .inl w_alone) := (fvw101 y21 m_y21 (nd_ne hnd (i := 0) (j := 21) rfl rfl (by decide)) (nd_ne hnd (i := 3) (j := 21) rfl rfl (by decide)) (nd_ne hnd (i := 4) (j := 21) rfl rfl (by decide)) (nd_ne hnd (i := 5) (j := 21) rfl rfl (by decide)) (nd_ne hnd (i := 6) (j := 21) rfl rfl (by decide)) (nd_ne hnd (i := 8) (j := 21) rfl rfl (by decide)) (nd_ne hnd (i := 14) (j := 21) rfl rfl (by decide)) (nd_ne hnd (i := 9) (j := 21) rfl rfl (by decide))).trans e_y21
    refine lv_istore (lv' := [(6, .int 0), (5, .int 0), (4, .int 8), (3, .int 0), (0, .ref y), (1, .int w), (2, .int sd)]) hx hb dX9_solve_104 hl (by decide) rfl (fun ls hl => ?_)
    refine lv_iload_n hx hb dX9_solve_106 rfl (lv_at hl 3 rfl) ?_
    refine lv_iconst (v := 1) hx hb dX9_solve_107 (by decide) ?_
    refine lv_isub hx hb dX9_solve_108 ?_
    refine lv_topi (fun t_ et_ => ?_)
    obtain rfl : t_ = (-1) := et_.trans (by decide)
    refine lv_istore (lv' := [(7, .int ((-1))), (6, .int 0), (5, .int 0), (4, .int 8), (3, .int 0), (0, .ref y), (1, .int w), (2, .int sd)]) hx hb dX9_solve_109 hl (by decide) rfl (fun ls hl => ?_)
    refine lv_iload hx hb dX9_solve_111 (lv_at hl 0 rfl) ?_
    refine lv_if_lt (tgt := 218) hx hb dX9_solve_113 (by decide) (fun b113 => ?_) (fun b113 => absurd (by decide) b113)
    refine lv_aload_n hx hb dX9_solve_218 rfl (lv_at hl 5 rfl) ?_
    refine lv_iload hx hb dX9_solve_219 (lv_at hl 1 rfl) ?_
    refine lv_iload_n hx hb dX9_solve_221 rfl (lv_at hl 6 rfl) ?_
    refine q_vv (As := [.int 0, .int w]) (rest := []) ⟨hx, hb, hml, hown, hts⟩ (c_X9_fillFrom0 l D g m_y e_y m_y1 e_y1 m_y7 e_y7 hnd p1 z1) (cwV 2 hts gX9_solve_X9_fillFrom rfl rfl rfl (by decide +kernel) ⟨Nat.le_of_ble_eq_true rfl, Nat.le_of_ble_eq_true rfl⟩) S m_y e_y (T := TX9) (N := 23) rfl rfl hl.1 rfl (Nat.le_of_ble_eq_true rfl) dX9_solve_222 ⟨Nat.le_of_ble_eq_true rfl, Nat.le_of_ble_eq_true rfl⟩ (fun L10 f11 H locs S w222 => ?_)
    obtain ⟨eLw222, fvw222, w_cm, e_y7⟩ := w222
    rw [eLw222] at S
    have e_y : f11 y = .inr (7, [.ref y0, .ref y1, .ref y2, .ref y3, .ref y4, .ref y5, .ref y6, .ref y7, .ref y8, .ref y9, .ref y10, .ref y11, .ref y12, .ref y13, .int ((0 + 1)), .ref y15, .ref y16, .ref y17, .ref y18, .ref y19, .ref y20, .ref y21, .ref y22]) := (fvw222 y m_y (nd_ne hnd (i := 8) (j := 0) rfl rfl (by decide))).trans e_y
    have e_y1 : f11 y1 = .inl (g 0, 8, .inl v_inWorld) := (fvw222 y1 m_y1 (nd_ne hnd (i := 8) (j := 2) rfl rfl (by decide))).trans e_y1
    have e_y21 : f11 y21 = .inl (g 0, 4096, .inl w_alone) := (fvw222 y21 m_y21 (nd_ne hnd (i := 8) (j := 21) rfl rfl (by decide))).trans e_y21
    have e_y2 : f11 y2 = .inl (g 0, 30, .inl w_kind) := (fvw222 y2 m_y2 (nd_ne hnd (i := 8) (j := 3) rfl rfl (by decide))).trans e_y2
    have e_y3 : f11 y3 = .inl (g 0, 30, .inl w_size) := (fvw222 y3 m_y3 (nd_ne hnd (i := 8) (j := 4) rfl rfl (by decide))).trans e_y3
    have e_y4 : f11 y4 = .inl (g 0, 30, .inl w_marks) := (fvw222 y4 m_y4 (nd_ne hnd (i := 8) (j := 5) rfl rfl (by decide))).trans e_y4
    have e_y5 : f11 y5 = .inl (g 0, 30, .inl w_seed) := (fvw222 y5 m_y5 (nd_ne hnd (i := 8) (j := 6) rfl rfl (by decide))).trans e_y5
    have e_y13 : f11 y13 = .inl (g 0, 30, .inl w_restMany) := (fvw222 y13 m_y13 (nd_ne hnd (i := 8) (j := 14) rfl rfl (by decide))).trans e_y13
    have e_y8 : f11 y8 = .inl (g 0, 122880, .inl w_row) := (fvw222 y8 m_y8 (nd_ne hnd (i := 8) (j := 9) rfl rfl (by decide))).trans e_y8
    refine lv_iload hx hb dX9_solve_225 (lv_at hl 1 rfl) ?_
    exact q_reti (post := fun x _ _ => x = (if ¬ w < 0 ∧ ¬ 8 ≤ w then 0 else -1)) hx hb hr hlk S dX9_solve_227 (by decide) (by decide) ((if_pos hw1).symm)
  · skip
    rw [if_neg hw1] at exw1
    subst exw1
    refine lv_if_ne (tgt := 9) hx hb dX9_solve_4 (by decide) (fun b4 => absurd b4 (fun h => h rfl)) (fun b4 => ?_)
    refine lv_iconst (v := -1) hx hb dX9_solve_7 (by decide) ?_
    exact q_reti (post := fun x _ _ => x = (if ¬ w < 0 ∧ ¬ 8 ≤ w then 0 else -1)) hx hb hr hlk S dX9_solve_8 (by decide) (by decide) ((if_neg hw1).symm)
