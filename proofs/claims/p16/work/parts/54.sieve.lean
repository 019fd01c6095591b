def mX6_isOpen (kd : Int32) : Option (Int32) := if kd = 0 then (some (1 : Int32)) else (if kd = (1 : Int32) then (some (1 : Int32)) else (if kd = (2 : Int32) then (some (1 : Int32)) else (some (0 : Int32))))
set_option maxRecDepth 20000 in
theorem gu_wsX6_isOpen_2 : ∀ w ∈ wsX60, w ∈ wsX6_isOpen := fun _ h => List.mem_cons_of_mem _ (List.mem_append_right _ h)
set_option maxRecDepth 20000 in
theorem gu_wsX6_isOpen_1 : ∀ w ∈ ([Cond.fieldLink RX6 22 "SieveCabinet$Sieve" "kind" "I"] : List Cond), w ∈ wsX6_isOpen := fun _ h => List.mem_cons_of_mem _ (List.mem_append_left _ h)
set_option maxHeartbeats 4000000 in
set_option maxRecDepth 100000 in
theorem k_X6_isOpen (l : Launch) (D : va_G) (g : Nat → ClassId) {L : List Nat} {f : Nat → va_E} {ce co h : Nat} {lay : Value} {kd : Int32} {sz : Int32} {mk : Int32} {sd : Int32} {z : Int32} (m_h : h ∈ L) (e_h : f h = .inr (4, [.ref ce, .ref co, lay, .int kd, .int sz, .int mk, .int sd]))    (hM : mX6_isOpen kd = some z) : cI l yX6_isOpen wsX6_isOpen { frames := 0, cells := 0, slots := 0, locals := 0 } D g [.ref h] L f 0 0 (fun x L1 f1 => x = z ∧ L1 = L ∧ f1 = f) := by
  refine cI_of (cc := cX6_isOpen) (maxL := 1) (ret := (some .boolean)) (by decide) rfl (Nat.le_of_ble_eq_true rfl) ?_
  intro szz p e s m below meth c hx hb hr hml hts hown hlk hnm S ls hl
  have hl : lv_has ls 1 [(0, .ref h)] := hl
  have in_X6 : ∀ w ∈ wsX60, w ∈ wsX6_isOpen := gu_wsX6_isOpen_2
  unfold mX6_isOpen at hM
  refine W_gen (fun QQ hQQ => ?_)
  refine lv_aload_n hx hb dX6_isOpen_0 rfl (lv_at hl 0 rfl) ?_
  refine q_get hx hb hts in_X6 hown S m_h e_h (C := RX6) (T := TX6) (N := 7) rfl 3 (by decide) rfl (hts (.fieldLink RX6 22 "SieveCabinet$Sieve" "kind" "I") (gu_wsX6_isOpen_1 _ gm_0)) dX6_isOpen_1 ?_
  refine lv_if_eq (tgt := 23) hx hb dX6_isOpen_4 (by decide) (fun b4 => ?_) (fun b4 => ?_)
  · have hM := itT b4 hM
    refine lv_iconst (v := (1 : Int32)) hx hb dX6_isOpen_23 (by decide) ?_
    refine lv_goto (tgt := 28) hx hb dX6_isOpen_24 (by decide) ?_
    subst hQQ
    exact q_retz (post := fun x L1 f1 => x = z ∧ L1 = L ∧ f1 = f) hx hb hr hlk S dX6_isOpen_28 (by decide) (by decide) (by decide) (by have hz := Option.some.inj hM; subst hz; exact ⟨rfl, rfl, rfl⟩)
  · have hM := itF b4 hM
    refine lv_aload_n hx hb dX6_isOpen_7 rfl (lv_at hl 0 rfl) ?_
    refine q_get hx hb hts in_X6 hown S m_h e_h (C := RX6) (T := TX6) (N := 7) rfl 3 (by decide) rfl (hts (.fieldLink RX6 22 "SieveCabinet$Sieve" "kind" "I") (gu_wsX6_isOpen_1 _ gm_0)) dX6_isOpen_8 ?_
    refine lv_iconst (v := (1 : Int32)) hx hb dX6_isOpen_11 (by decide) ?_
    refine lv_icmp_eq (tgt := 23) hx hb dX6_isOpen_12 (by decide) (fun b12 => ?_) (fun b12 => ?_)
    · have hM := itT b12 hM
      refine lv_iconst (v := (1 : Int32)) hx hb dX6_isOpen_23 (by decide) ?_
      refine lv_goto (tgt := 28) hx hb dX6_isOpen_24 (by decide) ?_
      subst hQQ
      exact q_retz (post := fun x L1 f1 => x = z ∧ L1 = L ∧ f1 = f) hx hb hr hlk S dX6_isOpen_28 (by decide) (by decide) (by decide) (by have hz := Option.some.inj hM; subst hz; exact ⟨rfl, rfl, rfl⟩)
    · have hM := itF b12 hM
      refine lv_aload_n hx hb dX6_isOpen_15 rfl (lv_at hl 0 rfl) ?_
      refine q_get hx hb hts in_X6 hown S m_h e_h (C := RX6) (T := TX6) (N := 7) rfl 3 (by decide) rfl (hts (.fieldLink RX6 22 "SieveCabinet$Sieve" "kind" "I") (gu_wsX6_isOpen_1 _ gm_0)) dX6_isOpen_16 ?_
      refine lv_iconst (v := (2 : Int32)) hx hb dX6_isOpen_19 (by decide) ?_
      refine lv_icmp_ne (tgt := 27) hx hb dX6_isOpen_20 (by decide) (fun b20 => ?_) (fun b20 => ?_)
      · have hM := itF b20 hM
        refine lv_iconst (v := (0 : Int32)) hx hb dX6_isOpen_27 (by decide) ?_
        subst hQQ
        exact q_retz (post := fun x L1 f1 => x = z ∧ L1 = L ∧ f1 = f) hx hb hr hlk S dX6_isOpen_28 (by decide) (by decide) (by decide) (by have hz := Option.some.inj hM; subst hz; exact ⟨rfl, rfl, rfl⟩)
      · have hM := itT b20 hM
        refine lv_iconst (v := (1 : Int32)) hx hb dX6_isOpen_23 (by decide) ?_
        refine lv_goto (tgt := 28) hx hb dX6_isOpen_24 (by decide) ?_
        subst hQQ
        exact q_retz (post := fun x L1 f1 => x = z ∧ L1 = L ∧ f1 = f) hx hb hr hlk S dX6_isOpen_28 (by decide) (by decide) (by decide) (by have hz := Option.some.inj hM; subst hz; exact ⟨rfl, rfl, rfl⟩)

def mX6_places (kd : Int32) (sz : Int32) : Option (Int32) := if kd = (2 : Int32) then (some ((4 : Int32) * sz)) else (some sz)
set_option maxRecDepth 20000 in
theorem gu_wsX6_places_2 : ∀ w ∈ wsX60, w ∈ wsX6_places := fun _ h => List.mem_cons_of_mem _ (List.mem_append_right _ h)
set_option maxRecDepth 20000 in
theorem gu_wsX6_places_1 : ∀ w ∈ ([Cond.fieldLink RX6 22 "SieveCabinet$Sieve" "kind" "I", Cond.fieldLink RX6 26 "SieveCabinet$Sieve" "size" "I"] : List Cond), w ∈ wsX6_places := fun _ h => List.mem_cons_of_mem _ (List.mem_append_left _ h)
set_option maxHeartbeats 4000000 in
set_option maxRecDepth 100000 in
theorem k_X6_places (l : Launch) (D : va_G) (g : Nat → ClassId) {L : List Nat} {f : Nat → va_E} {ce co h : Nat} {lay : Value} {kd : Int32} {sz : Int32} {mk : Int32} {sd : Int32} {z : Int32} (m_h : h ∈ L) (e_h : f h = .inr (4, [.ref ce, .ref co, lay, .int kd, .int sz, .int mk, .int sd]))    (hM : mX6_places kd sz = some z) : cI l yX6_places wsX6_places { frames := 0, cells := 0, slots := 0, locals := 0 } D g [.ref h] L f 0 0 (fun x L1 f1 => x = z ∧ L1 = L ∧ f1 = f) := by
  refine cI_of (cc := cX6_places) (maxL := 1) (ret := (some .int)) (by decide) rfl (Nat.le_of_ble_eq_true rfl) ?_
  intro szz p e s m below meth c hx hb hr hml hts hown hlk hnm S ls hl
  have hl : lv_has ls 1 [(0, .ref h)] := hl
  have in_X6 : ∀ w ∈ wsX60, w ∈ wsX6_places := gu_wsX6_places_2
  unfold mX6_places at hM
  refine W_gen (fun QQ hQQ => ?_)
  refine lv_aload_n hx hb dX6_places_0 rfl (lv_at hl 0 rfl) ?_
  refine q_get hx hb hts in_X6 hown S m_h e_h (C := RX6) (T := TX6) (N := 7) rfl 3 (by decide) rfl (hts (.fieldLink RX6 22 "SieveCabinet$Sieve" "kind" "I") (gu_wsX6_places_1 _ gm_0)) dX6_places_1 ?_
  refine lv_iconst (v := (2 : Int32)) hx hb dX6_places_4 (by decide) ?_
  refine lv_icmp_ne (tgt := 17) hx hb dX6_places_5 (by decide) (fun b5 => ?_) (fun b5 => ?_)
  · have hM := itF b5 hM
    refine lv_aload_n hx hb dX6_places_17 rfl (lv_at hl 0 rfl) ?_
    refine q_get hx hb hts in_X6 hown S m_h e_h (C := RX6) (T := TX6) (N := 7) rfl 4 (by decide) rfl (hts (.fieldLink RX6 26 "SieveCabinet$Sieve" "size" "I") (gu_wsX6_places_1 _ gm_1)) dX6_places_18 ?_
    subst hQQ
    exact q_reti (post := fun x L1 f1 => x = z ∧ L1 = L ∧ f1 = f) hx hb hr hlk S dX6_places_21 (by decide) (by decide) (by have hz := Option.some.inj hM; subst hz; exact ⟨rfl, rfl, rfl⟩)
  · have hM := itT b5 hM
    refine lv_iconst (v := (4 : Int32)) hx hb dX6_places_8 (by decide) ?_
    refine lv_aload_n hx hb dX6_places_9 rfl (lv_at hl 0 rfl) ?_
    refine q_get hx hb hts in_X6 hown S m_h e_h (C := RX6) (T := TX6) (N := 7) rfl 4 (by decide) rfl (hts (.fieldLink RX6 26 "SieveCabinet$Sieve" "size" "I") (gu_wsX6_places_1 _ gm_1)) dX6_places_10 ?_
    refine lv_imul hx hb dX6_places_13 ?_
    refine lv_goto (tgt := 21) hx hb dX6_places_14 (by decide) ?_
    subst hQQ
    exact q_reti (post := fun x L1 f1 => x = z ∧ L1 = L ∧ f1 = f) hx hb hr hlk S dX6_places_21 (by decide) (by decide) (by have hz := Option.some.inj hM; subst hz; exact ⟨rfl, rfl, rfl⟩)

def mX6_cellAt (kc : Nat → Int32) (i : Int32) : Option (Int32) := if i < 0 then (some (0 : Int32)) else (if (4096 : Int32) ≤ i then (some (0 : Int32)) else (if ix i 4096 = true then (some (kc (Int32.toNatClampNeg i))) else none))
set_option maxRecDepth 20000 in
theorem gu_wsX6_cellAt_2 : ∀ w ∈ wsX60, w ∈ wsX6_cellAt := fun _ h => List.mem_cons_of_mem _ (List.mem_append_right _ h)
set_option maxRecDepth 20000 in
theorem gu_wsX6_cellAt_1 : ∀ w ∈ ([Cond.fieldLink RX6 9 "SieveCabinet$Sieve" "cells" "[I"] : List Cond), w ∈ wsX6_cellAt := fun _ h => List.mem_cons_of_mem _ (List.mem_append_left _ h)
set_option maxHeartbeats 4000000 in
set_option maxRecDepth 100000 in
theorem k_X6_cellAt (l : Launch) (D : va_G) (g : Nat → ClassId) {L : List Nat} {f : Nat → va_E} {ce co h : Nat} {lay : Value} {kd : Int32} {sz : Int32} {mk : Int32} {sd : Int32} {kc : Nat → Int32} {i : Int32} {z : Int32} (m_h : h ∈ L) (e_h : f h = .inr (4, [.ref ce, .ref co, lay, .int kd, .int sz, .int mk, .int sd])) (m_ce : ce ∈ L) (e_ce : f ce = .inl (g 0, 4096, .inl kc))    (hM : mX6_cellAt kc i = some z) : cI l yX6_cellAt wsX6_cellAt { frames := 0, cells := 0, slots := 0, locals := 0 } D g [.ref h, .int i] L f 0 0 (fun x L1 f1 => x = z ∧ L1 = L ∧ f1 = f) := by
  refine cI_of (cc := cX6_cellAt) (maxL := 2) (ret := (some .int)) (by decide) rfl (Nat.le_of_ble_eq_true rfl) ?_
  intro szz p e s m below meth c hx hb hr hml hts hown hlk hnm S ls hl
  have hl : lv_has ls 2 [(0, .ref h), (1, .int i)] := hl
  have in_X6 : ∀ w ∈ wsX60, w ∈ wsX6_cellAt := gu_wsX6_cellAt_2
  unfold mX6_cellAt at hM
  refine W_gen (fun QQ hQQ => ?_)
  refine lv_iload_n hx hb dX6_cellAt_0 rfl (lv_at hl 1 rfl) ?_
  refine lv_if_lt (tgt := 22) hx hb dX6_cellAt_1 (by decide) (fun b1 => ?_) (fun b1 => ?_)
  · have hM := itT b1 hM
    refine lv_iconst (v := (0 : Int32)) hx hb dX6_cellAt_22 (by decide) ?_
    subst hQQ
    exact q_reti (post := fun x L1 f1 => x = z ∧ L1 = L ∧ f1 = f) hx hb hr hlk S dX6_cellAt_23 (by decide) (by decide) (by have hz := Option.some.inj hM; subst hz; exact ⟨rfl, rfl, rfl⟩)
  · have hM := itF b1 hM
    refine lv_iload_n hx hb dX6_cellAt_4 rfl (lv_at hl 1 rfl) ?_
    refine lv_aload_n hx hb dX6_cellAt_5 rfl (lv_at hl 0 rfl) ?_
    refine q_get hx hb hts in_X6 hown S m_h e_h (C := RX6) (T := TX6) (N := 7) rfl 0 (by decide) rfl (hts (.fieldLink RX6 9 "SieveCabinet$Sieve" "cells" "[I") (gu_wsX6_cellAt_1 _ gm_0)) dX6_cellAt_6 ?_
    refine q_alen hx hb S m_ce 0 rfl e_ce (v := (4096 : Int32)) rfl dX6_cellAt_9 ?_
    refine lv_icmp_ge (tgt := 22) hx hb dX6_cellAt_10 (by decide) (fun b10 => ?_) (fun b10 => ?_)
    · have hM := itT b10 hM
      refine lv_iconst (v := (0 : Int32)) hx hb dX6_cellAt_22 (by decide) ?_
      subst hQQ
      exact q_reti (post := fun x L1 f1 => x = z ∧ L1 = L ∧ f1 = f) hx hb hr hlk S dX6_cellAt_23 (by decide) (by decide) (by have hz := Option.some.inj hM; subst hz; exact ⟨rfl, rfl, rfl⟩)
    · have hM := itF b10 hM
      refine lv_aload_n hx hb dX6_cellAt_13 rfl (lv_at hl 0 rfl) ?_
      refine q_get hx hb hts in_X6 hown S m_h e_h (C := RX6) (T := TX6) (N := 7) rfl 0 (by decide) rfl (hts (.fieldLink RX6 9 "SieveCabinet$Sieve" "cells" "[I") (gu_wsX6_cellAt_1 _ gm_0)) dX6_cellAt_14 ?_
      refine lv_iload_n hx hb dX6_cellAt_17 rfl (lv_at hl 1 rfl) ?_
      obtain ⟨hi18, hM⟩ := ckx hM
      refine q_iald hx hb S m_ce e_ce hi18 dX6_cellAt_18 ?_
      refine lv_goto (tgt := 23) hx hb dX6_cellAt_19 (by decide) ?_
      subst hQQ
      exact q_reti (post := fun x L1 f1 => x = z ∧ L1 = L ∧ f1 = f) hx hb hr hlk S dX6_cellAt_23 (by decide) (by decide) (by have hz := Option.some.inj hM; subst hz; exact ⟨rfl, rfl, rfl⟩)

def mX6_setCell (kc : Nat → Int32) (i : Int32) (val : Int32) : Option ((Nat → Int32)) := if i < 0 then (some kc) else (if (4096 : Int32) ≤ i then (some kc) else (if ix i 4096 = true then (some (upd kc (Int32.toNatClampNeg i) val)) else none))
set_option maxRecDepth 20000 in
theorem gu_wsX6_setCell_2 : ∀ w ∈ wsX60, w ∈ wsX6_setCell := fun _ h => List.mem_cons_of_mem _ (List.mem_append_right _ h)
set_option maxRecDepth 20000 in
theorem gu_wsX6_setCell_1 : ∀ w ∈ ([Cond.fieldLink RX6 9 "SieveCabinet$Sieve" "cells" "[I"] : List Cond), w ∈ wsX6_setCell := fun _ h => List.mem_cons_of_mem _ (List.mem_append_left _ h)
set_option maxHeartbeats 4000000 in
set_option maxRecDepth 100000 in
theorem k_X6_setCell (l : Launch) (D : va_G) (g : Nat → ClassId) {L : List Nat} {f : Nat → va_E} {ce co h : Nat} {lay : Value} {kd : Int32} {sz : Int32} {mk : Int32} {sd : Int32} {kc : Nat → Int32} {i : Int32} {val : Int32} {z : (Nat → Int32)} (m_h : h ∈ L) (e_h : f h = .inr (4, [.ref ce, .ref co, lay, .int kd, .int sz, .int mk, .int sd])) (m_ce : ce ∈ L) (e_ce : f ce = .inl (g 0, 4096, .inl kc))    (hM : mX6_setCell kc i val = some z) : cV l yX6_setCell wsX6_setCell { frames := 0, cells := 0, slots := 0, locals := 0 } D g [.ref h, .int i, .int val] L f 0 0 (fun L1 f1 => L1 = L ∧ (∀ b, b ∈ L → b ≠ ce → f1 b = f b) ∧ f1 ce = .inl (g 0, 4096, .inl z)) := by
  refine cV_of (cc := cX6_setCell) (maxL := 3) (ret := none) (by decide) rfl (Nat.le_of_ble_eq_true rfl) ?_
  intro szz p e s m below meth c hx hb hr hml hts hown hlk hnm S ls hl
  have hl : lv_has ls 3 [(0, .ref h), (1, .int i), (2, .int val)] := hl
  have in_X6 : ∀ w ∈ wsX60, w ∈ wsX6_setCell := gu_wsX6_setCell_2
  have fr : ∀ b, b ∈ L → b ≠ ce → f b = f b := fun _ _ _ => rfl
  unfold mX6_setCell at hM
  refine W_gen (fun QQ hQQ => ?_)
  refine lv_iload_n hx hb dX6_setCell_0 rfl (lv_at hl 1 rfl) ?_
  refine lv_if_lt (tgt := 20) hx hb dX6_setCell_1 (by decide) (fun b1 => ?_) (fun b1 => ?_)
  · have hM := itT b1 hM
    subst hQQ
    exact q_retv (post := fun L1 f1 => L1 = L ∧ (∀ b, b ∈ L → b ≠ ce → f1 b = f b) ∧ f1 ce = .inl (g 0, 4096, .inl z)) hx hb hr hlk S dX6_setCell_20 (by decide) (by decide) (by have hz := Option.some.inj hM; subst hz; exact ⟨rfl, fr, e_ce⟩)
  · have hM := itF b1 hM
    refine lv_iload_n hx hb dX6_setCell_4 rfl (lv_at hl 1 rfl) ?_
    refine lv_aload_n hx hb dX6_setCell_5 rfl (lv_at hl 0 rfl) ?_
    refine q_get hx hb hts in_X6 hown S m_h e_h (C := RX6) (T := TX6) (N := 7) rfl 0 (by decide) rfl (hts (.fieldLink RX6 9 "SieveCabinet$Sieve" "cells" "[I") (gu_wsX6_setCell_1 _ gm_0)) dX6_setCell_6 ?_
    refine q_alen hx hb S m_ce 0 rfl e_ce (v := (4096 : Int32)) rfl dX6_setCell_9 ?_
    refine lv_icmp_ge (tgt := 20) hx hb dX6_setCell_10 (by decide) (fun b10 => ?_) (fun b10 => ?_)
    · have hM := itT b10 hM
      subst hQQ
      exact q_retv (post := fun L1 f1 => L1 = L ∧ (∀ b, b ∈ L → b ≠ ce → f1 b = f b) ∧ f1 ce = .inl (g 0, 4096, .inl z)) hx hb hr hlk S dX6_setCell_20 (by decide) (by decide) (by have hz := Option.some.inj hM; subst hz; exact ⟨rfl, fr, e_ce⟩)
    · have hM := itF b10 hM
      refine lv_aload_n hx hb dX6_setCell_13 rfl (lv_at hl 0 rfl) ?_
      refine q_get hx hb hts in_X6 hown S m_h e_h (C := RX6) (T := TX6) (N := 7) rfl 0 (by decide) rfl (hts (.fieldLink RX6 9 "SieveCabinet$Sieve" "cells" "[I") (gu_wsX6_setCell_1 _ gm_0)) dX6_setCell_14 ?_
      refine lv_iload_n hx hb dX6_setCell_17 rfl (lv_at hl 1 rfl) ?_
      refine lv_iload_n hx hb dX6_setCell_18 rfl (lv_at hl 2 rfl) ?_
      obtain ⟨hi19, hM⟩ := ckx hM
      refine k_iast hx hb S m_ce e_ce hi19 dX6_setCell_19 (fun f1 ef1 H locs S => ?_)
      have e_ce := up_self ef1
      have fr : ∀ b, b ∈ L → b ≠ ce → f1 b = f b := fun b mb nb0 => (up_ne ef1 nb0 rfl).trans (fr b mb nb0)
      subst hQQ
      exact q_retv (post := fun L1 f1 => L1 = L ∧ (∀ b, b ∈ L → b ≠ ce → f1 b = f b) ∧ f1 ce = .inl (g 0, 4096, .inl z)) hx hb hr hlk S dX6_setCell_20 (by decide) (by decide) (by have hz := Option.some.inj hM; subst hz; exact ⟨rfl, fr, e_ce⟩)

def mX6_spots (kd : Int32) (mk : Int32) : Option (Int32) := if kd = (2 : Int32) then (some (2 : Int32)) else (if kd = (3 : Int32) then (some (3 : Int32)) else (some mk))
set_option maxRecDepth 20000 in
theorem gu_wsX6_spots_2 : ∀ w ∈ wsX60, w ∈ wsX6_spots := fun _ h => List.mem_cons_of_mem _ (List.mem_append_right _ h)
set_option maxRecDepth 20000 in
theorem gu_wsX6_spots_1 : ∀ w ∈ ([Cond.fieldLink RX6 22 "SieveCabinet$Sieve" "kind" "I", Cond.fieldLink RX6 29 "SieveCabinet$Sieve" "marks" "I"] : List Cond), w ∈ wsX6_spots := fun _ h => List.mem_cons_of_mem _ (List.mem_append_left _ h)
set_option maxHeartbeats 4000000 in
set_option maxRecDepth 100000 in
theorem k_X6_spots (l : Launch) (D : va_G) (g : Nat → ClassId) {L : List Nat} {f : Nat → va_E} {ce co h : Nat} {lay : Value} {kd : Int32} {sz : Int32} {mk : Int32} {sd : Int32} {z : Int32} (m_h : h ∈ L) (e_h : f h = .inr (4, [.ref ce, .ref co, lay, .int kd, .int sz, .int mk, .int sd]))    (hM : mX6_spots kd mk = some z) : cI l yX6_spots wsX6_spots { frames := 0, cells := 0, slots := 0, locals := 0 } D g [.ref h] L f 0 0 (fun x L1 f1 => x = z ∧ L1 = L ∧ f1 = f) := by
  refine cI_of (cc := cX6_spots) (maxL := 1) (ret := (some .int)) (by decide) rfl (Nat.le_of_ble_eq_true rfl) ?_
  intro szz p e s m below meth c hx hb hr hml hts hown hlk hnm S ls hl
  have hl : lv_has ls 1 [(0, .ref h)] := hl
  have in_X6 : ∀ w ∈ wsX60, w ∈ wsX6_spots := gu_wsX6_spots_2
  unfold mX6_spots at hM
  refine W_gen (fun QQ hQQ => ?_)
  refine lv_aload_n hx hb dX6_spots_0 rfl (lv_at hl 0 rfl) ?_
  refine q_get hx hb hts in_X6 hown S m_h e_h (C := RX6) (T := TX6) (N := 7) rfl 3 (by decide) rfl (hts (.fieldLink RX6 22 "SieveCabinet$Sieve" "kind" "I") (gu_wsX6_spots_1 _ gm_0)) dX6_spots_1 ?_
  by_cases w4_2 : kd = (2 : Int32)
  · have hM := itT w4_2 hM
    refine lv_lookup (off := 28) (tgt := 32) hx hb dX6_spots_4 (by decide) (by rw [w4_2]; rfl) (by decide) ?_
    refine lv_iconst (v := (2 : Int32)) hx hb dX6_spots_32 (by decide) ?_
    subst hQQ
    exact q_reti (post := fun x L1 f1 => x = z ∧ L1 = L ∧ f1 = f) hx hb hr hlk S dX6_spots_33 (by decide) (by decide) (by have hz := Option.some.inj hM; subst hz; exact ⟨rfl, rfl, rfl⟩)
  have hM := itF w4_2 hM
  by_cases w4_3 : kd = (3 : Int32)
  · have hM := itT w4_3 hM
    refine lv_lookup (off := 30) (tgt := 34) hx hb dX6_spots_4 (by decide) (by rw [w4_3]; rfl) (by decide) ?_
    refine lv_iconst (v := (3 : Int32)) hx hb dX6_spots_34 (by decide) ?_
    subst hQQ
    exact q_reti (post := fun x L1 f1 => x = z ∧ L1 = L ∧ f1 = f) hx hb hr hlk S dX6_spots_35 (by decide) (by decide) (by have hz := Option.some.inj hM; subst hz; exact ⟨rfl, rfl, rfl⟩)
  have hM := itF w4_3 hM
  refine lv_lookup (off := 32) (tgt := 36) hx hb dX6_spots_4 (by decide) (by show Op.lookupswitch.offset [(2, 28), (3, 30)] 32 (Int32.toInt kd) = _; rw [lv_osw (a := 2) w4_2 rfl, lv_osw (a := 3) w4_3 rfl]; rfl) (by decide) ?_
  refine lv_aload_n hx hb dX6_spots_36 rfl (lv_at hl 0 rfl) ?_
  refine q_get hx hb hts in_X6 hown S m_h e_h (C := RX6) (T := TX6) (N := 7) rfl 5 (by decide) rfl (hts (.fieldLink RX6 29 "SieveCabinet$Sieve" "marks" "I") (gu_wsX6_spots_1 _ gm_1)) dX6_spots_37 ?_
  subst hQQ
  exact q_reti (post := fun x L1 f1 => x = z ∧ L1 = L ∧ f1 = f) hx hb hr hlk S dX6_spots_40 (by decide) (by decide) (by have hz := Option.some.inj hM; subst hz; exact ⟨rfl, rfl, rfl⟩)

def mX6_begin (kc : Nat → Int32) (k0 : Int32) (k1 : Int32) (k2 : Int32) (k3 : Int32) : Option (Int32 × Int32 × Int32 × Int32 × (Nat → Int32) × Int32) := (mX0_empty).bind fun z25 => (mJ7_fill_53178 4096 kc (0 : Int32)).bind fun z33 => some (k0, k1, k2, k3, z33, z25)
set_option maxRecDepth 20000 in
theorem gu_wsX6_begin_2 : ∀ w ∈ wsX60, w ∈ wsX6_begin := fun _ h => List.mem_cons_of_mem _ (List.mem_append_left _ (List.mem_append_right _ h))
set_option maxHeartbeats 4000000 in
set_option maxRecDepth 100000 in
theorem k_X6_begin (l : Launch) (D : va_G) (g : Nat → ClassId) {L : List Nat} {f : Nat → va_E} {ce co cr h : Nat} {lay : Value} {kd : Int32} {sz : Int32} {mk : Int32} {sd : Int32} {kc : Nat → Int32} {n : Int32} {k0 : Int32} {k1 : Int32} {k2 : Int32} {k3 : Int32} {z : Int32 × Int32 × Int32 × Int32 × (Nat → Int32) × Int32} (m_h : h ∈ L) (e_h : f h = .inr (4, [.ref ce, .ref co, lay, .int kd, .int sz, .int mk, .int sd])) (m_ce : ce ∈ L) (e_ce : f ce = .inl (g 0, 4096, .inl kc)) (m_co : co ∈ L) (e_co : f co = .inr (0, [.ref cr, .int n]))    (hM : mX6_begin kc k0 k1 k2 k3 = some z) : cV l yX6_begin wsX6_begin { frames := 1, cells := 0, slots := 0, locals := 23 } D g [.ref h, .int k0, .int k1, .int k2, .int k3] L f 0 0 (fun L1 f1 => L1 = L ∧ (∀ b, b ∈ L → b ≠ h → b ≠ ce → b ≠ co → f1 b = f b) ∧ f1 h = .inr (4, [.ref ce, .ref co, lay, .int z.1, .int z.2.1, .int z.2.2.1, .int z.2.2.2.1]) ∧ f1 ce = .inl (g 0, 4096, .inl z.2.2.2.2.1) ∧ f1 co = .inr (0, [.ref cr, .int z.2.2.2.2.2])) := by
  refine cV_of (cc := cX6_begin) (maxL := 5) (ret := none) (by decide) rfl (Nat.le_of_ble_eq_true rfl) ?_
  intro szz p e s m below meth c hx hb hr hml hts hown hlk hnm S ls hl
  have hl : lv_has ls 5 [(0, .ref h), (1, .int k0), (2, .int k1), (3, .int k2), (4, .int k3)] := hl
  have in_X6 : ∀ w ∈ wsX60, w ∈ wsX6_begin := gu_wsX6_begin_2
  have n_co_h : co ≠ h := ne_rr e_h e_co (by decide)
  have n_h_co : h ≠ co := ne_rr e_co e_h (by decide)
  have n_ce_h : ce ≠ h := ne_ri e_h e_ce
  have n_ce_co : ce ≠ co := ne_ri e_co e_ce
  have n_h_ce : h ≠ ce := ne_ir e_ce e_h
  have n_co_ce : co ≠ ce := ne_ir e_ce e_co
  have fr : ∀ b, b ∈ L → b ≠ h → b ≠ ce → b ≠ co → f b = f b := fun _ _ _ _ _ => rfl
  unfold mX6_begin at hM
  refine W_gen (fun QQ hQQ => ?_)
  refine lv_aload_n hx hb dX6_begin_0 rfl (lv_at hl 0 rfl) ?_
  refine lv_iload_n hx hb dX6_begin_1 rfl (lv_at hl 1 rfl) ?_
  refine k_put hx hb hts in_X6 tyX6 tyX6_ok nmX6 hown S m_h e_h (C := RX6) (T := TX6) (N := 7) rfl 3 (by decide) (hts (.fieldLink RX6 22 "SieveCabinet$Sieve" "kind" "I") (gu_wsX6_begin_1 _ gm_0)) rfl rfl rfl (Nat.le_of_ble_eq_true rfl) dX6_begin_2 (fun f1 ef1 H locs S => ?_)
  have e_h : f1 h = .inr (4, [.ref ce, .ref co, lay, .int k0, .int sz, .int mk, .int sd]) := up_self ef1
  have fr : ∀ b, b ∈ L → b ≠ h → b ≠ ce → b ≠ co → f1 b = f b := fun b mb nb0 nb1 nb2 => (up_ne ef1 nb0 rfl).trans (fr b mb nb0 nb1 nb2)
  refine lv_aload_n hx hb dX6_begin_5 rfl (lv_at hl 0 rfl) ?_
  refine lv_iload_n hx hb dX6_begin_6 rfl (lv_at hl 2 rfl) ?_
  refine k_put hx hb hts in_X6 tyX6 tyX6_ok nmX6 hown S m_h e_h (C := RX6) (T := TX6) (N := 7) rfl 4 (by decide) (hts (.fieldLink RX6 26 "SieveCabinet$Sieve" "size" "I") (gu_wsX6_begin_1 _ gm_1)) rfl rfl rfl (Nat.le_of_ble_eq_true rfl) dX6_begin_7 (fun f2 ef2 H locs S => ?_)
  have e_h : f2 h = .inr (4, [.ref ce, .ref co, lay, .int k0, .int k1, .int mk, .int sd]) := up_self ef2
  have fr : ∀ b, b ∈ L → b ≠ h → b ≠ ce → b ≠ co → f2 b = f b := fun b mb nb0 nb1 nb2 => (up_ne ef2 nb0 rfl).trans (fr b mb nb0 nb1 nb2)
  refine lv_aload_n hx hb dX6_begin_10 rfl (lv_at hl 0 rfl) ?_
  refine lv_iload_n hx hb dX6_begin_11 rfl (lv_at hl 3 rfl) ?_
  refine k_put hx hb hts in_X6 tyX6 tyX6_ok nmX6 hown S m_h e_h (C := RX6) (T := TX6) (N := 7) rfl 5 (by decide) (hts (.fieldLink RX6 29 "SieveCabinet$Sieve" "marks" "I") (gu_wsX6_begin_1 _ gm_2)) rfl rfl rfl (Nat.le_of_ble_eq_true rfl) dX6_begin_12 (fun f3 ef3 H locs S => ?_)
  have e_h : f3 h = .inr (4, [.ref ce, .ref co, lay, .int k0, .int k1, .int k2, .int sd]) := up_self ef3
  have fr : ∀ b, b ∈ L → b ≠ h → b ≠ ce → b ≠ co → f3 b = f b := fun b mb nb0 nb1 nb2 => (up_ne ef3 nb0 rfl).trans (fr b mb nb0 nb1 nb2)
  refine lv_aload_n hx hb dX6_begin_15 rfl (lv_at hl 0 rfl) ?_
  refine lv_iload hx hb dX6_begin_16 (lv_at hl 4 rfl) ?_
  refine k_put hx hb hts in_X6 tyX6 tyX6_ok nmX6 hown S m_h e_h (C := RX6) (T := TX6) (N := 7) rfl 6 (by decide) (hts (.fieldLink RX6 32 "SieveCabinet$Sieve" "seed" "I") (gu_wsX6_begin_1 _ gm_3)) rfl rfl rfl (Nat.le_of_ble_eq_true rfl) dX6_begin_18 (fun f4 ef4 H locs S => ?_)
  have e_h : f4 h = .inr (4, [.ref ce, .ref co, lay, .int k0, .int k1, .int k2, .int k3]) := up_self ef4
  have fr : ∀ b, b ∈ L → b ≠ h → b ≠ ce → b ≠ co → f4 b = f b := fun b mb nb0 nb1 nb2 => (up_ne ef4 nb0 rfl).trans (fr b mb nb0 nb1 nb2)
  refine lv_aload_n hx hb dX6_begin_21 rfl (lv_at hl 0 rfl) ?_
  refine q_get hx hb hts in_X6 hown S m_h e_h (C := RX6) (T := TX6) (N := 7) rfl 1 (by decide) rfl (hts (.fieldLink RX6 18 "SieveCabinet$Sieve" "contents" "LSieveCabinet$Bag;") (gu_wsX6_begin_1 _ gm_4)) dX6_begin_22 ?_
  obtain ⟨z25, hz25, hM⟩ := bind_some hM
  have e_co := (up_ne ef4 n_co_h (up_ne ef3 n_co_h (up_ne ef2 n_co_h (up_ne ef1 n_co_h e_co))))
  refine q_vv (As := []) (rest := []) ⟨hx, hb, hml, hown, hts⟩ (k_X0_empty l D g m_co e_co hz25) (cwV 0 hts gX6_begin_X0_empty rfl rfl rfl (by decide +kernel) ⟨Nat.le_of_ble_eq_true rfl, Nat.le_of_ble_eq_true rfl⟩) S m_co e_co (T := TX0) (N := 2) rfl rfl hl.1 rfl (Nat.le_of_ble_eq_true rfl) dX6_begin_25 ⟨Nat.le_of_ble_eq_true rfl, Nat.le_of_ble_eq_true rfl⟩ (fun L5 f6 H locs S w25 => ?_)
  obtain ⟨eL, fv25, E_co⟩ := w25
  rw [eL] at S
  have fr : ∀ b, b ∈ L → b ≠ h → b ≠ ce → b ≠ co → f6 b = f b := fun b mb nb0 nb1 nb2 => (fv25 b mb nb2).trans (fr b mb nb0 nb1 nb2)
  have e_co : f6 co = .inr (0, [.ref cr, .int z25]) := E_co
  refine lv_aload_n hx hb dX6_begin_28 rfl (lv_at hl 0 rfl) ?_
  have e_h := ((fv25 h m_h n_h_co).trans e_h)
  refine q_get hx hb hts in_X6 hown S m_h e_h (C := RX6) (T := TX6) (N := 7) rfl 0 (by decide) rfl (hts (.fieldLink RX6 9 "SieveCabinet$Sieve" "cells" "[I") (gu_wsX6_begin_1 _ gm_5)) dX6_begin_29 ?_
  refine lv_iconst (v := (0 : Int32)) hx hb dX6_begin_32 (by decide) ?_
  obtain ⟨z33, hz33, hM⟩ := bind_some hM
  have e_ce := ((fv25 ce m_ce n_ce_co).trans (up_ne ef4 n_ce_h (up_ne ef3 n_ce_h (up_ne ef2 n_ce_h (up_ne ef1 n_ce_h e_ce)))))
  refine q_sv (As := [.ref ce, .int (0 : Int32)]) (rest := []) ⟨hx, hb, hml, hown, hts⟩ (k_J7_fill_53178 l D g m_ce e_ce hz33) (va_cwS 2 hts gX6_begin_J7_fill_53178 rfl rfl rfl (by decide +kernel) ⟨Nat.le_of_ble_eq_true rfl, Nat.le_of_ble_eq_true rfl⟩) S rfl hl.1 rfl (Nat.le_of_ble_eq_true rfl) dX6_begin_33 ⟨Nat.le_of_ble_eq_true rfl, Nat.le_of_ble_eq_true rfl⟩ (fun L8 f9 H locs S w33 => ?_)
  obtain ⟨eL, fv33, E_ce⟩ := w33
  rw [eL] at S
  have fr : ∀ b, b ∈ L → b ≠ h → b ≠ ce → b ≠ co → f9 b = f b := fun b mb nb0 nb1 nb2 => (fv33 b mb nb1).trans (fr b mb nb0 nb1 nb2)
  have e_ce : f9 ce = .inl (g 0, 4096, .inl z33) := E_ce
  have e_h := ((fv33 h m_h n_h_ce).trans e_h)
  have e_co := ((fv33 co m_co n_co_ce).trans e_co)
  subst hQQ
  exact q_retv (post := fun L1 f1 => L1 = L ∧ (∀ b, b ∈ L → b ≠ h → b ≠ ce → b ≠ co → f1 b = f b) ∧ f1 h = .inr (4, [.ref ce, .ref co, lay, .int z.1, .int z.2.1, .int z.2.2.1, .int z.2.2.2.1]) ∧ f1 ce = .inl (g 0, 4096, .inl z.2.2.2.2.1) ∧ f1 co = .inr (0, [.ref cr, .int z.2.2.2.2.2])) hx hb hr hlk S dX6_begin_36 (by decide) (by decide) (by have hz := Option.some.inj hM; subst hz; exact ⟨rfl, fr, e_h, e_ce, e_co⟩)

def mX6_isMarkedLike (kd : Int32) (sz : Int32) (mk : Int32) (sd : Int32) (bkd : Int32) (bsz : Int32) (bmk : Int32) (bsd : Int32) : Option (Int32) := if kd = 0 then (if bkd = 0 then (if sz = bsz then (if mk = bmk then (if sd = bsd then (some (1 : Int32)) else (some (0 : Int32))) else (some (0 : Int32))) else (some (0 : Int32))) else (some (0 : Int32))) else (some (0 : Int32))
set_option maxRecDepth 20000 in
theorem gu_wsX6_isMarkedLike_2 : ∀ w ∈ wsX60, w ∈ wsX6_isMarkedLike := fun _ h => List.mem_cons_of_mem _ (List.mem_append_right _ h)
set_option maxRecDepth 20000 in
theorem gu_wsX6_isMarkedLike_1 : ∀ w ∈ ([Cond.fieldLink RX6 22 "SieveCabinet$Sieve" "kind" "I", Cond.fieldLink RX6 26 "SieveCabinet$Sieve" "size" "I", Cond.fieldLink RX6 29 "SieveCabinet$Sieve" "marks" "I", Cond.fieldLink RX6 32 "SieveCabinet$Sieve" "seed" "I"] : List Cond), w ∈ wsX6_isMarkedLike := fun _ h => List.mem_cons_of_mem _ (List.mem_append_left _ h)
set_option maxHeartbeats 4000000 in
set_option maxRecDepth 100000 in
theorem k_X6_isMarkedLike (l : Launch) (D : va_G) (g : Nat → ClassId) {L : List Nat} {f : Nat → va_E} {bce bco bh ce co h : Nat} {lay : Value} {kd : Int32} {sz : Int32} {mk : Int32} {sd : Int32} {blay : Value} {bkd : Int32} {bsz : Int32} {bmk : Int32} {bsd : Int32} {z : Int32} (m_h : h ∈ L) (e_h : f h = .inr (4, [.ref ce, .ref co, lay, .int kd, .int sz, .int mk, .int sd])) (m_bh : bh ∈ L) (e_bh : f bh = .inr (4, [.ref bce, .ref bco, blay, .int bkd, .int bsz, .int bmk, .int bsd]))    (hM : mX6_isMarkedLike kd sz mk sd bkd bsz bmk bsd = some z) : cI l yX6_isMarkedLike wsX6_isMarkedLike { frames := 0, cells := 0, slots := 0, locals := 0 } D g [.ref h, .ref bh] L f 0 0 (fun x L1 f1 => x = z ∧ L1 = L ∧ f1 = f) := by
  refine cI_of (cc := cX6_isMarkedLike) (maxL := 2) (ret := (some .boolean)) (by decide) rfl (Nat.le_of_ble_eq_true rfl) ?_
  intro szz p e s m below meth c hx hb hr hml hts hown hlk hnm S ls hl
  have hl : lv_has ls 2 [(0, .ref h), (1, .ref bh)] := hl
  have in_X6 : ∀ w ∈ wsX60, w ∈ wsX6_isMarkedLike := gu_wsX6_isMarkedLike_2
  unfold mX6_isMarkedLike at hM
  refine W_gen (fun QQ hQQ => ?_)
  refine lv_aload_n hx hb dX6_isMarkedLike_0 rfl (lv_at hl 0 rfl) ?_
  refine q_get hx hb hts in_X6 hown S m_h e_h (C := RX6) (T := TX6) (N := 7) rfl 3 (by decide) rfl (hts (.fieldLink RX6 22 "SieveCabinet$Sieve" "kind" "I") (gu_wsX6_isMarkedLike_1 _ gm_0)) dX6_isMarkedLike_1 ?_
  refine lv_if_ne (tgt := 51) hx hb dX6_isMarkedLike_4 (by decide) (fun b4 => ?_) (fun b4 => ?_)
  · have hM := itF b4 hM
    refine lv_iconst (v := (0 : Int32)) hx hb dX6_isMarkedLike_51 (by decide) ?_
    subst hQQ
    exact q_retz (post := fun x L1 f1 => x = z ∧ L1 = L ∧ f1 = f) hx hb hr hlk S dX6_isMarkedLike_52 (by decide) (by decide) (by decide) (by have hz := Option.some.inj hM; subst hz; exact ⟨rfl, rfl, rfl⟩)
  · have hM := itT b4 hM
    refine lv_aload_n hx hb dX6_isMarkedLike_7 rfl (lv_at hl 1 rfl) ?_
    refine q_get hx hb hts in_X6 hown S m_bh e_bh (C := RX6) (T := TX6) (N := 7) rfl 3 (by decide) rfl (hts (.fieldLink RX6 22 "SieveCabinet$Sieve" "kind" "I") (gu_wsX6_isMarkedLike_1 _ gm_0)) dX6_isMarkedLike_8 ?_
    refine lv_if_ne (tgt := 51) hx hb dX6_isMarkedLike_11 (by decide) (fun b11 => ?_) (fun b11 => ?_)
    · have hM := itF b11 hM
      refine lv_iconst (v := (0 : Int32)) hx hb dX6_isMarkedLike_51 (by decide) ?_
      subst hQQ
      exact q_retz (post := fun x L1 f1 => x = z ∧ L1 = L ∧ f1 = f) hx hb hr hlk S dX6_isMarkedLike_52 (by decide) (by decide) (by decide) (by have hz := Option.some.inj hM; subst hz; exact ⟨rfl, rfl, rfl⟩)
    · have hM := itT b11 hM
      refine lv_aload_n hx hb dX6_isMarkedLike_14 rfl (lv_at hl 0 rfl) ?_
      refine q_get hx hb hts in_X6 hown S m_h e_h (C := RX6) (T := TX6) (N := 7) rfl 4 (by decide) rfl (hts (.fieldLink RX6 26 "SieveCabinet$Sieve" "size" "I") (gu_wsX6_isMarkedLike_1 _ gm_1)) dX6_isMarkedLike_15 ?_
      refine lv_aload_n hx hb dX6_isMarkedLike_18 rfl (lv_at hl 1 rfl) ?_
      refine q_get hx hb hts in_X6 hown S m_bh e_bh (C := RX6) (T := TX6) (N := 7) rfl 4 (by decide) rfl (hts (.fieldLink RX6 26 "SieveCabinet$Sieve" "size" "I") (gu_wsX6_isMarkedLike_1 _ gm_1)) dX6_isMarkedLike_19 ?_
      refine lv_icmp_ne (tgt := 51) hx hb dX6_isMarkedLike_22 (by decide) (fun b22 => ?_) (fun b22 => ?_)
      · have hM := itF b22 hM
        refine lv_iconst (v := (0 : Int32)) hx hb dX6_isMarkedLike_51 (by decide) ?_
        subst hQQ
        exact q_retz (post := fun x L1 f1 => x = z ∧ L1 = L ∧ f1 = f) hx hb hr hlk S dX6_isMarkedLike_52 (by decide) (by decide) (by decide) (by have hz := Option.some.inj hM; subst hz; exact ⟨rfl, rfl, rfl⟩)
      · have hM := itT b22 hM
        refine lv_aload_n hx hb dX6_isMarkedLike_25 rfl (lv_at hl 0 rfl) ?_
        refine q_get hx hb hts in_X6 hown S m_h e_h (C := RX6) (T := TX6) (N := 7) rfl 5 (by decide) rfl (hts (.fieldLink RX6 29 "SieveCabinet$Sieve" "marks" "I") (gu_wsX6_isMarkedLike_1 _ gm_2)) dX6_isMarkedLike_26 ?_
        refine lv_aload_n hx hb dX6_isMarkedLike_29 rfl (lv_at hl 1 rfl) ?_
        refine q_get hx hb hts in_X6 hown S m_bh e_bh (C := RX6) (T := TX6) (N := 7) rfl 5 (by decide) rfl (hts (.fieldLink RX6 29 "SieveCabinet$Sieve" "marks" "I") (gu_wsX6_isMarkedLike_1 _ gm_2)) dX6_isMarkedLike_30 ?_
        refine lv_icmp_ne (tgt := 51) hx hb dX6_isMarkedLike_33 (by decide) (fun b33 => ?_) (fun b33 => ?_)
        · have hM := itF b33 hM
          refine lv_iconst (v := (0 : Int32)) hx hb dX6_isMarkedLike_51 (by decide) ?_
          subst hQQ
          exact q_retz (post := fun x L1 f1 => x = z ∧ L1 = L ∧ f1 = f) hx hb hr hlk S dX6_isMarkedLike_52 (by decide) (by decide) (by decide) (by have hz := Option.some.inj hM; subst hz; exact ⟨rfl, rfl, rfl⟩)
        · have hM := itT b33 hM
          refine lv_aload_n hx hb dX6_isMarkedLike_36 rfl (lv_at hl 0 rfl) ?_
          refine q_get hx hb hts in_X6 hown S m_h e_h (C := RX6) (T := TX6) (N := 7) rfl 6 (by decide) rfl (hts (.fieldLink RX6 32 "SieveCabinet$Sieve" "seed" "I") (gu_wsX6_isMarkedLike_1 _ gm_3)) dX6_isMarkedLike_37 ?_
          refine lv_aload_n hx hb dX6_isMarkedLike_40 rfl (lv_at hl 1 rfl) ?_
          refine q_get hx hb hts in_X6 hown S m_bh e_bh (C := RX6) (T := TX6) (N := 7) rfl 6 (by decide) rfl (hts (.fieldLink RX6 32 "SieveCabinet$Sieve" "seed" "I") (gu_wsX6_isMarkedLike_1 _ gm_3)) dX6_isMarkedLike_41 ?_
          refine lv_icmp_ne (tgt := 51) hx hb dX6_isMarkedLike_44 (by decide) (fun b44 => ?_) (fun b44 => ?_)
          · have hM := itF b44 hM
            refine lv_iconst (v := (0 : Int32)) hx hb dX6_isMarkedLike_51 (by decide) ?_
            subst hQQ
            exact q_retz (post := fun x L1 f1 => x = z ∧ L1 = L ∧ f1 = f) hx hb hr hlk S dX6_isMarkedLike_52 (by decide) (by decide) (by decide) (by have hz := Option.some.inj hM; subst hz; exact ⟨rfl, rfl, rfl⟩)
          · have hM := itT b44 hM
            refine lv_iconst (v := (1 : Int32)) hx hb dX6_isMarkedLike_47 (by decide) ?_
            refine lv_goto (tgt := 52) hx hb dX6_isMarkedLike_48 (by decide) ?_
            subst hQQ
            exact q_retz (post := fun x L1 f1 => x = z ∧ L1 = L ∧ f1 = f) hx hb hr hlk S dX6_isMarkedLike_52 (by decide) (by decide) (by decide) (by have hz := Option.some.inj hM; subst hz; exact ⟨rfl, rfl, rfl⟩)

def mX5_secondNest (sz : Int32) (mx : Int64) : Option (Int32) := (mX4_firstNest mx sz).bind fun z5 => (mX4_nestTag mx).bind fun z11 => (mX4_otherNest z5 z11 sz).bind fun z18 => some z18
set_option maxRecDepth 20000 in
theorem gu_wsX5_secondNest_2 : ∀ w ∈ wsX60, w ∈ wsX5_secondNest := fun _ h => List.mem_cons_of_mem _ (List.mem_append_right _ h)
set_option maxHeartbeats 4000000 in
set_option maxRecDepth 100000 in
theorem k_X5_secondNest (l : Launch) (D : va_G) (g : Nat → ClassId) {L : List Nat} {f : Nat → va_E} {ce co h : Nat} {lay : Value} {kd : Int32} {sz : Int32} {mk : Int32} {sd : Int32} {mx : Int64} {z : Int32} (m_h : h ∈ L) (e_h : f h = .inr (4, [.ref ce, .ref co, lay, .int kd, .int sz, .int mk, .int sd]))    (hM : mX5_secondNest sz mx = some z) : cI l yX5_secondNest wsX5_secondNest { frames := 2, cells := 0, slots := 0, locals := 44 } D g [.ref h, .long mx] L f 0 0 (fun x L1 f1 => x = z ∧ L1 = L ∧ f1 = f) := by
  refine cI_of (cc := cX5_secondNest) (maxL := 4) (ret := (some .int)) (by decide) rfl (Nat.le_of_ble_eq_true rfl) ?_
  intro szz p e s m below meth c hx hb hr hml hts hown hlk hnm S ls hl
  have hl : lv_has ls 4 [(0, .ref h), (1, .long mx)] := hl
  have in_X6 : ∀ w ∈ wsX60, w ∈ wsX5_secondNest := gu_wsX5_secondNest_2
  unfold mX5_secondNest at hM
  refine W_gen (fun QQ hQQ => ?_)
  refine lv_lload_n hx hb dX5_secondNest_0 rfl (lv_at hl 1 rfl) ?_
  refine lv_aload_n hx hb dX5_secondNest_1 rfl (lv_at hl 0 rfl) ?_
  refine q_getN hx hb hts in_X6 hown S m_h e_h (C := RX6) (T := TX6) (N := 7) rfl 4 (by decide) rfl (by decide) dX5_secondNest_2 ?_
  obtain ⟨z5, hz5, hM⟩ := bind_some hM
  refine q_si (As := [.long mx, .int sz]) (rest := []) ⟨hx, hb, hml, hown, hts⟩ (k_X4_firstNest l D g hz5) (va_cwS 2 hts gX5_secondNest_X4_firstNest rfl rfl rfl (by decide +kernel) ⟨Nat.le_of_ble_eq_true rfl, Nat.le_of_ble_eq_true rfl⟩) S rfl hl.1 rfl (Nat.le_of_ble_eq_true rfl) dX5_secondNest_5 ⟨Nat.le_of_ble_eq_true rfl, Nat.le_of_ble_eq_true rfl⟩ (fun r3 L1 f2 H locs S w5 => ?_)
  obtain ⟨ex5, eL, ef⟩ := w5
  rw [eL, ef] at S
  replace ex5 := ex5.symm
  subst ex5
  refine lv_istore_n (lv' := [(3, .int z5), (0, .ref h), (1, .long mx)]) hx hb dX5_secondNest_8 rfl hl (by decide) rfl (fun ls hl => ?_)
  refine lv_iload_n hx hb dX5_secondNest_9 rfl (lv_at hl 0 rfl) ?_
  refine lv_lload_n hx hb dX5_secondNest_10 rfl (lv_at hl 2 rfl) ?_
  obtain ⟨z11, hz11, hM⟩ := bind_some hM
  refine q_si (As := [.long mx]) (rest := [.int z5]) ⟨hx, hb, hml, hown, hts⟩ (k_X4_nestTag l D g hz11) (va_cwS 1 hts gX5_secondNest_X4_nestTag rfl rfl rfl (by decide +kernel) ⟨Nat.le_of_ble_eq_true rfl, Nat.le_of_ble_eq_true rfl⟩) S rfl hl.1 rfl (Nat.le_of_ble_eq_true rfl) dX5_secondNest_11 ⟨Nat.le_of_ble_eq_true rfl, Nat.le_of_ble_eq_true rfl⟩ (fun r6 L4 f5 H locs S w11 => ?_)
  obtain ⟨ex11, eL, ef⟩ := w11
  rw [eL, ef] at S
  replace ex11 := ex11.symm
  subst ex11
  refine lv_aload_n hx hb dX5_secondNest_14 rfl (lv_at hl 1 rfl) ?_
  refine q_getN hx hb hts in_X6 hown S m_h e_h (C := RX6) (T := TX6) (N := 7) rfl 4 (by decide) rfl (by decide) dX5_secondNest_15 ?_
  obtain ⟨z18, hz18, hM⟩ := bind_some hM
  refine q_si (As := [.int z5, .int z11, .int sz]) (rest := []) ⟨hx, hb, hml, hown, hts⟩ (k_X4_otherNest l D g hz18) (va_cwS 3 hts gX5_secondNest_X4_otherNest rfl rfl rfl (by decide +kernel) ⟨Nat.le_of_ble_eq_true rfl, Nat.le_of_ble_eq_true rfl⟩) S rfl hl.1 rfl (Nat.le_of_ble_eq_true rfl) dX5_secondNest_18 ⟨Nat.le_of_ble_eq_true rfl, Nat.le_of_ble_eq_true rfl⟩ (fun r9 L7 f8 H locs S w18 => ?_)
  obtain ⟨ex18, eL, ef⟩ := w18
  rw [eL, ef] at S
  replace ex18 := ex18.symm
  subst ex18
  subst hQQ
  exact q_reti (post := fun x L1 f1 => x = z ∧ L1 = L ∧ f1 = f) hx hb hr hlk S dX5_secondNest_21 (by decide) (by decide) (by have hz := Option.some.inj hM; subst hz; exact ⟨rfl, rfl, rfl⟩)

def mX5_findIn_L2 (kc : Nat → Int32) (nt : Int32) (tg : Int32) : Nat → Int32 → Option ((Int32) ⊕ Int32)
  | 0, _ => none
  | fu + 1, x3_2 => if (4 : Int32) ≤ x3_2 then (some (.inr x3_2)) else ((mX6_cellAt kc (((4 : Int32) * nt) + x3_2)).bind fun z17 => if z17 = tg then (some (.inl (((4 : Int32) * nt) + x3_2))) else (mX5_findIn_L2 kc nt tg fu (x3_2 + 1)))
def mX5_findIn (kc : Nat → Int32) (nt : Int32) (tg : Int32) : Option (Int32) := (mX5_findIn_L2 kc nt tg FU (0 : Int32)).bind fun o2 => Sum.elim (fun r_ => some r_) (fun s2 => some (-1 : Int32)) o2
set_option maxHeartbeats 4000000 in
set_option maxRecDepth 100000 in
theorem k_X5_findIn (l : Launch) (D : va_G) (g : Nat → ClassId) {L : List Nat} {f : Nat → va_E} {ce co h : Nat} {lay : Value} {kd : Int32} {sz : Int32} {mk : Int32} {sd : Int32} {kc : Nat → Int32} {nt : Int32} {tg : Int32} {z : Int32} (m_h : h ∈ L) (e_h : f h = .inr (4, [.ref ce, .ref co, lay, .int kd, .int sz, .int mk, .int sd])) (m_ce : ce ∈ L) (e_ce : f ce = .inl (g 0, 4096, .inl kc))    (hM : mX5_findIn kc nt tg = some z) : cI l yX5_findIn wsX5_findIn { frames := 1, cells := 0, slots := 0, locals := 21 } D g [.ref h, .int nt, .int tg] L f 0 0 (fun x L1 f1 => x = z ∧ L1 = L ∧ f1 = f) := by
  refine cI_of (cc := cX5_findIn) (maxL := 5) (ret := (some .int)) (by decide) rfl (Nat.le_of_ble_eq_true rfl) ?_
  intro szz p e s m below meth c hx hb hr hml hts hown hlk hnm S ls hl
  have hl : lv_has ls 5 [(0, .ref h), (1, .int nt), (2, .int tg)] := hl
  unfold mX5_findIn at hM
  refine W_gen (fun QQ hQQ => ?_)
  refine lv_iconst (v := (0 : Int32)) hx hb dX5_findIn_0 (by decide) ?_
  refine lv_istore_n (lv' := [(3, .int (0 : Int32)), (0, .ref h), (1, .int nt), (2, .int tg)]) hx hb dX5_findIn_1 rfl hl (by decide) rfl (fun ls hl => ?_)
  obtain ⟨o2, ho2, hM⟩ := bind_some hM
  have EX2 : ∀ (s2 : Int32), o2 = .inr s2 → ∀ (H : Heap) (locs : List Loc) (ls : Array Slot), PS D g (va_A (va_pl L f) szz) s.heap s L f H locs → lv_has ls 5 [] → W p l e { frames := 1, cells := 0, slots := 0, locals := 21 } s m [.ref h, .int nt, .int tg].toArray below meth c H locs 0 0 QQ (F0 m 33 ls []) := by
    intro s2 eo2
    rw [eo2] at hM
    simp only [Sum.elim_inr] at hM
    intro H locs ls S hl
    refine lv_iconst (v := (-1 : Int32)) hx hb dX5_findIn_33 (by decide) ?_
    subst hQQ
    exact q_reti (post := fun x L1 f1 => x = z ∧ L1 = L ∧ f1 = f) hx hb hr hlk S dX5_findIn_34 (by decide) (by decide) (by have hz := Option.some.inj hM; subst hz; exact ⟨rfl, rfl, rfl⟩)
  have LP2 : ∀ (fu : Nat) (x3_2 : Int32) (H : Heap) (locs : List Loc) (ls : Array Slot), (mX5_findIn_L2 kc nt tg) fu x3_2 = some o2 → PS D g (va_A (va_pl L f) szz) s.heap s L f H locs → lv_has ls 5 [(3, .int x3_2), (0, .ref h), (1, .int nt), (2, .int tg)] → W p l e { frames := 1, cells := 0, slots := 0, locals := 21 } s m [.ref h, .int nt, .int tg].toArray below meth c H locs 0 0 QQ (F0 m 2 ls []) := by
    intro fu
    induction fu with
    | zero => intro x3_2 H locs ls ho2 S hl; exact no_some ho2
    | succ fu ih2 =>
      intro x3_2 H locs ls ho2 S hl
      rw [mX5_findIn_L2] at ho2
      refine lv_iload_n hx hb dX5_findIn_2 rfl (lv_at hl 0 rfl) ?_
      refine lv_iconst (v := (4 : Int32)) hx hb dX5_findIn_3 (by decide) ?_
      refine lv_icmp_ge (tgt := 33) hx hb dX5_findIn_4 (by decide) (fun b4 => ?_) (fun b4 => ?_)
      · have ho2 := itT b4 ho2
        obtain rfl := Option.some.inj ho2
        exact EX2 _ rfl _ _ _ S (lv_sub hl [] rfl)
      · have ho2 := itF b4 ho2
        refine lv_iconst (v := (4 : Int32)) hx hb dX5_findIn_7 (by decide) ?_
        refine lv_iload_n hx hb dX5_findIn_8 rfl (lv_at hl 2 rfl) ?_
        refine lv_imul hx hb dX5_findIn_9 ?_
        refine lv_iload_n hx hb dX5_findIn_10 rfl (lv_at hl 0 rfl) ?_
        refine lv_iadd hx hb dX5_findIn_11 ?_
        refine lv_istore (lv' := [(4, .int (((4 : Int32) * nt) + x3_2)), (3, .int x3_2), (0, .ref h), (1, .int nt), (2, .int tg)]) hx hb dX5_findIn_12 hl (by decide) rfl (fun ls hl => ?_)
        refine lv_aload_n hx hb dX5_findIn_14 rfl (lv_at hl 2 rfl) ?_
        refine lv_iload hx hb dX5_findIn_15 (lv_at hl 0 rfl) ?_
        obtain ⟨z17, hz17, ho2⟩ := bind_some ho2
        refine q_vi (As := [.int (((4 : Int32) * nt) + x3_2)]) (rest := []) ⟨hx, hb, hml, hown, hts⟩ (k_X6_cellAt l D g m_h e_h m_ce e_ce hz17) (cwV 1 hts gX5_findIn_X6_cellAt rfl rfl rfl (by decide +kernel) ⟨Nat.le_of_ble_eq_true rfl, Nat.le_of_ble_eq_true rfl⟩) S m_h e_h (T := TX6) (N := 7) rfl rfl hl.1 rfl (Nat.le_of_ble_eq_true rfl) dX5_findIn_17 ⟨Nat.le_of_ble_eq_true rfl, Nat.le_of_ble_eq_true rfl⟩ (fun r3 L1 f2 H locs S w17 => ?_)
        obtain ⟨ex17, eL, ef⟩ := w17
        rw [eL, ef] at S
        replace ex17 := ex17.symm
        subst ex17
        refine lv_iload_n hx hb dX5_findIn_20 rfl (lv_at hl 4 rfl) ?_
        refine lv_icmp_ne (tgt := 27) hx hb dX5_findIn_21 (by decide) (fun b21 => ?_) (fun b21 => ?_)
        · have ho2 := itF b21 ho2
          refine lv_iinc (v := (x3_2 + 1)) (lv' := [(3, .int (x3_2 + 1)), (4, .int (((4 : Int32) * nt) + x3_2)), (0, .ref h), (1, .int nt), (2, .int tg)]) hx hb dX5_findIn_27 hl (k := 1) rfl rfl (by decide) rfl (fun ls hl => ?_)
          refine lv_goto (tgt := 2) hx hb dX5_findIn_30 (by decide) ?_
          exact ih2 (x3_2 + 1) _ _ _ ho2 S (lv_sub hl [0, 2, 3, 4] rfl)
        · have ho2 := itT b21 ho2
          refine lv_iload hx hb dX5_findIn_24 (lv_at hl 0 rfl) ?_
          obtain rfl := Option.some.inj ho2
          simp only [Sum.elim_inl] at hM
          subst hQQ
          exact q_reti (post := fun x L1 f1 => x = z ∧ L1 = L ∧ f1 = f) hx hb hr hlk S dX5_findIn_26 (by decide) (by decide) (by have hz := Option.some.inj hM; subst hz; exact ⟨rfl, rfl, rfl⟩)
  exact LP2 FU (0 : Int32) _ _ _ ho2 S (lv_sub hl [0, 1, 2, 3] rfl)

def mX5_settle (kc : Nat → Int32) (nt : Int32) (tg : Int32) : Option (Int32 × (Nat → Int32)) := (mX5_findIn kc nt (0 : Int32)).bind fun z3 => (mX6_setCell kc z3 tg).bind fun z10 => if z3 < 0 then (some ((0 : Int32), z10)) else (some ((1 : Int32), z10))
set_option maxHeartbeats 4000000 in
set_option maxRecDepth 100000 in
theorem k_X5_settle (l : Launch) (D : va_G) (g : Nat → ClassId) {L : List Nat} {f : Nat → va_E} {ce co h : Nat} {lay : Value} {kd : Int32} {sz : Int32} {mk : Int32} {sd : Int32} {kc : Nat → Int32} {nt : Int32} {tg : Int32} {z : Int32 × (Nat → Int32)} (m_h : h ∈ L) (e_h : f h = .inr (4, [.ref ce, .ref co, lay, .int kd, .int sz, .int mk, .int sd])) (m_ce : ce ∈ L) (e_ce : f ce = .inl (g 0, 4096, .inl kc))    (hM : mX5_settle kc nt tg = some z) : cI l yX5_settle wsX5_settle { frames := 2, cells := 0, slots := 0, locals := 45 } D g [.ref h, .int nt, .int tg] L f 0 0 (fun x L1 f1 => x = z.1 ∧ L1 = L ∧ (∀ b, b ∈ L → b ≠ ce → f1 b = f b) ∧ f1 ce = .inl (g 0, 4096, .inl z.2)) := by
  refine cI_of (cc := cX5_settle) (maxL := 4) (ret := (some .boolean)) (by decide) rfl (Nat.le_of_ble_eq_true rfl) ?_
  intro szz p e s m below meth c hx hb hr hml hts hown hlk hnm S ls hl
  have hl : lv_has ls 4 [(0, .ref h), (1, .int nt), (2, .int tg)] := hl
  have fr : ∀ b, b ∈ L → b ≠ ce → f b = f b := fun _ _ _ => rfl
  unfold mX5_settle at hM
  refine W_gen (fun QQ hQQ => ?_)
  refine lv_aload_n hx hb dX5_settle_0 rfl (lv_at hl 0 rfl) ?_
  refine lv_iload_n hx hb dX5_settle_1 rfl (lv_at hl 1 rfl) ?_
  refine lv_iconst (v := (0 : Int32)) hx hb dX5_settle_2 (by decide) ?_
  obtain ⟨z3, hz3, hM⟩ := bind_some hM
  refine q_si (As := [.ref h, .int nt, .int (0 : Int32)]) (rest := []) ⟨hx, hb, hml, hown, hts⟩ (k_X5_findIn l D g m_h e_h m_ce e_ce hz3) (va_cwS 3 hts gX5_settle_X5_findIn rfl rfl rfl (by decide +kernel) ⟨Nat.le_of_ble_eq_true rfl, Nat.le_of_ble_eq_true rfl⟩) S rfl hl.1 rfl (Nat.le_of_ble_eq_true rfl) dX5_settle_3 ⟨Nat.le_of_ble_eq_true rfl, Nat.le_of_ble_eq_true rfl⟩ (fun r3 L1 f2 H locs S w3 => ?_)
  obtain ⟨ex3, eL, ef⟩ := w3
  rw [eL, ef] at S
  replace ex3 := ex3.symm
  subst ex3
  refine lv_istore_n (lv' := [(3, .int z3), (0, .ref h), (1, .int nt), (2, .int tg)]) hx hb dX5_settle_6 rfl hl (by decide) rfl (fun ls hl => ?_)
  refine lv_aload_n hx hb dX5_settle_7 rfl (lv_at hl 1 rfl) ?_
  refine lv_iload_n hx hb dX5_settle_8 rfl (lv_at hl 0 rfl) ?_
  refine lv_iload_n hx hb dX5_settle_9 rfl (lv_at hl 3 rfl) ?_
  obtain ⟨z10, hz10, hM⟩ := bind_some hM
  refine q_vv (As := [.int z3, .int tg]) (rest := []) ⟨hx, hb, hml, hown, hts⟩ (k_X6_setCell l D g m_h e_h m_ce e_ce hz10) (cwV 2 hts gX5_settle_X6_setCell rfl rfl rfl (by decide +kernel) ⟨Nat.le_of_ble_eq_true rfl, Nat.le_of_ble_eq_true rfl⟩) S m_h e_h (T := TX6) (N := 7) rfl rfl hl.1 rfl (Nat.le_of_ble_eq_true rfl) dX5_settle_10 ⟨Nat.le_of_ble_eq_true rfl, Nat.le_of_ble_eq_true rfl⟩ (fun L4 f5 H locs S w10 => ?_)
  obtain ⟨eL, fv10, E_ce⟩ := w10
  rw [eL] at S
  have fr : ∀ b, b ∈ L → b ≠ ce → f5 b = f b := fun b mb nb0 => (fv10 b mb nb0).trans (fr b mb nb0)
  have e_ce : f5 ce = .inl (g 0, 4096, .inl z10) := E_ce
  refine lv_iload_n hx hb dX5_settle_13 rfl (lv_at hl 0 rfl) ?_
  refine lv_if_lt (tgt := 21) hx hb dX5_settle_14 (by decide) (fun b14 => ?_) (fun b14 => ?_)
  · have hM := itT b14 hM
    refine lv_iconst (v := (0 : Int32)) hx hb dX5_settle_21 (by decide) ?_
    subst hQQ
    exact q_retz (post := fun x L1 f1 => x = z.1 ∧ L1 = L ∧ (∀ b, b ∈ L → b ≠ ce → f1 b = f b) ∧ f1 ce = .inl (g 0, 4096, .inl z.2)) hx hb hr hlk S dX5_settle_22 (by decide) (by decide) (by decide) (by have hz := Option.some.inj hM; subst hz; exact ⟨rfl, rfl, fr, e_ce⟩)
  · have hM := itF b14 hM
    refine lv_iconst (v := (1 : Int32)) hx hb dX5_settle_17 (by decide) ?_
    refine lv_goto (tgt := 22) hx hb dX5_settle_18 (by decide) ?_
    subst hQQ
    exact q_retz (post := fun x L1 f1 => x = z.1 ∧ L1 = L ∧ (∀ b, b ∈ L → b ≠ ce → f1 b = f b) ∧ f1 ce = .inl (g 0, 4096, .inl z.2)) hx hb hr hlk S dX5_settle_22 (by decide) (by decide) (by decide) (by have hz := Option.some.inj hM; subst hz; exact ⟨rfl, rfl, fr, e_ce⟩)

def mX5_find (sz : Int32) (kc : Nat → Int32) (mx : Int64) : Option (Int32) := (mX4_nestTag mx).bind fun z1 => (mX4_firstNest mx sz).bind fun z11 => (mX5_findIn kc z11 z1).bind fun z15 => if z15 < 0 then ((mX5_secondNest sz mx).bind fun z33 => (mX5_findIn kc z33 z1).bind fun z37 => some z37) else (some z15)
set_option maxHeartbeats 4000000 in
set_option maxRecDepth 100000 in
theorem k_X5_find (l : Launch) (D : va_G) (g : Nat → ClassId) {L : List Nat} {f : Nat → va_E} {ce co h : Nat} {lay : Value} {kd : Int32} {sz : Int32} {mk : Int32} {sd : Int32} {kc : Nat → Int32} {mx : Int64} {z : Int32} (m_h : h ∈ L) (e_h : f h = .inr (4, [.ref ce, .ref co, lay, .int kd, .int sz, .int mk, .int sd])) (m_ce : ce ∈ L) (e_ce : f ce = .inl (g 0, 4096, .inl kc))    (hM : mX5_find sz kc mx = some z) : cI l yX5_find wsX5_find { frames := 3, cells := 0, slots := 0, locals := 67 } D g [.ref h, .long mx] L f 0 0 (fun x L1 f1 => x = z ∧ L1 = L ∧ f1 = f) := by
  refine cI_of (cc := cX5_find) (maxL := 5) (ret := (some .int)) (by decide) rfl (Nat.le_of_ble_eq_true rfl) ?_
  intro szz p e s m below meth c hx hb hr hml hts hown hlk hnm S ls hl
  have hl : lv_has ls 5 [(0, .ref h), (1, .long mx)] := hl
  have in_X6 : ∀ w ∈ wsX60, w ∈ wsX5_find := gu_wsX5_find_3
  unfold mX5_find at hM
  refine W_gen (fun QQ hQQ => ?_)
  refine lv_lload_n hx hb dX5_find_0 rfl (lv_at hl 1 rfl) ?_
  obtain ⟨z1, hz1, hM⟩ := bind_some hM
  refine q_si (As := [.long mx]) (rest := []) ⟨hx, hb, hml, hown, hts⟩ (k_X4_nestTag l D g hz1) (va_cwS 1 hts gX5_find_X4_nestTag rfl rfl rfl (by decide +kernel) ⟨Nat.le_of_ble_eq_true rfl, Nat.le_of_ble_eq_true rfl⟩) S rfl hl.1 rfl (Nat.le_of_ble_eq_true rfl) dX5_find_1 ⟨Nat.le_of_ble_eq_true rfl, Nat.le_of_ble_eq_true rfl⟩ (fun r3 L1 f2 H locs S w1 => ?_)
  obtain ⟨ex1, eL, ef⟩ := w1
  rw [eL, ef] at S
  replace ex1 := ex1.symm
  subst ex1
  refine lv_istore_n (lv' := [(3, .int z1), (0, .ref h), (1, .long mx)]) hx hb dX5_find_4 rfl hl (by decide) rfl (fun ls hl => ?_)
  refine lv_aload_n hx hb dX5_find_5 rfl (lv_at hl 1 rfl) ?_
  refine lv_lload_n hx hb dX5_find_6 rfl (lv_at hl 2 rfl) ?_
  refine lv_aload_n hx hb dX5_find_7 rfl (lv_at hl 1 rfl) ?_
  refine q_getN hx hb hts in_X6 hown S m_h e_h (C := RX6) (T := TX6) (N := 7) rfl 4 (by decide) rfl (by decide) dX5_find_8 ?_
  obtain ⟨z11, hz11, hM⟩ := bind_some hM
  refine q_si (As := [.long mx, .int sz]) (rest := [.ref h]) ⟨hx, hb, hml, hown, hts⟩ (k_X4_firstNest l D g hz11) (va_cwS 2 hts gX5_find_X4_firstNest rfl rfl rfl (by decide +kernel) ⟨Nat.le_of_ble_eq_true rfl, Nat.le_of_ble_eq_true rfl⟩) S rfl hl.1 rfl (Nat.le_of_ble_eq_true rfl) dX5_find_11 ⟨Nat.le_of_ble_eq_true rfl, Nat.le_of_ble_eq_true rfl⟩ (fun r6 L4 f5 H locs S w11 => ?_)
  obtain ⟨ex11, eL, ef⟩ := w11
  rw [eL, ef] at S
  replace ex11 := ex11.symm
  subst ex11
  refine lv_iload_n hx hb dX5_find_14 rfl (lv_at hl 0 rfl) ?_
  obtain ⟨z15, hz15, hM⟩ := bind_some hM
  refine q_si (As := [.ref h, .int z11, .int z1]) (rest := []) ⟨hx, hb, hml, hown, hts⟩ (k_X5_findIn l D g m_h e_h m_ce e_ce hz15) (va_cwS 3 hts gX5_find_X5_findIn rfl rfl rfl (by decide +kernel) ⟨Nat.le_of_ble_eq_true rfl, Nat.le_of_ble_eq_true rfl⟩) S rfl hl.1 rfl (Nat.le_of_ble_eq_true rfl) dX5_find_15 ⟨Nat.le_of_ble_eq_true rfl, Nat.le_of_ble_eq_true rfl⟩ (fun r9 L7 f8 H locs S w15 => ?_)
  obtain ⟨ex15, eL, ef⟩ := w15
  rw [eL, ef] at S
  replace ex15 := ex15.symm
  subst ex15
  refine lv_istore (lv' := [(4, .int z15), (3, .int z1), (0, .ref h), (1, .long mx)]) hx hb dX5_find_18 hl (by decide) rfl (fun ls hl => ?_)
  refine lv_iload hx hb dX5_find_20 (lv_at hl 0 rfl) ?_
  refine lv_if_lt (tgt := 30) hx hb dX5_find_22 (by decide) (fun b22 => ?_) (fun b22 => ?_)
  · have hM := itT b22 hM
    refine lv_aload_n hx hb dX5_find_30 rfl (lv_at hl 2 rfl) ?_
    refine lv_aload_n hx hb dX5_find_31 rfl (lv_at hl 2 rfl) ?_
    refine lv_lload_n hx hb dX5_find_32 rfl (lv_at hl 3 rfl) ?_
    obtain ⟨z33, hz33, hM⟩ := bind_some hM
    refine q_si (As := [.ref h, .long mx]) (rest := [.ref h]) ⟨hx, hb, hml, hown, hts⟩ (k_X5_secondNest l D g m_h e_h hz33) (va_cwS 2 hts gX5_find_X5_secondNest rfl rfl rfl (by decide +kernel) ⟨Nat.le_of_ble_eq_true rfl, Nat.le_of_ble_eq_true rfl⟩) S rfl hl.1 rfl (Nat.le_of_ble_eq_true rfl) dX5_find_33 ⟨Nat.le_of_ble_eq_true rfl, Nat.le_of_ble_eq_true rfl⟩ (fun r12 L10 f11 H locs S w33 => ?_)
    obtain ⟨ex33, eL, ef⟩ := w33
    rw [eL, ef] at S
    replace ex33 := ex33.symm
    subst ex33
    refine lv_iload_n hx hb dX5_find_36 rfl (lv_at hl 1 rfl) ?_
    obtain ⟨z37, hz37, hM⟩ := bind_some hM
    refine q_si (As := [.ref h, .int z33, .int z1]) (rest := []) ⟨hx, hb, hml, hown, hts⟩ (k_X5_findIn l D g m_h e_h m_ce e_ce hz37) (va_cwS 3 hts gX5_find_X5_findIn rfl rfl rfl (by decide +kernel) ⟨Nat.le_of_ble_eq_true rfl, Nat.le_of_ble_eq_true rfl⟩) S rfl hl.1 rfl (Nat.le_of_ble_eq_true rfl) dX5_find_37 ⟨Nat.le_of_ble_eq_true rfl, Nat.le_of_ble_eq_true rfl⟩ (fun r15 L13 f14 H locs S w37 => ?_)
    obtain ⟨ex37, eL, ef⟩ := w37
    rw [eL, ef] at S
    replace ex37 := ex37.symm
    subst ex37
    subst hQQ
    exact q_reti (post := fun x L1 f1 => x = z ∧ L1 = L ∧ f1 = f) hx hb hr hlk S dX5_find_40 (by decide) (by decide) (by have hz := Option.some.inj hM; subst hz; exact ⟨rfl, rfl, rfl⟩)
  · have hM := itF b22 hM
    refine lv_iload hx hb dX5_find_25 (lv_at hl 0 rfl) ?_
    refine lv_goto (tgt := 40) hx hb dX5_find_27 (by decide) ?_
    subst hQQ
    exact q_reti (post := fun x L1 f1 => x = z ∧ L1 = L ∧ f1 = f) hx hb hr hlk S dX5_find_40 (by decide) (by decide) (by have hz := Option.some.inj hM; subst hz; exact ⟨rfl, rfl, rfl⟩)

def mX5_change (kc : Nat → Int32) (nt : Int32) (ro : Int32) (hd : Int32) : Option (Int32 × (Nat → Int32)) := (mX6_cellAt kc (((4 : Int32) * nt) + (irm ro (4 : Int32)))).bind fun z12 => (mX6_setCell kc (((4 : Int32) * nt) + (irm ro (4 : Int32))) hd).bind fun z21 => some (z12, z21)
set_option maxHeartbeats 4000000 in
set_option maxRecDepth 100000 in
theorem k_X5_change (l : Launch) (D : va_G) (g : Nat → ClassId) {L : List Nat} {f : Nat → va_E} {ce co h : Nat} {lay : Value} {kd : Int32} {sz : Int32} {mk : Int32} {sd : Int32} {kc : Nat → Int32} {nt : Int32} {ro : Int32} {hd : Int32} {z : Int32 × (Nat → Int32)} (m_h : h ∈ L) (e_h : f h = .inr (4, [.ref ce, .ref co, lay, .int kd, .int sz, .int mk, .int sd])) (m_ce : ce ∈ L) (e_ce : f ce = .inl (g 0, 4096, .inl kc))    (hM : mX5_change kc nt ro hd = some z) : cI l yX5_change wsX5_change { frames := 1, cells := 0, slots := 0, locals := 22 } D g [.ref h, .int nt, .int ro, .int hd] L f 0 0 (fun x L1 f1 => x = z.1 ∧ L1 = L ∧ (∀ b, b ∈ L → b ≠ ce → f1 b = f b) ∧ f1 ce = .inl (g 0, 4096, .inl z.2)) := by
  refine cI_of (cc := cX5_change) (maxL := 6) (ret := (some .int)) (by decide) rfl (Nat.le_of_ble_eq_true rfl) ?_
  intro szz p e s m below meth c hx hb hr hml hts hown hlk hnm S ls hl
  have hl : lv_has ls 6 [(0, .ref h), (1, .int nt), (2, .int ro), (3, .int hd)] := hl
  have fr : ∀ b, b ∈ L → b ≠ ce → f b = f b := fun _ _ _ => rfl
  unfold mX5_change at hM
  refine W_gen (fun QQ hQQ => ?_)
  refine lv_iconst (v := (4 : Int32)) hx hb dX5_change_0 (by decide) ?_
  refine lv_iload_n hx hb dX5_change_1 rfl (lv_at hl 1 rfl) ?_
  refine lv_imul hx hb dX5_change_2 ?_
  refine lv_iload_n hx hb dX5_change_3 rfl (lv_at hl 2 rfl) ?_
  refine lv_iconst (v := (4 : Int32)) hx hb dX5_change_4 (by decide) ?_
  refine lv_irem hx hb dX5_change_5 (by decide) ?_
  refine W.eq (g2 := F0 m 6 ls [.int (irm ro (4 : Int32)), .int ((4 : Int32) * nt)]) rfl ?_
  refine lv_iadd hx hb dX5_change_6 ?_
  refine lv_istore (lv' := [(4, .int (((4 : Int32) * nt) + (irm ro (4 : Int32)))), (0, .ref h), (1, .int nt), (2, .int ro), (3, .int hd)]) hx hb dX5_change_7 hl (by decide) rfl (fun ls hl => ?_)
  refine lv_aload_n hx hb dX5_change_9 rfl (lv_at hl 1 rfl) ?_
  refine lv_iload hx hb dX5_change_10 (lv_at hl 0 rfl) ?_
  obtain ⟨z12, hz12, hM⟩ := bind_some hM
  refine q_vi (As := [.int (((4 : Int32) * nt) + (irm ro (4 : Int32)))]) (rest := []) ⟨hx, hb, hml, hown, hts⟩ (k_X6_cellAt l D g m_h e_h m_ce e_ce hz12) (cwV 1 hts gX5_change_X6_cellAt rfl rfl rfl (by decide +kernel) ⟨Nat.le_of_ble_eq_true rfl, Nat.le_of_ble_eq_true rfl⟩) S m_h e_h (T := TX6) (N := 7) rfl rfl hl.1 rfl (Nat.le_of_ble_eq_true rfl) dX5_change_12 ⟨Nat.le_of_ble_eq_true rfl, Nat.le_of_ble_eq_true rfl⟩ (fun r3 L1 f2 H locs S w12 => ?_)
  obtain ⟨ex12, eL, ef⟩ := w12
  rw [eL, ef] at S
  replace ex12 := ex12.symm
  subst ex12
  refine lv_istore (lv' := [(5, .int z12), (4, .int (((4 : Int32) * nt) + (irm ro (4 : Int32)))), (0, .ref h), (1, .int nt), (2, .int ro), (3, .int hd)]) hx hb dX5_change_15 hl (by decide) rfl (fun ls hl => ?_)
  refine lv_aload_n hx hb dX5_change_17 rfl (lv_at hl 2 rfl) ?_
  refine lv_iload hx hb dX5_change_18 (lv_at hl 1 rfl) ?_
  refine lv_iload_n hx hb dX5_change_20 rfl (lv_at hl 5 rfl) ?_
  obtain ⟨z21, hz21, hM⟩ := bind_some hM
  refine q_vv (As := [.int (((4 : Int32) * nt) + (irm ro (4 : Int32))), .int hd]) (rest := []) ⟨hx, hb, hml, hown, hts⟩ (k_X6_setCell l D g m_h e_h m_ce e_ce hz21) (cwV 2 hts gX5_change_X6_setCell rfl rfl rfl (by decide +kernel) ⟨Nat.le_of_ble_eq_true rfl, Nat.le_of_ble_eq_true rfl⟩) S m_h e_h (T := TX6) (N := 7) rfl rfl hl.1 rfl (Nat.le_of_ble_eq_true rfl) dX5_change_21 ⟨Nat.le_of_ble_eq_true rfl, Nat.le_of_ble_eq_true rfl⟩ (fun L4 f5 H locs S w21 => ?_)
  obtain ⟨eL, fv21, E_ce⟩ := w21
  rw [eL] at S
  have fr : ∀ b, b ∈ L → b ≠ ce → f5 b = f b := fun b mb nb0 => (fv21 b mb nb0).trans (fr b mb nb0)
  have e_ce : f5 ce = .inl (g 0, 4096, .inl z21) := E_ce
  refine lv_iload hx hb dX5_change_24 (lv_at hl 0 rfl) ?_
  subst hQQ
  exact q_reti (post := fun x L1 f1 => x = z.1 ∧ L1 = L ∧ (∀ b, b ∈ L → b ≠ ce → f1 b = f b) ∧ f1 ce = .inl (g 0, 4096, .inl z.2)) hx hb hr hlk S dX5_change_26 (by decide) (by decide) (by have hz := Option.some.inj hM; subst hz; exact ⟨rfl, rfl, fr, e_ce⟩)

def mX5_pushBack_L10 (sz : Int32) : Nat → Int32 → Int32 → Int32 → (Nat → Int32) → Option (Int32 × Int32 × Int32 × (Nat → Int32))
  | 0, _, _, _, _ => none
  | fu + 1, x5_10, x4_10, x3_10, cce_10 => if x5_10 < 0 then (some (x5_10, x4_10, x3_10, cce_10)) else ((mX4_otherNest x3_10 x4_10 sz).bind fun z22 => (mX5_change cce_10 z22 x5_10 x4_10).bind fun z32 => mX5_pushBack_L10 sz fu (x5_10 + (-1)) z32.1 z22 z32.2)
def mX5_pushBack (sz : Int32) (kc : Nat → Int32) (la : Int32) (lh : Int32) : Option ((Nat → Int32)) := (mX5_pushBack_L10 sz FU (199 : Int32) lh la kc).bind fun o10 => some o10.2.2.2
set_option maxHeartbeats 4000000 in
set_option maxRecDepth 100000 in
theorem k_X5_pushBack (l : Launch) (D : va_G) (g : Nat → ClassId) {L : List Nat} {f : Nat → va_E} {ce co cr h : Nat} {lay : Value} {kd : Int32} {sz : Int32} {mk : Int32} {sd : Int32} {kc : Nat → Int32} {n : Int32} {v : Nat → Int64} {la : Int32} {lh : Int32} {z : (Nat → Int32)} (m_h : h ∈ L) (e_h : f h = .inr (4, [.ref ce, .ref co, lay, .int kd, .int sz, .int mk, .int sd])) (m_ce : ce ∈ L) (e_ce : f ce = .inl (g 0, 4096, .inl kc)) (m_co : co ∈ L) (e_co : f co = .inr (0, [.ref cr, .int n])) (m_cr : cr ∈ L) (e_cr : f cr = .inl (g 1, 1000, .inr (.inl v)))    (hM : mX5_pushBack sz kc la lh = some z) : cV l yX5_pushBack wsX5_pushBack { frames := 2, cells := 0, slots := 0, locals := 47 } D g [.ref h, .int la, .int lh] L f 0 0 (fun L1 f1 => L1 = L ∧ (∀ b, b ∈ L → b ≠ ce → f1 b = f b) ∧ f1 ce = .inl (g 0, 4096, .inl z)) := by
  refine cV_of (cc := cX5_pushBack) (maxL := 6) (ret := none) (by decide) rfl (Nat.le_of_ble_eq_true rfl) ?_
  intro szz p e s m below meth c hx hb hr hml hts hown hlk hnm S ls hl
  have hl : lv_has ls 6 [(0, .ref h), (1, .int la), (2, .int lh)] := hl
  have in_X6 : ∀ w ∈ wsX60, w ∈ wsX5_pushBack := gu_wsX5_pushBack_2
  have n_h_ce : h ≠ ce := ne_ir e_ce e_h
  have n_co_ce : co ≠ ce := ne_ir e_ce e_co
  have n_cr_ce : cr ≠ ce := ne_len e_ce e_cr (by decide)
  have fr : ∀ b, b ∈ L → b ≠ ce → f b = f b := fun _ _ _ => rfl
  unfold mX5_pushBack at hM
  refine W_gen (fun QQ hQQ => ?_)
  refine lv_iload_n hx hb dX5_pushBack_0 rfl (lv_at hl 1 rfl) ?_
  refine lv_istore_n (lv' := [(3, .int la), (0, .ref h), (1, .int la), (2, .int lh)]) hx hb dX5_pushBack_1 rfl hl (by decide) rfl (fun ls hl => ?_)
  refine lv_iload_n hx hb dX5_pushBack_2 rfl (lv_at hl 3 rfl) ?_
  refine lv_istore (lv' := [(4, .int lh), (3, .int la), (0, .ref h), (1, .int la), (2, .int lh)]) hx hb dX5_pushBack_3 hl (by decide) rfl (fun ls hl => ?_)
  refine lv_sipush (v := (199 : Int32)) hx hb dX5_pushBack_5 (by decide) ?_
  refine lv_istore (lv' := [(5, .int (199 : Int32)), (4, .int lh), (3, .int la), (0, .ref h), (1, .int la), (2, .int lh)]) hx hb dX5_pushBack_8 hl (by decide) rfl (fun ls hl => ?_)
  obtain ⟨o10, ho10, hM⟩ := bind_some hM
  have EX10 : ∀ (fl10 : Nat → va_E) (H : Heap) (locs : List Loc) (ls : Array Slot), PS D g (va_A (va_pl L f) szz) s.heap s L fl10 H locs → fl10 h = .inr (4, [.ref ce, .ref co, lay, .int kd, .int sz, .int mk, .int sd]) → fl10 ce = .inl (g 0, 4096, .inl o10.2.2.2) → fl10 co = .inr (0, [.ref cr, .int n]) → fl10 cr = .inl (g 1, 1000, .inr (.inl v)) → (∀ b, b ∈ L → b ≠ ce → fl10 b = f b) → lv_has ls 6 [] → W p l e { frames := 2, cells := 0, slots := 0, locals := 47 } s m [.ref h, .int la, .int lh].toArray below meth c H locs 0 0 QQ (F0 m 43 ls []) := by
    intro fl10 H locs ls S e_h e_ce e_co e_cr fr hl
    subst hQQ
    exact q_retv (post := fun L1 f1 => L1 = L ∧ (∀ b, b ∈ L → b ≠ ce → f1 b = f b) ∧ f1 ce = .inl (g 0, 4096, .inl z)) hx hb hr hlk S dX5_pushBack_43 (by decide) (by decide) (by have hz := Option.some.inj hM; subst hz; exact ⟨rfl, fr, e_ce⟩)
  have LP10 : ∀ (fu : Nat) (x5_10 : Int32) (x4_10 : Int32) (x3_10 : Int32) (cce_10 : Nat → Int32) (fl10 : Nat → va_E) (H : Heap) (locs : List Loc) (ls : Array Slot), (mX5_pushBack_L10 sz) fu x5_10 x4_10 x3_10 cce_10 = some o10 → PS D g (va_A (va_pl L f) szz) s.heap s L fl10 H locs → fl10 h = .inr (4, [.ref ce, .ref co, lay, .int kd, .int sz, .int mk, .int sd]) → fl10 ce = .inl (g 0, 4096, .inl cce_10) → fl10 co = .inr (0, [.ref cr, .int n]) → fl10 cr = .inl (g 1, 1000, .inr (.inl v)) → (∀ b, b ∈ L → b ≠ ce → fl10 b = f b) → lv_has ls 6 [(5, .int x5_10), (4, .int x4_10), (3, .int x3_10), (0, .ref h)] → W p l e { frames := 2, cells := 0, slots := 0, locals := 47 } s m [.ref h, .int la, .int lh].toArray below meth c H locs 0 0 QQ (F0 m 10 ls []) := by
    intro fu
    induction fu with
    | zero => intro x5_10 x4_10 x3_10 cce_10 fl10 H locs ls ho10 S e_h e_ce e_co e_cr fr hl; exact no_some ho10
    | succ fu ih10 =>
      intro x5_10 x4_10 x3_10 cce_10 fl10 H locs ls ho10 S e_h e_ce e_co e_cr fr hl
      rw [mX5_pushBack_L10] at ho10
      refine lv_iload hx hb dX5_pushBack_10 (lv_at hl 0 rfl) ?_
      refine lv_if_lt (tgt := 43) hx hb dX5_pushBack_12 (by decide) (fun b12 => ?_) (fun b12 => ?_)
      · have ho10 := itT b12 ho10
        obtain rfl := Option.some.inj ho10
        exact EX10 fl10 _ _ _ S e_h e_ce e_co e_cr fr (lv_sub hl [] rfl)
      · have ho10 := itF b12 ho10
        refine lv_iload_n hx hb dX5_pushBack_15 rfl (lv_at hl 2 rfl) ?_
        refine lv_iload hx hb dX5_pushBack_16 (lv_at hl 1 rfl) ?_
        refine lv_aload_n hx hb dX5_pushBack_18 rfl (lv_at hl 3 rfl) ?_
        refine q_getN hx hb hts in_X6 hown S m_h e_h (C := RX6) (T := TX6) (N := 7) rfl 4 (by decide) rfl (by decide) dX5_pushBack_19 ?_
        obtain ⟨z22, hz22, ho10⟩ := bind_some ho10
        refine q_si (As := [.int x3_10, .int x4_10, .int sz]) (rest := []) ⟨hx, hb, hml, hown, hts⟩ (k_X4_otherNest l D g hz22) (va_cwS 3 hts gX5_pushBack_X4_otherNest rfl rfl rfl (by decide +kernel) ⟨Nat.le_of_ble_eq_true rfl, Nat.le_of_ble_eq_true rfl⟩) S rfl hl.1 rfl (Nat.le_of_ble_eq_true rfl) dX5_pushBack_22 ⟨Nat.le_of_ble_eq_true rfl, Nat.le_of_ble_eq_true rfl⟩ (fun r3 L1 f2 H locs S w22 => ?_)
        obtain ⟨ex22, eL, ef⟩ := w22
        rw [eL, ef] at S
        replace ex22 := ex22.symm
        subst ex22
        refine lv_istore_n (lv' := [(3, .int z22), (5, .int x5_10), (4, .int x4_10), (0, .ref h)]) hx hb dX5_pushBack_25 rfl hl (by decide) rfl (fun ls hl => ?_)
        refine lv_aload_n hx hb dX5_pushBack_26 rfl (lv_at hl 3 rfl) ?_
        refine lv_iload_n hx hb dX5_pushBack_27 rfl (lv_at hl 0 rfl) ?_
        refine lv_iload hx hb dX5_pushBack_28 (lv_at hl 1 rfl) ?_
        refine lv_iload hx hb dX5_pushBack_30 (lv_at hl 2 rfl) ?_
        obtain ⟨z32, hz32, ho10⟩ := bind_some ho10
        refine q_si (As := [.ref h, .int z22, .int x5_10, .int x4_10]) (rest := []) ⟨hx, hb, hml, hown, hts⟩ (k_X5_change l D g m_h e_h m_ce e_ce hz32) (va_cwS 4 hts gX5_pushBack_X5_change rfl rfl rfl (by decide +kernel) ⟨Nat.le_of_ble_eq_true rfl, Nat.le_of_ble_eq_true rfl⟩) S rfl hl.1 rfl (Nat.le_of_ble_eq_true rfl) dX5_pushBack_32 ⟨Nat.le_of_ble_eq_true rfl, Nat.le_of_ble_eq_true rfl⟩ (fun r6 L4 f5 H locs S w32 => ?_)
        obtain ⟨ex32, eL, fv32, E_ce⟩ := w32
        rw [eL] at S
        have fr : ∀ b, b ∈ L → b ≠ ce → f5 b = f b := fun b mb nb0 => (fv32 b mb nb0).trans (fr b mb nb0)
        have e_ce : f5 ce = .inl (g 0, 4096, .inl z32.2) := E_ce
        replace ex32 := ex32.symm
        subst ex32
        refine lv_istore (lv' := [(4, .int z32.1), (3, .int z22), (5, .int x5_10), (0, .ref h)]) hx hb dX5_pushBack_35 hl (by decide) rfl (fun ls hl => ?_)
        refine lv_iinc (v := (x5_10 + (-1))) (lv' := [(5, .int (x5_10 + (-1))), (4, .int z32.1), (3, .int z22), (0, .ref h)]) hx hb dX5_pushBack_37 hl (k := 2) rfl rfl (by decide) rfl (fun ls hl => ?_)
        refine lv_goto (tgt := 10) hx hb dX5_pushBack_40 (by decide) ?_
        have e_h := ((fv32 h m_h n_h_ce).trans e_h)
        have e_co := ((fv32 co m_co n_co_ce).trans e_co)
        have e_cr := ((fv32 cr m_cr n_cr_ce).trans e_cr)
        exact ih10 (x5_10 + (-1)) z32.1 z22 z32.2 f5 _ _ _ ho10 S e_h e_ce e_co e_cr fr (lv_sub hl [0, 1, 2, 3] rfl)
  exact LP10 FU (199 : Int32) lh la kc f _ _ _ ho10 S e_h e_ce e_co e_cr fr (lv_sub hl [0, 1, 2, 3] rfl)

def mX5_push_L8 (sz : Int32) : Nat → Int32 → Int32 → Int32 → (Nat → Int32) → Option ((Int32 × (Nat → Int32)) ⊕ (Int32 × Int32 × Int32 × (Nat → Int32)))
  | 0, _, _, _, _ => none
  | fu + 1, x5_8, x4_8, x3_8, cce_8 => if (200 : Int32) ≤ x5_8 then (some (.inr (x5_8, x4_8, x3_8, cce_8))) else ((mX5_change cce_8 x3_8 x5_8 x4_8).bind fun z22 => (mX4_otherNest x3_8 z22.1 sz).bind fun z34 => (mX5_settle z22.2 z34 z22.1).bind fun z42 => if z42.1 = 0 then (mX5_push_L8 sz fu (x5_8 + 1) z22.1 z34 z42.2) else (some (.inl ((1 : Int32), z42.2))))
def mX5_push (sz : Int32) (kc : Nat → Int32) (fi : Int32) (tg : Int32) : Option (Int32 × (Nat → Int32)) := (mX5_push_L8 sz FU (0 : Int32) tg fi kc).bind fun o8 => Sum.elim (fun r_ => some r_) (fun s8 => (mX5_pushBack sz s8.2.2.2 s8.2.2.1 s8.2.1).bind fun z60 => some ((0 : Int32), z60)) o8
set_option maxHeartbeats 4000000 in
set_option maxRecDepth 100000 in
theorem k_X5_push (l : Launch) (D : va_G) (g : Nat → ClassId) {L : List Nat} {f : Nat → va_E} {ce co cr h : Nat} {lay : Value} {kd : Int32} {sz : Int32} {mk : Int32} {sd : Int32} {kc : Nat → Int32} {n : Int32} {v : Nat → Int64} {fi : Int32} {tg : Int32} {z : Int32 × (Nat → Int32)} (m_h : h ∈ L) (e_h : f h = .inr (4, [.ref ce, .ref co, lay, .int kd, .int sz, .int mk, .int sd])) (m_ce : ce ∈ L) (e_ce : f ce = .inl (g 0, 4096, .inl kc)) (m_co : co ∈ L) (e_co : f co = .inr (0, [.ref cr, .int n])) (m_cr : cr ∈ L) (e_cr : f cr = .inl (g 1, 1000, .inr (.inl v)))    (hM : mX5_push sz kc fi tg = some z) : cI l yX5_push wsX5_push { frames := 3, cells := 0, slots := 0, locals := 72 } D g [.ref h, .int fi, .int tg] L f 0 0 (fun x L1 f1 => x = z.1 ∧ L1 = L ∧ (∀ b, b ∈ L → b ≠ ce → f1 b = f b) ∧ f1 ce = .inl (g 0, 4096, .inl z.2)) := by
  refine cI_of (cc := cX5_push) (maxL := 6) (ret := (some .boolean)) (by decide) rfl (Nat.le_of_ble_eq_true rfl) ?_
  intro szz p e s m below meth c hx hb hr hml hts hown hlk hnm S ls hl
  have hl : lv_has ls 6 [(0, .ref h), (1, .int fi), (2, .int tg)] := hl
  have in_X6 : ∀ w ∈ wsX60, w ∈ wsX5_push := gu_wsX5_push_3
  have n_h_ce : h ≠ ce := ne_ir e_ce e_h
  have n_co_ce : co ≠ ce := ne_ir e_ce e_co
  have n_cr_ce : cr ≠ ce := ne_len e_ce e_cr (by decide)
  have fr : ∀ b, b ∈ L → b ≠ ce → f b = f b := fun _ _ _ => rfl
  unfold mX5_push at hM
  refine W_gen (fun QQ hQQ => ?_)
  refine lv_iload_n hx hb dX5_push_0 rfl (lv_at hl 1 rfl) ?_
  refine lv_istore_n (lv' := [(3, .int fi), (0, .ref h), (1, .int fi), (2, .int tg)]) hx hb dX5_push_1 rfl hl (by decide) rfl (fun ls hl => ?_)
  refine lv_iload_n hx hb dX5_push_2 rfl (lv_at hl 3 rfl) ?_
  refine lv_istore (lv' := [(4, .int tg), (3, .int fi), (0, .ref h), (1, .int fi), (2, .int tg)]) hx hb dX5_push_3 hl (by decide) rfl (fun ls hl => ?_)
  refine lv_iconst (v := (0 : Int32)) hx hb dX5_push_5 (by decide) ?_
  refine lv_istore (lv' := [(5, .int (0 : Int32)), (4, .int tg), (3, .int fi), (0, .ref h), (1, .int fi), (2, .int tg)]) hx hb dX5_push_6 hl (by decide) rfl (fun ls hl => ?_)
  obtain ⟨o8, ho8, hM⟩ := bind_some hM
  have EX8 : ∀ (s8 : Int32 × Int32 × Int32 × (Nat → Int32)), o8 = .inr s8 → ∀ (fl8 : Nat → va_E) (H : Heap) (locs : List Loc) (ls : Array Slot), PS D g (va_A (va_pl L f) szz) s.heap s L fl8 H locs → fl8 h = .inr (4, [.ref ce, .ref co, lay, .int kd, .int sz, .int mk, .int sd]) → fl8 ce = .inl (g 0, 4096, .inl s8.2.2.2) → fl8 co = .inr (0, [.ref cr, .int n]) → fl8 cr = .inl (g 1, 1000, .inr (.inl v)) → (∀ b, b ∈ L → b ≠ ce → fl8 b = f b) → lv_has ls 6 [(4, .int s8.2.1), (3, .int s8.2.2.1), (0, .ref h)] → W p l e { frames := 3, cells := 0, slots := 0, locals := 72 } s m [.ref h, .int fi, .int tg].toArray below meth c H locs 0 0 QQ (F0 m 56 ls []) := by
    intro s8 eo8
    rw [eo8] at hM
    simp only [Sum.elim_inr] at hM
    intro fl8 H locs ls S e_h e_ce e_co e_cr fr hl
    refine lv_aload_n hx hb dX5_push_56 rfl (lv_at hl 2 rfl) ?_
    refine lv_iload_n hx hb dX5_push_57 rfl (lv_at hl 1 rfl) ?_
    refine lv_iload hx hb dX5_push_58 (lv_at hl 0 rfl) ?_
    obtain ⟨z60, hz60, hM⟩ := bind_some hM
    refine q_sv (As := [.ref h, .int s8.2.2.1, .int s8.2.1]) (rest := []) ⟨hx, hb, hml, hown, hts⟩ (k_X5_pushBack l D g m_h e_h m_ce e_ce m_co e_co m_cr e_cr hz60) (va_cwS 3 hts gX5_push_X5_pushBack rfl rfl rfl (by decide +kernel) ⟨Nat.le_of_ble_eq_true rfl, Nat.le_of_ble_eq_true rfl⟩) S rfl hl.1 rfl (Nat.le_of_ble_eq_true rfl) dX5_push_60 ⟨Nat.le_of_ble_eq_true rfl, Nat.le_of_ble_eq_true rfl⟩ (fun L1 f2 H locs S w60 => ?_)
    obtain ⟨eL, fv60, E_ce⟩ := w60
    rw [eL] at S
    have fr : ∀ b, b ∈ L → b ≠ ce → f2 b = f b := fun b mb nb0 => (fv60 b mb nb0).trans (fr b mb nb0)
    have e_ce : f2 ce = .inl (g 0, 4096, .inl z60) := E_ce
    refine lv_iconst (v := (0 : Int32)) hx hb dX5_push_63 (by decide) ?_
    subst hQQ
    exact q_retz (post := fun x L1 f1 => x = z.1 ∧ L1 = L ∧ (∀ b, b ∈ L → b ≠ ce → f1 b = f b) ∧ f1 ce = .inl (g 0, 4096, .inl z.2)) hx hb hr hlk S dX5_push_64 (by decide) (by decide) (by decide) (by have hz := Option.some.inj hM; subst hz; exact ⟨rfl, rfl, fr, e_ce⟩)
  have LP8 : ∀ (fu : Nat) (x5_8 : Int32) (x4_8 : Int32) (x3_8 : Int32) (cce_8 : Nat → Int32) (fl8 : Nat → va_E) (H : Heap) (locs : List Loc) (ls : Array Slot), (mX5_push_L8 sz) fu x5_8 x4_8 x3_8 cce_8 = some o8 → PS D g (va_A (va_pl L f) szz) s.heap s L fl8 H locs → fl8 h = .inr (4, [.ref ce, .ref co, lay, .int kd, .int sz, .int mk, .int sd]) → fl8 ce = .inl (g 0, 4096, .inl cce_8) → fl8 co = .inr (0, [.ref cr, .int n]) → fl8 cr = .inl (g 1, 1000, .inr (.inl v)) → (∀ b, b ∈ L → b ≠ ce → fl8 b = f b) → lv_has ls 6 [(5, .int x5_8), (4, .int x4_8), (3, .int x3_8), (0, .ref h)] → W p l e { frames := 3, cells := 0, slots := 0, locals := 72 } s m [.ref h, .int fi, .int tg].toArray below meth c H locs 0 0 QQ (F0 m 8 ls []) := by
    intro fu
    induction fu with
    | zero => intro x5_8 x4_8 x3_8 cce_8 fl8 H locs ls ho8 S e_h e_ce e_co e_cr fr hl; exact no_some ho8
    | succ fu ih8 =>
      intro x5_8 x4_8 x3_8 cce_8 fl8 H locs ls ho8 S e_h e_ce e_co e_cr fr hl
      rw [mX5_push_L8] at ho8
      refine lv_iload hx hb dX5_push_8 (lv_at hl 0 rfl) ?_
      refine lv_sipush (v := (200 : Int32)) hx hb dX5_push_10 (by decide) ?_
      refine lv_icmp_ge (tgt := 56) hx hb dX5_push_13 (by decide) (fun b13 => ?_) (fun b13 => ?_)
      · have ho8 := itT b13 ho8
        obtain rfl := Option.some.inj ho8
        exact EX8 _ rfl fl8 _ _ _ S e_h e_ce e_co e_cr fr (lv_sub hl [1, 2, 3] rfl)
      · have ho8 := itF b13 ho8
        refine lv_aload_n hx hb dX5_push_16 rfl (lv_at hl 3 rfl) ?_
        refine lv_iload_n hx hb dX5_push_17 rfl (lv_at hl 2 rfl) ?_
        refine lv_iload hx hb dX5_push_18 (lv_at hl 0 rfl) ?_
        refine lv_iload hx hb dX5_push_20 (lv_at hl 1 rfl) ?_
        obtain ⟨z22, hz22, ho8⟩ := bind_some ho8
        refine q_si (As := [.ref h, .int x3_8, .int x5_8, .int x4_8]) (rest := []) ⟨hx, hb, hml, hown, hts⟩ (k_X5_change l D g m_h e_h m_ce e_ce hz22) (va_cwS 4 hts gX5_push_X5_change rfl rfl rfl (by decide +kernel) ⟨Nat.le_of_ble_eq_true rfl, Nat.le_of_ble_eq_true rfl⟩) S rfl hl.1 rfl (Nat.le_of_ble_eq_true rfl) dX5_push_22 ⟨Nat.le_of_ble_eq_true rfl, Nat.le_of_ble_eq_true rfl⟩ (fun r6 L4 f5 H locs S w22 => ?_)
        obtain ⟨ex22, eL, fv22, E_ce⟩ := w22
        rw [eL] at S
        have fr : ∀ b, b ∈ L → b ≠ ce → f5 b = f b := fun b mb nb0 => (fv22 b mb nb0).trans (fr b mb nb0)
        have e_ce : f5 ce = .inl (g 0, 4096, .inl z22.2) := E_ce
        replace ex22 := ex22.symm
        subst ex22
        refine lv_istore (lv' := [(4, .int z22.1), (5, .int x5_8), (3, .int x3_8), (0, .ref h)]) hx hb dX5_push_25 hl (by decide) rfl (fun ls hl => ?_)
        refine lv_iload_n hx hb dX5_push_27 rfl (lv_at hl 2 rfl) ?_
        refine lv_iload hx hb dX5_push_28 (lv_at hl 0 rfl) ?_
        refine lv_aload_n hx hb dX5_push_30 rfl (lv_at hl 3 rfl) ?_
        have e_h := ((fv22 h m_h n_h_ce).trans e_h)
        refine q_getN hx hb hts in_X6 hown S m_h e_h (C := RX6) (T := TX6) (N := 7) rfl 4 (by decide) rfl (by decide) dX5_push_31 ?_
        obtain ⟨z34, hz34, ho8⟩ := bind_some ho8
        refine q_si (As := [.int x3_8, .int z22.1, .int sz]) (rest := []) ⟨hx, hb, hml, hown, hts⟩ (k_X4_otherNest l D g hz34) (va_cwS 3 hts gX5_push_X4_otherNest rfl rfl rfl (by decide +kernel) ⟨Nat.le_of_ble_eq_true rfl, Nat.le_of_ble_eq_true rfl⟩) S rfl hl.1 rfl (Nat.le_of_ble_eq_true rfl) dX5_push_34 ⟨Nat.le_of_ble_eq_true rfl, Nat.le_of_ble_eq_true rfl⟩ (fun r9 L7 f8 H locs S w34 => ?_)
        obtain ⟨ex34, eL, ef⟩ := w34
        rw [eL, ef] at S
        replace ex34 := ex34.symm
        subst ex34
        refine lv_istore_n (lv' := [(3, .int z34), (4, .int z22.1), (5, .int x5_8), (0, .ref h)]) hx hb dX5_push_37 rfl hl (by decide) rfl (fun ls hl => ?_)
        refine lv_aload_n hx hb dX5_push_38 rfl (lv_at hl 3 rfl) ?_
        refine lv_iload_n hx hb dX5_push_39 rfl (lv_at hl 0 rfl) ?_
        refine lv_iload hx hb dX5_push_40 (lv_at hl 1 rfl) ?_
        obtain ⟨z42, hz42, ho8⟩ := bind_some ho8
        refine q_si (As := [.ref h, .int z34, .int z22.1]) (rest := []) ⟨hx, hb, hml, hown, hts⟩ (k_X5_settle l D g m_h e_h m_ce e_ce hz42) (va_cwS 3 hts gX5_push_X5_settle rfl rfl rfl (by decide +kernel) ⟨Nat.le_of_ble_eq_true rfl, Nat.le_of_ble_eq_true rfl⟩) S rfl hl.1 rfl (Nat.le_of_ble_eq_true rfl) dX5_push_42 ⟨Nat.le_of_ble_eq_true rfl, Nat.le_of_ble_eq_true rfl⟩ (fun r12 L10 f11 H locs S w42 => ?_)
        obtain ⟨ex42, eL, fv42, E_ce⟩ := w42
        rw [eL] at S
        have fr : ∀ b, b ∈ L → b ≠ ce → f11 b = f b := fun b mb nb0 => (fv42 b mb nb0).trans (fr b mb nb0)
        have e_ce : f11 ce = .inl (g 0, 4096, .inl z42.2) := E_ce
        replace ex42 := ex42.symm
        subst ex42
        refine lv_if_eq (tgt := 50) hx hb dX5_push_45 (by decide) (fun b45 => ?_) (fun b45 => ?_)
        · have ho8 := itT b45 ho8
          refine lv_iinc (v := (x5_8 + 1)) (lv' := [(5, .int (x5_8 + 1)), (3, .int z34), (4, .int z22.1), (0, .ref h)]) hx hb dX5_push_50 hl (k := 2) rfl rfl (by decide) rfl (fun ls hl => ?_)
          refine lv_goto (tgt := 8) hx hb dX5_push_53 (by decide) ?_
          have e_h := ((fv42 h m_h n_h_ce).trans e_h)
          have e_co := ((fv42 co m_co n_co_ce).trans ((fv22 co m_co n_co_ce).trans e_co))
          have e_cr := ((fv42 cr m_cr n_cr_ce).trans ((fv22 cr m_cr n_cr_ce).trans e_cr))
          exact ih8 (x5_8 + 1) z22.1 z34 z42.2 f11 _ _ _ ho8 S e_h e_ce e_co e_cr fr (lv_sub hl [0, 2, 1, 3] rfl)
        · have ho8 := itF b45 ho8
          refine lv_iconst (v := (1 : Int32)) hx hb dX5_push_48 (by decide) ?_
          obtain rfl := Option.some.inj ho8
          simp only [Sum.elim_inl] at hM
          subst hQQ
          exact q_retz (post := fun x L1 f1 => x = z.1 ∧ L1 = L ∧ (∀ b, b ∈ L → b ≠ ce → f1 b = f b) ∧ f1 ce = .inl (g 0, 4096, .inl z.2)) hx hb hr hlk S dX5_push_49 (by decide) (by decide) (by decide) (by have hz := Option.some.inj hM; subst hz; exact ⟨rfl, rfl, fr, e_ce⟩)
  exact LP8 FU (0 : Int32) tg fi kc f _ _ _ ho8 S e_h e_ce e_co e_cr fr (lv_sub hl [0, 1, 2, 3] rfl)

def mX5_enter (sz : Int32) (kc : Nat → Int32) (mx : Int64) : Option (Int32 × (Nat → Int32)) := (mX4_nestTag mx).bind fun z1 => (mX4_firstNest mx sz).bind fun z10 => (mX5_settle kc z10 z1).bind fun z19 => if z19.1 = 0 then ((mX5_secondNest sz mx).bind fun z28 => (mX5_settle z19.2 z28 z1).bind fun z32 => if z32.1 = 0 then ((mX5_push sz z32.2 z10 z1).bind fun z42 => if z42.1 = 0 then (some ((0 : Int32), z42.2)) else (some ((1 : Int32), z42.2))) else (some ((1 : Int32), z32.2))) else (some ((1 : Int32), z19.2))
set_option maxHeartbeats 4000000 in
set_option maxRecDepth 100000 in
theorem k_X5_enter (l : Launch) (D : va_G) (g : Nat → ClassId) {L : List Nat} {f : Nat → va_E} {ce co cr h : Nat} {lay : Value} {kd : Int32} {sz : Int32} {mk : Int32} {sd : Int32} {kc : Nat → Int32} {n : Int32} {v : Nat → Int64} {mx : Int64} {z : Int32 × (Nat → Int32)} (m_h : h ∈ L) (e_h : f h = .inr (4, [.ref ce, .ref co, lay, .int kd, .int sz, .int mk, .int sd])) (m_ce : ce ∈ L) (e_ce : f ce = .inl (g 0, 4096, .inl kc)) (m_co : co ∈ L) (e_co : f co = .inr (0, [.ref cr, .int n])) (m_cr : cr ∈ L) (e_cr : f cr = .inl (g 1, 1000, .inr (.inl v)))    (hM : mX5_enter sz kc mx = some z) : cI l yX5_enter wsX5_enter { frames := 4, cells := 0, slots := 0, locals := 97 } D g [.ref h, .long mx] L f 0 0 (fun x L1 f1 => x = z.1 ∧ L1 = L ∧ (∀ b, b ∈ L → b ≠ ce → f1 b = f b) ∧ f1 ce = .inl (g 0, 4096, .inl z.2)) := by
  refine cI_of (cc := cX5_enter) (maxL := 5) (ret := (some .boolean)) (by decide) rfl (Nat.le_of_ble_eq_true rfl) ?_
  intro szz p e s m below meth c hx hb hr hml hts hown hlk hnm S ls hl
  have hl : lv_has ls 5 [(0, .ref h), (1, .long mx)] := hl
  have in_X6 : ∀ w ∈ wsX60, w ∈ wsX5_enter := gu_wsX5_enter_3
  have n_h_ce : h ≠ ce := ne_ir e_ce e_h
  have n_co_ce : co ≠ ce := ne_ir e_ce e_co
  have n_cr_ce : cr ≠ ce := ne_len e_ce e_cr (by decide)
  have fr : ∀ b, b ∈ L → b ≠ ce → f b = f b := fun _ _ _ => rfl
  unfold mX5_enter at hM
  refine W_gen (fun QQ hQQ => ?_)
  refine lv_lload_n hx hb dX5_enter_0 rfl (lv_at hl 1 rfl) ?_
  obtain ⟨z1, hz1, hM⟩ := bind_some hM
  refine q_si (As := [.long mx]) (rest := []) ⟨hx, hb, hml, hown, hts⟩ (k_X4_nestTag l D g hz1) (va_cwS 1 hts gX5_enter_X4_nestTag rfl rfl rfl (by decide +kernel) ⟨Nat.le_of_ble_eq_true rfl, Nat.le_of_ble_eq_true rfl⟩) S rfl hl.1 rfl (Nat.le_of_ble_eq_true rfl) dX5_enter_1 ⟨Nat.le_of_ble_eq_true rfl, Nat.le_of_ble_eq_true rfl⟩ (fun r3 L1 f2 H locs S w1 => ?_)
  obtain ⟨ex1, eL, ef⟩ := w1
  rw [eL, ef] at S
  replace ex1 := ex1.symm
  subst ex1
  refine lv_istore_n (lv' := [(3, .int z1), (0, .ref h), (1, .long mx)]) hx hb dX5_enter_4 rfl hl (by decide) rfl (fun ls hl => ?_)
  refine lv_lload_n hx hb dX5_enter_5 rfl (lv_at hl 2 rfl) ?_
  refine lv_aload_n hx hb dX5_enter_6 rfl (lv_at hl 1 rfl) ?_
  refine q_getN hx hb hts in_X6 hown S m_h e_h (C := RX6) (T := TX6) (N := 7) rfl 4 (by decide) rfl (by decide) dX5_enter_7 ?_
  obtain ⟨z10, hz10, hM⟩ := bind_some hM
  refine q_si (As := [.long mx, .int sz]) (rest := []) ⟨hx, hb, hml, hown, hts⟩ (k_X4_firstNest l D g hz10) (va_cwS 2 hts gX5_enter_X4_firstNest rfl rfl rfl (by decide +kernel) ⟨Nat.le_of_ble_eq_true rfl, Nat.le_of_ble_eq_true rfl⟩) S rfl hl.1 rfl (Nat.le_of_ble_eq_true rfl) dX5_enter_10 ⟨Nat.le_of_ble_eq_true rfl, Nat.le_of_ble_eq_true rfl⟩ (fun r6 L4 f5 H locs S w10 => ?_)
  obtain ⟨ex10, eL, ef⟩ := w10
  rw [eL, ef] at S
  replace ex10 := ex10.symm
  subst ex10
  refine lv_istore (lv' := [(4, .int z10), (3, .int z1), (0, .ref h), (1, .long mx)]) hx hb dX5_enter_13 hl (by decide) rfl (fun ls hl => ?_)
  refine lv_aload_n hx hb dX5_enter_15 rfl (lv_at hl 2 rfl) ?_
  refine lv_iload hx hb dX5_enter_16 (lv_at hl 0 rfl) ?_
  refine lv_iload_n hx hb dX5_enter_18 rfl (lv_at hl 1 rfl) ?_
  obtain ⟨z19, hz19, hM⟩ := bind_some hM
  refine q_si (As := [.ref h, .int z10, .int z1]) (rest := []) ⟨hx, hb, hml, hown, hts⟩ (k_X5_settle l D g m_h e_h m_ce e_ce hz19) (va_cwS 3 hts gX5_enter_X5_settle rfl rfl rfl (by decide +kernel) ⟨Nat.le_of_ble_eq_true rfl, Nat.le_of_ble_eq_true rfl⟩) S rfl hl.1 rfl (Nat.le_of_ble_eq_true rfl) dX5_enter_19 ⟨Nat.le_of_ble_eq_true rfl, Nat.le_of_ble_eq_true rfl⟩ (fun r9 L7 f8 H locs S w19 => ?_)
  obtain ⟨ex19, eL, fv19, E_ce⟩ := w19
  rw [eL] at S
  have fr : ∀ b, b ∈ L → b ≠ ce → f8 b = f b := fun b mb nb0 => (fv19 b mb nb0).trans (fr b mb nb0)
  have e_ce : f8 ce = .inl (g 0, 4096, .inl z19.2) := E_ce
  replace ex19 := ex19.symm
  subst ex19
  refine lv_if_ne (tgt := 48) hx hb dX5_enter_22 (by decide) (fun b22 => ?_) (fun b22 => ?_)
  · have hM := itF b22 hM
    refine lv_iconst (v := (1 : Int32)) hx hb dX5_enter_48 (by decide) ?_
    refine lv_goto (tgt := 53) hx hb dX5_enter_49 (by decide) ?_
    subst hQQ
    exact q_retz (post := fun x L1 f1 => x = z.1 ∧ L1 = L ∧ (∀ b, b ∈ L → b ≠ ce → f1 b = f b) ∧ f1 ce = .inl (g 0, 4096, .inl z.2)) hx hb hr hlk S dX5_enter_53 (by decide) (by decide) (by decide) (by have hz := Option.some.inj hM; subst hz; exact ⟨rfl, rfl, fr, e_ce⟩)
  · have hM := itT b22 hM
    refine lv_aload_n hx hb dX5_enter_25 rfl (lv_at hl 2 rfl) ?_
    refine lv_aload_n hx hb dX5_enter_26 rfl (lv_at hl 2 rfl) ?_
    refine lv_lload_n hx hb dX5_enter_27 rfl (lv_at hl 3 rfl) ?_
    obtain ⟨z28, hz28, hM⟩ := bind_some hM
    have e_h := ((fv19 h m_h n_h_ce).trans e_h)
    refine q_si (As := [.ref h, .long mx]) (rest := [.ref h]) ⟨hx, hb, hml, hown, hts⟩ (k_X5_secondNest l D g m_h e_h hz28) (va_cwS 2 hts gX5_enter_X5_secondNest rfl rfl rfl (by decide +kernel) ⟨Nat.le_of_ble_eq_true rfl, Nat.le_of_ble_eq_true rfl⟩) S rfl hl.1 rfl (Nat.le_of_ble_eq_true rfl) dX5_enter_28 ⟨Nat.le_of_ble_eq_true rfl, Nat.le_of_ble_eq_true rfl⟩ (fun r12 L10 f11 H locs S w28 => ?_)
    obtain ⟨ex28, eL, ef⟩ := w28
    rw [eL, ef] at S
    replace ex28 := ex28.symm
    subst ex28
    refine lv_iload_n hx hb dX5_enter_31 rfl (lv_at hl 1 rfl) ?_
    obtain ⟨z32, hz32, hM⟩ := bind_some hM
    refine q_si (As := [.ref h, .int z28, .int z1]) (rest := []) ⟨hx, hb, hml, hown, hts⟩ (k_X5_settle l D g m_h e_h m_ce e_ce hz32) (va_cwS 3 hts gX5_enter_X5_settle rfl rfl rfl (by decide +kernel) ⟨Nat.le_of_ble_eq_true rfl, Nat.le_of_ble_eq_true rfl⟩) S rfl hl.1 rfl (Nat.le_of_ble_eq_true rfl) dX5_enter_32 ⟨Nat.le_of_ble_eq_true rfl, Nat.le_of_ble_eq_true rfl⟩ (fun r15 L13 f14 H locs S w32 => ?_)
    obtain ⟨ex32, eL, fv32, E_ce⟩ := w32
    rw [eL] at S
    have fr : ∀ b, b ∈ L → b ≠ ce → f14 b = f b := fun b mb nb0 => (fv32 b mb nb0).trans (fr b mb nb0)
    have e_ce : f14 ce = .inl (g 0, 4096, .inl z32.2) := E_ce
    replace ex32 := ex32.symm
    subst ex32
    refine lv_if_ne (tgt := 48) hx hb dX5_enter_35 (by decide) (fun b35 => ?_) (fun b35 => ?_)
    · have hM := itF b35 hM
      refine lv_iconst (v := (1 : Int32)) hx hb dX5_enter_48 (by decide) ?_
      refine lv_goto (tgt := 53) hx hb dX5_enter_49 (by decide) ?_
      subst hQQ
      exact q_retz (post := fun x L1 f1 => x = z.1 ∧ L1 = L ∧ (∀ b, b ∈ L → b ≠ ce → f1 b = f b) ∧ f1 ce = .inl (g 0, 4096, .inl z.2)) hx hb hr hlk S dX5_enter_53 (by decide) (by decide) (by decide) (by have hz := Option.some.inj hM; subst hz; exact ⟨rfl, rfl, fr, e_ce⟩)
    · have hM := itT b35 hM
      refine lv_aload_n hx hb dX5_enter_38 rfl (lv_at hl 2 rfl) ?_
      refine lv_iload hx hb dX5_enter_39 (lv_at hl 0 rfl) ?_
      refine lv_iload_n hx hb dX5_enter_41 rfl (lv_at hl 1 rfl) ?_
      obtain ⟨z42, hz42, hM⟩ := bind_some hM
      have e_h := ((fv32 h m_h n_h_ce).trans e_h)
      have e_co := ((fv32 co m_co n_co_ce).trans ((fv19 co m_co n_co_ce).trans e_co))
      have e_cr := ((fv32 cr m_cr n_cr_ce).trans ((fv19 cr m_cr n_cr_ce).trans e_cr))
      refine q_si (As := [.ref h, .int z10, .int z1]) (rest := []) ⟨hx, hb, hml, hown, hts⟩ (k_X5_push l D g m_h e_h m_ce e_ce m_co e_co m_cr e_cr hz42) (va_cwS 3 hts gX5_enter_X5_push rfl rfl rfl (by decide +kernel) ⟨Nat.le_of_ble_eq_true rfl, Nat.le_of_ble_eq_true rfl⟩) S rfl hl.1 rfl (Nat.le_of_ble_eq_true rfl) dX5_enter_42 ⟨Nat.le_of_ble_eq_true rfl, Nat.le_of_ble_eq_true rfl⟩ (fun r18 L16 f17 H locs S w42 => ?_)
      obtain ⟨ex42, eL, fv42, E_ce⟩ := w42
      rw [eL] at S
      have fr : ∀ b, b ∈ L → b ≠ ce → f17 b = f b := fun b mb nb0 => (fv42 b mb nb0).trans (fr b mb nb0)
      have e_ce : f17 ce = .inl (g 0, 4096, .inl z42.2) := E_ce
      replace ex42 := ex42.symm
      subst ex42
      refine lv_if_eq (tgt := 52) hx hb dX5_enter_45 (by decide) (fun b45 => ?_) (fun b45 => ?_)
      · have hM := itT b45 hM
        refine lv_iconst (v := (0 : Int32)) hx hb dX5_enter_52 (by decide) ?_
        subst hQQ
        exact q_retz (post := fun x L1 f1 => x = z.1 ∧ L1 = L ∧ (∀ b, b ∈ L → b ≠ ce → f1 b = f b) ∧ f1 ce = .inl (g 0, 4096, .inl z.2)) hx hb hr hlk S dX5_enter_53 (by decide) (by decide) (by decide) (by have hz := Option.some.inj hM; subst hz; exact ⟨rfl, rfl, fr, e_ce⟩)
      · have hM := itF b45 hM
        refine lv_iconst (v := (1 : Int32)) hx hb dX5_enter_48 (by decide) ?_
        refine lv_goto (tgt := 53) hx hb dX5_enter_49 (by decide) ?_
        subst hQQ
        exact q_retz (post := fun x L1 f1 => x = z.1 ∧ L1 = L ∧ (∀ b, b ∈ L → b ≠ ce → f1 b = f b) ∧ f1 ce = .inl (g 0, 4096, .inl z.2)) hx hb hr hlk S dX5_enter_53 (by decide) (by decide) (by decide) (by have hz := Option.some.inj hM; subst hz; exact ⟨rfl, rfl, fr, e_ce⟩)

def mX6_raiseMarks_L18 (sz : Int32) (mk : Int32) (mx : Int64) : Nat → Int32 → Int32 → (Nat → Int32) → Option (Int32 × Int32 × (Nat → Int32))
  | 0, _, _, _ => none
  | fu + 1, x4_18, x3_18, cce_18 => if mk ≤ x4_18 then (some (x4_18, x3_18, cce_18)) else ((mX4_markPlace mx x4_18 sz).bind fun z34 => (mX6_cellAt cce_18 z34).bind fun z46 => (mX6_setCell cce_18 z34 (imn x3_18 (z46 + (1 : Int32)))).bind fun z54 => mX6_raiseMarks_L18 sz mk mx fu (x4_18 + 1) x3_18 z54)
def mX6_raiseMarks (kd : Int32) (sz : Int32) (mk : Int32) (kc : Nat → Int32) (mx : Int64) : Option ((Nat → Int32)) := if kd = (1 : Int32) then ((mX6_raiseMarks_L18 sz mk mx FU (0 : Int32) (15 : Int32) kc).bind fun o18 => some o18.2.2) else ((mX6_raiseMarks_L18 sz mk mx FU (0 : Int32) (1 : Int32) kc).bind fun o18 => some o18.2.2)
set_option maxHeartbeats 4000000 in
set_option maxRecDepth 100000 in
theorem k_X6_raiseMarks (l : Launch) (D : va_G) (g : Nat → ClassId) {L : List Nat} {f : Nat → va_E} {ce co cr h : Nat} {lay : Value} {kd : Int32} {sz : Int32} {mk : Int32} {sd : Int32} {kc : Nat → Int32} {n : Int32} {v : Nat → Int64} {mx : Int64} {z : (Nat → Int32)} (m_h : h ∈ L) (e_h : f h = .inr (4, [.ref ce, .ref co, lay, .int kd, .int sz, .int mk, .int sd])) (m_ce : ce ∈ L) (e_ce : f ce = .inl (g 0, 4096, .inl kc)) (m_co : co ∈ L) (e_co : f co = .inr (0, [.ref cr, .int n])) (m_cr : cr ∈ L) (e_cr : f cr = .inl (g 1, 1000, .inr (.inl v)))    (hM : mX6_raiseMarks kd sz mk kc mx = some z) : cV l yX6_raiseMarks wsX6_raiseMarks { frames := 1, cells := 0, slots := 0, locals := 27 } D g [.ref h, .long mx] L f 0 0 (fun L1 f1 => L1 = L ∧ (∀ b, b ∈ L → b ≠ ce → f1 b = f b) ∧ f1 ce = .inl (g 0, 4096, .inl z)) := by
  refine cV_of (cc := cX6_raiseMarks) (maxL := 6) (ret := none) (by decide) rfl (Nat.le_of_ble_eq_true rfl) ?_
  intro szz p e s m below meth c hx hb hr hml hts hown hlk hnm S ls hl
  have hl : lv_has ls 6 [(0, .ref h), (1, .long mx)] := hl
  have in_X6 : ∀ w ∈ wsX60, w ∈ wsX6_raiseMarks := gu_wsX6_raiseMarks_2
  have n_h_ce : h ≠ ce := ne_ir e_ce e_h
  have n_co_ce : co ≠ ce := ne_ir e_ce e_co
  have n_cr_ce : cr ≠ ce := ne_len e_ce e_cr (by decide)
  have fr : ∀ b, b ∈ L → b ≠ ce → f b = f b := fun _ _ _ => rfl
  unfold mX6_raiseMarks at hM
  refine W_gen (fun QQ hQQ => ?_)
  refine lv_aload_n hx hb dX6_raiseMarks_0 rfl (lv_at hl 0 rfl) ?_
  refine q_get hx hb hts in_X6 hown S m_h e_h (C := RX6) (T := TX6) (N := 7) rfl 3 (by decide) rfl (hts (.fieldLink RX6 22 "SieveCabinet$Sieve" "kind" "I") (gu_wsX6_raiseMarks_1 _ gm_0)) dX6_raiseMarks_1 ?_
  refine lv_iconst (v := (1 : Int32)) hx hb dX6_raiseMarks_4 (by decide) ?_
  refine lv_icmp_ne (tgt := 13) hx hb dX6_raiseMarks_5 (by decide) (fun b5 => ?_) (fun b5 => ?_)
  · have hM := itF b5 hM
    refine lv_iconst (v := (1 : Int32)) hx hb dX6_raiseMarks_13 (by decide) ?_
    refine lv_istore_n (lv' := [(3, .int (1 : Int32)), (0, .ref h), (1, .long mx)]) hx hb dX6_raiseMarks_14 rfl hl (by decide) rfl (fun ls hl => ?_)
    refine lv_iconst (v := (0 : Int32)) hx hb dX6_raiseMarks_15 (by decide) ?_
    refine lv_istore (lv' := [(4, .int (0 : Int32)), (3, .int (1 : Int32)), (0, .ref h), (1, .long mx)]) hx hb dX6_raiseMarks_16 hl (by decide) rfl (fun ls hl => ?_)
    obtain ⟨o18, ho18, hM⟩ := bind_some hM
    have EX18 : ∀ (fl18 : Nat → va_E) (H : Heap) (locs : List Loc) (ls : Array Slot), PS D g (va_A (va_pl L f) szz) s.heap s L fl18 H locs → fl18 h = .inr (4, [.ref ce, .ref co, lay, .int kd, .int sz, .int mk, .int sd]) → fl18 ce = .inl (g 0, 4096, .inl o18.2.2) → fl18 co = .inr (0, [.ref cr, .int n]) → fl18 cr = .inl (g 1, 1000, .inr (.inl v)) → (∀ b, b ∈ L → b ≠ ce → fl18 b = f b) → lv_has ls 6 [] → W p l e { frames := 1, cells := 0, slots := 0, locals := 27 } s m [.ref h, .long mx].toArray below meth c H locs 0 0 QQ (F0 m 63 ls []) := by
      intro fl18 H locs ls S e_h e_ce e_co e_cr fr hl
      subst hQQ
      exact q_retv (post := fun L1 f1 => L1 = L ∧ (∀ b, b ∈ L → b ≠ ce → f1 b = f b) ∧ f1 ce = .inl (g 0, 4096, .inl z)) hx hb hr hlk S dX6_raiseMarks_63 (by decide) (by decide) (by have hz := Option.some.inj hM; subst hz; exact ⟨rfl, fr, e_ce⟩)
    have LP18 : ∀ (fu : Nat) (x4_18 : Int32) (x3_18 : Int32) (cce_18 : Nat → Int32) (fl18 : Nat → va_E) (H : Heap) (locs : List Loc) (ls : Array Slot), (mX6_raiseMarks_L18 sz mk mx) fu x4_18 x3_18 cce_18 = some o18 → PS D g (va_A (va_pl L f) szz) s.heap s L fl18 H locs → fl18 h = .inr (4, [.ref ce, .ref co, lay, .int kd, .int sz, .int mk, .int sd]) → fl18 ce = .inl (g 0, 4096, .inl cce_18) → fl18 co = .inr (0, [.ref cr, .int n]) → fl18 cr = .inl (g 1, 1000, .inr (.inl v)) → (∀ b, b ∈ L → b ≠ ce → fl18 b = f b) → lv_has ls 6 [(4, .int x4_18), (3, .int x3_18), (0, .ref h), (1, .long mx)] → W p l e { frames := 1, cells := 0, slots := 0, locals := 27 } s m [.ref h, .long mx].toArray below meth c H locs 0 0 QQ (F0 m 18 ls []) := by
      intro fu
      induction fu with
      | zero => intro x4_18 x3_18 cce_18 fl18 H locs ls ho18 S e_h e_ce e_co e_cr fr hl; exact no_some ho18
      | succ fu ih18 =>
        intro x4_18 x3_18 cce_18 fl18 H locs ls ho18 S e_h e_ce e_co e_cr fr hl
        rw [mX6_raiseMarks_L18] at ho18
        refine lv_iload hx hb dX6_raiseMarks_18 (lv_at hl 0 rfl) ?_
        refine lv_aload_n hx hb dX6_raiseMarks_20 rfl (lv_at hl 2 rfl) ?_
        refine q_get hx hb hts in_X6 hown S m_h e_h (C := RX6) (T := TX6) (N := 7) rfl 5 (by decide) rfl (hts (.fieldLink RX6 29 "SieveCabinet$Sieve" "marks" "I") (gu_wsX6_raiseMarks_1 _ gm_1)) dX6_raiseMarks_21 ?_
        refine lv_icmp_ge (tgt := 63) hx hb dX6_raiseMarks_24 (by decide) (fun b24 => ?_) (fun b24 => ?_)
        · have ho18 := itT b24 ho18
          obtain rfl := Option.some.inj ho18
          exact EX18 fl18 _ _ _ S e_h e_ce e_co e_cr fr (lv_sub hl [] rfl)
        · have ho18 := itF b24 ho18
          refine lv_lload_n hx hb dX6_raiseMarks_27 rfl (lv_at hl 3 rfl) ?_
          refine lv_iload hx hb dX6_raiseMarks_28 (lv_at hl 0 rfl) ?_
          refine lv_aload_n hx hb dX6_raiseMarks_30 rfl (lv_at hl 2 rfl) ?_
          refine q_get hx hb hts in_X6 hown S m_h e_h (C := RX6) (T := TX6) (N := 7) rfl 4 (by decide) rfl (hts (.fieldLink RX6 26 "SieveCabinet$Sieve" "size" "I") (gu_wsX6_raiseMarks_1 _ gm_2)) dX6_raiseMarks_31 ?_
          obtain ⟨z34, hz34, ho18⟩ := bind_some ho18
          refine q_si (As := [.long mx, .int x4_18, .int sz]) (rest := []) ⟨hx, hb, hml, hown, hts⟩ (k_X4_markPlace l D g hz34) (va_cwS 3 hts gX6_raiseMarks_X4_markPlace rfl rfl rfl (by decide +kernel) ⟨Nat.le_of_ble_eq_true rfl, Nat.le_of_ble_eq_true rfl⟩) S rfl hl.1 rfl (Nat.le_of_ble_eq_true rfl) dX6_raiseMarks_34 ⟨Nat.le_of_ble_eq_true rfl, Nat.le_of_ble_eq_true rfl⟩ (fun r3 L1 f2 H locs S w34 => ?_)
          obtain ⟨ex34, eL, ef⟩ := w34
          rw [eL, ef] at S
          replace ex34 := ex34.symm
          subst ex34
          refine lv_istore (lv' := [(5, .int z34), (4, .int x4_18), (3, .int x3_18), (0, .ref h), (1, .long mx)]) hx hb dX6_raiseMarks_37 hl (by decide) rfl (fun ls hl => ?_)
          refine lv_aload_n hx hb dX6_raiseMarks_39 rfl (lv_at hl 3 rfl) ?_
          refine lv_iload hx hb dX6_raiseMarks_40 (lv_at hl 0 rfl) ?_
          refine lv_iload_n hx hb dX6_raiseMarks_42 rfl (lv_at hl 2 rfl) ?_
          refine lv_aload_n hx hb dX6_raiseMarks_43 rfl (lv_at hl 3 rfl) ?_
          refine lv_iload hx hb dX6_raiseMarks_44 (lv_at hl 0 rfl) ?_
          obtain ⟨z46, hz46, ho18⟩ := bind_some ho18
          refine q_vi (As := [.int z34]) (rest := [.int x3_18, .int z34, .ref h]) ⟨hx, hb, hml, hown, hts⟩ (k_X6_cellAt l D g m_h e_h m_ce e_ce hz46) (cwV 1 hts gX6_raiseMarks_X6_cellAt rfl rfl rfl (by decide +kernel) ⟨Nat.le_of_ble_eq_true rfl, Nat.le_of_ble_eq_true rfl⟩) S m_h e_h (T := TX6) (N := 7) rfl rfl hl.1 rfl (Nat.le_of_ble_eq_true rfl) dX6_raiseMarks_46 ⟨Nat.le_of_ble_eq_true rfl, Nat.le_of_ble_eq_true rfl⟩ (fun r6 L4 f5 H locs S w46 => ?_)
          obtain ⟨ex46, eL, ef⟩ := w46
          rw [eL, ef] at S
          replace ex46 := ex46.symm
          subst ex46
          refine lv_iconst (v := (1 : Int32)) hx hb dX6_raiseMarks_49 (by decide) ?_
          refine lv_iadd hx hb dX6_raiseMarks_50 ?_
          refine va_mmin (rest := [.int z34, .ref h]) hx hb (by rw [hml]; exact hl.1.symm) hown (hts (.methodLink RX6 142 Lib.Math.min.name) (gu_wsX6_raiseMarks_1 _ gm_3)) (hts (.static Lib.Math.min.name) (gu_wsX6_raiseMarks_1 _ gm_4)) (hts (.initialized "java/lang/Math") (gu_wsX6_raiseMarks_1 _ gm_5)) (hts (.code Lib.Math.min.name Lib.Math.min.code 2 (some .int)) (gu_wsX6_raiseMarks_1 _ gm_6)) (Nat.le_of_ble_eq_true rfl) (Nat.le_of_ble_eq_true rfl) (Nat.le_of_ble_eq_true rfl) (Nat.le_of_ble_eq_true rfl) dX6_raiseMarks_51 ?_
          refine W.eq (g2 := F0 m 54 ls [.int (imn x3_18 (z46 + (1 : Int32))), .int z34, .ref h]) rfl ?_
          obtain ⟨z54, hz54, ho18⟩ := bind_some ho18
          refine q_vv (As := [.int z34, .int (imn x3_18 (z46 + (1 : Int32)))]) (rest := []) ⟨hx, hb, hml, hown, hts⟩ (k_X6_setCell l D g m_h e_h m_ce e_ce hz54) (cwV 2 hts gX6_raiseMarks_X6_setCell rfl rfl rfl (by decide +kernel) ⟨Nat.le_of_ble_eq_true rfl, Nat.le_of_ble_eq_true rfl⟩) S m_h e_h (T := TX6) (N := 7) rfl rfl hl.1 rfl (Nat.le_of_ble_eq_true rfl) dX6_raiseMarks_54 ⟨Nat.le_of_ble_eq_true rfl, Nat.le_of_ble_eq_true rfl⟩ (fun L7 f8 H locs S w54 => ?_)
          obtain ⟨eL, fv54, E_ce⟩ := w54
          rw [eL] at S
          have fr : ∀ b, b ∈ L → b ≠ ce → f8 b = f b := fun b mb nb0 => (fv54 b mb nb0).trans (fr b mb nb0)
          have e_ce : f8 ce = .inl (g 0, 4096, .inl z54) := E_ce
          refine lv_iinc (v := (x4_18 + 1)) (lv' := [(4, .int (x4_18 + 1)), (5, .int z34), (3, .int x3_18), (0, .ref h), (1, .long mx)]) hx hb dX6_raiseMarks_57 hl (k := 1) rfl rfl (by decide) rfl (fun ls hl => ?_)
          refine lv_goto (tgt := 18) hx hb dX6_raiseMarks_60 (by decide) ?_
          have e_h := ((fv54 h m_h n_h_ce).trans e_h)
          have e_co := ((fv54 co m_co n_co_ce).trans e_co)
          have e_cr := ((fv54 cr m_cr n_cr_ce).trans e_cr)
          exact ih18 (x4_18 + 1) x3_18 z54 f8 _ _ _ ho18 S e_h e_ce e_co e_cr fr (lv_sub hl [0, 2, 3, 4] rfl)
    exact LP18 FU (0 : Int32) (1 : Int32) kc f _ _ _ ho18 S e_h e_ce e_co e_cr fr (lv_sub hl [0, 1, 2, 3] rfl)
  · have hM := itT b5 hM
    refine lv_bipush (v := (15 : Int32)) hx hb dX6_raiseMarks_8 (by decide) ?_
    refine lv_goto (tgt := 14) hx hb dX6_raiseMarks_10 (by decide) ?_
    refine lv_istore_n (lv' := [(3, .int (15 : Int32)), (0, .ref h), (1, .long mx)]) hx hb dX6_raiseMarks_14 rfl hl (by decide) rfl (fun ls hl => ?_)
    refine lv_iconst (v := (0 : Int32)) hx hb dX6_raiseMarks_15 (by decide) ?_
    refine lv_istore (lv' := [(4, .int (0 : Int32)), (3, .int (15 : Int32)), (0, .ref h), (1, .long mx)]) hx hb dX6_raiseMarks_16 hl (by decide) rfl (fun ls hl => ?_)
    obtain ⟨o18, ho18, hM⟩ := bind_some hM
    have EX18 : ∀ (fl18 : Nat → va_E) (H : Heap) (locs : List Loc) (ls : Array Slot), PS D g (va_A (va_pl L f) szz) s.heap s L fl18 H locs → fl18 h = .inr (4, [.ref ce, .ref co, lay, .int kd, .int sz, .int mk, .int sd]) → fl18 ce = .inl (g 0, 4096, .inl o18.2.2) → fl18 co = .inr (0, [.ref cr, .int n]) → fl18 cr = .inl (g 1, 1000, .inr (.inl v)) → (∀ b, b ∈ L → b ≠ ce → fl18 b = f b) → lv_has ls 6 [] → W p l e { frames := 1, cells := 0, slots := 0, locals := 27 } s m [.ref h, .long mx].toArray below meth c H locs 0 0 QQ (F0 m 63 ls []) := by
      intro fl18 H locs ls S e_h e_ce e_co e_cr fr hl
      subst hQQ
      exact q_retv (post := fun L1 f1 => L1 = L ∧ (∀ b, b ∈ L → b ≠ ce → f1 b = f b) ∧ f1 ce = .inl (g 0, 4096, .inl z)) hx hb hr hlk S dX6_raiseMarks_63 (by decide) (by decide) (by have hz := Option.some.inj hM; subst hz; exact ⟨rfl, fr, e_ce⟩)
    have LP18 : ∀ (fu : Nat) (x4_18 : Int32) (x3_18 : Int32) (cce_18 : Nat → Int32) (fl18 : Nat → va_E) (H : Heap) (locs : List Loc) (ls : Array Slot), (mX6_raiseMarks_L18 sz mk mx) fu x4_18 x3_18 cce_18 = some o18 → PS D g (va_A (va_pl L f) szz) s.heap s L fl18 H locs → fl18 h = .inr (4, [.ref ce, .ref co, lay, .int kd, .int sz, .int mk, .int sd]) → fl18 ce = .inl (g 0, 4096, .inl cce_18) → fl18 co = .inr (0, [.ref cr, .int n]) → fl18 cr = .inl (g 1, 1000, .inr (.inl v)) → (∀ b, b ∈ L → b ≠ ce → fl18 b = f b) → lv_has ls 6 [(4, .int x4_18), (3, .int x3_18), (0, .ref h), (1, .long mx)] → W p l e { frames := 1, cells := 0, slots := 0, locals := 27 } s m [.ref h, .long mx].toArray below meth c H locs 0 0 QQ (F0 m 18 ls []) := by
      intro fu
      induction fu with
      | zero => intro x4_18 x3_18 cce_18 fl18 H locs ls ho18 S e_h e_ce e_co e_cr fr hl; exact no_some ho18
      | succ fu ih18 =>
        intro x4_18 x3_18 cce_18 fl18 H locs ls ho18 S e_h e_ce e_co e_cr fr hl
        rw [mX6_raiseMarks_L18] at ho18
        refine lv_iload hx hb dX6_raiseMarks_18 (lv_at hl 0 rfl) ?_
        refine lv_aload_n hx hb dX6_raiseMarks_20 rfl (lv_at hl 2 rfl) ?_
        refine q_get hx hb hts in_X6 hown S m_h e_h (C := RX6) (T := TX6) (N := 7) rfl 5 (by decide) rfl (hts (.fieldLink RX6 29 "SieveCabinet$Sieve" "marks" "I") (gu_wsX6_raiseMarks_1 _ gm_1)) dX6_raiseMarks_21 ?_
        refine lv_icmp_ge (tgt := 63) hx hb dX6_raiseMarks_24 (by decide) (fun b24 => ?_) (fun b24 => ?_)
        · have ho18 := itT b24 ho18
          obtain rfl := Option.some.inj ho18
          exact EX18 fl18 _ _ _ S e_h e_ce e_co e_cr fr (lv_sub hl [] rfl)
        · have ho18 := itF b24 ho18
          refine lv_lload_n hx hb dX6_raiseMarks_27 rfl (lv_at hl 3 rfl) ?_
          refine lv_iload hx hb dX6_raiseMarks_28 (lv_at hl 0 rfl) ?_
          refine lv_aload_n hx hb dX6_raiseMarks_30 rfl (lv_at hl 2 rfl) ?_
          refine q_get hx hb hts in_X6 hown S m_h e_h (C := RX6) (T := TX6) (N := 7) rfl 4 (by decide) rfl (hts (.fieldLink RX6 26 "SieveCabinet$Sieve" "size" "I") (gu_wsX6_raiseMarks_1 _ gm_2)) dX6_raiseMarks_31 ?_
          obtain ⟨z34, hz34, ho18⟩ := bind_some ho18
          refine q_si (As := [.long mx, .int x4_18, .int sz]) (rest := []) ⟨hx, hb, hml, hown, hts⟩ (k_X4_markPlace l D g hz34) (va_cwS 3 hts gX6_raiseMarks_X4_markPlace rfl rfl rfl (by decide +kernel) ⟨Nat.le_of_ble_eq_true rfl, Nat.le_of_ble_eq_true rfl⟩) S rfl hl.1 rfl (Nat.le_of_ble_eq_true rfl) dX6_raiseMarks_34 ⟨Nat.le_of_ble_eq_true rfl, Nat.le_of_ble_eq_true rfl⟩ (fun r12 L10 f11 H locs S w34 => ?_)
          obtain ⟨ex34, eL, ef⟩ := w34
          rw [eL, ef] at S
          replace ex34 := ex34.symm
          subst ex34
          refine lv_istore (lv' := [(5, .int z34), (4, .int x4_18), (3, .int x3_18), (0, .ref h), (1, .long mx)]) hx hb dX6_raiseMarks_37 hl (by decide) rfl (fun ls hl => ?_)
          refine lv_aload_n hx hb dX6_raiseMarks_39 rfl (lv_at hl 3 rfl) ?_
          refine lv_iload hx hb dX6_raiseMarks_40 (lv_at hl 0 rfl) ?_
          refine lv_iload_n hx hb dX6_raiseMarks_42 rfl (lv_at hl 2 rfl) ?_
          refine lv_aload_n hx hb dX6_raiseMarks_43 rfl (lv_at hl 3 rfl) ?_
          refine lv_iload hx hb dX6_raiseMarks_44 (lv_at hl 0 rfl) ?_
          obtain ⟨z46, hz46, ho18⟩ := bind_some ho18
          refine q_vi (As := [.int z34]) (rest := [.int x3_18, .int z34, .ref h]) ⟨hx, hb, hml, hown, hts⟩ (k_X6_cellAt l D g m_h e_h m_ce e_ce hz46) (cwV 1 hts gX6_raiseMarks_X6_cellAt rfl rfl rfl (by decide +kernel) ⟨Nat.le_of_ble_eq_true rfl, Nat.le_of_ble_eq_true rfl⟩) S m_h e_h (T := TX6) (N := 7) rfl rfl hl.1 rfl (Nat.le_of_ble_eq_true rfl) dX6_raiseMarks_46 ⟨Nat.le_of_ble_eq_true rfl, Nat.le_of_ble_eq_true rfl⟩ (fun r15 L13 f14 H locs S w46 => ?_)
          obtain ⟨ex46, eL, ef⟩ := w46
          rw [eL, ef] at S
          replace ex46 := ex46.symm
          subst ex46
          refine lv_iconst (v := (1 : Int32)) hx hb dX6_raiseMarks_49 (by decide) ?_
          refine lv_iadd hx hb dX6_raiseMarks_50 ?_
          refine va_mmin (rest := [.int z34, .ref h]) hx hb (by rw [hml]; exact hl.1.symm) hown (hts (.methodLink RX6 142 Lib.Math.min.name) (gu_wsX6_raiseMarks_1 _ gm_3)) (hts (.static Lib.Math.min.name) (gu_wsX6_raiseMarks_1 _ gm_4)) (hts (.initialized "java/lang/Math") (gu_wsX6_raiseMarks_1 _ gm_5)) (hts (.code Lib.Math.min.name Lib.Math.min.code 2 (some .int)) (gu_wsX6_raiseMarks_1 _ gm_6)) (Nat.le_of_ble_eq_true rfl) (Nat.le_of_ble_eq_true rfl) (Nat.le_of_ble_eq_true rfl) (Nat.le_of_ble_eq_true rfl) dX6_raiseMarks_51 ?_
          refine W.eq (g2 := F0 m 54 ls [.int (imn x3_18 (z46 + (1 : Int32))), .int z34, .ref h]) rfl ?_
          obtain ⟨z54, hz54, ho18⟩ := bind_some ho18
          refine q_vv (As := [.int z34, .int (imn x3_18 (z46 + (1 : Int32)))]) (rest := []) ⟨hx, hb, hml, hown, hts⟩ (k_X6_setCell l D g m_h e_h m_ce e_ce hz54) (cwV 2 hts gX6_raiseMarks_X6_setCell rfl rfl rfl (by decide +kernel) ⟨Nat.le_of_ble_eq_true rfl, Nat.le_of_ble_eq_true rfl⟩) S m_h e_h (T := TX6) (N := 7) rfl rfl hl.1 rfl (Nat.le_of_ble_eq_true rfl) dX6_raiseMarks_54 ⟨Nat.le_of_ble_eq_true rfl, Nat.le_of_ble_eq_true rfl⟩ (fun L16 f17 H locs S w54 => ?_)
          obtain ⟨eL, fv54, E_ce⟩ := w54
          rw [eL] at S
          have fr : ∀ b, b ∈ L → b ≠ ce → f17 b = f b := fun b mb nb0 => (fv54 b mb nb0).trans (fr b mb nb0)
          have e_ce : f17 ce = .inl (g 0, 4096, .inl z54) := E_ce
          refine lv_iinc (v := (x4_18 + 1)) (lv' := [(4, .int (x4_18 + 1)), (5, .int z34), (3, .int x3_18), (0, .ref h), (1, .long mx)]) hx hb dX6_raiseMarks_57 hl (k := 1) rfl rfl (by decide) rfl (fun ls hl => ?_)
          refine lv_goto (tgt := 18) hx hb dX6_raiseMarks_60 (by decide) ?_
          have e_h := ((fv54 h m_h n_h_ce).trans e_h)
          have e_co := ((fv54 co m_co n_co_ce).trans e_co)
          have e_cr := ((fv54 cr m_cr n_cr_ce).trans e_cr)
          exact ih18 (x4_18 + 1) x3_18 z54 f17 _ _ _ ho18 S e_h e_ce e_co e_cr fr (lv_sub hl [0, 2, 3, 4] rfl)
    exact LP18 FU (0 : Int32) (15 : Int32) kc f _ _ _ ho18 S e_h e_ce e_co e_cr fr (lv_sub hl [0, 1, 2, 3] rfl)

def mX6_lowerMarks_L2 (sz : Int32) (mk : Int32) (mx : Int64) : Nat → Int32 → (Nat → Int32) → Option (Int32 × (Nat → Int32))
  | 0, _, _ => none
  | fu + 1, x3_2, cce_2 => if mk ≤ x3_2 then (some (x3_2, cce_2)) else ((mX4_markPlace mx x3_2 sz).bind fun z16 => (mX6_cellAt cce_2 z16).bind fun z24 => if z24 ≤ 0 then (mX6_lowerMarks_L2 sz mk mx fu (x3_2 + 1) cce_2) else (if (15 : Int32) ≤ z24 then (mX6_lowerMarks_L2 sz mk mx fu (x3_2 + 1) cce_2) else ((mX6_setCell cce_2 z16 (z24 - (1 : Int32))).bind fun z48 => mX6_lowerMarks_L2 sz mk mx fu (x3_2 + 1) z48)))
def mX6_lowerMarks (sz : Int32) (mk : Int32) (kc : Nat → Int32) (mx : Int64) : Option ((Nat → Int32)) := (mX6_lowerMarks_L2 sz mk mx FU (0 : Int32) kc).bind fun o2 => some o2.2
set_option maxHeartbeats 4000000 in
set_option maxRecDepth 100000 in
theorem k_X6_lowerMarks (l : Launch) (D : va_G) (g : Nat → ClassId) {L : List Nat} {f : Nat → va_E} {ce co cr h : Nat} {lay : Value} {kd : Int32} {sz : Int32} {mk : Int32} {sd : Int32} {kc : Nat → Int32} {n : Int32} {v : Nat → Int64} {mx : Int64} {z : (Nat → Int32)} (m_h : h ∈ L) (e_h : f h = .inr (4, [.ref ce, .ref co, lay, .int kd, .int sz, .int mk, .int sd])) (m_ce : ce ∈ L) (e_ce : f ce = .inl (g 0, 4096, .inl kc)) (m_co : co ∈ L) (e_co : f co = .inr (0, [.ref cr, .int n])) (m_cr : cr ∈ L) (e_cr : f cr = .inl (g 1, 1000, .inr (.inl v)))    (hM : mX6_lowerMarks sz mk kc mx = some z) : cV l yX6_lowerMarks wsX6_lowerMarks { frames := 1, cells := 0, slots := 0, locals := 27 } D g [.ref h, .long mx] L f 0 0 (fun L1 f1 => L1 = L ∧ (∀ b, b ∈ L → b ≠ ce → f1 b = f b) ∧ f1 ce = .inl (g 0, 4096, .inl z)) := by
  refine cV_of (cc := cX6_lowerMarks) (maxL := 6) (ret := none) (by decide) rfl (Nat.le_of_ble_eq_true rfl) ?_
  intro szz p e s m below meth c hx hb hr hml hts hown hlk hnm S ls hl
  have hl : lv_has ls 6 [(0, .ref h), (1, .long mx)] := hl
  have in_X6 : ∀ w ∈ wsX60, w ∈ wsX6_lowerMarks := gu_wsX6_lowerMarks_2
  have n_h_ce : h ≠ ce := ne_ir e_ce e_h
  have n_co_ce : co ≠ ce := ne_ir e_ce e_co
  have n_cr_ce : cr ≠ ce := ne_len e_ce e_cr (by decide)
  have fr : ∀ b, b ∈ L → b ≠ ce → f b = f b := fun _ _ _ => rfl
  unfold mX6_lowerMarks at hM
  refine W_gen (fun QQ hQQ => ?_)
  refine lv_iconst (v := (0 : Int32)) hx hb dX6_lowerMarks_0 (by decide) ?_
  refine lv_istore_n (lv' := [(3, .int (0 : Int32)), (0, .ref h), (1, .long mx)]) hx hb dX6_lowerMarks_1 rfl hl (by decide) rfl (fun ls hl => ?_)
  obtain ⟨o2, ho2, hM⟩ := bind_some hM
  have EX2 : ∀ (fl2 : Nat → va_E) (H : Heap) (locs : List Loc) (ls : Array Slot), PS D g (va_A (va_pl L f) szz) s.heap s L fl2 H locs → fl2 h = .inr (4, [.ref ce, .ref co, lay, .int kd, .int sz, .int mk, .int sd]) → fl2 ce = .inl (g 0, 4096, .inl o2.2) → fl2 co = .inr (0, [.ref cr, .int n]) → fl2 cr = .inl (g 1, 1000, .inr (.inl v)) → (∀ b, b ∈ L → b ≠ ce → fl2 b = f b) → lv_has ls 6 [] → W p l e { frames := 1, cells := 0, slots := 0, locals := 27 } s m [.ref h, .long mx].toArray below meth c H locs 0 0 QQ (F0 m 57 ls []) := by
    intro fl2 H locs ls S e_h e_ce e_co e_cr fr hl
    subst hQQ
    exact q_retv (post := fun L1 f1 => L1 = L ∧ (∀ b, b ∈ L → b ≠ ce → f1 b = f b) ∧ f1 ce = .inl (g 0, 4096, .inl z)) hx hb hr hlk S dX6_lowerMarks_57 (by decide) (by decide) (by have hz := Option.some.inj hM; subst hz; exact ⟨rfl, fr, e_ce⟩)
  have LP2 : ∀ (fu : Nat) (x3_2 : Int32) (cce_2 : Nat → Int32) (fl2 : Nat → va_E) (H : Heap) (locs : List Loc) (ls : Array Slot), (mX6_lowerMarks_L2 sz mk mx) fu x3_2 cce_2 = some o2 → PS D g (va_A (va_pl L f) szz) s.heap s L fl2 H locs → fl2 h = .inr (4, [.ref ce, .ref co, lay, .int kd, .int sz, .int mk, .int sd]) → fl2 ce = .inl (g 0, 4096, .inl cce_2) → fl2 co = .inr (0, [.ref cr, .int n]) → fl2 cr = .inl (g 1, 1000, .inr (.inl v)) → (∀ b, b ∈ L → b ≠ ce → fl2 b = f b) → lv_has ls 6 [(3, .int x3_2), (0, .ref h), (1, .long mx)] → W p l e { frames := 1, cells := 0, slots := 0, locals := 27 } s m [.ref h, .long mx].toArray below meth c H locs 0 0 QQ (F0 m 2 ls []) := by
    intro fu
    induction fu with
    | zero => intro x3_2 cce_2 fl2 H locs ls ho2 S e_h e_ce e_co e_cr fr hl; exact no_some ho2
    | succ fu ih2 =>
      intro x3_2 cce_2 fl2 H locs ls ho2 S e_h e_ce e_co e_cr fr hl
      rw [mX6_lowerMarks_L2] at ho2
      refine lv_iload_n hx hb dX6_lowerMarks_2 rfl (lv_at hl 0 rfl) ?_
      refine lv_aload_n hx hb dX6_lowerMarks_3 rfl (lv_at hl 1 rfl) ?_
      refine q_get hx hb hts in_X6 hown S m_h e_h (C := RX6) (T := TX6) (N := 7) rfl 5 (by decide) rfl (hts (.fieldLink RX6 29 "SieveCabinet$Sieve" "marks" "I") (gu_wsX6_lowerMarks_1 _ gm_0)) dX6_lowerMarks_4 ?_
      refine lv_icmp_ge (tgt := 57) hx hb dX6_lowerMarks_7 (by decide) (fun b7 => ?_) (fun b7 => ?_)
      · have ho2 := itT b7 ho2
        obtain rfl := Option.some.inj ho2
        exact EX2 fl2 _ _ _ S e_h e_ce e_co e_cr fr (lv_sub hl [] rfl)
      · have ho2 := itF b7 ho2
        refine lv_lload_n hx hb dX6_lowerMarks_10 rfl (lv_at hl 2 rfl) ?_
        refine lv_iload_n hx hb dX6_lowerMarks_11 rfl (lv_at hl 0 rfl) ?_
        refine lv_aload_n hx hb dX6_lowerMarks_12 rfl (lv_at hl 1 rfl) ?_
        refine q_get hx hb hts in_X6 hown S m_h e_h (C := RX6) (T := TX6) (N := 7) rfl 4 (by decide) rfl (hts (.fieldLink RX6 26 "SieveCabinet$Sieve" "size" "I") (gu_wsX6_lowerMarks_1 _ gm_1)) dX6_lowerMarks_13 ?_
        obtain ⟨z16, hz16, ho2⟩ := bind_some ho2
        refine q_si (As := [.long mx, .int x3_2, .int sz]) (rest := []) ⟨hx, hb, hml, hown, hts⟩ (k_X4_markPlace l D g hz16) (va_cwS 3 hts gX6_lowerMarks_X4_markPlace rfl rfl rfl (by decide +kernel) ⟨Nat.le_of_ble_eq_true rfl, Nat.le_of_ble_eq_true rfl⟩) S rfl hl.1 rfl (Nat.le_of_ble_eq_true rfl) dX6_lowerMarks_16 ⟨Nat.le_of_ble_eq_true rfl, Nat.le_of_ble_eq_true rfl⟩ (fun r3 L1 f2 H locs S w16 => ?_)
        obtain ⟨ex16, eL, ef⟩ := w16
        rw [eL, ef] at S
        replace ex16 := ex16.symm
        subst ex16
        refine lv_istore (lv' := [(4, .int z16), (3, .int x3_2), (0, .ref h), (1, .long mx)]) hx hb dX6_lowerMarks_19 hl (by decide) rfl (fun ls hl => ?_)
        refine lv_aload_n hx hb dX6_lowerMarks_21 rfl (lv_at hl 2 rfl) ?_
        refine lv_iload hx hb dX6_lowerMarks_22 (lv_at hl 0 rfl) ?_
        obtain ⟨z24, hz24, ho2⟩ := bind_some ho2
        refine q_vi (As := [.int z16]) (rest := []) ⟨hx, hb, hml, hown, hts⟩ (k_X6_cellAt l D g m_h e_h m_ce e_ce hz24) (cwV 1 hts gX6_lowerMarks_X6_cellAt rfl rfl rfl (by decide +kernel) ⟨Nat.le_of_ble_eq_true rfl, Nat.le_of_ble_eq_true rfl⟩) S m_h e_h (T := TX6) (N := 7) rfl rfl hl.1 rfl (Nat.le_of_ble_eq_true rfl) dX6_lowerMarks_24 ⟨Nat.le_of_ble_eq_true rfl, Nat.le_of_ble_eq_true rfl⟩ (fun r6 L4 f5 H locs S w24 => ?_)
        obtain ⟨ex24, eL, ef⟩ := w24
        rw [eL, ef] at S
        replace ex24 := ex24.symm
        subst ex24
        refine lv_istore (lv' := [(5, .int z24), (4, .int z16), (3, .int x3_2), (0, .ref h), (1, .long mx)]) hx hb dX6_lowerMarks_27 hl (by decide) rfl (fun ls hl => ?_)
        refine lv_iload hx hb dX6_lowerMarks_29 (lv_at hl 0 rfl) ?_
        refine lv_if_le (tgt := 51) hx hb dX6_lowerMarks_31 (by decide) (fun b31 => ?_) (fun b31 => ?_)
        · have ho2 := itT b31 ho2
          refine lv_iinc (v := (x3_2 + 1)) (lv' := [(3, .int (x3_2 + 1)), (5, .int z24), (4, .int z16), (0, .ref h), (1, .long mx)]) hx hb dX6_lowerMarks_51 hl (k := 2) rfl rfl (by decide) rfl (fun ls hl => ?_)
          refine lv_goto (tgt := 2) hx hb dX6_lowerMarks_54 (by decide) ?_
          exact ih2 (x3_2 + 1) cce_2 fl2 _ _ _ ho2 S e_h e_ce e_co e_cr fr (lv_sub hl [0, 3, 4] rfl)
        · have ho2 := itF b31 ho2
          refine lv_iload hx hb dX6_lowerMarks_34 (lv_at hl 0 rfl) ?_
          refine lv_bipush (v := (15 : Int32)) hx hb dX6_lowerMarks_36 (by decide) ?_
          refine lv_icmp_ge (tgt := 51) hx hb dX6_lowerMarks_38 (by decide) (fun b38 => ?_) (fun b38 => ?_)
          · have ho2 := itT b38 ho2
            refine lv_iinc (v := (x3_2 + 1)) (lv' := [(3, .int (x3_2 + 1)), (5, .int z24), (4, .int z16), (0, .ref h), (1, .long mx)]) hx hb dX6_lowerMarks_51 hl (k := 2) rfl rfl (by decide) rfl (fun ls hl => ?_)
            refine lv_goto (tgt := 2) hx hb dX6_lowerMarks_54 (by decide) ?_
            exact ih2 (x3_2 + 1) cce_2 fl2 _ _ _ ho2 S e_h e_ce e_co e_cr fr (lv_sub hl [0, 3, 4] rfl)
          · have ho2 := itF b38 ho2
            refine lv_aload_n hx hb dX6_lowerMarks_41 rfl (lv_at hl 3 rfl) ?_
            refine lv_iload hx hb dX6_lowerMarks_42 (lv_at hl 1 rfl) ?_
            refine lv_iload hx hb dX6_lowerMarks_44 (lv_at hl 0 rfl) ?_
            refine lv_iconst (v := (1 : Int32)) hx hb dX6_lowerMarks_46 (by decide) ?_
            refine lv_isub hx hb dX6_lowerMarks_47 ?_
            obtain ⟨z48, hz48, ho2⟩ := bind_some ho2
            refine q_vv (As := [.int z16, .int (z24 - (1 : Int32))]) (rest := []) ⟨hx, hb, hml, hown, hts⟩ (k_X6_setCell l D g m_h e_h m_ce e_ce hz48) (cwV 2 hts gX6_lowerMarks_X6_setCell rfl rfl rfl (by decide +kernel) ⟨Nat.le_of_ble_eq_true rfl, Nat.le_of_ble_eq_true rfl⟩) S m_h e_h (T := TX6) (N := 7) rfl rfl hl.1 rfl (Nat.le_of_ble_eq_true rfl) dX6_lowerMarks_48 ⟨Nat.le_of_ble_eq_true rfl, Nat.le_of_ble_eq_true rfl⟩ (fun L7 f8 H locs S w48 => ?_)
            obtain ⟨eL, fv48, E_ce⟩ := w48
            rw [eL] at S
            have fr : ∀ b, b ∈ L → b ≠ ce → f8 b = f b := fun b mb nb0 => (fv48 b mb nb0).trans (fr b mb nb0)
            have e_ce : f8 ce = .inl (g 0, 4096, .inl z48) := E_ce
            refine lv_iinc (v := (x3_2 + 1)) (lv' := [(3, .int (x3_2 + 1)), (5, .int z24), (4, .int z16), (0, .ref h), (1, .long mx)]) hx hb dX6_lowerMarks_51 hl (k := 2) rfl rfl (by decide) rfl (fun ls hl => ?_)
            refine lv_goto (tgt := 2) hx hb dX6_lowerMarks_54 (by decide) ?_
            have e_h := ((fv48 h m_h n_h_ce).trans e_h)
            have e_co := ((fv48 co m_co n_co_ce).trans e_co)
            have e_cr := ((fv48 cr m_cr n_cr_ce).trans e_cr)
            exact ih2 (x3_2 + 1) z48 f8 _ _ _ ho2 S e_h e_ce e_co e_cr fr (lv_sub hl [0, 3, 4] rfl)
  exact LP2 FU (0 : Int32) kc f _ _ _ ho2 S e_h e_ce e_co e_cr fr (lv_sub hl [0, 1, 2] rfl)

def mX6_hasMarks_L2 (sz : Int32) (mk : Int32) (kc : Nat → Int32) (mx : Int64) : Nat → Int32 → Option ((Int32) ⊕ Int32)
  | 0, _ => none
  | fu + 1, x3_2 => if mk ≤ x3_2 then (some (.inr x3_2)) else ((mX4_markPlace mx x3_2 sz).bind fun z17 => (mX6_cellAt kc z17).bind fun z20 => if z20 = 0 then (some (.inl (0 : Int32))) else (mX6_hasMarks_L2 sz mk kc mx fu (x3_2 + 1)))
def mX6_hasMarks (sz : Int32) (mk : Int32) (kc : Nat → Int32) (mx : Int64) : Option (Int32) := (mX6_hasMarks_L2 sz mk kc mx FU (0 : Int32)).bind fun o2 => Sum.elim (fun r_ => some r_) (fun s2 => some (1 : Int32)) o2
set_option maxHeartbeats 4000000 in
set_option maxRecDepth 100000 in
theorem k_X6_hasMarks (l : Launch) (D : va_G) (g : Nat → ClassId) {L : List Nat} {f : Nat → va_E} {ce co h : Nat} {lay : Value} {kd : Int32} {sz : Int32} {mk : Int32} {sd : Int32} {kc : Nat → Int32} {mx : Int64} {z : Int32} (m_h : h ∈ L) (e_h : f h = .inr (4, [.ref ce, .ref co, lay, .int kd, .int sz, .int mk, .int sd])) (m_ce : ce ∈ L) (e_ce : f ce = .inl (g 0, 4096, .inl kc))    (hM : mX6_hasMarks sz mk kc mx = some z) : cI l yX6_hasMarks wsX6_hasMarks { frames := 1, cells := 0, slots := 0, locals := 27 } D g [.ref h, .long mx] L f 0 0 (fun x L1 f1 => x = z ∧ L1 = L ∧ f1 = f) := by
  refine cI_of (cc := cX6_hasMarks) (maxL := 4) (ret := (some .boolean)) (by decide) rfl (Nat.le_of_ble_eq_true rfl) ?_
  intro szz p e s m below meth c hx hb hr hml hts hown hlk hnm S ls hl
  have hl : lv_has ls 4 [(0, .ref h), (1, .long mx)] := hl
  have in_X6 : ∀ w ∈ wsX60, w ∈ wsX6_hasMarks := gu_wsX6_hasMarks_2
  unfold mX6_hasMarks at hM
  refine W_gen (fun QQ hQQ => ?_)
  refine lv_iconst (v := (0 : Int32)) hx hb dX6_hasMarks_0 (by decide) ?_
  refine lv_istore_n (lv' := [(3, .int (0 : Int32)), (0, .ref h), (1, .long mx)]) hx hb dX6_hasMarks_1 rfl hl (by decide) rfl (fun ls hl => ?_)
  obtain ⟨o2, ho2, hM⟩ := bind_some hM
  have EX2 : ∀ (s2 : Int32), o2 = .inr s2 → ∀ (H : Heap) (locs : List Loc) (ls : Array Slot), PS D g (va_A (va_pl L f) szz) s.heap s L f H locs → lv_has ls 4 [] → W p l e { frames := 1, cells := 0, slots := 0, locals := 27 } s m [.ref h, .long mx].toArray below meth c H locs 0 0 QQ (F0 m 34 ls []) := by
    intro s2 eo2
    rw [eo2] at hM
    simp only [Sum.elim_inr] at hM
    intro H locs ls S hl
    refine lv_iconst (v := (1 : Int32)) hx hb dX6_hasMarks_34 (by decide) ?_
    subst hQQ
    exact q_retz (post := fun x L1 f1 => x = z ∧ L1 = L ∧ f1 = f) hx hb hr hlk S dX6_hasMarks_35 (by decide) (by decide) (by decide) (by have hz := Option.some.inj hM; subst hz; exact ⟨rfl, rfl, rfl⟩)
  have LP2 : ∀ (fu : Nat) (x3_2 : Int32) (H : Heap) (locs : List Loc) (ls : Array Slot), (mX6_hasMarks_L2 sz mk kc mx) fu x3_2 = some o2 → PS D g (va_A (va_pl L f) szz) s.heap s L f H locs → lv_has ls 4 [(3, .int x3_2), (0, .ref h), (1, .long mx)] → W p l e { frames := 1, cells := 0, slots := 0, locals := 27 } s m [.ref h, .long mx].toArray below meth c H locs 0 0 QQ (F0 m 2 ls []) := by
    intro fu
    induction fu with
    | zero => intro x3_2 H locs ls ho2 S hl; exact no_some ho2
    | succ fu ih2 =>
      intro x3_2 H locs ls ho2 S hl
      rw [mX6_hasMarks_L2] at ho2
      refine lv_iload_n hx hb dX6_hasMarks_2 rfl (lv_at hl 0 rfl) ?_
      refine lv_aload_n hx hb dX6_hasMarks_3 rfl (lv_at hl 1 rfl) ?_
      refine q_get hx hb hts in_X6 hown S m_h e_h (C := RX6) (T := TX6) (N := 7) rfl 5 (by decide) rfl (hts (.fieldLink RX6 29 "SieveCabinet$Sieve" "marks" "I") (gu_wsX6_hasMarks_1 _ gm_0)) dX6_hasMarks_4 ?_
      refine lv_icmp_ge (tgt := 34) hx hb dX6_hasMarks_7 (by decide) (fun b7 => ?_) (fun b7 => ?_)
      · have ho2 := itT b7 ho2
        obtain rfl := Option.some.inj ho2
        exact EX2 _ rfl _ _ _ S (lv_sub hl [] rfl)
      · have ho2 := itF b7 ho2
        refine lv_aload_n hx hb dX6_hasMarks_10 rfl (lv_at hl 1 rfl) ?_
        refine lv_lload_n hx hb dX6_hasMarks_11 rfl (lv_at hl 2 rfl) ?_
        refine lv_iload_n hx hb dX6_hasMarks_12 rfl (lv_at hl 0 rfl) ?_
        refine lv_aload_n hx hb dX6_hasMarks_13 rfl (lv_at hl 1 rfl) ?_
        refine q_get hx hb hts in_X6 hown S m_h e_h (C := RX6) (T := TX6) (N := 7) rfl 4 (by decide) rfl (hts (.fieldLink RX6 26 "SieveCabinet$Sieve" "size" "I") (gu_wsX6_hasMarks_1 _ gm_1)) dX6_hasMarks_14 ?_
        obtain ⟨z17, hz17, ho2⟩ := bind_some ho2
        refine q_si (As := [.long mx, .int x3_2, .int sz]) (rest := [.ref h]) ⟨hx, hb, hml, hown, hts⟩ (k_X4_markPlace l D g hz17) (va_cwS 3 hts gX6_hasMarks_X4_markPlace rfl rfl rfl (by decide +kernel) ⟨Nat.le_of_ble_eq_true rfl, Nat.le_of_ble_eq_true rfl⟩) S rfl hl.1 rfl (Nat.le_of_ble_eq_true rfl) dX6_hasMarks_17 ⟨Nat.le_of_ble_eq_true rfl, Nat.le_of_ble_eq_true rfl⟩ (fun r3 L1 f2 H locs S w17 => ?_)
        obtain ⟨ex17, eL, ef⟩ := w17
        rw [eL, ef] at S
        replace ex17 := ex17.symm
        subst ex17
        obtain ⟨z20, hz20, ho2⟩ := bind_some ho2
        refine q_vi (As := [.int z17]) (rest := []) ⟨hx, hb, hml, hown, hts⟩ (k_X6_cellAt l D g m_h e_h m_ce e_ce hz20) (cwV 1 hts gX6_hasMarks_X6_cellAt rfl rfl rfl (by decide +kernel) ⟨Nat.le_of_ble_eq_true rfl, Nat.le_of_ble_eq_true rfl⟩) S m_h e_h (T := TX6) (N := 7) rfl rfl hl.1 rfl (Nat.le_of_ble_eq_true rfl) dX6_hasMarks_20 ⟨Nat.le_of_ble_eq_true rfl, Nat.le_of_ble_eq_true rfl⟩ (fun r6 L4 f5 H locs S w20 => ?_)
        obtain ⟨ex20, eL, ef⟩ := w20
        rw [eL, ef] at S
        replace ex20 := ex20.symm
        subst ex20
        refine lv_if_ne (tgt := 28) hx hb dX6_hasMarks_23 (by decide) (fun b23 => ?_) (fun b23 => ?_)
        · have ho2 := itF b23 ho2
          refine lv_iinc (v := (x3_2 + 1)) (lv' := [(3, .int (x3_2 + 1)), (0, .ref h), (1, .long mx)]) hx hb dX6_hasMarks_28 hl (k := 0) rfl rfl (by decide) rfl (fun ls hl => ?_)
          refine lv_goto (tgt := 2) hx hb dX6_hasMarks_31 (by decide) ?_
          exact ih2 (x3_2 + 1) _ _ _ ho2 S (lv_sub hl [0, 1, 2] rfl)
        · have ho2 := itT b23 ho2
          refine lv_iconst (v := (0 : Int32)) hx hb dX6_hasMarks_26 (by decide) ?_
          obtain rfl := Option.some.inj ho2
          simp only [Sum.elim_inl] at hM
          subst hQQ
          exact q_retz (post := fun x L1 f1 => x = z ∧ L1 = L ∧ f1 = f) hx hb hr hlk S dX6_hasMarks_27 (by decide) (by decide) (by decide) (by have hz := Option.some.inj hM; subst hz; exact ⟨rfl, rfl, rfl⟩)
  exact LP2 FU (0 : Int32) _ _ _ ho2 S (lv_sub hl [0, 1, 2] rfl)

def mX6_passesSolved_L5 (sz : Int32) (kc : Nat → Int32) (mx : Int64) : Nat → Int32 → Int32 → Option (Int32 × Int32)
  | 0, _, _ => none
  | fu + 1, x4_5, x3_5 => if (3 : Int32) ≤ x4_5 then (some (x4_5, x3_5)) else ((mX4_solvedPlace mx x4_5 (sz / (3 : Int32))).bind fun z22 => (mX6_cellAt kc z22).bind fun z25 => mX6_passesSolved_L5 sz kc mx fu (x4_5 + 1) (x3_5 ^^^ z25))
def mX6_passesSolved (sz : Int32) (kc : Nat → Int32) (mx : Int64) : Option (Int32) := (mX6_passesSolved_L5 sz kc mx FU (0 : Int32) (0 : Int32)).bind fun o5 => (mX4_solvedTag mx).bind fun z38 => if o5.2 = z38 then (some (1 : Int32)) else (some (0 : Int32))
set_option maxHeartbeats 4000000 in
set_option maxRecDepth 100000 in
theorem k_X6_passesSolved (l : Launch) (D : va_G) (g : Nat → ClassId) {L : List Nat} {f : Nat → va_E} {ce co h : Nat} {lay : Value} {kd : Int32} {sz : Int32} {mk : Int32} {sd : Int32} {kc : Nat → Int32} {mx : Int64} {z : Int32} (m_h : h ∈ L) (e_h : f h = .inr (4, [.ref ce, .ref co, lay, .int kd, .int sz, .int mk, .int sd])) (m_ce : ce ∈ L) (e_ce : f ce = .inl (g 0, 4096, .inl kc))    (hM : mX6_passesSolved sz kc mx = some z) : cI l yX6_passesSolved wsX6_passesSolved { frames := 2, cells := 0, slots := 0, locals := 45 } D g [.ref h, .long mx] L f 0 0 (fun x L1 f1 => x = z ∧ L1 = L ∧ f1 = f) := by
  refine cI_of (cc := cX6_passesSolved) (maxL := 5) (ret := (some .boolean)) (by decide) rfl (Nat.le_of_ble_eq_true rfl) ?_
  intro szz p e s m below meth c hx hb hr hml hts hown hlk hnm S ls hl
  have hl : lv_has ls 5 [(0, .ref h), (1, .long mx)] := hl
  have in_X6 : ∀ w ∈ wsX60, w ∈ wsX6_passesSolved := gu_wsX6_passesSolved_2
  unfold mX6_passesSolved at hM
  refine W_gen (fun QQ hQQ => ?_)
  refine lv_iconst (v := (0 : Int32)) hx hb dX6_passesSolved_0 (by decide) ?_
  refine lv_istore_n (lv' := [(3, .int (0 : Int32)), (0, .ref h), (1, .long mx)]) hx hb dX6_passesSolved_1 rfl hl (by decide) rfl (fun ls hl => ?_)
  refine lv_iconst (v := (0 : Int32)) hx hb dX6_passesSolved_2 (by decide) ?_
  refine lv_istore (lv' := [(4, .int (0 : Int32)), (3, .int (0 : Int32)), (0, .ref h), (1, .long mx)]) hx hb dX6_passesSolved_3 hl (by decide) rfl (fun ls hl => ?_)
  obtain ⟨o5, ho5, hM⟩ := bind_some hM
  have EX5 : ∀ (H : Heap) (locs : List Loc) (ls : Array Slot), PS D g (va_A (va_pl L f) szz) s.heap s L f H locs → lv_has ls 5 [(3, .int o5.2), (1, .long mx)] → W p l e { frames := 2, cells := 0, slots := 0, locals := 45 } s m [.ref h, .long mx].toArray below meth c H locs 0 0 QQ (F0 m 36 ls []) := by
    intro H locs ls S hl
    refine lv_iload_n hx hb dX6_passesSolved_36 rfl (lv_at hl 0 rfl) ?_
    refine lv_lload_n hx hb dX6_passesSolved_37 rfl (lv_at hl 1 rfl) ?_
    obtain ⟨z38, hz38, hM⟩ := bind_some hM
    refine q_si (As := [.long mx]) (rest := [.int o5.2]) ⟨hx, hb, hml, hown, hts⟩ (k_X4_solvedTag l D g hz38) (va_cwS 1 hts gX6_passesSolved_X4_solvedTag rfl rfl rfl (by decide +kernel) ⟨Nat.le_of_ble_eq_true rfl, Nat.le_of_ble_eq_true rfl⟩) S rfl hl.1 rfl (Nat.le_of_ble_eq_true rfl) dX6_passesSolved_38 ⟨Nat.le_of_ble_eq_true rfl, Nat.le_of_ble_eq_true rfl⟩ (fun r3 L1 f2 H locs S w38 => ?_)
    obtain ⟨ex38, eL, ef⟩ := w38
    rw [eL, ef] at S
    replace ex38 := ex38.symm
    subst ex38
    refine lv_icmp_ne (tgt := 48) hx hb dX6_passesSolved_41 (by decide) (fun b41 => ?_) (fun b41 => ?_)
    · have hM := itF b41 hM
      refine lv_iconst (v := (0 : Int32)) hx hb dX6_passesSolved_48 (by decide) ?_
      subst hQQ
      exact q_retz (post := fun x L1 f1 => x = z ∧ L1 = L ∧ f1 = f) hx hb hr hlk S dX6_passesSolved_49 (by decide) (by decide) (by decide) (by have hz := Option.some.inj hM; subst hz; exact ⟨rfl, rfl, rfl⟩)
    · have hM := itT b41 hM
      refine lv_iconst (v := (1 : Int32)) hx hb dX6_passesSolved_44 (by decide) ?_
      refine lv_goto (tgt := 49) hx hb dX6_passesSolved_45 (by decide) ?_
      subst hQQ
      exact q_retz (post := fun x L1 f1 => x = z ∧ L1 = L ∧ f1 = f) hx hb hr hlk S dX6_passesSolved_49 (by decide) (by decide) (by decide) (by have hz := Option.some.inj hM; subst hz; exact ⟨rfl, rfl, rfl⟩)
  have LP5 : ∀ (fu : Nat) (x4_5 : Int32) (x3_5 : Int32) (H : Heap) (locs : List Loc) (ls : Array Slot), (mX6_passesSolved_L5 sz kc mx) fu x4_5 x3_5 = some o5 → PS D g (va_A (va_pl L f) szz) s.heap s L f H locs → lv_has ls 5 [(4, .int x4_5), (3, .int x3_5), (0, .ref h), (1, .long mx)] → W p l e { frames := 2, cells := 0, slots := 0, locals := 45 } s m [.ref h, .long mx].toArray below meth c H locs 0 0 QQ (F0 m 5 ls []) := by
    intro fu
    induction fu with
    | zero => intro x4_5 x3_5 H locs ls ho5 S hl; exact no_some ho5
    | succ fu ih5 =>
      intro x4_5 x3_5 H locs ls ho5 S hl
      rw [mX6_passesSolved_L5] at ho5
      refine lv_iload hx hb dX6_passesSolved_5 (lv_at hl 0 rfl) ?_
      refine lv_iconst (v := (3 : Int32)) hx hb dX6_passesSolved_7 (by decide) ?_
      refine lv_icmp_ge (tgt := 36) hx hb dX6_passesSolved_8 (by decide) (fun b8 => ?_) (fun b8 => ?_)
      · have ho5 := itT b8 ho5
        obtain rfl := Option.some.inj ho5
        exact EX5 _ _ _ S (lv_sub hl [1, 3] rfl)
      · have ho5 := itF b8 ho5
        refine lv_iload_n hx hb dX6_passesSolved_11 rfl (lv_at hl 1 rfl) ?_
        refine lv_aload_n hx hb dX6_passesSolved_12 rfl (lv_at hl 2 rfl) ?_
        refine lv_lload_n hx hb dX6_passesSolved_13 rfl (lv_at hl 3 rfl) ?_
        refine lv_iload hx hb dX6_passesSolved_14 (lv_at hl 0 rfl) ?_
        refine lv_aload_n hx hb dX6_passesSolved_16 rfl (lv_at hl 2 rfl) ?_
        refine q_get hx hb hts in_X6 hown S m_h e_h (C := RX6) (T := TX6) (N := 7) rfl 4 (by decide) rfl (hts (.fieldLink RX6 26 "SieveCabinet$Sieve" "size" "I") (gu_wsX6_passesSolved_1 _ gm_0)) dX6_passesSolved_17 ?_
        refine lv_iconst (v := (3 : Int32)) hx hb dX6_passesSolved_20 (by decide) ?_
        refine lv_idiv hx hb dX6_passesSolved_21 (by decide) ?_
        obtain ⟨z22, hz22, ho5⟩ := bind_some ho5
        refine q_si (As := [.long mx, .int x4_5, .int (sz / (3 : Int32))]) (rest := [.ref h, .int x3_5]) ⟨hx, hb, hml, hown, hts⟩ (k_X4_solvedPlace l D g hz22) (va_cwS 3 hts gX6_passesSolved_X4_solvedPlace rfl rfl rfl (by decide +kernel) ⟨Nat.le_of_ble_eq_true rfl, Nat.le_of_ble_eq_true rfl⟩) S rfl hl.1 rfl (Nat.le_of_ble_eq_true rfl) dX6_passesSolved_22 ⟨Nat.le_of_ble_eq_true rfl, Nat.le_of_ble_eq_true rfl⟩ (fun r6 L4 f5 H locs S w22 => ?_)
        obtain ⟨ex22, eL, ef⟩ := w22
        rw [eL, ef] at S
        replace ex22 := ex22.symm
        subst ex22
        obtain ⟨z25, hz25, ho5⟩ := bind_some ho5
        refine q_vi (As := [.int z22]) (rest := [.int x3_5]) ⟨hx, hb, hml, hown, hts⟩ (k_X6_cellAt l D g m_h e_h m_ce e_ce hz25) (cwV 1 hts gX6_passesSolved_X6_cellAt rfl rfl rfl (by decide +kernel) ⟨Nat.le_of_ble_eq_true rfl, Nat.le_of_ble_eq_true rfl⟩) S m_h e_h (T := TX6) (N := 7) rfl rfl hl.1 rfl (Nat.le_of_ble_eq_true rfl) dX6_passesSolved_25 ⟨Nat.le_of_ble_eq_true rfl, Nat.le_of_ble_eq_true rfl⟩ (fun r9 L7 f8 H locs S w25 => ?_)
        obtain ⟨ex25, eL, ef⟩ := w25
        rw [eL, ef] at S
        replace ex25 := ex25.symm
        subst ex25
        refine lv_ixor hx hb dX6_passesSolved_28 ?_
        refine lv_istore_n (lv' := [(3, .int (x3_5 ^^^ z25)), (4, .int x4_5), (0, .ref h), (1, .long mx)]) hx hb dX6_passesSolved_29 rfl hl (by decide) rfl (fun ls hl => ?_)
        refine lv_iinc (v := (x4_5 + 1)) (lv' := [(4, .int (x4_5 + 1)), (3, .int (x3_5 ^^^ z25)), (0, .ref h), (1, .long mx)]) hx hb dX6_passesSolved_30 hl (k := 1) rfl rfl (by decide) rfl (fun ls hl => ?_)
        refine lv_goto (tgt := 5) hx hb dX6_passesSolved_33 (by decide) ?_
        exact ih5 (x4_5 + 1) (x3_5 ^^^ z25) _ _ _ ho5 S (lv_sub hl [0, 1, 2, 3] rfl)
  exact LP5 FU (0 : Int32) (0 : Int32) _ _ _ ho5 S (lv_sub hl [0, 1, 2, 3] rfl)

def mX6_enter (kd : Int32) (sz : Int32) (mk : Int32) (sd : Int32) (kc : Nat → Int32) (n : Int32) (v : Nat → Int64) (t : Int64) : Option (Int32 × (Nat → Int32) × Int32 × (Nat → Int64)) := (mX0_isFull n).bind fun z4 => if z4 = 0 then ((mX4_of t sd).bind fun z18 => if kd = (2 : Int32) then ((mX5_enter sz kc z18).bind fun z32 => if z32.1 = 0 then (some ((-3 : Int32), z32.2, n, v)) else (if kd = (2 : Int32) then ((mX0_insert n v t).bind fun z59 => (mX0_count z59.2.1).bind fun z67 => some (z67, z32.2, z59.2.1, z59.2.2)) else ((mX6_raiseMarks kd sz mk z32.2 z18).bind fun z51 => (mX0_insert n v t).bind fun z59 => (mX0_count z59.2.1).bind fun z67 => some (z67, z51, z59.2.1, z59.2.2)))) else (if kd = (2 : Int32) then ((mX0_insert n v t).bind fun z59 => (mX0_count z59.2.1).bind fun z67 => some (z67, kc, z59.2.1, z59.2.2)) else ((mX6_raiseMarks kd sz mk kc z18).bind fun z51 => (mX0_insert n v t).bind fun z59 => (mX0_count z59.2.1).bind fun z67 => some (z67, z51, z59.2.1, z59.2.2)))) else (some ((-4 : Int32), kc, n, v))
set_option maxHeartbeats 4000000 in
set_option maxRecDepth 100000 in
theorem k_X6_enter (l : Launch) (D : va_G) (g : Nat → ClassId) {L : List Nat} {f : Nat → va_E} {ce co cr h : Nat} {lay : Value} {kd : Int32} {sz : Int32} {mk : Int32} {sd : Int32} {kc : Nat → Int32} {n : Int32} {v : Nat → Int64} {t : Int64} {z : Int32 × (Nat → Int32) × Int32 × (Nat → Int64)} (m_h : h ∈ L) (e_h : f h = .inr (4, [.ref ce, .ref co, lay, .int kd, .int sz, .int mk, .int sd])) (m_ce : ce ∈ L) (e_ce : f ce = .inl (g 0, 4096, .inl kc)) (m_co : co ∈ L) (e_co : f co = .inr (0, [.ref cr, .int n])) (m_cr : cr ∈ L) (e_cr : f cr = .inl (g 1, 1000, .inr (.inl v)))    (hM : mX6_enter kd sz mk sd kc n v t = some z) : cI l yX6_enter wsX6_enter { frames := 5, cells := 0, slots := 0, locals := 121 } D g [.ref h, .long t] L f 0 0 (fun x L1 f1 => x = z.1 ∧ L1 = L ∧ (∀ b, b ∈ L → b ≠ ce → b ≠ co → b ≠ cr → f1 b = f b) ∧ f1 ce = .inl (g 0, 4096, .inl z.2.1) ∧ f1 co = .inr (0, [.ref cr, .int z.2.2.1]) ∧ f1 cr = .inl (g 1, 1000, .inr (.inl z.2.2.2))) := by
  refine cI_of (cc := cX6_enter) (maxL := 5) (ret := (some .int)) (by decide) rfl (Nat.le_of_ble_eq_true rfl) ?_
  intro szz p e s m below meth c hx hb hr hml hts hown hlk hnm S ls hl
  have hl : lv_has ls 5 [(0, .ref h), (1, .long t)] := hl
  have in_X6 : ∀ w ∈ wsX60, w ∈ wsX6_enter := gu_wsX6_enter_5
  have n_h_co : h ≠ co := ne_rr e_co e_h (by decide)
  have n_h_cr : h ≠ cr := ne_ir e_cr e_h
  have n_ce_co : ce ≠ co := ne_ri e_co e_ce
  have n_ce_cr : ce ≠ cr := ne_len e_cr e_ce (by decide)
  have n_h_ce : h ≠ ce := ne_ir e_ce e_h
  have n_co_ce : co ≠ ce := ne_ir e_ce e_co
  have n_cr_ce : cr ≠ ce := ne_len e_ce e_cr (by decide)
  have fr : ∀ b, b ∈ L → b ≠ ce → b ≠ co → b ≠ cr → f b = f b := fun _ _ _ _ _ => rfl
  unfold mX6_enter at hM
  refine W_gen (fun QQ hQQ => ?_)
  refine lv_aload_n hx hb dX6_enter_0 rfl (lv_at hl 0 rfl) ?_
  refine q_get hx hb hts in_X6 hown S m_h e_h (C := RX6) (T := TX6) (N := 7) rfl 1 (by decide) rfl (hts (.fieldLink RX6 18 "SieveCabinet$Sieve" "contents" "LSieveCabinet$Bag;") (gu_wsX6_enter_1 _ gm_0)) dX6_enter_1 ?_
  obtain ⟨z4, hz4, hM⟩ := bind_some hM
  refine q_vi (As := []) (rest := []) ⟨hx, hb, hml, hown, hts⟩ (k_X0_isFull l D g m_co e_co hz4) (cwV 0 hts gX6_enter_X0_isFull rfl rfl rfl (by decide +kernel) ⟨Nat.le_of_ble_eq_true rfl, Nat.le_of_ble_eq_true rfl⟩) S m_co e_co (T := TX0) (N := 2) rfl rfl hl.1 rfl (Nat.le_of_ble_eq_true rfl) dX6_enter_4 ⟨Nat.le_of_ble_eq_true rfl, Nat.le_of_ble_eq_true rfl⟩ (fun r3 L1 f2 H locs S w4 => ?_)
  obtain ⟨ex4, eL, ef⟩ := w4
  rw [eL, ef] at S
  replace ex4 := ex4.symm
  subst ex4
  refine lv_if_eq (tgt := 13) hx hb dX6_enter_7 (by decide) (fun b7 => ?_) (fun b7 => ?_)
  · have hM := itT b7 hM
    refine lv_lload_n hx hb dX6_enter_13 rfl (lv_at hl 1 rfl) ?_
    refine lv_aload_n hx hb dX6_enter_14 rfl (lv_at hl 0 rfl) ?_
    refine q_get hx hb hts in_X6 hown S m_h e_h (C := RX6) (T := TX6) (N := 7) rfl 6 (by decide) rfl (hts (.fieldLink RX6 32 "SieveCabinet$Sieve" "seed" "I") (gu_wsX6_enter_1 _ gm_1)) dX6_enter_15 ?_
    obtain ⟨z18, hz18, hM⟩ := bind_some hM
    refine q_sl (As := [.long t, .int sd]) (rest := []) ⟨hx, hb, hml, hown, hts⟩ (k_X4_of l D g hz18) (va_cwS 2 hts gX6_enter_X4_of rfl rfl rfl (by decide +kernel) ⟨Nat.le_of_ble_eq_true rfl, Nat.le_of_ble_eq_true rfl⟩) S rfl hl.1 rfl (Nat.le_of_ble_eq_true rfl) dX6_enter_18 ⟨Nat.le_of_ble_eq_true rfl, Nat.le_of_ble_eq_true rfl⟩ (fun r6 L4 f5 H locs S w18 => ?_)
    obtain ⟨ex18, eL, ef⟩ := w18
    rw [eL, ef] at S
    replace ex18 := ex18.symm
    subst ex18
    refine lv_lstore_n (lv' := [(3, .long z18), (0, .ref h), (1, .long t)]) hx hb dX6_enter_21 rfl hl (by decide) rfl (fun ls hl => ?_)
    refine lv_aload_n hx hb dX6_enter_22 rfl (lv_at hl 1 rfl) ?_
    refine q_get hx hb hts in_X6 hown S m_h e_h (C := RX6) (T := TX6) (N := 7) rfl 3 (by decide) rfl (hts (.fieldLink RX6 22 "SieveCabinet$Sieve" "kind" "I") (gu_wsX6_enter_1 _ gm_2)) dX6_enter_23 ?_
    refine lv_iconst (v := (2 : Int32)) hx hb dX6_enter_26 (by decide) ?_
    refine lv_icmp_ne (tgt := 41) hx hb dX6_enter_27 (by decide) (fun b27 => ?_) (fun b27 => ?_)
    · have hM := itF b27 hM
      refine lv_aload_n hx hb dX6_enter_41 rfl (lv_at hl 1 rfl) ?_
      refine q_get hx hb hts in_X6 hown S m_h e_h (C := RX6) (T := TX6) (N := 7) rfl 3 (by decide) rfl (hts (.fieldLink RX6 22 "SieveCabinet$Sieve" "kind" "I") (gu_wsX6_enter_1 _ gm_2)) dX6_enter_42 ?_
      refine lv_iconst (v := (2 : Int32)) hx hb dX6_enter_45 (by decide) ?_
      refine lv_icmp_eq (tgt := 54) hx hb dX6_enter_46 (by decide) (fun b46 => ?_) (fun b46 => ?_)
      · have hM := itT b46 hM
        refine lv_aload_n hx hb dX6_enter_54 rfl (lv_at hl 1 rfl) ?_
        refine q_get hx hb hts in_X6 hown S m_h e_h (C := RX6) (T := TX6) (N := 7) rfl 1 (by decide) rfl (hts (.fieldLink RX6 18 "SieveCabinet$Sieve" "contents" "LSieveCabinet$Bag;") (gu_wsX6_enter_1 _ gm_0)) dX6_enter_55 ?_
        refine lv_lload_n hx hb dX6_enter_58 rfl (lv_at hl 2 rfl) ?_
        obtain ⟨z59, hz59, hM⟩ := bind_some hM
        refine q_vi (As := [.long t]) (rest := []) ⟨hx, hb, hml, hown, hts⟩ (k_X0_insert l D g m_co e_co m_cr e_cr hz59) (cwV 1 hts gX6_enter_X0_insert rfl rfl rfl (by decide +kernel) ⟨Nat.le_of_ble_eq_true rfl, Nat.le_of_ble_eq_true rfl⟩) S m_co e_co (T := TX0) (N := 2) rfl rfl hl.1 rfl (Nat.le_of_ble_eq_true rfl) dX6_enter_59 ⟨Nat.le_of_ble_eq_true rfl, Nat.le_of_ble_eq_true rfl⟩ (fun r9 L7 f8 H locs S w59 => ?_)
        obtain ⟨ex59, eL, fv59, E_co, E_cr⟩ := w59
        rw [eL] at S
        have fr : ∀ b, b ∈ L → b ≠ ce → b ≠ co → b ≠ cr → f8 b = f b := fun b mb nb0 nb1 nb2 => (fv59 b mb nb1 nb2).trans (fr b mb nb0 nb1 nb2)
        have e_co : f8 co = .inr (0, [.ref cr, .int z59.2.1]) := E_co
        have e_cr : f8 cr = .inl (g 1, 1000, .inr (.inl z59.2.2)) := E_cr
        replace ex59 := ex59.symm
        subst ex59
        refine lv_pop hx hb dX6_enter_62 rfl ?_
        refine lv_aload_n hx hb dX6_enter_63 rfl (lv_at hl 1 rfl) ?_
        have e_h := ((fv59 h m_h n_h_co n_h_cr).trans e_h)
        refine q_get hx hb hts in_X6 hown S m_h e_h (C := RX6) (T := TX6) (N := 7) rfl 1 (by decide) rfl (hts (.fieldLink RX6 18 "SieveCabinet$Sieve" "contents" "LSieveCabinet$Bag;") (gu_wsX6_enter_1 _ gm_0)) dX6_enter_64 ?_
        obtain ⟨z67, hz67, hM⟩ := bind_some hM
        refine q_vi (As := []) (rest := []) ⟨hx, hb, hml, hown, hts⟩ (k_X0_count l D g m_co e_co hz67) (cwV 0 hts gX6_enter_X0_count rfl rfl rfl (by decide +kernel) ⟨Nat.le_of_ble_eq_true rfl, Nat.le_of_ble_eq_true rfl⟩) S m_co e_co (T := TX0) (N := 2) rfl rfl hl.1 rfl (Nat.le_of_ble_eq_true rfl) dX6_enter_67 ⟨Nat.le_of_ble_eq_true rfl, Nat.le_of_ble_eq_true rfl⟩ (fun r12 L10 f11 H locs S w67 => ?_)
        obtain ⟨ex67, eL, ef⟩ := w67
        rw [eL, ef] at S
        replace ex67 := ex67.symm
        subst ex67
        have e_ce := ((fv59 ce m_ce n_ce_co n_ce_cr).trans e_ce)
        subst hQQ
        exact q_reti (post := fun x L1 f1 => x = z.1 ∧ L1 = L ∧ (∀ b, b ∈ L → b ≠ ce → b ≠ co → b ≠ cr → f1 b = f b) ∧ f1 ce = .inl (g 0, 4096, .inl z.2.1) ∧ f1 co = .inr (0, [.ref cr, .int z.2.2.1]) ∧ f1 cr = .inl (g 1, 1000, .inr (.inl z.2.2.2))) hx hb hr hlk S dX6_enter_70 (by decide) (by decide) (by have hz := Option.some.inj hM; subst hz; exact ⟨rfl, rfl, fr, e_ce, e_co, e_cr⟩)
      · have hM := itF b46 hM
        refine lv_aload_n hx hb dX6_enter_49 rfl (lv_at hl 1 rfl) ?_
        refine lv_lload_n hx hb dX6_enter_50 rfl (lv_at hl 0 rfl) ?_
        obtain ⟨z51, hz51, hM⟩ := bind_some hM
        refine q_vv (As := [.long z18]) (rest := []) ⟨hx, hb, hml, hown, hts⟩ (k_X6_raiseMarks l D g m_h e_h m_ce e_ce m_co e_co m_cr e_cr hz51) (cwV 1 hts gX6_enter_X6_raiseMarks rfl rfl rfl (by decide +kernel) ⟨Nat.le_of_ble_eq_true rfl, Nat.le_of_ble_eq_true rfl⟩) S m_h e_h (T := TX6) (N := 7) rfl rfl hl.1 rfl (Nat.le_of_ble_eq_true rfl) dX6_enter_51 ⟨Nat.le_of_ble_eq_true rfl, Nat.le_of_ble_eq_true rfl⟩ (fun L13 f14 H locs S w51 => ?_)
        obtain ⟨eL, fv51, E_ce⟩ := w51
        rw [eL] at S
        have fr : ∀ b, b ∈ L → b ≠ ce → b ≠ co → b ≠ cr → f14 b = f b := fun b mb nb0 nb1 nb2 => (fv51 b mb nb0).trans (fr b mb nb0 nb1 nb2)
        have e_ce : f14 ce = .inl (g 0, 4096, .inl z51) := E_ce
        refine lv_aload_n hx hb dX6_enter_54 rfl (lv_at hl 1 rfl) ?_
        have e_h := ((fv51 h m_h n_h_ce).trans e_h)
        refine q_get hx hb hts in_X6 hown S m_h e_h (C := RX6) (T := TX6) (N := 7) rfl 1 (by decide) rfl (hts (.fieldLink RX6 18 "SieveCabinet$Sieve" "contents" "LSieveCabinet$Bag;") (gu_wsX6_enter_1 _ gm_0)) dX6_enter_55 ?_
        refine lv_lload_n hx hb dX6_enter_58 rfl (lv_at hl 2 rfl) ?_
        obtain ⟨z59, hz59, hM⟩ := bind_some hM
        have e_co := ((fv51 co m_co n_co_ce).trans e_co)
        have e_cr := ((fv51 cr m_cr n_cr_ce).trans e_cr)
        refine q_vi (As := [.long t]) (rest := []) ⟨hx, hb, hml, hown, hts⟩ (k_X0_insert l D g m_co e_co m_cr e_cr hz59) (cwV 1 hts gX6_enter_X0_insert rfl rfl rfl (by decide +kernel) ⟨Nat.le_of_ble_eq_true rfl, Nat.le_of_ble_eq_true rfl⟩) S m_co e_co (T := TX0) (N := 2) rfl rfl hl.1 rfl (Nat.le_of_ble_eq_true rfl) dX6_enter_59 ⟨Nat.le_of_ble_eq_true rfl, Nat.le_of_ble_eq_true rfl⟩ (fun r18 L16 f17 H locs S w59 => ?_)
        obtain ⟨ex59, eL, fv59, E_co, E_cr⟩ := w59
        rw [eL] at S
        have fr : ∀ b, b ∈ L → b ≠ ce → b ≠ co → b ≠ cr → f17 b = f b := fun b mb nb0 nb1 nb2 => (fv59 b mb nb1 nb2).trans (fr b mb nb0 nb1 nb2)
        have e_co : f17 co = .inr (0, [.ref cr, .int z59.2.1]) := E_co
        have e_cr : f17 cr = .inl (g 1, 1000, .inr (.inl z59.2.2)) := E_cr
        replace ex59 := ex59.symm
        subst ex59
        refine lv_pop hx hb dX6_enter_62 rfl ?_
        refine lv_aload_n hx hb dX6_enter_63 rfl (lv_at hl 1 rfl) ?_
        have e_h := ((fv59 h m_h n_h_co n_h_cr).trans e_h)
        refine q_get hx hb hts in_X6 hown S m_h e_h (C := RX6) (T := TX6) (N := 7) rfl 1 (by decide) rfl (hts (.fieldLink RX6 18 "SieveCabinet$Sieve" "contents" "LSieveCabinet$Bag;") (gu_wsX6_enter_1 _ gm_0)) dX6_enter_64 ?_
        obtain ⟨z67, hz67, hM⟩ := bind_some hM
        refine q_vi (As := []) (rest := []) ⟨hx, hb, hml, hown, hts⟩ (k_X0_count l D g m_co e_co hz67) (cwV 0 hts gX6_enter_X0_count rfl rfl rfl (by decide +kernel) ⟨Nat.le_of_ble_eq_true rfl, Nat.le_of_ble_eq_true rfl⟩) S m_co e_co (T := TX0) (N := 2) rfl rfl hl.1 rfl (Nat.le_of_ble_eq_true rfl) dX6_enter_67 ⟨Nat.le_of_ble_eq_true rfl, Nat.le_of_ble_eq_true rfl⟩ (fun r21 L19 f20 H locs S w67 => ?_)
        obtain ⟨ex67, eL, ef⟩ := w67
        rw [eL, ef] at S
        replace ex67 := ex67.symm
        subst ex67
        have e_ce := ((fv59 ce m_ce n_ce_co n_ce_cr).trans e_ce)
        subst hQQ
        exact q_reti (post := fun x L1 f1 => x = z.1 ∧ L1 = L ∧ (∀ b, b ∈ L → b ≠ ce → b ≠ co → b ≠ cr → f1 b = f b) ∧ f1 ce = .inl (g 0, 4096, .inl z.2.1) ∧ f1 co = .inr (0, [.ref cr, .int z.2.2.1]) ∧ f1 cr = .inl (g 1, 1000, .inr (.inl z.2.2.2))) hx hb hr hlk S dX6_enter_70 (by decide) (by decide) (by have hz := Option.some.inj hM; subst hz; exact ⟨rfl, rfl, fr, e_ce, e_co, e_cr⟩)
    · have hM := itT b27 hM
      refine lv_aload_n hx hb dX6_enter_30 rfl (lv_at hl 1 rfl) ?_
      refine lv_lload_n hx hb dX6_enter_31 rfl (lv_at hl 0 rfl) ?_
      obtain ⟨z32, hz32, hM⟩ := bind_some hM
      refine q_si (As := [.ref h, .long z18]) (rest := []) ⟨hx, hb, hml, hown, hts⟩ (k_X5_enter l D g m_h e_h m_ce e_ce m_co e_co m_cr e_cr hz32) (va_cwS 2 hts gX6_enter_X5_enter rfl rfl rfl (by decide +kernel) ⟨Nat.le_of_ble_eq_true rfl, Nat.le_of_ble_eq_true rfl⟩) S rfl hl.1 rfl (Nat.le_of_ble_eq_true rfl) dX6_enter_32 ⟨Nat.le_of_ble_eq_true rfl, Nat.le_of_ble_eq_true rfl⟩ (fun r24 L22 f23 H locs S w32 => ?_)
      obtain ⟨ex32, eL, fv32, E_ce⟩ := w32
      rw [eL] at S
      have fr : ∀ b, b ∈ L → b ≠ ce → b ≠ co → b ≠ cr → f23 b = f b := fun b mb nb0 nb1 nb2 => (fv32 b mb nb0).trans (fr b mb nb0 nb1 nb2)
      have e_ce : f23 ce = .inl (g 0, 4096, .inl z32.2) := E_ce
      replace ex32 := ex32.symm
      subst ex32
      refine lv_if_ne (tgt := 41) hx hb dX6_enter_35 (by decide) (fun b35 => ?_) (fun b35 => ?_)
      · have hM := itF b35 hM
        refine lv_aload_n hx hb dX6_enter_41 rfl (lv_at hl 1 rfl) ?_
        have e_h := ((fv32 h m_h n_h_ce).trans e_h)
        refine q_get hx hb hts in_X6 hown S m_h e_h (C := RX6) (T := TX6) (N := 7) rfl 3 (by decide) rfl (hts (.fieldLink RX6 22 "SieveCabinet$Sieve" "kind" "I") (gu_wsX6_enter_1 _ gm_2)) dX6_enter_42 ?_
        refine lv_iconst (v := (2 : Int32)) hx hb dX6_enter_45 (by decide) ?_
        refine lv_icmp_eq (tgt := 54) hx hb dX6_enter_46 (by decide) (fun b46 => ?_) (fun b46 => ?_)
        · have hM := itT b46 hM
          refine lv_aload_n hx hb dX6_enter_54 rfl (lv_at hl 1 rfl) ?_
          refine q_get hx hb hts in_X6 hown S m_h e_h (C := RX6) (T := TX6) (N := 7) rfl 1 (by decide) rfl (hts (.fieldLink RX6 18 "SieveCabinet$Sieve" "contents" "LSieveCabinet$Bag;") (gu_wsX6_enter_1 _ gm_0)) dX6_enter_55 ?_
          refine lv_lload_n hx hb dX6_enter_58 rfl (lv_at hl 2 rfl) ?_
          obtain ⟨z59, hz59, hM⟩ := bind_some hM
          have e_co := ((fv32 co m_co n_co_ce).trans e_co)
          have e_cr := ((fv32 cr m_cr n_cr_ce).trans e_cr)
          refine q_vi (As := [.long t]) (rest := []) ⟨hx, hb, hml, hown, hts⟩ (k_X0_insert l D g m_co e_co m_cr e_cr hz59) (cwV 1 hts gX6_enter_X0_insert rfl rfl rfl (by decide +kernel) ⟨Nat.le_of_ble_eq_true rfl, Nat.le_of_ble_eq_true rfl⟩) S m_co e_co (T := TX0) (N := 2) rfl rfl hl.1 rfl (Nat.le_of_ble_eq_true rfl) dX6_enter_59 ⟨Nat.le_of_ble_eq_true rfl, Nat.le_of_ble_eq_true rfl⟩ (fun r27 L25 f26 H locs S w59 => ?_)
          obtain ⟨ex59, eL, fv59, E_co, E_cr⟩ := w59
          rw [eL] at S
          have fr : ∀ b, b ∈ L → b ≠ ce → b ≠ co → b ≠ cr → f26 b = f b := fun b mb nb0 nb1 nb2 => (fv59 b mb nb1 nb2).trans (fr b mb nb0 nb1 nb2)
          have e_co : f26 co = .inr (0, [.ref cr, .int z59.2.1]) := E_co
          have e_cr : f26 cr = .inl (g 1, 1000, .inr (.inl z59.2.2)) := E_cr
          replace ex59 := ex59.symm
          subst ex59
          refine lv_pop hx hb dX6_enter_62 rfl ?_
          refine lv_aload_n hx hb dX6_enter_63 rfl (lv_at hl 1 rfl) ?_
          have e_h := ((fv59 h m_h n_h_co n_h_cr).trans e_h)
          refine q_get hx hb hts in_X6 hown S m_h e_h (C := RX6) (T := TX6) (N := 7) rfl 1 (by decide) rfl (hts (.fieldLink RX6 18 "SieveCabinet$Sieve" "contents" "LSieveCabinet$Bag;") (gu_wsX6_enter_1 _ gm_0)) dX6_enter_64 ?_
          obtain ⟨z67, hz67, hM⟩ := bind_some hM
          refine q_vi (As := []) (rest := []) ⟨hx, hb, hml, hown, hts⟩ (k_X0_count l D g m_co e_co hz67) (cwV 0 hts gX6_enter_X0_count rfl rfl rfl (by decide +kernel) ⟨Nat.le_of_ble_eq_true rfl, Nat.le_of_ble_eq_true rfl⟩) S m_co e_co (T := TX0) (N := 2) rfl rfl hl.1 rfl (Nat.le_of_ble_eq_true rfl) dX6_enter_67 ⟨Nat.le_of_ble_eq_true rfl, Nat.le_of_ble_eq_true rfl⟩ (fun r30 L28 f29 H locs S w67 => ?_)
          obtain ⟨ex67, eL, ef⟩ := w67
          rw [eL, ef] at S
          replace ex67 := ex67.symm
          subst ex67
          have e_ce := ((fv59 ce m_ce n_ce_co n_ce_cr).trans e_ce)
          subst hQQ
          exact q_reti (post := fun x L1 f1 => x = z.1 ∧ L1 = L ∧ (∀ b, b ∈ L → b ≠ ce → b ≠ co → b ≠ cr → f1 b = f b) ∧ f1 ce = .inl (g 0, 4096, .inl z.2.1) ∧ f1 co = .inr (0, [.ref cr, .int z.2.2.1]) ∧ f1 cr = .inl (g 1, 1000, .inr (.inl z.2.2.2))) hx hb hr hlk S dX6_enter_70 (by decide) (by decide) (by have hz := Option.some.inj hM; subst hz; exact ⟨rfl, rfl, fr, e_ce, e_co, e_cr⟩)
        · have hM := itF b46 hM
          refine lv_aload_n hx hb dX6_enter_49 rfl (lv_at hl 1 rfl) ?_
          refine lv_lload_n hx hb dX6_enter_50 rfl (lv_at hl 0 rfl) ?_
          obtain ⟨z51, hz51, hM⟩ := bind_some hM
          have e_co := ((fv32 co m_co n_co_ce).trans e_co)
          have e_cr := ((fv32 cr m_cr n_cr_ce).trans e_cr)
          refine q_vv (As := [.long z18]) (rest := []) ⟨hx, hb, hml, hown, hts⟩ (k_X6_raiseMarks l D g m_h e_h m_ce e_ce m_co e_co m_cr e_cr hz51) (cwV 1 hts gX6_enter_X6_raiseMarks rfl rfl rfl (by decide +kernel) ⟨Nat.le_of_ble_eq_true rfl, Nat.le_of_ble_eq_true rfl⟩) S m_h e_h (T := TX6) (N := 7) rfl rfl hl.1 rfl (Nat.le_of_ble_eq_true rfl) dX6_enter_51 ⟨Nat.le_of_ble_eq_true rfl, Nat.le_of_ble_eq_true rfl⟩ (fun L31 f32 H locs S w51 => ?_)
          obtain ⟨eL, fv51, E_ce⟩ := w51
          rw [eL] at S
          have fr : ∀ b, b ∈ L → b ≠ ce → b ≠ co → b ≠ cr → f32 b = f b := fun b mb nb0 nb1 nb2 => (fv51 b mb nb0).trans (fr b mb nb0 nb1 nb2)
          have e_ce : f32 ce = .inl (g 0, 4096, .inl z51) := E_ce
          refine lv_aload_n hx hb dX6_enter_54 rfl (lv_at hl 1 rfl) ?_
          have e_h := ((fv51 h m_h n_h_ce).trans e_h)
          refine q_get hx hb hts in_X6 hown S m_h e_h (C := RX6) (T := TX6) (N := 7) rfl 1 (by decide) rfl (hts (.fieldLink RX6 18 "SieveCabinet$Sieve" "contents" "LSieveCabinet$Bag;") (gu_wsX6_enter_1 _ gm_0)) dX6_enter_55 ?_
          refine lv_lload_n hx hb dX6_enter_58 rfl (lv_at hl 2 rfl) ?_
          obtain ⟨z59, hz59, hM⟩ := bind_some hM
          have e_co := ((fv51 co m_co n_co_ce).trans e_co)
          have e_cr := ((fv51 cr m_cr n_cr_ce).trans e_cr)
          refine q_vi (As := [.long t]) (rest := []) ⟨hx, hb, hml, hown, hts⟩ (k_X0_insert l D g m_co e_co m_cr e_cr hz59) (cwV 1 hts gX6_enter_X0_insert rfl rfl rfl (by decide +kernel) ⟨Nat.le_of_ble_eq_true rfl, Nat.le_of_ble_eq_true rfl⟩) S m_co e_co (T := TX0) (N := 2) rfl rfl hl.1 rfl (Nat.le_of_ble_eq_true rfl) dX6_enter_59 ⟨Nat.le_of_ble_eq_true rfl, Nat.le_of_ble_eq_true rfl⟩ (fun r36 L34 f35 H locs S w59 => ?_)
          obtain ⟨ex59, eL, fv59, E_co, E_cr⟩ := w59
          rw [eL] at S
          have fr : ∀ b, b ∈ L → b ≠ ce → b ≠ co → b ≠ cr → f35 b = f b := fun b mb nb0 nb1 nb2 => (fv59 b mb nb1 nb2).trans (fr b mb nb0 nb1 nb2)
          have e_co : f35 co = .inr (0, [.ref cr, .int z59.2.1]) := E_co
          have e_cr : f35 cr = .inl (g 1, 1000, .inr (.inl z59.2.2)) := E_cr
          replace ex59 := ex59.symm
          subst ex59
          refine lv_pop hx hb dX6_enter_62 rfl ?_
          refine lv_aload_n hx hb dX6_enter_63 rfl (lv_at hl 1 rfl) ?_
          have e_h := ((fv59 h m_h n_h_co n_h_cr).trans e_h)
          refine q_get hx hb hts in_X6 hown S m_h e_h (C := RX6) (T := TX6) (N := 7) rfl 1 (by decide) rfl (hts (.fieldLink RX6 18 "SieveCabinet$Sieve" "contents" "LSieveCabinet$Bag;") (gu_wsX6_enter_1 _ gm_0)) dX6_enter_64 ?_
          obtain ⟨z67, hz67, hM⟩ := bind_some hM
          refine q_vi (As := []) (rest := []) ⟨hx, hb, hml, hown, hts⟩ (k_X0_count l D g m_co e_co hz67) (cwV 0 hts gX6_enter_X0_count rfl rfl rfl (by decide +kernel) ⟨Nat.le_of_ble_eq_true rfl, Nat.le_of_ble_eq_true rfl⟩) S m_co e_co (T := TX0) (N := 2) rfl rfl hl.1 rfl (Nat.le_of_ble_eq_true rfl) dX6_enter_67 ⟨Nat.le_of_ble_eq_true rfl, Nat.le_of_ble_eq_true rfl⟩ (fun r39 L37 f38 H locs S w67 => ?_)
          obtain ⟨ex67, eL, ef⟩ := w67
          rw [eL, ef] at S
          replace ex67 := ex67.symm
          subst ex67
          have e_ce := ((fv59 ce m_ce n_ce_co n_ce_cr).trans e_ce)
          subst hQQ
          exact q_reti (post := fun x L1 f1 => x = z.1 ∧ L1 = L ∧ (∀ b, b ∈ L → b ≠ ce → b ≠ co → b ≠ cr → f1 b = f b) ∧ f1 ce = .inl (g 0, 4096, .inl z.2.1) ∧ f1 co = .inr (0, [.ref cr, .int z.2.2.1]) ∧ f1 cr = .inl (g 1, 1000, .inr (.inl z.2.2.2))) hx hb hr hlk S dX6_enter_70 (by decide) (by decide) (by have hz := Option.some.inj hM; subst hz; exact ⟨rfl, rfl, fr, e_ce, e_co, e_cr⟩)
      · have hM := itT b35 hM
        refine lv_bipush (v := (-3 : Int32)) hx hb dX6_enter_38 (by decide) ?_
        have e_co := ((fv32 co m_co n_co_ce).trans e_co)
        have e_cr := ((fv32 cr m_cr n_cr_ce).trans e_cr)
        subst hQQ
        exact q_reti (post := fun x L1 f1 => x = z.1 ∧ L1 = L ∧ (∀ b, b ∈ L → b ≠ ce → b ≠ co → b ≠ cr → f1 b = f b) ∧ f1 ce = .inl (g 0, 4096, .inl z.2.1) ∧ f1 co = .inr (0, [.ref cr, .int z.2.2.1]) ∧ f1 cr = .inl (g 1, 1000, .inr (.inl z.2.2.2))) hx hb hr hlk S dX6_enter_40 (by decide) (by decide) (by have hz := Option.some.inj hM; subst hz; exact ⟨rfl, rfl, fr, e_ce, e_co, e_cr⟩)
  · have hM := itF b7 hM
    refine lv_bipush (v := (-4 : Int32)) hx hb dX6_enter_10 (by decide) ?_
    subst hQQ
    exact q_reti (post := fun x L1 f1 => x = z.1 ∧ L1 = L ∧ (∀ b, b ∈ L → b ≠ ce → b ≠ co → b ≠ cr → f1 b = f b) ∧ f1 ce = .inl (g 0, 4096, .inl z.2.1) ∧ f1 co = .inr (0, [.ref cr, .int z.2.2.1]) ∧ f1 cr = .inl (g 1, 1000, .inr (.inl z.2.2.2))) hx hb hr hlk S dX6_enter_12 (by decide) (by decide) (by have hz := Option.some.inj hM; subst hz; exact ⟨rfl, rfl, fr, e_ce, e_co, e_cr⟩)

def mX6_leave (kd : Int32) (sz : Int32) (mk : Int32) (sd : Int32) (kc : Nat → Int32) (n : Int32) (v : Nat → Int64) (t : Int64) : Option ((Nat → Int32) × Int32 × (Nat → Int64)) := (mX4_of t sd).bind fun z5 => if kd = (2 : Int32) then ((mX5_find sz kc z5).bind fun z20 => (mX6_setCell kc z20 (0 : Int32)).bind fun z24 => (mX0_takeOne n v t).bind fun z40 => some (z24, z40.2.1, z40.2.2)) else ((mX6_lowerMarks sz mk kc z5).bind fun z32 => (mX0_takeOne n v t).bind fun z40 => some (z32, z40.2.1, z40.2.2))
set_option maxHeartbeats 4000000 in
set_option maxRecDepth 100000 in
theorem k_X6_leave (l : Launch) (D : va_G) (g : Nat → ClassId) {L : List Nat} {f : Nat → va_E} {ce co cr h : Nat} {lay : Value} {kd : Int32} {sz : Int32} {mk : Int32} {sd : Int32} {kc : Nat → Int32} {n : Int32} {v : Nat → Int64} {t : Int64} {z : (Nat → Int32) × Int32 × (Nat → Int64)} (m_h : h ∈ L) (e_h : f h = .inr (4, [.ref ce, .ref co, lay, .int kd, .int sz, .int mk, .int sd])) (m_ce : ce ∈ L) (e_ce : f ce = .inl (g 0, 4096, .inl kc)) (m_co : co ∈ L) (e_co : f co = .inr (0, [.ref cr, .int n])) (m_cr : cr ∈ L) (e_cr : f cr = .inl (g 1, 1000, .inr (.inl v)))    (hM : mX6_leave kd sz mk sd kc n v t = some z) : cV l yX6_leave wsX6_leave { frames := 4, cells := 0, slots := 0, locals := 91 } D g [.ref h, .long t] L f 0 0 (fun L1 f1 => L1 = L ∧ (∀ b, b ∈ L → b ≠ ce → b ≠ co → b ≠ cr → f1 b = f b) ∧ f1 ce = .inl (g 0, 4096, .inl z.1) ∧ f1 co = .inr (0, [.ref cr, .int z.2.1]) ∧ f1 cr = .inl (g 1, 1000, .inr (.inl z.2.2))) := by
  refine cV_of (cc := cX6_leave) (maxL := 5) (ret := none) (by decide) rfl (Nat.le_of_ble_eq_true rfl) ?_
  intro szz p e s m below meth c hx hb hr hml hts hown hlk hnm S ls hl
  have hl : lv_has ls 5 [(0, .ref h), (1, .long t)] := hl
  have in_X6 : ∀ w ∈ wsX60, w ∈ wsX6_leave := gu_wsX6_leave_4
  have n_h_ce : h ≠ ce := ne_ir e_ce e_h
  have n_co_ce : co ≠ ce := ne_ir e_ce e_co
  have n_cr_ce : cr ≠ ce := ne_len e_ce e_cr (by decide)
  have n_ce_co : ce ≠ co := ne_ri e_co e_ce
  have n_ce_cr : ce ≠ cr := ne_len e_cr e_ce (by decide)
  have fr : ∀ b, b ∈ L → b ≠ ce → b ≠ co → b ≠ cr → f b = f b := fun _ _ _ _ _ => rfl
  unfold mX6_leave at hM
  refine W_gen (fun QQ hQQ => ?_)
  refine lv_lload_n hx hb dX6_leave_0 rfl (lv_at hl 1 rfl) ?_
  refine lv_aload_n hx hb dX6_leave_1 rfl (lv_at hl 0 rfl) ?_
  refine q_get hx hb hts in_X6 hown S m_h e_h (C := RX6) (T := TX6) (N := 7) rfl 6 (by decide) rfl (hts (.fieldLink RX6 32 "SieveCabinet$Sieve" "seed" "I") (gu_wsX6_leave_1 _ gm_0)) dX6_leave_2 ?_
  obtain ⟨z5, hz5, hM⟩ := bind_some hM
  refine q_sl (As := [.long t, .int sd]) (rest := []) ⟨hx, hb, hml, hown, hts⟩ (k_X4_of l D g hz5) (va_cwS 2 hts gX6_leave_X4_of rfl rfl rfl (by decide +kernel) ⟨Nat.le_of_ble_eq_true rfl, Nat.le_of_ble_eq_true rfl⟩) S rfl hl.1 rfl (Nat.le_of_ble_eq_true rfl) dX6_leave_5 ⟨Nat.le_of_ble_eq_true rfl, Nat.le_of_ble_eq_true rfl⟩ (fun r3 L1 f2 H locs S w5 => ?_)
  obtain ⟨ex5, eL, ef⟩ := w5
  rw [eL, ef] at S
  replace ex5 := ex5.symm
  subst ex5
  refine lv_lstore_n (lv' := [(3, .long z5), (0, .ref h), (1, .long t)]) hx hb dX6_leave_8 rfl hl (by decide) rfl (fun ls hl => ?_)
  refine lv_aload_n hx hb dX6_leave_9 rfl (lv_at hl 1 rfl) ?_
  refine q_get hx hb hts in_X6 hown S m_h e_h (C := RX6) (T := TX6) (N := 7) rfl 3 (by decide) rfl (hts (.fieldLink RX6 22 "SieveCabinet$Sieve" "kind" "I") (gu_wsX6_leave_1 _ gm_1)) dX6_leave_10 ?_
  refine lv_iconst (v := (2 : Int32)) hx hb dX6_leave_13 (by decide) ?_
  refine lv_icmp_ne (tgt := 30) hx hb dX6_leave_14 (by decide) (fun b14 => ?_) (fun b14 => ?_)
  · have hM := itF b14 hM
    refine lv_aload_n hx hb dX6_leave_30 rfl (lv_at hl 1 rfl) ?_
    refine lv_lload_n hx hb dX6_leave_31 rfl (lv_at hl 0 rfl) ?_
    obtain ⟨z32, hz32, hM⟩ := bind_some hM
    refine q_vv (As := [.long z5]) (rest := []) ⟨hx, hb, hml, hown, hts⟩ (k_X6_lowerMarks l D g m_h e_h m_ce e_ce m_co e_co m_cr e_cr hz32) (cwV 1 hts gX6_leave_X6_lowerMarks rfl rfl rfl (by decide +kernel) ⟨Nat.le_of_ble_eq_true rfl, Nat.le_of_ble_eq_true rfl⟩) S m_h e_h (T := TX6) (N := 7) rfl rfl hl.1 rfl (Nat.le_of_ble_eq_true rfl) dX6_leave_32 ⟨Nat.le_of_ble_eq_true rfl, Nat.le_of_ble_eq_true rfl⟩ (fun L4 f5 H locs S w32 => ?_)
    obtain ⟨eL, fv32, E_ce⟩ := w32
    rw [eL] at S
    have fr : ∀ b, b ∈ L → b ≠ ce → b ≠ co → b ≠ cr → f5 b = f b := fun b mb nb0 nb1 nb2 => (fv32 b mb nb0).trans (fr b mb nb0 nb1 nb2)
    have e_ce : f5 ce = .inl (g 0, 4096, .inl z32) := E_ce
    refine lv_aload_n hx hb dX6_leave_35 rfl (lv_at hl 1 rfl) ?_
    have e_h := ((fv32 h m_h n_h_ce).trans e_h)
    refine q_get hx hb hts in_X6 hown S m_h e_h (C := RX6) (T := TX6) (N := 7) rfl 1 (by decide) rfl (hts (.fieldLink RX6 18 "SieveCabinet$Sieve" "contents" "LSieveCabinet$Bag;") (gu_wsX6_leave_1 _ gm_2)) dX6_leave_36 ?_
    refine lv_lload_n hx hb dX6_leave_39 rfl (lv_at hl 2 rfl) ?_
    obtain ⟨z40, hz40, hM⟩ := bind_some hM
    have e_co := ((fv32 co m_co n_co_ce).trans e_co)
    have e_cr := ((fv32 cr m_cr n_cr_ce).trans e_cr)
    refine q_vi (As := [.long t]) (rest := []) ⟨hx, hb, hml, hown, hts⟩ (k_X0_takeOne l D g m_co e_co m_cr e_cr hz40) (cwV 1 hts gX6_leave_X0_takeOne rfl rfl rfl (by decide +kernel) ⟨Nat.le_of_ble_eq_true rfl, Nat.le_of_ble_eq_true rfl⟩) S m_co e_co (T := TX0) (N := 2) rfl rfl hl.1 rfl (Nat.le_of_ble_eq_true rfl) dX6_leave_40 ⟨Nat.le_of_ble_eq_true rfl, Nat.le_of_ble_eq_true rfl⟩ (fun r9 L7 f8 H locs S w40 => ?_)
    obtain ⟨ex40, eL, fv40, E_co, E_cr⟩ := w40
    rw [eL] at S
    have fr : ∀ b, b ∈ L → b ≠ ce → b ≠ co → b ≠ cr → f8 b = f b := fun b mb nb0 nb1 nb2 => (fv40 b mb nb1 nb2).trans (fr b mb nb0 nb1 nb2)
    have e_co : f8 co = .inr (0, [.ref cr, .int z40.2.1]) := E_co
    have e_cr : f8 cr = .inl (g 1, 1000, .inr (.inl z40.2.2)) := E_cr
    replace ex40 := ex40.symm
    subst ex40
    refine lv_pop hx hb dX6_leave_43 rfl ?_
    have e_ce := ((fv40 ce m_ce n_ce_co n_ce_cr).trans e_ce)
    subst hQQ
    exact q_retv (post := fun L1 f1 => L1 = L ∧ (∀ b, b ∈ L → b ≠ ce → b ≠ co → b ≠ cr → f1 b = f b) ∧ f1 ce = .inl (g 0, 4096, .inl z.1) ∧ f1 co = .inr (0, [.ref cr, .int z.2.1]) ∧ f1 cr = .inl (g 1, 1000, .inr (.inl z.2.2))) hx hb hr hlk S dX6_leave_44 (by decide) (by decide) (by have hz := Option.some.inj hM; subst hz; exact ⟨rfl, fr, e_ce, e_co, e_cr⟩)
  · have hM := itT b14 hM
    refine lv_aload_n hx hb dX6_leave_17 rfl (lv_at hl 1 rfl) ?_
    refine lv_aload_n hx hb dX6_leave_18 rfl (lv_at hl 1 rfl) ?_
    refine lv_lload_n hx hb dX6_leave_19 rfl (lv_at hl 0 rfl) ?_
    obtain ⟨z20, hz20, hM⟩ := bind_some hM
    refine q_si (As := [.ref h, .long z5]) (rest := [.ref h]) ⟨hx, hb, hml, hown, hts⟩ (k_X5_find l D g m_h e_h m_ce e_ce hz20) (va_cwS 2 hts gX6_leave_X5_find rfl rfl rfl (by decide +kernel) ⟨Nat.le_of_ble_eq_true rfl, Nat.le_of_ble_eq_true rfl⟩) S rfl hl.1 rfl (Nat.le_of_ble_eq_true rfl) dX6_leave_20 ⟨Nat.le_of_ble_eq_true rfl, Nat.le_of_ble_eq_true rfl⟩ (fun r12 L10 f11 H locs S w20 => ?_)
    obtain ⟨ex20, eL, ef⟩ := w20
    rw [eL, ef] at S
    replace ex20 := ex20.symm
    subst ex20
    refine lv_iconst (v := (0 : Int32)) hx hb dX6_leave_23 (by decide) ?_
    obtain ⟨z24, hz24, hM⟩ := bind_some hM
    refine q_vv (As := [.int z20, .int (0 : Int32)]) (rest := []) ⟨hx, hb, hml, hown, hts⟩ (k_X6_setCell l D g m_h e_h m_ce e_ce hz24) (cwV 2 hts gX6_leave_X6_setCell rfl rfl rfl (by decide +kernel) ⟨Nat.le_of_ble_eq_true rfl, Nat.le_of_ble_eq_true rfl⟩) S m_h e_h (T := TX6) (N := 7) rfl rfl hl.1 rfl (Nat.le_of_ble_eq_true rfl) dX6_leave_24 ⟨Nat.le_of_ble_eq_true rfl, Nat.le_of_ble_eq_true rfl⟩ (fun L13 f14 H locs S w24 => ?_)
    obtain ⟨eL, fv24, E_ce⟩ := w24
    rw [eL] at S
    have fr : ∀ b, b ∈ L → b ≠ ce → b ≠ co → b ≠ cr → f14 b = f b := fun b mb nb0 nb1 nb2 => (fv24 b mb nb0).trans (fr b mb nb0 nb1 nb2)
    have e_ce : f14 ce = .inl (g 0, 4096, .inl z24) := E_ce
    refine lv_goto (tgt := 35) hx hb dX6_leave_27 (by decide) ?_
    refine lv_aload_n hx hb dX6_leave_35 rfl (lv_at hl 1 rfl) ?_
    have e_h := ((fv24 h m_h n_h_ce).trans e_h)
    refine q_get hx hb hts in_X6 hown S m_h e_h (C := RX6) (T := TX6) (N := 7) rfl 1 (by decide) rfl (hts (.fieldLink RX6 18 "SieveCabinet$Sieve" "contents" "LSieveCabinet$Bag;") (gu_wsX6_leave_1 _ gm_2)) dX6_leave_36 ?_
    refine lv_lload_n hx hb dX6_leave_39 rfl (lv_at hl 2 rfl) ?_
    obtain ⟨z40, hz40, hM⟩ := bind_some hM
    have e_co := ((fv24 co m_co n_co_ce).trans e_co)
    have e_cr := ((fv24 cr m_cr n_cr_ce).trans e_cr)
    refine q_vi (As := [.long t]) (rest := []) ⟨hx, hb, hml, hown, hts⟩ (k_X0_takeOne l D g m_co e_co m_cr e_cr hz40) (cwV 1 hts gX6_leave_X0_takeOne rfl rfl rfl (by decide +kernel) ⟨Nat.le_of_ble_eq_true rfl, Nat.le_of_ble_eq_true rfl⟩) S m_co e_co (T := TX0) (N := 2) rfl rfl hl.1 rfl (Nat.le_of_ble_eq_true rfl) dX6_leave_40 ⟨Nat.le_of_ble_eq_true rfl, Nat.le_of_ble_eq_true rfl⟩ (fun r18 L16 f17 H locs S w40 => ?_)
    obtain ⟨ex40, eL, fv40, E_co, E_cr⟩ := w40
    rw [eL] at S
    have fr : ∀ b, b ∈ L → b ≠ ce → b ≠ co → b ≠ cr → f17 b = f b := fun b mb nb0 nb1 nb2 => (fv40 b mb nb1 nb2).trans (fr b mb nb0 nb1 nb2)
    have e_co : f17 co = .inr (0, [.ref cr, .int z40.2.1]) := E_co
    have e_cr : f17 cr = .inl (g 1, 1000, .inr (.inl z40.2.2)) := E_cr
    replace ex40 := ex40.symm
    subst ex40
    refine lv_pop hx hb dX6_leave_43 rfl ?_
    have e_ce := ((fv40 ce m_ce n_ce_co n_ce_cr).trans e_ce)
    subst hQQ
    exact q_retv (post := fun L1 f1 => L1 = L ∧ (∀ b, b ∈ L → b ≠ ce → b ≠ co → b ≠ cr → f1 b = f b) ∧ f1 ce = .inl (g 0, 4096, .inl z.1) ∧ f1 co = .inr (0, [.ref cr, .int z.2.1]) ∧ f1 cr = .inl (g 1, 1000, .inr (.inl z.2.2))) hx hb hr hlk S dX6_leave_44 (by decide) (by decide) (by have hz := Option.some.inj hM; subst hz; exact ⟨rfl, fr, e_ce, e_co, e_cr⟩)

def mX6_joinBits_L3 (sz : Int32) (akc : Nat → Int32) (bkc : Nat → Int32) (both : Int32) : Nat → Int32 → (Nat → Int32) → Option (Int32 × (Nat → Int32))
  | 0, _, _ => none
  | fu + 1, x4_3, cce_3 => if sz ≤ x4_3 then (some (x4_3, cce_3)) else ((mX6_cellAt akc x4_3).bind fun z15 => (mX6_cellAt bkc x4_3).bind fun z23 => if both = 0 then ((mX6_setCell cce_3 x4_3 (z15 ||| z23)).bind fun z48 => mX6_joinBits_L3 sz akc bkc both fu (x4_3 + 1) z48) else ((mX6_setCell cce_3 x4_3 (z15 &&& z23)).bind fun z48 => mX6_joinBits_L3 sz akc bkc both fu (x4_3 + 1) z48))
def mX6_joinBits (sz : Int32) (kc : Nat → Int32) (akc : Nat → Int32) (bkc : Nat → Int32) (both : Int32) : Option ((Nat → Int32)) := (mX6_joinBits_L3 sz akc bkc both FU (0 : Int32) kc).bind fun o3 => some o3.2
set_option maxHeartbeats 4000000 in
set_option maxRecDepth 100000 in
theorem k_X6_joinBits (l : Launch) (D : va_G) (g : Nat → ClassId) {L : List Nat} {f : Nat → va_E} {ace aco acr ah bce bco bcr bh ce co cr h : Nat} {lay : Value} {kd : Int32} {sz : Int32} {mk : Int32} {sd : Int32} {kc : Nat → Int32} {n : Int32} {v : Nat → Int64} {alay : Value} {akd : Int32} {asz : Int32} {amk : Int32} {asd : Int32} {akc : Nat → Int32} {an : Int32} {av : Nat → Int64} {blay : Value} {bkd : Int32} {bsz : Int32} {bmk : Int32} {bsd : Int32} {bkc : Nat → Int32} {bn : Int32} {bv : Nat → Int64} {both : Int32} {z : (Nat → Int32)} (m_h : h ∈ L) (e_h : f h = .inr (4, [.ref ce, .ref co, lay, .int kd, .int sz, .int mk, .int sd])) (m_ce : ce ∈ L) (e_ce : f ce = .inl (g 0, 4096, .inl kc)) (m_co : co ∈ L) (e_co : f co = .inr (0, [.ref cr, .int n])) (m_cr : cr ∈ L) (e_cr : f cr = .inl (g 1, 1000, .inr (.inl v))) (m_ah : ah ∈ L) (e_ah : f ah = .inr (4, [.ref ace, .ref aco, alay, .int akd, .int asz, .int amk, .int asd])) (m_ace : ace ∈ L) (e_ace : f ace = .inl (g 0, 4096, .inl akc)) (m_aco : aco ∈ L) (e_aco : f aco = .inr (0, [.ref acr, .int an])) (m_acr : acr ∈ L) (e_acr : f acr = .inl (g 1, 1000, .inr (.inl av))) (m_bh : bh ∈ L) (e_bh : f bh = .inr (4, [.ref bce, .ref bco, blay, .int bkd, .int bsz, .int bmk, .int bsd])) (m_bce : bce ∈ L) (e_bce : f bce = .inl (g 0, 4096, .inl bkc)) (m_bco : bco ∈ L) (e_bco : f bco = .inr (0, [.ref bcr, .int bn])) (m_bcr : bcr ∈ L) (e_bcr : f bcr = .inl (g 1, 1000, .inr (.inl bv))) (n_ace_ce : ace ≠ ce) (n_bce_ce : bce ≠ ce)   (hM : mX6_joinBits sz kc akc bkc both = some z) : cV l yX6_joinBits wsX6_joinBits { frames := 1, cells := 0, slots := 0, locals := 22 } D g [.ref h, .int both, .ref ah, .ref bh] L f 0 0 (fun L1 f1 => L1 = L ∧ (∀ b, b ∈ L → b ≠ ce → f1 b = f b) ∧ f1 ce = .inl (g 0, 4096, .inl z)) := by
  refine cV_of (cc := cX6_joinBits) (maxL := 7) (ret := none) (by decide) rfl (Nat.le_of_ble_eq_true rfl) ?_
  intro szz p e s m below meth c hx hb hr hml hts hown hlk hnm S ls hl
  have hl : lv_has ls 7 [(0, .ref h), (1, .int both), (2, .ref ah), (3, .ref bh)] := hl
  have in_X6 : ∀ w ∈ wsX60, w ∈ wsX6_joinBits := gu_wsX6_joinBits_2
  have n_h_ce : h ≠ ce := ne_ir e_ce e_h
  have n_co_ce : co ≠ ce := ne_ir e_ce e_co
  have n_cr_ce : cr ≠ ce := ne_len e_ce e_cr (by decide)
  have n_ah_ce : ah ≠ ce := ne_ir e_ce e_ah
  have n_aco_ce : aco ≠ ce := ne_ir e_ce e_aco
  have n_acr_ce : acr ≠ ce := ne_len e_ce e_acr (by decide)
  have n_bh_ce : bh ≠ ce := ne_ir e_ce e_bh
  have n_bco_ce : bco ≠ ce := ne_ir e_ce e_bco
  have n_bcr_ce : bcr ≠ ce := ne_len e_ce e_bcr (by decide)
  have fr : ∀ b, b ∈ L → b ≠ ce → f b = f b := fun _ _ _ => rfl
  unfold mX6_joinBits at hM
  refine W_gen (fun QQ hQQ => ?_)
  refine lv_iconst (v := (0 : Int32)) hx hb dX6_joinBits_0 (by decide) ?_
  refine lv_istore (lv' := [(4, .int (0 : Int32)), (0, .ref h), (1, .int both), (2, .ref ah), (3, .ref bh)]) hx hb dX6_joinBits_1 hl (by decide) rfl (fun ls hl => ?_)
  obtain ⟨o3, ho3, hM⟩ := bind_some hM
  have EX3 : ∀ (fl3 : Nat → va_E) (H : Heap) (locs : List Loc) (ls : Array Slot), PS D g (va_A (va_pl L f) szz) s.heap s L fl3 H locs → fl3 h = .inr (4, [.ref ce, .ref co, lay, .int kd, .int sz, .int mk, .int sd]) → fl3 ce = .inl (g 0, 4096, .inl o3.2) → fl3 co = .inr (0, [.ref cr, .int n]) → fl3 cr = .inl (g 1, 1000, .inr (.inl v)) → fl3 ah = .inr (4, [.ref ace, .ref aco, alay, .int akd, .int asz, .int amk, .int asd]) → fl3 ace = .inl (g 0, 4096, .inl akc) → fl3 aco = .inr (0, [.ref acr, .int an]) → fl3 acr = .inl (g 1, 1000, .inr (.inl av)) → fl3 bh = .inr (4, [.ref bce, .ref bco, blay, .int bkd, .int bsz, .int bmk, .int bsd]) → fl3 bce = .inl (g 0, 4096, .inl bkc) → fl3 bco = .inr (0, [.ref bcr, .int bn]) → fl3 bcr = .inl (g 1, 1000, .inr (.inl bv)) → (∀ b, b ∈ L → b ≠ ce → fl3 b = f b) → lv_has ls 7 [] → W p l e { frames := 1, cells := 0, slots := 0, locals := 22 } s m [.ref h, .int both, .ref ah, .ref bh].toArray below meth c H locs 0 0 QQ (F0 m 57 ls []) := by
    intro fl3 H locs ls S e_h e_ce e_co e_cr e_ah e_ace e_aco e_acr e_bh e_bce e_bco e_bcr fr hl
    subst hQQ
    exact q_retv (post := fun L1 f1 => L1 = L ∧ (∀ b, b ∈ L → b ≠ ce → f1 b = f b) ∧ f1 ce = .inl (g 0, 4096, .inl z)) hx hb hr hlk S dX6_joinBits_57 (by decide) (by decide) (by have hz := Option.some.inj hM; subst hz; exact ⟨rfl, fr, e_ce⟩)
  have LP3 : ∀ (fu : Nat) (x4_3 : Int32) (cce_3 : Nat → Int32) (fl3 : Nat → va_E) (H : Heap) (locs : List Loc) (ls : Array Slot), (mX6_joinBits_L3 sz akc bkc both) fu x4_3 cce_3 = some o3 → PS D g (va_A (va_pl L f) szz) s.heap s L fl3 H locs → fl3 h = .inr (4, [.ref ce, .ref co, lay, .int kd, .int sz, .int mk, .int sd]) → fl3 ce = .inl (g 0, 4096, .inl cce_3) → fl3 co = .inr (0, [.ref cr, .int n]) → fl3 cr = .inl (g 1, 1000, .inr (.inl v)) → fl3 ah = .inr (4, [.ref ace, .ref aco, alay, .int akd, .int asz, .int amk, .int asd]) → fl3 ace = .inl (g 0, 4096, .inl akc) → fl3 aco = .inr (0, [.ref acr, .int an]) → fl3 acr = .inl (g 1, 1000, .inr (.inl av)) → fl3 bh = .inr (4, [.ref bce, .ref bco, blay, .int bkd, .int bsz, .int bmk, .int bsd]) → fl3 bce = .inl (g 0, 4096, .inl bkc) → fl3 bco = .inr (0, [.ref bcr, .int bn]) → fl3 bcr = .inl (g 1, 1000, .inr (.inl bv)) → (∀ b, b ∈ L → b ≠ ce → fl3 b = f b) → lv_has ls 7 [(4, .int x4_3), (0, .ref h), (1, .int both), (2, .ref ah), (3, .ref bh)] → W p l e { frames := 1, cells := 0, slots := 0, locals := 22 } s m [.ref h, .int both, .ref ah, .ref bh].toArray below meth c H locs 0 0 QQ (F0 m 3 ls []) := by
    intro fu
    induction fu with
    | zero => intro x4_3 cce_3 fl3 H locs ls ho3 S e_h e_ce e_co e_cr e_ah e_ace e_aco e_acr e_bh e_bce e_bco e_bcr fr hl; exact no_some ho3
    | succ fu ih3 =>
      intro x4_3 cce_3 fl3 H locs ls ho3 S e_h e_ce e_co e_cr e_ah e_ace e_aco e_acr e_bh e_bce e_bco e_bcr fr hl
      rw [mX6_joinBits_L3] at ho3
      refine lv_iload hx hb dX6_joinBits_3 (lv_at hl 0 rfl) ?_
      refine lv_aload_n hx hb dX6_joinBits_5 rfl (lv_at hl 1 rfl) ?_
      refine q_get hx hb hts in_X6 hown S m_h e_h (C := RX6) (T := TX6) (N := 7) rfl 4 (by decide) rfl (hts (.fieldLink RX6 26 "SieveCabinet$Sieve" "size" "I") (gu_wsX6_joinBits_1 _ gm_0)) dX6_joinBits_6 ?_
      refine lv_icmp_ge (tgt := 57) hx hb dX6_joinBits_9 (by decide) (fun b9 => ?_) (fun b9 => ?_)
      · have ho3 := itT b9 ho3
        obtain rfl := Option.some.inj ho3
        exact EX3 fl3 _ _ _ S e_h e_ce e_co e_cr e_ah e_ace e_aco e_acr e_bh e_bce e_bco e_bcr fr (lv_sub hl [] rfl)
      · have ho3 := itF b9 ho3
        refine lv_aload_n hx hb dX6_joinBits_12 rfl (lv_at hl 3 rfl) ?_
        refine lv_iload hx hb dX6_joinBits_13 (lv_at hl 0 rfl) ?_
        obtain ⟨z15, hz15, ho3⟩ := bind_some ho3
        refine q_vi (As := [.int x4_3]) (rest := []) ⟨hx, hb, hml, hown, hts⟩ (k_X6_cellAt l D g m_ah e_ah m_ace e_ace hz15) (cwV 1 hts gX6_joinBits_X6_cellAt rfl rfl rfl (by decide +kernel) ⟨Nat.le_of_ble_eq_true rfl, Nat.le_of_ble_eq_true rfl⟩) S m_ah e_ah (T := TX6) (N := 7) rfl rfl hl.1 rfl (Nat.le_of_ble_eq_true rfl) dX6_joinBits_15 ⟨Nat.le_of_ble_eq_true rfl, Nat.le_of_ble_eq_true rfl⟩ (fun r3 L1 f2 H locs S w15 => ?_)
        obtain ⟨ex15, eL, ef⟩ := w15
        rw [eL, ef] at S
        replace ex15 := ex15.symm
        subst ex15
        refine lv_istore (lv' := [(5, .int z15), (4, .int x4_3), (0, .ref h), (1, .int both), (2, .ref ah), (3, .ref bh)]) hx hb dX6_joinBits_18 hl (by decide) rfl (fun ls hl => ?_)
        refine lv_aload_n hx hb dX6_joinBits_20 rfl (lv_at hl 5 rfl) ?_
        refine lv_iload hx hb dX6_joinBits_21 (lv_at hl 1 rfl) ?_
        obtain ⟨z23, hz23, ho3⟩ := bind_some ho3
        refine q_vi (As := [.int x4_3]) (rest := []) ⟨hx, hb, hml, hown, hts⟩ (k_X6_cellAt l D g m_bh e_bh m_bce e_bce hz23) (cwV 1 hts gX6_joinBits_X6_cellAt rfl rfl rfl (by decide +kernel) ⟨Nat.le_of_ble_eq_true rfl, Nat.le_of_ble_eq_true rfl⟩) S m_bh e_bh (T := TX6) (N := 7) rfl rfl hl.1 rfl (Nat.le_of_ble_eq_true rfl) dX6_joinBits_23 ⟨Nat.le_of_ble_eq_true rfl, Nat.le_of_ble_eq_true rfl⟩ (fun r6 L4 f5 H locs S w23 => ?_)
        obtain ⟨ex23, eL, ef⟩ := w23
        rw [eL, ef] at S
        replace ex23 := ex23.symm
        subst ex23
        refine lv_istore (lv' := [(6, .int z23), (5, .int z15), (4, .int x4_3), (0, .ref h), (1, .int both), (2, .ref ah), (3, .ref bh)]) hx hb dX6_joinBits_26 hl (by decide) rfl (fun ls hl => ?_)
        refine lv_aload_n hx hb dX6_joinBits_28 rfl (lv_at hl 3 rfl) ?_
        refine lv_iload hx hb dX6_joinBits_29 (lv_at hl 2 rfl) ?_
        refine lv_iload_n hx hb dX6_joinBits_31 rfl (lv_at hl 4 rfl) ?_
        refine lv_if_eq (tgt := 43) hx hb dX6_joinBits_32 (by decide) (fun b32 => ?_) (fun b32 => ?_)
        · have ho3 := itT b32 ho3
          refine lv_iload hx hb dX6_joinBits_43 (lv_at hl 1 rfl) ?_
          refine lv_iload hx hb dX6_joinBits_45 (lv_at hl 0 rfl) ?_
          refine lv_ior hx hb dX6_joinBits_47 ?_
          obtain ⟨z48, hz48, ho3⟩ := bind_some ho3
          refine q_vv (As := [.int x4_3, .int (z15 ||| z23)]) (rest := []) ⟨hx, hb, hml, hown, hts⟩ (k_X6_setCell l D g m_h e_h m_ce e_ce hz48) (cwV 2 hts gX6_joinBits_X6_setCell rfl rfl rfl (by decide +kernel) ⟨Nat.le_of_ble_eq_true rfl, Nat.le_of_ble_eq_true rfl⟩) S m_h e_h (T := TX6) (N := 7) rfl rfl hl.1 rfl (Nat.le_of_ble_eq_true rfl) dX6_joinBits_48 ⟨Nat.le_of_ble_eq_true rfl, Nat.le_of_ble_eq_true rfl⟩ (fun L7 f8 H locs S w48 => ?_)
          obtain ⟨eL, fv48, E_ce⟩ := w48
          rw [eL] at S
          have fr : ∀ b, b ∈ L → b ≠ ce → f8 b = f b := fun b mb nb0 => (fv48 b mb nb0).trans (fr b mb nb0)
          have e_ce : f8 ce = .inl (g 0, 4096, .inl z48) := E_ce
          refine lv_iinc (v := (x4_3 + 1)) (lv' := [(4, .int (x4_3 + 1)), (6, .int z23), (5, .int z15), (0, .ref h), (1, .int both), (2, .ref ah), (3, .ref bh)]) hx hb dX6_joinBits_51 hl (k := 2) rfl rfl (by decide) rfl (fun ls hl => ?_)
          refine lv_goto (tgt := 3) hx hb dX6_joinBits_54 (by decide) ?_
          have e_h := ((fv48 h m_h n_h_ce).trans e_h)
          have e_co := ((fv48 co m_co n_co_ce).trans e_co)
          have e_cr := ((fv48 cr m_cr n_cr_ce).trans e_cr)
          have e_ah := ((fv48 ah m_ah n_ah_ce).trans e_ah)
          have e_ace := ((fv48 ace m_ace n_ace_ce).trans e_ace)
          have e_aco := ((fv48 aco m_aco n_aco_ce).trans e_aco)
          have e_acr := ((fv48 acr m_acr n_acr_ce).trans e_acr)
          have e_bh := ((fv48 bh m_bh n_bh_ce).trans e_bh)
          have e_bce := ((fv48 bce m_bce n_bce_ce).trans e_bce)
          have e_bco := ((fv48 bco m_bco n_bco_ce).trans e_bco)
          have e_bcr := ((fv48 bcr m_bcr n_bcr_ce).trans e_bcr)
          exact ih3 (x4_3 + 1) z48 f8 _ _ _ ho3 S e_h e_ce e_co e_cr e_ah e_ace e_aco e_acr e_bh e_bce e_bco e_bcr fr (lv_sub hl [0, 3, 4, 5, 6] rfl)
        · have ho3 := itF b32 ho3
          refine lv_iload hx hb dX6_joinBits_35 (lv_at hl 1 rfl) ?_
          refine lv_iload hx hb dX6_joinBits_37 (lv_at hl 0 rfl) ?_
          refine lv_iand hx hb dX6_joinBits_39 ?_
          refine lv_goto (tgt := 48) hx hb dX6_joinBits_40 (by decide) ?_
          obtain ⟨z48, hz48, ho3⟩ := bind_some ho3
          refine q_vv (As := [.int x4_3, .int (z15 &&& z23)]) (rest := []) ⟨hx, hb, hml, hown, hts⟩ (k_X6_setCell l D g m_h e_h m_ce e_ce hz48) (cwV 2 hts gX6_joinBits_X6_setCell rfl rfl rfl (by decide +kernel) ⟨Nat.le_of_ble_eq_true rfl, Nat.le_of_ble_eq_true rfl⟩) S m_h e_h (T := TX6) (N := 7) rfl rfl hl.1 rfl (Nat.le_of_ble_eq_true rfl) dX6_joinBits_48 ⟨Nat.le_of_ble_eq_true rfl, Nat.le_of_ble_eq_true rfl⟩ (fun L10 f11 H locs S w48 => ?_)
          obtain ⟨eL, fv48, E_ce⟩ := w48
          rw [eL] at S
          have fr : ∀ b, b ∈ L → b ≠ ce → f11 b = f b := fun b mb nb0 => (fv48 b mb nb0).trans (fr b mb nb0)
          have e_ce : f11 ce = .inl (g 0, 4096, .inl z48) := E_ce
          refine lv_iinc (v := (x4_3 + 1)) (lv' := [(4, .int (x4_3 + 1)), (6, .int z23), (5, .int z15), (0, .ref h), (1, .int both), (2, .ref ah), (3, .ref bh)]) hx hb dX6_joinBits_51 hl (k := 2) rfl rfl (by decide) rfl (fun ls hl => ?_)
          refine lv_goto (tgt := 3) hx hb dX6_joinBits_54 (by decide) ?_
          have e_h := ((fv48 h m_h n_h_ce).trans e_h)
          have e_co := ((fv48 co m_co n_co_ce).trans e_co)
          have e_cr := ((fv48 cr m_cr n_cr_ce).trans e_cr)
          have e_ah := ((fv48 ah m_ah n_ah_ce).trans e_ah)
          have e_ace := ((fv48 ace m_ace n_ace_ce).trans e_ace)
          have e_aco := ((fv48 aco m_aco n_aco_ce).trans e_aco)
          have e_acr := ((fv48 acr m_acr n_acr_ce).trans e_acr)
          have e_bh := ((fv48 bh m_bh n_bh_ce).trans e_bh)
          have e_bce := ((fv48 bce m_bce n_bce_ce).trans e_bce)
          have e_bco := ((fv48 bco m_bco n_bco_ce).trans e_bco)
          have e_bcr := ((fv48 bcr m_bcr n_bcr_ce).trans e_bcr)
          exact ih3 (x4_3 + 1) z48 f11 _ _ _ ho3 S e_h e_ce e_co e_cr e_ah e_ace e_aco e_acr e_bh e_bce e_bco e_bcr fr (lv_sub hl [0, 3, 4, 5, 6] rfl)
  exact LP3 FU (0 : Int32) kc f _ _ _ ho3 S e_h e_ce e_co e_cr e_ah e_ace e_aco e_acr e_bh e_bce e_bco e_bcr fr (lv_sub hl [0, 1, 2, 3, 4] rfl)

def mX6_foldBits_L2 (sz : Int32) (akc : Nat → Int32) : Nat → Int32 → (Nat → Int32) → Option (Int32 × (Nat → Int32))
  | 0, _, _ => none
  | fu + 1, x2_2, cce_2 => if sz ≤ x2_2 then (some (x2_2, cce_2)) else ((mX6_cellAt akc x2_2).bind fun z14 => (mX6_cellAt akc (x2_2 + sz)).bind fun z24 => (mX6_setCell cce_2 x2_2 (z14 ||| z24)).bind fun z28 => mX6_foldBits_L2 sz akc fu (x2_2 + 1) z28)
def mX6_foldBits (sz : Int32) (kc : Nat → Int32) (akc : Nat → Int32) : Option ((Nat → Int32)) := (mX6_foldBits_L2 sz akc FU (0 : Int32) kc).bind fun o2 => some o2.2
set_option maxHeartbeats 4000000 in
set_option maxRecDepth 100000 in
theorem k_X6_foldBits (l : Launch) (D : va_G) (g : Nat → ClassId) {L : List Nat} {f : Nat → va_E} {ace aco acr ah ce co cr h : Nat} {lay : Value} {kd : Int32} {sz : Int32} {mk : Int32} {sd : Int32} {kc : Nat → Int32} {n : Int32} {v : Nat → Int64} {alay : Value} {akd : Int32} {asz : Int32} {amk : Int32} {asd : Int32} {akc : Nat → Int32} {an : Int32} {av : Nat → Int64} {z : (Nat → Int32)} (m_h : h ∈ L) (e_h : f h = .inr (4, [.ref ce, .ref co, lay, .int kd, .int sz, .int mk, .int sd])) (m_ce : ce ∈ L) (e_ce : f ce = .inl (g 0, 4096, .inl kc)) (m_co : co ∈ L) (e_co : f co = .inr (0, [.ref cr, .int n])) (m_cr : cr ∈ L) (e_cr : f cr = .inl (g 1, 1000, .inr (.inl v))) (m_ah : ah ∈ L) (e_ah : f ah = .inr (4, [.ref ace, .ref aco, alay, .int akd, .int asz, .int amk, .int asd])) (m_ace : ace ∈ L) (e_ace : f ace = .inl (g 0, 4096, .inl akc)) (m_aco : aco ∈ L) (e_aco : f aco = .inr (0, [.ref acr, .int an])) (m_acr : acr ∈ L) (e_acr : f acr = .inl (g 1, 1000, .inr (.inl av))) (n_ace_ce : ace ≠ ce)   (hM : mX6_foldBits sz kc akc = some z) : cV l yX6_foldBits wsX6_foldBits { frames := 1, cells := 0, slots := 0, locals := 22 } D g [.ref h, .ref ah] L f 0 0 (fun L1 f1 => L1 = L ∧ (∀ b, b ∈ L → b ≠ ce → f1 b = f b) ∧ f1 ce = .inl (g 0, 4096, .inl z)) := by
  refine cV_of (cc := cX6_foldBits) (maxL := 3) (ret := none) (by decide) rfl (Nat.le_of_ble_eq_true rfl) ?_
  intro szz p e s m below meth c hx hb hr hml hts hown hlk hnm S ls hl
  have hl : lv_has ls 3 [(0, .ref h), (1, .ref ah)] := hl
  have in_X6 : ∀ w ∈ wsX60, w ∈ wsX6_foldBits := gu_wsX6_foldBits_2
  have n_h_ce : h ≠ ce := ne_ir e_ce e_h
  have n_co_ce : co ≠ ce := ne_ir e_ce e_co
  have n_cr_ce : cr ≠ ce := ne_len e_ce e_cr (by decide)
  have n_ah_ce : ah ≠ ce := ne_ir e_ce e_ah
  have n_aco_ce : aco ≠ ce := ne_ir e_ce e_aco
  have n_acr_ce : acr ≠ ce := ne_len e_ce e_acr (by decide)
  have fr : ∀ b, b ∈ L → b ≠ ce → f b = f b := fun _ _ _ => rfl
  unfold mX6_foldBits at hM
  refine W_gen (fun QQ hQQ => ?_)
  refine lv_iconst (v := (0 : Int32)) hx hb dX6_foldBits_0 (by decide) ?_
  refine lv_istore_n (lv' := [(2, .int (0 : Int32)), (0, .ref h), (1, .ref ah)]) hx hb dX6_foldBits_1 rfl hl (by decide) rfl (fun ls hl => ?_)
  obtain ⟨o2, ho2, hM⟩ := bind_some hM
  have EX2 : ∀ (fl2 : Nat → va_E) (H : Heap) (locs : List Loc) (ls : Array Slot), PS D g (va_A (va_pl L f) szz) s.heap s L fl2 H locs → fl2 h = .inr (4, [.ref ce, .ref co, lay, .int kd, .int sz, .int mk, .int sd]) → fl2 ce = .inl (g 0, 4096, .inl o2.2) → fl2 co = .inr (0, [.ref cr, .int n]) → fl2 cr = .inl (g 1, 1000, .inr (.inl v)) → fl2 ah = .inr (4, [.ref ace, .ref aco, alay, .int akd, .int asz, .int amk, .int asd]) → fl2 ace = .inl (g 0, 4096, .inl akc) → fl2 aco = .inr (0, [.ref acr, .int an]) → fl2 acr = .inl (g 1, 1000, .inr (.inl av)) → (∀ b, b ∈ L → b ≠ ce → fl2 b = f b) → lv_has ls 3 [] → W p l e { frames := 1, cells := 0, slots := 0, locals := 22 } s m [.ref h, .ref ah].toArray below meth c H locs 0 0 QQ (F0 m 37 ls []) := by
    intro fl2 H locs ls S e_h e_ce e_co e_cr e_ah e_ace e_aco e_acr fr hl
    subst hQQ
    exact q_retv (post := fun L1 f1 => L1 = L ∧ (∀ b, b ∈ L → b ≠ ce → f1 b = f b) ∧ f1 ce = .inl (g 0, 4096, .inl z)) hx hb hr hlk S dX6_foldBits_37 (by decide) (by decide) (by have hz := Option.some.inj hM; subst hz; exact ⟨rfl, fr, e_ce⟩)
  have LP2 : ∀ (fu : Nat) (x2_2 : Int32) (cce_2 : Nat → Int32) (fl2 : Nat → va_E) (H : Heap) (locs : List Loc) (ls : Array Slot), (mX6_foldBits_L2 sz akc) fu x2_2 cce_2 = some o2 → PS D g (va_A (va_pl L f) szz) s.heap s L fl2 H locs → fl2 h = .inr (4, [.ref ce, .ref co, lay, .int kd, .int sz, .int mk, .int sd]) → fl2 ce = .inl (g 0, 4096, .inl cce_2) → fl2 co = .inr (0, [.ref cr, .int n]) → fl2 cr = .inl (g 1, 1000, .inr (.inl v)) → fl2 ah = .inr (4, [.ref ace, .ref aco, alay, .int akd, .int asz, .int amk, .int asd]) → fl2 ace = .inl (g 0, 4096, .inl akc) → fl2 aco = .inr (0, [.ref acr, .int an]) → fl2 acr = .inl (g 1, 1000, .inr (.inl av)) → (∀ b, b ∈ L → b ≠ ce → fl2 b = f b) → lv_has ls 3 [(2, .int x2_2), (0, .ref h), (1, .ref ah)] → W p l e { frames := 1, cells := 0, slots := 0, locals := 22 } s m [.ref h, .ref ah].toArray below meth c H locs 0 0 QQ (F0 m 2 ls []) := by
    intro fu
    induction fu with
    | zero => intro x2_2 cce_2 fl2 H locs ls ho2 S e_h e_ce e_co e_cr e_ah e_ace e_aco e_acr fr hl; exact no_some ho2
    | succ fu ih2 =>
      intro x2_2 cce_2 fl2 H locs ls ho2 S e_h e_ce e_co e_cr e_ah e_ace e_aco e_acr fr hl
      rw [mX6_foldBits_L2] at ho2
      refine lv_iload_n hx hb dX6_foldBits_2 rfl (lv_at hl 0 rfl) ?_
      refine lv_aload_n hx hb dX6_foldBits_3 rfl (lv_at hl 1 rfl) ?_
      refine q_get hx hb hts in_X6 hown S m_h e_h (C := RX6) (T := TX6) (N := 7) rfl 4 (by decide) rfl (hts (.fieldLink RX6 26 "SieveCabinet$Sieve" "size" "I") (gu_wsX6_foldBits_1 _ gm_0)) dX6_foldBits_4 ?_
      refine lv_icmp_ge (tgt := 37) hx hb dX6_foldBits_7 (by decide) (fun b7 => ?_) (fun b7 => ?_)
      · have ho2 := itT b7 ho2
        obtain rfl := Option.some.inj ho2
        exact EX2 fl2 _ _ _ S e_h e_ce e_co e_cr e_ah e_ace e_aco e_acr fr (lv_sub hl [] rfl)
      · have ho2 := itF b7 ho2
        refine lv_aload_n hx hb dX6_foldBits_10 rfl (lv_at hl 1 rfl) ?_
        refine lv_iload_n hx hb dX6_foldBits_11 rfl (lv_at hl 0 rfl) ?_
        refine lv_aload_n hx hb dX6_foldBits_12 rfl (lv_at hl 2 rfl) ?_
        refine lv_iload_n hx hb dX6_foldBits_13 rfl (lv_at hl 0 rfl) ?_
        obtain ⟨z14, hz14, ho2⟩ := bind_some ho2
        refine q_vi (As := [.int x2_2]) (rest := [.int x2_2, .ref h]) ⟨hx, hb, hml, hown, hts⟩ (k_X6_cellAt l D g m_ah e_ah m_ace e_ace hz14) (cwV 1 hts gX6_foldBits_X6_cellAt rfl rfl rfl (by decide +kernel) ⟨Nat.le_of_ble_eq_true rfl, Nat.le_of_ble_eq_true rfl⟩) S m_ah e_ah (T := TX6) (N := 7) rfl rfl hl.1 rfl (Nat.le_of_ble_eq_true rfl) dX6_foldBits_14 ⟨Nat.le_of_ble_eq_true rfl, Nat.le_of_ble_eq_true rfl⟩ (fun r3 L1 f2 H locs S w14 => ?_)
        obtain ⟨ex14, eL, ef⟩ := w14
        rw [eL, ef] at S
        replace ex14 := ex14.symm
        subst ex14
        refine lv_aload_n hx hb dX6_foldBits_17 rfl (lv_at hl 2 rfl) ?_
        refine lv_iload_n hx hb dX6_foldBits_18 rfl (lv_at hl 0 rfl) ?_
        refine lv_aload_n hx hb dX6_foldBits_19 rfl (lv_at hl 1 rfl) ?_
        refine q_get hx hb hts in_X6 hown S m_h e_h (C := RX6) (T := TX6) (N := 7) rfl 4 (by decide) rfl (hts (.fieldLink RX6 26 "SieveCabinet$Sieve" "size" "I") (gu_wsX6_foldBits_1 _ gm_0)) dX6_foldBits_20 ?_
        refine lv_iadd hx hb dX6_foldBits_23 ?_
        obtain ⟨z24, hz24, ho2⟩ := bind_some ho2
        refine q_vi (As := [.int (x2_2 + sz)]) (rest := [.int z14, .int x2_2, .ref h]) ⟨hx, hb, hml, hown, hts⟩ (k_X6_cellAt l D g m_ah e_ah m_ace e_ace hz24) (cwV 1 hts gX6_foldBits_X6_cellAt rfl rfl rfl (by decide +kernel) ⟨Nat.le_of_ble_eq_true rfl, Nat.le_of_ble_eq_true rfl⟩) S m_ah e_ah (T := TX6) (N := 7) rfl rfl hl.1 rfl (Nat.le_of_ble_eq_true rfl) dX6_foldBits_24 ⟨Nat.le_of_ble_eq_true rfl, Nat.le_of_ble_eq_true rfl⟩ (fun r6 L4 f5 H locs S w24 => ?_)
        obtain ⟨ex24, eL, ef⟩ := w24
        rw [eL, ef] at S
        replace ex24 := ex24.symm
        subst ex24
        refine lv_ior hx hb dX6_foldBits_27 ?_
        obtain ⟨z28, hz28, ho2⟩ := bind_some ho2
        refine q_vv (As := [.int x2_2, .int (z14 ||| z24)]) (rest := []) ⟨hx, hb, hml, hown, hts⟩ (k_X6_setCell l D g m_h e_h m_ce e_ce hz28) (cwV 2 hts gX6_foldBits_X6_setCell rfl rfl rfl (by decide +kernel) ⟨Nat.le_of_ble_eq_true rfl, Nat.le_of_ble_eq_true rfl⟩) S m_h e_h (T := TX6) (N := 7) rfl rfl hl.1 rfl (Nat.le_of_ble_eq_true rfl) dX6_foldBits_28 ⟨Nat.le_of_ble_eq_true rfl, Nat.le_of_ble_eq_true rfl⟩ (fun L7 f8 H locs S w28 => ?_)
        obtain ⟨eL, fv28, E_ce⟩ := w28
        rw [eL] at S
        have fr : ∀ b, b ∈ L → b ≠ ce → f8 b = f b := fun b mb nb0 => (fv28 b mb nb0).trans (fr b mb nb0)
        have e_ce : f8 ce = .inl (g 0, 4096, .inl z28) := E_ce
        refine lv_iinc (v := (x2_2 + 1)) (lv' := [(2, .int (x2_2 + 1)), (0, .ref h), (1, .ref ah)]) hx hb dX6_foldBits_31 hl (k := 0) rfl rfl (by decide) rfl (fun ls hl => ?_)
        refine lv_goto (tgt := 2) hx hb dX6_foldBits_34 (by decide) ?_
        have e_h := ((fv28 h m_h n_h_ce).trans e_h)
        have e_co := ((fv28 co m_co n_co_ce).trans e_co)
        have e_cr := ((fv28 cr m_cr n_cr_ce).trans e_cr)
        have e_ah := ((fv28 ah m_ah n_ah_ce).trans e_ah)
        have e_ace := ((fv28 ace m_ace n_ace_ce).trans e_ace)
        have e_aco := ((fv28 aco m_aco n_aco_ce).trans e_aco)
        have e_acr := ((fv28 acr m_acr n_acr_ce).trans e_acr)
        exact ih2 (x2_2 + 1) z28 f8 _ _ _ ho2 S e_h e_ce e_co e_cr e_ah e_ace e_aco e_acr fr (lv_sub hl [0, 1, 2] rfl)
  exact LP2 FU (0 : Int32) kc f _ _ _ ho2 S e_h e_ce e_co e_cr e_ah e_ace e_aco e_acr fr (lv_sub hl [0, 1, 2] rfl)

def mX6_spot (kd : Int32) (sz : Int32) (sd : Int32) (t : Int64) (j : Int32) : Option (Int32) := (mX4_of t sd).bind fun z5 => if kd = (2 : Int32) then (if j = 0 then ((mX4_firstNest z5 sz).bind fun z50 => some z50) else ((mX5_secondNest sz z5).bind fun z59 => some z59)) else (if kd = (3 : Int32) then ((mX4_solvedPlace z5 j (sz / (3 : Int32))).bind fun z72 => some z72) else ((mX4_markPlace z5 j sz).bind fun z83 => some z83))
set_option maxHeartbeats 4000000 in
set_option maxRecDepth 100000 in
theorem k_X6_spot (l : Launch) (D : va_G) (g : Nat → ClassId) {L : List Nat} {f : Nat → va_E} {ce co h : Nat} {lay : Value} {kd : Int32} {sz : Int32} {mk : Int32} {sd : Int32} {t : Int64} {j : Int32} {z : Int32} (m_h : h ∈ L) (e_h : f h = .inr (4, [.ref ce, .ref co, lay, .int kd, .int sz, .int mk, .int sd]))    (hM : mX6_spot kd sz sd t j = some z) : cI l yX6_spot wsX6_spot { frames := 3, cells := 0, slots := 0, locals := 67 } D g [.ref h, .long t, .int j] L f 0 0 (fun x L1 f1 => x = z ∧ L1 = L ∧ f1 = f) := by
  refine cI_of (cc := cX6_spot) (maxL := 6) (ret := (some .int)) (by decide) rfl (Nat.le_of_ble_eq_true rfl) ?_
  intro szz p e s m below meth c hx hb hr hml hts hown hlk hnm S ls hl
  have hl : lv_has ls 6 [(0, .ref h), (1, .long t), (3, .int j)] := hl
  have in_X6 : ∀ w ∈ wsX60, w ∈ wsX6_spot := gu_wsX6_spot_3
  unfold mX6_spot at hM
  refine W_gen (fun QQ hQQ => ?_)
  refine lv_lload_n hx hb dX6_spot_0 rfl (lv_at hl 1 rfl) ?_
  refine lv_aload_n hx hb dX6_spot_1 rfl (lv_at hl 0 rfl) ?_
  refine q_get hx hb hts in_X6 hown S m_h e_h (C := RX6) (T := TX6) (N := 7) rfl 6 (by decide) rfl (hts (.fieldLink RX6 32 "SieveCabinet$Sieve" "seed" "I") (gu_wsX6_spot_1 _ gm_0)) dX6_spot_2 ?_
  obtain ⟨z5, hz5, hM⟩ := bind_some hM
  refine q_sl (As := [.long t, .int sd]) (rest := []) ⟨hx, hb, hml, hown, hts⟩ (k_X4_of l D g hz5) (va_cwS 2 hts gX6_spot_X4_of rfl rfl rfl (by decide +kernel) ⟨Nat.le_of_ble_eq_true rfl, Nat.le_of_ble_eq_true rfl⟩) S rfl hl.1 rfl (Nat.le_of_ble_eq_true rfl) dX6_spot_5 ⟨Nat.le_of_ble_eq_true rfl, Nat.le_of_ble_eq_true rfl⟩ (fun r3 L1 f2 H locs S w5 => ?_)
  obtain ⟨ex5, eL, ef⟩ := w5
  rw [eL, ef] at S
  replace ex5 := ex5.symm
  subst ex5
  refine lv_lstore (lv' := [(4, .long z5), (0, .ref h), (1, .long t), (3, .int j)]) hx hb dX6_spot_8 hl (by decide) rfl (fun ls hl => ?_)
  refine lv_aload_n hx hb dX6_spot_10 rfl (lv_at hl 1 rfl) ?_
  refine q_get hx hb hts in_X6 hown S m_h e_h (C := RX6) (T := TX6) (N := 7) rfl 3 (by decide) rfl (hts (.fieldLink RX6 22 "SieveCabinet$Sieve" "kind" "I") (gu_wsX6_spot_1 _ gm_1)) dX6_spot_11 ?_
  by_cases w14_2 : kd = (2 : Int32)
  · have hM := itT w14_2 hM
    refine lv_lookup (off := 26) (tgt := 40) hx hb dX6_spot_14 (by decide) (by rw [w14_2]; rfl) (by decide) ?_
    refine lv_iload_n hx hb dX6_spot_40 rfl (lv_at hl 3 rfl) ?_
    refine lv_if_ne (tgt := 56) hx hb dX6_spot_41 (by decide) (fun b41 => ?_) (fun b41 => ?_)
    · have hM := itF b41 hM
      refine lv_aload_n hx hb dX6_spot_56 rfl (lv_at hl 1 rfl) ?_
      refine lv_lload hx hb dX6_spot_57 (lv_at hl 0 rfl) ?_
      obtain ⟨z59, hz59, hM⟩ := bind_some hM
      refine q_si (As := [.ref h, .long z5]) (rest := []) ⟨hx, hb, hml, hown, hts⟩ (k_X5_secondNest l D g m_h e_h hz59) (va_cwS 2 hts gX6_spot_X5_secondNest rfl rfl rfl (by decide +kernel) ⟨Nat.le_of_ble_eq_true rfl, Nat.le_of_ble_eq_true rfl⟩) S rfl hl.1 rfl (Nat.le_of_ble_eq_true rfl) dX6_spot_59 ⟨Nat.le_of_ble_eq_true rfl, Nat.le_of_ble_eq_true rfl⟩ (fun r6 L4 f5 H locs S w59 => ?_)
      obtain ⟨ex59, eL, ef⟩ := w59
      rw [eL, ef] at S
      replace ex59 := ex59.symm
      subst ex59
      subst hQQ
      exact q_reti (post := fun x L1 f1 => x = z ∧ L1 = L ∧ f1 = f) hx hb hr hlk S dX6_spot_62 (by decide) (by decide) (by have hz := Option.some.inj hM; subst hz; exact ⟨rfl, rfl, rfl⟩)
    · have hM := itT b41 hM
      refine lv_lload hx hb dX6_spot_44 (lv_at hl 0 rfl) ?_
      refine lv_aload_n hx hb dX6_spot_46 rfl (lv_at hl 1 rfl) ?_
      refine q_get hx hb hts in_X6 hown S m_h e_h (C := RX6) (T := TX6) (N := 7) rfl 4 (by decide) rfl (hts (.fieldLink RX6 26 "SieveCabinet$Sieve" "size" "I") (gu_wsX6_spot_1 _ gm_2)) dX6_spot_47 ?_
      obtain ⟨z50, hz50, hM⟩ := bind_some hM
      refine q_si (As := [.long z5, .int sz]) (rest := []) ⟨hx, hb, hml, hown, hts⟩ (k_X4_firstNest l D g hz50) (va_cwS 2 hts gX6_spot_X4_firstNest rfl rfl rfl (by decide +kernel) ⟨Nat.le_of_ble_eq_true rfl, Nat.le_of_ble_eq_true rfl⟩) S rfl hl.1 rfl (Nat.le_of_ble_eq_true rfl) dX6_spot_50 ⟨Nat.le_of_ble_eq_true rfl, Nat.le_of_ble_eq_true rfl⟩ (fun r9 L7 f8 H locs S w50 => ?_)
      obtain ⟨ex50, eL, ef⟩ := w50
      rw [eL, ef] at S
      replace ex50 := ex50.symm
      subst ex50
      refine lv_goto (tgt := 62) hx hb dX6_spot_53 (by decide) ?_
      subst hQQ
      exact q_reti (post := fun x L1 f1 => x = z ∧ L1 = L ∧ f1 = f) hx hb hr hlk S dX6_spot_62 (by decide) (by decide) (by have hz := Option.some.inj hM; subst hz; exact ⟨rfl, rfl, rfl⟩)
  have hM := itF w14_2 hM
  by_cases w14_3 : kd = (3 : Int32)
  · have hM := itT w14_3 hM
    refine lv_lookup (off := 49) (tgt := 63) hx hb dX6_spot_14 (by decide) (by rw [w14_3]; rfl) (by decide) ?_
    refine lv_lload hx hb dX6_spot_63 (lv_at hl 0 rfl) ?_
    refine lv_iload_n hx hb dX6_spot_65 rfl (lv_at hl 3 rfl) ?_
    refine lv_aload_n hx hb dX6_spot_66 rfl (lv_at hl 1 rfl) ?_
    refine q_get hx hb hts in_X6 hown S m_h e_h (C := RX6) (T := TX6) (N := 7) rfl 4 (by decide) rfl (hts (.fieldLink RX6 26 "SieveCabinet$Sieve" "size" "I") (gu_wsX6_spot_1 _ gm_2)) dX6_spot_67 ?_
    refine lv_iconst (v := (3 : Int32)) hx hb dX6_spot_70 (by decide) ?_
    refine lv_idiv hx hb dX6_spot_71 (by decide) ?_
    obtain ⟨z72, hz72, hM⟩ := bind_some hM
    refine q_si (As := [.long z5, .int j, .int (sz / (3 : Int32))]) (rest := []) ⟨hx, hb, hml, hown, hts⟩ (k_X4_solvedPlace l D g hz72) (va_cwS 3 hts gX6_spot_X4_solvedPlace rfl rfl rfl (by decide +kernel) ⟨Nat.le_of_ble_eq_true rfl, Nat.le_of_ble_eq_true rfl⟩) S rfl hl.1 rfl (Nat.le_of_ble_eq_true rfl) dX6_spot_72 ⟨Nat.le_of_ble_eq_true rfl, Nat.le_of_ble_eq_true rfl⟩ (fun r12 L10 f11 H locs S w72 => ?_)
    obtain ⟨ex72, eL, ef⟩ := w72
    rw [eL, ef] at S
    replace ex72 := ex72.symm
    subst ex72
    subst hQQ
    exact q_reti (post := fun x L1 f1 => x = z ∧ L1 = L ∧ f1 = f) hx hb hr hlk S dX6_spot_75 (by decide) (by decide) (by have hz := Option.some.inj hM; subst hz; exact ⟨rfl, rfl, rfl⟩)
  have hM := itF w14_3 hM
  refine lv_lookup (off := 62) (tgt := 76) hx hb dX6_spot_14 (by decide) (by show Op.lookupswitch.offset [(2, 26), (3, 49)] 62 (Int32.toInt kd) = _; rw [lv_osw (a := 2) w14_2 rfl, lv_osw (a := 3) w14_3 rfl]; rfl) (by decide) ?_
  refine lv_lload hx hb dX6_spot_76 (lv_at hl 0 rfl) ?_
  refine lv_iload_n hx hb dX6_spot_78 rfl (lv_at hl 3 rfl) ?_
  refine lv_aload_n hx hb dX6_spot_79 rfl (lv_at hl 1 rfl) ?_
  refine q_get hx hb hts in_X6 hown S m_h e_h (C := RX6) (T := TX6) (N := 7) rfl 4 (by decide) rfl (hts (.fieldLink RX6 26 "SieveCabinet$Sieve" "size" "I") (gu_wsX6_spot_1 _ gm_2)) dX6_spot_80 ?_
  obtain ⟨z83, hz83, hM⟩ := bind_some hM
  refine q_si (As := [.long z5, .int j, .int sz]) (rest := []) ⟨hx, hb, hml, hown, hts⟩ (k_X4_markPlace l D g hz83) (va_cwS 3 hts gX6_spot_X4_markPlace rfl rfl rfl (by decide +kernel) ⟨Nat.le_of_ble_eq_true rfl, Nat.le_of_ble_eq_true rfl⟩) S rfl hl.1 rfl (Nat.le_of_ble_eq_true rfl) dX6_spot_83 ⟨Nat.le_of_ble_eq_true rfl, Nat.le_of_ble_eq_true rfl⟩ (fun r15 L13 f14 H locs S w83 => ?_)
  obtain ⟨ex83, eL, ef⟩ := w83
  rw [eL, ef] at S
  replace ex83 := ex83.symm
  subst ex83
  subst hQQ
  exact q_reti (post := fun x L1 f1 => x = z ∧ L1 = L ∧ f1 = f) hx hb hr hlk S dX6_spot_86 (by decide) (by decide) (by have hz := Option.some.inj hM; subst hz; exact ⟨rfl, rfl, rfl⟩)
