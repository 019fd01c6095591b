def mX6_passesL (kd : Int32) (sz : Int32) (mk : Int32) (sd : Int32) (kc : Nat → Int32) (lc : Int32) (lsd : Int32) (rn : Int32) (rv : Nat → Int64) (lz : Nat → Int32) (ld : Nat → Nat → Int64) (t : Int64) : Option (Int32) := if kd = (4 : Int32) then ((mX3_passes lc lsd rn rv lz ld t).bind fun z20 => if z20 = 0 then (some (0 : Int32)) else (some (1 : Int32))) else ((mX4_of t sd).bind fun z37 => if kd = (2 : Int32) then ((mX5_find sz kc z37).bind fun z74 => if z74 < 0 then (some (0 : Int32)) else (some (1 : Int32))) else (if kd = (3 : Int32) then ((mX6_passesSolved sz kc z37).bind fun z88 => if z88 = 0 ∨ z88 = 1 then (some z88) else none) else ((mX6_hasMarks sz mk kc z37).bind fun z94 => if z94 = 0 ∨ z94 = 1 then (some z94) else none)))
set_option maxHeartbeats 4000000 in
set_option maxRecDepth 100000 in
theorem k_X6_passesL (l : Launch) (D : va_G) (g : Nat → ClassId) {L : List Nat} {f : Nat → va_E} {lb lw : Nat → Nat} {ca ce co h la re ro rr : Nat} {kd : Int32} {sz : Int32} {mk : Int32} {sd : Int32} {kc : Nat → Int32} {lc : Int32} {lsd : Int32} {rf : Nat → Option Nat} {rn : Int32} {rv : Nat → Int64} {lz : Nat → Int32} {ld : Nat → Nat → Int64} {t : Int64} {z : Int32} (m_h : h ∈ L) (e_h : f h = .inr (4, [.ref ce, .ref co, .ref la, .int kd, .int sz, .int mk, .int sd])) (m_ce : ce ∈ L) (e_ce : f ce = .inl (g 0, 4096, .inl kc)) (m_la : la ∈ L) (e_la : f la = .inr (3, [.ref ro, .ref ca, .ref re, .int lc, .int lsd])) (m_ro : ro ∈ L) (e_ro : f ro = .inl (g 4, 20, .inr (.inr (.inr (.inr rf))))) (m_re : re ∈ L) (e_re : f re = .inr (0, [.ref rr, .int rn])) (m_rr : rr ∈ L) (e_rr : f rr = .inl (g 1, 1000, .inr (.inl rv))) (e_fam : LF g L f rf lb lw lz ld)    (hM : mX6_passesL kd sz mk sd kc lc lsd rn rv lz ld t = some z) : cI l yX6_passes wsX6_passes { frames := 4, cells := 0, slots := 0, locals := 97 } D g [.ref h, .long t] L f 0 0 (fun x L1 f1 => x = z ∧ L1 = L ∧ f1 = f) := by
  refine cI_of (cc := cX6_passes) (maxL := 5) (ret := (some .boolean)) (by decide) rfl (Nat.le_of_ble_eq_true rfl) ?_
  intro szz p e s m below meth c hx hb hr hml hts hown hlk hnm S ls hl
  have hl : lv_has ls 5 [(0, .ref h), (1, .long t)] := hl
  have in_X6 : ∀ w ∈ wsX60, w ∈ wsX6_passes := gu_wsX6_passes_6
  unfold mX6_passesL at hM
  refine W_gen (fun QQ hQQ => ?_)
  refine lv_aload_n hx hb dX6_passes_0 rfl (lv_at hl 0 rfl) ?_
  refine q_get hx hb hts in_X6 hown S m_h e_h (C := RX6) (T := TX6) (N := 7) rfl 3 (by decide) rfl (hts (.fieldLink RX6 22 "SieveCabinet$Sieve" "kind" "I") (gu_wsX6_passes_1 _ gm_0)) dX6_passes_1 ?_
  refine lv_iconst (v := (4 : Int32)) hx hb dX6_passes_4 (by decide) ?_
  refine lv_icmp_ne (tgt := 32) hx hb dX6_passes_5 (by decide) (fun b5 => ?_) (fun b5 => ?_)
  · have hM := itF b5 hM
    refine lv_lload_n hx hb dX6_passes_32 rfl (lv_at hl 1 rfl) ?_
    refine lv_aload_n hx hb dX6_passes_33 rfl (lv_at hl 0 rfl) ?_
    refine q_get hx hb hts in_X6 hown S m_h e_h (C := RX6) (T := TX6) (N := 7) rfl 6 (by decide) rfl (hts (.fieldLink RX6 32 "SieveCabinet$Sieve" "seed" "I") (gu_wsX6_passes_1 _ gm_2)) dX6_passes_34 ?_
    obtain ⟨z37, hz37, hM⟩ := bind_some hM
    refine q_sl (As := [.long t, .int sd]) (rest := []) ⟨hx, hb, hml, hown, hts⟩ (k_X4_of l D g hz37) (va_cwS 2 hts gX6_passes_X4_of rfl rfl rfl (by decide +kernel) ⟨Nat.le_of_ble_eq_true rfl, Nat.le_of_ble_eq_true rfl⟩) S rfl hl.1 rfl (Nat.le_of_ble_eq_true rfl) dX6_passes_37 ⟨Nat.le_of_ble_eq_true rfl, Nat.le_of_ble_eq_true rfl⟩ (fun r3 L1 f2 H locs S w37 => ?_)
    obtain ⟨ex37, eL, ef⟩ := w37
    rw [eL, ef] at S
    replace ex37 := ex37.symm
    subst ex37
    refine lv_lstore_n (lv' := [(3, .long z37), (0, .ref h), (1, .long t)]) hx hb dX6_passes_40 rfl hl (by decide) rfl (fun ls hl => ?_)
    refine lv_aload_n hx hb dX6_passes_41 rfl (lv_at hl 1 rfl) ?_
    refine q_get hx hb hts in_X6 hown S m_h e_h (C := RX6) (T := TX6) (N := 7) rfl 3 (by decide) rfl (hts (.fieldLink RX6 22 "SieveCabinet$Sieve" "kind" "I") (gu_wsX6_passes_1 _ gm_0)) dX6_passes_42 ?_
    by_cases w45_2 : kd = (2 : Int32)
    · have hM := itT w45_2 hM
      refine lv_lookup (off := 27) (tgt := 72) hx hb dX6_passes_45 (by decide) (by rw [w45_2]; rfl) (by decide) ?_
      refine lv_aload_n hx hb dX6_passes_72 rfl (lv_at hl 1 rfl) ?_
      refine lv_lload_n hx hb dX6_passes_73 rfl (lv_at hl 0 rfl) ?_
      obtain ⟨z74, hz74, hM⟩ := bind_some hM
      refine q_si (As := [.ref h, .long z37]) (rest := []) ⟨hx, hb, hml, hown, hts⟩ (k_X5_find l D g m_h e_h m_ce e_ce hz74) (va_cwS 2 hts gX6_passes_X5_find rfl rfl rfl (by decide +kernel) ⟨Nat.le_of_ble_eq_true rfl, Nat.le_of_ble_eq_true rfl⟩) S rfl hl.1 rfl (Nat.le_of_ble_eq_true rfl) dX6_passes_74 ⟨Nat.le_of_ble_eq_true rfl, Nat.le_of_ble_eq_true rfl⟩ (fun r6 L4 f5 H locs S w74 => ?_)
      obtain ⟨ex74, eL, ef⟩ := w74
      rw [eL, ef] at S
      replace ex74 := ex74.symm
      subst ex74
      refine lv_if_lt (tgt := 84) hx hb dX6_passes_77 (by decide) (fun b77 => ?_) (fun b77 => ?_)
      · have hM := itT b77 hM
        refine lv_iconst (v := (0 : Int32)) hx hb dX6_passes_84 (by decide) ?_
        subst hQQ
        exact q_retz (post := fun x L1 f1 => x = z ∧ L1 = L ∧ f1 = f) hx hb hr hlk S dX6_passes_85 (by decide) (by decide) (by decide) (by have hz := Option.some.inj hM; subst hz; exact ⟨rfl, rfl, rfl⟩)
      · have hM := itF b77 hM
        refine lv_iconst (v := (1 : Int32)) hx hb dX6_passes_80 (by decide) ?_
        refine lv_goto (tgt := 85) hx hb dX6_passes_81 (by decide) ?_
        subst hQQ
        exact q_retz (post := fun x L1 f1 => x = z ∧ L1 = L ∧ f1 = f) hx hb hr hlk S dX6_passes_85 (by decide) (by decide) (by decide) (by have hz := Option.some.inj hM; subst hz; exact ⟨rfl, rfl, rfl⟩)
    have hM := itF w45_2 hM
    by_cases w45_3 : kd = (3 : Int32)
    · have hM := itT w45_3 hM
      refine lv_lookup (off := 41) (tgt := 86) hx hb dX6_passes_45 (by decide) (by rw [w45_3]; rfl) (by decide) ?_
      refine lv_aload_n hx hb dX6_passes_86 rfl (lv_at hl 1 rfl) ?_
      refine lv_lload_n hx hb dX6_passes_87 rfl (lv_at hl 0 rfl) ?_
      obtain ⟨z88, hz88, hM⟩ := bind_some hM
      refine q_vi (As := [.long z37]) (rest := []) ⟨hx, hb, hml, hown, hts⟩ (k_X6_passesSolved l D g m_h e_h m_ce e_ce hz88) (cwV 1 hts gX6_passes_X6_passesSolved rfl rfl rfl (by decide +kernel) ⟨Nat.le_of_ble_eq_true rfl, Nat.le_of_ble_eq_true rfl⟩) S m_h e_h (T := TX6) (N := 7) rfl rfl hl.1 rfl (Nat.le_of_ble_eq_true rfl) dX6_passes_88 ⟨Nat.le_of_ble_eq_true rfl, Nat.le_of_ble_eq_true rfl⟩ (fun r9 L7 f8 H locs S w88 => ?_)
      obtain ⟨ex88, eL, ef⟩ := w88
      rw [eL, ef] at S
      replace ex88 := ex88.symm
      subst ex88
      obtain ⟨hbz, hM⟩ := ck hM
      subst hQQ
      exact q_retz (post := fun x L1 f1 => x = z ∧ L1 = L ∧ f1 = f) hx hb hr hlk S dX6_passes_91 hbz (by decide) (by decide) (by have hz := Option.some.inj hM; subst hz; exact ⟨rfl, rfl, rfl⟩)
    have hM := itF w45_3 hM
    refine lv_lookup (off := 47) (tgt := 92) hx hb dX6_passes_45 (by decide) (by show Op.lookupswitch.offset [(2, 27), (3, 41)] 47 (Int32.toInt kd) = _; rw [lv_osw (a := 2) w45_2 rfl, lv_osw (a := 3) w45_3 rfl]; rfl) (by decide) ?_
    refine lv_aload_n hx hb dX6_passes_92 rfl (lv_at hl 1 rfl) ?_
    refine lv_lload_n hx hb dX6_passes_93 rfl (lv_at hl 0 rfl) ?_
    obtain ⟨z94, hz94, hM⟩ := bind_some hM
    refine q_vi (As := [.long z37]) (rest := []) ⟨hx, hb, hml, hown, hts⟩ (k_X6_hasMarks l D g m_h e_h m_ce e_ce hz94) (cwV 1 hts gX6_passes_X6_hasMarks rfl rfl rfl (by decide +kernel) ⟨Nat.le_of_ble_eq_true rfl, Nat.le_of_ble_eq_true rfl⟩) S m_h e_h (T := TX6) (N := 7) rfl rfl hl.1 rfl (Nat.le_of_ble_eq_true rfl) dX6_passes_94 ⟨Nat.le_of_ble_eq_true rfl, Nat.le_of_ble_eq_true rfl⟩ (fun r12 L10 f11 H locs S w94 => ?_)
    obtain ⟨ex94, eL, ef⟩ := w94
    rw [eL, ef] at S
    replace ex94 := ex94.symm
    subst ex94
    obtain ⟨hbz, hM⟩ := ck hM
    subst hQQ
    exact q_retz (post := fun x L1 f1 => x = z ∧ L1 = L ∧ f1 = f) hx hb hr hlk S dX6_passes_97 hbz (by decide) (by decide) (by have hz := Option.some.inj hM; subst hz; exact ⟨rfl, rfl, rfl⟩)
  · have hM := itT b5 hM
    refine lv_aload_n hx hb dX6_passes_8 rfl (lv_at hl 0 rfl) ?_
    refine q_get hx hb hts in_X6 hown S m_h e_h (C := RX6) (T := TX6) (N := 7) rfl 2 (by decide) rfl (hts (.fieldLink RX6 44 "SieveCabinet$Sieve" "layers" "LSieveCabinet$Layers;") (gu_wsX6_passes_1 _ gm_1)) dX6_passes_9 ?_
    refine lv_ifnull hx hb dX6_passes_12 ?_
    refine lv_aload_n hx hb dX6_passes_15 rfl (lv_at hl 0 rfl) ?_
    refine q_get hx hb hts in_X6 hown S m_h e_h (C := RX6) (T := TX6) (N := 7) rfl 2 (by decide) rfl (hts (.fieldLink RX6 44 "SieveCabinet$Sieve" "layers" "LSieveCabinet$Layers;") (gu_wsX6_passes_1 _ gm_1)) dX6_passes_16 ?_
    refine lv_lload_n hx hb dX6_passes_19 rfl (lv_at hl 1 rfl) ?_
    obtain ⟨z20, hz20, hM⟩ := bind_some hM
    refine q_vi (As := [.long t]) (rest := []) ⟨hx, hb, hml, hown, hts⟩ (k_X3_passes l D g m_la e_la m_ro e_ro m_re e_re m_rr e_rr e_fam hz20) (cwV 1 hts gX6_passes_X3_passes rfl rfl rfl (by decide +kernel) ⟨Nat.le_of_ble_eq_true rfl, Nat.le_of_ble_eq_true rfl⟩) S m_la e_la (T := TX3) (N := 5) rfl rfl hl.1 rfl (Nat.le_of_ble_eq_true rfl) dX6_passes_20 ⟨Nat.le_of_ble_eq_true rfl, Nat.le_of_ble_eq_true rfl⟩ (fun r15 L13 f14 H locs S w20 => ?_)
    obtain ⟨ex20, eL, ef⟩ := w20
    rw [eL, ef] at S
    replace ex20 := ex20.symm
    subst ex20
    refine lv_if_eq (tgt := 30) hx hb dX6_passes_23 (by decide) (fun b23 => ?_) (fun b23 => ?_)
    · have hM := itT b23 hM
      refine lv_iconst (v := (0 : Int32)) hx hb dX6_passes_30 (by decide) ?_
      subst hQQ
      exact q_retz (post := fun x L1 f1 => x = z ∧ L1 = L ∧ f1 = f) hx hb hr hlk S dX6_passes_31 (by decide) (by decide) (by decide) (by have hz := Option.some.inj hM; subst hz; exact ⟨rfl, rfl, rfl⟩)
    · have hM := itF b23 hM
      refine lv_iconst (v := (1 : Int32)) hx hb dX6_passes_26 (by decide) ?_
      refine lv_goto (tgt := 31) hx hb dX6_passes_27 (by decide) ?_
      subst hQQ
      exact q_retz (post := fun x L1 f1 => x = z ∧ L1 = L ∧ f1 = f) hx hb hr hlk S dX6_passes_31 (by decide) (by decide) (by decide) (by have hz := Option.some.inj hM; subst hz; exact ⟨rfl, rfl, rfl⟩)

def mX6_passesG (kd : Int32) (sz : Int32) (mk : Int32) (sd : Int32) (kc : Nat → Int32) (t : Int64) : Option (Int32) := if kd = (4 : Int32) then none else ((mX4_of t sd).bind fun z37 => if kd = (2 : Int32) then ((mX5_find sz kc z37).bind fun z74 => if z74 < 0 then (some (0 : Int32)) else (some (1 : Int32))) else (if kd = (3 : Int32) then ((mX6_passesSolved sz kc z37).bind fun z88 => if z88 = 0 ∨ z88 = 1 then (some z88) else none) else ((mX6_hasMarks sz mk kc z37).bind fun z94 => if z94 = 0 ∨ z94 = 1 then (some z94) else none)))
set_option maxHeartbeats 4000000 in
set_option maxRecDepth 100000 in
theorem k_X6_passesG (l : Launch) (D : va_G) (g : Nat → ClassId) {L : List Nat} {f : Nat → va_E} {ce co h : Nat} {lay : Value} {kd : Int32} {sz : Int32} {mk : Int32} {sd : Int32} {kc : Nat → Int32} {t : Int64} {z : Int32} (m_h : h ∈ L) (e_h : f h = .inr (4, [.ref ce, .ref co, lay, .int kd, .int sz, .int mk, .int sd])) (m_ce : ce ∈ L) (e_ce : f ce = .inl (g 0, 4096, .inl kc))    (hM : mX6_passesG kd sz mk sd kc t = some z) : cI l yX6_passes wsX6_passes { frames := 4, cells := 0, slots := 0, locals := 91 } D g [.ref h, .long t] L f 0 0 (fun x L1 f1 => x = z ∧ L1 = L ∧ f1 = f) := by
  refine cI_of (cc := cX6_passes) (maxL := 5) (ret := (some .boolean)) (by decide) rfl (Nat.le_of_ble_eq_true rfl) ?_
  intro szz p e s m below meth c hx hb hr hml hts hown hlk hnm S ls hl
  have hl : lv_has ls 5 [(0, .ref h), (1, .long t)] := hl
  have in_X6 : ∀ w ∈ wsX60, w ∈ wsX6_passes := gu_wsX6_passes_6
  unfold mX6_passesG at hM
  refine W_gen (fun QQ hQQ => ?_)
  refine lv_aload_n hx hb dX6_passes_0 rfl (lv_at hl 0 rfl) ?_
  refine q_get hx hb hts in_X6 hown S m_h e_h (C := RX6) (T := TX6) (N := 7) rfl 3 (by decide) rfl (hts (.fieldLink RX6 22 "SieveCabinet$Sieve" "kind" "I") (gu_wsX6_passes_1 _ gm_0)) dX6_passes_1 ?_
  refine lv_iconst (v := (4 : Int32)) hx hb dX6_passes_4 (by decide) ?_
  refine lv_icmp_ne (tgt := 32) hx hb dX6_passes_5 (by decide) (fun b5 => ?_) (fun b5 => ?_)
  · have hM := itF b5 hM
    refine lv_lload_n hx hb dX6_passes_32 rfl (lv_at hl 1 rfl) ?_
    refine lv_aload_n hx hb dX6_passes_33 rfl (lv_at hl 0 rfl) ?_
    refine q_get hx hb hts in_X6 hown S m_h e_h (C := RX6) (T := TX6) (N := 7) rfl 6 (by decide) rfl (hts (.fieldLink RX6 32 "SieveCabinet$Sieve" "seed" "I") (gu_wsX6_passes_1 _ gm_2)) dX6_passes_34 ?_
    obtain ⟨z37, hz37, hM⟩ := bind_some hM
    refine q_sl (As := [.long t, .int sd]) (rest := []) ⟨hx, hb, hml, hown, hts⟩ (k_X4_of l D g hz37) (va_cwS 2 hts gX6_passes_X4_of rfl rfl rfl (by decide +kernel) ⟨Nat.le_of_ble_eq_true rfl, Nat.le_of_ble_eq_true rfl⟩) S rfl hl.1 rfl (Nat.le_of_ble_eq_true rfl) dX6_passes_37 ⟨Nat.le_of_ble_eq_true rfl, Nat.le_of_ble_eq_true rfl⟩ (fun r3 L1 f2 H locs S w37 => ?_)
    obtain ⟨ex37, eL, ef⟩ := w37
    rw [eL, ef] at S
    replace ex37 := ex37.symm
    subst ex37
    refine lv_lstore_n (lv' := [(3, .long z37), (0, .ref h), (1, .long t)]) hx hb dX6_passes_40 rfl hl (by decide) rfl (fun ls hl => ?_)
    refine lv_aload_n hx hb dX6_passes_41 rfl (lv_at hl 1 rfl) ?_
    refine q_get hx hb hts in_X6 hown S m_h e_h (C := RX6) (T := TX6) (N := 7) rfl 3 (by decide) rfl (hts (.fieldLink RX6 22 "SieveCabinet$Sieve" "kind" "I") (gu_wsX6_passes_1 _ gm_0)) dX6_passes_42 ?_
    by_cases w45_2 : kd = (2 : Int32)
    · have hM := itT w45_2 hM
      refine lv_lookup (off := 27) (tgt := 72) hx hb dX6_passes_45 (by decide) (by rw [w45_2]; rfl) (by decide) ?_
      refine lv_aload_n hx hb dX6_passes_72 rfl (lv_at hl 1 rfl) ?_
      refine lv_lload_n hx hb dX6_passes_73 rfl (lv_at hl 0 rfl) ?_
      obtain ⟨z74, hz74, hM⟩ := bind_some hM
      refine q_si (As := [.ref h, .long z37]) (rest := []) ⟨hx, hb, hml, hown, hts⟩ (k_X5_find l D g m_h e_h m_ce e_ce hz74) (va_cwS 2 hts gX6_passes_X5_find rfl rfl rfl (by decide +kernel) ⟨Nat.le_of_ble_eq_true rfl, Nat.le_of_ble_eq_true rfl⟩) S rfl hl.1 rfl (Nat.le_of_ble_eq_true rfl) dX6_passes_74 ⟨Nat.le_of_ble_eq_true rfl, Nat.le_of_ble_eq_true rfl⟩ (fun r6 L4 f5 H locs S w74 => ?_)
      obtain ⟨ex74, eL, ef⟩ := w74
      rw [eL, ef] at S
      replace ex74 := ex74.symm
      subst ex74
      refine lv_if_lt (tgt := 84) hx hb dX6_passes_77 (by decide) (fun b77 => ?_) (fun b77 => ?_)
      · have hM := itT b77 hM
        refine lv_iconst (v := (0 : Int32)) hx hb dX6_passes_84 (by decide) ?_
        subst hQQ
        exact q_retz (post := fun x L1 f1 => x = z ∧ L1 = L ∧ f1 = f) hx hb hr hlk S dX6_passes_85 (by decide) (by decide) (by decide) (by have hz := Option.some.inj hM; subst hz; exact ⟨rfl, rfl, rfl⟩)
      · have hM := itF b77 hM
        refine lv_iconst (v := (1 : Int32)) hx hb dX6_passes_80 (by decide) ?_
        refine lv_goto (tgt := 85) hx hb dX6_passes_81 (by decide) ?_
        subst hQQ
        exact q_retz (post := fun x L1 f1 => x = z ∧ L1 = L ∧ f1 = f) hx hb hr hlk S dX6_passes_85 (by decide) (by decide) (by decide) (by have hz := Option.some.inj hM; subst hz; exact ⟨rfl, rfl, rfl⟩)
    have hM := itF w45_2 hM
    by_cases w45_3 : kd = (3 : Int32)
    · have hM := itT w45_3 hM
      refine lv_lookup (off := 41) (tgt := 86) hx hb dX6_passes_45 (by decide) (by rw [w45_3]; rfl) (by decide) ?_
      refine lv_aload_n hx hb dX6_passes_86 rfl (lv_at hl 1 rfl) ?_
      refine lv_lload_n hx hb dX6_passes_87 rfl (lv_at hl 0 rfl) ?_
      obtain ⟨z88, hz88, hM⟩ := bind_some hM
      refine q_vi (As := [.long z37]) (rest := []) ⟨hx, hb, hml, hown, hts⟩ (k_X6_passesSolved l D g m_h e_h m_ce e_ce hz88) (cwV 1 hts gX6_passes_X6_passesSolved rfl rfl rfl (by decide +kernel) ⟨Nat.le_of_ble_eq_true rfl, Nat.le_of_ble_eq_true rfl⟩) S m_h e_h (T := TX6) (N := 7) rfl rfl hl.1 rfl (Nat.le_of_ble_eq_true rfl) dX6_passes_88 ⟨Nat.le_of_ble_eq_true rfl, Nat.le_of_ble_eq_true rfl⟩ (fun r9 L7 f8 H locs S w88 => ?_)
      obtain ⟨ex88, eL, ef⟩ := w88
      rw [eL, ef] at S
      replace ex88 := ex88.symm
      subst ex88
      obtain ⟨hbz, hM⟩ := ck hM
      subst hQQ
      exact q_retz (post := fun x L1 f1 => x = z ∧ L1 = L ∧ f1 = f) hx hb hr hlk S dX6_passes_91 hbz (by decide) (by decide) (by have hz := Option.some.inj hM; subst hz; exact ⟨rfl, rfl, rfl⟩)
    have hM := itF w45_3 hM
    refine lv_lookup (off := 47) (tgt := 92) hx hb dX6_passes_45 (by decide) (by show Op.lookupswitch.offset [(2, 27), (3, 41)] 47 (Int32.toInt kd) = _; rw [lv_osw (a := 2) w45_2 rfl, lv_osw (a := 3) w45_3 rfl]; rfl) (by decide) ?_
    refine lv_aload_n hx hb dX6_passes_92 rfl (lv_at hl 1 rfl) ?_
    refine lv_lload_n hx hb dX6_passes_93 rfl (lv_at hl 0 rfl) ?_
    obtain ⟨z94, hz94, hM⟩ := bind_some hM
    refine q_vi (As := [.long z37]) (rest := []) ⟨hx, hb, hml, hown, hts⟩ (k_X6_hasMarks l D g m_h e_h m_ce e_ce hz94) (cwV 1 hts gX6_passes_X6_hasMarks rfl rfl rfl (by decide +kernel) ⟨Nat.le_of_ble_eq_true rfl, Nat.le_of_ble_eq_true rfl⟩) S m_h e_h (T := TX6) (N := 7) rfl rfl hl.1 rfl (Nat.le_of_ble_eq_true rfl) dX6_passes_94 ⟨Nat.le_of_ble_eq_true rfl, Nat.le_of_ble_eq_true rfl⟩ (fun r12 L10 f11 H locs S w94 => ?_)
    obtain ⟨ex94, eL, ef⟩ := w94
    rw [eL, ef] at S
    replace ex94 := ex94.symm
    subst ex94
    obtain ⟨hbz, hM⟩ := ck hM
    subst hQQ
    exact q_retz (post := fun x L1 f1 => x = z ∧ L1 = L ∧ f1 = f) hx hb hr hlk S dX6_passes_97 hbz (by decide) (by decide) (by have hz := Option.some.inj hM; subst hz; exact ⟨rfl, rfl, rfl⟩)
  · have hM := itT b5 hM
    refine lv_aload_n hx hb dX6_passes_8 rfl (lv_at hl 0 rfl) ?_
    refine q_get hx hb hts in_X6 hown S m_h e_h (C := RX6) (T := TX6) (N := 7) rfl 2 (by decide) rfl (hts (.fieldLink RX6 44 "SieveCabinet$Sieve" "layers" "LSieveCabinet$Layers;") (gu_wsX6_passes_1 _ gm_1)) dX6_passes_9 ?_
    exact no_some hM

def mX6_passesFalselyL (kd : Int32) (sz : Int32) (mk : Int32) (sd : Int32) (kc : Nat → Int32) (n : Int32) (v : Nat → Int64) (lc : Int32) (lsd : Int32) (rn : Int32) (rv : Nat → Int64) (lz : Nat → Int32) (ld : Nat → Nat → Int64) (t : Int64) : Option (Int32) := (mX6_passesL kd sz mk sd kc lc lsd rn rv lz ld t).bind fun z2 => if z2 = 0 then (some (0 : Int32)) else ((mX0_has n v t).bind fun z13 => if z13 = 0 then (some (1 : Int32)) else (some (0 : Int32)))
set_option maxHeartbeats 4000000 in
set_option maxRecDepth 100000 in
theorem k_X6_passesFalselyL (l : Launch) (D : va_G) (g : Nat → ClassId) {L : List Nat} {f : Nat → va_E} {lb lw : Nat → Nat} {ca ce co cr h la re ro rr : Nat} {kd : Int32} {sz : Int32} {mk : Int32} {sd : Int32} {kc : Nat → Int32} {n : Int32} {v : Nat → Int64} {lc : Int32} {lsd : Int32} {rf : Nat → Option Nat} {rn : Int32} {rv : Nat → Int64} {lz : Nat → Int32} {ld : Nat → Nat → Int64} {t : Int64} {z : Int32} (m_h : h ∈ L) (e_h : f h = .inr (4, [.ref ce, .ref co, .ref la, .int kd, .int sz, .int mk, .int sd])) (m_ce : ce ∈ L) (e_ce : f ce = .inl (g 0, 4096, .inl kc)) (m_co : co ∈ L) (e_co : f co = .inr (0, [.ref cr, .int n])) (m_cr : cr ∈ L) (e_cr : f cr = .inl (g 1, 1000, .inr (.inl v))) (m_la : la ∈ L) (e_la : f la = .inr (3, [.ref ro, .ref ca, .ref re, .int lc, .int lsd])) (m_ro : ro ∈ L) (e_ro : f ro = .inl (g 4, 20, .inr (.inr (.inr (.inr rf))))) (m_re : re ∈ L) (e_re : f re = .inr (0, [.ref rr, .int rn])) (m_rr : rr ∈ L) (e_rr : f rr = .inl (g 1, 1000, .inr (.inl rv))) (e_fam : LF g L f rf lb lw lz ld)    (hM : mX6_passesFalselyL kd sz mk sd kc n v lc lsd rn rv lz ld t = some z) : cI l yX6_passesFalsely wsX6_passesFalsely { frames := 5, cells := 0, slots := 0, locals := 121 } D g [.ref h, .long t] L f 0 0 (fun x L1 f1 => x = z ∧ L1 = L ∧ f1 = f) := by
  refine cI_of (cc := cX6_passesFalsely) (maxL := 3) (ret := (some .boolean)) (by decide) rfl (Nat.le_of_ble_eq_true rfl) ?_
  intro szz p e s m below meth c hx hb hr hml hts hown hlk hnm S ls hl
  have hl : lv_has ls 3 [(0, .ref h), (1, .long t)] := hl
  have in_X6 : ∀ w ∈ wsX60, w ∈ wsX6_passesFalsely := gu_wsX6_passesFalsely_6
  unfold mX6_passesFalselyL at hM
  refine W_gen (fun QQ hQQ => ?_)
  refine lv_aload_n hx hb dX6_passesFalsely_0 rfl (lv_at hl 0 rfl) ?_
  refine lv_lload_n hx hb dX6_passesFalsely_1 rfl (lv_at hl 1 rfl) ?_
  obtain ⟨z2, hz2, hM⟩ := bind_some hM
  refine q_vi (As := [.long t]) (rest := []) ⟨hx, hb, hml, hown, hts⟩ (k_X6_passesL l D g m_h e_h m_ce e_ce m_la e_la m_ro e_ro m_re e_re m_rr e_rr e_fam hz2) (cwV 1 hts gX6_passesFalsely_X6_passes rfl rfl rfl (by decide +kernel) ⟨Nat.le_of_ble_eq_true rfl, Nat.le_of_ble_eq_true rfl⟩) S m_h e_h (T := TX6) (N := 7) rfl rfl hl.1 rfl (Nat.le_of_ble_eq_true rfl) dX6_passesFalsely_2 ⟨Nat.le_of_ble_eq_true rfl, Nat.le_of_ble_eq_true rfl⟩ (fun r3 L1 f2 H locs S w2 => ?_)
  obtain ⟨ex2, eL, ef⟩ := w2
  rw [eL, ef] at S
  replace ex2 := ex2.symm
  subst ex2
  refine lv_if_eq (tgt := 23) hx hb dX6_passesFalsely_5 (by decide) (fun b5 => ?_) (fun b5 => ?_)
  · have hM := itT b5 hM
    refine lv_iconst (v := (0 : Int32)) hx hb dX6_passesFalsely_23 (by decide) ?_
    subst hQQ
    exact q_retz (post := fun x L1 f1 => x = z ∧ L1 = L ∧ f1 = f) hx hb hr hlk S dX6_passesFalsely_24 (by decide) (by decide) (by decide) (by have hz := Option.some.inj hM; subst hz; exact ⟨rfl, rfl, rfl⟩)
  · have hM := itF b5 hM
    refine lv_aload_n hx hb dX6_passesFalsely_8 rfl (lv_at hl 0 rfl) ?_
    refine q_get hx hb hts in_X6 hown S m_h e_h (C := RX6) (T := TX6) (N := 7) rfl 1 (by decide) rfl (hts (.fieldLink RX6 18 "SieveCabinet$Sieve" "contents" "LSieveCabinet$Bag;") (gu_wsX6_passesFalsely_1 _ gm_0)) dX6_passesFalsely_9 ?_
    refine lv_lload_n hx hb dX6_passesFalsely_12 rfl (lv_at hl 1 rfl) ?_
    obtain ⟨z13, hz13, hM⟩ := bind_some hM
    refine q_vi (As := [.long t]) (rest := []) ⟨hx, hb, hml, hown, hts⟩ (k_X0_has l D g m_co e_co m_cr e_cr hz13) (cwV 1 hts gX6_passesFalsely_X0_has rfl rfl rfl (by decide +kernel) ⟨Nat.le_of_ble_eq_true rfl, Nat.le_of_ble_eq_true rfl⟩) S m_co e_co (T := TX0) (N := 2) rfl rfl hl.1 rfl (Nat.le_of_ble_eq_true rfl) dX6_passesFalsely_13 ⟨Nat.le_of_ble_eq_true rfl, Nat.le_of_ble_eq_true rfl⟩ (fun r6 L4 f5 H locs S w13 => ?_)
    obtain ⟨ex13, eL, ef⟩ := w13
    rw [eL, ef] at S
    replace ex13 := ex13.symm
    subst ex13
    refine lv_if_ne (tgt := 23) hx hb dX6_passesFalsely_16 (by decide) (fun b16 => ?_) (fun b16 => ?_)
    · have hM := itF b16 hM
      refine lv_iconst (v := (0 : Int32)) hx hb dX6_passesFalsely_23 (by decide) ?_
      subst hQQ
      exact q_retz (post := fun x L1 f1 => x = z ∧ L1 = L ∧ f1 = f) hx hb hr hlk S dX6_passesFalsely_24 (by decide) (by decide) (by decide) (by have hz := Option.some.inj hM; subst hz; exact ⟨rfl, rfl, rfl⟩)
    · have hM := itT b16 hM
      refine lv_iconst (v := (1 : Int32)) hx hb dX6_passesFalsely_19 (by decide) ?_
      refine lv_goto (tgt := 24) hx hb dX6_passesFalsely_20 (by decide) ?_
      subst hQQ
      exact q_retz (post := fun x L1 f1 => x = z ∧ L1 = L ∧ f1 = f) hx hb hr hlk S dX6_passesFalsely_24 (by decide) (by decide) (by decide) (by have hz := Option.some.inj hM; subst hz; exact ⟨rfl, rfl, rfl⟩)

def mX6_passesFalselyG (kd : Int32) (sz : Int32) (mk : Int32) (sd : Int32) (kc : Nat → Int32) (n : Int32) (v : Nat → Int64) (t : Int64) : Option (Int32) := (mX6_passesG kd sz mk sd kc t).bind fun z2 => if z2 = 0 then (some (0 : Int32)) else ((mX0_has n v t).bind fun z13 => if z13 = 0 then (some (1 : Int32)) else (some (0 : Int32)))
set_option maxHeartbeats 4000000 in
set_option maxRecDepth 100000 in
theorem k_X6_passesFalselyG (l : Launch) (D : va_G) (g : Nat → ClassId) {L : List Nat} {f : Nat → va_E} {ce co cr h : Nat} {lay : Value} {kd : Int32} {sz : Int32} {mk : Int32} {sd : Int32} {kc : Nat → Int32} {n : Int32} {v : Nat → Int64} {t : Int64} {z : Int32} (m_h : h ∈ L) (e_h : f h = .inr (4, [.ref ce, .ref co, lay, .int kd, .int sz, .int mk, .int sd])) (m_ce : ce ∈ L) (e_ce : f ce = .inl (g 0, 4096, .inl kc)) (m_co : co ∈ L) (e_co : f co = .inr (0, [.ref cr, .int n])) (m_cr : cr ∈ L) (e_cr : f cr = .inl (g 1, 1000, .inr (.inl v)))    (hM : mX6_passesFalselyG kd sz mk sd kc n v t = some z) : cI l yX6_passesFalsely wsX6_passesFalsely { frames := 5, cells := 0, slots := 0, locals := 115 } D g [.ref h, .long t] L f 0 0 (fun x L1 f1 => x = z ∧ L1 = L ∧ f1 = f) := by
  refine cI_of (cc := cX6_passesFalsely) (maxL := 3) (ret := (some .boolean)) (by decide) rfl (Nat.le_of_ble_eq_true rfl) ?_
  intro szz p e s m below meth c hx hb hr hml hts hown hlk hnm S ls hl
  have hl : lv_has ls 3 [(0, .ref h), (1, .long t)] := hl
  have in_X6 : ∀ w ∈ wsX60, w ∈ wsX6_passesFalsely := gu_wsX6_passesFalsely_6
  unfold mX6_passesFalselyG at hM
  refine W_gen (fun QQ hQQ => ?_)
  refine lv_aload_n hx hb dX6_passesFalsely_0 rfl (lv_at hl 0 rfl) ?_
  refine lv_lload_n hx hb dX6_passesFalsely_1 rfl (lv_at hl 1 rfl) ?_
  obtain ⟨z2, hz2, hM⟩ := bind_some hM
  refine q_vi (As := [.long t]) (rest := []) ⟨hx, hb, hml, hown, hts⟩ (k_X6_passesG l D g m_h e_h m_ce e_ce hz2) (cwV 1 hts gX6_passesFalsely_X6_passes rfl rfl rfl (by decide +kernel) ⟨Nat.le_of_ble_eq_true rfl, Nat.le_of_ble_eq_true rfl⟩) S m_h e_h (T := TX6) (N := 7) rfl rfl hl.1 rfl (Nat.le_of_ble_eq_true rfl) dX6_passesFalsely_2 ⟨Nat.le_of_ble_eq_true rfl, Nat.le_of_ble_eq_true rfl⟩ (fun r3 L1 f2 H locs S w2 => ?_)
  obtain ⟨ex2, eL, ef⟩ := w2
  rw [eL, ef] at S
  replace ex2 := ex2.symm
  subst ex2
  refine lv_if_eq (tgt := 23) hx hb dX6_passesFalsely_5 (by decide) (fun b5 => ?_) (fun b5 => ?_)
  · have hM := itT b5 hM
    refine lv_iconst (v := (0 : Int32)) hx hb dX6_passesFalsely_23 (by decide) ?_
    subst hQQ
    exact q_retz (post := fun x L1 f1 => x = z ∧ L1 = L ∧ f1 = f) hx hb hr hlk S dX6_passesFalsely_24 (by decide) (by decide) (by decide) (by have hz := Option.some.inj hM; subst hz; exact ⟨rfl, rfl, rfl⟩)
  · have hM := itF b5 hM
    refine lv_aload_n hx hb dX6_passesFalsely_8 rfl (lv_at hl 0 rfl) ?_
    refine q_get hx hb hts in_X6 hown S m_h e_h (C := RX6) (T := TX6) (N := 7) rfl 1 (by decide) rfl (hts (.fieldLink RX6 18 "SieveCabinet$Sieve" "contents" "LSieveCabinet$Bag;") (gu_wsX6_passesFalsely_1 _ gm_0)) dX6_passesFalsely_9 ?_
    refine lv_lload_n hx hb dX6_passesFalsely_12 rfl (lv_at hl 1 rfl) ?_
    obtain ⟨z13, hz13, hM⟩ := bind_some hM
    refine q_vi (As := [.long t]) (rest := []) ⟨hx, hb, hml, hown, hts⟩ (k_X0_has l D g m_co e_co m_cr e_cr hz13) (cwV 1 hts gX6_passesFalsely_X0_has rfl rfl rfl (by decide +kernel) ⟨Nat.le_of_ble_eq_true rfl, Nat.le_of_ble_eq_true rfl⟩) S m_co e_co (T := TX0) (N := 2) rfl rfl hl.1 rfl (Nat.le_of_ble_eq_true rfl) dX6_passesFalsely_13 ⟨Nat.le_of_ble_eq_true rfl, Nat.le_of_ble_eq_true rfl⟩ (fun r6 L4 f5 H locs S w13 => ?_)
    obtain ⟨ex13, eL, ef⟩ := w13
    rw [eL, ef] at S
    replace ex13 := ex13.symm
    subst ex13
    refine lv_if_ne (tgt := 23) hx hb dX6_passesFalsely_16 (by decide) (fun b16 => ?_) (fun b16 => ?_)
    · have hM := itF b16 hM
      refine lv_iconst (v := (0 : Int32)) hx hb dX6_passesFalsely_23 (by decide) ?_
      subst hQQ
      exact q_retz (post := fun x L1 f1 => x = z ∧ L1 = L ∧ f1 = f) hx hb hr hlk S dX6_passesFalsely_24 (by decide) (by decide) (by decide) (by have hz := Option.some.inj hM; subst hz; exact ⟨rfl, rfl, rfl⟩)
    · have hM := itT b16 hM
      refine lv_iconst (v := (1 : Int32)) hx hb dX6_passesFalsely_19 (by decide) ?_
      refine lv_goto (tgt := 24) hx hb dX6_passesFalsely_20 (by decide) ?_
      subst hQQ
      exact q_retz (post := fun x L1 f1 => x = z ∧ L1 = L ∧ f1 = f) hx hb hr hlk S dX6_passesFalsely_24 (by decide) (by decide) (by decide) (by have hz := Option.some.inj hM; subst hz; exact ⟨rfl, rfl, rfl⟩)

def mX6_weightL (kd : Int32) (sz : Int32) (lc : Int32) (rn : Int32) (lz : Nat → Int32) : Option (Int32) := if kd = (1 : Int32) then (some ((4 : Int32) * sz)) else (if kd = (2 : Int32) then (some ((32 : Int32) * sz)) else (if kd = (3 : Int32) then (some ((8 : Int32) * sz)) else (if kd = (4 : Int32) then ((mX3_weight lc rn lz).bind fun z74 => some z74) else (some sz))))
set_option maxRecDepth 20000 in
theorem gu_wsX6_weight_2 : ∀ w ∈ wsX60, w ∈ wsX6_weight := fun _ h => List.mem_cons_of_mem _ (List.mem_append_left _ (List.mem_append_left _ (List.mem_append_left _ (List.mem_append_right _ h))))
set_option maxHeartbeats 4000000 in
set_option maxRecDepth 100000 in
theorem k_X6_weightL (l : Launch) (D : va_G) (g : Nat → ClassId) {L : List Nat} {f : Nat → va_E} {lb lw : Nat → Nat} {ca ce co h la re ro rr : Nat} {kd : Int32} {sz : Int32} {mk : Int32} {sd : Int32} {lc : Int32} {lsd : Int32} {rf : Nat → Option Nat} {rn : Int32} {lz : Nat → Int32} {ld : Nat → Nat → Int64} {z : Int32} (m_h : h ∈ L) (e_h : f h = .inr (4, [.ref ce, .ref co, .ref la, .int kd, .int sz, .int mk, .int sd])) (m_la : la ∈ L) (e_la : f la = .inr (3, [.ref ro, .ref ca, .ref re, .int lc, .int lsd])) (m_ro : ro ∈ L) (e_ro : f ro = .inl (g 4, 20, .inr (.inr (.inr (.inr rf))))) (m_re : re ∈ L) (e_re : f re = .inr (0, [.ref rr, .int rn])) (e_fam : LF g L f rf lb lw lz ld)    (hM : mX6_weightL kd sz lc rn lz = some z) : cI l yX6_weight wsX6_weight { frames := 2, cells := 0, slots := 0, locals := 42 } D g [.ref h] L f 0 0 (fun x L1 f1 => x = z ∧ L1 = L ∧ f1 = f) := by
  refine cI_of (cc := cX6_weight) (maxL := 1) (ret := (some .int)) (by decide) rfl (Nat.le_of_ble_eq_true rfl) ?_
  intro szz p e s m below meth c hx hb hr hml hts hown hlk hnm S ls hl
  have hl : lv_has ls 1 [(0, .ref h)] := hl
  have in_X6 : ∀ w ∈ wsX60, w ∈ wsX6_weight := gu_wsX6_weight_2
  unfold mX6_weightL at hM
  refine W_gen (fun QQ hQQ => ?_)
  refine lv_aload_n hx hb dX6_weight_0 rfl (lv_at hl 0 rfl) ?_
  refine q_get hx hb hts in_X6 hown S m_h e_h (C := RX6) (T := TX6) (N := 7) rfl 3 (by decide) rfl (hts (.fieldLink RX6 22 "SieveCabinet$Sieve" "kind" "I") (gu_wsX6_weight_1 _ gm_0)) dX6_weight_1 ?_
  by_cases w4_1 : kd = (1 : Int32)
  · have hM := itT w4_1 hM
    refine lv_tableIn (off := 32) (tgt := 36) hx hb dX6_weight_4 (by rw [w4_1]; decide) (by rw [w4_1]; decide) (by rw [w4_1]; rfl) (by decide) ?_
    refine lv_iconst (v := (4 : Int32)) hx hb dX6_weight_36 (by decide) ?_
    refine lv_aload_n hx hb dX6_weight_37 rfl (lv_at hl 0 rfl) ?_
    refine q_get hx hb hts in_X6 hown S m_h e_h (C := RX6) (T := TX6) (N := 7) rfl 4 (by decide) rfl (hts (.fieldLink RX6 26 "SieveCabinet$Sieve" "size" "I") (gu_wsX6_weight_1 _ gm_1)) dX6_weight_38 ?_
    refine lv_imul hx hb dX6_weight_41 ?_
    subst hQQ
    exact q_reti (post := fun x L1 f1 => x = z ∧ L1 = L ∧ f1 = f) hx hb hr hlk S dX6_weight_42 (by decide) (by decide) (by have hz := Option.some.inj hM; subst hz; exact ⟨rfl, rfl, rfl⟩)
  have hM := itF w4_1 hM
  by_cases w4_2 : kd = (2 : Int32)
  · have hM := itT w4_2 hM
    refine lv_tableIn (off := 39) (tgt := 43) hx hb dX6_weight_4 (by rw [w4_2]; decide) (by rw [w4_2]; decide) (by rw [w4_2]; rfl) (by decide) ?_
    refine lv_bipush (v := (32 : Int32)) hx hb dX6_weight_43 (by decide) ?_
    refine lv_aload_n hx hb dX6_weight_45 rfl (lv_at hl 0 rfl) ?_
    refine q_get hx hb hts in_X6 hown S m_h e_h (C := RX6) (T := TX6) (N := 7) rfl 4 (by decide) rfl (hts (.fieldLink RX6 26 "SieveCabinet$Sieve" "size" "I") (gu_wsX6_weight_1 _ gm_1)) dX6_weight_46 ?_
    refine lv_imul hx hb dX6_weight_49 ?_
    subst hQQ
    exact q_reti (post := fun x L1 f1 => x = z ∧ L1 = L ∧ f1 = f) hx hb hr hlk S dX6_weight_50 (by decide) (by decide) (by have hz := Option.some.inj hM; subst hz; exact ⟨rfl, rfl, rfl⟩)
  have hM := itF w4_2 hM
  by_cases w4_3 : kd = (3 : Int32)
  · have hM := itT w4_3 hM
    refine lv_tableIn (off := 47) (tgt := 51) hx hb dX6_weight_4 (by rw [w4_3]; decide) (by rw [w4_3]; decide) (by rw [w4_3]; rfl) (by decide) ?_
    refine lv_bipush (v := (8 : Int32)) hx hb dX6_weight_51 (by decide) ?_
    refine lv_aload_n hx hb dX6_weight_53 rfl (lv_at hl 0 rfl) ?_
    refine q_get hx hb hts in_X6 hown S m_h e_h (C := RX6) (T := TX6) (N := 7) rfl 4 (by decide) rfl (hts (.fieldLink RX6 26 "SieveCabinet$Sieve" "size" "I") (gu_wsX6_weight_1 _ gm_1)) dX6_weight_54 ?_
    refine lv_imul hx hb dX6_weight_57 ?_
    subst hQQ
    exact q_reti (post := fun x L1 f1 => x = z ∧ L1 = L ∧ f1 = f) hx hb hr hlk S dX6_weight_58 (by decide) (by decide) (by have hz := Option.some.inj hM; subst hz; exact ⟨rfl, rfl, rfl⟩)
  have hM := itF w4_3 hM
  by_cases w4_4 : kd = (4 : Int32)
  · have hM := itT w4_4 hM
    refine lv_tableIn (off := 55) (tgt := 59) hx hb dX6_weight_4 (by rw [w4_4]; decide) (by rw [w4_4]; decide) (by rw [w4_4]; rfl) (by decide) ?_
    refine lv_aload_n hx hb dX6_weight_59 rfl (lv_at hl 0 rfl) ?_
    refine q_get hx hb hts in_X6 hown S m_h e_h (C := RX6) (T := TX6) (N := 7) rfl 2 (by decide) rfl (hts (.fieldLink RX6 44 "SieveCabinet$Sieve" "layers" "LSieveCabinet$Layers;") (gu_wsX6_weight_1 _ gm_2)) dX6_weight_60 ?_
    refine lv_ifnonnull (tgt := 70) hx hb dX6_weight_63 (by decide) ?_
    refine lv_aload_n hx hb dX6_weight_70 rfl (lv_at hl 0 rfl) ?_
    refine q_get hx hb hts in_X6 hown S m_h e_h (C := RX6) (T := TX6) (N := 7) rfl 2 (by decide) rfl (hts (.fieldLink RX6 44 "SieveCabinet$Sieve" "layers" "LSieveCabinet$Layers;") (gu_wsX6_weight_1 _ gm_2)) dX6_weight_71 ?_
    obtain ⟨z74, hz74, hM⟩ := bind_some hM
    refine q_vi (As := []) (rest := []) ⟨hx, hb, hml, hown, hts⟩ (k_X3_weight l D g m_la e_la m_ro e_ro m_re e_re e_fam hz74) (cwV 0 hts gX6_weight_X3_weight rfl rfl rfl (by decide +kernel) ⟨Nat.le_of_ble_eq_true rfl, Nat.le_of_ble_eq_true rfl⟩) S m_la e_la (T := TX3) (N := 5) rfl rfl hl.1 rfl (Nat.le_of_ble_eq_true rfl) dX6_weight_74 ⟨Nat.le_of_ble_eq_true rfl, Nat.le_of_ble_eq_true rfl⟩ (fun r3 L1 f2 H locs S w74 => ?_)
    obtain ⟨ex74, eL, ef⟩ := w74
    rw [eL, ef] at S
    replace ex74 := ex74.symm
    subst ex74
    subst hQQ
    exact q_reti (post := fun x L1 f1 => x = z ∧ L1 = L ∧ f1 = f) hx hb hr hlk S dX6_weight_77 (by decide) (by decide) (by have hz := Option.some.inj hM; subst hz; exact ⟨rfl, rfl, rfl⟩)
  have hM := itF w4_4 hM
  refine lv_tableOut (tgt := 78) hx hb dX6_weight_4 (by have q0 := lv_neT w4_1 (a := 1) rfl; have q1 := lv_neT w4_2 (a := 2) rfl; have q2 := lv_neT w4_3 (a := 3) rfl; have q3 := lv_neT w4_4 (a := 4) rfl; omega) (by decide) ?_
  refine lv_aload_n hx hb dX6_weight_78 rfl (lv_at hl 0 rfl) ?_
  refine q_get hx hb hts in_X6 hown S m_h e_h (C := RX6) (T := TX6) (N := 7) rfl 4 (by decide) rfl (hts (.fieldLink RX6 26 "SieveCabinet$Sieve" "size" "I") (gu_wsX6_weight_1 _ gm_1)) dX6_weight_79 ?_
  subst hQQ
  exact q_reti (post := fun x L1 f1 => x = z ∧ L1 = L ∧ f1 = f) hx hb hr hlk S dX6_weight_82 (by decide) (by decide) (by have hz := Option.some.inj hM; subst hz; exact ⟨rfl, rfl, rfl⟩)

def mX6_weightG (kd : Int32) (sz : Int32) : Option (Int32) := if kd = (1 : Int32) then (some ((4 : Int32) * sz)) else (if kd = (2 : Int32) then (some ((32 : Int32) * sz)) else (if kd = (3 : Int32) then (some ((8 : Int32) * sz)) else (if kd = (4 : Int32) then none else (some sz))))
set_option maxHeartbeats 4000000 in
set_option maxRecDepth 100000 in
theorem k_X6_weightG (l : Launch) (D : va_G) (g : Nat → ClassId) {L : List Nat} {f : Nat → va_E} {ce co h : Nat} {lay : Value} {kd : Int32} {sz : Int32} {mk : Int32} {sd : Int32} {z : Int32} (m_h : h ∈ L) (e_h : f h = .inr (4, [.ref ce, .ref co, lay, .int kd, .int sz, .int mk, .int sd]))    (hM : mX6_weightG kd sz = some z) : cI l yX6_weight wsX6_weight { frames := 0, cells := 0, slots := 0, locals := 0 } D g [.ref h] L f 0 0 (fun x L1 f1 => x = z ∧ L1 = L ∧ f1 = f) := by
  refine cI_of (cc := cX6_weight) (maxL := 1) (ret := (some .int)) (by decide) rfl (Nat.le_of_ble_eq_true rfl) ?_
  intro szz p e s m below meth c hx hb hr hml hts hown hlk hnm S ls hl
  have hl : lv_has ls 1 [(0, .ref h)] := hl
  have in_X6 : ∀ w ∈ wsX60, w ∈ wsX6_weight := gu_wsX6_weight_2
  unfold mX6_weightG at hM
  refine W_gen (fun QQ hQQ => ?_)
  refine lv_aload_n hx hb dX6_weight_0 rfl (lv_at hl 0 rfl) ?_
  refine q_get hx hb hts in_X6 hown S m_h e_h (C := RX6) (T := TX6) (N := 7) rfl 3 (by decide) rfl (hts (.fieldLink RX6 22 "SieveCabinet$Sieve" "kind" "I") (gu_wsX6_weight_1 _ gm_0)) dX6_weight_1 ?_
  by_cases w4_1 : kd = (1 : Int32)
  · have hM := itT w4_1 hM
    refine lv_tableIn (off := 32) (tgt := 36) hx hb dX6_weight_4 (by rw [w4_1]; decide) (by rw [w4_1]; decide) (by rw [w4_1]; rfl) (by decide) ?_
    refine lv_iconst (v := (4 : Int32)) hx hb dX6_weight_36 (by decide) ?_
    refine lv_aload_n hx hb dX6_weight_37 rfl (lv_at hl 0 rfl) ?_
    refine q_get hx hb hts in_X6 hown S m_h e_h (C := RX6) (T := TX6) (N := 7) rfl 4 (by decide) rfl (hts (.fieldLink RX6 26 "SieveCabinet$Sieve" "size" "I") (gu_wsX6_weight_1 _ gm_1)) dX6_weight_38 ?_
    refine lv_imul hx hb dX6_weight_41 ?_
    subst hQQ
    exact q_reti (post := fun x L1 f1 => x = z ∧ L1 = L ∧ f1 = f) hx hb hr hlk S dX6_weight_42 (by decide) (by decide) (by have hz := Option.some.inj hM; subst hz; exact ⟨rfl, rfl, rfl⟩)
  have hM := itF w4_1 hM
  by_cases w4_2 : kd = (2 : Int32)
  · have hM := itT w4_2 hM
    refine lv_tableIn (off := 39) (tgt := 43) hx hb dX6_weight_4 (by rw [w4_2]; decide) (by rw [w4_2]; decide) (by rw [w4_2]; rfl) (by decide) ?_
    refine lv_bipush (v := (32 : Int32)) hx hb dX6_weight_43 (by decide) ?_
    refine lv_aload_n hx hb dX6_weight_45 rfl (lv_at hl 0 rfl) ?_
    refine q_get hx hb hts in_X6 hown S m_h e_h (C := RX6) (T := TX6) (N := 7) rfl 4 (by decide) rfl (hts (.fieldLink RX6 26 "SieveCabinet$Sieve" "size" "I") (gu_wsX6_weight_1 _ gm_1)) dX6_weight_46 ?_
    refine lv_imul hx hb dX6_weight_49 ?_
    subst hQQ
    exact q_reti (post := fun x L1 f1 => x = z ∧ L1 = L ∧ f1 = f) hx hb hr hlk S dX6_weight_50 (by decide) (by decide) (by have hz := Option.some.inj hM; subst hz; exact ⟨rfl, rfl, rfl⟩)
  have hM := itF w4_2 hM
  by_cases w4_3 : kd = (3 : Int32)
  · have hM := itT w4_3 hM
    refine lv_tableIn (off := 47) (tgt := 51) hx hb dX6_weight_4 (by rw [w4_3]; decide) (by rw [w4_3]; decide) (by rw [w4_3]; rfl) (by decide) ?_
    refine lv_bipush (v := (8 : Int32)) hx hb dX6_weight_51 (by decide) ?_
    refine lv_aload_n hx hb dX6_weight_53 rfl (lv_at hl 0 rfl) ?_
    refine q_get hx hb hts in_X6 hown S m_h e_h (C := RX6) (T := TX6) (N := 7) rfl 4 (by decide) rfl (hts (.fieldLink RX6 26 "SieveCabinet$Sieve" "size" "I") (gu_wsX6_weight_1 _ gm_1)) dX6_weight_54 ?_
    refine lv_imul hx hb dX6_weight_57 ?_
    subst hQQ
    exact q_reti (post := fun x L1 f1 => x = z ∧ L1 = L ∧ f1 = f) hx hb hr hlk S dX6_weight_58 (by decide) (by decide) (by have hz := Option.some.inj hM; subst hz; exact ⟨rfl, rfl, rfl⟩)
  have hM := itF w4_3 hM
  by_cases w4_4 : kd = (4 : Int32)
  · have hM := itT w4_4 hM
    refine lv_tableIn (off := 55) (tgt := 59) hx hb dX6_weight_4 (by rw [w4_4]; decide) (by rw [w4_4]; decide) (by rw [w4_4]; rfl) (by decide) ?_
    refine lv_aload_n hx hb dX6_weight_59 rfl (lv_at hl 0 rfl) ?_
    refine q_get hx hb hts in_X6 hown S m_h e_h (C := RX6) (T := TX6) (N := 7) rfl 2 (by decide) rfl (hts (.fieldLink RX6 44 "SieveCabinet$Sieve" "layers" "LSieveCabinet$Layers;") (gu_wsX6_weight_1 _ gm_2)) dX6_weight_60 ?_
    exact no_some hM
  have hM := itF w4_4 hM
  refine lv_tableOut (tgt := 78) hx hb dX6_weight_4 (by have q0 := lv_neT w4_1 (a := 1) rfl; have q1 := lv_neT w4_2 (a := 2) rfl; have q2 := lv_neT w4_3 (a := 3) rfl; have q3 := lv_neT w4_4 (a := 4) rfl; omega) (by decide) ?_
  refine lv_aload_n hx hb dX6_weight_78 rfl (lv_at hl 0 rfl) ?_
  refine q_get hx hb hts in_X6 hown S m_h e_h (C := RX6) (T := TX6) (N := 7) rfl 4 (by decide) rfl (hts (.fieldLink RX6 26 "SieveCabinet$Sieve" "size" "I") (gu_wsX6_weight_1 _ gm_1)) dX6_weight_79 ?_
  subst hQQ
  exact q_reti (post := fun x L1 f1 => x = z ∧ L1 = L ∧ f1 = f) hx hb hr hlk S dX6_weight_82 (by decide) (by decide) (by have hz := Option.some.inj hM; subst hz; exact ⟨rfl, rfl, rfl⟩)

def mX6_filledL_L31 (kd : Int32) (sz : Int32) (kc : Nat → Int32) : Nat → Int32 → Int32 → Option (Int32 × Int32)
  | 0, _, _ => none
  | fu + 1, x2_31, x1_31 => (mX6_places kd sz).bind fun z33 => if z33 ≤ x2_31 then (some (x2_31, x1_31)) else ((mX6_cellAt kc x2_31).bind fun z41 => if z41 ≤ 0 then (mX6_filledL_L31 kd sz kc fu (x2_31 + 1) x1_31) else (mX6_filledL_L31 kd sz kc fu (x2_31 + 1) (x1_31 + 1)))
def mX6_filledL (kd : Int32) (sz : Int32) (kc : Nat → Int32) (rn : Int32) : Option (Int32) := if kd = (4 : Int32) then ((mX3_restCount rn).bind fun z23 => some z23) else ((mX6_filledL_L31 kd sz kc FU (0 : Int32) (0 : Int32)).bind fun o31 => some o31.2)
set_option maxHeartbeats 4000000 in
set_option maxRecDepth 100000 in
theorem k_X6_filledL (l : Launch) (D : va_G) (g : Nat → ClassId) {L : List Nat} {f : Nat → va_E} {ca ce co h la re ro rr : Nat} {kd : Int32} {sz : Int32} {mk : Int32} {sd : Int32} {kc : Nat → Int32} {lc : Int32} {lsd : Int32} {rn : Int32} {z : Int32} (m_h : h ∈ L) (e_h : f h = .inr (4, [.ref ce, .ref co, .ref la, .int kd, .int sz, .int mk, .int sd])) (m_ce : ce ∈ L) (e_ce : f ce = .inl (g 0, 4096, .inl kc)) (m_la : la ∈ L) (e_la : f la = .inr (3, [.ref ro, .ref ca, .ref re, .int lc, .int lsd])) (m_re : re ∈ L) (e_re : f re = .inr (0, [.ref rr, .int rn]))    (hM : mX6_filledL kd sz kc rn = some z) : cI l yX6_filled wsX6_filled { frames := 2, cells := 0, slots := 0, locals := 40 } D g [.ref h] L f 0 0 (fun x L1 f1 => x = z ∧ L1 = L ∧ f1 = f) := by
  refine cI_of (cc := cX6_filled) (maxL := 3) (ret := (some .int)) (by decide) rfl (Nat.le_of_ble_eq_true rfl) ?_
  intro szz p e s m below meth c hx hb hr hml hts hown hlk hnm S ls hl
  have hl : lv_has ls 3 [(0, .ref h)] := hl
  have in_X6 : ∀ w ∈ wsX60, w ∈ wsX6_filled := gu_wsX6_filled_3
  unfold mX6_filledL at hM
  refine W_gen (fun QQ hQQ => ?_)
  refine lv_aload_n hx hb dX6_filled_0 rfl (lv_at hl 0 rfl) ?_
  refine q_get hx hb hts in_X6 hown S m_h e_h (C := RX6) (T := TX6) (N := 7) rfl 3 (by decide) rfl (hts (.fieldLink RX6 22 "SieveCabinet$Sieve" "kind" "I") (gu_wsX6_filled_1 _ gm_0)) dX6_filled_1 ?_
  refine lv_iconst (v := (4 : Int32)) hx hb dX6_filled_4 (by decide) ?_
  refine lv_icmp_ne (tgt := 27) hx hb dX6_filled_5 (by decide) (fun b5 => ?_) (fun b5 => ?_)
  · have hM := itF b5 hM
    refine lv_iconst (v := (0 : Int32)) hx hb dX6_filled_27 (by decide) ?_
    refine lv_istore_n (lv' := [(1, .int (0 : Int32)), (0, .ref h)]) hx hb dX6_filled_28 rfl hl (by decide) rfl (fun ls hl => ?_)
    refine lv_iconst (v := (0 : Int32)) hx hb dX6_filled_29 (by decide) ?_
    refine lv_istore_n (lv' := [(2, .int (0 : Int32)), (1, .int (0 : Int32)), (0, .ref h)]) hx hb dX6_filled_30 rfl hl (by decide) rfl (fun ls hl => ?_)
    obtain ⟨o31, ho31, hM⟩ := bind_some hM
    have EX31 : ∀ (H : Heap) (locs : List Loc) (ls : Array Slot), PS D g (va_A (va_pl L f) szz) s.heap s L f H locs → lv_has ls 3 [(1, .int o31.2)] → W p l e { frames := 2, cells := 0, slots := 0, locals := 40 } s m [.ref h].toArray below meth c H locs 0 0 QQ (F0 m 56 ls []) := by
      intro H locs ls S hl
      refine lv_iload_n hx hb dX6_filled_56 rfl (lv_at hl 0 rfl) ?_
      subst hQQ
      exact q_reti (post := fun x L1 f1 => x = z ∧ L1 = L ∧ f1 = f) hx hb hr hlk S dX6_filled_57 (by decide) (by decide) (by have hz := Option.some.inj hM; subst hz; exact ⟨rfl, rfl, rfl⟩)
    have LP31 : ∀ (fu : Nat) (x2_31 : Int32) (x1_31 : Int32) (H : Heap) (locs : List Loc) (ls : Array Slot), (mX6_filledL_L31 kd sz kc) fu x2_31 x1_31 = some o31 → PS D g (va_A (va_pl L f) szz) s.heap s L f H locs → lv_has ls 3 [(2, .int x2_31), (1, .int x1_31), (0, .ref h)] → W p l e { frames := 2, cells := 0, slots := 0, locals := 40 } s m [.ref h].toArray below meth c H locs 0 0 QQ (F0 m 31 ls []) := by
      intro fu
      induction fu with
      | zero => intro x2_31 x1_31 H locs ls ho31 S hl; exact no_some ho31
      | succ fu ih31 =>
        intro x2_31 x1_31 H locs ls ho31 S hl
        rw [mX6_filledL_L31] at ho31
        refine lv_iload_n hx hb dX6_filled_31 rfl (lv_at hl 0 rfl) ?_
        refine lv_aload_n hx hb dX6_filled_32 rfl (lv_at hl 2 rfl) ?_
        obtain ⟨z33, hz33, ho31⟩ := bind_some ho31
        refine q_vi (As := []) (rest := [.int x2_31]) ⟨hx, hb, hml, hown, hts⟩ (k_X6_places l D g m_h e_h hz33) (cwV 0 hts gX6_filled_X6_places rfl rfl rfl (by decide +kernel) ⟨Nat.le_of_ble_eq_true rfl, Nat.le_of_ble_eq_true rfl⟩) S m_h e_h (T := TX6) (N := 7) rfl rfl hl.1 rfl (Nat.le_of_ble_eq_true rfl) dX6_filled_33 ⟨Nat.le_of_ble_eq_true rfl, Nat.le_of_ble_eq_true rfl⟩ (fun r3 L1 f2 H locs S w33 => ?_)
        obtain ⟨ex33, eL, ef⟩ := w33
        rw [eL, ef] at S
        replace ex33 := ex33.symm
        subst ex33
        refine lv_icmp_ge (tgt := 56) hx hb dX6_filled_36 (by decide) (fun b36 => ?_) (fun b36 => ?_)
        · have ho31 := itT b36 ho31
          obtain rfl := Option.some.inj ho31
          exact EX31 _ _ _ S (lv_sub hl [1] rfl)
        · have ho31 := itF b36 ho31
          refine lv_aload_n hx hb dX6_filled_39 rfl (lv_at hl 2 rfl) ?_
          refine lv_iload_n hx hb dX6_filled_40 rfl (lv_at hl 0 rfl) ?_
          obtain ⟨z41, hz41, ho31⟩ := bind_some ho31
          refine q_vi (As := [.int x2_31]) (rest := []) ⟨hx, hb, hml, hown, hts⟩ (k_X6_cellAt l D g m_h e_h m_ce e_ce hz41) (cwV 1 hts gX6_filled_X6_cellAt rfl rfl rfl (by decide +kernel) ⟨Nat.le_of_ble_eq_true rfl, Nat.le_of_ble_eq_true rfl⟩) S m_h e_h (T := TX6) (N := 7) rfl rfl hl.1 rfl (Nat.le_of_ble_eq_true rfl) dX6_filled_41 ⟨Nat.le_of_ble_eq_true rfl, Nat.le_of_ble_eq_true rfl⟩ (fun r6 L4 f5 H locs S w41 => ?_)
          obtain ⟨ex41, eL, ef⟩ := w41
          rw [eL, ef] at S
          replace ex41 := ex41.symm
          subst ex41
          refine lv_if_le (tgt := 50) hx hb dX6_filled_44 (by decide) (fun b44 => ?_) (fun b44 => ?_)
          · have ho31 := itT b44 ho31
            refine lv_iinc (v := (x2_31 + 1)) (lv' := [(2, .int (x2_31 + 1)), (1, .int x1_31), (0, .ref h)]) hx hb dX6_filled_50 hl (k := 0) rfl rfl (by decide) rfl (fun ls hl => ?_)
            refine lv_goto (tgt := 31) hx hb dX6_filled_53 (by decide) ?_
            exact ih31 (x2_31 + 1) x1_31 _ _ _ ho31 S (lv_sub hl [0, 1, 2] rfl)
          · have ho31 := itF b44 ho31
            refine lv_iinc (v := (x1_31 + 1)) (lv' := [(1, .int (x1_31 + 1)), (2, .int x2_31), (0, .ref h)]) hx hb dX6_filled_47 hl (k := 1) rfl rfl (by decide) rfl (fun ls hl => ?_)
            refine lv_iinc (v := (x2_31 + 1)) (lv' := [(2, .int (x2_31 + 1)), (1, .int (x1_31 + 1)), (0, .ref h)]) hx hb dX6_filled_50 hl (k := 1) rfl rfl (by decide) rfl (fun ls hl => ?_)
            refine lv_goto (tgt := 31) hx hb dX6_filled_53 (by decide) ?_
            exact ih31 (x2_31 + 1) (x1_31 + 1) _ _ _ ho31 S (lv_sub hl [0, 1, 2] rfl)
    exact LP31 FU (0 : Int32) (0 : Int32) _ _ _ ho31 S (lv_sub hl [0, 1, 2] rfl)
  · have hM := itT b5 hM
    refine lv_aload_n hx hb dX6_filled_8 rfl (lv_at hl 0 rfl) ?_
    refine q_get hx hb hts in_X6 hown S m_h e_h (C := RX6) (T := TX6) (N := 7) rfl 2 (by decide) rfl (hts (.fieldLink RX6 44 "SieveCabinet$Sieve" "layers" "LSieveCabinet$Layers;") (gu_wsX6_filled_1 _ gm_1)) dX6_filled_9 ?_
    refine lv_ifnonnull (tgt := 19) hx hb dX6_filled_12 (by decide) ?_
    refine lv_aload_n hx hb dX6_filled_19 rfl (lv_at hl 0 rfl) ?_
    refine q_get hx hb hts in_X6 hown S m_h e_h (C := RX6) (T := TX6) (N := 7) rfl 2 (by decide) rfl (hts (.fieldLink RX6 44 "SieveCabinet$Sieve" "layers" "LSieveCabinet$Layers;") (gu_wsX6_filled_1 _ gm_1)) dX6_filled_20 ?_
    obtain ⟨z23, hz23, hM⟩ := bind_some hM
    refine q_vi (As := []) (rest := []) ⟨hx, hb, hml, hown, hts⟩ (k_X3_restCount l D g m_la e_la m_re e_re hz23) (cwV 0 hts gX6_filled_X3_restCount rfl rfl rfl (by decide +kernel) ⟨Nat.le_of_ble_eq_true rfl, Nat.le_of_ble_eq_true rfl⟩) S m_la e_la (T := TX3) (N := 5) rfl rfl hl.1 rfl (Nat.le_of_ble_eq_true rfl) dX6_filled_23 ⟨Nat.le_of_ble_eq_true rfl, Nat.le_of_ble_eq_true rfl⟩ (fun r9 L7 f8 H locs S w23 => ?_)
    obtain ⟨ex23, eL, ef⟩ := w23
    rw [eL, ef] at S
    replace ex23 := ex23.symm
    subst ex23
    subst hQQ
    exact q_reti (post := fun x L1 f1 => x = z ∧ L1 = L ∧ f1 = f) hx hb hr hlk S dX6_filled_26 (by decide) (by decide) (by have hz := Option.some.inj hM; subst hz; exact ⟨rfl, rfl, rfl⟩)

def mX6_filledG_L31 (kd : Int32) (sz : Int32) (kc : Nat → Int32) : Nat → Int32 → Int32 → Option (Int32 × Int32)
  | 0, _, _ => none
  | fu + 1, x2_31, x1_31 => (mX6_places kd sz).bind fun z33 => if z33 ≤ x2_31 then (some (x2_31, x1_31)) else ((mX6_cellAt kc x2_31).bind fun z41 => if z41 ≤ 0 then (mX6_filledG_L31 kd sz kc fu (x2_31 + 1) x1_31) else (mX6_filledG_L31 kd sz kc fu (x2_31 + 1) (x1_31 + 1)))
def mX6_filledG (kd : Int32) (sz : Int32) (kc : Nat → Int32) : Option (Int32) := if kd = (4 : Int32) then none else ((mX6_filledG_L31 kd sz kc FU (0 : Int32) (0 : Int32)).bind fun o31 => some o31.2)
set_option maxHeartbeats 4000000 in
set_option maxRecDepth 100000 in
theorem k_X6_filledG (l : Launch) (D : va_G) (g : Nat → ClassId) {L : List Nat} {f : Nat → va_E} {ce co h : Nat} {lay : Value} {kd : Int32} {sz : Int32} {mk : Int32} {sd : Int32} {kc : Nat → Int32} {z : Int32} (m_h : h ∈ L) (e_h : f h = .inr (4, [.ref ce, .ref co, lay, .int kd, .int sz, .int mk, .int sd])) (m_ce : ce ∈ L) (e_ce : f ce = .inl (g 0, 4096, .inl kc))    (hM : mX6_filledG kd sz kc = some z) : cI l yX6_filled wsX6_filled { frames := 1, cells := 0, slots := 0, locals := 21 } D g [.ref h] L f 0 0 (fun x L1 f1 => x = z ∧ L1 = L ∧ f1 = f) := by
  refine cI_of (cc := cX6_filled) (maxL := 3) (ret := (some .int)) (by decide) rfl (Nat.le_of_ble_eq_true rfl) ?_
  intro szz p e s m below meth c hx hb hr hml hts hown hlk hnm S ls hl
  have hl : lv_has ls 3 [(0, .ref h)] := hl
  have in_X6 : ∀ w ∈ wsX60, w ∈ wsX6_filled := gu_wsX6_filled_3
  unfold mX6_filledG at hM
  refine W_gen (fun QQ hQQ => ?_)
  refine lv_aload_n hx hb dX6_filled_0 rfl (lv_at hl 0 rfl) ?_
  refine q_get hx hb hts in_X6 hown S m_h e_h (C := RX6) (T := TX6) (N := 7) rfl 3 (by decide) rfl (hts (.fieldLink RX6 22 "SieveCabinet$Sieve" "kind" "I") (gu_wsX6_filled_1 _ gm_0)) dX6_filled_1 ?_
  refine lv_iconst (v := (4 : Int32)) hx hb dX6_filled_4 (by decide) ?_
  refine lv_icmp_ne (tgt := 27) hx hb dX6_filled_5 (by decide) (fun b5 => ?_) (fun b5 => ?_)
  · have hM := itF b5 hM
    refine lv_iconst (v := (0 : Int32)) hx hb dX6_filled_27 (by decide) ?_
    refine lv_istore_n (lv' := [(1, .int (0 : Int32)), (0, .ref h)]) hx hb dX6_filled_28 rfl hl (by decide) rfl (fun ls hl => ?_)
    refine lv_iconst (v := (0 : Int32)) hx hb dX6_filled_29 (by decide) ?_
    refine lv_istore_n (lv' := [(2, .int (0 : Int32)), (1, .int (0 : Int32)), (0, .ref h)]) hx hb dX6_filled_30 rfl hl (by decide) rfl (fun ls hl => ?_)
    obtain ⟨o31, ho31, hM⟩ := bind_some hM
    have EX31 : ∀ (H : Heap) (locs : List Loc) (ls : Array Slot), PS D g (va_A (va_pl L f) szz) s.heap s L f H locs → lv_has ls 3 [(1, .int o31.2)] → W p l e { frames := 1, cells := 0, slots := 0, locals := 21 } s m [.ref h].toArray below meth c H locs 0 0 QQ (F0 m 56 ls []) := by
      intro H locs ls S hl
      refine lv_iload_n hx hb dX6_filled_56 rfl (lv_at hl 0 rfl) ?_
      subst hQQ
      exact q_reti (post := fun x L1 f1 => x = z ∧ L1 = L ∧ f1 = f) hx hb hr hlk S dX6_filled_57 (by decide) (by decide) (by have hz := Option.some.inj hM; subst hz; exact ⟨rfl, rfl, rfl⟩)
    have LP31 : ∀ (fu : Nat) (x2_31 : Int32) (x1_31 : Int32) (H : Heap) (locs : List Loc) (ls : Array Slot), (mX6_filledG_L31 kd sz kc) fu x2_31 x1_31 = some o31 → PS D g (va_A (va_pl L f) szz) s.heap s L f H locs → lv_has ls 3 [(2, .int x2_31), (1, .int x1_31), (0, .ref h)] → W p l e { frames := 1, cells := 0, slots := 0, locals := 21 } s m [.ref h].toArray below meth c H locs 0 0 QQ (F0 m 31 ls []) := by
      intro fu
      induction fu with
      | zero => intro x2_31 x1_31 H locs ls ho31 S hl; exact no_some ho31
      | succ fu ih31 =>
        intro x2_31 x1_31 H locs ls ho31 S hl
        rw [mX6_filledG_L31] at ho31
        refine lv_iload_n hx hb dX6_filled_31 rfl (lv_at hl 0 rfl) ?_
        refine lv_aload_n hx hb dX6_filled_32 rfl (lv_at hl 2 rfl) ?_
        obtain ⟨z33, hz33, ho31⟩ := bind_some ho31
        refine q_vi (As := []) (rest := [.int x2_31]) ⟨hx, hb, hml, hown, hts⟩ (k_X6_places l D g m_h e_h hz33) (cwV 0 hts gX6_filled_X6_places rfl rfl rfl (by decide +kernel) ⟨Nat.le_of_ble_eq_true rfl, Nat.le_of_ble_eq_true rfl⟩) S m_h e_h (T := TX6) (N := 7) rfl rfl hl.1 rfl (Nat.le_of_ble_eq_true rfl) dX6_filled_33 ⟨Nat.le_of_ble_eq_true rfl, Nat.le_of_ble_eq_true rfl⟩ (fun r3 L1 f2 H locs S w33 => ?_)
        obtain ⟨ex33, eL, ef⟩ := w33
        rw [eL, ef] at S
        replace ex33 := ex33.symm
        subst ex33
        refine lv_icmp_ge (tgt := 56) hx hb dX6_filled_36 (by decide) (fun b36 => ?_) (fun b36 => ?_)
        · have ho31 := itT b36 ho31
          obtain rfl := Option.some.inj ho31
          exact EX31 _ _ _ S (lv_sub hl [1] rfl)
        · have ho31 := itF b36 ho31
          refine lv_aload_n hx hb dX6_filled_39 rfl (lv_at hl 2 rfl) ?_
          refine lv_iload_n hx hb dX6_filled_40 rfl (lv_at hl 0 rfl) ?_
          obtain ⟨z41, hz41, ho31⟩ := bind_some ho31
          refine q_vi (As := [.int x2_31]) (rest := []) ⟨hx, hb, hml, hown, hts⟩ (k_X6_cellAt l D g m_h e_h m_ce e_ce hz41) (cwV 1 hts gX6_filled_X6_cellAt rfl rfl rfl (by decide +kernel) ⟨Nat.le_of_ble_eq_true rfl, Nat.le_of_ble_eq_true rfl⟩) S m_h e_h (T := TX6) (N := 7) rfl rfl hl.1 rfl (Nat.le_of_ble_eq_true rfl) dX6_filled_41 ⟨Nat.le_of_ble_eq_true rfl, Nat.le_of_ble_eq_true rfl⟩ (fun r6 L4 f5 H locs S w41 => ?_)
          obtain ⟨ex41, eL, ef⟩ := w41
          rw [eL, ef] at S
          replace ex41 := ex41.symm
          subst ex41
          refine lv_if_le (tgt := 50) hx hb dX6_filled_44 (by decide) (fun b44 => ?_) (fun b44 => ?_)
          · have ho31 := itT b44 ho31
            refine lv_iinc (v := (x2_31 + 1)) (lv' := [(2, .int (x2_31 + 1)), (1, .int x1_31), (0, .ref h)]) hx hb dX6_filled_50 hl (k := 0) rfl rfl (by decide) rfl (fun ls hl => ?_)
            refine lv_goto (tgt := 31) hx hb dX6_filled_53 (by decide) ?_
            exact ih31 (x2_31 + 1) x1_31 _ _ _ ho31 S (lv_sub hl [0, 1, 2] rfl)
          · have ho31 := itF b44 ho31
            refine lv_iinc (v := (x1_31 + 1)) (lv' := [(1, .int (x1_31 + 1)), (2, .int x2_31), (0, .ref h)]) hx hb dX6_filled_47 hl (k := 1) rfl rfl (by decide) rfl (fun ls hl => ?_)
            refine lv_iinc (v := (x2_31 + 1)) (lv' := [(2, .int (x2_31 + 1)), (1, .int (x1_31 + 1)), (0, .ref h)]) hx hb dX6_filled_50 hl (k := 1) rfl rfl (by decide) rfl (fun ls hl => ?_)
            refine lv_goto (tgt := 31) hx hb dX6_filled_53 (by decide) ?_
            exact ih31 (x2_31 + 1) (x1_31 + 1) _ _ _ ho31 S (lv_sub hl [0, 1, 2] rfl)
    exact LP31 FU (0 : Int32) (0 : Int32) _ _ _ ho31 S (lv_sub hl [0, 1, 2] rfl)
  · have hM := itT b5 hM
    refine lv_aload_n hx hb dX6_filled_8 rfl (lv_at hl 0 rfl) ?_
    refine q_get hx hb hts in_X6 hown S m_h e_h (C := RX6) (T := TX6) (N := 7) rfl 2 (by decide) rfl (hts (.fieldLink RX6 44 "SieveCabinet$Sieve" "layers" "LSieveCabinet$Layers;") (gu_wsX6_filled_1 _ gm_1)) dX6_filled_9 ?_
    exact no_some hM

def mX6_beginLayeredL (kc : Nat → Int32) (kca : Nat → Int32) (rv : Nat → Int64) (lz : Nat → Int32) (ld : Nat → Nat → Int64) (n1 : Int32) (v1 : Nat → Int64) (n2 : Int32) (v2 : Nat → Int64) (n3 : Int32) (v3 : Nat → Int64) (nsd : Int32) : Option (Int32 × Int32 × Int32 × Int32 × (Nat → Int32) × Int32 × Int32 × Int32 × (Nat → Int32) × Int32 × (Nat → Int64) × (Nat → Int32) × (Nat → Nat → Int64)) := (mX3_build kca rv lz ld n1 v1 n2 v2 n3 v3 nsd).bind fun z27 => (mX3_count z27.1).bind fun z36 => (mX6_begin kc (4 : Int32) z36 (3 : Int32) nsd).bind fun z42 => some (z42.1, z42.2.1, z42.2.2.1, z42.2.2.2.1, z42.2.2.2.2.1, z42.2.2.2.2.2, z27.1, z27.2.1, z27.2.2.1, z27.2.2.2.1, z27.2.2.2.2.1, z27.2.2.2.2.2.1, z27.2.2.2.2.2.2)
set_option maxHeartbeats 4000000 in
set_option maxRecDepth 100000 in
theorem k_X6_beginLayeredL (l : Launch) (D : va_G) (g : Nat → ClassId) {L : List Nat} {f : Nat → va_E} {lb lw : Nat → Nat} {ca ce co cr h la o1 o2 o3 r1 r2 r3 re ro rr : Nat} {kd : Int32} {sz : Int32} {mk : Int32} {sd : Int32} {kc : Nat → Int32} {n : Int32} {lc : Int32} {lsd : Int32} {rf : Nat → Option Nat} {kca : Nat → Int32} {rn : Int32} {rv : Nat → Int64} {lz : Nat → Int32} {ld : Nat → Nat → Int64} {n1 : Int32} {v1 : Nat → Int64} {n2 : Int32} {v2 : Nat → Int64} {n3 : Int32} {v3 : Nat → Int64} {nsd : Int32} {z : Int32 × Int32 × Int32 × Int32 × (Nat → Int32) × Int32 × Int32 × Int32 × (Nat → Int32) × Int32 × (Nat → Int64) × (Nat → Int32) × (Nat → Nat → Int64)} (m_h : h ∈ L) (e_h : f h = .inr (4, [.ref ce, .ref co, .ref la, .int kd, .int sz, .int mk, .int sd])) (m_ce : ce ∈ L) (e_ce : f ce = .inl (g 0, 4096, .inl kc)) (m_co : co ∈ L) (e_co : f co = .inr (0, [.ref cr, .int n])) (m_la : la ∈ L) (e_la : f la = .inr (3, [.ref ro, .ref ca, .ref re, .int lc, .int lsd])) (m_ro : ro ∈ L) (e_ro : f ro = .inl (g 4, 20, .inr (.inr (.inr (.inr rf))))) (m_ca : ca ∈ L) (e_ca : f ca = .inl (g 0, 20, .inl kca)) (m_re : re ∈ L) (e_re : f re = .inr (0, [.ref rr, .int rn])) (m_rr : rr ∈ L) (e_rr : f rr = .inl (g 1, 1000, .inr (.inl rv))) (e_fam : LF g L f rf lb lw lz ld) (m_o1 : o1 ∈ L) (e_o1 : f o1 = .inr (0, [.ref r1, .int n1])) (m_r1 : r1 ∈ L) (e_r1 : f r1 = .inl (g 1, 1000, .inr (.inl v1))) (m_o2 : o2 ∈ L) (e_o2 : f o2 = .inr (0, [.ref r2, .int n2])) (m_r2 : r2 ∈ L) (e_r2 : f r2 = .inl (g 1, 1000, .inr (.inl v2))) (m_o3 : o3 ∈ L) (e_o3 : f o3 = .inr (0, [.ref r3, .int n3])) (m_r3 : r3 ∈ L) (e_r3 : f r3 = .inl (g 1, 1000, .inr (.inl v3))) (n_o1_re : o1 ≠ re) (n_o2_re : o2 ≠ re) (n_o3_re : o3 ≠ re) (n_o2_o3 : o2 ≠ o3) (n_rr_r3 : rr ≠ r3) (n_r2_r3 : r2 ≠ r3) (n_o1_o3 : o1 ≠ o3) (n_r1_r3 : r1 ≠ r3) (n_r1_rr : r1 ≠ rr) (n_r2_rr : r2 ≠ rr) (n_o1_o2 : o1 ≠ o2) (n_r1_r2 : r1 ≠ r2) (n_co_re : co ≠ re) (n_co_o1 : co ≠ o1) (n_co_o2 : co ≠ o2) (n_co_o3 : co ≠ o3)  (hdis : LD lb lw) (hM : mX6_beginLayeredL kc kca rv lz ld n1 v1 n2 v2 n3 v3 nsd = some z) : cV l yX6_beginLayered wsX6_beginLayered { frames := 5, cells := 0, slots := 0, locals := 127 } D g [.ref h, .ref o1, .ref o2, .ref o3, .int nsd] L f 0 0 (fun L1 f1 => L1 = L ∧ (∀ b, b ∈ L → b ≠ h → b ≠ ce → b ≠ co → b ≠ la → b ≠ ca → b ≠ re → b ≠ rr → (∀ j, j < 20 → b ≠ lb j ∧ b ≠ lw j) → b ≠ o1 → b ≠ r1 → b ≠ o2 → b ≠ r2 → b ≠ o3 → b ≠ r3 → f1 b = f b) ∧ f1 h = .inr (4, [.ref ce, .ref co, .ref la, .int z.1, .int z.2.1, .int z.2.2.1, .int z.2.2.2.1]) ∧ f1 ce = .inl (g 0, 4096, .inl z.2.2.2.2.1) ∧ f1 co = .inr (0, [.ref cr, .int z.2.2.2.2.2.1]) ∧ f1 la = .inr (3, [.ref ro, .ref ca, .ref re, .int z.2.2.2.2.2.2.1, .int z.2.2.2.2.2.2.2.1]) ∧ f1 ca = .inl (g 0, 20, .inl z.2.2.2.2.2.2.2.2.1) ∧ f1 re = .inr (0, [.ref rr, .int z.2.2.2.2.2.2.2.2.2.1]) ∧ f1 rr = .inl (g 1, 1000, .inr (.inl z.2.2.2.2.2.2.2.2.2.2.1)) ∧ LF g L f1 rf lb lw z.2.2.2.2.2.2.2.2.2.2.2.1 z.2.2.2.2.2.2.2.2.2.2.2.2 ∧ (∃ j1 : Int32, f1 o1 = .inr (0, [.ref r1, .int j1])) ∧ (∃ j0 : Nat → Int64, f1 r1 = .inl (g 1, 1000, .inr (.inl j0))) ∧ (∃ j1 : Int32, f1 o2 = .inr (0, [.ref r2, .int j1])) ∧ (∃ j0 : Nat → Int64, f1 r2 = .inl (g 1, 1000, .inr (.inl j0))) ∧ (∃ j1 : Int32, f1 o3 = .inr (0, [.ref r3, .int j1])) ∧ (∃ j0 : Nat → Int64, f1 r3 = .inl (g 1, 1000, .inr (.inl j0)))) := by
  refine cV_of (cc := cX6_beginLayered) (maxL := 5) (ret := none) (by decide) rfl (Nat.le_of_ble_eq_true rfl) ?_
  intro szz p e s m below meth c hx hb hr hml hts hown hlk hnm S ls hl
  have hl : lv_has ls 5 [(0, .ref h), (1, .ref o1), (2, .ref o2), (3, .ref o3), (4, .int nsd)] := hl
  have in_X6 : ∀ w ∈ wsX60, w ∈ wsX6_beginLayered := gu_wsX6_beginLayered_8
  have n_h_la : h ≠ la := ne_rr e_la e_h (by decide)
  have n_h_ca : h ≠ ca := ne_ir e_ca e_h
  have n_h_re : h ≠ re := ne_rr e_re e_h (by decide)
  have n_h_rr : h ≠ rr := ne_ir e_rr e_h
  have n_h_fam : ∀ j, j < 20 → h ≠ lb j ∧ h ≠ lw j := (fam_no e_fam e_h (by decide))
  have n_h_o1 : h ≠ o1 := ne_rr e_o1 e_h (by decide)
  have n_h_r1 : h ≠ r1 := ne_ir e_r1 e_h
  have n_h_o2 : h ≠ o2 := ne_rr e_o2 e_h (by decide)
  have n_h_r2 : h ≠ r2 := ne_ir e_r2 e_h
  have n_h_o3 : h ≠ o3 := ne_rr e_o3 e_h (by decide)
  have n_h_r3 : h ≠ r3 := ne_ir e_r3 e_h
  have n_ce_la : ce ≠ la := ne_ri e_la e_ce
  have n_ce_ca : ce ≠ ca := ne_len e_ca e_ce (by decide)
  have n_ce_re : ce ≠ re := ne_ri e_re e_ce
  have n_ce_rr : ce ≠ rr := ne_len e_rr e_ce (by decide)
  have n_ce_fam : ∀ j, j < 20 → ce ≠ lb j ∧ ce ≠ lw j := (fam_na e_fam e_ce (by decide))
  have n_ce_o1 : ce ≠ o1 := ne_ri e_o1 e_ce
  have n_ce_r1 : ce ≠ r1 := ne_len e_r1 e_ce (by decide)
  have n_ce_o2 : ce ≠ o2 := ne_ri e_o2 e_ce
  have n_ce_r2 : ce ≠ r2 := ne_len e_r2 e_ce (by decide)
  have n_ce_o3 : ce ≠ o3 := ne_ri e_o3 e_ce
  have n_ce_r3 : ce ≠ r3 := ne_len e_r3 e_ce (by decide)
  have n_co_la : co ≠ la := ne_rr e_la e_co (by decide)
  have n_co_ca : co ≠ ca := ne_ir e_ca e_co
  have n_co_rr : co ≠ rr := ne_ir e_rr e_co
  have n_co_fam : ∀ j, j < 20 → co ≠ lb j ∧ co ≠ lw j := (fam_no e_fam e_co (by decide))
  have n_co_r1 : co ≠ r1 := ne_ir e_r1 e_co
  have n_co_r2 : co ≠ r2 := ne_ir e_r2 e_co
  have n_co_r3 : co ≠ r3 := ne_ir e_r3 e_co
  have n_la_h : la ≠ h := ne_rr e_h e_la (by decide)
  have n_la_ce : la ≠ ce := ne_ir e_ce e_la
  have n_la_co : la ≠ co := ne_rr e_co e_la (by decide)
  have n_ca_h : ca ≠ h := ne_ri e_h e_ca
  have n_ca_ce : ca ≠ ce := ne_len e_ce e_ca (by decide)
  have n_ca_co : ca ≠ co := ne_ri e_co e_ca
  have n_re_h : re ≠ h := ne_rr e_h e_re (by decide)
  have n_re_ce : re ≠ ce := ne_ir e_ce e_re
  have n_re_co := Ne.symm n_co_re
  have n_rr_h : rr ≠ h := ne_ri e_h e_rr
  have n_rr_ce : rr ≠ ce := ne_len e_ce e_rr (by decide)
  have n_rr_co : rr ≠ co := ne_ri e_co e_rr
  have n_fam_h : ∀ j, j < 20 → lb j ≠ h ∧ lw j ≠ h := fam_sy (fam_no e_fam e_h (by decide))
  have n_fam_ce : ∀ j, j < 20 → lb j ≠ ce ∧ lw j ≠ ce := fam_sy (fam_na e_fam e_ce (by decide))
  have n_fam_co : ∀ j, j < 20 → lb j ≠ co ∧ lw j ≠ co := fam_sy (fam_no e_fam e_co (by decide))
  have n_o1_h : o1 ≠ h := ne_rr e_h e_o1 (by decide)
  have n_o1_ce : o1 ≠ ce := ne_ir e_ce e_o1
  have n_o1_co := Ne.symm n_co_o1
  have n_r1_h : r1 ≠ h := ne_ri e_h e_r1
  have n_r1_ce : r1 ≠ ce := ne_len e_ce e_r1 (by decide)
  have n_r1_co : r1 ≠ co := ne_ri e_co e_r1
  have n_o2_h : o2 ≠ h := ne_rr e_h e_o2 (by decide)
  have n_o2_ce : o2 ≠ ce := ne_ir e_ce e_o2
  have n_o2_co := Ne.symm n_co_o2
  have n_r2_h : r2 ≠ h := ne_ri e_h e_r2
  have n_r2_ce : r2 ≠ ce := ne_len e_ce e_r2 (by decide)
  have n_r2_co : r2 ≠ co := ne_ri e_co e_r2
  have n_o3_h : o3 ≠ h := ne_rr e_h e_o3 (by decide)
  have n_o3_ce : o3 ≠ ce := ne_ir e_ce e_o3
  have n_o3_co := Ne.symm n_co_o3
  have n_r3_h : r3 ≠ h := ne_ri e_h e_r3
  have n_r3_ce : r3 ≠ ce := ne_len e_ce e_r3 (by decide)
  have n_r3_co : r3 ≠ co := ne_ri e_co e_r3
  have fr : ∀ b, b ∈ L → b ≠ h → b ≠ ce → b ≠ co → b ≠ la → b ≠ ca → b ≠ re → b ≠ rr → (∀ j, j < 20 → b ≠ lb j ∧ b ≠ lw j) → b ≠ o1 → b ≠ r1 → b ≠ o2 → b ≠ r2 → b ≠ o3 → b ≠ r3 → f b = f b := fun _ _ _ _ _ _ _ _ _ _ _ _ _ _ _ _ => rfl
  unfold mX6_beginLayeredL at hM
  refine W_gen (fun QQ hQQ => ?_)
  refine lv_aload_n hx hb dX6_beginLayered_0 rfl (lv_at hl 0 rfl) ?_
  refine q_get hx hb hts in_X6 hown S m_h e_h (C := RX6) (T := TX6) (N := 7) rfl 2 (by decide) rfl (hts (.fieldLink RX6 44 "SieveCabinet$Sieve" "layers" "LSieveCabinet$Layers;") (gu_wsX6_beginLayered_1 _ gm_0)) dX6_beginLayered_1 ?_
  refine lv_ifnonnull (tgt := 18) hx hb dX6_beginLayered_4 (by decide) ?_
  refine lv_aload_n hx hb dX6_beginLayered_18 rfl (lv_at hl 0 rfl) ?_
  refine q_get hx hb hts in_X6 hown S m_h e_h (C := RX6) (T := TX6) (N := 7) rfl 2 (by decide) rfl (hts (.fieldLink RX6 44 "SieveCabinet$Sieve" "layers" "LSieveCabinet$Layers;") (gu_wsX6_beginLayered_1 _ gm_0)) dX6_beginLayered_19 ?_
  refine lv_aload_n hx hb dX6_beginLayered_22 rfl (lv_at hl 1 rfl) ?_
  refine lv_aload_n hx hb dX6_beginLayered_23 rfl (lv_at hl 2 rfl) ?_
  refine lv_aload_n hx hb dX6_beginLayered_24 rfl (lv_at hl 3 rfl) ?_
  refine lv_iload hx hb dX6_beginLayered_25 (lv_at hl 4 rfl) ?_
  obtain ⟨z27, hz27, hM⟩ := bind_some hM
  refine q_vv (As := [.ref o1, .ref o2, .ref o3, .int nsd]) (rest := []) ⟨hx, hb, hml, hown, hts⟩ (k_X3_build l D g m_la e_la m_ro e_ro m_ca e_ca m_re e_re m_rr e_rr e_fam m_o1 e_o1 m_r1 e_r1 m_o2 e_o2 m_r2 e_r2 m_o3 e_o3 m_r3 e_r3 n_o1_re n_o2_re n_o3_re n_o2_o3 n_rr_r3 n_r2_r3 n_o1_o3 n_r1_r3 n_r1_rr n_r2_rr n_o1_o2 n_r1_r2 hdis hz27) (cwV 4 hts gX6_beginLayered_X3_build rfl rfl rfl (by decide +kernel) ⟨Nat.le_of_ble_eq_true rfl, Nat.le_of_ble_eq_true rfl⟩) S m_la e_la (T := TX3) (N := 5) rfl rfl hl.1 rfl (Nat.le_of_ble_eq_true rfl) dX6_beginLayered_27 ⟨Nat.le_of_ble_eq_true rfl, Nat.le_of_ble_eq_true rfl⟩ (fun L1 f2 H locs S w27 => ?_)
  obtain ⟨eL, fv27, E_la, E_ca, E_re, E_rr, E_fam, ⟨jk_o1_27, E_o1⟩, ⟨jk_r1_27, E_r1⟩, ⟨jk_o2_27, E_o2⟩, ⟨jk_r2_27, E_r2⟩, ⟨jk_o3_27, E_o3⟩, ⟨jk_r3_27, E_r3⟩⟩ := w27
  rw [eL] at S
  have fr : ∀ b, b ∈ L → b ≠ h → b ≠ ce → b ≠ co → b ≠ la → b ≠ ca → b ≠ re → b ≠ rr → (∀ j, j < 20 → b ≠ lb j ∧ b ≠ lw j) → b ≠ o1 → b ≠ r1 → b ≠ o2 → b ≠ r2 → b ≠ o3 → b ≠ r3 → f2 b = f b := fun b mb nb0 nb1 nb2 nb3 nb4 nb5 nb6 nb7 nb8 nb9 nb10 nb11 nb12 nb13 => (fv27 b mb nb3 nb4 nb5 nb6 nb7 nb8 nb9 nb10 nb11 nb12 nb13).trans (fr b mb nb0 nb1 nb2 nb3 nb4 nb5 nb6 nb7 nb8 nb9 nb10 nb11 nb12 nb13)
  have e_la : f2 la = .inr (3, [.ref ro, .ref ca, .ref re, .int z27.1, .int z27.2.1]) := E_la
  have e_ca : f2 ca = .inl (g 0, 20, .inl z27.2.2.1) := E_ca
  have e_re : f2 re = .inr (0, [.ref rr, .int z27.2.2.2.1]) := E_re
  have e_rr : f2 rr = .inl (g 1, 1000, .inr (.inl z27.2.2.2.2.1)) := E_rr
  have e_fam : LF g L f2 rf lb lw z27.2.2.2.2.2.1 z27.2.2.2.2.2.2 := E_fam
  have e_o1 : f2 o1 = .inr (0, [.ref r1, .int jk_o1_27]) := E_o1
  have e_r1 : f2 r1 = .inl (g 1, 1000, .inr (.inl jk_r1_27)) := E_r1
  have e_o2 : f2 o2 = .inr (0, [.ref r2, .int jk_o2_27]) := E_o2
  have e_r2 : f2 r2 = .inl (g 1, 1000, .inr (.inl jk_r2_27)) := E_r2
  have e_o3 : f2 o3 = .inr (0, [.ref r3, .int jk_o3_27]) := E_o3
  have e_r3 : f2 r3 = .inl (g 1, 1000, .inr (.inl jk_r3_27)) := E_r3
  refine lv_aload_n hx hb dX6_beginLayered_30 rfl (lv_at hl 0 rfl) ?_
  refine lv_iconst (v := (4 : Int32)) hx hb dX6_beginLayered_31 (by decide) ?_
  refine lv_aload_n hx hb dX6_beginLayered_32 rfl (lv_at hl 0 rfl) ?_
  have e_h := ((fv27 h m_h n_h_la n_h_ca n_h_re n_h_rr n_h_fam n_h_o1 n_h_r1 n_h_o2 n_h_r2 n_h_o3 n_h_r3).trans e_h)
  refine q_get hx hb hts in_X6 hown S m_h e_h (C := RX6) (T := TX6) (N := 7) rfl 2 (by decide) rfl (hts (.fieldLink RX6 44 "SieveCabinet$Sieve" "layers" "LSieveCabinet$Layers;") (gu_wsX6_beginLayered_1 _ gm_0)) dX6_beginLayered_33 ?_
  obtain ⟨z36, hz36, hM⟩ := bind_some hM
  refine q_vi (As := []) (rest := [.int (4 : Int32), .ref h]) ⟨hx, hb, hml, hown, hts⟩ (k_X3_count l D g m_la e_la hz36) (cwV 0 hts gX6_beginLayered_X3_count rfl rfl rfl (by decide +kernel) ⟨Nat.le_of_ble_eq_true rfl, Nat.le_of_ble_eq_true rfl⟩) S m_la e_la (T := TX3) (N := 5) rfl rfl hl.1 rfl (Nat.le_of_ble_eq_true rfl) dX6_beginLayered_36 ⟨Nat.le_of_ble_eq_true rfl, Nat.le_of_ble_eq_true rfl⟩ (fun r6 L4 f5 H locs S w36 => ?_)
  obtain ⟨ex36, eL, ef⟩ := w36
  rw [eL, ef] at S
  replace ex36 := ex36.symm
  subst ex36
  refine lv_iconst (v := (3 : Int32)) hx hb dX6_beginLayered_39 (by decide) ?_
  refine lv_iload hx hb dX6_beginLayered_40 (lv_at hl 4 rfl) ?_
  obtain ⟨z42, hz42, hM⟩ := bind_some hM
  have e_ce := ((fv27 ce m_ce n_ce_la n_ce_ca n_ce_re n_ce_rr n_ce_fam n_ce_o1 n_ce_r1 n_ce_o2 n_ce_r2 n_ce_o3 n_ce_r3).trans e_ce)
  have e_co := ((fv27 co m_co n_co_la n_co_ca n_co_re n_co_rr n_co_fam n_co_o1 n_co_r1 n_co_o2 n_co_r2 n_co_o3 n_co_r3).trans e_co)
  refine q_vv (As := [.int (4 : Int32), .int z36, .int (3 : Int32), .int nsd]) (rest := []) ⟨hx, hb, hml, hown, hts⟩ (k_X6_begin l D g m_h e_h m_ce e_ce m_co e_co hz42) (cwV 4 hts gX6_beginLayered_X6_begin rfl rfl rfl (by decide +kernel) ⟨Nat.le_of_ble_eq_true rfl, Nat.le_of_ble_eq_true rfl⟩) S m_h e_h (T := TX6) (N := 7) rfl rfl hl.1 rfl (Nat.le_of_ble_eq_true rfl) dX6_beginLayered_42 ⟨Nat.le_of_ble_eq_true rfl, Nat.le_of_ble_eq_true rfl⟩ (fun L7 f8 H locs S w42 => ?_)
  obtain ⟨eL, fv42, E_h, E_ce, E_co⟩ := w42
  rw [eL] at S
  have fr : ∀ b, b ∈ L → b ≠ h → b ≠ ce → b ≠ co → b ≠ la → b ≠ ca → b ≠ re → b ≠ rr → (∀ j, j < 20 → b ≠ lb j ∧ b ≠ lw j) → b ≠ o1 → b ≠ r1 → b ≠ o2 → b ≠ r2 → b ≠ o3 → b ≠ r3 → f8 b = f b := fun b mb nb0 nb1 nb2 nb3 nb4 nb5 nb6 nb7 nb8 nb9 nb10 nb11 nb12 nb13 => (fv42 b mb nb0 nb1 nb2).trans (fr b mb nb0 nb1 nb2 nb3 nb4 nb5 nb6 nb7 nb8 nb9 nb10 nb11 nb12 nb13)
  have e_h : f8 h = .inr (4, [.ref ce, .ref co, .ref la, .int z42.1, .int z42.2.1, .int z42.2.2.1, .int z42.2.2.2.1]) := E_h
  have e_ce : f8 ce = .inl (g 0, 4096, .inl z42.2.2.2.2.1) := E_ce
  have e_co : f8 co = .inr (0, [.ref cr, .int z42.2.2.2.2.2]) := E_co
  have e_la := ((fv42 la m_la n_la_h n_la_ce n_la_co).trans e_la)
  have e_ca := ((fv42 ca m_ca n_ca_h n_ca_ce n_ca_co).trans e_ca)
  have e_re := ((fv42 re m_re n_re_h n_re_ce n_re_co).trans e_re)
  have e_rr := ((fv42 rr m_rr n_rr_h n_rr_ce n_rr_co).trans e_rr)
  have e_fam := (LF_ext e_fam (fun j hj q1 q2 => ⟨fv42 (lb j) q1 (n_fam_h j hj).1 (n_fam_ce j hj).1 (n_fam_co j hj).1, fv42 (lw j) q2 (n_fam_h j hj).2 (n_fam_ce j hj).2 (n_fam_co j hj).2⟩))
  have e_o1 := ((fv42 o1 m_o1 n_o1_h n_o1_ce n_o1_co).trans e_o1)
  have e_r1 := ((fv42 r1 m_r1 n_r1_h n_r1_ce n_r1_co).trans e_r1)
  have e_o2 := ((fv42 o2 m_o2 n_o2_h n_o2_ce n_o2_co).trans e_o2)
  have e_r2 := ((fv42 r2 m_r2 n_r2_h n_r2_ce n_r2_co).trans e_r2)
  have e_o3 := ((fv42 o3 m_o3 n_o3_h n_o3_ce n_o3_co).trans e_o3)
  have e_r3 := ((fv42 r3 m_r3 n_r3_h n_r3_ce n_r3_co).trans e_r3)
  subst hQQ
  exact q_retv (post := fun L1 f1 => L1 = L ∧ (∀ b, b ∈ L → b ≠ h → b ≠ ce → b ≠ co → b ≠ la → b ≠ ca → b ≠ re → b ≠ rr → (∀ j, j < 20 → b ≠ lb j ∧ b ≠ lw j) → b ≠ o1 → b ≠ r1 → b ≠ o2 → b ≠ r2 → b ≠ o3 → b ≠ r3 → f1 b = f b) ∧ f1 h = .inr (4, [.ref ce, .ref co, .ref la, .int z.1, .int z.2.1, .int z.2.2.1, .int z.2.2.2.1]) ∧ f1 ce = .inl (g 0, 4096, .inl z.2.2.2.2.1) ∧ f1 co = .inr (0, [.ref cr, .int z.2.2.2.2.2.1]) ∧ f1 la = .inr (3, [.ref ro, .ref ca, .ref re, .int z.2.2.2.2.2.2.1, .int z.2.2.2.2.2.2.2.1]) ∧ f1 ca = .inl (g 0, 20, .inl z.2.2.2.2.2.2.2.2.1) ∧ f1 re = .inr (0, [.ref rr, .int z.2.2.2.2.2.2.2.2.2.1]) ∧ f1 rr = .inl (g 1, 1000, .inr (.inl z.2.2.2.2.2.2.2.2.2.2.1)) ∧ LF g L f1 rf lb lw z.2.2.2.2.2.2.2.2.2.2.2.1 z.2.2.2.2.2.2.2.2.2.2.2.2 ∧ (∃ j1 : Int32, f1 o1 = .inr (0, [.ref r1, .int j1])) ∧ (∃ j0 : Nat → Int64, f1 r1 = .inl (g 1, 1000, .inr (.inl j0))) ∧ (∃ j1 : Int32, f1 o2 = .inr (0, [.ref r2, .int j1])) ∧ (∃ j0 : Nat → Int64, f1 r2 = .inl (g 1, 1000, .inr (.inl j0))) ∧ (∃ j1 : Int32, f1 o3 = .inr (0, [.ref r3, .int j1])) ∧ (∃ j0 : Nat → Int64, f1 r3 = .inl (g 1, 1000, .inr (.inl j0)))) hx hb hr hlk S dX6_beginLayered_45 (by decide) (by decide) (by have hz := Option.some.inj hM; subst hz; exact ⟨rfl, fr, e_h, e_ce, e_co, e_la, e_ca, e_re, e_rr, e_fam, ⟨_, e_o1⟩, ⟨_, e_r1⟩, ⟨_, e_o2⟩, ⟨_, e_r2⟩, ⟨_, e_o3⟩, ⟨_, e_r3⟩⟩)

def mX6_beginLayeredN (kc : Nat → Int32) (n1 : Int32) (v1 : Nat → Int64) (n2 : Int32) (v2 : Nat → Int64) (n3 : Int32) (v3 : Nat → Int64) (nsd : Int32) : Option (Int32 × Int32 × Int32 × Int32 × (Nat → Int32) × Int32 × Int32 × Int32 × (Nat → Int32) × Int32 × (Nat → Int64) × (Nat → Int32) × (Nat → Nat → Int64)) := (mX3_build (fun _ => 0) (fun _ => 0) (fun _ => 0) (fun _ _ => 0) n1 v1 n2 v2 n3 v3 nsd).bind fun z27 => (mX3_count z27.1).bind fun z36 => (mX6_begin kc (4 : Int32) z36 (3 : Int32) nsd).bind fun z42 => some (z42.1, z42.2.1, z42.2.2.1, z42.2.2.2.1, z42.2.2.2.2.1, z42.2.2.2.2.2, z27.1, z27.2.1, z27.2.2.1, z27.2.2.2.1, z27.2.2.2.2.1, z27.2.2.2.2.2.1, z27.2.2.2.2.2.2)
set_option maxHeartbeats 4000000 in
set_option maxRecDepth 100000 in
theorem k_X6_beginLayeredN (l : Launch) (D : va_G) (g : Nat → ClassId) {L : List Nat} {f : Nat → va_E} {ce co cr h o1 o2 o3 r1 r2 r3 : Nat} {kd : Int32} {sz : Int32} {mk : Int32} {sd : Int32} {kc : Nat → Int32} {n : Int32} {v : Nat → Int64} {n1 : Int32} {v1 : Nat → Int64} {n2 : Int32} {v2 : Nat → Int64} {n3 : Int32} {v3 : Nat → Int64} {nsd : Int32} {z : Int32 × Int32 × Int32 × Int32 × (Nat → Int32) × Int32 × Int32 × Int32 × (Nat → Int32) × Int32 × (Nat → Int64) × (Nat → Int32) × (Nat → Nat → Int64)} (m_h : h ∈ L) (e_h : f h = .inr (4, [.ref ce, .ref co, .null, .int kd, .int sz, .int mk, .int sd])) (m_ce : ce ∈ L) (e_ce : f ce = .inl (g 0, 4096, .inl kc)) (m_co : co ∈ L) (e_co : f co = .inr (0, [.ref cr, .int n])) (m_cr : cr ∈ L) (e_cr : f cr = .inl (g 1, 1000, .inr (.inl v))) (m_o1 : o1 ∈ L) (e_o1 : f o1 = .inr (0, [.ref r1, .int n1])) (m_r1 : r1 ∈ L) (e_r1 : f r1 = .inl (g 1, 1000, .inr (.inl v1))) (m_o2 : o2 ∈ L) (e_o2 : f o2 = .inr (0, [.ref r2, .int n2])) (m_r2 : r2 ∈ L) (e_r2 : f r2 = .inl (g 1, 1000, .inr (.inl v2))) (m_o3 : o3 ∈ L) (e_o3 : f o3 = .inr (0, [.ref r3, .int n3])) (m_r3 : r3 ∈ L) (e_r3 : f r3 = .inl (g 1, 1000, .inr (.inl v3))) (n_o2_o3 : o2 ≠ o3) (n_r2_r3 : r2 ≠ r3) (n_o1_o3 : o1 ≠ o3) (n_r1_r3 : r1 ≠ r3) (n_o1_o2 : o1 ≠ o2) (n_r1_r2 : r1 ≠ r2) (n_co_o1 : co ≠ o1) (n_co_o2 : co ≠ o2) (n_co_o3 : co ≠ o3)   (hM : mX6_beginLayeredN kc n1 v1 n2 v2 n3 v3 nsd = some z) : cV l yX6_beginLayered wsX6_beginLayered { frames := 5, cells := 45, slots := 2367, locals := 127 } D g [.ref h, .ref o1, .ref o2, .ref o3, .int nsd] L f 45 2367 (fun L1 f1 => ∃ q8 : Nat, ∃ ca : Nat, ∃ re : Nat, ∃ rr : Nat, ∃ ro : Nat, ∃ lb lw : Nat → Nat, ∃ rf : Nat → Option Nat, (∀ b, b ∈ L → b ∈ L1) ∧ (∀ b, b ∈ L → b ≠ h → b ≠ ce → b ≠ co → b ≠ o1 → b ≠ r1 → b ≠ o2 → b ≠ r2 → b ≠ o3 → b ≠ r3 → f1 b = f b) ∧ f1 h = .inr (4, [.ref ce, .ref co, .ref q8, .int z.1, .int z.2.1, .int z.2.2.1, .int z.2.2.2.1]) ∧ f1 ce = .inl (g 0, 4096, .inl z.2.2.2.2.1) ∧ f1 co = .inr (0, [.ref cr, .int z.2.2.2.2.2.1]) ∧ (∃ j1 : Int32, f1 o1 = .inr (0, [.ref r1, .int j1])) ∧ (∃ j0 : Nat → Int64, f1 r1 = .inl (g 1, 1000, .inr (.inl j0))) ∧ (∃ j1 : Int32, f1 o2 = .inr (0, [.ref r2, .int j1])) ∧ (∃ j0 : Nat → Int64, f1 r2 = .inl (g 1, 1000, .inr (.inl j0))) ∧ (∃ j1 : Int32, f1 o3 = .inr (0, [.ref r3, .int j1])) ∧ (∃ j0 : Nat → Int64, f1 r3 = .inl (g 1, 1000, .inr (.inl j0))) ∧ (q8 ∉ L ∧ q8 ∈ L1 ∧ f1 q8 = .inr (3, [.ref ro, .ref ca, .ref re, .int z.2.2.2.2.2.2.1, .int z.2.2.2.2.2.2.2.1])) ∧ (ca ∉ L ∧ ca ∈ L1 ∧ f1 ca = .inl (g 0, 20, .inl z.2.2.2.2.2.2.2.2.1)) ∧ (re ∉ L ∧ re ∈ L1 ∧ f1 re = .inr (0, [.ref rr, .int z.2.2.2.2.2.2.2.2.2.1])) ∧ (rr ∉ L ∧ rr ∈ L1 ∧ f1 rr = .inl (g 1, 1000, .inr (.inl z.2.2.2.2.2.2.2.2.2.2.1))) ∧ (ro ∉ L ∧ ro ∈ L1 ∧ f1 ro = .inl (g 4, 20, .inr (.inr (.inr (.inr rf))))) ∧ (LF g L1 f1 rf lb lw z.2.2.2.2.2.2.2.2.2.2.2.1 z.2.2.2.2.2.2.2.2.2.2.2.2 ∧ LD lb lw ∧ ∀ j, j < 20 → lb j ∉ L ∧ lw j ∉ L)) := by
  refine cV_of (cc := cX6_beginLayered) (maxL := 5) (ret := none) (by decide) rfl (Nat.le_of_ble_eq_true rfl) ?_
  intro szz p e s m below meth c hx hb hr hml hts hown hlk hnm S ls hl
  have hl : lv_has ls 5 [(0, .ref h), (1, .ref o1), (2, .ref o2), (3, .ref o3), (4, .int nsd)] := hl
  have in_X3 : ∀ w ∈ wsX30, w ∈ wsX6_beginLayered := gu_wsX6_beginLayered_9
  have in_X6 : ∀ w ∈ wsX60, w ∈ wsX6_beginLayered := gu_wsX6_beginLayered_8
  have n_o1_h : o1 ≠ h := ne_rr e_h e_o1 (by decide)
  have n_r1_h : r1 ≠ h := ne_ri e_h e_r1
  have n_o2_h : o2 ≠ h := ne_rr e_h e_o2 (by decide)
  have n_r2_h : r2 ≠ h := ne_ri e_h e_r2
  have n_o3_h : o3 ≠ h := ne_rr e_h e_o3 (by decide)
  have n_r3_h : r3 ≠ h := ne_ri e_h e_r3
  have n_h_o1 : h ≠ o1 := ne_rr e_o1 e_h (by decide)
  have n_h_r1 : h ≠ r1 := ne_ir e_r1 e_h
  have n_h_o2 : h ≠ o2 := ne_rr e_o2 e_h (by decide)
  have n_h_r2 : h ≠ r2 := ne_ir e_r2 e_h
  have n_h_o3 : h ≠ o3 := ne_rr e_o3 e_h (by decide)
  have n_h_r3 : h ≠ r3 := ne_ir e_r3 e_h
  have n_ce_h : ce ≠ h := ne_ri e_h e_ce
  have n_ce_o1 : ce ≠ o1 := ne_ri e_o1 e_ce
  have n_ce_r1 : ce ≠ r1 := ne_len e_r1 e_ce (by decide)
  have n_ce_o2 : ce ≠ o2 := ne_ri e_o2 e_ce
  have n_ce_r2 : ce ≠ r2 := ne_len e_r2 e_ce (by decide)
  have n_ce_o3 : ce ≠ o3 := ne_ri e_o3 e_ce
  have n_ce_r3 : ce ≠ r3 := ne_len e_r3 e_ce (by decide)
  have n_co_h : co ≠ h := ne_rr e_h e_co (by decide)
  have n_co_r1 : co ≠ r1 := ne_ir e_r1 e_co
  have n_co_r2 : co ≠ r2 := ne_ir e_r2 e_co
  have n_co_r3 : co ≠ r3 := ne_ir e_r3 e_co
  have n_o1_ce : o1 ≠ ce := ne_ir e_ce e_o1
  have n_o1_co := Ne.symm n_co_o1
  have n_r1_ce : r1 ≠ ce := ne_len e_ce e_r1 (by decide)
  have n_r1_co : r1 ≠ co := ne_ri e_co e_r1
  have n_o2_ce : o2 ≠ ce := ne_ir e_ce e_o2
  have n_o2_co := Ne.symm n_co_o2
  have n_r2_ce : r2 ≠ ce := ne_len e_ce e_r2 (by decide)
  have n_r2_co : r2 ≠ co := ne_ri e_co e_r2
  have n_o3_ce : o3 ≠ ce := ne_ir e_ce e_o3
  have n_o3_co := Ne.symm n_co_o3
  have n_r3_ce : r3 ≠ ce := ne_len e_ce e_r3 (by decide)
  have n_r3_co : r3 ≠ co := ne_ri e_co e_r3
  have fr : ∀ b, b ∈ L → b ≠ h → b ≠ ce → b ≠ co → b ≠ o1 → b ≠ r1 → b ≠ o2 → b ≠ r2 → b ≠ o3 → b ≠ r3 → f b = f b := fun _ _ _ _ _ _ _ _ _ _ _ => rfl
  have mono : ∀ b, b ∈ L → b ∈ L := fun _ h => h
  unfold mX6_beginLayeredN at hM
  refine W_gen (fun QQ hQQ => ?_)
  refine lv_aload_n hx hb dX6_beginLayered_0 rfl (lv_at hl 0 rfl) ?_
  refine q_get hx hb hts in_X6 hown S m_h e_h (C := RX6) (T := TX6) (N := 7) rfl 2 (by decide) rfl (hts (.fieldLink RX6 44 "SieveCabinet$Sieve" "layers" "LSieveCabinet$Layers;") (gu_wsX6_beginLayered_1 _ gm_0)) dX6_beginLayered_1 ?_
  refine lv_ifnonnullN hx hb dX6_beginLayered_4 ?_
  refine lv_aload_n hx hb dX6_beginLayered_7 rfl (lv_at hl 0 rfl) ?_
  refine q_new (fs := [.null, .null, .null, .int 0, .int 0]) (C := RX3) (T := TX3) (N := 5) (ci := 3) hx hb hts in_X3 tyX3 tyX3_ok hown (hts (.classLink RX6 48 RX3) (gu_wsX6_beginLayered_1 _ gm_1)) (hts (.instantiable RX3 5) (gu_wsX6_beginLayered_1 _ gm_2)) (hts (.initialized RX3) (gu_wsX6_beginLayered_1 _ gm_3)) S rfl (fun j hj => by rcases (show j = 0 ∨ j = 1 ∨ j = 2 ∨ j = 3 ∨ j = 4 by omega) with rfl | rfl | rfl | rfl | rfl <;> rfl) (Nat.le_of_ble_eq_true rfl) (Nat.le_of_ble_eq_true rfl) dX6_beginLayered_8 (fun q8 H nq8 S => ?_)
  refine W.widen (k := 1) (n := 5) (by decide) (by decide) ?_
  obtain ⟨f1, ef1⟩ : ∃ z_, z_ = va_up f q8 (.inr (3, [.null, .null, .null, .int 0, .int 0])) := ⟨_, rfl⟩
  obtain ⟨L2, eL2⟩ : ∃ z_, z_ = L ++ [q8] := ⟨_, rfl⟩
  rw [← ef1, ← eL2] at S
  have n_h_q8 : h ≠ q8 := fun h => nq8 (h ▸ m_h)
  have n_q8_h : q8 ≠ h := Ne.symm n_h_q8
  have n_ce_q8 : ce ≠ q8 := fun h => nq8 (h ▸ m_ce)
  have n_q8_ce : q8 ≠ ce := Ne.symm n_ce_q8
  have n_co_q8 : co ≠ q8 := fun h => nq8 (h ▸ m_co)
  have n_q8_co : q8 ≠ co := Ne.symm n_co_q8
  have n_cr_q8 : cr ≠ q8 := fun h => nq8 (h ▸ m_cr)
  have n_q8_cr : q8 ≠ cr := Ne.symm n_cr_q8
  have n_o1_q8 : o1 ≠ q8 := fun h => nq8 (h ▸ m_o1)
  have n_q8_o1 : q8 ≠ o1 := Ne.symm n_o1_q8
  have n_r1_q8 : r1 ≠ q8 := fun h => nq8 (h ▸ m_r1)
  have n_q8_r1 : q8 ≠ r1 := Ne.symm n_r1_q8
  have n_o2_q8 : o2 ≠ q8 := fun h => nq8 (h ▸ m_o2)
  have n_q8_o2 : q8 ≠ o2 := Ne.symm n_o2_q8
  have n_r2_q8 : r2 ≠ q8 := fun h => nq8 (h ▸ m_r2)
  have n_q8_r2 : q8 ≠ r2 := Ne.symm n_r2_q8
  have n_o3_q8 : o3 ≠ q8 := fun h => nq8 (h ▸ m_o3)
  have n_q8_o3 : q8 ≠ o3 := Ne.symm n_o3_q8
  have n_r3_q8 : r3 ≠ q8 := fun h => nq8 (h ▸ m_r3)
  have n_q8_r3 : q8 ≠ r3 := Ne.symm n_r3_q8
  have m_h : h ∈ L2 := by rw [eL2]; exact List.mem_append_left _ m_h
  have m_ce : ce ∈ L2 := by rw [eL2]; exact List.mem_append_left _ m_ce
  have m_co : co ∈ L2 := by rw [eL2]; exact List.mem_append_left _ m_co
  have m_cr : cr ∈ L2 := by rw [eL2]; exact List.mem_append_left _ m_cr
  have m_o1 : o1 ∈ L2 := by rw [eL2]; exact List.mem_append_left _ m_o1
  have m_r1 : r1 ∈ L2 := by rw [eL2]; exact List.mem_append_left _ m_r1
  have m_o2 : o2 ∈ L2 := by rw [eL2]; exact List.mem_append_left _ m_o2
  have m_r2 : r2 ∈ L2 := by rw [eL2]; exact List.mem_append_left _ m_r2
  have m_o3 : o3 ∈ L2 := by rw [eL2]; exact List.mem_append_left _ m_o3
  have m_r3 : r3 ∈ L2 := by rw [eL2]; exact List.mem_append_left _ m_r3
  have nz_q8 : q8 ∉ L := nq8
  have mono : ∀ b, b ∈ L → b ∈ L2 := fun b h => by rw [eL2]; exact List.mem_append_left _ (h)
  have m_q8 : q8 ∈ L2 := by rw [eL2]; simp
  have fr : ∀ b, b ∈ L → b ≠ h → b ≠ ce → b ≠ co → b ≠ o1 → b ≠ r1 → b ≠ o2 → b ≠ r2 → b ≠ o3 → b ≠ r3 → f1 b = f b := fun b mb nb0 nb1 nb2 nb3 nb4 nb5 nb6 nb7 nb8 => (up_ne ef1 (fun h_ => nz_q8 (h_ ▸ mb)) rfl).trans (fr b mb nb0 nb1 nb2 nb3 nb4 nb5 nb6 nb7 nb8)
  have e_q8 : f1 q8 = .inr (3, [.null, .null, .null, .int 0, .int 0]) := up_self ef1
  refine lv_dup hx hb dX6_beginLayered_11 rfl ?_
  refine q_iv (As := []) (rest := [.ref q8, .ref h]) ⟨hx, hb, hml, hown, hts⟩ (c_X3_initF l D g m_q8 e_q8) (cwI 0 hts gX6_beginLayered_X3_init rfl rfl rfl (hts (.initialized RX3) (gu_wsX6_beginLayered_1 _ gm_3)) (hts (.methodLink RX6 50 yX3_init) (gu_wsX6_beginLayered_1 _ gm_4)) (hts (.instanceMethod yX3_init) (gu_wsX6_beginLayered_1 _ gm_5)) rfl (by decide +kernel) ⟨Nat.le_of_ble_eq_true rfl, Nat.le_of_ble_eq_true rfl⟩) S rfl hl.1 rfl (Nat.le_of_ble_eq_true rfl) dX6_beginLayered_12 ⟨Nat.le_of_ble_eq_true rfl, Nat.le_of_ble_eq_true rfl⟩ (fun L3 f4 H locs S w12 => ?_)
  refine W.widen (k := 45) (n := 2367) (by decide) (by decide) ?_
  obtain ⟨ca, re, rr, ro, rf, mo, fv, ⟨nq_ca, mq_ca, E_ca⟩, ⟨nq_re, mq_re, E_re⟩, ⟨nq_rr, mq_rr, E_rr⟩, ⟨nq_ro, mq_ro, E_ro⟩, E_, lb, lw, e_fam, hdis, hnf⟩ := w12
  have mono0 := mono
  have e_h := (up_ne ef1 n_h_q8 e_h)
  have e_h := (fv h m_h n_h_q8).trans e_h
  have e_ce := (up_ne ef1 n_ce_q8 e_ce)
  have e_ce := (fv ce m_ce n_ce_q8).trans e_ce
  have e_co := (up_ne ef1 n_co_q8 e_co)
  have e_co := (fv co m_co n_co_q8).trans e_co
  have e_cr := (up_ne ef1 n_cr_q8 e_cr)
  have e_cr := (fv cr m_cr n_cr_q8).trans e_cr
  have e_o1 := (up_ne ef1 n_o1_q8 e_o1)
  have e_o1 := (fv o1 m_o1 n_o1_q8).trans e_o1
  have e_r1 := (up_ne ef1 n_r1_q8 e_r1)
  have e_r1 := (fv r1 m_r1 n_r1_q8).trans e_r1
  have e_o2 := (up_ne ef1 n_o2_q8 e_o2)
  have e_o2 := (fv o2 m_o2 n_o2_q8).trans e_o2
  have e_r2 := (up_ne ef1 n_r2_q8 e_r2)
  have e_r2 := (fv r2 m_r2 n_r2_q8).trans e_r2
  have e_o3 := (up_ne ef1 n_o3_q8 e_o3)
  have e_o3 := (fv o3 m_o3 n_o3_q8).trans e_o3
  have e_r3 := (up_ne ef1 n_r3_q8 e_r3)
  have e_r3 := (fv r3 m_r3 n_r3_q8).trans e_r3
  have fr : ∀ b, b ∈ L → b ≠ h → b ≠ ce → b ≠ co → b ≠ o1 → b ≠ r1 → b ≠ o2 → b ≠ r2 → b ≠ o3 → b ≠ r3 → f4 b = f b := fun b mb nb0 nb1 nb2 nb3 nb4 nb5 nb6 nb7 nb8 => (fv b (mono0 b mb) (fun h_ => nz_q8 (h_ ▸ mb))).trans (fr b mb nb0 nb1 nb2 nb3 nb4 nb5 nb6 nb7 nb8)
  have n_h_fam : ∀ j, j < 20 → h ≠ lb j ∧ h ≠ lw j := fun j hj => ⟨fun h => (hnf j hj).1 (h ▸ m_h), fun h => (hnf j hj).2 (h ▸ m_h)⟩
  have n_ce_fam : ∀ j, j < 20 → ce ≠ lb j ∧ ce ≠ lw j := fun j hj => ⟨fun h => (hnf j hj).1 (h ▸ m_ce), fun h => (hnf j hj).2 (h ▸ m_ce)⟩
  have n_co_fam : ∀ j, j < 20 → co ≠ lb j ∧ co ≠ lw j := fun j hj => ⟨fun h => (hnf j hj).1 (h ▸ m_co), fun h => (hnf j hj).2 (h ▸ m_co)⟩
  have n_cr_fam : ∀ j, j < 20 → cr ≠ lb j ∧ cr ≠ lw j := fun j hj => ⟨fun h => (hnf j hj).1 (h ▸ m_cr), fun h => (hnf j hj).2 (h ▸ m_cr)⟩
  have n_o1_fam : ∀ j, j < 20 → o1 ≠ lb j ∧ o1 ≠ lw j := fun j hj => ⟨fun h => (hnf j hj).1 (h ▸ m_o1), fun h => (hnf j hj).2 (h ▸ m_o1)⟩
  have n_r1_fam : ∀ j, j < 20 → r1 ≠ lb j ∧ r1 ≠ lw j := fun j hj => ⟨fun h => (hnf j hj).1 (h ▸ m_r1), fun h => (hnf j hj).2 (h ▸ m_r1)⟩
  have n_o2_fam : ∀ j, j < 20 → o2 ≠ lb j ∧ o2 ≠ lw j := fun j hj => ⟨fun h => (hnf j hj).1 (h ▸ m_o2), fun h => (hnf j hj).2 (h ▸ m_o2)⟩
  have n_r2_fam : ∀ j, j < 20 → r2 ≠ lb j ∧ r2 ≠ lw j := fun j hj => ⟨fun h => (hnf j hj).1 (h ▸ m_r2), fun h => (hnf j hj).2 (h ▸ m_r2)⟩
  have n_o3_fam : ∀ j, j < 20 → o3 ≠ lb j ∧ o3 ≠ lw j := fun j hj => ⟨fun h => (hnf j hj).1 (h ▸ m_o3), fun h => (hnf j hj).2 (h ▸ m_o3)⟩
  have n_r3_fam : ∀ j, j < 20 → r3 ≠ lb j ∧ r3 ≠ lw j := fun j hj => ⟨fun h => (hnf j hj).1 (h ▸ m_r3), fun h => (hnf j hj).2 (h ▸ m_r3)⟩
  have n_q8_fam : ∀ j, j < 20 → q8 ≠ lb j ∧ q8 ≠ lw j := fun j hj => ⟨fun h => (hnf j hj).1 (h ▸ m_q8), fun h => (hnf j hj).2 (h ▸ m_q8)⟩
  have n_h_ca : h ≠ ca := fun h => nq_ca (h ▸ m_h)
  have n_ca_h : ca ≠ h := Ne.symm n_h_ca
  have n_h_re : h ≠ re := fun h => nq_re (h ▸ m_h)
  have n_re_h : re ≠ h := Ne.symm n_h_re
  have n_h_rr : h ≠ rr := fun h => nq_rr (h ▸ m_h)
  have n_rr_h : rr ≠ h := Ne.symm n_h_rr
  have n_h_ro : h ≠ ro := fun h => nq_ro (h ▸ m_h)
  have n_ro_h : ro ≠ h := Ne.symm n_h_ro
  have n_ce_ca : ce ≠ ca := fun h => nq_ca (h ▸ m_ce)
  have n_ca_ce : ca ≠ ce := Ne.symm n_ce_ca
  have n_ce_re : ce ≠ re := fun h => nq_re (h ▸ m_ce)
  have n_re_ce : re ≠ ce := Ne.symm n_ce_re
  have n_ce_rr : ce ≠ rr := fun h => nq_rr (h ▸ m_ce)
  have n_rr_ce : rr ≠ ce := Ne.symm n_ce_rr
  have n_ce_ro : ce ≠ ro := fun h => nq_ro (h ▸ m_ce)
  have n_ro_ce : ro ≠ ce := Ne.symm n_ce_ro
  have n_co_ca : co ≠ ca := fun h => nq_ca (h ▸ m_co)
  have n_ca_co : ca ≠ co := Ne.symm n_co_ca
  have n_co_re : co ≠ re := fun h => nq_re (h ▸ m_co)
  have n_re_co : re ≠ co := Ne.symm n_co_re
  have n_co_rr : co ≠ rr := fun h => nq_rr (h ▸ m_co)
  have n_rr_co : rr ≠ co := Ne.symm n_co_rr
  have n_co_ro : co ≠ ro := fun h => nq_ro (h ▸ m_co)
  have n_ro_co : ro ≠ co := Ne.symm n_co_ro
  have n_cr_ca : cr ≠ ca := fun h => nq_ca (h ▸ m_cr)
  have n_ca_cr : ca ≠ cr := Ne.symm n_cr_ca
  have n_cr_re : cr ≠ re := fun h => nq_re (h ▸ m_cr)
  have n_re_cr : re ≠ cr := Ne.symm n_cr_re
  have n_cr_rr : cr ≠ rr := fun h => nq_rr (h ▸ m_cr)
  have n_rr_cr : rr ≠ cr := Ne.symm n_cr_rr
  have n_cr_ro : cr ≠ ro := fun h => nq_ro (h ▸ m_cr)
  have n_ro_cr : ro ≠ cr := Ne.symm n_cr_ro
  have n_o1_ca : o1 ≠ ca := fun h => nq_ca (h ▸ m_o1)
  have n_ca_o1 : ca ≠ o1 := Ne.symm n_o1_ca
  have n_o1_re : o1 ≠ re := fun h => nq_re (h ▸ m_o1)
  have n_re_o1 : re ≠ o1 := Ne.symm n_o1_re
  have n_o1_rr : o1 ≠ rr := fun h => nq_rr (h ▸ m_o1)
  have n_rr_o1 : rr ≠ o1 := Ne.symm n_o1_rr
  have n_o1_ro : o1 ≠ ro := fun h => nq_ro (h ▸ m_o1)
  have n_ro_o1 : ro ≠ o1 := Ne.symm n_o1_ro
  have n_r1_ca : r1 ≠ ca := fun h => nq_ca (h ▸ m_r1)
  have n_ca_r1 : ca ≠ r1 := Ne.symm n_r1_ca
  have n_r1_re : r1 ≠ re := fun h => nq_re (h ▸ m_r1)
  have n_re_r1 : re ≠ r1 := Ne.symm n_r1_re
  have n_r1_rr : r1 ≠ rr := fun h => nq_rr (h ▸ m_r1)
  have n_rr_r1 : rr ≠ r1 := Ne.symm n_r1_rr
  have n_r1_ro : r1 ≠ ro := fun h => nq_ro (h ▸ m_r1)
  have n_ro_r1 : ro ≠ r1 := Ne.symm n_r1_ro
  have n_o2_ca : o2 ≠ ca := fun h => nq_ca (h ▸ m_o2)
  have n_ca_o2 : ca ≠ o2 := Ne.symm n_o2_ca
  have n_o2_re : o2 ≠ re := fun h => nq_re (h ▸ m_o2)
  have n_re_o2 : re ≠ o2 := Ne.symm n_o2_re
  have n_o2_rr : o2 ≠ rr := fun h => nq_rr (h ▸ m_o2)
  have n_rr_o2 : rr ≠ o2 := Ne.symm n_o2_rr
  have n_o2_ro : o2 ≠ ro := fun h => nq_ro (h ▸ m_o2)
  have n_ro_o2 : ro ≠ o2 := Ne.symm n_o2_ro
  have n_r2_ca : r2 ≠ ca := fun h => nq_ca (h ▸ m_r2)
  have n_ca_r2 : ca ≠ r2 := Ne.symm n_r2_ca
  have n_r2_re : r2 ≠ re := fun h => nq_re (h ▸ m_r2)
  have n_re_r2 : re ≠ r2 := Ne.symm n_r2_re
  have n_r2_rr : r2 ≠ rr := fun h => nq_rr (h ▸ m_r2)
  have n_rr_r2 : rr ≠ r2 := Ne.symm n_r2_rr
  have n_r2_ro : r2 ≠ ro := fun h => nq_ro (h ▸ m_r2)
  have n_ro_r2 : ro ≠ r2 := Ne.symm n_r2_ro
  have n_o3_ca : o3 ≠ ca := fun h => nq_ca (h ▸ m_o3)
  have n_ca_o3 : ca ≠ o3 := Ne.symm n_o3_ca
  have n_o3_re : o3 ≠ re := fun h => nq_re (h ▸ m_o3)
  have n_re_o3 : re ≠ o3 := Ne.symm n_o3_re
  have n_o3_rr : o3 ≠ rr := fun h => nq_rr (h ▸ m_o3)
  have n_rr_o3 : rr ≠ o3 := Ne.symm n_o3_rr
  have n_o3_ro : o3 ≠ ro := fun h => nq_ro (h ▸ m_o3)
  have n_ro_o3 : ro ≠ o3 := Ne.symm n_o3_ro
  have n_r3_ca : r3 ≠ ca := fun h => nq_ca (h ▸ m_r3)
  have n_ca_r3 : ca ≠ r3 := Ne.symm n_r3_ca
  have n_r3_re : r3 ≠ re := fun h => nq_re (h ▸ m_r3)
  have n_re_r3 : re ≠ r3 := Ne.symm n_r3_re
  have n_r3_rr : r3 ≠ rr := fun h => nq_rr (h ▸ m_r3)
  have n_rr_r3 : rr ≠ r3 := Ne.symm n_r3_rr
  have n_r3_ro : r3 ≠ ro := fun h => nq_ro (h ▸ m_r3)
  have n_ro_r3 : ro ≠ r3 := Ne.symm n_r3_ro
  have n_q8_ca : q8 ≠ ca := fun h => nq_ca (h ▸ m_q8)
  have n_ca_q8 : ca ≠ q8 := Ne.symm n_q8_ca
  have n_q8_re : q8 ≠ re := fun h => nq_re (h ▸ m_q8)
  have n_re_q8 : re ≠ q8 := Ne.symm n_q8_re
  have n_q8_rr : q8 ≠ rr := fun h => nq_rr (h ▸ m_q8)
  have n_rr_q8 : rr ≠ q8 := Ne.symm n_q8_rr
  have n_q8_ro : q8 ≠ ro := fun h => nq_ro (h ▸ m_q8)
  have n_ro_q8 : ro ≠ q8 := Ne.symm n_q8_ro
  have m_h : h ∈ L3 := mo h m_h
  have m_ce : ce ∈ L3 := mo ce m_ce
  have m_co : co ∈ L3 := mo co m_co
  have m_cr : cr ∈ L3 := mo cr m_cr
  have m_o1 : o1 ∈ L3 := mo o1 m_o1
  have m_r1 : r1 ∈ L3 := mo r1 m_r1
  have m_o2 : o2 ∈ L3 := mo o2 m_o2
  have m_r2 : r2 ∈ L3 := mo r2 m_r2
  have m_o3 : o3 ∈ L3 := mo o3 m_o3
  have m_r3 : r3 ∈ L3 := mo r3 m_r3
  have m_q8 : q8 ∈ L3 := mo q8 m_q8
  have nz_ca : ca ∉ L := fun h => nq_ca (mono _ h)
  have nz_re : re ∉ L := fun h => nq_re (mono _ h)
  have nz_rr : rr ∉ L := fun h => nq_rr (mono _ h)
  have nz_ro : ro ∉ L := fun h => nq_ro (mono _ h)
  have mono : ∀ b, b ∈ L → b ∈ L3 := fun b h => mo b (mono0 b h)
  have m_ca := mq_ca
  have m_re := mq_re
  have m_rr := mq_rr
  have m_ro := mq_ro
  have e_ca : f4 ca = .inl (g 0, 20, .inl (fun _ => 0)) := E_ca
  have e_re : f4 re = .inr (0, [.ref rr, .int 0]) := E_re
  have e_rr : f4 rr = .inl (g 1, 1000, .inr (.inl (fun _ => 0))) := E_rr
  have e_ro : f4 ro = .inl (g 4, 20, .inr (.inr (.inr (.inr rf)))) := E_ro
  have n_re_ca : re ≠ ca := ne_ir e_ca e_re
  have n_rr_ca : rr ≠ ca := ne_len e_ca e_rr (by decide)
  have n_ro_ca : ro ≠ ca := ne_01 e_ca e_ro
  have n_ca_re : ca ≠ re := ne_ri e_re e_ca
  have n_rr_re : rr ≠ re := ne_ri e_re e_rr
  have n_ro_re : ro ≠ re := ne_ri e_re e_ro
  have n_ca_rr : ca ≠ rr := ne_len e_rr e_ca (by decide)
  have n_re_rr : re ≠ rr := ne_ir e_rr e_re
  have n_ro_rr : ro ≠ rr := ne_len e_rr e_ro (by decide)
  have n_ca_ro : ca ≠ ro := ne_10 e_ro e_ca
  have n_re_ro : re ≠ ro := ne_ir e_ro e_re
  have n_rr_ro : rr ≠ ro := ne_len e_ro e_rr (by decide)
  have e_q8 : f4 q8 = .inr (3, [.ref ro, .ref ca, .ref re, .int 0, .int 0]) := E_
  have nz_fam : ∀ j, j < 20 → lb j ∉ L ∧ lw j ∉ L := fun j hj => ⟨fun h => (hnf j hj).1 (mono0 _ h), fun h => (hnf j hj).2 (mono0 _ h)⟩
  have n_ca_fam := fam_na e_fam e_ca (by decide)
  have n_re_fam := fam_no e_fam e_re (by decide)
  have n_rr_fam := fam_na e_fam e_rr (by decide)
  have n_ro_fam := fam_na e_fam e_ro (by decide)
  have n_fam_h := fam_sy n_h_fam
  have n_fam_ce := fam_sy n_ce_fam
  have n_fam_co := fam_sy n_co_fam
  have n_fam_cr := fam_sy n_cr_fam
  have n_fam_o1 := fam_sy n_o1_fam
  have n_fam_r1 := fam_sy n_r1_fam
  have n_fam_o2 := fam_sy n_o2_fam
  have n_fam_r2 := fam_sy n_r2_fam
  have n_fam_o3 := fam_sy n_o3_fam
  have n_fam_r3 := fam_sy n_r3_fam
  have n_fam_q8 := fam_sy n_q8_fam
  have n_fam_ca := fam_sy n_ca_fam
  have n_fam_re := fam_sy n_re_fam
  have n_fam_rr := fam_sy n_rr_fam
  have n_fam_ro := fam_sy n_ro_fam
  refine k_put hx hb hts in_X6 tyX6 tyX6_ok nmX6 hown S m_h e_h (C := RX6) (T := TX6) (N := 7) rfl 2 (by decide) (hts (.fieldLink RX6 44 "SieveCabinet$Sieve" "layers" "LSieveCabinet$Layers;") (gu_wsX6_beginLayered_1 _ gm_0)) rfl rfl rfl (Nat.le_of_ble_eq_true rfl) dX6_beginLayered_15 (fun f5 ef5 H locs S => ?_)
  have e_h : f5 h = .inr (4, [.ref ce, .ref co, .ref q8, .int kd, .int sz, .int mk, .int sd]) := up_self ef5
  have fr : ∀ b, b ∈ L → b ≠ h → b ≠ ce → b ≠ co → b ≠ o1 → b ≠ r1 → b ≠ o2 → b ≠ r2 → b ≠ o3 → b ≠ r3 → f5 b = f b := fun b mb nb0 nb1 nb2 nb3 nb4 nb5 nb6 nb7 nb8 => (up_ne ef5 nb0 rfl).trans (fr b mb nb0 nb1 nb2 nb3 nb4 nb5 nb6 nb7 nb8)
  refine lv_aload_n hx hb dX6_beginLayered_18 rfl (lv_at hl 0 rfl) ?_
  refine q_get hx hb hts in_X6 hown S m_h e_h (C := RX6) (T := TX6) (N := 7) rfl 2 (by decide) rfl (hts (.fieldLink RX6 44 "SieveCabinet$Sieve" "layers" "LSieveCabinet$Layers;") (gu_wsX6_beginLayered_1 _ gm_0)) dX6_beginLayered_19 ?_
  refine lv_aload_n hx hb dX6_beginLayered_22 rfl (lv_at hl 1 rfl) ?_
  refine lv_aload_n hx hb dX6_beginLayered_23 rfl (lv_at hl 2 rfl) ?_
  refine lv_aload_n hx hb dX6_beginLayered_24 rfl (lv_at hl 3 rfl) ?_
  refine lv_iload hx hb dX6_beginLayered_25 (lv_at hl 4 rfl) ?_
  obtain ⟨z27, hz27, hM⟩ := bind_some hM
  have e_q8 := (up_ne ef5 n_q8_h e_q8)
  have e_ro := (up_ne ef5 n_ro_h e_ro)
  have e_ca := (up_ne ef5 n_ca_h e_ca)
  have e_re := (up_ne ef5 n_re_h e_re)
  have e_rr := (up_ne ef5 n_rr_h e_rr)
  have e_fam := (LF_up e_fam ef5 n_fam_h)
  have e_o1 := (up_ne ef5 n_o1_h e_o1)
  have e_r1 := (up_ne ef5 n_r1_h e_r1)
  have e_o2 := (up_ne ef5 n_o2_h e_o2)
  have e_r2 := (up_ne ef5 n_r2_h e_r2)
  have e_o3 := (up_ne ef5 n_o3_h e_o3)
  have e_r3 := (up_ne ef5 n_r3_h e_r3)
  refine q_vv (As := [.ref o1, .ref o2, .ref o3, .int nsd]) (rest := []) ⟨hx, hb, hml, hown, hts⟩ (k_X3_build l D g m_q8 e_q8 m_ro e_ro m_ca e_ca m_re e_re m_rr e_rr e_fam m_o1 e_o1 m_r1 e_r1 m_o2 e_o2 m_r2 e_r2 m_o3 e_o3 m_r3 e_r3 n_o1_re n_o2_re n_o3_re n_o2_o3 n_rr_r3 n_r2_r3 n_o1_o3 n_r1_r3 n_r1_rr n_r2_rr n_o1_o2 n_r1_r2 hdis hz27) (cwV 4 hts gX6_beginLayered_X3_build rfl rfl rfl (by decide +kernel) ⟨Nat.le_of_ble_eq_true rfl, Nat.le_of_ble_eq_true rfl⟩) S m_q8 e_q8 (T := TX3) (N := 5) rfl rfl hl.1 rfl (Nat.le_of_ble_eq_true rfl) dX6_beginLayered_27 ⟨Nat.le_of_ble_eq_true rfl, Nat.le_of_ble_eq_true rfl⟩ (fun L6 f7 H locs S w27 => ?_)
  obtain ⟨eL, fv27, E_q8, E_ca, E_re, E_rr, E_fam, ⟨jk_o1_27, E_o1⟩, ⟨jk_r1_27, E_r1⟩, ⟨jk_o2_27, E_o2⟩, ⟨jk_r2_27, E_r2⟩, ⟨jk_o3_27, E_o3⟩, ⟨jk_r3_27, E_r3⟩⟩ := w27
  rw [eL] at S
  have fr : ∀ b, b ∈ L → b ≠ h → b ≠ ce → b ≠ co → b ≠ o1 → b ≠ r1 → b ≠ o2 → b ≠ r2 → b ≠ o3 → b ≠ r3 → f7 b = f b := fun b mb nb0 nb1 nb2 nb3 nb4 nb5 nb6 nb7 nb8 => (fv27 b (mono b mb) (fun h_ => nz_q8 (h_ ▸ mb)) (fun h_ => nz_ca (h_ ▸ mb)) (fun h_ => nz_re (h_ ▸ mb)) (fun h_ => nz_rr (h_ ▸ mb)) (fun j hj => ⟨fun h_ => (nz_fam j hj).1 (h_ ▸ mb), fun h_ => (nz_fam j hj).2 (h_ ▸ mb)⟩) nb3 nb4 nb5 nb6 nb7 nb8).trans (fr b mb nb0 nb1 nb2 nb3 nb4 nb5 nb6 nb7 nb8)
  have e_q8 : f7 q8 = .inr (3, [.ref ro, .ref ca, .ref re, .int z27.1, .int z27.2.1]) := E_q8
  have e_ca : f7 ca = .inl (g 0, 20, .inl z27.2.2.1) := E_ca
  have e_re : f7 re = .inr (0, [.ref rr, .int z27.2.2.2.1]) := E_re
  have e_rr : f7 rr = .inl (g 1, 1000, .inr (.inl z27.2.2.2.2.1)) := E_rr
  have e_fam : LF g L3 f7 rf lb lw z27.2.2.2.2.2.1 z27.2.2.2.2.2.2 := E_fam
  have e_o1 : f7 o1 = .inr (0, [.ref r1, .int jk_o1_27]) := E_o1
  have e_r1 : f7 r1 = .inl (g 1, 1000, .inr (.inl jk_r1_27)) := E_r1
  have e_o2 : f7 o2 = .inr (0, [.ref r2, .int jk_o2_27]) := E_o2
  have e_r2 : f7 r2 = .inl (g 1, 1000, .inr (.inl jk_r2_27)) := E_r2
  have e_o3 : f7 o3 = .inr (0, [.ref r3, .int jk_o3_27]) := E_o3
  have e_r3 : f7 r3 = .inl (g 1, 1000, .inr (.inl jk_r3_27)) := E_r3
  refine lv_aload_n hx hb dX6_beginLayered_30 rfl (lv_at hl 0 rfl) ?_
  refine lv_iconst (v := (4 : Int32)) hx hb dX6_beginLayered_31 (by decide) ?_
  refine lv_aload_n hx hb dX6_beginLayered_32 rfl (lv_at hl 0 rfl) ?_
  have e_h := ((fv27 h m_h n_h_q8 n_h_ca n_h_re n_h_rr n_h_fam n_h_o1 n_h_r1 n_h_o2 n_h_r2 n_h_o3 n_h_r3).trans e_h)
  refine q_get hx hb hts in_X6 hown S m_h e_h (C := RX6) (T := TX6) (N := 7) rfl 2 (by decide) rfl (hts (.fieldLink RX6 44 "SieveCabinet$Sieve" "layers" "LSieveCabinet$Layers;") (gu_wsX6_beginLayered_1 _ gm_0)) dX6_beginLayered_33 ?_
  obtain ⟨z36, hz36, hM⟩ := bind_some hM
  refine q_vi (As := []) (rest := [.int (4 : Int32), .ref h]) ⟨hx, hb, hml, hown, hts⟩ (k_X3_count l D g m_q8 e_q8 hz36) (cwV 0 hts gX6_beginLayered_X3_count rfl rfl rfl (by decide +kernel) ⟨Nat.le_of_ble_eq_true rfl, Nat.le_of_ble_eq_true rfl⟩) S m_q8 e_q8 (T := TX3) (N := 5) rfl rfl hl.1 rfl (Nat.le_of_ble_eq_true rfl) dX6_beginLayered_36 ⟨Nat.le_of_ble_eq_true rfl, Nat.le_of_ble_eq_true rfl⟩ (fun r11 L9 f10 H locs S w36 => ?_)
  obtain ⟨ex36, eL, ef⟩ := w36
  rw [eL, ef] at S
  replace ex36 := ex36.symm
  subst ex36
  refine lv_iconst (v := (3 : Int32)) hx hb dX6_beginLayered_39 (by decide) ?_
  refine lv_iload hx hb dX6_beginLayered_40 (lv_at hl 4 rfl) ?_
  obtain ⟨z42, hz42, hM⟩ := bind_some hM
  have e_ce := ((fv27 ce m_ce n_ce_q8 n_ce_ca n_ce_re n_ce_rr n_ce_fam n_ce_o1 n_ce_r1 n_ce_o2 n_ce_r2 n_ce_o3 n_ce_r3).trans (up_ne ef5 n_ce_h e_ce))
  have e_co := ((fv27 co m_co n_co_q8 n_co_ca n_co_re n_co_rr n_co_fam n_co_o1 n_co_r1 n_co_o2 n_co_r2 n_co_o3 n_co_r3).trans (up_ne ef5 n_co_h e_co))
  refine q_vv (As := [.int (4 : Int32), .int z36, .int (3 : Int32), .int nsd]) (rest := []) ⟨hx, hb, hml, hown, hts⟩ (k_X6_begin l D g m_h e_h m_ce e_ce m_co e_co hz42) (cwV 4 hts gX6_beginLayered_X6_begin rfl rfl rfl (by decide +kernel) ⟨Nat.le_of_ble_eq_true rfl, Nat.le_of_ble_eq_true rfl⟩) S m_h e_h (T := TX6) (N := 7) rfl rfl hl.1 rfl (Nat.le_of_ble_eq_true rfl) dX6_beginLayered_42 ⟨Nat.le_of_ble_eq_true rfl, Nat.le_of_ble_eq_true rfl⟩ (fun L12 f13 H locs S w42 => ?_)
  obtain ⟨eL, fv42, E_h, E_ce, E_co⟩ := w42
  rw [eL] at S
  have fr : ∀ b, b ∈ L → b ≠ h → b ≠ ce → b ≠ co → b ≠ o1 → b ≠ r1 → b ≠ o2 → b ≠ r2 → b ≠ o3 → b ≠ r3 → f13 b = f b := fun b mb nb0 nb1 nb2 nb3 nb4 nb5 nb6 nb7 nb8 => (fv42 b (mono b mb) nb0 nb1 nb2).trans (fr b mb nb0 nb1 nb2 nb3 nb4 nb5 nb6 nb7 nb8)
  have e_h : f13 h = .inr (4, [.ref ce, .ref co, .ref q8, .int z42.1, .int z42.2.1, .int z42.2.2.1, .int z42.2.2.2.1]) := E_h
  have e_ce : f13 ce = .inl (g 0, 4096, .inl z42.2.2.2.2.1) := E_ce
  have e_co : f13 co = .inr (0, [.ref cr, .int z42.2.2.2.2.2]) := E_co
  have e_o1 := ((fv42 o1 m_o1 n_o1_h n_o1_ce n_o1_co).trans e_o1)
  have e_r1 := ((fv42 r1 m_r1 n_r1_h n_r1_ce n_r1_co).trans e_r1)
  have e_o2 := ((fv42 o2 m_o2 n_o2_h n_o2_ce n_o2_co).trans e_o2)
  have e_r2 := ((fv42 r2 m_r2 n_r2_h n_r2_ce n_r2_co).trans e_r2)
  have e_o3 := ((fv42 o3 m_o3 n_o3_h n_o3_ce n_o3_co).trans e_o3)
  have e_r3 := ((fv42 r3 m_r3 n_r3_h n_r3_ce n_r3_co).trans e_r3)
  have e_q8 := ((fv42 q8 m_q8 n_q8_h n_q8_ce n_q8_co).trans e_q8)
  have e_ca := ((fv42 ca m_ca n_ca_h n_ca_ce n_ca_co).trans e_ca)
  have e_re := ((fv42 re m_re n_re_h n_re_ce n_re_co).trans e_re)
  have e_rr := ((fv42 rr m_rr n_rr_h n_rr_ce n_rr_co).trans e_rr)
  have e_ro := ((fv42 ro m_ro n_ro_h n_ro_ce n_ro_co).trans ((fv27 ro m_ro n_ro_q8 n_ro_ca n_ro_re n_ro_rr n_ro_fam n_ro_o1 n_ro_r1 n_ro_o2 n_ro_r2 n_ro_o3 n_ro_r3).trans e_ro))
  have e_fam := (LF_ext e_fam (fun j hj q1 q2 => ⟨fv42 (lb j) q1 (n_fam_h j hj).1 (n_fam_ce j hj).1 (n_fam_co j hj).1, fv42 (lw j) q2 (n_fam_h j hj).2 (n_fam_ce j hj).2 (n_fam_co j hj).2⟩))
  subst hQQ
  exact q_retv (post := fun L1 f1 => ∃ q8 : Nat, ∃ ca : Nat, ∃ re : Nat, ∃ rr : Nat, ∃ ro : Nat, ∃ lb lw : Nat → Nat, ∃ rf : Nat → Option Nat, (∀ b, b ∈ L → b ∈ L1) ∧ (∀ b, b ∈ L → b ≠ h → b ≠ ce → b ≠ co → b ≠ o1 → b ≠ r1 → b ≠ o2 → b ≠ r2 → b ≠ o3 → b ≠ r3 → f1 b = f b) ∧ f1 h = .inr (4, [.ref ce, .ref co, .ref q8, .int z.1, .int z.2.1, .int z.2.2.1, .int z.2.2.2.1]) ∧ f1 ce = .inl (g 0, 4096, .inl z.2.2.2.2.1) ∧ f1 co = .inr (0, [.ref cr, .int z.2.2.2.2.2.1]) ∧ (∃ j1 : Int32, f1 o1 = .inr (0, [.ref r1, .int j1])) ∧ (∃ j0 : Nat → Int64, f1 r1 = .inl (g 1, 1000, .inr (.inl j0))) ∧ (∃ j1 : Int32, f1 o2 = .inr (0, [.ref r2, .int j1])) ∧ (∃ j0 : Nat → Int64, f1 r2 = .inl (g 1, 1000, .inr (.inl j0))) ∧ (∃ j1 : Int32, f1 o3 = .inr (0, [.ref r3, .int j1])) ∧ (∃ j0 : Nat → Int64, f1 r3 = .inl (g 1, 1000, .inr (.inl j0))) ∧ (q8 ∉ L ∧ q8 ∈ L1 ∧ f1 q8 = .inr (3, [.ref ro, .ref ca, .ref re, .int z.2.2.2.2.2.2.1, .int z.2.2.2.2.2.2.2.1])) ∧ (ca ∉ L ∧ ca ∈ L1 ∧ f1 ca = .inl (g 0, 20, .inl z.2.2.2.2.2.2.2.2.1)) ∧ (re ∉ L ∧ re ∈ L1 ∧ f1 re = .inr (0, [.ref rr, .int z.2.2.2.2.2.2.2.2.2.1])) ∧ (rr ∉ L ∧ rr ∈ L1 ∧ f1 rr = .inl (g 1, 1000, .inr (.inl z.2.2.2.2.2.2.2.2.2.2.1))) ∧ (ro ∉ L ∧ ro ∈ L1 ∧ f1 ro = .inl (g 4, 20, .inr (.inr (.inr (.inr rf))))) ∧ (LF g L1 f1 rf lb lw z.2.2.2.2.2.2.2.2.2.2.2.1 z.2.2.2.2.2.2.2.2.2.2.2.2 ∧ LD lb lw ∧ ∀ j, j < 20 → lb j ∉ L ∧ lw j ∉ L)) hx hb hr hlk S dX6_beginLayered_45 (by decide) (by decide) (by have hz := Option.some.inj hM; subst hz; exact ⟨q8, ca, re, rr, ro, lb, lw, rf, mono, fr, e_h, e_ce, e_co, ⟨_, e_o1⟩, ⟨_, e_r1⟩, ⟨_, e_o2⟩, ⟨_, e_r2⟩, ⟨_, e_o3⟩, ⟨_, e_r3⟩, ⟨nz_q8, m_q8, e_q8⟩, ⟨nz_ca, m_ca, e_ca⟩, ⟨nz_re, m_re, e_re⟩, ⟨nz_rr, m_rr, e_rr⟩, ⟨nz_ro, m_ro, e_ro⟩, ⟨e_fam, hdis, nz_fam⟩⟩)
