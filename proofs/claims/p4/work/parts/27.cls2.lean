set_option maxHeartbeats 4000000 in
set_option maxRecDepth 100000 in
/-- Solver.places of 8 -/
theorem c_X7_places0 (l : Launch) (D : va_G) (g : Nat → ClassId) {L : List Nat} {f : Nat → va_E} {so pa ta la ba si tt tp : Nat} {cn : Int32}   (m_so : so ∈ L) (e_so : f so = .inr (5, [.ref pa, .ref ta, .ref la, .ref ba, .ref si, .ref tt, .ref tp, .int cn, .int 8]))  : cI l yX7_places wsX7_places { frames := 0, cells := 0, slots := 0, locals := 0 } D g [.ref so] L f 0 0 (fun x L1 f1 => x = 24 ∧ L1 = L ∧ f1 = f) := by
  refine cI_of (cc := cX7_places) (maxL := 1) (ret := (some .int)) (by decide) rfl (Nat.le_of_ble_eq_true rfl) ?_
  intro sz p e s m below meth c hx hb hr hml hts hown hlk hnm S ls hl
  have hl : lv_has ls 1 [(0, .ref so)] := hl
  have in_X7 : ∀ w ∈ wsX70, w ∈ wsX7_places := by decide +kernel
  refine lv_iconst (v := 3) hx hb dX7_places_0 (by decide) ?_
  refine lv_aload_n hx hb dX7_places_1 rfl (lv_at hl 0 rfl) ?_
  refine q_get hx hb hts in_X7 hown S m_so e_so (C := RX7) (T := TX7) (N := 9) rfl 8 (by decide) rfl (hts (.fieldLink RX7 37 "SieveCabinet$Solver" "third" "I") (by decide +kernel)) dX7_places_2 ?_
  refine lv_imul hx hb dX7_places_5 ?_
  refine lv_topi (fun t_ et_ => ?_)
  obtain rfl : t_ = 24 := et_.trans (by decide)
  exact q_reti (post := fun x L1 f1 => x = 24 ∧ L1 = L ∧ f1 = f) hx hb hr hlk S dX7_places_6 (by decide) (by decide) (⟨rfl, rfl, rfl⟩)

set_option maxHeartbeats 4000000 in
set_option maxRecDepth 100000 in
/-- Solver.noteIfSingle -/
theorem c_X7_noteIfSingle (l : Launch) (D : va_G) (g : Nat → ClassId) {L : List Nat} {f : Nat → va_E} {so pa ta la ba si tt tp sw b0 : Nat} {cn th3 : Int32} {vl : Nat → Int32} {vs : Nat → Int64} {q : Nat} (m_so : so ∈ L) (e_so : f so = .inr (5, [.ref pa, .ref ta, .ref la, .ref ba, .ref si, .ref tt, .ref tp, .int cn, .int th3])) (m_la : la ∈ L) (e_la : f la = .inl (g 0, 3774, .inl vl)) (m_si : si ∈ L) (e_si : f si = .inr (1, [.ref sw, .int ((nI b0))])) (m_sw : sw ∈ L) (e_sw : f sw = .inl (g 1, 64, .inr (.inl vs))) (hq : q < 3774) (hb0 : b0 ≤ 4096) : cV l yX7_noteIfSingle wsX7_noteIfSingle { frames := 1, cells := 0, slots := 0, locals := 21 } D g [.ref so, .int ((nI q))] L f 0 0 (fun L1 f1 => L1 = L ∧ (∀ b, b ∈ L → b ≠ sw → f1 b = f b) ∧ ∃ v1 : Nat → Int64, f1 sw = .inl (g 1, 64, .inr (.inl v1))) := by
  refine cV_of (cc := cX7_noteIfSingle) (maxL := 2) (ret := none) (by decide) rfl (Nat.le_of_ble_eq_true rfl) ?_
  intro sz p e s m below meth c hx hb hr hml hts hown hlk hnm S ls hl
  have hl : lv_has ls 2 [(0, .ref so), (1, .int ((nI q)))] := hl
  have in_X7 : ∀ w ∈ wsX70, w ∈ wsX7_noteIfSingle := by decide +kernel
  have fr : ∀ b, b ∈ L → b ≠ sw → f b = f b := fun _ _ _ => rfl
  have mono : ∀ b, b ∈ L → b ∈ L := fun _ h => h
  refine lv_aload_n hx hb dX7_noteIfSingle_0 rfl (lv_at hl 0 rfl) ?_
  refine q_get hx hb hts in_X7 hown S m_so e_so (C := RX7) (T := TX7) (N := 9) rfl 2 (by decide) rfl (hts (.fieldLink RX7 18 "SieveCabinet$Solver" "left" "[I") (by decide +kernel)) dX7_noteIfSingle_1 ?_
  refine lv_iload_n hx hb dX7_noteIfSingle_4 rfl (lv_at hl 1 rfl) ?_
  refine q_iald hx hb S m_la e_la (vp_in_nI hq (by decide)) dX7_noteIfSingle_5 ?_
  refine lv_iconst (v := 1) hx hb dX7_noteIfSingle_6 (by decide) ?_
  refine lv_icmp_ne (tgt := 21) hx hb dX7_noteIfSingle_7 (by decide) (fun b7 => ?_) (fun b7 => ?_)
  · skip
    refine lv_aload_n hx hb dX7_noteIfSingle_21 rfl (lv_at hl 0 rfl) ?_
    refine q_get hx hb hts in_X7 hown S m_so e_so (C := RX7) (T := TX7) (N := 9) rfl 4 (by decide) rfl (hts (.fieldLink RX7 27 "SieveCabinet$Solver" "singles" "LSieveCabinet$BitRow;") (by decide +kernel)) dX7_noteIfSingle_22 ?_
    refine lv_iload_n hx hb dX7_noteIfSingle_25 rfl (lv_at hl 1 rfl) ?_
    refine q_vv (As := [.int ((nI q))]) (rest := []) ⟨hx, hb, hml, hown, hts⟩ (c_X1_clear l D g  m_si e_si m_sw e_sw hb0) (cwV 1 hts gX7_noteIfSingle_X1_clear rfl rfl rfl (by decide +kernel) ⟨Nat.le_of_ble_eq_true rfl, Nat.le_of_ble_eq_true rfl⟩) S m_si e_si (T := TX1) (N := 2) rfl rfl hl.1 rfl (Nat.le_of_ble_eq_true rfl) dX7_noteIfSingle_26 ⟨Nat.le_of_ble_eq_true rfl, Nat.le_of_ble_eq_true rfl⟩ (fun L1 f2 H locs S w26 => ?_)
    obtain ⟨eLw26, fvw26, v1_26_1, E_sw⟩ := w26
    rw [eLw26] at S
    have e_so : f2 so = .inr (5, [.ref pa, .ref ta, .ref la, .ref ba, .ref si, .ref tt, .ref tp, .int cn, .int th3]) := (fvw26 so m_so (ne_sh e_sw e_so (fun h => by cases h))).trans e_so
    have e_la : f2 la = .inl (g 0, 3774, .inl vl) := (fvw26 la m_la (ne_sh e_sw e_la (by intro h; injection h with h; injection h with h1 h2; first | (cases h1; done) | (cases h2; done) | (injection h2 with h3 h4; cases h4; done)))).trans e_la
    have e_si : f2 si = .inr (1, [.ref sw, .int ((nI b0))]) := (fvw26 si m_si (ne_sh e_sw e_si (fun h => by cases h))).trans e_si
    have e_sw := E_sw
    have fr : ∀ b, b ∈ L → b ≠ sw → f2 b = f b := fun b mb nb0 => (fvw26 b (mono b mb) nb0).trans (fr b mb nb0)
    exact q_retv (post := fun L1 f1 => L1 = L ∧ (∀ b, b ∈ L → b ≠ sw → f1 b = f b) ∧ ∃ v1 : Nat → Int64, f1 sw = .inl (g 1, 64, .inr (.inl v1))) hx hb hr hlk S dX7_noteIfSingle_29 (by decide) (by decide) (⟨rfl, fr, _, e_sw⟩)
  · skip
    refine lv_aload_n hx hb dX7_noteIfSingle_10 rfl (lv_at hl 0 rfl) ?_
    refine q_get hx hb hts in_X7 hown S m_so e_so (C := RX7) (T := TX7) (N := 9) rfl 4 (by decide) rfl (hts (.fieldLink RX7 27 "SieveCabinet$Solver" "singles" "LSieveCabinet$BitRow;") (by decide +kernel)) dX7_noteIfSingle_11 ?_
    refine lv_iload_n hx hb dX7_noteIfSingle_14 rfl (lv_at hl 1 rfl) ?_
    refine q_vv (As := [.int ((nI q))]) (rest := []) ⟨hx, hb, hml, hown, hts⟩ (c_X1_set l D g  m_si e_si m_sw e_sw hb0) (cwV 1 hts gX7_noteIfSingle_X1_set rfl rfl rfl (by decide +kernel) ⟨Nat.le_of_ble_eq_true rfl, Nat.le_of_ble_eq_true rfl⟩) S m_si e_si (T := TX1) (N := 2) rfl rfl hl.1 rfl (Nat.le_of_ble_eq_true rfl) dX7_noteIfSingle_15 ⟨Nat.le_of_ble_eq_true rfl, Nat.le_of_ble_eq_true rfl⟩ (fun L4 f5 H locs S w15 => ?_)
    obtain ⟨eLw15, fvw15, v1_15_1, E_sw⟩ := w15
    rw [eLw15] at S
    have e_so : f5 so = .inr (5, [.ref pa, .ref ta, .ref la, .ref ba, .ref si, .ref tt, .ref tp, .int cn, .int th3]) := (fvw15 so m_so (ne_sh e_sw e_so (fun h => by cases h))).trans e_so
    have e_la : f5 la = .inl (g 0, 3774, .inl vl) := (fvw15 la m_la (ne_sh e_sw e_la (by intro h; injection h with h; injection h with h1 h2; first | (cases h1; done) | (cases h2; done) | (injection h2 with h3 h4; cases h4; done)))).trans e_la
    have e_si : f5 si = .inr (1, [.ref sw, .int ((nI b0))]) := (fvw15 si m_si (ne_sh e_sw e_si (fun h => by cases h))).trans e_si
    have e_sw := E_sw
    have fr : ∀ b, b ∈ L → b ≠ sw → f5 b = f b := fun b mb nb0 => (fvw15 b (mono b mb) nb0).trans (fr b mb nb0)
    refine lv_goto (tgt := 29) hx hb dX7_noteIfSingle_18 (by decide) ?_
    exact q_retv (post := fun L1 f1 => L1 = L ∧ (∀ b, b ∈ L → b ≠ sw → f1 b = f b) ∧ ∃ v1 : Nat → Int64, f1 sw = .inl (g 1, 64, .inr (.inl v1))) hx hb hr hlk S dX7_noteIfSingle_29 (by decide) (by decide) (⟨rfl, fr, _, e_sw⟩)

set_option maxHeartbeats 4000000 in
set_option maxRecDepth 100000 in
/-- Solver.spread of nothing -/
theorem c_X7_spread0 (l : Launch) (D : va_G) (g : Nat → ClassId) {L : List Nat} {f : Nat → va_E} {so pa ta la ba si tt tp sw b0 : Nat}  {vl vb : Nat → Int32} {vs : Nat → Int64} {ob : Nat} {sd : Int32} (m_so : so ∈ L) (e_so : f so = .inr (5, [.ref pa, .ref ta, .ref la, .ref ba, .ref si, .ref tt, .ref tp, .int 0, .int 8])) (m_la : la ∈ L) (e_la : f la = .inl (g 0, 3774, .inl vl)) (m_ba : ba ∈ L) (e_ba : f ba = .inl (g 0, 3774, .inl vb)) (m_si : si ∈ L) (e_si : f si = .inr (1, [.ref sw, .int ((nI b0))])) (m_sw : sw ∈ L) (e_sw : f sw = .inl (g 1, 64, .inr (.inl vs))) (n_ba_la : ba ≠ la) : cV l yX7_spread wsX7_spread { frames := 2, cells := 0, slots := 0, locals := 45 } D g [.ref so, .ref ob, .int sd] L f 0 0 (fun L1 f1 => L1 = L ∧ (∀ b, b ∈ L → b ≠ la → b ≠ ba → b ≠ si → b ≠ sw → f1 b = f b) ∧ ∃ v1 : Nat → Int32, ∃ v2 : Nat → Int32, ∃ v3 : Nat → Int64, f1 la = .inl (g 0, 3774, .inl v1) ∧ f1 ba = .inl (g 0, 3774, .inl v2) ∧ f1 si = .inr (1, [.ref sw, .int ((nI 24))]) ∧ f1 sw = .inl (g 1, 64, .inr (.inl v3))) := by
  refine cV_of (cc := cX7_spread) (maxL := 8) (ret := none) (by decide) rfl (Nat.le_of_ble_eq_true rfl) ?_
  intro sz p e s m below meth c hx hb hr hml hts hown hlk hnm S ls hl
  have hl : lv_has ls 8 [(0, .ref so), (1, .ref ob), (2, .int sd)] := hl
  have in_X7 : ∀ w ∈ wsX70, w ∈ wsX7_spread := by decide +kernel
  have fr : ∀ b, b ∈ L → b ≠ la → b ≠ ba → b ≠ si → b ≠ sw → f b = f b := fun _ _ _ _ _ _ => rfl
  have mono : ∀ b, b ∈ L → b ∈ L := fun _ h => h
  refine lv_aload_n hx hb dX7_spread_0 rfl (lv_at hl 0 rfl) ?_
  refine q_get hx hb hts in_X7 hown S m_so e_so (C := RX7) (T := TX7) (N := 9) rfl 2 (by decide) rfl (hts (.fieldLink RX7 18 "SieveCabinet$Solver" "left" "[I") (by decide +kernel)) dX7_spread_1 ?_
  refine lv_iconst (v := 0) hx hb dX7_spread_4 (by decide) ?_
  refine q_sv (As := [.ref la, .int 0]) (rest := []) ⟨hx, hb, hml, hown, hts⟩ (c_J7_fill_53178 l D g m_la e_la (by decide)) (va_cwS 2 hts gX7_spread_J7_fill_53178 rfl rfl rfl (by decide +kernel) ⟨Nat.le_of_ble_eq_true rfl, Nat.le_of_ble_eq_true rfl⟩) S rfl hl.1 rfl (Nat.le_of_ble_eq_true rfl) dX7_spread_5 ⟨Nat.le_of_ble_eq_true rfl, Nat.le_of_ble_eq_true rfl⟩ (fun L1 f2 H locs S w5 => ?_)
  obtain ⟨eLw5, fz5, efw5⟩ := w5
  rw [eLw5, efw5] at S
  obtain ⟨f4, ef4⟩ : ∃ z_, z_ = va_up f la (.inl (g 0, 3774, .inl fz5)) := ⟨_, rfl⟩
  have S : PS D g (va_A (va_pl L f) sz) s.heap s L f4 H locs := by rw [ef4]; exact S
  have e_so : f4 so = .inr (5, [.ref pa, .ref ta, .ref la, .ref ba, .ref si, .ref tt, .ref tp, .int 0, .int 8]) := up_ne ef4 (ne_sh e_la e_so (fun h => by cases h)) e_so
  have e_ba : f4 ba = .inl (g 0, 3774, .inl vb) := up_ne ef4 n_ba_la e_ba
  have e_si : f4 si = .inr (1, [.ref sw, .int ((nI b0))]) := up_ne ef4 (ne_sh e_la e_si (fun h => by cases h)) e_si
  have e_sw : f4 sw = .inl (g 1, 64, .inr (.inl vs)) := up_ne ef4 (ne_sh e_la e_sw (by intro h; injection h with h; injection h with h1 h2; first | (cases h1; done) | (cases h2; done) | (injection h2 with h3 h4; cases h4; done))) e_sw
  have e_la : f4 la = .inl (g 0, 3774, .inl fz5) := up_self ef4
  have fr : ∀ b, b ∈ L → b ≠ la → b ≠ ba → b ≠ si → b ≠ sw → f4 b = f b := fun b mb nb0 nb1 nb2 nb3 => (up_ne ef4 nb0 rfl).trans (fr b mb nb0 nb1 nb2 nb3)
  refine lv_aload_n hx hb dX7_spread_8 rfl (lv_at hl 0 rfl) ?_
  refine q_get hx hb hts in_X7 hown S m_so e_so (C := RX7) (T := TX7) (N := 9) rfl 3 (by decide) rfl (hts (.fieldLink RX7 21 "SieveCabinet$Solver" "blend" "[I") (by decide +kernel)) dX7_spread_9 ?_
  refine lv_iconst (v := 0) hx hb dX7_spread_12 (by decide) ?_
  refine q_sv (As := [.ref ba, .int 0]) (rest := []) ⟨hx, hb, hml, hown, hts⟩ (c_J7_fill_53178 l D g m_ba e_ba (by decide)) (va_cwS 2 hts gX7_spread_J7_fill_53178 rfl rfl rfl (by decide +kernel) ⟨Nat.le_of_ble_eq_true rfl, Nat.le_of_ble_eq_true rfl⟩) S rfl hl.1 rfl (Nat.le_of_ble_eq_true rfl) dX7_spread_13 ⟨Nat.le_of_ble_eq_true rfl, Nat.le_of_ble_eq_true rfl⟩ (fun L5 f6 H locs S w13 => ?_)
  obtain ⟨eLw13, fz13, efw13⟩ := w13
  rw [eLw13, efw13] at S
  obtain ⟨f8, ef8⟩ : ∃ z_, z_ = va_up f4 ba (.inl (g 0, 3774, .inl fz13)) := ⟨_, rfl⟩
  have S : PS D g (va_A (va_pl L f) sz) s.heap s L f8 H locs := by rw [ef8]; exact S
  have e_so : f8 so = .inr (5, [.ref pa, .ref ta, .ref la, .ref ba, .ref si, .ref tt, .ref tp, .int 0, .int 8]) := up_ne ef8 (ne_sh e_ba e_so (fun h => by cases h)) e_so
  have e_la : f8 la = .inl (g 0, 3774, .inl fz5) := up_ne ef8 (Ne.symm n_ba_la) e_la
  have e_si : f8 si = .inr (1, [.ref sw, .int ((nI b0))]) := up_ne ef8 (ne_sh e_ba e_si (fun h => by cases h)) e_si
  have e_sw : f8 sw = .inl (g 1, 64, .inr (.inl vs)) := up_ne ef8 (ne_sh e_ba e_sw (by intro h; injection h with h; injection h with h1 h2; first | (cases h1; done) | (cases h2; done) | (injection h2 with h3 h4; cases h4; done))) e_sw
  have e_ba : f8 ba = .inl (g 0, 3774, .inl fz13) := up_self ef8
  have fr : ∀ b, b ∈ L → b ≠ la → b ≠ ba → b ≠ si → b ≠ sw → f8 b = f b := fun b mb nb0 nb1 nb2 nb3 => (up_ne ef8 nb1 rfl).trans (fr b mb nb0 nb1 nb2 nb3)
  refine lv_iconst (v := 0) hx hb dX7_spread_16 (by decide) ?_
  refine lv_istore_n (lv' := [(3, .int 0), (0, .ref so), (1, .ref ob), (2, .int sd)]) hx hb dX7_spread_17 rfl hl (by decide) rfl (fun ls hl => ?_)
  refine lv_iload_n hx hb dX7_spread_18 rfl (lv_at hl 0 rfl) ?_
  refine lv_aload_n hx hb dX7_spread_19 rfl (lv_at hl 1 rfl) ?_
  refine q_get hx hb hts in_X7 hown S m_so e_so (C := RX7) (T := TX7) (N := 9) rfl 7 (by decide) rfl (hts (.fieldLink RX7 47 "SieveCabinet$Solver" "count" "I") (by decide +kernel)) dX7_spread_20 ?_
  refine lv_icmp_ge (tgt := 117) hx hb dX7_spread_23 (by decide) (fun b23 => ?_) (fun b23 => absurd (by decide) b23)
  refine lv_aload_n hx hb dX7_spread_117 rfl (lv_at hl 1 rfl) ?_
  refine q_get hx hb hts in_X7 hown S m_so e_so (C := RX7) (T := TX7) (N := 9) rfl 4 (by decide) rfl (hts (.fieldLink RX7 27 "SieveCabinet$Solver" "singles" "LSieveCabinet$BitRow;") (by decide +kernel)) dX7_spread_118 ?_
  refine lv_aload_n hx hb dX7_spread_121 rfl (lv_at hl 1 rfl) ?_
  refine q_vi (As := []) (rest := [.ref si]) ⟨hx, hb, hml, hown, hts⟩ (c_X7_places0 l D g m_so e_so ) (cwV 0 hts gX7_spread_X7_places rfl rfl rfl (by decide +kernel) ⟨Nat.le_of_ble_eq_true rfl, Nat.le_of_ble_eq_true rfl⟩) S m_so e_so (T := TX7) (N := 9) rfl rfl hl.1 rfl (Nat.le_of_ble_eq_true rfl) dX7_spread_122 ⟨Nat.le_of_ble_eq_true rfl, Nat.le_of_ble_eq_true rfl⟩ (fun r11 L9 f10 H locs S w122 => ?_)
  obtain ⟨exw122, eLw122, efw122⟩ := w122
  rw [eLw122, efw122] at S
  subst exw122
  refine q_vv (As := [.int 24]) (rest := []) ⟨hx, hb, hml, hown, hts⟩ (c_X1_begin l D g (b1 := 24) m_si e_si m_sw e_sw (by decide)) (cwV 1 hts gX7_spread_X1_begin rfl rfl rfl (by decide +kernel) ⟨Nat.le_of_ble_eq_true rfl, Nat.le_of_ble_eq_true rfl⟩) S m_si e_si (T := TX1) (N := 2) rfl rfl hl.1 rfl (Nat.le_of_ble_eq_true rfl) dX7_spread_125 ⟨Nat.le_of_ble_eq_true rfl, Nat.le_of_ble_eq_true rfl⟩ (fun L12 f13 H locs S w125 => ?_)
  obtain ⟨eLw125, fvw125, v1_125_1, E_si, E_sw⟩ := w125
  rw [eLw125] at S
  have e_so : f13 so = .inr (5, [.ref pa, .ref ta, .ref la, .ref ba, .ref si, .ref tt, .ref tp, .int 0, .int 8]) := (fvw125 so m_so (ne_sh e_si e_so (by intro h; injection h with h; injection h with h1 h2; first | (cases h1; done) | (cases h2; done) | (injection h2 with h3 h4; cases h4; done))) (ne_sh e_sw e_so (fun h => by cases h))).trans e_so
  have e_la : f13 la = .inl (g 0, 3774, .inl fz5) := (fvw125 la m_la (ne_sh e_si e_la (fun h => by cases h)) (ne_sh e_sw e_la (by intro h; injection h with h; injection h with h1 h2; first | (cases h1; done) | (cases h2; done) | (injection h2 with h3 h4; cases h4; done)))).trans e_la
  have e_ba : f13 ba = .inl (g 0, 3774, .inl fz13) := (fvw125 ba m_ba (ne_sh e_si e_ba (fun h => by cases h)) (ne_sh e_sw e_ba (by intro h; injection h with h; injection h with h1 h2; first | (cases h1; done) | (cases h2; done) | (injection h2 with h3 h4; cases h4; done)))).trans e_ba
  have e_si := E_si
  have e_sw := E_sw
  have fr : ∀ b, b ∈ L → b ≠ la → b ≠ ba → b ≠ si → b ≠ sw → f13 b = f b := fun b mb nb0 nb1 nb2 nb3 => (fvw125 b (mono b mb) nb2 nb3).trans (fr b mb nb0 nb1 nb2 nb3)
  refine lv_iconst (v := 0) hx hb dX7_spread_128 (by decide) ?_
  refine lv_istore_n (lv' := [(3, .int 0), (0, .ref so), (1, .ref ob), (2, .int sd)]) hx hb dX7_spread_129 rfl hl (by decide) rfl (fun ls hl => ?_)
  obtain ⟨i, ei⟩ : ∃ z_ : Nat, z_ = 0 := ⟨_, rfl⟩
  obtain ⟨k_sw, ek_sw⟩ : ∃ z_ : Nat → Int64, z_ = v1_125_1 := ⟨_, rfl⟩
  obtain ⟨fl, efl⟩ : ∃ z_, z_ = f13 := ⟨_, rfl⟩
  have e_so : fl so = .inr (5, [.ref pa, .ref ta, .ref la, .ref ba, .ref si, .ref tt, .ref tp, .int 0, .int 8]) := by rw [efl]; exact e_so
  have e_la : fl la = .inl (g 0, 3774, .inl fz5) := by rw [efl]; exact e_la
  have e_ba : fl ba = .inl (g 0, 3774, .inl fz13) := by rw [efl]; exact e_ba
  have e_si : fl si = .inr (1, [.ref sw, .int ((nI 24))]) := by rw [efl]; exact e_si
  have e_sw : fl sw = .inl (g 1, 64, .inr (.inl k_sw)) := by rw [efl, ek_sw]; exact e_sw
  have fr : ∀ b, b ∈ L → b ≠ la → b ≠ ba → b ≠ si → b ≠ sw → fl b = f b := by rw [efl]; exact fr
  have S_0 : PS D g (va_A (va_pl L f) sz) s.heap s L fl H locs := by rw [efl]; exact S
  refine W_any (X := fun H locs => PS D g (va_A (va_pl L f) sz) s.heap s L fl H locs) S_0 (fun H locs S => ?_)
  refine W_ls (lv := [(3, .int ((nI i))), (0, .ref so), (1, .ref ob), (2, .int sd)]) (by have q := lv_sub hl [0, 1, 2, 3] rfl; rw [ei]; exact q) (fun ls hl => ?_)
  obtain ⟨d, hd⟩ : ∃ z_ : Nat, i + z_ = 24 := ⟨24 - i, by omega⟩
  clear ei ek_sw efl S_0
  induction d generalizing i k_sw fl H locs ls with
  | zero =>
    have hN : i = 24 := by omega
    refine lv_iload_n hx hb dX7_spread_130 rfl (lv_at hl 0 rfl) ?_
    refine lv_aload_n hx hb dX7_spread_131 rfl (lv_at hl 1 rfl) ?_
    refine q_vi (As := []) (rest := [.int ((nI i))]) ⟨hx, hb, hml, hown, hts⟩ (c_X7_places0 l D g m_so e_so ) (cwV 0 hts gX7_spread_X7_places rfl rfl rfl (by decide +kernel) ⟨Nat.le_of_ble_eq_true rfl, Nat.le_of_ble_eq_true rfl⟩) S m_so e_so (T := TX7) (N := 9) rfl rfl hl.1 rfl (Nat.le_of_ble_eq_true rfl) dX7_spread_132 ⟨Nat.le_of_ble_eq_true rfl, Nat.le_of_ble_eq_true rfl⟩ (fun r17 L15 f16 H locs S w132 => ?_)
    obtain ⟨exw132, eLw132, efw132⟩ := w132
    rw [eLw132, efw132] at S
    subst exw132
    refine lv_icmp_ge (tgt := 149) hx hb dX7_spread_135 (by decide) (fun b135 => ?_) (fun b135 => absurd (by rw [hN]; decide) b135)
    exact q_retv (post := fun L1 f1 => L1 = L ∧ (∀ b, b ∈ L → b ≠ la → b ≠ ba → b ≠ si → b ≠ sw → f1 b = f b) ∧ ∃ v1 : Nat → Int32, ∃ v2 : Nat → Int32, ∃ v3 : Nat → Int64, f1 la = .inl (g 0, 3774, .inl v1) ∧ f1 ba = .inl (g 0, 3774, .inl v2) ∧ f1 si = .inr (1, [.ref sw, .int ((nI 24))]) ∧ f1 sw = .inl (g 1, 64, .inr (.inl v3))) hx hb hr hlk S dX7_spread_149 (by decide) (by decide) (⟨rfl, fr, _, _, _, e_la, e_ba, e_si, e_sw⟩)
  | succ d ih =>
    have hlt : i < 24 := by omega
    refine lv_iload_n hx hb dX7_spread_130 rfl (lv_at hl 0 rfl) ?_
    refine lv_aload_n hx hb dX7_spread_131 rfl (lv_at hl 1 rfl) ?_
    refine q_vi (As := []) (rest := [.int ((nI i))]) ⟨hx, hb, hml, hown, hts⟩ (c_X7_places0 l D g m_so e_so ) (cwV 0 hts gX7_spread_X7_places rfl rfl rfl (by decide +kernel) ⟨Nat.le_of_ble_eq_true rfl, Nat.le_of_ble_eq_true rfl⟩) S m_so e_so (T := TX7) (N := 9) rfl rfl hl.1 rfl (Nat.le_of_ble_eq_true rfl) dX7_spread_132 ⟨Nat.le_of_ble_eq_true rfl, Nat.le_of_ble_eq_true rfl⟩ (fun r20 L18 f19 H locs S w132 => ?_)
    obtain ⟨exw132, eLw132, efw132⟩ := w132
    rw [eLw132, efw132] at S
    subst exw132
    refine lv_icmp_ge (tgt := 149) hx hb dX7_spread_135 (by decide) (fun b135 => absurd b135 (nI_ge (b := 24) hlt (by decide))) (fun b135 => ?_)
    refine lv_aload_n hx hb dX7_spread_138 rfl (lv_at hl 1 rfl) ?_
    refine lv_iload_n hx hb dX7_spread_139 rfl (lv_at hl 0 rfl) ?_
    refine q_vv (As := [.int ((nI i))]) (rest := []) ⟨hx, hb, hml, hown, hts⟩ (c_X7_noteIfSingle l D g  m_so e_so m_la e_la m_si e_si m_sw e_sw (by omega) (by decide)) (cwV 1 hts gX7_spread_X7_noteIfSingle rfl rfl rfl (by decide +kernel) ⟨Nat.le_of_ble_eq_true rfl, Nat.le_of_ble_eq_true rfl⟩) S m_so e_so (T := TX7) (N := 9) rfl rfl hl.1 rfl (Nat.le_of_ble_eq_true rfl) dX7_spread_140 ⟨Nat.le_of_ble_eq_true rfl, Nat.le_of_ble_eq_true rfl⟩ (fun L21 f22 H locs S w140 => ?_)
    obtain ⟨eLw140, fvw140, v1_140_1, E_sw⟩ := w140
    rw [eLw140] at S
    have e_so : f22 so = .inr (5, [.ref pa, .ref ta, .ref la, .ref ba, .ref si, .ref tt, .ref tp, .int 0, .int 8]) := (fvw140 so m_so (ne_sh e_sw e_so (fun h => by cases h))).trans e_so
    have e_la : f22 la = .inl (g 0, 3774, .inl fz5) := (fvw140 la m_la (ne_sh e_sw e_la (by intro h; injection h with h; injection h with h1 h2; first | (cases h1; done) | (cases h2; done) | (injection h2 with h3 h4; cases h4; done)))).trans e_la
    have e_ba : f22 ba = .inl (g 0, 3774, .inl fz13) := (fvw140 ba m_ba (ne_sh e_sw e_ba (by intro h; injection h with h; injection h with h1 h2; first | (cases h1; done) | (cases h2; done) | (injection h2 with h3 h4; cases h4; done)))).trans e_ba
    have e_si : f22 si = .inr (1, [.ref sw, .int ((nI 24))]) := (fvw140 si m_si (ne_sh e_sw e_si (fun h => by cases h))).trans e_si
    have e_sw := E_sw
    have fr : ∀ b, b ∈ L → b ≠ la → b ≠ ba → b ≠ si → b ≠ sw → f22 b = f b := fun b mb nb0 nb1 nb2 nb3 => (fvw140 b (mono b mb) nb3).trans (fr b mb nb0 nb1 nb2 nb3)
    obtain ⟨i1, ei1⟩ : ∃ y : Int32, y = (nI i) + (1) := ⟨_, rfl⟩
    refine lv_iinc (v := i1) (lv' := [(3, .int i1), (0, .ref so), (1, .ref ob), (2, .int sd)]) hx hb dX7_spread_143 hl (k := 0) rfl (by rw [ei1]; rfl) (by decide) rfl (fun ls hl => ?_)
    refine lv_goto (tgt := 130) hx hb dX7_spread_146 (by decide) ?_
    exact ih (i := (i + 1)) (k_sw := v1_140_1) (fl := f22) (e_so := e_so) (e_la := e_la) (e_ba := e_ba) (e_si := e_si) (e_sw := e_sw) (fr := fr) (H := _) (locs := _) (S := S) (ls := ls) (hd := by omega) (hl := by have q := lv_sub hl [0, 1, 2, 3] rfl; rw [ei1, nI_1] at q; exact q)

set_option maxHeartbeats 4000000 in
set_option maxRecDepth 100000 in
/-- Solver.takeAllOff of nothing -/
theorem c_X7_takeAllOff0 (l : Launch) (D : va_G) (g : Nat → ClassId) {L : List Nat} {f : Nat → va_E} {so pa ta la ba si tt tp : Nat} {th3 : Int32}   (m_so : so ∈ L) (e_so : f so = .inr (5, [.ref pa, .ref ta, .ref la, .ref ba, .ref si, .ref tt, .ref tp, .int 0, .int th3]))  : cI l yX7_takeAllOff wsX7_takeAllOff { frames := 0, cells := 0, slots := 0, locals := 0 } D g [.ref so] L f 0 0 (fun x L1 f1 => x = 1 ∧ L1 = L ∧ f1 = f) := by
  refine cI_of (cc := cX7_takeAllOff) (maxL := 3) (ret := (some .boolean)) (by decide) rfl (Nat.le_of_ble_eq_true rfl) ?_
  intro sz p e s m below meth c hx hb hr hml hts hown hlk hnm S ls hl
  have hl : lv_has ls 3 [(0, .ref so)] := hl
  have in_X7 : ∀ w ∈ wsX70, w ∈ wsX7_takeAllOff := by decide +kernel
  refine lv_iconst (v := 0) hx hb dX7_takeAllOff_0 (by decide) ?_
  refine lv_istore_n (lv' := [(1, .int 0), (0, .ref so)]) hx hb dX7_takeAllOff_1 rfl hl (by decide) rfl (fun ls hl => ?_)
  refine lv_iload_n hx hb dX7_takeAllOff_2 rfl (lv_at hl 0 rfl) ?_
  refine lv_aload_n hx hb dX7_takeAllOff_3 rfl (lv_at hl 1 rfl) ?_
  refine q_get hx hb hts in_X7 hown S m_so e_so (C := RX7) (T := TX7) (N := 9) rfl 7 (by decide) rfl (hts (.fieldLink RX7 47 "SieveCabinet$Solver" "count" "I") (by decide +kernel)) dX7_takeAllOff_4 ?_
  refine lv_icmp_ge (tgt := 59) hx hb dX7_takeAllOff_7 (by decide) (fun b7 => ?_) (fun b7 => absurd (by decide) b7)
  refine lv_iconst (v := 1) hx hb dX7_takeAllOff_59 (by decide) ?_
  exact q_retz (post := fun x L1 f1 => x = 1 ∧ L1 = L ∧ f1 = f) hx hb hr hlk S dX7_takeAllOff_60 (by decide) (by decide) (by decide) (⟨rfl, rfl, rfl⟩)

set_option maxHeartbeats 4000000 in
set_option maxRecDepth 100000 in
/-- Solver.fill of nothing -/
theorem c_X7_fill0 (l : Launch) (D : va_G) (g : Nat → ClassId) {L : List Nat} {f : Nat → va_E} {so pa ta la ba si tt tp : Nat} {th3 : Int32}   {sv : Nat} (m_so : so ∈ L) (e_so : f so = .inr (5, [.ref pa, .ref ta, .ref la, .ref ba, .ref si, .ref tt, .ref tp, .int 0, .int th3]))  : cV l yX7_fill wsX7_fill { frames := 0, cells := 0, slots := 0, locals := 0 } D g [.ref so, .ref sv] L f 0 0 (fun L1 f1 => L1 = L ∧ f1 = f) := by
  refine cV_of (cc := cX7_fill) (maxL := 7) (ret := none) (by decide) rfl (Nat.le_of_ble_eq_true rfl) ?_
  intro sz p e s m below meth c hx hb hr hml hts hown hlk hnm S ls hl
  have hl : lv_has ls 7 [(0, .ref so), (1, .ref sv)] := hl
  have in_X7 : ∀ w ∈ wsX70, w ∈ wsX7_fill := by decide +kernel
  refine lv_aload_n hx hb dX7_fill_0 rfl (lv_at hl 0 rfl) ?_
  refine q_get hx hb hts in_X7 hown S m_so e_so (C := RX7) (T := TX7) (N := 9) rfl 7 (by decide) rfl (hts (.fieldLink RX7 47 "SieveCabinet$Solver" "count" "I") (by decide +kernel)) dX7_fill_1 ?_
  refine lv_iconst (v := 1) hx hb dX7_fill_4 (by decide) ?_
  refine lv_isub hx hb dX7_fill_5 ?_
  refine lv_topi (fun t_ et_ => ?_)
  obtain rfl : t_ = (-1) := et_.trans (by decide)
  refine lv_istore_n (lv' := [(2, .int ((-1))), (0, .ref so), (1, .ref sv)]) hx hb dX7_fill_6 rfl hl (by decide) rfl (fun ls hl => ?_)
  refine lv_iload_n hx hb dX7_fill_7 rfl (lv_at hl 0 rfl) ?_
  refine lv_if_lt (tgt := 98) hx hb dX7_fill_8 (by decide) (fun b8 => ?_) (fun b8 => absurd (by decide) b8)
  exact q_retv (post := fun L1 f1 => L1 = L ∧ f1 = f) hx hb hr hlk S dX7_fill_98 (by decide) (by decide) (⟨rfl, rfl⟩)

set_option maxHeartbeats 4000000 in
set_option maxRecDepth 100000 in
/-- Solver.triesUntilSolved of an empty world -/
theorem c_X7_tries0 (l : Launch) (D : va_G) (g : Nat → ClassId) {L : List Nat} {f : Nat → va_E} {so pa ta la ba si tt tp sw b0 : Nat} {cn th3 : Int32} {vl vb : Nat → Int32} {vs : Nat → Int64} {ob obr : Nat} {sd : Int32} (m_so : so ∈ L) (e_so : f so = .inr (5, [.ref pa, .ref ta, .ref la, .ref ba, .ref si, .ref tt, .ref tp, .int cn, .int th3])) (m_ob : ob ∈ L) (e_ob : f ob = .inr (0, [.ref obr, .int ((nI 0))])) (m_la : la ∈ L) (e_la : f la = .inl (g 0, 3774, .inl vl)) (m_ba : ba ∈ L) (e_ba : f ba = .inl (g 0, 3774, .inl vb)) (m_si : si ∈ L) (e_si : f si = .inr (1, [.ref sw, .int ((nI b0))])) (m_sw : sw ∈ L) (e_sw : f sw = .inl (g 1, 64, .inr (.inl vs))) (n_ba_la : ba ≠ la) : cI l yX7_triesUntilSolved wsX7_triesUntilSolved { frames := 3, cells := 0, slots := 0, locals := 72 } D g [.ref so, .ref ob, .int sd] L f 0 0 (fun x L1 f1 => x = 0 ∧ L1 = L ∧ (∀ b, b ∈ L → b ≠ so → b ≠ la → b ≠ ba → b ≠ si → b ≠ sw → f1 b = f b) ∧ ∃ v1 : Nat → Int32, ∃ v2 : Nat → Int32, ∃ v3 : Nat → Int64, f1 so = .inr (5, [.ref pa, .ref ta, .ref la, .ref ba, .ref si, .ref tt, .ref tp, .int 0, .int 8]) ∧ f1 la = .inl (g 0, 3774, .inl v1) ∧ f1 ba = .inl (g 0, 3774, .inl v2) ∧ f1 si = .inr (1, [.ref sw, .int ((nI 24))]) ∧ f1 sw = .inl (g 1, 64, .inr (.inl v3))) := by
  refine cI_of (cc := cX7_triesUntilSolved) (maxL := 4) (ret := (some .int)) (by decide) rfl (Nat.le_of_ble_eq_true rfl) ?_
  intro sz p e s m below meth c hx hb hr hml hts hown hlk hnm S ls hl
  have hl : lv_has ls 4 [(0, .ref so), (1, .ref ob), (2, .int sd)] := hl
  have in_X7 : ∀ w ∈ wsX70, w ∈ wsX7_triesUntilSolved := by decide +kernel
  have fr : ∀ b, b ∈ L → b ≠ so → b ≠ la → b ≠ ba → b ≠ si → b ≠ sw → f b = f b := fun _ _ _ _ _ _ _ => rfl
  have mono : ∀ b, b ∈ L → b ∈ L := fun _ h => h
  refine lv_aload_n hx hb dX7_triesUntilSolved_0 rfl (lv_at hl 0 rfl) ?_
  refine lv_aload_n hx hb dX7_triesUntilSolved_1 rfl (lv_at hl 1 rfl) ?_
  refine q_vi (As := []) (rest := [.ref so]) ⟨hx, hb, hml, hown, hts⟩ (c_X0_count l D g m_ob e_ob) (cwV 0 hts gX7_triesUntilSolved_X0_count rfl rfl rfl (by decide +kernel) ⟨Nat.le_of_ble_eq_true rfl, Nat.le_of_ble_eq_true rfl⟩) S m_ob e_ob (T := TX0) (N := 2) rfl rfl hl.1 rfl (Nat.le_of_ble_eq_true rfl) dX7_triesUntilSolved_2 ⟨Nat.le_of_ble_eq_true rfl, Nat.le_of_ble_eq_true rfl⟩ (fun r3 L1 f2 H locs S w2 => ?_)
  obtain ⟨exw2, eLw2, efw2⟩ := w2
  rw [eLw2, efw2] at S
  subst exw2
  refine lv_topi (fun t_ et_ => ?_)
  obtain rfl : t_ = 0 := et_.trans (by decide)
  refine q_put hx hb hts in_X7 tyX7 tyX7_ok nmX7 hown S m_so e_so (C := RX7) (T := TX7) (N := 9) rfl 7 (by decide) (hts (.fieldLink RX7 47 "SieveCabinet$Solver" "count" "I") (by decide +kernel)) rfl rfl rfl (Nat.le_of_ble_eq_true rfl) dX7_triesUntilSolved_5 (fun H locs S => ?_)
  obtain ⟨f4, ef4⟩ : ∃ z_, z_ = va_up f so (.inr (5, [.ref pa, .ref ta, .ref la, .ref ba, .ref si, .ref tt, .ref tp, .int 0, .int th3])) := ⟨_, rfl⟩
  have S : PS D g (va_A (va_pl L f) sz) s.heap s L f4 H locs := by rw [ef4]; exact S
  have e_ob : f4 ob = .inr (0, [.ref obr, .int ((nI 0))]) := up_ne ef4 (ne_sh e_so e_ob (by intro h; injection h with h; injection h with h1 h2; first | (cases h1; done) | (cases h2; done) | (injection h2 with h3 h4; cases h4; done))) e_ob
  have e_la : f4 la = .inl (g 0, 3774, .inl vl) := up_ne ef4 (ne_sh e_so e_la (fun h => by cases h)) e_la
  have e_ba : f4 ba = .inl (g 0, 3774, .inl vb) := up_ne ef4 (ne_sh e_so e_ba (fun h => by cases h)) e_ba
  have e_si : f4 si = .inr (1, [.ref sw, .int ((nI b0))]) := up_ne ef4 (ne_sh e_so e_si (by intro h; injection h with h; injection h with h1 h2; first | (cases h1; done) | (cases h2; done) | (injection h2 with h3 h4; cases h4; done))) e_si
  have e_sw : f4 sw = .inl (g 1, 64, .inr (.inl vs)) := up_ne ef4 (ne_sh e_so e_sw (fun h => by cases h)) e_sw
  have e_so : f4 so = .inr (5, [.ref pa, .ref ta, .ref la, .ref ba, .ref si, .ref tt, .ref tp, .int 0, .int th3]) := up_self ef4
  have fr : ∀ b, b ∈ L → b ≠ so → b ≠ la → b ≠ ba → b ≠ si → b ≠ sw → f4 b = f b := fun b mb nb0 nb1 nb2 nb3 nb4 => (up_ne ef4 nb0 rfl).trans (fr b mb nb0 nb1 nb2 nb3 nb4)
  refine lv_aload_n hx hb dX7_triesUntilSolved_8 rfl (lv_at hl 0 rfl) ?_
  refine lv_aload_n hx hb dX7_triesUntilSolved_9 rfl (lv_at hl 0 rfl) ?_
  refine q_get hx hb hts in_X7 hown S m_so e_so (C := RX7) (T := TX7) (N := 9) rfl 7 (by decide) rfl (hts (.fieldLink RX7 47 "SieveCabinet$Solver" "count" "I") (by decide +kernel)) dX7_triesUntilSolved_10 ?_
  refine lv_aload_n hx hb dX7_triesUntilSolved_13 rfl (lv_at hl 0 rfl) ?_
  refine q_get hx hb hts in_X7 hown S m_so e_so (C := RX7) (T := TX7) (N := 9) rfl 7 (by decide) rfl (hts (.fieldLink RX7 47 "SieveCabinet$Solver" "count" "I") (by decide +kernel)) dX7_triesUntilSolved_14 ?_
  refine lv_iconst (v := 4) hx hb dX7_triesUntilSolved_17 (by decide) ?_
  refine lv_idiv hx hb dX7_triesUntilSolved_18 (by decide) ?_
  refine lv_topi (fun t_ et_ => ?_)
  obtain rfl : t_ = 0 := et_.trans (by decide)
  refine lv_iadd hx hb dX7_triesUntilSolved_19 ?_
  refine lv_topi (fun t_ et_ => ?_)
  obtain rfl : t_ = 0 := et_.trans (by decide)
  refine lv_bipush (v := 8) hx hb dX7_triesUntilSolved_20 (by decide) ?_
  refine lv_iadd hx hb dX7_triesUntilSolved_22 ?_
  refine lv_topi (fun t_ et_ => ?_)
  obtain rfl : t_ = 8 := et_.trans (by decide)
  refine q_put hx hb hts in_X7 tyX7 tyX7_ok nmX7 hown S m_so e_so (C := RX7) (T := TX7) (N := 9) rfl 8 (by decide) (hts (.fieldLink RX7 37 "SieveCabinet$Solver" "third" "I") (by decide +kernel)) rfl rfl rfl (Nat.le_of_ble_eq_true rfl) dX7_triesUntilSolved_23 (fun H locs S => ?_)
  obtain ⟨f5, ef5⟩ : ∃ z_, z_ = va_up f4 so (.inr (5, [.ref pa, .ref ta, .ref la, .ref ba, .ref si, .ref tt, .ref tp, .int 0, .int 8])) := ⟨_, rfl⟩
  have S : PS D g (va_A (va_pl L f) sz) s.heap s L f5 H locs := by rw [ef5]; exact S
  have e_ob : f5 ob = .inr (0, [.ref obr, .int ((nI 0))]) := up_ne ef5 (ne_sh e_so e_ob (by intro h; injection h with h; injection h with h1 h2; first | (cases h1; done) | (cases h2; done) | (injection h2 with h3 h4; cases h4; done))) e_ob
  have e_la : f5 la = .inl (g 0, 3774, .inl vl) := up_ne ef5 (ne_sh e_so e_la (fun h => by cases h)) e_la
  have e_ba : f5 ba = .inl (g 0, 3774, .inl vb) := up_ne ef5 (ne_sh e_so e_ba (fun h => by cases h)) e_ba
  have e_si : f5 si = .inr (1, [.ref sw, .int ((nI b0))]) := up_ne ef5 (ne_sh e_so e_si (by intro h; injection h with h; injection h with h1 h2; first | (cases h1; done) | (cases h2; done) | (injection h2 with h3 h4; cases h4; done))) e_si
  have e_sw : f5 sw = .inl (g 1, 64, .inr (.inl vs)) := up_ne ef5 (ne_sh e_so e_sw (fun h => by cases h)) e_sw
  have e_so : f5 so = .inr (5, [.ref pa, .ref ta, .ref la, .ref ba, .ref si, .ref tt, .ref tp, .int 0, .int 8]) := up_self ef5
  have fr : ∀ b, b ∈ L → b ≠ so → b ≠ la → b ≠ ba → b ≠ si → b ≠ sw → f5 b = f b := fun b mb nb0 nb1 nb2 nb3 nb4 => (up_ne ef5 nb0 rfl).trans (fr b mb nb0 nb1 nb2 nb3 nb4)
  refine lv_iconst (v := 0) hx hb dX7_triesUntilSolved_26 (by decide) ?_
  refine lv_istore_n (lv' := [(3, .int 0), (0, .ref so), (1, .ref ob), (2, .int sd)]) hx hb dX7_triesUntilSolved_27 rfl hl (by decide) rfl (fun ls hl => ?_)
  refine lv_iload_n hx hb dX7_triesUntilSolved_28 rfl (lv_at hl 0 rfl) ?_
  refine lv_bipush (v := 50) hx hb dX7_triesUntilSolved_29 (by decide) ?_
  refine lv_icmp_ge (tgt := 57) hx hb dX7_triesUntilSolved_31 (by decide) (fun b31 => absurd b31 (by decide)) (fun b31 => ?_)
  refine lv_aload_n hx hb dX7_triesUntilSolved_34 rfl (lv_at hl 1 rfl) ?_
  refine lv_aload_n hx hb dX7_triesUntilSolved_35 rfl (lv_at hl 2 rfl) ?_
  refine lv_iload_n hx hb dX7_triesUntilSolved_36 rfl (lv_at hl 3 rfl) ?_
  refine lv_iload_n hx hb dX7_triesUntilSolved_37 rfl (lv_at hl 0 rfl) ?_
  refine lv_iadd hx hb dX7_triesUntilSolved_38 ?_
  refine q_vv (As := [.ref ob, .int ((sd + 0))]) (rest := []) ⟨hx, hb, hml, hown, hts⟩ (c_X7_spread0 l D g  m_so e_so m_la e_la m_ba e_ba m_si e_si m_sw e_sw n_ba_la) (cwV 2 hts gX7_triesUntilSolved_X7_spread rfl rfl rfl (by decide +kernel) ⟨Nat.le_of_ble_eq_true rfl, Nat.le_of_ble_eq_true rfl⟩) S m_so e_so (T := TX7) (N := 9) rfl rfl hl.1 rfl (Nat.le_of_ble_eq_true rfl) dX7_triesUntilSolved_39 ⟨Nat.le_of_ble_eq_true rfl, Nat.le_of_ble_eq_true rfl⟩ (fun L6 f7 H locs S w39 => ?_)
  obtain ⟨eLw39, fvw39, v1_39_1, v2_39_1, v3_39_1, E_la, E_ba, E_si, E_sw⟩ := w39
  rw [eLw39] at S
  have e_so : f7 so = .inr (5, [.ref pa, .ref ta, .ref la, .ref ba, .ref si, .ref tt, .ref tp, .int 0, .int 8]) := (fvw39 so m_so (ne_sh e_la e_so (fun h => by cases h)) (ne_sh e_ba e_so (fun h => by cases h)) (ne_sh e_si e_so (by intro h; injection h with h; injection h with h1 h2; first | (cases h1; done) | (cases h2; done) | (injection h2 with h3 h4; cases h4; done))) (ne_sh e_sw e_so (fun h => by cases h))).trans e_so
  have e_ob : f7 ob = .inr (0, [.ref obr, .int ((nI 0))]) := (fvw39 ob m_ob (ne_sh e_la e_ob (fun h => by cases h)) (ne_sh e_ba e_ob (fun h => by cases h)) (ne_sh e_si e_ob (by intro h; injection h with h; injection h with h1 h2; first | (cases h1; done) | (cases h2; done) | (injection h2 with h3 h4; cases h4; done))) (ne_sh e_sw e_ob (fun h => by cases h))).trans e_ob
  have e_la := E_la
  have e_ba := E_ba
  have e_si := E_si
  have e_sw := E_sw
  have fr : ∀ b, b ∈ L → b ≠ so → b ≠ la → b ≠ ba → b ≠ si → b ≠ sw → f7 b = f b := fun b mb nb0 nb1 nb2 nb3 nb4 => (fvw39 b (mono b mb) nb1 nb2 nb3 nb4).trans (fr b mb nb0 nb1 nb2 nb3 nb4)
  refine lv_aload_n hx hb dX7_triesUntilSolved_42 rfl (lv_at hl 1 rfl) ?_
  refine q_vi (As := []) (rest := []) ⟨hx, hb, hml, hown, hts⟩ (c_X7_takeAllOff0 l D g m_so e_so ) (cwV 0 hts gX7_triesUntilSolved_X7_takeAllOff rfl rfl rfl (by decide +kernel) ⟨Nat.le_of_ble_eq_true rfl, Nat.le_of_ble_eq_true rfl⟩) S m_so e_so (T := TX7) (N := 9) rfl rfl hl.1 rfl (Nat.le_of_ble_eq_true rfl) dX7_triesUntilSolved_43 ⟨Nat.le_of_ble_eq_true rfl, Nat.le_of_ble_eq_true rfl⟩ (fun r11 L9 f10 H locs S w43 => ?_)
  obtain ⟨exw43, eLw43, efw43⟩ := w43
  rw [eLw43, efw43] at S
  subst exw43
  refine lv_if_eq (tgt := 51) hx hb dX7_triesUntilSolved_46 (by decide) (fun b46 => absurd b46 (by decide)) (fun b46 => ?_)
  refine lv_iload_n hx hb dX7_triesUntilSolved_49 rfl (lv_at hl 0 rfl) ?_
  exact q_reti (post := fun x L1 f1 => x = 0 ∧ L1 = L ∧ (∀ b, b ∈ L → b ≠ so → b ≠ la → b ≠ ba → b ≠ si → b ≠ sw → f1 b = f b) ∧ ∃ v1 : Nat → Int32, ∃ v2 : Nat → Int32, ∃ v3 : Nat → Int64, f1 so = .inr (5, [.ref pa, .ref ta, .ref la, .ref ba, .ref si, .ref tt, .ref tp, .int 0, .int 8]) ∧ f1 la = .inl (g 0, 3774, .inl v1) ∧ f1 ba = .inl (g 0, 3774, .inl v2) ∧ f1 si = .inr (1, [.ref sw, .int ((nI 24))]) ∧ f1 sw = .inl (g 1, 64, .inr (.inl v3))) hx hb hr hlk S dX7_triesUntilSolved_50 (by decide) (by decide) (⟨rfl, rfl, fr, _, _, _, e_so, e_la, e_ba, e_si, e_sw⟩)

set_option maxHeartbeats 4000000 in
set_option maxRecDepth 100000 in
/-- Chooser.begin of empty ones -/
theorem c_X2_begin0 (l : Launch) (D : va_G) (g : Nat → ClassId) {L : List Nat} {f : Nat → va_E} {ch im rm bo : Nat} {c1 c2 : Int32}  {o1 r1 o2 r2 : Nat} {sd : Int32} (m_ch : ch ∈ L) (e_ch : f ch = .inr (2, [.ref im, .ref rm, .ref bo, .int c1, .int c2])) (m_o1 : o1 ∈ L) (e_o1 : f o1 = .inr (0, [.ref r1, .int ((nI 0))])) (m_o2 : o2 ∈ L) (e_o2 : f o2 = .inr (0, [.ref r2, .int ((nI 0))]))  : cV l yX2_begin wsX2_begin { frames := 1, cells := 0, slots := 0, locals := 20 } D g [.ref ch, .ref o1, .ref o2, .int sd] L f 0 0 (fun L1 f1 => L1 = L ∧ (∀ b, b ∈ L → b ≠ ch → f1 b = f b) ∧ f1 ch = .inr (2, [.ref im, .ref rm, .ref bo, .int 0, .int 0])) := by
  refine cV_of (cc := cX2_begin) (maxL := 5) (ret := none) (by decide) rfl (Nat.le_of_ble_eq_true rfl) ?_
  intro sz p e s m below meth c hx hb hr hml hts hown hlk hnm S ls hl
  have hl : lv_has ls 5 [(0, .ref ch), (1, .ref o1), (2, .ref o2), (3, .int sd)] := hl
  have in_X2 : ∀ w ∈ wsX20, w ∈ wsX2_begin := by decide +kernel
  have fr : ∀ b, b ∈ L → b ≠ ch → f b = f b := fun _ _ _ => rfl
  have mono : ∀ b, b ∈ L → b ∈ L := fun _ h => h
  refine lv_aload_n hx hb dX2_begin_0 rfl (lv_at hl 0 rfl) ?_
  refine lv_aload_n hx hb dX2_begin_1 rfl (lv_at hl 1 rfl) ?_
  refine q_vi (As := []) (rest := [.ref ch]) ⟨hx, hb, hml, hown, hts⟩ (c_X0_count l D g m_o1 e_o1) (cwV 0 hts gX2_begin_X0_count rfl rfl rfl (by decide +kernel) ⟨Nat.le_of_ble_eq_true rfl, Nat.le_of_ble_eq_true rfl⟩) S m_o1 e_o1 (T := TX0) (N := 2) rfl rfl hl.1 rfl (Nat.le_of_ble_eq_true rfl) dX2_begin_2 ⟨Nat.le_of_ble_eq_true rfl, Nat.le_of_ble_eq_true rfl⟩ (fun r3 L1 f2 H locs S w2 => ?_)
  obtain ⟨exw2, eLw2, efw2⟩ := w2
  rw [eLw2, efw2] at S
  subst exw2
  refine lv_topi (fun t_ et_ => ?_)
  obtain rfl : t_ = 0 := et_.trans (by decide)
  refine q_put hx hb hts in_X2 tyX2 tyX2_ok nmX2 hown S m_ch e_ch (C := RX2) (T := TX2) (N := 5) rfl 3 (by decide) (hts (.fieldLink RX2 31 "SieveCabinet$Chooser" "inCount" "I") (by decide +kernel)) rfl rfl rfl (Nat.le_of_ble_eq_true rfl) dX2_begin_5 (fun H locs S => ?_)
  obtain ⟨f4, ef4⟩ : ∃ z_, z_ = va_up f ch (.inr (2, [.ref im, .ref rm, .ref bo, .int 0, .int c2])) := ⟨_, rfl⟩
  have S : PS D g (va_A (va_pl L f) sz) s.heap s L f4 H locs := by rw [ef4]; exact S
  have e_o1 : f4 o1 = .inr (0, [.ref r1, .int ((nI 0))]) := up_ne ef4 (ne_sh e_ch e_o1 (by intro h; injection h with h; injection h with h1 h2; first | (cases h1; done) | (cases h2; done) | (injection h2 with h3 h4; cases h4; done))) e_o1
  have e_o2 : f4 o2 = .inr (0, [.ref r2, .int ((nI 0))]) := up_ne ef4 (ne_sh e_ch e_o2 (by intro h; injection h with h; injection h with h1 h2; first | (cases h1; done) | (cases h2; done) | (injection h2 with h3 h4; cases h4; done))) e_o2
  have e_ch : f4 ch = .inr (2, [.ref im, .ref rm, .ref bo, .int 0, .int c2]) := up_self ef4
  have fr : ∀ b, b ∈ L → b ≠ ch → f4 b = f b := fun b mb nb0 => (up_ne ef4 nb0 rfl).trans (fr b mb nb0)
  refine lv_iconst (v := 0) hx hb dX2_begin_8 (by decide) ?_
  refine lv_istore (lv' := [(4, .int 0), (0, .ref ch), (1, .ref o1), (2, .ref o2), (3, .int sd)]) hx hb dX2_begin_9 hl (by decide) rfl (fun ls hl => ?_)
  refine lv_iload hx hb dX2_begin_11 (lv_at hl 0 rfl) ?_
  refine lv_aload_n hx hb dX2_begin_13 rfl (lv_at hl 1 rfl) ?_
  refine q_get hx hb hts in_X2 hown S m_ch e_ch (C := RX2) (T := TX2) (N := 5) rfl 3 (by decide) rfl (hts (.fieldLink RX2 31 "SieveCabinet$Chooser" "inCount" "I") (by decide +kernel)) dX2_begin_14 ?_
  refine lv_icmp_ge (tgt := 43) hx hb dX2_begin_17 (by decide) (fun b17 => ?_) (fun b17 => absurd (by decide) b17)
  refine lv_aload_n hx hb dX2_begin_43 rfl (lv_at hl 1 rfl) ?_
  refine lv_aload_n hx hb dX2_begin_44 rfl (lv_at hl 3 rfl) ?_
  refine q_vi (As := []) (rest := [.ref ch]) ⟨hx, hb, hml, hown, hts⟩ (c_X0_count l D g m_o2 e_o2) (cwV 0 hts gX2_begin_X0_count rfl rfl rfl (by decide +kernel) ⟨Nat.le_of_ble_eq_true rfl, Nat.le_of_ble_eq_true rfl⟩) S m_o2 e_o2 (T := TX0) (N := 2) rfl rfl hl.1 rfl (Nat.le_of_ble_eq_true rfl) dX2_begin_45 ⟨Nat.le_of_ble_eq_true rfl, Nat.le_of_ble_eq_true rfl⟩ (fun r7 L5 f6 H locs S w45 => ?_)
  obtain ⟨exw45, eLw45, efw45⟩ := w45
  rw [eLw45, efw45] at S
  subst exw45
  refine lv_topi (fun t_ et_ => ?_)
  obtain rfl : t_ = 0 := et_.trans (by decide)
  refine q_put hx hb hts in_X2 tyX2 tyX2_ok nmX2 hown S m_ch e_ch (C := RX2) (T := TX2) (N := 5) rfl 4 (by decide) (hts (.fieldLink RX2 45 "SieveCabinet$Chooser" "rivalCount" "I") (by decide +kernel)) rfl rfl rfl (Nat.le_of_ble_eq_true rfl) dX2_begin_48 (fun H locs S => ?_)
  obtain ⟨f8, ef8⟩ : ∃ z_, z_ = va_up f4 ch (.inr (2, [.ref im, .ref rm, .ref bo, .int 0, .int 0])) := ⟨_, rfl⟩
  have S : PS D g (va_A (va_pl L f) sz) s.heap s L f8 H locs := by rw [ef8]; exact S
  have e_o1 : f8 o1 = .inr (0, [.ref r1, .int ((nI 0))]) := up_ne ef8 (ne_sh e_ch e_o1 (by intro h; injection h with h; injection h with h1 h2; first | (cases h1; done) | (cases h2; done) | (injection h2 with h3 h4; cases h4; done))) e_o1
  have e_o2 : f8 o2 = .inr (0, [.ref r2, .int ((nI 0))]) := up_ne ef8 (ne_sh e_ch e_o2 (by intro h; injection h with h; injection h with h1 h2; first | (cases h1; done) | (cases h2; done) | (injection h2 with h3 h4; cases h4; done))) e_o2
  have e_ch : f8 ch = .inr (2, [.ref im, .ref rm, .ref bo, .int 0, .int 0]) := up_self ef8
  have fr : ∀ b, b ∈ L → b ≠ ch → f8 b = f b := fun b mb nb0 => (up_ne ef8 nb0 rfl).trans (fr b mb nb0)
  refine lv_iconst (v := 0) hx hb dX2_begin_51 (by decide) ?_
  refine lv_istore (lv' := [(4, .int 0), (0, .ref ch), (1, .ref o1), (2, .ref o2), (3, .int sd)]) hx hb dX2_begin_52 hl (by decide) rfl (fun ls hl => ?_)
  refine lv_iload hx hb dX2_begin_54 (lv_at hl 0 rfl) ?_
  refine lv_aload_n hx hb dX2_begin_56 rfl (lv_at hl 1 rfl) ?_
  refine q_get hx hb hts in_X2 hown S m_ch e_ch (C := RX2) (T := TX2) (N := 5) rfl 4 (by decide) rfl (hts (.fieldLink RX2 45 "SieveCabinet$Chooser" "rivalCount" "I") (by decide +kernel)) dX2_begin_57 ?_
  refine lv_icmp_ge (tgt := 86) hx hb dX2_begin_60 (by decide) (fun b60 => ?_) (fun b60 => absurd (by decide) b60)
  exact q_retv (post := fun L1 f1 => L1 = L ∧ (∀ b, b ∈ L → b ≠ ch → f1 b = f b) ∧ f1 ch = .inr (2, [.ref im, .ref rm, .ref bo, .int 0, .int 0])) hx hb hr hlk S dX2_begin_86 (by decide) (by decide) (⟨rfl, fr, e_ch⟩)

set_option maxHeartbeats 4000000 in
set_option maxRecDepth 100000 in
/-- Chooser.setMark of nothing -/
theorem c_X2_setMark0 (l : Launch) (D : va_G) (g : Nat → ClassId) {L : List Nat} {f : Nat → va_E} {ch im rm bo : Nat} {c2 : Int32}  {a1 a2 : Int32} (m_ch : ch ∈ L) (e_ch : f ch = .inr (2, [.ref im, .ref rm, .ref bo, .int 0, .int c2]))  : cV l yX2_setMark wsX2_setMark { frames := 0, cells := 0, slots := 0, locals := 0 } D g [.ref ch, .int a1, .int a2] L f 0 0 (fun L1 f1 => L1 = L ∧ f1 = f) := by
  refine cV_of (cc := cX2_setMark) (maxL := 4) (ret := none) (by decide) rfl (Nat.le_of_ble_eq_true rfl) ?_
  intro sz p e s m below meth c hx hb hr hml hts hown hlk hnm S ls hl
  have hl : lv_has ls 4 [(0, .ref ch), (1, .int a1), (2, .int a2)] := hl
  have in_X2 : ∀ w ∈ wsX20, w ∈ wsX2_setMark := by decide +kernel
  refine lv_iconst (v := 0) hx hb dX2_setMark_0 (by decide) ?_
  refine lv_istore_n (lv' := [(3, .int 0), (0, .ref ch), (1, .int a1), (2, .int a2)]) hx hb dX2_setMark_1 rfl hl (by decide) rfl (fun ls hl => ?_)
  refine lv_iload_n hx hb dX2_setMark_2 rfl (lv_at hl 0 rfl) ?_
  refine lv_aload_n hx hb dX2_setMark_3 rfl (lv_at hl 1 rfl) ?_
  refine q_get hx hb hts in_X2 hown S m_ch e_ch (C := RX2) (T := TX2) (N := 5) rfl 3 (by decide) rfl (hts (.fieldLink RX2 31 "SieveCabinet$Chooser" "inCount" "I") (by decide +kernel)) dX2_setMark_4 ?_
  refine lv_icmp_ge (tgt := 34) hx hb dX2_setMark_7 (by decide) (fun b7 => ?_) (fun b7 => absurd (by decide) b7)
  exact q_retv (post := fun L1 f1 => L1 = L ∧ f1 = f) hx hb hr hlk S dX2_setMark_34 (by decide) (by decide) (⟨rfl, rfl⟩)

set_option maxHeartbeats 4000000 in
set_option maxRecDepth 100000 in
/-- Chooser.countFalses of nothing -/
theorem c_X2_countFalses0 (l : Launch) (D : va_G) (g : Nat → ClassId) {L : List Nat} {f : Nat → va_E} {ch im rm bo : Nat} {c1 : Int32}  {a1 a2 : Int32} (m_ch : ch ∈ L) (e_ch : f ch = .inr (2, [.ref im, .ref rm, .ref bo, .int c1, .int 0]))  : cI l yX2_countFalses wsX2_countFalses { frames := 0, cells := 0, slots := 0, locals := 0 } D g [.ref ch, .int a1, .int a2] L f 0 0 (fun x L1 f1 => x = 0 ∧ L1 = L ∧ f1 = f) := by
  refine cI_of (cc := cX2_countFalses) (maxL := 5) (ret := (some .int)) (by decide) rfl (Nat.le_of_ble_eq_true rfl) ?_
  intro sz p e s m below meth c hx hb hr hml hts hown hlk hnm S ls hl
  have hl : lv_has ls 5 [(0, .ref ch), (1, .int a1), (2, .int a2)] := hl
  have in_X2 : ∀ w ∈ wsX20, w ∈ wsX2_countFalses := by decide +kernel
  refine lv_iconst (v := 0) hx hb dX2_countFalses_0 (by decide) ?_
  refine lv_istore_n (lv' := [(3, .int 0), (0, .ref ch), (1, .int a1), (2, .int a2)]) hx hb dX2_countFalses_1 rfl hl (by decide) rfl (fun ls hl => ?_)
  refine lv_iconst (v := 0) hx hb dX2_countFalses_2 (by decide) ?_
  refine lv_istore (lv' := [(4, .int 0), (3, .int 0), (0, .ref ch), (1, .int a1), (2, .int a2)]) hx hb dX2_countFalses_3 hl (by decide) rfl (fun ls hl => ?_)
  refine lv_iload hx hb dX2_countFalses_5 (lv_at hl 0 rfl) ?_
  refine lv_aload_n hx hb dX2_countFalses_7 rfl (lv_at hl 2 rfl) ?_
  refine q_get hx hb hts in_X2 hown S m_ch e_ch (C := RX2) (T := TX2) (N := 5) rfl 4 (by decide) rfl (hts (.fieldLink RX2 45 "SieveCabinet$Chooser" "rivalCount" "I") (by decide +kernel)) dX2_countFalses_8 ?_
  refine lv_icmp_ge (tgt := 46) hx hb dX2_countFalses_11 (by decide) (fun b11 => ?_) (fun b11 => absurd (by decide) b11)
  refine lv_iload_n hx hb dX2_countFalses_46 rfl (lv_at hl 1 rfl) ?_
  exact q_reti (post := fun x L1 f1 => x = 0 ∧ L1 = L ∧ f1 = f) hx hb hr hlk S dX2_countFalses_47 (by decide) (by decide) (⟨rfl, rfl, rfl⟩)

set_option maxHeartbeats 4000000 in
set_option maxRecDepth 100000 in
/-- Chooser.choose of nothing -/
theorem c_X2_choose0 (l : Launch) (D : va_G) (g : Nat → ClassId) {L : List Nat} {f : Nat → va_E} {ch im rm bo bw b0 : Nat}  {vs : Nat → Int64} {mo : Int32} (m_ch : ch ∈ L) (e_ch : f ch = .inr (2, [.ref im, .ref rm, .ref bo, .int 0, .int 0])) (m_bo : bo ∈ L) (e_bo : f bo = .inr (1, [.ref bw, .int ((nI b0))])) (m_bw : bw ∈ L) (e_bw : f bw = .inl (g 1, 64, .inr (.inl vs))) (hmo : ¬ mo < 8) : cI l yX2_choose wsX2_choose { frames := 2, cells := 0, slots := 0, locals := 45 } D g [.ref ch, .int mo] L f 0 0 (fun x L1 f1 => x = 129 ∧ L1 = L ∧ (∀ b, b ∈ L → b ≠ bo → b ≠ bw → f1 b = f b) ∧ ∃ v1 : Nat → Int64, f1 bo = .inr (1, [.ref bw, .int ((nI 8))]) ∧ f1 bw = .inl (g 1, 64, .inr (.inl v1))) := by
  refine cI_of (cc := cX2_choose) (maxL := 7) (ret := (some .int)) (by decide) rfl (Nat.le_of_ble_eq_true rfl) ?_
  intro sz p e s m below meth c hx hb hr hml hts hown hlk hnm S ls hl
  have hl : lv_has ls 7 [(0, .ref ch), (1, .int mo)] := hl
  have in_X2 : ∀ w ∈ wsX20, w ∈ wsX2_choose := by decide +kernel
  have fr : ∀ b, b ∈ L → b ≠ bo → b ≠ bw → f b = f b := fun _ _ _ _ => rfl
  have mono : ∀ b, b ∈ L → b ∈ L := fun _ h => h
  refine lv_sipush (v := 1001) hx hb dX2_choose_0 (by decide) ?_
  refine lv_istore_n (lv' := [(2, .int 1001), (0, .ref ch), (1, .int mo)]) hx hb dX2_choose_3 rfl hl (by decide) rfl (fun ls hl => ?_)
  refine lv_iconst (v := 0) hx hb dX2_choose_4 (by decide) ?_
  refine lv_istore_n (lv' := [(3, .int 0), (2, .int 1001), (0, .ref ch), (1, .int mo)]) hx hb dX2_choose_5 rfl hl (by decide) rfl (fun ls hl => ?_)
  refine lv_bipush (v := 8) hx hb dX2_choose_6 (by decide) ?_
  refine lv_istore (lv' := [(4, .int 8), (3, .int 0), (2, .int 1001), (0, .ref ch), (1, .int mo)]) hx hb dX2_choose_8 hl (by decide) rfl (fun ls hl => ?_)
  refine lv_iload hx hb dX2_choose_10 (lv_at hl 0 rfl) ?_
  refine lv_iload_n hx hb dX2_choose_12 rfl (lv_at hl 4 rfl) ?_
  refine lv_icmp_gt (tgt := 102) hx hb dX2_choose_13 (by decide) (fun b13 => absurd b13 (hmo)) (fun b13 => ?_)
  refine lv_iload hx hb dX2_choose_16 (lv_at hl 0 rfl) ?_
  refine lv_sipush (v := 4096) hx hb dX2_choose_18 (by decide) ?_
  refine lv_icmp_gt (tgt := 102) hx hb dX2_choose_21 (by decide) (fun b21 => absurd b21 (by decide)) (fun b21 => ?_)
  refine lv_aload_n hx hb dX2_choose_24 rfl (lv_at hl 3 rfl) ?_
  refine q_get hx hb hts in_X2 hown S m_ch e_ch (C := RX2) (T := TX2) (N := 5) rfl 2 (by decide) rfl (hts (.fieldLink RX2 21 "SieveCabinet$Chooser" "bits" "LSieveCabinet$BitRow;") (by decide +kernel)) dX2_choose_25 ?_
  refine lv_iload hx hb dX2_choose_28 (lv_at hl 0 rfl) ?_
  refine q_vv (As := [.int 8]) (rest := []) ⟨hx, hb, hml, hown, hts⟩ (c_X1_begin l D g (b1 := 8) m_bo e_bo m_bw e_bw (by decide)) (cwV 1 hts gX2_choose_X1_begin rfl rfl rfl (by decide +kernel) ⟨Nat.le_of_ble_eq_true rfl, Nat.le_of_ble_eq_true rfl⟩) S m_bo e_bo (T := TX1) (N := 2) rfl rfl hl.1 rfl (Nat.le_of_ble_eq_true rfl) dX2_choose_30 ⟨Nat.le_of_ble_eq_true rfl, Nat.le_of_ble_eq_true rfl⟩ (fun L1 f2 H locs S w30 => ?_)
  obtain ⟨eLw30, fvw30, v1_30_1, E_bo, E_bw⟩ := w30
  rw [eLw30] at S
  have e_ch : f2 ch = .inr (2, [.ref im, .ref rm, .ref bo, .int 0, .int 0]) := (fvw30 ch m_ch (ne_sh e_bo e_ch (by intro h; injection h with h; injection h with h1 h2; first | (cases h1; done) | (cases h2; done) | (injection h2 with h3 h4; cases h4; done))) (ne_sh e_bw e_ch (fun h => by cases h))).trans e_ch
  have e_bo := E_bo
  have e_bw := E_bw
  have fr : ∀ b, b ∈ L → b ≠ bo → b ≠ bw → f2 b = f b := fun b mb nb0 nb1 => (fvw30 b (mono b mb) nb0 nb1).trans (fr b mb nb0 nb1)
  refine lv_iconst (v := 1) hx hb dX2_choose_33 (by decide) ?_
  refine lv_istore (lv' := [(5, .int 1), (4, .int 8), (3, .int 0), (2, .int 1001), (0, .ref ch), (1, .int mo)]) hx hb dX2_choose_34 hl (by decide) rfl (fun ls hl => ?_)
  refine lv_iload hx hb dX2_choose_36 (lv_at hl 0 rfl) ?_
  refine lv_bipush (v := 8) hx hb dX2_choose_38 (by decide) ?_
  refine lv_icmp_gt (tgt := 93) hx hb dX2_choose_40 (by decide) (fun b40 => absurd b40 (by decide)) (fun b40 => ?_)
  refine lv_aload_n hx hb dX2_choose_43 rfl (lv_at hl 4 rfl) ?_
  refine lv_iload hx hb dX2_choose_44 (lv_at hl 0 rfl) ?_
  refine lv_iconst (v := 1) hx hb dX2_choose_46 (by decide) ?_
  refine lv_isub hx hb dX2_choose_47 ?_
  refine lv_topi (fun t_ et_ => ?_)
  obtain rfl : t_ = 0 := et_.trans (by decide)
  refine lv_iload hx hb dX2_choose_48 (lv_at hl 1 rfl) ?_
  refine q_vv (As := [.int 0, .int 8]) (rest := []) ⟨hx, hb, hml, hown, hts⟩ (c_X2_setMark0 l D g m_ch e_ch ) (cwV 2 hts gX2_choose_X2_setMark rfl rfl rfl (by decide +kernel) ⟨Nat.le_of_ble_eq_true rfl, Nat.le_of_ble_eq_true rfl⟩) S m_ch e_ch (T := TX2) (N := 5) rfl rfl hl.1 rfl (Nat.le_of_ble_eq_true rfl) dX2_choose_50 ⟨Nat.le_of_ble_eq_true rfl, Nat.le_of_ble_eq_true rfl⟩ (fun L4 f5 H locs S w50 => ?_)
  obtain ⟨eLw50, efw50⟩ := w50
  rw [eLw50, efw50] at S
  refine lv_aload_n hx hb dX2_choose_53 rfl (lv_at hl 4 rfl) ?_
  refine lv_iload hx hb dX2_choose_54 (lv_at hl 0 rfl) ?_
  refine lv_iload_n hx hb dX2_choose_56 rfl (lv_at hl 3 rfl) ?_
  refine q_vi (As := [.int 1, .int 1001]) (rest := []) ⟨hx, hb, hml, hown, hts⟩ (c_X2_countFalses0 l D g m_ch e_ch ) (cwV 2 hts gX2_choose_X2_countFalses rfl rfl rfl (by decide +kernel) ⟨Nat.le_of_ble_eq_true rfl, Nat.le_of_ble_eq_true rfl⟩) S m_ch e_ch (T := TX2) (N := 5) rfl rfl hl.1 rfl (Nat.le_of_ble_eq_true rfl) dX2_choose_57 ⟨Nat.le_of_ble_eq_true rfl, Nat.le_of_ble_eq_true rfl⟩ (fun r9 L7 f8 H locs S w57 => ?_)
  obtain ⟨exw57, eLw57, efw57⟩ := w57
  rw [eLw57, efw57] at S
  subst exw57
  refine lv_istore (lv' := [(6, .int 0), (5, .int 1), (4, .int 8), (3, .int 0), (2, .int 1001), (0, .ref ch), (1, .int mo)]) hx hb dX2_choose_60 hl (by decide) rfl (fun ls hl => ?_)
  refine lv_iload hx hb dX2_choose_62 (lv_at hl 0 rfl) ?_
  refine lv_iload_n hx hb dX2_choose_64 rfl (lv_at hl 4 rfl) ?_
  refine lv_icmp_ge (tgt := 80) hx hb dX2_choose_65 (by decide) (fun b65 => absurd b65 (by decide)) (fun b65 => ?_)
  refine lv_iload hx hb dX2_choose_68 (lv_at hl 0 rfl) ?_
  refine lv_istore_n (lv' := [(2, .int 0), (6, .int 0), (5, .int 1), (4, .int 8), (3, .int 0), (0, .ref ch), (1, .int mo)]) hx hb dX2_choose_70 rfl hl (by decide) rfl (fun ls hl => ?_)
  refine lv_bipush (v := 16) hx hb dX2_choose_71 (by decide) ?_
  refine lv_iload hx hb dX2_choose_73 (lv_at hl 3 rfl) ?_
  refine lv_imul hx hb dX2_choose_75 ?_
  refine lv_topi (fun t_ et_ => ?_)
  obtain rfl : t_ = 128 := et_.trans (by decide)
  refine lv_iload hx hb dX2_choose_76 (lv_at hl 2 rfl) ?_
  refine lv_iadd hx hb dX2_choose_78 ?_
  refine lv_topi (fun t_ et_ => ?_)
  obtain rfl : t_ = 129 := et_.trans (by decide)
  refine lv_istore_n (lv' := [(3, .int 129), (2, .int 0), (6, .int 0), (5, .int 1), (4, .int 8), (0, .ref ch), (1, .int mo)]) hx hb dX2_choose_79 rfl hl (by decide) rfl (fun ls hl => ?_)
  refine lv_iload hx hb dX2_choose_80 (lv_at hl 2 rfl) ?_
  refine lv_if_ne (tgt := 87) hx hb dX2_choose_82 (by decide) (fun b82 => absurd b82 (fun h => h rfl)) (fun b82 => ?_)
  refine lv_iload_n hx hb dX2_choose_85 rfl (lv_at hl 0 rfl) ?_
  exact q_reti (post := fun x L1 f1 => x = 129 ∧ L1 = L ∧ (∀ b, b ∈ L → b ≠ bo → b ≠ bw → f1 b = f b) ∧ ∃ v1 : Nat → Int64, f1 bo = .inr (1, [.ref bw, .int ((nI 8))]) ∧ f1 bw = .inl (g 1, 64, .inr (.inl v1))) hx hb hr hlk S dX2_choose_86 (by decide) (by decide) (⟨rfl, rfl, fr, _, e_bo, e_bw⟩)
