set_option maxHeartbeats 4000000 in
set_option maxRecDepth 100000 in
theorem law_4 {p : Program} {l : Launch} {e : Env} {s : State} {m : MethodId} {below : List Frame} {meth : Method} {c : Code} {bs : Nat} {xs : Nat → Int32} {D : va_G} {g : Nat → ClassId} {Lx L : List Nat} {f : Nat → va_E} {H : Heap} {locs : List Loc} {ls : Array Slot} {x wo Sl dr drr ri rir th thr so pa ta la ba si tt tp sw ch im rm bo bw y y0 y1 y2 y3 y4 y5 y6 y7 y8 y9 y10 y11 y12 y13 y15 y16 y17 y18 y19 y20 y21 y22 : Nat} {wf sf : Nat → Option Nat} {vd vs vs2 : Nat → Int64} {vl vb : Nat → Int32} {v_worlds : Nat → Int64} {v_inWorld : Nat → Int32} {v_kind : Nat → Int32} {v_size : Nat → Int32} {v_marks : Nat → Int32} {v_seed : Nat → Int32} {v_contents : Nat → Int64} {v_contentMany : Nat → Int32} {v_row : Nat → Int32} {v_bits : Nat → Int32} {v_layerSize : Nat → Int32} {v_layerCame : Nat → Int32} {v_rest : Nat → Int64} {v_restMany : Nat → Int32} {v_come : Nat → Int64} {v_rivals : Nat → Int64} {v_gone : Nat → Int64} {v_order : Nat → Int32} {v_offAt : Nat → Int32} {v_isOff : Nat → Int32} {v_alone : Nat → Int32} {v_kept : Nat → Int32} (hx : p.tables.exec = Jvm.exec) (hb : c.code = cL_law) (hr : meth.sig.returnType = ret) (hml : c.maxLocals = 4) (hown : s.vm.findClass RL = some m.cls) (hts : ∀ w ∈ wsL_law, w.before #[Value.ref bs] s = true) (hX : va_X bs 6 xs s s.heap) (hbl : bs < s.heap.size) (hlk : meth.locks = false) (S : PS D g (fun q : Nat => s.heap.size ≤ q) s.heap s L f H locs) (hl : lv_has ls 4 [(3, .int 0), (2, .ref y), (1, .ref x), (0, .ref bs)]) (m_x : x ∈ L) (e_x : f x = .inr (6, [.ref wo, .ref Sl, .ref dr, .ref ri, .ref th, .ref so, .ref ch, .int 0])) (m_wo : wo ∈ L) (e_wo : f wo = .inl (g 3, 8, .inr (.inr (.inr (.inr wf))))) (m_Sl : Sl ∈ L) (e_Sl : f Sl = .inl (g 5, 30, .inr (.inr (.inr (.inr sf))))) (m_dr : dr ∈ L) (e_dr : f dr = .inr (0, [.ref drr, .int ((nI 0))])) (m_drr : drr ∈ L) (e_drr : f drr = .inl (g 1, 1000, .inr (.inl vd))) (m_ri : ri ∈ L) (e_ri : f ri = .inr (0, [.ref rir, .int ((nI 0))])) (m_th : th ∈ L) (e_th : f th = .inr (0, [.ref thr, .int ((nI 0))])) (m_so : so ∈ L) (e_so : f so = .inr (5, [.ref pa, .ref ta, .ref la, .ref ba, .ref si, .ref tt, .ref tp, .int 0, .int 0])) (m_la : la ∈ L) (e_la : f la = .inl (g 0, 3774, .inl vl)) (m_ba : ba ∈ L) (e_ba : f ba = .inl (g 0, 3774, .inl vb)) (m_si : si ∈ L) (e_si : f si = .inr (1, [.ref sw, .int ((nI 0))])) (m_sw : sw ∈ L) (e_sw : f sw = .inl (g 1, 64, .inr (.inl vs))) (m_ch : ch ∈ L) (e_ch : f ch = .inr (2, [.ref im, .ref rm, .ref bo, .int 0, .int 0])) (m_bo : bo ∈ L) (e_bo : f bo = .inr (1, [.ref bw, .int ((nI 0))])) (m_bw : bw ∈ L) (e_bw : f bw = .inl (g 1, 64, .inr (.inl vs2))) (m_y : y ∈ L) (e_y : f y = .inr (7, [.ref y0, .ref y1, .ref y2, .ref y3, .ref y4, .ref y5, .ref y6, .ref y7, .ref y8, .ref y9, .ref y10, .ref y11, .ref y12, .ref y13, .int 0, .ref y15, .ref y16, .ref y17, .ref y18, .ref y19, .ref y20, .ref y21, .ref y22])) (m_y0 : y0 ∈ L) (e_y0 : f y0 = .inl (g 1, 8000, .inr (.inl v_worlds))) (m_y1 : y1 ∈ L) (e_y1 : f y1 = .inl (g 0, 8, .inl v_inWorld)) (m_y2 : y2 ∈ L) (e_y2 : f y2 = .inl (g 0, 30, .inl v_kind)) (m_y3 : y3 ∈ L) (e_y3 : f y3 = .inl (g 0, 30, .inl v_size)) (m_y4 : y4 ∈ L) (e_y4 : f y4 = .inl (g 0, 30, .inl v_marks)) (m_y5 : y5 ∈ L) (e_y5 : f y5 = .inl (g 0, 30, .inl v_seed)) (m_y6 : y6 ∈ L) (e_y6 : f y6 = .inl (g 1, 30000, .inr (.inl v_contents))) (m_y7 : y7 ∈ L) (e_y7 : f y7 = .inl (g 0, 30, .inl v_contentMany)) (m_y8 : y8 ∈ L) (e_y8 : f y8 = .inl (g 0, 122880, .inl v_row)) (m_y9 : y9 ∈ L) (e_y9 : f y9 = .inl (g 0, 76800, .inl v_bits)) (m_y10 : y10 ∈ L) (e_y10 : f y10 = .inl (g 0, 600, .inl v_layerSize)) (m_y11 : y11 ∈ L) (e_y11 : f y11 = .inl (g 0, 600, .inl v_layerCame)) (m_y12 : y12 ∈ L) (e_y12 : f y12 = .inl (g 1, 30000, .inr (.inl v_rest))) (m_y13 : y13 ∈ L) (e_y13 : f y13 = .inl (g 0, 30, .inl v_restMany)) (m_y15 : y15 ∈ L) (e_y15 : f y15 = .inl (g 1, 1000, .inr (.inl v_come))) (m_y16 : y16 ∈ L) (e_y16 : f y16 = .inl (g 1, 1000, .inr (.inl v_rivals))) (m_y17 : y17 ∈ L) (e_y17 : f y17 = .inl (g 1, 1000, .inr (.inl v_gone))) (m_y18 : y18 ∈ L) (e_y18 : f y18 = .inl (g 0, 1000, .inl v_order)) (m_y19 : y19 ∈ L) (e_y19 : f y19 = .inl (g 0, 1000, .inl v_offAt)) (m_y20 : y20 ∈ L) (e_y20 : f y20 = .inl (g 2, 1000, .inl v_isOff)) (m_y21 : y21 ∈ L) (e_y21 : f y21 = .inl (g 0, 4096, .inl v_alone)) (m_y22 : y22 ∈ L) (e_y22 : f y22 = .inl (g 0, 4096, .inl v_kept)) (hs0 : sf 0 = none) (n_ri_dr : ri ≠ dr) (n_th_dr : th ≠ dr) (n_th_ri : th ≠ ri) (n_ba_la : ba ≠ la) (hW2 : ∀ j, j < 8 → ∃ b rb : Nat, ∃ vb : Nat → Int64, wf j = some b ∧ b ∈ L ∧ f b = .inr (0, [.ref rb, .int (nI 0)]) ∧ rb ∈ L ∧ f rb = .inl (g 1, 1000, .inr (.inl vb)) ∧ b ≠ dr ∧ b ≠ ri ∧ b ≠ th ∧ rb ≠ drr ∧ b ∈ Lx ∧ rb ∈ Lx) (hI : ∀ j, j < 8 → v_inWorld j = 0) (hnd : [y, y0, y1, y2, y3, y4, y5, y6, y7, y8, y9, y10, y11, y12, y13, y15, y16, y17, y18, y19, y20, y21, y22].Nodup) (lx_x : x ∈ Lx) (lx_Sl : Sl ∈ Lx) (lx_dr : dr ∈ Lx) (lx_drr : drr ∈ Lx) (lx_ri : ri ∈ Lx) (lx_th : th ∈ Lx) (lx_so : so ∈ Lx) (lx_la : la ∈ Lx) (lx_ba : ba ∈ Lx) (lx_si : si ∈ Lx) (lx_sw : sw ∈ Lx) (lx_ch : ch ∈ Lx) (lx_bo : bo ∈ Lx) (lx_bw : bw ∈ Lx) (nx_y : y ∉ Lx) (nx_y0 : y0 ∉ Lx) (nx_y1 : y1 ∉ Lx) (nx_y2 : y2 ∉ Lx) (nx_y3 : y3 ∉ Lx) (nx_y4 : y4 ∉ Lx) (nx_y5 : y5 ∉ Lx) (nx_y6 : y6 ∉ Lx) (nx_y7 : y7 ∉ Lx) (nx_y8 : y8 ∉ Lx) (nx_y9 : y9 ∉ Lx) (nx_y10 : y10 ∉ Lx) (nx_y11 : y11 ∉ Lx) (nx_y12 : y12 ∉ Lx) (nx_y13 : y13 ∉ Lx) (nx_y15 : y15 ∉ Lx) (nx_y16 : y16 ∉ Lx) (nx_y17 : y17 ∉ Lx) (nx_y18 : y18 ∉ Lx) (nx_y19 : y19 ∉ Lx) (nx_y20 : y20 ∉ Lx) (nx_y21 : y21 ∉ Lx) (nx_y22 : y22 ∉ Lx) : W p l e room_1 s m #[Value.ref bs] below meth c H locs 62 310045 (lw_Z below #[Value.ref bs] s) (F0 m 343 ls []) := by
  have hW : ∀ j, j < 8 → ∃ b rb : Nat, ∃ vb : Nat → Int64, wf j = some b ∧ b ∈ L ∧ f b = .inr (0, [.ref rb, .int (nI 0)]) ∧ rb ∈ L ∧ f rb = .inl (g 1, 1000, .inr (.inl vb)) ∧ b ≠ dr ∧ b ≠ ri ∧ b ≠ th := fun j hj => by obtain ⟨b, rb, vb, h1, h2, h3, h4, h5, h6, h7, h8, -⟩ := hW2 j hj; exact ⟨b, rb, vb, h1, h2, h3, h4, h5, h6, h7, h8⟩
  refine lv_aload_n hx hb dL_law_343 rfl (lv_at hl 2 rfl) ?_
  refine lv_aload_n hx hb dL_law_344 rfl (lv_at hl 3 rfl) ?_
  refine lv_iload_n hx hb dL_law_345 rfl (lv_at hl 0 rfl) ?_
  refine lv_iconst (v := 1) hx hb dL_law_346 (by decide) ?_
  refine lv_iadd hx hb dL_law_347 ?_
  refine lv_topi (fun t_ et_ => ?_)
  obtain rfl : t_ = 1 := et_.trans (by decide)
  refine va_sld hx hb hX hbl (Nat.not_le.mpr hbl) S.2.2.2.1 (vp_in_nI (n := 1) (by omega) (by decide)) dL_law_348 ?_
  refine lv_aload_n hx hb dL_law_349 rfl (lv_at hl 3 rfl) ?_
  refine lv_iload_n hx hb dL_law_350 rfl (lv_at hl 0 rfl) ?_
  refine lv_iconst (v := 2) hx hb dL_law_351 (by decide) ?_
  refine lv_iadd hx hb dL_law_352 ?_
  refine lv_topi (fun t_ et_ => ?_)
  obtain rfl : t_ = 2 := et_.trans (by decide)
  refine va_sld hx hb hX hbl (Nat.not_le.mpr hbl) S.2.2.2.1 (vp_in_nI (n := 2) (by omega) (by decide)) dL_law_353 ?_
  refine lv_aload_n hx hb dL_law_354 rfl (lv_at hl 3 rfl) ?_
  refine lv_iload_n hx hb dL_law_355 rfl (lv_at hl 0 rfl) ?_
  refine lv_iconst (v := 3) hx hb dL_law_356 (by decide) ?_
  refine lv_iadd hx hb dL_law_357 ?_
  refine lv_topi (fun t_ et_ => ?_)
  obtain rfl : t_ = 3 := et_.trans (by decide)
  refine va_sld hx hb hX hbl (Nat.not_le.mpr hbl) S.2.2.2.1 (vp_in_nI (n := 3) (by omega) (by decide)) dL_law_358 ?_
  refine lv_aload_n hx hb dL_law_359 rfl (lv_at hl 3 rfl) ?_
  refine lv_iload_n hx hb dL_law_360 rfl (lv_at hl 0 rfl) ?_
  refine lv_iconst (v := 4) hx hb dL_law_361 (by decide) ?_
  refine lv_iadd hx hb dL_law_362 ?_
  refine lv_topi (fun t_ et_ => ?_)
  obtain rfl : t_ = 4 := et_.trans (by decide)
  refine va_sld hx hb hX hbl (Nat.not_le.mpr hbl) S.2.2.2.1 (vp_in_nI (n := 4) (by omega) (by decide)) dL_law_363 ?_
  refine q_vi (As := [.int ((xs (1 : Int32).toNatClampNeg)), .int ((xs (2 : Int32).toNatClampNeg)), .int ((xs (3 : Int32).toNatClampNeg)), .int ((xs (4 : Int32).toNatClampNeg))]) (rest := []) ⟨hx, hb, hml, hown, hts⟩ (c_X8_make0 l D g m_x e_x m_Sl e_Sl (Lx := Lx) hs0 lx_x lx_Sl) (cwV 4 hts gL_law_X8_make rfl rfl rfl (by decide +kernel) ⟨Nat.le_of_ble_eq_true rfl, Nat.le_of_ble_eq_true rfl⟩) S m_x e_x (T := TX8) (N := 8) rfl rfl hl.1 rfl (Nat.le_of_ble_eq_true rfl) dL_law_364 ⟨Nat.le_of_ble_eq_true rfl, Nat.le_of_ble_eq_true rfl⟩ (fun r3 L1 f2 H locs S w364 => ?_)
  refine W.widen (k := 66) (n := 315150) (by decide) (by decide) ?_
  obtain ⟨ex1, mox, fvx⟩ := w364
  have e_y : f2 y = .inr (7, [.ref y0, .ref y1, .ref y2, .ref y3, .ref y4, .ref y5, .ref y6, .ref y7, .ref y8, .ref y9, .ref y10, .ref y11, .ref y12, .ref y13, .int 0, .ref y15, .ref y16, .ref y17, .ref y18, .ref y19, .ref y20, .ref y21, .ref y22]) := (fvx y m_y nx_y).trans e_y
  have e_y0 : f2 y0 = .inl (g 1, 8000, .inr (.inl v_worlds)) := (fvx y0 m_y0 nx_y0).trans e_y0
  have e_y1 : f2 y1 = .inl (g 0, 8, .inl v_inWorld) := (fvx y1 m_y1 nx_y1).trans e_y1
  have e_y2 : f2 y2 = .inl (g 0, 30, .inl v_kind) := (fvx y2 m_y2 nx_y2).trans e_y2
  have e_y3 : f2 y3 = .inl (g 0, 30, .inl v_size) := (fvx y3 m_y3 nx_y3).trans e_y3
  have e_y4 : f2 y4 = .inl (g 0, 30, .inl v_marks) := (fvx y4 m_y4 nx_y4).trans e_y4
  have e_y5 : f2 y5 = .inl (g 0, 30, .inl v_seed) := (fvx y5 m_y5 nx_y5).trans e_y5
  have e_y6 : f2 y6 = .inl (g 1, 30000, .inr (.inl v_contents)) := (fvx y6 m_y6 nx_y6).trans e_y6
  have e_y7 : f2 y7 = .inl (g 0, 30, .inl v_contentMany) := (fvx y7 m_y7 nx_y7).trans e_y7
  have e_y8 : f2 y8 = .inl (g 0, 122880, .inl v_row) := (fvx y8 m_y8 nx_y8).trans e_y8
  have e_y9 : f2 y9 = .inl (g 0, 76800, .inl v_bits) := (fvx y9 m_y9 nx_y9).trans e_y9
  have e_y10 : f2 y10 = .inl (g 0, 600, .inl v_layerSize) := (fvx y10 m_y10 nx_y10).trans e_y10
  have e_y11 : f2 y11 = .inl (g 0, 600, .inl v_layerCame) := (fvx y11 m_y11 nx_y11).trans e_y11
  have e_y12 : f2 y12 = .inl (g 1, 30000, .inr (.inl v_rest)) := (fvx y12 m_y12 nx_y12).trans e_y12
  have e_y13 : f2 y13 = .inl (g 0, 30, .inl v_restMany) := (fvx y13 m_y13 nx_y13).trans e_y13
  have e_y15 : f2 y15 = .inl (g 1, 1000, .inr (.inl v_come)) := (fvx y15 m_y15 nx_y15).trans e_y15
  have e_y16 : f2 y16 = .inl (g 1, 1000, .inr (.inl v_rivals)) := (fvx y16 m_y16 nx_y16).trans e_y16
  have e_y17 : f2 y17 = .inl (g 1, 1000, .inr (.inl v_gone)) := (fvx y17 m_y17 nx_y17).trans e_y17
  have e_y18 : f2 y18 = .inl (g 0, 1000, .inl v_order) := (fvx y18 m_y18 nx_y18).trans e_y18
  have e_y19 : f2 y19 = .inl (g 0, 1000, .inl v_offAt) := (fvx y19 m_y19 nx_y19).trans e_y19
  have e_y20 : f2 y20 = .inl (g 2, 1000, .inl v_isOff) := (fvx y20 m_y20 nx_y20).trans e_y20
  have e_y21 : f2 y21 = .inl (g 0, 4096, .inl v_alone) := (fvx y21 m_y21 nx_y21).trans e_y21
  have e_y22 : f2 y22 = .inl (g 0, 4096, .inl v_kept) := (fvx y22 m_y22 nx_y22).trans e_y22
  have m_y : y ∈ L1 := mox y m_y
  have m_y0 : y0 ∈ L1 := mox y0 m_y0
  have m_y1 : y1 ∈ L1 := mox y1 m_y1
  have m_y2 : y2 ∈ L1 := mox y2 m_y2
  have m_y3 : y3 ∈ L1 := mox y3 m_y3
  have m_y4 : y4 ∈ L1 := mox y4 m_y4
  have m_y5 : y5 ∈ L1 := mox y5 m_y5
  have m_y6 : y6 ∈ L1 := mox y6 m_y6
  have m_y7 : y7 ∈ L1 := mox y7 m_y7
  have m_y8 : y8 ∈ L1 := mox y8 m_y8
  have m_y9 : y9 ∈ L1 := mox y9 m_y9
  have m_y10 : y10 ∈ L1 := mox y10 m_y10
  have m_y11 : y11 ∈ L1 := mox y11 m_y11
  have m_y12 : y12 ∈ L1 := mox y12 m_y12
  have m_y13 : y13 ∈ L1 := mox y13 m_y13
  have m_y15 : y15 ∈ L1 := mox y15 m_y15
  have m_y16 : y16 ∈ L1 := mox y16 m_y16
  have m_y17 : y17 ∈ L1 := mox y17 m_y17
  have m_y18 : y18 ∈ L1 := mox y18 m_y18
  have m_y19 : y19 ∈ L1 := mox y19 m_y19
  have m_y20 : y20 ∈ L1 := mox y20 m_y20
  have m_y21 : y21 ∈ L1 := mox y21 m_y21
  have m_y22 : y22 ∈ L1 := mox y22 m_y22
  refine lv_aload_n hx hb dL_law_367 rfl (lv_at hl 1 rfl) ?_
  refine lv_aload_n hx hb dL_law_368 rfl (lv_at hl 3 rfl) ?_
  refine lv_iload_n hx hb dL_law_369 rfl (lv_at hl 0 rfl) ?_
  refine lv_iconst (v := 1) hx hb dL_law_370 (by decide) ?_
  refine lv_iadd hx hb dL_law_371 ?_
  refine lv_topi (fun t_ et_ => ?_)
  obtain rfl : t_ = 1 := et_.trans (by decide)
  refine va_sld hx hb hX hbl (Nat.not_le.mpr hbl) S.2.2.2.1 (vp_in_nI (n := 1) (by omega) (by decide)) dL_law_372 ?_
  refine lv_aload_n hx hb dL_law_373 rfl (lv_at hl 3 rfl) ?_
  refine lv_iload_n hx hb dL_law_374 rfl (lv_at hl 0 rfl) ?_
  refine lv_iconst (v := 2) hx hb dL_law_375 (by decide) ?_
  refine lv_iadd hx hb dL_law_376 ?_
  refine lv_topi (fun t_ et_ => ?_)
  obtain rfl : t_ = 2 := et_.trans (by decide)
  refine va_sld hx hb hX hbl (Nat.not_le.mpr hbl) S.2.2.2.1 (vp_in_nI (n := 2) (by omega) (by decide)) dL_law_377 ?_
  refine lv_aload_n hx hb dL_law_378 rfl (lv_at hl 3 rfl) ?_
  refine lv_iload_n hx hb dL_law_379 rfl (lv_at hl 0 rfl) ?_
  refine lv_iconst (v := 3) hx hb dL_law_380 (by decide) ?_
  refine lv_iadd hx hb dL_law_381 ?_
  refine lv_topi (fun t_ et_ => ?_)
  obtain rfl : t_ = 3 := et_.trans (by decide)
  refine va_sld hx hb hX hbl (Nat.not_le.mpr hbl) S.2.2.2.1 (vp_in_nI (n := 3) (by omega) (by decide)) dL_law_382 ?_
  refine lv_aload_n hx hb dL_law_383 rfl (lv_at hl 3 rfl) ?_
  refine lv_iload_n hx hb dL_law_384 rfl (lv_at hl 0 rfl) ?_
  refine lv_iconst (v := 4) hx hb dL_law_385 (by decide) ?_
  refine lv_iadd hx hb dL_law_386 ?_
  refine lv_topi (fun t_ et_ => ?_)
  obtain rfl : t_ = 4 := et_.trans (by decide)
  refine va_sld hx hb hX hbl (Nat.not_le.mpr hbl) S.2.2.2.1 (vp_in_nI (n := 4) (by omega) (by decide)) dL_law_387 ?_
  refine q_vi (As := [.int ((xs (1 : Int32).toNatClampNeg)), .int ((xs (2 : Int32).toNatClampNeg)), .int ((xs (3 : Int32).toNatClampNeg)), .int ((xs (4 : Int32).toNatClampNeg))]) (rest := [.int r3]) ⟨hx, hb, hml, hown, hts⟩ (c_X9_make0 l D g m_y e_y m_y2 e_y2 m_y3 e_y3 m_y4 e_y4 m_y5 e_y5 m_y7 e_y7 m_y13 e_y13 m_y8 e_y8 hnd) (cwV 4 hts gL_law_X9_make rfl rfl rfl (by decide +kernel) ⟨Nat.le_of_ble_eq_true rfl, Nat.le_of_ble_eq_true rfl⟩) S m_y e_y (T := TX9) (N := 23) rfl rfl hl.1 rfl (Nat.le_of_ble_eq_true rfl) dL_law_388 ⟨Nat.le_of_ble_eq_true rfl, Nat.le_of_ble_eq_true rfl⟩ (fun r6 L4 f5 H locs S w388 => ?_)
  have ex2 := w388
  refine lv_icmp_eq (tgt := 1121) hx hb dL_law_391 (by decide) (fun b391 => ?_) (fun b391 => absurd ((Classical.em _).elim (fun h => (ex1.1 h).trans (ex2.1 h).symm) (fun h => (ex1.2 h).trans (ex2.2 h).symm)) b391)
  obtain ⟨i1, ei1⟩ : ∃ y : Int32, y = 0 + 6 := ⟨_, rfl⟩
  refine lv_iinc (v := i1) (lv' := [(3, .int i1), (2, .ref y), (1, .ref x), (0, .ref bs)]) hx hb dL_law_1121 hl (k := 0) rfl (by rw [ei1]; rfl) (by decide) rfl (fun ls hl => ?_)
  refine lv_goto (tgt := 18) hx hb dL_law_1124 (by decide) ?_
  refine lv_iload_n hx hb dL_law_18 rfl (lv_at hl 0 rfl) ?_
  refine lv_aload_n hx hb dL_law_19 rfl (lv_at hl 3 rfl) ?_
  refine va_slen hx hb hX hbl (Nat.not_le.mpr hbl) S.2.2.2.1 dL_law_20 ?_
  refine lv_bipush (v := 6) hx hb dL_law_21 (by decide) ?_
  refine lv_isub hx hb dL_law_23 ?_
  refine lv_icmp_gt (tgt := 1127) hx hb dL_law_24 (by decide) (fun b24 => ?_) (fun b24 => absurd (by rw [ei1]; decide) b24)
  refine lv_iconst (v := 1) hx hb dL_law_1127 (by decide) ?_
  refine va_forget (fun q hq => S.2.2.2.1.2.2 q hq) ?_
  refine W.widen (k := 600000) (n := 7302250) (by decide) (by decide) ?_
  exact lw_ret hx hb hr hlk dL_law_1128

set_option maxHeartbeats 4000000 in
set_option maxRecDepth 100000 in
theorem law_5 {p : Program} {l : Launch} {e : Env} {s : State} {m : MethodId} {below : List Frame} {meth : Method} {c : Code} {bs : Nat} {xs : Nat → Int32} {D : va_G} {g : Nat → ClassId} {Lx L : List Nat} {f : Nat → va_E} {H : Heap} {locs : List Loc} {ls : Array Slot} {x wo Sl dr drr ri rir th thr so pa ta la ba si tt tp sw ch im rm bo bw y y0 y1 y2 y3 y4 y5 y6 y7 y8 y9 y10 y11 y12 y13 y15 y16 y17 y18 y19 y20 y21 y22 : Nat} {wf sf : Nat → Option Nat} {vd vs vs2 : Nat → Int64} {vl vb : Nat → Int32} {v_worlds : Nat → Int64} {v_inWorld : Nat → Int32} {v_kind : Nat → Int32} {v_size : Nat → Int32} {v_marks : Nat → Int32} {v_seed : Nat → Int32} {v_contents : Nat → Int64} {v_contentMany : Nat → Int32} {v_row : Nat → Int32} {v_bits : Nat → Int32} {v_layerSize : Nat → Int32} {v_layerCame : Nat → Int32} {v_rest : Nat → Int64} {v_restMany : Nat → Int32} {v_come : Nat → Int64} {v_rivals : Nat → Int64} {v_gone : Nat → Int64} {v_order : Nat → Int32} {v_offAt : Nat → Int32} {v_isOff : Nat → Int32} {v_alone : Nat → Int32} {v_kept : Nat → Int32} (hx : p.tables.exec = Jvm.exec) (hb : c.code = cL_law) (hr : meth.sig.returnType = ret) (hml : c.maxLocals = 4) (hown : s.vm.findClass RL = some m.cls) (hts : ∀ w ∈ wsL_law, w.before #[Value.ref bs] s = true) (hX : va_X bs 6 xs s s.heap) (hbl : bs < s.heap.size) (hlk : meth.locks = false) (S : PS D g (fun q : Nat => s.heap.size ≤ q) s.heap s L f H locs) (hl : lv_has ls 4 [(3, .int 0), (2, .ref y), (1, .ref x), (0, .ref bs)]) (m_x : x ∈ L) (e_x : f x = .inr (6, [.ref wo, .ref Sl, .ref dr, .ref ri, .ref th, .ref so, .ref ch, .int 0])) (m_wo : wo ∈ L) (e_wo : f wo = .inl (g 3, 8, .inr (.inr (.inr (.inr wf))))) (m_Sl : Sl ∈ L) (e_Sl : f Sl = .inl (g 5, 30, .inr (.inr (.inr (.inr sf))))) (m_dr : dr ∈ L) (e_dr : f dr = .inr (0, [.ref drr, .int ((nI 0))])) (m_drr : drr ∈ L) (e_drr : f drr = .inl (g 1, 1000, .inr (.inl vd))) (m_ri : ri ∈ L) (e_ri : f ri = .inr (0, [.ref rir, .int ((nI 0))])) (m_th : th ∈ L) (e_th : f th = .inr (0, [.ref thr, .int ((nI 0))])) (m_so : so ∈ L) (e_so : f so = .inr (5, [.ref pa, .ref ta, .ref la, .ref ba, .ref si, .ref tt, .ref tp, .int 0, .int 0])) (m_la : la ∈ L) (e_la : f la = .inl (g 0, 3774, .inl vl)) (m_ba : ba ∈ L) (e_ba : f ba = .inl (g 0, 3774, .inl vb)) (m_si : si ∈ L) (e_si : f si = .inr (1, [.ref sw, .int ((nI 0))])) (m_sw : sw ∈ L) (e_sw : f sw = .inl (g 1, 64, .inr (.inl vs))) (m_ch : ch ∈ L) (e_ch : f ch = .inr (2, [.ref im, .ref rm, .ref bo, .int 0, .int 0])) (m_bo : bo ∈ L) (e_bo : f bo = .inr (1, [.ref bw, .int ((nI 0))])) (m_bw : bw ∈ L) (e_bw : f bw = .inl (g 1, 64, .inr (.inl vs2))) (m_y : y ∈ L) (e_y : f y = .inr (7, [.ref y0, .ref y1, .ref y2, .ref y3, .ref y4, .ref y5, .ref y6, .ref y7, .ref y8, .ref y9, .ref y10, .ref y11, .ref y12, .ref y13, .int 0, .ref y15, .ref y16, .ref y17, .ref y18, .ref y19, .ref y20, .ref y21, .ref y22])) (m_y0 : y0 ∈ L) (e_y0 : f y0 = .inl (g 1, 8000, .inr (.inl v_worlds))) (m_y1 : y1 ∈ L) (e_y1 : f y1 = .inl (g 0, 8, .inl v_inWorld)) (m_y2 : y2 ∈ L) (e_y2 : f y2 = .inl (g 0, 30, .inl v_kind)) (m_y3 : y3 ∈ L) (e_y3 : f y3 = .inl (g 0, 30, .inl v_size)) (m_y4 : y4 ∈ L) (e_y4 : f y4 = .inl (g 0, 30, .inl v_marks)) (m_y5 : y5 ∈ L) (e_y5 : f y5 = .inl (g 0, 30, .inl v_seed)) (m_y6 : y6 ∈ L) (e_y6 : f y6 = .inl (g 1, 30000, .inr (.inl v_contents))) (m_y7 : y7 ∈ L) (e_y7 : f y7 = .inl (g 0, 30, .inl v_contentMany)) (m_y8 : y8 ∈ L) (e_y8 : f y8 = .inl (g 0, 122880, .inl v_row)) (m_y9 : y9 ∈ L) (e_y9 : f y9 = .inl (g 0, 76800, .inl v_bits)) (m_y10 : y10 ∈ L) (e_y10 : f y10 = .inl (g 0, 600, .inl v_layerSize)) (m_y11 : y11 ∈ L) (e_y11 : f y11 = .inl (g 0, 600, .inl v_layerCame)) (m_y12 : y12 ∈ L) (e_y12 : f y12 = .inl (g 1, 30000, .inr (.inl v_rest))) (m_y13 : y13 ∈ L) (e_y13 : f y13 = .inl (g 0, 30, .inl v_restMany)) (m_y15 : y15 ∈ L) (e_y15 : f y15 = .inl (g 1, 1000, .inr (.inl v_come))) (m_y16 : y16 ∈ L) (e_y16 : f y16 = .inl (g 1, 1000, .inr (.inl v_rivals))) (m_y17 : y17 ∈ L) (e_y17 : f y17 = .inl (g 1, 1000, .inr (.inl v_gone))) (m_y18 : y18 ∈ L) (e_y18 : f y18 = .inl (g 0, 1000, .inl v_order)) (m_y19 : y19 ∈ L) (e_y19 : f y19 = .inl (g 0, 1000, .inl v_offAt)) (m_y20 : y20 ∈ L) (e_y20 : f y20 = .inl (g 2, 1000, .inl v_isOff)) (m_y21 : y21 ∈ L) (e_y21 : f y21 = .inl (g 0, 4096, .inl v_alone)) (m_y22 : y22 ∈ L) (e_y22 : f y22 = .inl (g 0, 4096, .inl v_kept)) (hs0 : sf 0 = none) (n_ri_dr : ri ≠ dr) (n_th_dr : th ≠ dr) (n_th_ri : th ≠ ri) (n_ba_la : ba ≠ la) (hW2 : ∀ j, j < 8 → ∃ b rb : Nat, ∃ vb : Nat → Int64, wf j = some b ∧ b ∈ L ∧ f b = .inr (0, [.ref rb, .int (nI 0)]) ∧ rb ∈ L ∧ f rb = .inl (g 1, 1000, .inr (.inl vb)) ∧ b ≠ dr ∧ b ≠ ri ∧ b ≠ th ∧ rb ≠ drr ∧ b ∈ Lx ∧ rb ∈ Lx) (hI : ∀ j, j < 8 → v_inWorld j = 0) (hnd : [y, y0, y1, y2, y3, y4, y5, y6, y7, y8, y9, y10, y11, y12, y13, y15, y16, y17, y18, y19, y20, y21, y22].Nodup) (lx_x : x ∈ Lx) (lx_Sl : Sl ∈ Lx) (lx_dr : dr ∈ Lx) (lx_drr : drr ∈ Lx) (lx_ri : ri ∈ Lx) (lx_th : th ∈ Lx) (lx_so : so ∈ Lx) (lx_la : la ∈ Lx) (lx_ba : ba ∈ Lx) (lx_si : si ∈ Lx) (lx_sw : sw ∈ Lx) (lx_ch : ch ∈ Lx) (lx_bo : bo ∈ Lx) (lx_bw : bw ∈ Lx) (nx_y : y ∉ Lx) (nx_y0 : y0 ∉ Lx) (nx_y1 : y1 ∉ Lx) (nx_y2 : y2 ∉ Lx) (nx_y3 : y3 ∉ Lx) (nx_y4 : y4 ∉ Lx) (nx_y5 : y5 ∉ Lx) (nx_y6 : y6 ∉ Lx) (nx_y7 : y7 ∉ Lx) (nx_y8 : y8 ∉ Lx) (nx_y9 : y9 ∉ Lx) (nx_y10 : y10 ∉ Lx) (nx_y11 : y11 ∉ Lx) (nx_y12 : y12 ∉ Lx) (nx_y13 : y13 ∉ Lx) (nx_y15 : y15 ∉ Lx) (nx_y16 : y16 ∉ Lx) (nx_y17 : y17 ∉ Lx) (nx_y18 : y18 ∉ Lx) (nx_y19 : y19 ∉ Lx) (nx_y20 : y20 ∉ Lx) (nx_y21 : y21 ∉ Lx) (nx_y22 : y22 ∉ Lx) : W p l e room_1 s m #[Value.ref bs] below meth c H locs 62 310045 (lw_Z below #[Value.ref bs] s) (F0 m 396 ls []) := by
  have hW : ∀ j, j < 8 → ∃ b rb : Nat, ∃ vb : Nat → Int64, wf j = some b ∧ b ∈ L ∧ f b = .inr (0, [.ref rb, .int (nI 0)]) ∧ rb ∈ L ∧ f rb = .inl (g 1, 1000, .inr (.inl vb)) ∧ b ≠ dr ∧ b ≠ ri ∧ b ≠ th := fun j hj => by obtain ⟨b, rb, vb, h1, h2, h3, h4, h5, h6, h7, h8, -⟩ := hW2 j hj; exact ⟨b, rb, vb, h1, h2, h3, h4, h5, h6, h7, h8⟩
  refine lv_aload_n hx hb dL_law_396 rfl (lv_at hl 2 rfl) ?_
  refine lv_aload_n hx hb dL_law_397 rfl (lv_at hl 3 rfl) ?_
  refine lv_iload_n hx hb dL_law_398 rfl (lv_at hl 0 rfl) ?_
  refine lv_iconst (v := 1) hx hb dL_law_399 (by decide) ?_
  refine lv_iadd hx hb dL_law_400 ?_
  refine lv_topi (fun t_ et_ => ?_)
  obtain rfl : t_ = 1 := et_.trans (by decide)
  refine va_sld hx hb hX hbl (Nat.not_le.mpr hbl) S.2.2.2.1 (vp_in_nI (n := 1) (by omega) (by decide)) dL_law_401 ?_
  refine lv_aload_n hx hb dL_law_402 rfl (lv_at hl 3 rfl) ?_
  refine lv_iload_n hx hb dL_law_403 rfl (lv_at hl 0 rfl) ?_
  refine lv_iconst (v := 2) hx hb dL_law_404 (by decide) ?_
  refine lv_iadd hx hb dL_law_405 ?_
  refine lv_topi (fun t_ et_ => ?_)
  obtain rfl : t_ = 2 := et_.trans (by decide)
  refine va_sld hx hb hX hbl (Nat.not_le.mpr hbl) S.2.2.2.1 (vp_in_nI (n := 2) (by omega) (by decide)) dL_law_406 ?_
  refine q_vi (As := [.int ((xs (1 : Int32).toNatClampNeg)), .int ((xs (2 : Int32).toNatClampNeg))]) (rest := []) ⟨hx, hb, hml, hown, hts⟩ (c_X8_solve0 l D g m_x e_x m_wo e_wo m_Sl e_Sl m_so e_so m_la e_la m_ba e_ba m_si e_si m_sw e_sw (Lx := Lx) hs0 n_ba_la hW lx_x lx_Sl lx_so lx_la lx_ba lx_si lx_sw) (cwV 2 hts gL_law_X8_solve rfl rfl rfl (by decide +kernel) ⟨Nat.le_of_ble_eq_true rfl, Nat.le_of_ble_eq_true rfl⟩) S m_x e_x (T := TX8) (N := 8) rfl rfl hl.1 rfl (Nat.le_of_ble_eq_true rfl) dL_law_407 ⟨Nat.le_of_ble_eq_true rfl, Nat.le_of_ble_eq_true rfl⟩ (fun r3 L1 f2 H locs S w407 => ?_)
  refine W.widen (k := 66) (n := 315150) (by decide) (by decide) ?_
  obtain ⟨ex1, mox, fvx⟩ := w407
  have e_y : f2 y = .inr (7, [.ref y0, .ref y1, .ref y2, .ref y3, .ref y4, .ref y5, .ref y6, .ref y7, .ref y8, .ref y9, .ref y10, .ref y11, .ref y12, .ref y13, .int 0, .ref y15, .ref y16, .ref y17, .ref y18, .ref y19, .ref y20, .ref y21, .ref y22]) := (fvx y m_y nx_y).trans e_y
  have e_y0 : f2 y0 = .inl (g 1, 8000, .inr (.inl v_worlds)) := (fvx y0 m_y0 nx_y0).trans e_y0
  have e_y1 : f2 y1 = .inl (g 0, 8, .inl v_inWorld) := (fvx y1 m_y1 nx_y1).trans e_y1
  have e_y2 : f2 y2 = .inl (g 0, 30, .inl v_kind) := (fvx y2 m_y2 nx_y2).trans e_y2
  have e_y3 : f2 y3 = .inl (g 0, 30, .inl v_size) := (fvx y3 m_y3 nx_y3).trans e_y3
  have e_y4 : f2 y4 = .inl (g 0, 30, .inl v_marks) := (fvx y4 m_y4 nx_y4).trans e_y4
  have e_y5 : f2 y5 = .inl (g 0, 30, .inl v_seed) := (fvx y5 m_y5 nx_y5).trans e_y5
  have e_y6 : f2 y6 = .inl (g 1, 30000, .inr (.inl v_contents)) := (fvx y6 m_y6 nx_y6).trans e_y6
  have e_y7 : f2 y7 = .inl (g 0, 30, .inl v_contentMany) := (fvx y7 m_y7 nx_y7).trans e_y7
  have e_y8 : f2 y8 = .inl (g 0, 122880, .inl v_row) := (fvx y8 m_y8 nx_y8).trans e_y8
  have e_y9 : f2 y9 = .inl (g 0, 76800, .inl v_bits) := (fvx y9 m_y9 nx_y9).trans e_y9
  have e_y10 : f2 y10 = .inl (g 0, 600, .inl v_layerSize) := (fvx y10 m_y10 nx_y10).trans e_y10
  have e_y11 : f2 y11 = .inl (g 0, 600, .inl v_layerCame) := (fvx y11 m_y11 nx_y11).trans e_y11
  have e_y12 : f2 y12 = .inl (g 1, 30000, .inr (.inl v_rest)) := (fvx y12 m_y12 nx_y12).trans e_y12
  have e_y13 : f2 y13 = .inl (g 0, 30, .inl v_restMany) := (fvx y13 m_y13 nx_y13).trans e_y13
  have e_y15 : f2 y15 = .inl (g 1, 1000, .inr (.inl v_come)) := (fvx y15 m_y15 nx_y15).trans e_y15
  have e_y16 : f2 y16 = .inl (g 1, 1000, .inr (.inl v_rivals)) := (fvx y16 m_y16 nx_y16).trans e_y16
  have e_y17 : f2 y17 = .inl (g 1, 1000, .inr (.inl v_gone)) := (fvx y17 m_y17 nx_y17).trans e_y17
  have e_y18 : f2 y18 = .inl (g 0, 1000, .inl v_order) := (fvx y18 m_y18 nx_y18).trans e_y18
  have e_y19 : f2 y19 = .inl (g 0, 1000, .inl v_offAt) := (fvx y19 m_y19 nx_y19).trans e_y19
  have e_y20 : f2 y20 = .inl (g 2, 1000, .inl v_isOff) := (fvx y20 m_y20 nx_y20).trans e_y20
  have e_y21 : f2 y21 = .inl (g 0, 4096, .inl v_alone) := (fvx y21 m_y21 nx_y21).trans e_y21
  have e_y22 : f2 y22 = .inl (g 0, 4096, .inl v_kept) := (fvx y22 m_y22 nx_y22).trans e_y22
  have m_y : y ∈ L1 := mox y m_y
  have m_y0 : y0 ∈ L1 := mox y0 m_y0
  have m_y1 : y1 ∈ L1 := mox y1 m_y1
  have m_y2 : y2 ∈ L1 := mox y2 m_y2
  have m_y3 : y3 ∈ L1 := mox y3 m_y3
  have m_y4 : y4 ∈ L1 := mox y4 m_y4
  have m_y5 : y5 ∈ L1 := mox y5 m_y5
  have m_y6 : y6 ∈ L1 := mox y6 m_y6
  have m_y7 : y7 ∈ L1 := mox y7 m_y7
  have m_y8 : y8 ∈ L1 := mox y8 m_y8
  have m_y9 : y9 ∈ L1 := mox y9 m_y9
  have m_y10 : y10 ∈ L1 := mox y10 m_y10
  have m_y11 : y11 ∈ L1 := mox y11 m_y11
  have m_y12 : y12 ∈ L1 := mox y12 m_y12
  have m_y13 : y13 ∈ L1 := mox y13 m_y13
  have m_y15 : y15 ∈ L1 := mox y15 m_y15
  have m_y16 : y16 ∈ L1 := mox y16 m_y16
  have m_y17 : y17 ∈ L1 := mox y17 m_y17
  have m_y18 : y18 ∈ L1 := mox y18 m_y18
  have m_y19 : y19 ∈ L1 := mox y19 m_y19
  have m_y20 : y20 ∈ L1 := mox y20 m_y20
  have m_y21 : y21 ∈ L1 := mox y21 m_y21
  have m_y22 : y22 ∈ L1 := mox y22 m_y22
  refine lv_aload_n hx hb dL_law_410 rfl (lv_at hl 1 rfl) ?_
  refine lv_aload_n hx hb dL_law_411 rfl (lv_at hl 3 rfl) ?_
  refine lv_iload_n hx hb dL_law_412 rfl (lv_at hl 0 rfl) ?_
  refine lv_iconst (v := 1) hx hb dL_law_413 (by decide) ?_
  refine lv_iadd hx hb dL_law_414 ?_
  refine lv_topi (fun t_ et_ => ?_)
  obtain rfl : t_ = 1 := et_.trans (by decide)
  refine va_sld hx hb hX hbl (Nat.not_le.mpr hbl) S.2.2.2.1 (vp_in_nI (n := 1) (by omega) (by decide)) dL_law_415 ?_
  refine lv_aload_n hx hb dL_law_416 rfl (lv_at hl 3 rfl) ?_
  refine lv_iload_n hx hb dL_law_417 rfl (lv_at hl 0 rfl) ?_
  refine lv_iconst (v := 2) hx hb dL_law_418 (by decide) ?_
  refine lv_iadd hx hb dL_law_419 ?_
  refine lv_topi (fun t_ et_ => ?_)
  obtain rfl : t_ = 2 := et_.trans (by decide)
  refine va_sld hx hb hX hbl (Nat.not_le.mpr hbl) S.2.2.2.1 (vp_in_nI (n := 2) (by omega) (by decide)) dL_law_420 ?_
  refine q_vi (As := [.int ((xs (1 : Int32).toNatClampNeg)), .int ((xs (2 : Int32).toNatClampNeg))]) (rest := [.int r3]) ⟨hx, hb, hml, hown, hts⟩ (c_X9_solve0 l D g m_y e_y m_y1 e_y1 m_y21 e_y21 m_y2 e_y2 m_y3 e_y3 m_y4 e_y4 m_y5 e_y5 m_y7 e_y7 m_y13 e_y13 m_y8 e_y8 hnd hI) (cwV 2 hts gL_law_X9_solve rfl rfl rfl (by decide +kernel) ⟨Nat.le_of_ble_eq_true rfl, Nat.le_of_ble_eq_true rfl⟩) S m_y e_y (T := TX9) (N := 23) rfl rfl hl.1 rfl (Nat.le_of_ble_eq_true rfl) dL_law_421 ⟨Nat.le_of_ble_eq_true rfl, Nat.le_of_ble_eq_true rfl⟩ (fun r6 L4 f5 H locs S w421 => ?_)
  have ex2 := w421
  refine lv_icmp_eq (tgt := 1121) hx hb dL_law_424 (by decide) (fun b424 => ?_) (fun b424 => absurd (ex1.trans ex2.symm) b424)
  obtain ⟨i1, ei1⟩ : ∃ y : Int32, y = 0 + 6 := ⟨_, rfl⟩
  refine lv_iinc (v := i1) (lv' := [(3, .int i1), (2, .ref y), (1, .ref x), (0, .ref bs)]) hx hb dL_law_1121 hl (k := 0) rfl (by rw [ei1]; rfl) (by decide) rfl (fun ls hl => ?_)
  refine lv_goto (tgt := 18) hx hb dL_law_1124 (by decide) ?_
  refine lv_iload_n hx hb dL_law_18 rfl (lv_at hl 0 rfl) ?_
  refine lv_aload_n hx hb dL_law_19 rfl (lv_at hl 3 rfl) ?_
  refine va_slen hx hb hX hbl (Nat.not_le.mpr hbl) S.2.2.2.1 dL_law_20 ?_
  refine lv_bipush (v := 6) hx hb dL_law_21 (by decide) ?_
  refine lv_isub hx hb dL_law_23 ?_
  refine lv_icmp_gt (tgt := 1127) hx hb dL_law_24 (by decide) (fun b24 => ?_) (fun b24 => absurd (by rw [ei1]; decide) b24)
  refine lv_iconst (v := 1) hx hb dL_law_1127 (by decide) ?_
  refine va_forget (fun q hq => S.2.2.2.1.2.2 q hq) ?_
  refine W.widen (k := 600000) (n := 7302250) (by decide) (by decide) ?_
  exact lw_ret hx hb hr hlk dL_law_1128

set_option maxHeartbeats 4000000 in
set_option maxRecDepth 100000 in
theorem law_6 {p : Program} {l : Launch} {e : Env} {s : State} {m : MethodId} {below : List Frame} {meth : Method} {c : Code} {bs : Nat} {xs : Nat → Int32} {D : va_G} {g : Nat → ClassId} {Lx L : List Nat} {f : Nat → va_E} {H : Heap} {locs : List Loc} {ls : Array Slot} {x wo Sl dr drr ri rir th thr so pa ta la ba si tt tp sw ch im rm bo bw y y0 y1 y2 y3 y4 y5 y6 y7 y8 y9 y10 y11 y12 y13 y15 y16 y17 y18 y19 y20 y21 y22 : Nat} {wf sf : Nat → Option Nat} {vd vs vs2 : Nat → Int64} {vl vb : Nat → Int32} {v_worlds : Nat → Int64} {v_inWorld : Nat → Int32} {v_kind : Nat → Int32} {v_size : Nat → Int32} {v_marks : Nat → Int32} {v_seed : Nat → Int32} {v_contents : Nat → Int64} {v_contentMany : Nat → Int32} {v_row : Nat → Int32} {v_bits : Nat → Int32} {v_layerSize : Nat → Int32} {v_layerCame : Nat → Int32} {v_rest : Nat → Int64} {v_restMany : Nat → Int32} {v_come : Nat → Int64} {v_rivals : Nat → Int64} {v_gone : Nat → Int64} {v_order : Nat → Int32} {v_offAt : Nat → Int32} {v_isOff : Nat → Int32} {v_alone : Nat → Int32} {v_kept : Nat → Int32} (hx : p.tables.exec = Jvm.exec) (hb : c.code = cL_law) (hr : meth.sig.returnType = ret) (hml : c.maxLocals = 4) (hown : s.vm.findClass RL = some m.cls) (hts : ∀ w ∈ wsL_law, w.before #[Value.ref bs] s = true) (hX : va_X bs 6 xs s s.heap) (hbl : bs < s.heap.size) (hlk : meth.locks = false) (S : PS D g (fun q : Nat => s.heap.size ≤ q) s.heap s L f H locs) (hl : lv_has ls 4 [(3, .int 0), (2, .ref y), (1, .ref x), (0, .ref bs)]) (m_x : x ∈ L) (e_x : f x = .inr (6, [.ref wo, .ref Sl, .ref dr, .ref ri, .ref th, .ref so, .ref ch, .int 0])) (m_wo : wo ∈ L) (e_wo : f wo = .inl (g 3, 8, .inr (.inr (.inr (.inr wf))))) (m_Sl : Sl ∈ L) (e_Sl : f Sl = .inl (g 5, 30, .inr (.inr (.inr (.inr sf))))) (m_dr : dr ∈ L) (e_dr : f dr = .inr (0, [.ref drr, .int ((nI 0))])) (m_drr : drr ∈ L) (e_drr : f drr = .inl (g 1, 1000, .inr (.inl vd))) (m_ri : ri ∈ L) (e_ri : f ri = .inr (0, [.ref rir, .int ((nI 0))])) (m_th : th ∈ L) (e_th : f th = .inr (0, [.ref thr, .int ((nI 0))])) (m_so : so ∈ L) (e_so : f so = .inr (5, [.ref pa, .ref ta, .ref la, .ref ba, .ref si, .ref tt, .ref tp, .int 0, .int 0])) (m_la : la ∈ L) (e_la : f la = .inl (g 0, 3774, .inl vl)) (m_ba : ba ∈ L) (e_ba : f ba = .inl (g 0, 3774, .inl vb)) (m_si : si ∈ L) (e_si : f si = .inr (1, [.ref sw, .int ((nI 0))])) (m_sw : sw ∈ L) (e_sw : f sw = .inl (g 1, 64, .inr (.inl vs))) (m_ch : ch ∈ L) (e_ch : f ch = .inr (2, [.ref im, .ref rm, .ref bo, .int 0, .int 0])) (m_bo : bo ∈ L) (e_bo : f bo = .inr (1, [.ref bw, .int ((nI 0))])) (m_bw : bw ∈ L) (e_bw : f bw = .inl (g 1, 64, .inr (.inl vs2))) (m_y : y ∈ L) (e_y : f y = .inr (7, [.ref y0, .ref y1, .ref y2, .ref y3, .ref y4, .ref y5, .ref y6, .ref y7, .ref y8, .ref y9, .ref y10, .ref y11, .ref y12, .ref y13, .int 0, .ref y15, .ref y16, .ref y17, .ref y18, .ref y19, .ref y20, .ref y21, .ref y22])) (m_y0 : y0 ∈ L) (e_y0 : f y0 = .inl (g 1, 8000, .inr (.inl v_worlds))) (m_y1 : y1 ∈ L) (e_y1 : f y1 = .inl (g 0, 8, .inl v_inWorld)) (m_y2 : y2 ∈ L) (e_y2 : f y2 = .inl (g 0, 30, .inl v_kind)) (m_y3 : y3 ∈ L) (e_y3 : f y3 = .inl (g 0, 30, .inl v_size)) (m_y4 : y4 ∈ L) (e_y4 : f y4 = .inl (g 0, 30, .inl v_marks)) (m_y5 : y5 ∈ L) (e_y5 : f y5 = .inl (g 0, 30, .inl v_seed)) (m_y6 : y6 ∈ L) (e_y6 : f y6 = .inl (g 1, 30000, .inr (.inl v_contents))) (m_y7 : y7 ∈ L) (e_y7 : f y7 = .inl (g 0, 30, .inl v_contentMany)) (m_y8 : y8 ∈ L) (e_y8 : f y8 = .inl (g 0, 122880, .inl v_row)) (m_y9 : y9 ∈ L) (e_y9 : f y9 = .inl (g 0, 76800, .inl v_bits)) (m_y10 : y10 ∈ L) (e_y10 : f y10 = .inl (g 0, 600, .inl v_layerSize)) (m_y11 : y11 ∈ L) (e_y11 : f y11 = .inl (g 0, 600, .inl v_layerCame)) (m_y12 : y12 ∈ L) (e_y12 : f y12 = .inl (g 1, 30000, .inr (.inl v_rest))) (m_y13 : y13 ∈ L) (e_y13 : f y13 = .inl (g 0, 30, .inl v_restMany)) (m_y15 : y15 ∈ L) (e_y15 : f y15 = .inl (g 1, 1000, .inr (.inl v_come))) (m_y16 : y16 ∈ L) (e_y16 : f y16 = .inl (g 1, 1000, .inr (.inl v_rivals))) (m_y17 : y17 ∈ L) (e_y17 : f y17 = .inl (g 1, 1000, .inr (.inl v_gone))) (m_y18 : y18 ∈ L) (e_y18 : f y18 = .inl (g 0, 1000, .inl v_order)) (m_y19 : y19 ∈ L) (e_y19 : f y19 = .inl (g 0, 1000, .inl v_offAt)) (m_y20 : y20 ∈ L) (e_y20 : f y20 = .inl (g 2, 1000, .inl v_isOff)) (m_y21 : y21 ∈ L) (e_y21 : f y21 = .inl (g 0, 4096, .inl v_alone)) (m_y22 : y22 ∈ L) (e_y22 : f y22 = .inl (g 0, 4096, .inl v_kept)) (hs0 : sf 0 = none) (n_ri_dr : ri ≠ dr) (n_th_dr : th ≠ dr) (n_th_ri : th ≠ ri) (n_ba_la : ba ≠ la) (hW2 : ∀ j, j < 8 → ∃ b rb : Nat, ∃ vb : Nat → Int64, wf j = some b ∧ b ∈ L ∧ f b = .inr (0, [.ref rb, .int (nI 0)]) ∧ rb ∈ L ∧ f rb = .inl (g 1, 1000, .inr (.inl vb)) ∧ b ≠ dr ∧ b ≠ ri ∧ b ≠ th ∧ rb ≠ drr ∧ b ∈ Lx ∧ rb ∈ Lx) (hI : ∀ j, j < 8 → v_inWorld j = 0) (hnd : [y, y0, y1, y2, y3, y4, y5, y6, y7, y8, y9, y10, y11, y12, y13, y15, y16, y17, y18, y19, y20, y21, y22].Nodup) (lx_x : x ∈ Lx) (lx_Sl : Sl ∈ Lx) (lx_dr : dr ∈ Lx) (lx_drr : drr ∈ Lx) (lx_ri : ri ∈ Lx) (lx_th : th ∈ Lx) (lx_so : so ∈ Lx) (lx_la : la ∈ Lx) (lx_ba : ba ∈ Lx) (lx_si : si ∈ Lx) (lx_sw : sw ∈ Lx) (lx_ch : ch ∈ Lx) (lx_bo : bo ∈ Lx) (lx_bw : bw ∈ Lx) (nx_y : y ∉ Lx) (nx_y0 : y0 ∉ Lx) (nx_y1 : y1 ∉ Lx) (nx_y2 : y2 ∉ Lx) (nx_y3 : y3 ∉ Lx) (nx_y4 : y4 ∉ Lx) (nx_y5 : y5 ∉ Lx) (nx_y6 : y6 ∉ Lx) (nx_y7 : y7 ∉ Lx) (nx_y8 : y8 ∉ Lx) (nx_y9 : y9 ∉ Lx) (nx_y10 : y10 ∉ Lx) (nx_y11 : y11 ∉ Lx) (nx_y12 : y12 ∉ Lx) (nx_y13 : y13 ∉ Lx) (nx_y15 : y15 ∉ Lx) (nx_y16 : y16 ∉ Lx) (nx_y17 : y17 ∉ Lx) (nx_y18 : y18 ∉ Lx) (nx_y19 : y19 ∉ Lx) (nx_y20 : y20 ∉ Lx) (nx_y21 : y21 ∉ Lx) (nx_y22 : y22 ∉ Lx) : W p l e room_1 s m #[Value.ref bs] below meth c H locs 62 310045 (lw_Z below #[Value.ref bs] s) (F0 m 429 ls []) := by
  have hW : ∀ j, j < 8 → ∃ b rb : Nat, ∃ vb : Nat → Int64, wf j = some b ∧ b ∈ L ∧ f b = .inr (0, [.ref rb, .int (nI 0)]) ∧ rb ∈ L ∧ f rb = .inl (g 1, 1000, .inr (.inl vb)) ∧ b ≠ dr ∧ b ≠ ri ∧ b ≠ th := fun j hj => by obtain ⟨b, rb, vb, h1, h2, h3, h4, h5, h6, h7, h8, -⟩ := hW2 j hj; exact ⟨b, rb, vb, h1, h2, h3, h4, h5, h6, h7, h8⟩
  refine lv_aload_n hx hb dL_law_429 rfl (lv_at hl 2 rfl) ?_
  refine lv_aload_n hx hb dL_law_430 rfl (lv_at hl 3 rfl) ?_
  refine lv_iload_n hx hb dL_law_431 rfl (lv_at hl 0 rfl) ?_
  refine lv_iconst (v := 1) hx hb dL_law_432 (by decide) ?_
  refine lv_iadd hx hb dL_law_433 ?_
  refine lv_topi (fun t_ et_ => ?_)
  obtain rfl : t_ = 1 := et_.trans (by decide)
  refine va_sld hx hb hX hbl (Nat.not_le.mpr hbl) S.2.2.2.1 (vp_in_nI (n := 1) (by omega) (by decide)) dL_law_434 ?_
  refine lv_aload_n hx hb dL_law_435 rfl (lv_at hl 3 rfl) ?_
  refine lv_iload_n hx hb dL_law_436 rfl (lv_at hl 0 rfl) ?_
  refine lv_iconst (v := 2) hx hb dL_law_437 (by decide) ?_
  refine lv_iadd hx hb dL_law_438 ?_
  refine lv_topi (fun t_ et_ => ?_)
  obtain rfl : t_ = 2 := et_.trans (by decide)
  refine va_sld hx hb hX hbl (Nat.not_le.mpr hbl) S.2.2.2.1 (vp_in_nI (n := 2) (by omega) (by decide)) dL_law_439 ?_
  refine lv_aload_n hx hb dL_law_440 rfl (lv_at hl 3 rfl) ?_
  refine lv_iload_n hx hb dL_law_441 rfl (lv_at hl 0 rfl) ?_
  refine lv_iconst (v := 3) hx hb dL_law_442 (by decide) ?_
  refine lv_iadd hx hb dL_law_443 ?_
  refine lv_topi (fun t_ et_ => ?_)
  obtain rfl : t_ = 3 := et_.trans (by decide)
  refine va_sld hx hb hX hbl (Nat.not_le.mpr hbl) S.2.2.2.1 (vp_in_nI (n := 3) (by omega) (by decide)) dL_law_444 ?_
  refine q_vi (As := [.int ((xs (1 : Int32).toNatClampNeg)), .int ((xs (2 : Int32).toNatClampNeg)), .int ((xs (3 : Int32).toNatClampNeg))]) (rest := []) ⟨hx, hb, hml, hown, hts⟩ (c_X8_layered0 l D g m_x e_x m_wo e_wo m_Sl e_Sl m_dr e_dr m_drr e_drr m_ri e_ri m_th e_th (Lx := Lx) hs0 n_ri_dr n_th_dr n_th_ri (fun j b rb z hj h1 h2 => by obtain ⟨b9, rb9, vb9, q1, -, q3, -, -, -, -, -, q9, -⟩ := hW2 j hj; rw [h1] at q1; cases q1; rw [h2] at q3; cases q3; exact q9) hW lx_x lx_Sl lx_dr lx_drr lx_ri lx_th) (cwV 3 hts gL_law_X8_layered rfl rfl rfl (by decide +kernel) ⟨Nat.le_of_ble_eq_true rfl, Nat.le_of_ble_eq_true rfl⟩) S m_x e_x (T := TX8) (N := 8) rfl rfl hl.1 rfl (Nat.le_of_ble_eq_true rfl) dL_law_445 ⟨Nat.le_of_ble_eq_true rfl, Nat.le_of_ble_eq_true rfl⟩ (fun r3 L1 f2 H locs S w445 => ?_)
  refine W.widen (k := 111) (n := 317517) (by decide) (by decide) ?_
  obtain ⟨ex1, mox, fvx⟩ := w445
  have e_y : f2 y = .inr (7, [.ref y0, .ref y1, .ref y2, .ref y3, .ref y4, .ref y5, .ref y6, .ref y7, .ref y8, .ref y9, .ref y10, .ref y11, .ref y12, .ref y13, .int 0, .ref y15, .ref y16, .ref y17, .ref y18, .ref y19, .ref y20, .ref y21, .ref y22]) := (fvx y m_y nx_y).trans e_y
  have e_y0 : f2 y0 = .inl (g 1, 8000, .inr (.inl v_worlds)) := (fvx y0 m_y0 nx_y0).trans e_y0
  have e_y1 : f2 y1 = .inl (g 0, 8, .inl v_inWorld) := (fvx y1 m_y1 nx_y1).trans e_y1
  have e_y2 : f2 y2 = .inl (g 0, 30, .inl v_kind) := (fvx y2 m_y2 nx_y2).trans e_y2
  have e_y3 : f2 y3 = .inl (g 0, 30, .inl v_size) := (fvx y3 m_y3 nx_y3).trans e_y3
  have e_y4 : f2 y4 = .inl (g 0, 30, .inl v_marks) := (fvx y4 m_y4 nx_y4).trans e_y4
  have e_y5 : f2 y5 = .inl (g 0, 30, .inl v_seed) := (fvx y5 m_y5 nx_y5).trans e_y5
  have e_y6 : f2 y6 = .inl (g 1, 30000, .inr (.inl v_contents)) := (fvx y6 m_y6 nx_y6).trans e_y6
  have e_y7 : f2 y7 = .inl (g 0, 30, .inl v_contentMany) := (fvx y7 m_y7 nx_y7).trans e_y7
  have e_y8 : f2 y8 = .inl (g 0, 122880, .inl v_row) := (fvx y8 m_y8 nx_y8).trans e_y8
  have e_y9 : f2 y9 = .inl (g 0, 76800, .inl v_bits) := (fvx y9 m_y9 nx_y9).trans e_y9
  have e_y10 : f2 y10 = .inl (g 0, 600, .inl v_layerSize) := (fvx y10 m_y10 nx_y10).trans e_y10
  have e_y11 : f2 y11 = .inl (g 0, 600, .inl v_layerCame) := (fvx y11 m_y11 nx_y11).trans e_y11
  have e_y12 : f2 y12 = .inl (g 1, 30000, .inr (.inl v_rest)) := (fvx y12 m_y12 nx_y12).trans e_y12
  have e_y13 : f2 y13 = .inl (g 0, 30, .inl v_restMany) := (fvx y13 m_y13 nx_y13).trans e_y13
  have e_y15 : f2 y15 = .inl (g 1, 1000, .inr (.inl v_come)) := (fvx y15 m_y15 nx_y15).trans e_y15
  have e_y16 : f2 y16 = .inl (g 1, 1000, .inr (.inl v_rivals)) := (fvx y16 m_y16 nx_y16).trans e_y16
  have e_y17 : f2 y17 = .inl (g 1, 1000, .inr (.inl v_gone)) := (fvx y17 m_y17 nx_y17).trans e_y17
  have e_y18 : f2 y18 = .inl (g 0, 1000, .inl v_order) := (fvx y18 m_y18 nx_y18).trans e_y18
  have e_y19 : f2 y19 = .inl (g 0, 1000, .inl v_offAt) := (fvx y19 m_y19 nx_y19).trans e_y19
  have e_y20 : f2 y20 = .inl (g 2, 1000, .inl v_isOff) := (fvx y20 m_y20 nx_y20).trans e_y20
  have e_y21 : f2 y21 = .inl (g 0, 4096, .inl v_alone) := (fvx y21 m_y21 nx_y21).trans e_y21
  have e_y22 : f2 y22 = .inl (g 0, 4096, .inl v_kept) := (fvx y22 m_y22 nx_y22).trans e_y22
  have m_y : y ∈ L1 := mox y m_y
  have m_y0 : y0 ∈ L1 := mox y0 m_y0
  have m_y1 : y1 ∈ L1 := mox y1 m_y1
  have m_y2 : y2 ∈ L1 := mox y2 m_y2
  have m_y3 : y3 ∈ L1 := mox y3 m_y3
  have m_y4 : y4 ∈ L1 := mox y4 m_y4
  have m_y5 : y5 ∈ L1 := mox y5 m_y5
  have m_y6 : y6 ∈ L1 := mox y6 m_y6
  have m_y7 : y7 ∈ L1 := mox y7 m_y7
  have m_y8 : y8 ∈ L1 := mox y8 m_y8
  have m_y9 : y9 ∈ L1 := mox y9 m_y9
  have m_y10 : y10 ∈ L1 := mox y10 m_y10
  have m_y11 : y11 ∈ L1 := mox y11 m_y11
  have m_y12 : y12 ∈ L1 := mox y12 m_y12
  have m_y13 : y13 ∈ L1 := mox y13 m_y13
  have m_y15 : y15 ∈ L1 := mox y15 m_y15
  have m_y16 : y16 ∈ L1 := mox y16 m_y16
  have m_y17 : y17 ∈ L1 := mox y17 m_y17
  have m_y18 : y18 ∈ L1 := mox y18 m_y18
  have m_y19 : y19 ∈ L1 := mox y19 m_y19
  have m_y20 : y20 ∈ L1 := mox y20 m_y20
  have m_y21 : y21 ∈ L1 := mox y21 m_y21
  have m_y22 : y22 ∈ L1 := mox y22 m_y22
  refine lv_aload_n hx hb dL_law_448 rfl (lv_at hl 1 rfl) ?_
  refine lv_aload_n hx hb dL_law_449 rfl (lv_at hl 3 rfl) ?_
  refine lv_iload_n hx hb dL_law_450 rfl (lv_at hl 0 rfl) ?_
  refine lv_iconst (v := 1) hx hb dL_law_451 (by decide) ?_
  refine lv_iadd hx hb dL_law_452 ?_
  refine lv_topi (fun t_ et_ => ?_)
  obtain rfl : t_ = 1 := et_.trans (by decide)
  refine va_sld hx hb hX hbl (Nat.not_le.mpr hbl) S.2.2.2.1 (vp_in_nI (n := 1) (by omega) (by decide)) dL_law_453 ?_
  refine lv_aload_n hx hb dL_law_454 rfl (lv_at hl 3 rfl) ?_
  refine lv_iload_n hx hb dL_law_455 rfl (lv_at hl 0 rfl) ?_
  refine lv_iconst (v := 2) hx hb dL_law_456 (by decide) ?_
  refine lv_iadd hx hb dL_law_457 ?_
  refine lv_topi (fun t_ et_ => ?_)
  obtain rfl : t_ = 2 := et_.trans (by decide)
  refine va_sld hx hb hX hbl (Nat.not_le.mpr hbl) S.2.2.2.1 (vp_in_nI (n := 2) (by omega) (by decide)) dL_law_458 ?_
  refine lv_aload_n hx hb dL_law_459 rfl (lv_at hl 3 rfl) ?_
  refine lv_iload_n hx hb dL_law_460 rfl (lv_at hl 0 rfl) ?_
  refine lv_iconst (v := 3) hx hb dL_law_461 (by decide) ?_
  refine lv_iadd hx hb dL_law_462 ?_
  refine lv_topi (fun t_ et_ => ?_)
  obtain rfl : t_ = 3 := et_.trans (by decide)
  refine va_sld hx hb hX hbl (Nat.not_le.mpr hbl) S.2.2.2.1 (vp_in_nI (n := 3) (by omega) (by decide)) dL_law_463 ?_
  refine q_vi (As := [.int ((xs (1 : Int32).toNatClampNeg)), .int ((xs (2 : Int32).toNatClampNeg)), .int ((xs (3 : Int32).toNatClampNeg))]) (rest := [.int r3]) ⟨hx, hb, hml, hown, hts⟩ (c_X9_layered0 l D g m_y e_y m_y1 e_y1 m_y10 e_y10 m_y11 e_y11 m_y9 e_y9 m_y2 e_y2 m_y3 e_y3 m_y4 e_y4 m_y5 e_y5 m_y7 e_y7 m_y13 e_y13 m_y8 e_y8 hnd hI) (cwV 3 hts gL_law_X9_layered rfl rfl rfl (by decide +kernel) ⟨Nat.le_of_ble_eq_true rfl, Nat.le_of_ble_eq_true rfl⟩) S m_y e_y (T := TX9) (N := 23) rfl rfl hl.1 rfl (Nat.le_of_ble_eq_true rfl) dL_law_464 ⟨Nat.le_of_ble_eq_true rfl, Nat.le_of_ble_eq_true rfl⟩ (fun r6 L4 f5 H locs S w464 => ?_)
  have ex2 := w464
  refine lv_icmp_eq (tgt := 1121) hx hb dL_law_467 (by decide) (fun b467 => ?_) (fun b467 => absurd (ex1.trans ex2.symm) b467)
  obtain ⟨i1, ei1⟩ : ∃ y : Int32, y = 0 + 6 := ⟨_, rfl⟩
  refine lv_iinc (v := i1) (lv' := [(3, .int i1), (2, .ref y), (1, .ref x), (0, .ref bs)]) hx hb dL_law_1121 hl (k := 0) rfl (by rw [ei1]; rfl) (by decide) rfl (fun ls hl => ?_)
  refine lv_goto (tgt := 18) hx hb dL_law_1124 (by decide) ?_
  refine lv_iload_n hx hb dL_law_18 rfl (lv_at hl 0 rfl) ?_
  refine lv_aload_n hx hb dL_law_19 rfl (lv_at hl 3 rfl) ?_
  refine va_slen hx hb hX hbl (Nat.not_le.mpr hbl) S.2.2.2.1 dL_law_20 ?_
  refine lv_bipush (v := 6) hx hb dL_law_21 (by decide) ?_
  refine lv_isub hx hb dL_law_23 ?_
  refine lv_icmp_gt (tgt := 1127) hx hb dL_law_24 (by decide) (fun b24 => ?_) (fun b24 => absurd (by rw [ei1]; decide) b24)
  refine lv_iconst (v := 1) hx hb dL_law_1127 (by decide) ?_
  refine va_forget (fun q hq => S.2.2.2.1.2.2 q hq) ?_
  refine W.widen (k := 600000) (n := 7302250) (by decide) (by decide) ?_
  exact lw_ret hx hb hr hlk dL_law_1128

set_option maxHeartbeats 4000000 in
set_option maxRecDepth 100000 in
theorem law_20 {p : Program} {l : Launch} {e : Env} {s : State} {m : MethodId} {below : List Frame} {meth : Method} {c : Code} {bs : Nat} {xs : Nat → Int32} {D : va_G} {g : Nat → ClassId} {Lx L : List Nat} {f : Nat → va_E} {H : Heap} {locs : List Loc} {ls : Array Slot} {x wo Sl dr drr ri rir th thr so pa ta la ba si tt tp sw ch im rm bo bw y y0 y1 y2 y3 y4 y5 y6 y7 y8 y9 y10 y11 y12 y13 y15 y16 y17 y18 y19 y20 y21 y22 : Nat} {wf sf : Nat → Option Nat} {vd vs vs2 : Nat → Int64} {vl vb : Nat → Int32} {v_worlds : Nat → Int64} {v_inWorld : Nat → Int32} {v_kind : Nat → Int32} {v_size : Nat → Int32} {v_marks : Nat → Int32} {v_seed : Nat → Int32} {v_contents : Nat → Int64} {v_contentMany : Nat → Int32} {v_row : Nat → Int32} {v_bits : Nat → Int32} {v_layerSize : Nat → Int32} {v_layerCame : Nat → Int32} {v_rest : Nat → Int64} {v_restMany : Nat → Int32} {v_come : Nat → Int64} {v_rivals : Nat → Int64} {v_gone : Nat → Int64} {v_order : Nat → Int32} {v_offAt : Nat → Int32} {v_isOff : Nat → Int32} {v_alone : Nat → Int32} {v_kept : Nat → Int32} (hx : p.tables.exec = Jvm.exec) (hb : c.code = cL_law) (hr : meth.sig.returnType = ret) (hml : c.maxLocals = 4) (hown : s.vm.findClass RL = some m.cls) (hts : ∀ w ∈ wsL_law, w.before #[Value.ref bs] s = true) (hX : va_X bs 6 xs s s.heap) (hbl : bs < s.heap.size) (hlk : meth.locks = false) (S : PS D g (fun q : Nat => s.heap.size ≤ q) s.heap s L f H locs) (hl : lv_has ls 4 [(3, .int 0), (2, .ref y), (1, .ref x), (0, .ref bs)]) (m_x : x ∈ L) (e_x : f x = .inr (6, [.ref wo, .ref Sl, .ref dr, .ref ri, .ref th, .ref so, .ref ch, .int 0])) (m_wo : wo ∈ L) (e_wo : f wo = .inl (g 3, 8, .inr (.inr (.inr (.inr wf))))) (m_Sl : Sl ∈ L) (e_Sl : f Sl = .inl (g 5, 30, .inr (.inr (.inr (.inr sf))))) (m_dr : dr ∈ L) (e_dr : f dr = .inr (0, [.ref drr, .int ((nI 0))])) (m_drr : drr ∈ L) (e_drr : f drr = .inl (g 1, 1000, .inr (.inl vd))) (m_ri : ri ∈ L) (e_ri : f ri = .inr (0, [.ref rir, .int ((nI 0))])) (m_th : th ∈ L) (e_th : f th = .inr (0, [.ref thr, .int ((nI 0))])) (m_so : so ∈ L) (e_so : f so = .inr (5, [.ref pa, .ref ta, .ref la, .ref ba, .ref si, .ref tt, .ref tp, .int 0, .int 0])) (m_la : la ∈ L) (e_la : f la = .inl (g 0, 3774, .inl vl)) (m_ba : ba ∈ L) (e_ba : f ba = .inl (g 0, 3774, .inl vb)) (m_si : si ∈ L) (e_si : f si = .inr (1, [.ref sw, .int ((nI 0))])) (m_sw : sw ∈ L) (e_sw : f sw = .inl (g 1, 64, .inr (.inl vs))) (m_ch : ch ∈ L) (e_ch : f ch = .inr (2, [.ref im, .ref rm, .ref bo, .int 0, .int 0])) (m_bo : bo ∈ L) (e_bo : f bo = .inr (1, [.ref bw, .int ((nI 0))])) (m_bw : bw ∈ L) (e_bw : f bw = .inl (g 1, 64, .inr (.inl vs2))) (m_y : y ∈ L) (e_y : f y = .inr (7, [.ref y0, .ref y1, .ref y2, .ref y3, .ref y4, .ref y5, .ref y6, .ref y7, .ref y8, .ref y9, .ref y10, .ref y11, .ref y12, .ref y13, .int 0, .ref y15, .ref y16, .ref y17, .ref y18, .ref y19, .ref y20, .ref y21, .ref y22])) (m_y0 : y0 ∈ L) (e_y0 : f y0 = .inl (g 1, 8000, .inr (.inl v_worlds))) (m_y1 : y1 ∈ L) (e_y1 : f y1 = .inl (g 0, 8, .inl v_inWorld)) (m_y2 : y2 ∈ L) (e_y2 : f y2 = .inl (g 0, 30, .inl v_kind)) (m_y3 : y3 ∈ L) (e_y3 : f y3 = .inl (g 0, 30, .inl v_size)) (m_y4 : y4 ∈ L) (e_y4 : f y4 = .inl (g 0, 30, .inl v_marks)) (m_y5 : y5 ∈ L) (e_y5 : f y5 = .inl (g 0, 30, .inl v_seed)) (m_y6 : y6 ∈ L) (e_y6 : f y6 = .inl (g 1, 30000, .inr (.inl v_contents))) (m_y7 : y7 ∈ L) (e_y7 : f y7 = .inl (g 0, 30, .inl v_contentMany)) (m_y8 : y8 ∈ L) (e_y8 : f y8 = .inl (g 0, 122880, .inl v_row)) (m_y9 : y9 ∈ L) (e_y9 : f y9 = .inl (g 0, 76800, .inl v_bits)) (m_y10 : y10 ∈ L) (e_y10 : f y10 = .inl (g 0, 600, .inl v_layerSize)) (m_y11 : y11 ∈ L) (e_y11 : f y11 = .inl (g 0, 600, .inl v_layerCame)) (m_y12 : y12 ∈ L) (e_y12 : f y12 = .inl (g 1, 30000, .inr (.inl v_rest))) (m_y13 : y13 ∈ L) (e_y13 : f y13 = .inl (g 0, 30, .inl v_restMany)) (m_y15 : y15 ∈ L) (e_y15 : f y15 = .inl (g 1, 1000, .inr (.inl v_come))) (m_y16 : y16 ∈ L) (e_y16 : f y16 = .inl (g 1, 1000, .inr (.inl v_rivals))) (m_y17 : y17 ∈ L) (e_y17 : f y17 = .inl (g 1, 1000, .inr (.inl v_gone))) (m_y18 : y18 ∈ L) (e_y18 : f y18 = .inl (g 0, 1000, .inl v_order)) (m_y19 : y19 ∈ L) (e_y19 : f y19 = .inl (g 0, 1000, .inl v_offAt)) (m_y20 : y20 ∈ L) (e_y20 : f y20 = .inl (g 2, 1000, .inl v_isOff)) (m_y21 : y21 ∈ L) (e_y21 : f y21 = .inl (g 0, 4096, .inl v_alone)) (m_y22 : y22 ∈ L) (e_y22 : f y22 = .inl (g 0, 4096, .inl v_kept)) (hs0 : sf 0 = none) (n_ri_dr : ri ≠ dr) (n_th_dr : th ≠ dr) (n_th_ri : th ≠ ri) (n_ba_la : ba ≠ la) (hW2 : ∀ j, j < 8 → ∃ b rb : Nat, ∃ vb : Nat → Int64, wf j = some b ∧ b ∈ L ∧ f b = .inr (0, [.ref rb, .int (nI 0)]) ∧ rb ∈ L ∧ f rb = .inl (g 1, 1000, .inr (.inl vb)) ∧ b ≠ dr ∧ b ≠ ri ∧ b ≠ th ∧ rb ≠ drr ∧ b ∈ Lx ∧ rb ∈ Lx) (hI : ∀ j, j < 8 → v_inWorld j = 0) (hnd : [y, y0, y1, y2, y3, y4, y5, y6, y7, y8, y9, y10, y11, y12, y13, y15, y16, y17, y18, y19, y20, y21, y22].Nodup) (lx_x : x ∈ Lx) (lx_Sl : Sl ∈ Lx) (lx_dr : dr ∈ Lx) (lx_drr : drr ∈ Lx) (lx_ri : ri ∈ Lx) (lx_th : th ∈ Lx) (lx_so : so ∈ Lx) (lx_la : la ∈ Lx) (lx_ba : ba ∈ Lx) (lx_si : si ∈ Lx) (lx_sw : sw ∈ Lx) (lx_ch : ch ∈ Lx) (lx_bo : bo ∈ Lx) (lx_bw : bw ∈ Lx) (nx_y : y ∉ Lx) (nx_y0 : y0 ∉ Lx) (nx_y1 : y1 ∉ Lx) (nx_y2 : y2 ∉ Lx) (nx_y3 : y3 ∉ Lx) (nx_y4 : y4 ∉ Lx) (nx_y5 : y5 ∉ Lx) (nx_y6 : y6 ∉ Lx) (nx_y7 : y7 ∉ Lx) (nx_y8 : y8 ∉ Lx) (nx_y9 : y9 ∉ Lx) (nx_y10 : y10 ∉ Lx) (nx_y11 : y11 ∉ Lx) (nx_y12 : y12 ∉ Lx) (nx_y13 : y13 ∉ Lx) (nx_y15 : y15 ∉ Lx) (nx_y16 : y16 ∉ Lx) (nx_y17 : y17 ∉ Lx) (nx_y18 : y18 ∉ Lx) (nx_y19 : y19 ∉ Lx) (nx_y20 : y20 ∉ Lx) (nx_y21 : y21 ∉ Lx) (nx_y22 : y22 ∉ Lx) : W p l e room_1 s m #[Value.ref bs] below meth c H locs 62 310045 (lw_Z below #[Value.ref bs] s) (F0 m 1042 ls []) := by
  have hW : ∀ j, j < 8 → ∃ b rb : Nat, ∃ vb : Nat → Int64, wf j = some b ∧ b ∈ L ∧ f b = .inr (0, [.ref rb, .int (nI 0)]) ∧ rb ∈ L ∧ f rb = .inl (g 1, 1000, .inr (.inl vb)) ∧ b ≠ dr ∧ b ≠ ri ∧ b ≠ th := fun j hj => by obtain ⟨b, rb, vb, h1, h2, h3, h4, h5, h6, h7, h8, -⟩ := hW2 j hj; exact ⟨b, rb, vb, h1, h2, h3, h4, h5, h6, h7, h8⟩
  refine lv_aload_n hx hb dL_law_1042 rfl (lv_at hl 2 rfl) ?_
  refine lv_aload_n hx hb dL_law_1043 rfl (lv_at hl 3 rfl) ?_
  refine lv_iload_n hx hb dL_law_1044 rfl (lv_at hl 0 rfl) ?_
  refine lv_iconst (v := 1) hx hb dL_law_1045 (by decide) ?_
  refine lv_iadd hx hb dL_law_1046 ?_
  refine lv_topi (fun t_ et_ => ?_)
  obtain rfl : t_ = 1 := et_.trans (by decide)
  refine va_sld hx hb hX hbl (Nat.not_le.mpr hbl) S.2.2.2.1 (vp_in_nI (n := 1) (by omega) (by decide)) dL_law_1047 ?_
  refine lv_aload_n hx hb dL_law_1048 rfl (lv_at hl 3 rfl) ?_
  refine lv_iload_n hx hb dL_law_1049 rfl (lv_at hl 0 rfl) ?_
  refine lv_iconst (v := 2) hx hb dL_law_1050 (by decide) ?_
  refine lv_iadd hx hb dL_law_1051 ?_
  refine lv_topi (fun t_ et_ => ?_)
  obtain rfl : t_ = 2 := et_.trans (by decide)
  refine va_sld hx hb hX hbl (Nat.not_le.mpr hbl) S.2.2.2.1 (vp_in_nI (n := 2) (by omega) (by decide)) dL_law_1052 ?_
  refine lv_aload_n hx hb dL_law_1053 rfl (lv_at hl 3 rfl) ?_
  refine lv_iload_n hx hb dL_law_1054 rfl (lv_at hl 0 rfl) ?_
  refine lv_iconst (v := 3) hx hb dL_law_1055 (by decide) ?_
  refine lv_iadd hx hb dL_law_1056 ?_
  refine lv_topi (fun t_ et_ => ?_)
  obtain rfl : t_ = 3 := et_.trans (by decide)
  refine va_sld hx hb hX hbl (Nat.not_le.mpr hbl) S.2.2.2.1 (vp_in_nI (n := 3) (by omega) (by decide)) dL_law_1057 ?_
  refine lv_aload_n hx hb dL_law_1058 rfl (lv_at hl 3 rfl) ?_
  refine lv_iload_n hx hb dL_law_1059 rfl (lv_at hl 0 rfl) ?_
  refine lv_iconst (v := 4) hx hb dL_law_1060 (by decide) ?_
  refine lv_iadd hx hb dL_law_1061 ?_
  refine lv_topi (fun t_ et_ => ?_)
  obtain rfl : t_ = 4 := et_.trans (by decide)
  refine va_sld hx hb hX hbl (Nat.not_le.mpr hbl) S.2.2.2.1 (vp_in_nI (n := 4) (by omega) (by decide)) dL_law_1062 ?_
  refine q_vi (As := [.int ((xs (1 : Int32).toNatClampNeg)), .int ((xs (2 : Int32).toNatClampNeg)), .int ((xs (3 : Int32).toNatClampNeg)), .int ((xs (4 : Int32).toNatClampNeg))]) (rest := []) ⟨hx, hb, hml, hown, hts⟩ (c_X8_fewest0 l D g m_x e_x m_wo e_wo m_ri e_ri m_ch e_ch m_bo e_bo m_bw e_bw (Lx := Lx) hW lx_ri lx_ch lx_bo lx_bw) (cwV 4 hts gL_law_X8_fewest rfl rfl rfl (by decide +kernel) ⟨Nat.le_of_ble_eq_true rfl, Nat.le_of_ble_eq_true rfl⟩) S m_x e_x (T := TX8) (N := 8) rfl rfl hl.1 rfl (Nat.le_of_ble_eq_true rfl) dL_law_1063 ⟨Nat.le_of_ble_eq_true rfl, Nat.le_of_ble_eq_true rfl⟩ (fun r3 L1 f2 H locs S w1063 => ?_)
  obtain ⟨ex1, mox, fvx⟩ := w1063
  have e_y : f2 y = .inr (7, [.ref y0, .ref y1, .ref y2, .ref y3, .ref y4, .ref y5, .ref y6, .ref y7, .ref y8, .ref y9, .ref y10, .ref y11, .ref y12, .ref y13, .int 0, .ref y15, .ref y16, .ref y17, .ref y18, .ref y19, .ref y20, .ref y21, .ref y22]) := (fvx y m_y nx_y).trans e_y
  have e_y0 : f2 y0 = .inl (g 1, 8000, .inr (.inl v_worlds)) := (fvx y0 m_y0 nx_y0).trans e_y0
  have e_y1 : f2 y1 = .inl (g 0, 8, .inl v_inWorld) := (fvx y1 m_y1 nx_y1).trans e_y1
  have e_y2 : f2 y2 = .inl (g 0, 30, .inl v_kind) := (fvx y2 m_y2 nx_y2).trans e_y2
  have e_y3 : f2 y3 = .inl (g 0, 30, .inl v_size) := (fvx y3 m_y3 nx_y3).trans e_y3
  have e_y4 : f2 y4 = .inl (g 0, 30, .inl v_marks) := (fvx y4 m_y4 nx_y4).trans e_y4
  have e_y5 : f2 y5 = .inl (g 0, 30, .inl v_seed) := (fvx y5 m_y5 nx_y5).trans e_y5
  have e_y6 : f2 y6 = .inl (g 1, 30000, .inr (.inl v_contents)) := (fvx y6 m_y6 nx_y6).trans e_y6
  have e_y7 : f2 y7 = .inl (g 0, 30, .inl v_contentMany) := (fvx y7 m_y7 nx_y7).trans e_y7
  have e_y8 : f2 y8 = .inl (g 0, 122880, .inl v_row) := (fvx y8 m_y8 nx_y8).trans e_y8
  have e_y9 : f2 y9 = .inl (g 0, 76800, .inl v_bits) := (fvx y9 m_y9 nx_y9).trans e_y9
  have e_y10 : f2 y10 = .inl (g 0, 600, .inl v_layerSize) := (fvx y10 m_y10 nx_y10).trans e_y10
  have e_y11 : f2 y11 = .inl (g 0, 600, .inl v_layerCame) := (fvx y11 m_y11 nx_y11).trans e_y11
  have e_y12 : f2 y12 = .inl (g 1, 30000, .inr (.inl v_rest)) := (fvx y12 m_y12 nx_y12).trans e_y12
  have e_y13 : f2 y13 = .inl (g 0, 30, .inl v_restMany) := (fvx y13 m_y13 nx_y13).trans e_y13
  have e_y15 : f2 y15 = .inl (g 1, 1000, .inr (.inl v_come)) := (fvx y15 m_y15 nx_y15).trans e_y15
  have e_y16 : f2 y16 = .inl (g 1, 1000, .inr (.inl v_rivals)) := (fvx y16 m_y16 nx_y16).trans e_y16
  have e_y17 : f2 y17 = .inl (g 1, 1000, .inr (.inl v_gone)) := (fvx y17 m_y17 nx_y17).trans e_y17
  have e_y18 : f2 y18 = .inl (g 0, 1000, .inl v_order) := (fvx y18 m_y18 nx_y18).trans e_y18
  have e_y19 : f2 y19 = .inl (g 0, 1000, .inl v_offAt) := (fvx y19 m_y19 nx_y19).trans e_y19
  have e_y20 : f2 y20 = .inl (g 2, 1000, .inl v_isOff) := (fvx y20 m_y20 nx_y20).trans e_y20
  have e_y21 : f2 y21 = .inl (g 0, 4096, .inl v_alone) := (fvx y21 m_y21 nx_y21).trans e_y21
  have e_y22 : f2 y22 = .inl (g 0, 4096, .inl v_kept) := (fvx y22 m_y22 nx_y22).trans e_y22
  have m_y : y ∈ L1 := mox y m_y
  have m_y0 : y0 ∈ L1 := mox y0 m_y0
  have m_y1 : y1 ∈ L1 := mox y1 m_y1
  have m_y2 : y2 ∈ L1 := mox y2 m_y2
  have m_y3 : y3 ∈ L1 := mox y3 m_y3
  have m_y4 : y4 ∈ L1 := mox y4 m_y4
  have m_y5 : y5 ∈ L1 := mox y5 m_y5
  have m_y6 : y6 ∈ L1 := mox y6 m_y6
  have m_y7 : y7 ∈ L1 := mox y7 m_y7
  have m_y8 : y8 ∈ L1 := mox y8 m_y8
  have m_y9 : y9 ∈ L1 := mox y9 m_y9
  have m_y10 : y10 ∈ L1 := mox y10 m_y10
  have m_y11 : y11 ∈ L1 := mox y11 m_y11
  have m_y12 : y12 ∈ L1 := mox y12 m_y12
  have m_y13 : y13 ∈ L1 := mox y13 m_y13
  have m_y15 : y15 ∈ L1 := mox y15 m_y15
  have m_y16 : y16 ∈ L1 := mox y16 m_y16
  have m_y17 : y17 ∈ L1 := mox y17 m_y17
  have m_y18 : y18 ∈ L1 := mox y18 m_y18
  have m_y19 : y19 ∈ L1 := mox y19 m_y19
  have m_y20 : y20 ∈ L1 := mox y20 m_y20
  have m_y21 : y21 ∈ L1 := mox y21 m_y21
  have m_y22 : y22 ∈ L1 := mox y22 m_y22
  refine lv_aload_n hx hb dL_law_1066 rfl (lv_at hl 1 rfl) ?_
  refine lv_aload_n hx hb dL_law_1067 rfl (lv_at hl 3 rfl) ?_
  refine lv_iload_n hx hb dL_law_1068 rfl (lv_at hl 0 rfl) ?_
  refine lv_iconst (v := 1) hx hb dL_law_1069 (by decide) ?_
  refine lv_iadd hx hb dL_law_1070 ?_
  refine lv_topi (fun t_ et_ => ?_)
  obtain rfl : t_ = 1 := et_.trans (by decide)
  refine va_sld hx hb hX hbl (Nat.not_le.mpr hbl) S.2.2.2.1 (vp_in_nI (n := 1) (by omega) (by decide)) dL_law_1071 ?_
  refine lv_aload_n hx hb dL_law_1072 rfl (lv_at hl 3 rfl) ?_
  refine lv_iload_n hx hb dL_law_1073 rfl (lv_at hl 0 rfl) ?_
  refine lv_iconst (v := 2) hx hb dL_law_1074 (by decide) ?_
  refine lv_iadd hx hb dL_law_1075 ?_
  refine lv_topi (fun t_ et_ => ?_)
  obtain rfl : t_ = 2 := et_.trans (by decide)
  refine va_sld hx hb hX hbl (Nat.not_le.mpr hbl) S.2.2.2.1 (vp_in_nI (n := 2) (by omega) (by decide)) dL_law_1076 ?_
  refine lv_aload_n hx hb dL_law_1077 rfl (lv_at hl 3 rfl) ?_
  refine lv_iload_n hx hb dL_law_1078 rfl (lv_at hl 0 rfl) ?_
  refine lv_iconst (v := 3) hx hb dL_law_1079 (by decide) ?_
  refine lv_iadd hx hb dL_law_1080 ?_
  refine lv_topi (fun t_ et_ => ?_)
  obtain rfl : t_ = 3 := et_.trans (by decide)
  refine va_sld hx hb hX hbl (Nat.not_le.mpr hbl) S.2.2.2.1 (vp_in_nI (n := 3) (by omega) (by decide)) dL_law_1081 ?_
  refine lv_aload_n hx hb dL_law_1082 rfl (lv_at hl 3 rfl) ?_
  refine lv_iload_n hx hb dL_law_1083 rfl (lv_at hl 0 rfl) ?_
  refine lv_iconst (v := 4) hx hb dL_law_1084 (by decide) ?_
  refine lv_iadd hx hb dL_law_1085 ?_
  refine lv_topi (fun t_ et_ => ?_)
  obtain rfl : t_ = 4 := et_.trans (by decide)
  refine va_sld hx hb hX hbl (Nat.not_le.mpr hbl) S.2.2.2.1 (vp_in_nI (n := 4) (by omega) (by decide)) dL_law_1086 ?_
  refine q_vi (As := [.int ((xs (1 : Int32).toNatClampNeg)), .int ((xs (2 : Int32).toNatClampNeg)), .int ((xs (3 : Int32).toNatClampNeg)), .int ((xs (4 : Int32).toNatClampNeg))]) (rest := [.int r3]) ⟨hx, hb, hml, hown, hts⟩ (c_X9_fewest0 l D g m_y e_y m_y1 e_y1 m_y21 e_y21 hnd hI) (cwV 4 hts gL_law_X9_fewest rfl rfl rfl (by decide +kernel) ⟨Nat.le_of_ble_eq_true rfl, Nat.le_of_ble_eq_true rfl⟩) S m_y e_y (T := TX9) (N := 23) rfl rfl hl.1 rfl (Nat.le_of_ble_eq_true rfl) dL_law_1087 ⟨Nat.le_of_ble_eq_true rfl, Nat.le_of_ble_eq_true rfl⟩ (fun r6 L4 f5 H locs S w1087 => ?_)
  have ex2 := w1087
  refine lv_icmp_eq (tgt := 1121) hx hb dL_law_1090 (by decide) (fun b1090 => ?_) (fun b1090 => absurd (ex1.trans ex2.symm) b1090)
  obtain ⟨i1, ei1⟩ : ∃ y : Int32, y = 0 + 6 := ⟨_, rfl⟩
  refine lv_iinc (v := i1) (lv' := [(3, .int i1), (2, .ref y), (1, .ref x), (0, .ref bs)]) hx hb dL_law_1121 hl (k := 0) rfl (by rw [ei1]; rfl) (by decide) rfl (fun ls hl => ?_)
  refine lv_goto (tgt := 18) hx hb dL_law_1124 (by decide) ?_
  refine lv_iload_n hx hb dL_law_18 rfl (lv_at hl 0 rfl) ?_
  refine lv_aload_n hx hb dL_law_19 rfl (lv_at hl 3 rfl) ?_
  refine va_slen hx hb hX hbl (Nat.not_le.mpr hbl) S.2.2.2.1 dL_law_20 ?_
  refine lv_bipush (v := 6) hx hb dL_law_21 (by decide) ?_
  refine lv_isub hx hb dL_law_23 ?_
  refine lv_icmp_gt (tgt := 1127) hx hb dL_law_24 (by decide) (fun b24 => ?_) (fun b24 => absurd (by rw [ei1]; decide) b24)
  refine lv_iconst (v := 1) hx hb dL_law_1127 (by decide) ?_
  refine va_forget (fun q hq => S.2.2.2.1.2.2 q hq) ?_
  refine W.widen (k := 600000) (n := 7302250) (by decide) (by decide) ?_
  exact lw_ret hx hb hr hlk dL_law_1128

set_option maxHeartbeats 4000000 in
set_option maxRecDepth 100000 in
theorem law_0 {p : Program} {l : Launch} {e : Env} {s : State} {m : MethodId} {below : List Frame} {meth : Method} {c : Code} {bs : Nat} {xs : Nat → Int32} {D : va_G} {g : Nat → ClassId} {Lx L : List Nat} {f : Nat → va_E} {H : Heap} {locs : List Loc} {ls : Array Slot} {x wo Sl dr drr ri rir th thr so pa ta la ba si tt tp sw ch im rm bo bw y y0 y1 y2 y3 y4 y5 y6 y7 y8 y9 y10 y11 y12 y13 y15 y16 y17 y18 y19 y20 y21 y22 : Nat} {wf sf : Nat → Option Nat} {vd vs vs2 : Nat → Int64} {vl vb : Nat → Int32} {v_worlds : Nat → Int64} {v_inWorld : Nat → Int32} {v_kind : Nat → Int32} {v_size : Nat → Int32} {v_marks : Nat → Int32} {v_seed : Nat → Int32} {v_contents : Nat → Int64} {v_contentMany : Nat → Int32} {v_row : Nat → Int32} {v_bits : Nat → Int32} {v_layerSize : Nat → Int32} {v_layerCame : Nat → Int32} {v_rest : Nat → Int64} {v_restMany : Nat → Int32} {v_come : Nat → Int64} {v_rivals : Nat → Int64} {v_gone : Nat → Int64} {v_order : Nat → Int32} {v_offAt : Nat → Int32} {v_isOff : Nat → Int32} {v_alone : Nat → Int32} {v_kept : Nat → Int32} (hx : p.tables.exec = Jvm.exec) (hb : c.code = cL_law) (hr : meth.sig.returnType = ret) (hml : c.maxLocals = 4) (hown : s.vm.findClass RL = some m.cls) (hts : ∀ w ∈ wsL_law, w.before #[Value.ref bs] s = true) (hX : va_X bs 6 xs s s.heap) (hbl : bs < s.heap.size) (hlk : meth.locks = false) (S : PS D g (fun q : Nat => s.heap.size ≤ q) s.heap s L f H locs) (hl : lv_has ls 4 [(3, .int 0), (2, .ref y), (1, .ref x), (0, .ref bs)]) (m_x : x ∈ L) (e_x : f x = .inr (6, [.ref wo, .ref Sl, .ref dr, .ref ri, .ref th, .ref so, .ref ch, .int 0])) (m_wo : wo ∈ L) (e_wo : f wo = .inl (g 3, 8, .inr (.inr (.inr (.inr wf))))) (m_Sl : Sl ∈ L) (e_Sl : f Sl = .inl (g 5, 30, .inr (.inr (.inr (.inr sf))))) (m_dr : dr ∈ L) (e_dr : f dr = .inr (0, [.ref drr, .int ((nI 0))])) (m_drr : drr ∈ L) (e_drr : f drr = .inl (g 1, 1000, .inr (.inl vd))) (m_ri : ri ∈ L) (e_ri : f ri = .inr (0, [.ref rir, .int ((nI 0))])) (m_th : th ∈ L) (e_th : f th = .inr (0, [.ref thr, .int ((nI 0))])) (m_so : so ∈ L) (e_so : f so = .inr (5, [.ref pa, .ref ta, .ref la, .ref ba, .ref si, .ref tt, .ref tp, .int 0, .int 0])) (m_la : la ∈ L) (e_la : f la = .inl (g 0, 3774, .inl vl)) (m_ba : ba ∈ L) (e_ba : f ba = .inl (g 0, 3774, .inl vb)) (m_si : si ∈ L) (e_si : f si = .inr (1, [.ref sw, .int ((nI 0))])) (m_sw : sw ∈ L) (e_sw : f sw = .inl (g 1, 64, .inr (.inl vs))) (m_ch : ch ∈ L) (e_ch : f ch = .inr (2, [.ref im, .ref rm, .ref bo, .int 0, .int 0])) (m_bo : bo ∈ L) (e_bo : f bo = .inr (1, [.ref bw, .int ((nI 0))])) (m_bw : bw ∈ L) (e_bw : f bw = .inl (g 1, 64, .inr (.inl vs2))) (m_y : y ∈ L) (e_y : f y = .inr (7, [.ref y0, .ref y1, .ref y2, .ref y3, .ref y4, .ref y5, .ref y6, .ref y7, .ref y8, .ref y9, .ref y10, .ref y11, .ref y12, .ref y13, .int 0, .ref y15, .ref y16, .ref y17, .ref y18, .ref y19, .ref y20, .ref y21, .ref y22])) (m_y0 : y0 ∈ L) (e_y0 : f y0 = .inl (g 1, 8000, .inr (.inl v_worlds))) (m_y1 : y1 ∈ L) (e_y1 : f y1 = .inl (g 0, 8, .inl v_inWorld)) (m_y2 : y2 ∈ L) (e_y2 : f y2 = .inl (g 0, 30, .inl v_kind)) (m_y3 : y3 ∈ L) (e_y3 : f y3 = .inl (g 0, 30, .inl v_size)) (m_y4 : y4 ∈ L) (e_y4 : f y4 = .inl (g 0, 30, .inl v_marks)) (m_y5 : y5 ∈ L) (e_y5 : f y5 = .inl (g 0, 30, .inl v_seed)) (m_y6 : y6 ∈ L) (e_y6 : f y6 = .inl (g 1, 30000, .inr (.inl v_contents))) (m_y7 : y7 ∈ L) (e_y7 : f y7 = .inl (g 0, 30, .inl v_contentMany)) (m_y8 : y8 ∈ L) (e_y8 : f y8 = .inl (g 0, 122880, .inl v_row)) (m_y9 : y9 ∈ L) (e_y9 : f y9 = .inl (g 0, 76800, .inl v_bits)) (m_y10 : y10 ∈ L) (e_y10 : f y10 = .inl (g 0, 600, .inl v_layerSize)) (m_y11 : y11 ∈ L) (e_y11 : f y11 = .inl (g 0, 600, .inl v_layerCame)) (m_y12 : y12 ∈ L) (e_y12 : f y12 = .inl (g 1, 30000, .inr (.inl v_rest))) (m_y13 : y13 ∈ L) (e_y13 : f y13 = .inl (g 0, 30, .inl v_restMany)) (m_y15 : y15 ∈ L) (e_y15 : f y15 = .inl (g 1, 1000, .inr (.inl v_come))) (m_y16 : y16 ∈ L) (e_y16 : f y16 = .inl (g 1, 1000, .inr (.inl v_rivals))) (m_y17 : y17 ∈ L) (e_y17 : f y17 = .inl (g 1, 1000, .inr (.inl v_gone))) (m_y18 : y18 ∈ L) (e_y18 : f y18 = .inl (g 0, 1000, .inl v_order)) (m_y19 : y19 ∈ L) (e_y19 : f y19 = .inl (g 0, 1000, .inl v_offAt)) (m_y20 : y20 ∈ L) (e_y20 : f y20 = .inl (g 2, 1000, .inl v_isOff)) (m_y21 : y21 ∈ L) (e_y21 : f y21 = .inl (g 0, 4096, .inl v_alone)) (m_y22 : y22 ∈ L) (e_y22 : f y22 = .inl (g 0, 4096, .inl v_kept)) (hs0 : sf 0 = none) (n_ri_dr : ri ≠ dr) (n_th_dr : th ≠ dr) (n_th_ri : th ≠ ri) (n_ba_la : ba ≠ la) (hW2 : ∀ j, j < 8 → ∃ b rb : Nat, ∃ vb : Nat → Int64, wf j = some b ∧ b ∈ L ∧ f b = .inr (0, [.ref rb, .int (nI 0)]) ∧ rb ∈ L ∧ f rb = .inl (g 1, 1000, .inr (.inl vb)) ∧ b ≠ dr ∧ b ≠ ri ∧ b ≠ th ∧ rb ≠ drr ∧ b ∈ Lx ∧ rb ∈ Lx) (hI : ∀ j, j < 8 → v_inWorld j = 0) (hnd : [y, y0, y1, y2, y3, y4, y5, y6, y7, y8, y9, y10, y11, y12, y13, y15, y16, y17, y18, y19, y20, y21, y22].Nodup) (lx_x : x ∈ Lx) (lx_Sl : Sl ∈ Lx) (lx_dr : dr ∈ Lx) (lx_drr : drr ∈ Lx) (lx_ri : ri ∈ Lx) (lx_th : th ∈ Lx) (lx_so : so ∈ Lx) (lx_la : la ∈ Lx) (lx_ba : ba ∈ Lx) (lx_si : si ∈ Lx) (lx_sw : sw ∈ Lx) (lx_ch : ch ∈ Lx) (lx_bo : bo ∈ Lx) (lx_bw : bw ∈ Lx) (nx_y : y ∉ Lx) (nx_y0 : y0 ∉ Lx) (nx_y1 : y1 ∉ Lx) (nx_y2 : y2 ∉ Lx) (nx_y3 : y3 ∉ Lx) (nx_y4 : y4 ∉ Lx) (nx_y5 : y5 ∉ Lx) (nx_y6 : y6 ∉ Lx) (nx_y7 : y7 ∉ Lx) (nx_y8 : y8 ∉ Lx) (nx_y9 : y9 ∉ Lx) (nx_y10 : y10 ∉ Lx) (nx_y11 : y11 ∉ Lx) (nx_y12 : y12 ∉ Lx) (nx_y13 : y13 ∉ Lx) (nx_y15 : y15 ∉ Lx) (nx_y16 : y16 ∉ Lx) (nx_y17 : y17 ∉ Lx) (nx_y18 : y18 ∉ Lx) (nx_y19 : y19 ∉ Lx) (nx_y20 : y20 ∉ Lx) (nx_y21 : y21 ∉ Lx) (nx_y22 : y22 ∉ Lx) : W p l e room_1 s m #[Value.ref bs] below meth c H locs 62 310045 (lw_Z below #[Value.ref bs] s) (F0 m 140 ls []) := by
  have hW : ∀ j, j < 8 → ∃ b rb : Nat, ∃ vb : Nat → Int64, wf j = some b ∧ b ∈ L ∧ f b = .inr (0, [.ref rb, .int (nI 0)]) ∧ rb ∈ L ∧ f rb = .inl (g 1, 1000, .inr (.inl vb)) ∧ b ≠ dr ∧ b ≠ ri ∧ b ≠ th := fun j hj => by obtain ⟨b, rb, vb, h1, h2, h3, h4, h5, h6, h7, h8, -⟩ := hW2 j hj; exact ⟨b, rb, vb, h1, h2, h3, h4, h5, h6, h7, h8⟩
  by_cases hg : (¬ xs (1 : Int32).toNatClampNeg < 0 ∧ ¬ 8 ≤ xs (1 : Int32).toNatClampNeg) ∧ ¬ xs (5 : Int32).toNatClampNeg < 1 ∧ xs (5 : Int32).toNatClampNeg ≤ 1000
  · skip
    obtain ⟨j, hj, ejw⟩ := pu_of (n := 8) hg.1.1 hg.1.2 (by decide)
    obtain ⟨n, hn2, ejn⟩ := nI_of2 (M := 1000) (n := 1000) rfl (fun h => hg.2.1 (Int32.lt_trans h (by decide))) hg.2.2
    have hn1 : 1 ≤ n := Nat.pos_of_ne_zero (fun h => hg.2.1 (by rw [ejn, h]; decide))
    obtain ⟨wb, wrb, vwb, hwf, m_wb, e_wb, m_wrb, e_wrb, n_b_dr, -, -, n_rb_drr, lx_wb, lx_wrb⟩ := hW2 j hj
    refine lv_aload_n hx hb dL_law_140 rfl (lv_at hl 2 rfl) ?_
    refine lv_aload_n hx hb dL_law_141 rfl (lv_at hl 3 rfl) ?_
    refine lv_iload_n hx hb dL_law_142 rfl (lv_at hl 0 rfl) ?_
    refine lv_iconst (v := 1) hx hb dL_law_143 (by decide) ?_
    refine lv_iadd hx hb dL_law_144 ?_
    refine lv_topi (fun t_ et_ => ?_)
    obtain rfl : t_ = 1 := et_.trans (by decide)
    refine va_sld hx hb hX hbl (Nat.not_le.mpr hbl) S.2.2.2.1 (vp_in_nI (n := 1) (by omega) (by decide)) dL_law_145 ?_
    refine lv_aload_n hx hb dL_law_146 rfl (lv_at hl 3 rfl) ?_
    refine lv_iload_n hx hb dL_law_147 rfl (lv_at hl 0 rfl) ?_
    refine lv_iconst (v := 2) hx hb dL_law_148 (by decide) ?_
    refine lv_iadd hx hb dL_law_149 ?_
    refine lv_topi (fun t_ et_ => ?_)
    obtain rfl : t_ = 2 := et_.trans (by decide)
    refine va_sld hx hb hX hbl (Nat.not_le.mpr hbl) S.2.2.2.1 (vp_in_nI (n := 2) (by omega) (by decide)) dL_law_150 ?_
    refine lv_i2l hx hb dL_law_151 rfl ?_
    refine lv_bipush (v := 32) hx hb dL_law_152 (by decide) ?_
    refine lv_lshl hx hb dL_law_154 rfl ?_
    refine lv_aload_n hx hb dL_law_155 rfl (lv_at hl 3 rfl) ?_
    refine lv_iload_n hx hb dL_law_156 rfl (lv_at hl 0 rfl) ?_
    refine lv_iconst (v := 3) hx hb dL_law_157 (by decide) ?_
    refine lv_iadd hx hb dL_law_158 ?_
    refine lv_topi (fun t_ et_ => ?_)
    obtain rfl : t_ = 3 := et_.trans (by decide)
    refine va_sld hx hb hX hbl (Nat.not_le.mpr hbl) S.2.2.2.1 (vp_in_nI (n := 3) (by omega) (by decide)) dL_law_159 ?_
    refine lv_i2l hx hb dL_law_160 rfl ?_
    refine lv_ldc2 (v := (4294967295)) hx hb hown (hts (.constantLong RL 13 (4294967295)) (by decide +kernel)) dL_law_161 ?_
    refine lv_land hx hb dL_law_164 ?_
    refine lv_lor hx hb dL_law_165 ?_
    refine lv_topl (fun fs1 efs1 => ?_)
    refine lv_aload_n hx hb dL_law_166 rfl (lv_at hl 3 rfl) ?_
    refine lv_iload_n hx hb dL_law_167 rfl (lv_at hl 0 rfl) ?_
    refine lv_iconst (v := 4) hx hb dL_law_168 (by decide) ?_
    refine lv_iadd hx hb dL_law_169 ?_
    refine lv_topi (fun t_ et_ => ?_)
    obtain rfl : t_ = 4 := et_.trans (by decide)
    refine va_sld hx hb hX hbl (Nat.not_le.mpr hbl) S.2.2.2.1 (vp_in_nI (n := 4) (by omega) (by decide)) dL_law_170 ?_
    refine lv_aload_n hx hb dL_law_171 rfl (lv_at hl 3 rfl) ?_
    refine lv_iload_n hx hb dL_law_172 rfl (lv_at hl 0 rfl) ?_
    refine lv_iconst (v := 5) hx hb dL_law_173 (by decide) ?_
    refine lv_iadd hx hb dL_law_174 ?_
    refine lv_topi (fun t_ et_ => ?_)
    obtain rfl : t_ = 5 := et_.trans (by decide)
    refine va_sld hx hb hX hbl (Nat.not_le.mpr hbl) S.2.2.2.1 (vp_in_nI (n := 5) (by omega) (by decide)) dL_law_175 ?_
    refine W.eq (g2 := F0 m 176 ls [.int ((nI n)), .int ((xs (4 : Int32).toNatClampNeg)), .long fs1, .int ((nI j)), .ref x]) (by rw [ejw, ejn]) ?_
    refine q_vi (As := [.int ((nI j)), .long fs1, .int ((xs (4 : Int32).toNatClampNeg)), .int ((nI n))]) (rest := []) ⟨hx, hb, hml, hown, hts⟩ (c_X8_span0 l D g m_x e_x m_wo e_wo m_dr e_dr m_drr e_drr m_wb e_wb m_wrb e_wrb (Lx := Lx) hj hwf n_b_dr n_rb_drr hn1 hn2 lx_dr lx_drr lx_wb lx_wrb) (cwV 4 hts gL_law_X8_span rfl rfl rfl (by decide +kernel) ⟨Nat.le_of_ble_eq_true rfl, Nat.le_of_ble_eq_true rfl⟩) S m_x e_x (T := TX8) (N := 8) rfl rfl hl.1 rfl (Nat.le_of_ble_eq_true rfl) dL_law_176 ⟨Nat.le_of_ble_eq_true rfl, Nat.le_of_ble_eq_true rfl⟩ (fun r3 L1 f2 H locs S w176 => ?_)
    obtain ⟨ex1, mox, fvx⟩ := w176
    have e_y : f2 y = .inr (7, [.ref y0, .ref y1, .ref y2, .ref y3, .ref y4, .ref y5, .ref y6, .ref y7, .ref y8, .ref y9, .ref y10, .ref y11, .ref y12, .ref y13, .int 0, .ref y15, .ref y16, .ref y17, .ref y18, .ref y19, .ref y20, .ref y21, .ref y22]) := (fvx y m_y nx_y).trans e_y
    have e_y0 : f2 y0 = .inl (g 1, 8000, .inr (.inl v_worlds)) := (fvx y0 m_y0 nx_y0).trans e_y0
    have e_y1 : f2 y1 = .inl (g 0, 8, .inl v_inWorld) := (fvx y1 m_y1 nx_y1).trans e_y1
    have e_y2 : f2 y2 = .inl (g 0, 30, .inl v_kind) := (fvx y2 m_y2 nx_y2).trans e_y2
    have e_y3 : f2 y3 = .inl (g 0, 30, .inl v_size) := (fvx y3 m_y3 nx_y3).trans e_y3
    have e_y4 : f2 y4 = .inl (g 0, 30, .inl v_marks) := (fvx y4 m_y4 nx_y4).trans e_y4
    have e_y5 : f2 y5 = .inl (g 0, 30, .inl v_seed) := (fvx y5 m_y5 nx_y5).trans e_y5
    have e_y6 : f2 y6 = .inl (g 1, 30000, .inr (.inl v_contents)) := (fvx y6 m_y6 nx_y6).trans e_y6
    have e_y7 : f2 y7 = .inl (g 0, 30, .inl v_contentMany) := (fvx y7 m_y7 nx_y7).trans e_y7
    have e_y8 : f2 y8 = .inl (g 0, 122880, .inl v_row) := (fvx y8 m_y8 nx_y8).trans e_y8
    have e_y9 : f2 y9 = .inl (g 0, 76800, .inl v_bits) := (fvx y9 m_y9 nx_y9).trans e_y9
    have e_y10 : f2 y10 = .inl (g 0, 600, .inl v_layerSize) := (fvx y10 m_y10 nx_y10).trans e_y10
    have e_y11 : f2 y11 = .inl (g 0, 600, .inl v_layerCame) := (fvx y11 m_y11 nx_y11).trans e_y11
    have e_y12 : f2 y12 = .inl (g 1, 30000, .inr (.inl v_rest)) := (fvx y12 m_y12 nx_y12).trans e_y12
    have e_y13 : f2 y13 = .inl (g 0, 30, .inl v_restMany) := (fvx y13 m_y13 nx_y13).trans e_y13
    have e_y15 : f2 y15 = .inl (g 1, 1000, .inr (.inl v_come)) := (fvx y15 m_y15 nx_y15).trans e_y15
    have e_y16 : f2 y16 = .inl (g 1, 1000, .inr (.inl v_rivals)) := (fvx y16 m_y16 nx_y16).trans e_y16
    have e_y17 : f2 y17 = .inl (g 1, 1000, .inr (.inl v_gone)) := (fvx y17 m_y17 nx_y17).trans e_y17
    have e_y18 : f2 y18 = .inl (g 0, 1000, .inl v_order) := (fvx y18 m_y18 nx_y18).trans e_y18
    have e_y19 : f2 y19 = .inl (g 0, 1000, .inl v_offAt) := (fvx y19 m_y19 nx_y19).trans e_y19
    have e_y20 : f2 y20 = .inl (g 2, 1000, .inl v_isOff) := (fvx y20 m_y20 nx_y20).trans e_y20
    have e_y21 : f2 y21 = .inl (g 0, 4096, .inl v_alone) := (fvx y21 m_y21 nx_y21).trans e_y21
    have e_y22 : f2 y22 = .inl (g 0, 4096, .inl v_kept) := (fvx y22 m_y22 nx_y22).trans e_y22
    have m_y : y ∈ L1 := mox y m_y
    have m_y0 : y0 ∈ L1 := mox y0 m_y0
    have m_y1 : y1 ∈ L1 := mox y1 m_y1
    have m_y2 : y2 ∈ L1 := mox y2 m_y2
    have m_y3 : y3 ∈ L1 := mox y3 m_y3
    have m_y4 : y4 ∈ L1 := mox y4 m_y4
    have m_y5 : y5 ∈ L1 := mox y5 m_y5
    have m_y6 : y6 ∈ L1 := mox y6 m_y6
    have m_y7 : y7 ∈ L1 := mox y7 m_y7
    have m_y8 : y8 ∈ L1 := mox y8 m_y8
    have m_y9 : y9 ∈ L1 := mox y9 m_y9
    have m_y10 : y10 ∈ L1 := mox y10 m_y10
    have m_y11 : y11 ∈ L1 := mox y11 m_y11
    have m_y12 : y12 ∈ L1 := mox y12 m_y12
    have m_y13 : y13 ∈ L1 := mox y13 m_y13
    have m_y15 : y15 ∈ L1 := mox y15 m_y15
    have m_y16 : y16 ∈ L1 := mox y16 m_y16
    have m_y17 : y17 ∈ L1 := mox y17 m_y17
    have m_y18 : y18 ∈ L1 := mox y18 m_y18
    have m_y19 : y19 ∈ L1 := mox y19 m_y19
    have m_y20 : y20 ∈ L1 := mox y20 m_y20
    have m_y21 : y21 ∈ L1 := mox y21 m_y21
    have m_y22 : y22 ∈ L1 := mox y22 m_y22
    refine lv_aload_n hx hb dL_law_179 rfl (lv_at hl 1 rfl) ?_
    refine lv_aload_n hx hb dL_law_180 rfl (lv_at hl 3 rfl) ?_
    refine lv_iload_n hx hb dL_law_181 rfl (lv_at hl 0 rfl) ?_
    refine lv_iconst (v := 1) hx hb dL_law_182 (by decide) ?_
    refine lv_iadd hx hb dL_law_183 ?_
    refine lv_topi (fun t_ et_ => ?_)
    obtain rfl : t_ = 1 := et_.trans (by decide)
    refine va_sld hx hb hX hbl (Nat.not_le.mpr hbl) S.2.2.2.1 (vp_in_nI (n := 1) (by omega) (by decide)) dL_law_184 ?_
    refine lv_aload_n hx hb dL_law_185 rfl (lv_at hl 3 rfl) ?_
    refine lv_iload_n hx hb dL_law_186 rfl (lv_at hl 0 rfl) ?_
    refine lv_iconst (v := 2) hx hb dL_law_187 (by decide) ?_
    refine lv_iadd hx hb dL_law_188 ?_
    refine lv_topi (fun t_ et_ => ?_)
    obtain rfl : t_ = 2 := et_.trans (by decide)
    refine va_sld hx hb hX hbl (Nat.not_le.mpr hbl) S.2.2.2.1 (vp_in_nI (n := 2) (by omega) (by decide)) dL_law_189 ?_
    refine lv_i2l hx hb dL_law_190 rfl ?_
    refine lv_bipush (v := 32) hx hb dL_law_191 (by decide) ?_
    refine lv_lshl hx hb dL_law_193 rfl ?_
    refine lv_aload_n hx hb dL_law_194 rfl (lv_at hl 3 rfl) ?_
    refine lv_iload_n hx hb dL_law_195 rfl (lv_at hl 0 rfl) ?_
    refine lv_iconst (v := 3) hx hb dL_law_196 (by decide) ?_
    refine lv_iadd hx hb dL_law_197 ?_
    refine lv_topi (fun t_ et_ => ?_)
    obtain rfl : t_ = 3 := et_.trans (by decide)
    refine va_sld hx hb hX hbl (Nat.not_le.mpr hbl) S.2.2.2.1 (vp_in_nI (n := 3) (by omega) (by decide)) dL_law_198 ?_
    refine lv_i2l hx hb dL_law_199 rfl ?_
    refine lv_ldc2 (v := (4294967295)) hx hb hown (hts (.constantLong RL 13 (4294967295)) (by decide +kernel)) dL_law_200 ?_
    refine lv_land hx hb dL_law_203 ?_
    refine lv_lor hx hb dL_law_204 ?_
    refine lv_topl (fun fs2 efs2 => ?_)
    obtain rfl : fs1 = fs2 := efs1.trans efs2.symm
    refine lv_aload_n hx hb dL_law_205 rfl (lv_at hl 3 rfl) ?_
    refine lv_iload_n hx hb dL_law_206 rfl (lv_at hl 0 rfl) ?_
    refine lv_iconst (v := 4) hx hb dL_law_207 (by decide) ?_
    refine lv_iadd hx hb dL_law_208 ?_
    refine lv_topi (fun t_ et_ => ?_)
    obtain rfl : t_ = 4 := et_.trans (by decide)
    refine va_sld hx hb hX hbl (Nat.not_le.mpr hbl) S.2.2.2.1 (vp_in_nI (n := 4) (by omega) (by decide)) dL_law_209 ?_
    refine lv_aload_n hx hb dL_law_210 rfl (lv_at hl 3 rfl) ?_
    refine lv_iload_n hx hb dL_law_211 rfl (lv_at hl 0 rfl) ?_
    refine lv_iconst (v := 5) hx hb dL_law_212 (by decide) ?_
    refine lv_iadd hx hb dL_law_213 ?_
    refine lv_topi (fun t_ et_ => ?_)
    obtain rfl : t_ = 5 := et_.trans (by decide)
    refine va_sld hx hb hX hbl (Nat.not_le.mpr hbl) S.2.2.2.1 (vp_in_nI (n := 5) (by omega) (by decide)) dL_law_214 ?_
    refine W.eq (g2 := F0 m 215 ls [.int ((nI n)), .int ((xs (4 : Int32).toNatClampNeg)), .long fs1, .int ((nI j)), .ref y, .int r3]) (by rw [ejw, ejn]) ?_
    refine q_vi (As := [.int ((nI j)), .long fs1, .int ((xs (4 : Int32).toNatClampNeg)), .int ((nI n))]) (rest := [.int r3]) ⟨hx, hb, hml, hown, hts⟩ (c_X9_span0 l D g m_y e_y m_y1 e_y1 m_y0 e_y0 hnd hj (hI _ hj) hn1 hn2) (cwV 4 hts gL_law_X9_span rfl rfl rfl (by decide +kernel) ⟨Nat.le_of_ble_eq_true rfl, Nat.le_of_ble_eq_true rfl⟩) S m_y e_y (T := TX9) (N := 23) rfl rfl hl.1 rfl (Nat.le_of_ble_eq_true rfl) dL_law_215 ⟨Nat.le_of_ble_eq_true rfl, Nat.le_of_ble_eq_true rfl⟩ (fun r6 L4 f5 H locs S w215 => ?_)
    have ex2 := w215
    refine lv_icmp_eq (tgt := 1121) hx hb dL_law_218 (by decide) (fun b218 => ?_) (fun b218 => absurd (ex1.trans ex2.symm) b218)
    obtain ⟨i1, ei1⟩ : ∃ y : Int32, y = 0 + 6 := ⟨_, rfl⟩
    refine lv_iinc (v := i1) (lv' := [(3, .int i1), (2, .ref y), (1, .ref x), (0, .ref bs)]) hx hb dL_law_1121 hl (k := 0) rfl (by rw [ei1]; rfl) (by decide) rfl (fun ls hl => ?_)
    refine lv_goto (tgt := 18) hx hb dL_law_1124 (by decide) ?_
    refine lv_iload_n hx hb dL_law_18 rfl (lv_at hl 0 rfl) ?_
    refine lv_aload_n hx hb dL_law_19 rfl (lv_at hl 3 rfl) ?_
    refine va_slen hx hb hX hbl (Nat.not_le.mpr hbl) S.2.2.2.1 dL_law_20 ?_
    refine lv_bipush (v := 6) hx hb dL_law_21 (by decide) ?_
    refine lv_isub hx hb dL_law_23 ?_
    refine lv_icmp_gt (tgt := 1127) hx hb dL_law_24 (by decide) (fun b24 => ?_) (fun b24 => absurd (by rw [ei1]; decide) b24)
    refine lv_iconst (v := 1) hx hb dL_law_1127 (by decide) ?_
    refine va_forget (fun q hq => S.2.2.2.1.2.2 q hq) ?_
    refine W.widen (k := 600000) (n := 7302250) (by decide) (by decide) ?_
    exact lw_ret hx hb hr hlk dL_law_1128
  · skip
    refine lv_aload_n hx hb dL_law_140 rfl (lv_at hl 2 rfl) ?_
    refine lv_aload_n hx hb dL_law_141 rfl (lv_at hl 3 rfl) ?_
    refine lv_iload_n hx hb dL_law_142 rfl (lv_at hl 0 rfl) ?_
    refine lv_iconst (v := 1) hx hb dL_law_143 (by decide) ?_
    refine lv_iadd hx hb dL_law_144 ?_
    refine lv_topi (fun t_ et_ => ?_)
    obtain rfl : t_ = 1 := et_.trans (by decide)
    refine va_sld hx hb hX hbl (Nat.not_le.mpr hbl) S.2.2.2.1 (vp_in_nI (n := 1) (by omega) (by decide)) dL_law_145 ?_
    refine lv_aload_n hx hb dL_law_146 rfl (lv_at hl 3 rfl) ?_
    refine lv_iload_n hx hb dL_law_147 rfl (lv_at hl 0 rfl) ?_
    refine lv_iconst (v := 2) hx hb dL_law_148 (by decide) ?_
    refine lv_iadd hx hb dL_law_149 ?_
    refine lv_topi (fun t_ et_ => ?_)
    obtain rfl : t_ = 2 := et_.trans (by decide)
    refine va_sld hx hb hX hbl (Nat.not_le.mpr hbl) S.2.2.2.1 (vp_in_nI (n := 2) (by omega) (by decide)) dL_law_150 ?_
    refine lv_i2l hx hb dL_law_151 rfl ?_
    refine lv_bipush (v := 32) hx hb dL_law_152 (by decide) ?_
    refine lv_lshl hx hb dL_law_154 rfl ?_
    refine lv_aload_n hx hb dL_law_155 rfl (lv_at hl 3 rfl) ?_
    refine lv_iload_n hx hb dL_law_156 rfl (lv_at hl 0 rfl) ?_
    refine lv_iconst (v := 3) hx hb dL_law_157 (by decide) ?_
    refine lv_iadd hx hb dL_law_158 ?_
    refine lv_topi (fun t_ et_ => ?_)
    obtain rfl : t_ = 3 := et_.trans (by decide)
    refine va_sld hx hb hX hbl (Nat.not_le.mpr hbl) S.2.2.2.1 (vp_in_nI (n := 3) (by omega) (by decide)) dL_law_159 ?_
    refine lv_i2l hx hb dL_law_160 rfl ?_
    refine lv_ldc2 (v := (4294967295)) hx hb hown (hts (.constantLong RL 13 (4294967295)) (by decide +kernel)) dL_law_161 ?_
    refine lv_land hx hb dL_law_164 ?_
    refine lv_lor hx hb dL_law_165 ?_
    refine lv_topl (fun fs1 efs1 => ?_)
    refine lv_aload_n hx hb dL_law_166 rfl (lv_at hl 3 rfl) ?_
    refine lv_iload_n hx hb dL_law_167 rfl (lv_at hl 0 rfl) ?_
    refine lv_iconst (v := 4) hx hb dL_law_168 (by decide) ?_
    refine lv_iadd hx hb dL_law_169 ?_
    refine lv_topi (fun t_ et_ => ?_)
    obtain rfl : t_ = 4 := et_.trans (by decide)
    refine va_sld hx hb hX hbl (Nat.not_le.mpr hbl) S.2.2.2.1 (vp_in_nI (n := 4) (by omega) (by decide)) dL_law_170 ?_
    refine lv_aload_n hx hb dL_law_171 rfl (lv_at hl 3 rfl) ?_
    refine lv_iload_n hx hb dL_law_172 rfl (lv_at hl 0 rfl) ?_
    refine lv_iconst (v := 5) hx hb dL_law_173 (by decide) ?_
    refine lv_iadd hx hb dL_law_174 ?_
    refine lv_topi (fun t_ et_ => ?_)
    obtain rfl : t_ = 5 := et_.trans (by decide)
    refine va_sld hx hb hX hbl (Nat.not_le.mpr hbl) S.2.2.2.1 (vp_in_nI (n := 5) (by omega) (by decide)) dL_law_175 ?_
    refine q_vi (As := [.int ((xs (1 : Int32).toNatClampNeg)), .long fs1, .int ((xs (4 : Int32).toNatClampNeg)), .int ((xs (5 : Int32).toNatClampNeg))]) (rest := []) ⟨hx, hb, hml, hown, hts⟩ (c_X8_spanBad l D g m_x e_x m_wo e_wo hW hg) (cwV 4 hts gL_law_X8_span rfl rfl rfl (by decide +kernel) ⟨Nat.le_of_ble_eq_true rfl, Nat.le_of_ble_eq_true rfl⟩) S m_x e_x (T := TX8) (N := 8) rfl rfl hl.1 rfl (Nat.le_of_ble_eq_true rfl) dL_law_176 ⟨Nat.le_of_ble_eq_true rfl, Nat.le_of_ble_eq_true rfl⟩ (fun r3 L1 f2 H locs S w176 => ?_)
    obtain ⟨ex1, eL1, ef1⟩ := w176
    rw [eL1, ef1] at S
    refine lv_aload_n hx hb dL_law_179 rfl (lv_at hl 1 rfl) ?_
    refine lv_aload_n hx hb dL_law_180 rfl (lv_at hl 3 rfl) ?_
    refine lv_iload_n hx hb dL_law_181 rfl (lv_at hl 0 rfl) ?_
    refine lv_iconst (v := 1) hx hb dL_law_182 (by decide) ?_
    refine lv_iadd hx hb dL_law_183 ?_
    refine lv_topi (fun t_ et_ => ?_)
    obtain rfl : t_ = 1 := et_.trans (by decide)
    refine va_sld hx hb hX hbl (Nat.not_le.mpr hbl) S.2.2.2.1 (vp_in_nI (n := 1) (by omega) (by decide)) dL_law_184 ?_
    refine lv_aload_n hx hb dL_law_185 rfl (lv_at hl 3 rfl) ?_
    refine lv_iload_n hx hb dL_law_186 rfl (lv_at hl 0 rfl) ?_
    refine lv_iconst (v := 2) hx hb dL_law_187 (by decide) ?_
    refine lv_iadd hx hb dL_law_188 ?_
    refine lv_topi (fun t_ et_ => ?_)
    obtain rfl : t_ = 2 := et_.trans (by decide)
    refine va_sld hx hb hX hbl (Nat.not_le.mpr hbl) S.2.2.2.1 (vp_in_nI (n := 2) (by omega) (by decide)) dL_law_189 ?_
    refine lv_i2l hx hb dL_law_190 rfl ?_
    refine lv_bipush (v := 32) hx hb dL_law_191 (by decide) ?_
    refine lv_lshl hx hb dL_law_193 rfl ?_
    refine lv_aload_n hx hb dL_law_194 rfl (lv_at hl 3 rfl) ?_
    refine lv_iload_n hx hb dL_law_195 rfl (lv_at hl 0 rfl) ?_
    refine lv_iconst (v := 3) hx hb dL_law_196 (by decide) ?_
    refine lv_iadd hx hb dL_law_197 ?_
    refine lv_topi (fun t_ et_ => ?_)
    obtain rfl : t_ = 3 := et_.trans (by decide)
    refine va_sld hx hb hX hbl (Nat.not_le.mpr hbl) S.2.2.2.1 (vp_in_nI (n := 3) (by omega) (by decide)) dL_law_198 ?_
    refine lv_i2l hx hb dL_law_199 rfl ?_
    refine lv_ldc2 (v := (4294967295)) hx hb hown (hts (.constantLong RL 13 (4294967295)) (by decide +kernel)) dL_law_200 ?_
    refine lv_land hx hb dL_law_203 ?_
    refine lv_lor hx hb dL_law_204 ?_
    refine lv_topl (fun fs2 efs2 => ?_)
    obtain rfl : fs1 = fs2 := efs1.trans efs2.symm
    refine lv_aload_n hx hb dL_law_205 rfl (lv_at hl 3 rfl) ?_
    refine lv_iload_n hx hb dL_law_206 rfl (lv_at hl 0 rfl) ?_
    refine lv_iconst (v := 4) hx hb dL_law_207 (by decide) ?_
    refine lv_iadd hx hb dL_law_208 ?_
    refine lv_topi (fun t_ et_ => ?_)
    obtain rfl : t_ = 4 := et_.trans (by decide)
    refine va_sld hx hb hX hbl (Nat.not_le.mpr hbl) S.2.2.2.1 (vp_in_nI (n := 4) (by omega) (by decide)) dL_law_209 ?_
    refine lv_aload_n hx hb dL_law_210 rfl (lv_at hl 3 rfl) ?_
    refine lv_iload_n hx hb dL_law_211 rfl (lv_at hl 0 rfl) ?_
    refine lv_iconst (v := 5) hx hb dL_law_212 (by decide) ?_
    refine lv_iadd hx hb dL_law_213 ?_
    refine lv_topi (fun t_ et_ => ?_)
    obtain rfl : t_ = 5 := et_.trans (by decide)
    refine va_sld hx hb hX hbl (Nat.not_le.mpr hbl) S.2.2.2.1 (vp_in_nI (n := 5) (by omega) (by decide)) dL_law_214 ?_
    refine q_vi (As := [.int ((xs (1 : Int32).toNatClampNeg)), .long fs1, .int ((xs (4 : Int32).toNatClampNeg)), .int ((xs (5 : Int32).toNatClampNeg))]) (rest := [.int r3]) ⟨hx, hb, hml, hown, hts⟩ (c_X9_spanBad l D g m_y e_y hg) (cwV 4 hts gL_law_X9_span rfl rfl rfl (by decide +kernel) ⟨Nat.le_of_ble_eq_true rfl, Nat.le_of_ble_eq_true rfl⟩) S m_y e_y (T := TX9) (N := 23) rfl rfl hl.1 rfl (Nat.le_of_ble_eq_true rfl) dL_law_215 ⟨Nat.le_of_ble_eq_true rfl, Nat.le_of_ble_eq_true rfl⟩ (fun r6 L4 f5 H locs S w215 => ?_)
    have ex2 := w215
    refine lv_icmp_eq (tgt := 1121) hx hb dL_law_218 (by decide) (fun b218 => ?_) (fun b218 => absurd (ex1.trans ex2.symm) b218)
    obtain ⟨i1, ei1⟩ : ∃ y : Int32, y = 0 + 6 := ⟨_, rfl⟩
    refine lv_iinc (v := i1) (lv' := [(3, .int i1), (2, .ref y), (1, .ref x), (0, .ref bs)]) hx hb dL_law_1121 hl (k := 0) rfl (by rw [ei1]; rfl) (by decide) rfl (fun ls hl => ?_)
    refine lv_goto (tgt := 18) hx hb dL_law_1124 (by decide) ?_
    refine lv_iload_n hx hb dL_law_18 rfl (lv_at hl 0 rfl) ?_
    refine lv_aload_n hx hb dL_law_19 rfl (lv_at hl 3 rfl) ?_
    refine va_slen hx hb hX hbl (Nat.not_le.mpr hbl) S.2.2.2.1 dL_law_20 ?_
    refine lv_bipush (v := 6) hx hb dL_law_21 (by decide) ?_
    refine lv_isub hx hb dL_law_23 ?_
    refine lv_icmp_gt (tgt := 1127) hx hb dL_law_24 (by decide) (fun b24 => ?_) (fun b24 => absurd (by rw [ei1]; decide) b24)
    refine lv_iconst (v := 1) hx hb dL_law_1127 (by decide) ?_
    refine va_forget (fun q hq => S.2.2.2.1.2.2 q hq) ?_
    refine W.widen (k := 600000) (n := 7302250) (by decide) (by decide) ?_
    exact lw_ret hx hb hr hlk dL_law_1128
