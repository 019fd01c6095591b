set_option maxHeartbeats 4000000 in
set_option maxRecDepth 100000 in
theorem law_1 {p : Program} {l : Launch} {e : Env} {s : State} {m : MethodId} {below : List Frame} {meth : Method} {c : Code} {bs : Nat} {xs : Nat → Int32} {D : va_G} {g : Nat → ClassId} {Lx L : List Nat} {f : Nat → va_E} {H : Heap} {locs : List Loc} {ls : Array Slot} {x wo Sl dr drr ri rir th thr so pa ta la ba si tt tp sw ch im rm bo bw y y0 y1 y2 y3 y4 y5 y6 y7 y8 y9 y10 y11 y12 y13 y15 y16 y17 y18 y19 y20 y21 y22 : Nat} {wf sf : Nat → Option Nat} {vd vs vs2 : Nat → Int64} {vl vb : Nat → Int32} {v_worlds : Nat → Int64} {v_inWorld : Nat → Int32} {v_kind : Nat → Int32} {v_size : Nat → Int32} {v_marks : Nat → Int32} {v_seed : Nat → Int32} {v_contents : Nat → Int64} {v_contentMany : Nat → Int32} {v_row : Nat → Int32} {v_bits : Nat → Int32} {v_layerSize : Nat → Int32} {v_layerCame : Nat → Int32} {v_rest : Nat → Int64} {v_restMany : Nat → Int32} {v_come : Nat → Int64} {v_rivals : Nat → Int64} {v_gone : Nat → Int64} {v_order : Nat → Int32} {v_offAt : Nat → Int32} {v_isOff : Nat → Int32} {v_alone : Nat → Int32} {v_kept : Nat → Int32} (hx : p.tables.exec = Jvm.exec) (hb : c.code = cL_law) (hr : meth.sig.returnType = ret) (hml : c.maxLocals = 4) (hown : s.vm.findClass RL = some m.cls) (hts : ∀ w ∈ wsL_law, w.before #[Value.ref bs] s = true) (hX : va_X bs 6 xs s s.heap) (hbl : bs < s.heap.size) (hlk : meth.locks = false) (S : PS D g (fun q : Nat => s.heap.size ≤ q) s.heap s L f H locs) (hl : lv_has ls 4 [(3, .int 0), (2, .ref y), (1, .ref x), (0, .ref bs)]) (m_x : x ∈ L) (e_x : f x = .inr (6, [.ref wo, .ref Sl, .ref dr, .ref ri, .ref th, .ref so, .ref ch, .int 0])) (m_wo : wo ∈ L) (e_wo : f wo = .inl (g 3, 8, .inr (.inr (.inr (.inr wf))))) (m_Sl : Sl ∈ L) (e_Sl : f Sl = .inl (g 5, 30, .inr (.inr (.inr (.inr sf))))) (m_dr : dr ∈ L) (e_dr : f dr = .inr (0, [.ref drr, .int ((nI 0))])) (m_drr : drr ∈ L) (e_drr : f drr = .inl (g 1, 1000, .inr (.inl vd))) (m_ri : ri ∈ L) (e_ri : f ri = .inr (0, [.ref rir, .int ((nI 0))])) (m_th : th ∈ L) (e_th : f th = .inr (0, [.ref thr, .int ((nI 0))])) (m_so : so ∈ L) (e_so : f so = .inr (5, [.ref pa, .ref ta, .ref la, .ref ba, .ref si, .ref tt, .ref tp, .int 0, .int 0])) (m_la : la ∈ L) (e_la : f la = .inl (g 0, 3774, .inl vl)) (m_ba : ba ∈ L) (e_ba : f ba = .inl (g 0, 3774, .inl vb)) (m_si : si ∈ L) (e_si : f si = .inr (1, [.ref sw, .int ((nI 0))])) (m_sw : sw ∈ L) (e_sw : f sw = .inl (g 1, 64, .inr (.inl vs))) (m_ch : ch ∈ L) (e_ch : f ch = .inr (2, [.ref im, .ref rm, .ref bo, .int 0, .int 0])) (m_bo : bo ∈ L) (e_bo : f bo = .inr (1, [.ref bw, .int ((nI 0))])) (m_bw : bw ∈ L) (e_bw : f bw = .inl (g 1, 64, .inr (.inl vs2))) (m_y : y ∈ L) (e_y : f y = .inr (7, [.ref y0, .ref y1, .ref y2, .ref y3, .ref y4, .ref y5, .ref y6, .ref y7, .ref y8, .ref y9, .ref y10, .ref y11, .ref y12, .ref y13, .int 0, .ref y15, .ref y16, .ref y17, .ref y18, .ref y19, .ref y20, .ref y21, .ref y22])) (m_y0 : y0 ∈ L) (e_y0 : f y0 = .inl (g 1, 8000, .inr (.inl v_worlds))) (m_y1 : y1 ∈ L) (e_y1 : f y1 = .inl (g 0, 8, .inl v_inWorld)) (m_y2 : y2 ∈ L) (e_y2 : f y2 = .inl (g 0, 30, .inl v_kind)) (m_y3 : y3 ∈ L) (e_y3 : f y3 = .inl (g 0, 30, .inl v_size)) (m_y4 : y4 ∈ L) (e_y4 : f y4 = .inl (g 0, 30, .inl v_marks)) (m_y5 : y5 ∈ L) (e_y5 : f y5 = .inl (g 0, 30, .inl v_seed)) (m_y6 : y6 ∈ L) (e_y6 : f y6 = .inl (g 1, 30000, .inr (.inl v_contents))) (m_y7 : y7 ∈ L) (e_y7 : f y7 = .inl (g 0, 30, .inl v_contentMany)) (m_y8 : y8 ∈ L) (e_y8 : f y8 = .inl (g 0, 122880, .inl v_row)) (m_y9 : y9 ∈ L) (e_y9 : f y9 = .inl (g 0, 76800, .inl v_bits)) (m_y10 : y10 ∈ L) (e_y10 : f y10 = .inl (g 0, 600, .inl v_layerSize)) (m_y11 : y11 ∈ L) (e_y11 : f y11 = .inl (g 0, 600, .inl v_layerCame)) (m_y12 : y12 ∈ L) (e_y12 : f y12 = .inl (g 1, 30000, .inr (.inl v_rest))) (m_y13 : y13 ∈ L) (e_y13 : f y13 = .inl (g 0, 30, .inl v_restMany)) (m_y15 : y15 ∈ L) (e_y15 : f y15 = .inl (g 1, 1000, .inr (.inl v_come))) (m_y16 : y16 ∈ L) (e_y16 : f y16 = .inl (g 1, 1000, .inr (.inl v_rivals))) (m_y17 : y17 ∈ L) (e_y17 : f y17 = .inl (g 1, 1000, .inr (.inl v_gone))) (m_y18 : y18 ∈ L) (e_y18 : f y18 = .inl (g 0, 1000, .inl v_order)) (m_y19 : y19 ∈ L) (e_y19 : f y19 = .inl (g 0, 1000, .inl v_offAt)) (m_y20 : y20 ∈ L) (e_y20 : f y20 = .inl (g 2, 1000, .inl v_isOff)) (m_y21 : y21 ∈ L) (e_y21 : f y21 = .inl (g 0, 4096, .inl v_alone)) (m_y22 : y22 ∈ L) (e_y22 : f y22 = .inl (g 0, 4096, .inl v_kept)) (hs0 : sf 0 = none) (n_ri_dr : ri ≠ dr) (n_th_dr : th ≠ dr) (n_th_ri : th ≠ ri) (n_ba_la : ba ≠ la) (hW2 : ∀ j, j < 8 → ∃ b rb : Nat, ∃ vb : Nat → Int64, wf j = some b ∧ b ∈ L ∧ f b = .inr (0, [.ref rb, .int (nI 0)]) ∧ rb ∈ L ∧ f rb = .inl (g 1, 1000, .inr (.inl vb)) ∧ b ≠ dr ∧ b ≠ ri ∧ b ≠ th ∧ rb ≠ drr ∧ b ∈ Lx ∧ rb ∈ Lx) (hI : ∀ j, j < 8 → v_inWorld j = 0) (hnd : [y, y0, y1, y2, y3, y4, y5, y6, y7, y8, y9, y10, y11, y12, y13, y15, y16, y17, y18, y19, y20, y21, y22].Nodup) (lx_x : x ∈ Lx) (lx_Sl : Sl ∈ Lx) (lx_dr : dr ∈ Lx) (lx_drr : drr ∈ Lx) (lx_ri : ri ∈ Lx) (lx_th : th ∈ Lx) (lx_so : so ∈ Lx) (lx_la : la ∈ Lx) (lx_ba : ba ∈ Lx) (lx_si : si ∈ Lx) (lx_sw : sw ∈ Lx) (lx_ch : ch ∈ Lx) (lx_bo : bo ∈ Lx) (lx_bw : bw ∈ Lx) (nx_y : y ∉ Lx) (nx_y0 : y0 ∉ Lx) (nx_y1 : y1 ∉ Lx) (nx_y2 : y2 ∉ Lx) (nx_y3 : y3 ∉ Lx) (nx_y4 : y4 ∉ Lx) (nx_y5 : y5 ∉ Lx) (nx_y6 : y6 ∉ Lx) (nx_y7 : y7 ∉ Lx) (nx_y8 : y8 ∉ Lx) (nx_y9 : y9 ∉ Lx) (nx_y10 : y10 ∉ Lx) (nx_y11 : y11 ∉ Lx) (nx_y12 : y12 ∉ Lx) (nx_y13 : y13 ∉ Lx) (nx_y15 : y15 ∉ Lx) (nx_y16 : y16 ∉ Lx) (nx_y17 : y17 ∉ Lx) (nx_y18 : y18 ∉ Lx) (nx_y19 : y19 ∉ Lx) (nx_y20 : y20 ∉ Lx) (nx_y21 : y21 ∉ Lx) (nx_y22 : y22 ∉ Lx) : W p l e room_1 s m #[Value.ref bs] below meth c H locs 62 310045 (lw_Z below #[Value.ref bs] s) (F0 m 223 ls []) := by
  have hW : ∀ j, j < 8 → ∃ b rb : Nat, ∃ vb : Nat → Int64, wf j = some b ∧ b ∈ L ∧ f b = .inr (0, [.ref rb, .int (nI 0)]) ∧ rb ∈ L ∧ f rb = .inl (g 1, 1000, .inr (.inl vb)) ∧ b ≠ dr ∧ b ≠ ri ∧ b ≠ th := fun j hj => by obtain ⟨b, rb, vb, h1, h2, h3, h4, h5, h6, h7, h8, -⟩ := hW2 j hj; exact ⟨b, rb, vb, h1, h2, h3, h4, h5, h6, h7, h8⟩
  refine lv_aload_n hx hb dL_law_223 rfl (lv_at hl 2 rfl) ?_
  refine lv_aload_n hx hb dL_law_224 rfl (lv_at hl 3 rfl) ?_
  refine lv_iload_n hx hb dL_law_225 rfl (lv_at hl 0 rfl) ?_
  refine lv_iconst (v := 1) hx hb dL_law_226 (by decide) ?_
  refine lv_iadd hx hb dL_law_227 ?_
  refine lv_topi (fun t_ et_ => ?_)
  obtain rfl : t_ = 1 := et_.trans (by decide)
  refine va_sld hx hb hX hbl (Nat.not_le.mpr hbl) S.2.2.2.1 (vp_in_nI (n := 1) (by omega) (by decide)) dL_law_228 ?_
  refine lv_aload_n hx hb dL_law_229 rfl (lv_at hl 3 rfl) ?_
  refine lv_iload_n hx hb dL_law_230 rfl (lv_at hl 0 rfl) ?_
  refine lv_iconst (v := 2) hx hb dL_law_231 (by decide) ?_
  refine lv_iadd hx hb dL_law_232 ?_
  refine lv_topi (fun t_ et_ => ?_)
  obtain rfl : t_ = 2 := et_.trans (by decide)
  refine va_sld hx hb hX hbl (Nat.not_le.mpr hbl) S.2.2.2.1 (vp_in_nI (n := 2) (by omega) (by decide)) dL_law_233 ?_
  refine lv_i2l hx hb dL_law_234 rfl ?_
  refine lv_bipush (v := 32) hx hb dL_law_235 (by decide) ?_
  refine lv_lshl hx hb dL_law_237 rfl ?_
  refine lv_aload_n hx hb dL_law_238 rfl (lv_at hl 3 rfl) ?_
  refine lv_iload_n hx hb dL_law_239 rfl (lv_at hl 0 rfl) ?_
  refine lv_iconst (v := 3) hx hb dL_law_240 (by decide) ?_
  refine lv_iadd hx hb dL_law_241 ?_
  refine lv_topi (fun t_ et_ => ?_)
  obtain rfl : t_ = 3 := et_.trans (by decide)
  refine va_sld hx hb hX hbl (Nat.not_le.mpr hbl) S.2.2.2.1 (vp_in_nI (n := 3) (by omega) (by decide)) dL_law_242 ?_
  refine lv_i2l hx hb dL_law_243 rfl ?_
  refine lv_ldc2 (v := (4294967295)) hx hb hown (hts (.constantLong RL 13 (4294967295)) (by decide +kernel)) dL_law_244 ?_
  refine lv_land hx hb dL_law_247 ?_
  refine lv_lor hx hb dL_law_248 ?_
  refine lv_topl (fun fs1 efs1 => ?_)
  refine q_vi (As := [.int ((xs (1 : Int32).toNatClampNeg)), .long fs1]) (rest := []) ⟨hx, hb, hml, hown, hts⟩ (c_X8_take0 l D g m_x e_x m_wo e_wo hW) (cwV 2 hts gL_law_X8_take rfl rfl rfl (by decide +kernel) ⟨Nat.le_of_ble_eq_true rfl, Nat.le_of_ble_eq_true rfl⟩) S m_x e_x (T := TX8) (N := 8) rfl rfl hl.1 rfl (Nat.le_of_ble_eq_true rfl) dL_law_249 ⟨Nat.le_of_ble_eq_true rfl, Nat.le_of_ble_eq_true rfl⟩ (fun r3 L1 f2 H locs S w249 => ?_)
  obtain ⟨ex1, eL1, ef1⟩ := w249
  rw [eL1, ef1] at S
  refine lv_aload_n hx hb dL_law_252 rfl (lv_at hl 1 rfl) ?_
  refine lv_aload_n hx hb dL_law_253 rfl (lv_at hl 3 rfl) ?_
  refine lv_iload_n hx hb dL_law_254 rfl (lv_at hl 0 rfl) ?_
  refine lv_iconst (v := 1) hx hb dL_law_255 (by decide) ?_
  refine lv_iadd hx hb dL_law_256 ?_
  refine lv_topi (fun t_ et_ => ?_)
  obtain rfl : t_ = 1 := et_.trans (by decide)
  refine va_sld hx hb hX hbl (Nat.not_le.mpr hbl) S.2.2.2.1 (vp_in_nI (n := 1) (by omega) (by decide)) dL_law_257 ?_
  refine lv_aload_n hx hb dL_law_258 rfl (lv_at hl 3 rfl) ?_
  refine lv_iload_n hx hb dL_law_259 rfl (lv_at hl 0 rfl) ?_
  refine lv_iconst (v := 2) hx hb dL_law_260 (by decide) ?_
  refine lv_iadd hx hb dL_law_261 ?_
  refine lv_topi (fun t_ et_ => ?_)
  obtain rfl : t_ = 2 := et_.trans (by decide)
  refine va_sld hx hb hX hbl (Nat.not_le.mpr hbl) S.2.2.2.1 (vp_in_nI (n := 2) (by omega) (by decide)) dL_law_262 ?_
  refine lv_i2l hx hb dL_law_263 rfl ?_
  refine lv_bipush (v := 32) hx hb dL_law_264 (by decide) ?_
  refine lv_lshl hx hb dL_law_266 rfl ?_
  refine lv_aload_n hx hb dL_law_267 rfl (lv_at hl 3 rfl) ?_
  refine lv_iload_n hx hb dL_law_268 rfl (lv_at hl 0 rfl) ?_
  refine lv_iconst (v := 3) hx hb dL_law_269 (by decide) ?_
  refine lv_iadd hx hb dL_law_270 ?_
  refine lv_topi (fun t_ et_ => ?_)
  obtain rfl : t_ = 3 := et_.trans (by decide)
  refine va_sld hx hb hX hbl (Nat.not_le.mpr hbl) S.2.2.2.1 (vp_in_nI (n := 3) (by omega) (by decide)) dL_law_271 ?_
  refine lv_i2l hx hb dL_law_272 rfl ?_
  refine lv_ldc2 (v := (4294967295)) hx hb hown (hts (.constantLong RL 13 (4294967295)) (by decide +kernel)) dL_law_273 ?_
  refine lv_land hx hb dL_law_276 ?_
  refine lv_lor hx hb dL_law_277 ?_
  refine lv_topl (fun fs2 efs2 => ?_)
  obtain rfl : fs1 = fs2 := efs1.trans efs2.symm
  refine q_vi (As := [.int ((xs (1 : Int32).toNatClampNeg)), .long fs1]) (rest := [.int r3]) ⟨hx, hb, hml, hown, hts⟩ (c_X9_take0 l D g m_y e_y m_y1 e_y1 hI) (cwV 2 hts gL_law_X9_take rfl rfl rfl (by decide +kernel) ⟨Nat.le_of_ble_eq_true rfl, Nat.le_of_ble_eq_true rfl⟩) S m_y e_y (T := TX9) (N := 23) rfl rfl hl.1 rfl (Nat.le_of_ble_eq_true rfl) dL_law_278 ⟨Nat.le_of_ble_eq_true rfl, Nat.le_of_ble_eq_true rfl⟩ (fun r6 L4 f5 H locs S w278 => ?_)
  have ex2 := w278.1
  refine lv_icmp_eq (tgt := 1121) hx hb dL_law_281 (by decide) (fun b281 => ?_) (fun b281 => absurd (ex1.trans ex2.symm) b281)
  obtain ⟨i1, ei1⟩ : ∃ y : Int32, y = 0 + 6 := ⟨_, rfl⟩
  refine lv_iinc (v := i1) (lv' := [(3, .int i1), (2, .ref y), (1, .ref x), (0, .ref bs)]) hx hb dL_law_1121 hl (k := 0) rfl (by rw [ei1]; rfl) (by decide) rfl (fun ls hl => ?_)
  refine lv_goto (tgt := 18) hx hb dL_law_1124 (by decide) ?_
  refine lv_iload_n hx hb dL_law_18 rfl (lv_at hl 0 rfl) ?_
  refine lv_aload_n hx hb dL_law_19 rfl (lv_at hl 3 rfl) ?_
  refine va_slen hx hb hX hbl (Nat.not_le.mpr hbl) S.2.2.2.1 dL_law_20 ?_
  refine lv_bipush (v := 6) hx hb dL_law_21 (by decide) ?_
  refine lv_isub hx hb dL_law_23 ?_
  refine lv_icmp_gt (tgt := 1127) hx hb dL_law_24 (by decide) (fun b24 => ?_) (fun b24 => absurd (by rw [ei1]; decide) b24)
  refine lv_iconst (v := 1) hx hb dL_law_1127 (by decide) ?_
  refine va_forget (fun q hq => S.2.2.2.1.2.2 q hq) ?_
  refine W.widen (k := 600000) (n := 7302250) (by decide) (by decide) ?_
  exact lw_ret hx hb hr hlk dL_law_1128

set_option maxHeartbeats 4000000 in
set_option maxRecDepth 100000 in
theorem law_2 {p : Program} {l : Launch} {e : Env} {s : State} {m : MethodId} {below : List Frame} {meth : Method} {c : Code} {bs : Nat} {xs : Nat → Int32} {D : va_G} {g : Nat → ClassId} {Lx L : List Nat} {f : Nat → va_E} {H : Heap} {locs : List Loc} {ls : Array Slot} {x wo Sl dr drr ri rir th thr so pa ta la ba si tt tp sw ch im rm bo bw y y0 y1 y2 y3 y4 y5 y6 y7 y8 y9 y10 y11 y12 y13 y15 y16 y17 y18 y19 y20 y21 y22 : Nat} {wf sf : Nat → Option Nat} {vd vs vs2 : Nat → Int64} {vl vb : Nat → Int32} {v_worlds : Nat → Int64} {v_inWorld : Nat → Int32} {v_kind : Nat → Int32} {v_size : Nat → Int32} {v_marks : Nat → Int32} {v_seed : Nat → Int32} {v_contents : Nat → Int64} {v_contentMany : Nat → Int32} {v_row : Nat → Int32} {v_bits : Nat → Int32} {v_layerSize : Nat → Int32} {v_layerCame : Nat → Int32} {v_rest : Nat → Int64} {v_restMany : Nat → Int32} {v_come : Nat → Int64} {v_rivals : Nat → Int64} {v_gone : Nat → Int64} {v_order : Nat → Int32} {v_offAt : Nat → Int32} {v_isOff : Nat → Int32} {v_alone : Nat → Int32} {v_kept : Nat → Int32} (hx : p.tables.exec = Jvm.exec) (hb : c.code = cL_law) (hr : meth.sig.returnType = ret) (hml : c.maxLocals = 4) (hown : s.vm.findClass RL = some m.cls) (hts : ∀ w ∈ wsL_law, w.before #[Value.ref bs] s = true) (hX : va_X bs 6 xs s s.heap) (hbl : bs < s.heap.size) (hlk : meth.locks = false) (S : PS D g (fun q : Nat => s.heap.size ≤ q) s.heap s L f H locs) (hl : lv_has ls 4 [(3, .int 0), (2, .ref y), (1, .ref x), (0, .ref bs)]) (m_x : x ∈ L) (e_x : f x = .inr (6, [.ref wo, .ref Sl, .ref dr, .ref ri, .ref th, .ref so, .ref ch, .int 0])) (m_wo : wo ∈ L) (e_wo : f wo = .inl (g 3, 8, .inr (.inr (.inr (.inr wf))))) (m_Sl : Sl ∈ L) (e_Sl : f Sl = .inl (g 5, 30, .inr (.inr (.inr (.inr sf))))) (m_dr : dr ∈ L) (e_dr : f dr = .inr (0, [.ref drr, .int ((nI 0))])) (m_drr : drr ∈ L) (e_drr : f drr = .inl (g 1, 1000, .inr (.inl vd))) (m_ri : ri ∈ L) (e_ri : f ri = .inr (0, [.ref rir, .int ((nI 0))])) (m_th : th ∈ L) (e_th : f th = .inr (0, [.ref thr, .int ((nI 0))])) (m_so : so ∈ L) (e_so : f so = .inr (5, [.ref pa, .ref ta, .ref la, .ref ba, .ref si, .ref tt, .ref tp, .int 0, .int 0])) (m_la : la ∈ L) (e_la : f la = .inl (g 0, 3774, .inl vl)) (m_ba : ba ∈ L) (e_ba : f ba = .inl (g 0, 3774, .inl vb)) (m_si : si ∈ L) (e_si : f si = .inr (1, [.ref sw, .int ((nI 0))])) (m_sw : sw ∈ L) (e_sw : f sw = .inl (g 1, 64, .inr (.inl vs))) (m_ch : ch ∈ L) (e_ch : f ch = .inr (2, [.ref im, .ref rm, .ref bo, .int 0, .int 0])) (m_bo : bo ∈ L) (e_bo : f bo = .inr (1, [.ref bw, .int ((nI 0))])) (m_bw : bw ∈ L) (e_bw : f bw = .inl (g 1, 64, .inr (.inl vs2))) (m_y : y ∈ L) (e_y : f y = .inr (7, [.ref y0, .ref y1, .ref y2, .ref y3, .ref y4, .ref y5, .ref y6, .ref y7, .ref y8, .ref y9, .ref y10, .ref y11, .ref y12, .ref y13, .int 0, .ref y15, .ref y16, .ref y17, .ref y18, .ref y19, .ref y20, .ref y21, .ref y22])) (m_y0 : y0 ∈ L) (e_y0 : f y0 = .inl (g 1, 8000, .inr (.inl v_worlds))) (m_y1 : y1 ∈ L) (e_y1 : f y1 = .inl (g 0, 8, .inl v_inWorld)) (m_y2 : y2 ∈ L) (e_y2 : f y2 = .inl (g 0, 30, .inl v_kind)) (m_y3 : y3 ∈ L) (e_y3 : f y3 = .inl (g 0, 30, .inl v_size)) (m_y4 : y4 ∈ L) (e_y4 : f y4 = .inl (g 0, 30, .inl v_marks)) (m_y5 : y5 ∈ L) (e_y5 : f y5 = .inl (g 0, 30, .inl v_seed)) (m_y6 : y6 ∈ L) (e_y6 : f y6 = .inl (g 1, 30000, .inr (.inl v_contents))) (m_y7 : y7 ∈ L) (e_y7 : f y7 = .inl (g 0, 30, .inl v_contentMany)) (m_y8 : y8 ∈ L) (e_y8 : f y8 = .inl (g 0, 122880, .inl v_row)) (m_y9 : y9 ∈ L) (e_y9 : f y9 = .inl (g 0, 76800, .inl v_bits)) (m_y10 : y10 ∈ L) (e_y10 : f y10 = .inl (g 0, 600, .inl v_layerSize)) (m_y11 : y11 ∈ L) (e_y11 : f y11 = .inl (g 0, 600, .inl v_layerCame)) (m_y12 : y12 ∈ L) (e_y12 : f y12 = .inl (g 1, 30000, .inr (.inl v_rest))) (m_y13 : y13 ∈ L) (e_y13 : f y13 = .inl (g 0, 30, .inl v_restMany)) (m_y15 : y15 ∈ L) (e_y15 : f y15 = .inl (g 1, 1000, .inr (.inl v_come))) (m_y16 : y16 ∈ L) (e_y16 : f y16 = .inl (g 1, 1000, .inr (.inl v_rivals))) (m_y17 : y17 ∈ L) (e_y17 : f y17 = .inl (g 1, 1000, .inr (.inl v_gone))) (m_y18 : y18 ∈ L) (e_y18 : f y18 = .inl (g 0, 1000, .inl v_order)) (m_y19 : y19 ∈ L) (e_y19 : f y19 = .inl (g 0, 1000, .inl v_offAt)) (m_y20 : y20 ∈ L) (e_y20 : f y20 = .inl (g 2, 1000, .inl v_isOff)) (m_y21 : y21 ∈ L) (e_y21 : f y21 = .inl (g 0, 4096, .inl v_alone)) (m_y22 : y22 ∈ L) (e_y22 : f y22 = .inl (g 0, 4096, .inl v_kept)) (hs0 : sf 0 = none) (n_ri_dr : ri ≠ dr) (n_th_dr : th ≠ dr) (n_th_ri : th ≠ ri) (n_ba_la : ba ≠ la) (hW2 : ∀ j, j < 8 → ∃ b rb : Nat, ∃ vb : Nat → Int64, wf j = some b ∧ b ∈ L ∧ f b = .inr (0, [.ref rb, .int (nI 0)]) ∧ rb ∈ L ∧ f rb = .inl (g 1, 1000, .inr (.inl vb)) ∧ b ≠ dr ∧ b ≠ ri ∧ b ≠ th ∧ rb ≠ drr ∧ b ∈ Lx ∧ rb ∈ Lx) (hI : ∀ j, j < 8 → v_inWorld j = 0) (hnd : [y, y0, y1, y2, y3, y4, y5, y6, y7, y8, y9, y10, y11, y12, y13, y15, y16, y17, y18, y19, y20, y21, y22].Nodup) (lx_x : x ∈ Lx) (lx_Sl : Sl ∈ Lx) (lx_dr : dr ∈ Lx) (lx_drr : drr ∈ Lx) (lx_ri : ri ∈ Lx) (lx_th : th ∈ Lx) (lx_so : so ∈ Lx) (lx_la : la ∈ Lx) (lx_ba : ba ∈ Lx) (lx_si : si ∈ Lx) (lx_sw : sw ∈ Lx) (lx_ch : ch ∈ Lx) (lx_bo : bo ∈ Lx) (lx_bw : bw ∈ Lx) (nx_y : y ∉ Lx) (nx_y0 : y0 ∉ Lx) (nx_y1 : y1 ∉ Lx) (nx_y2 : y2 ∉ Lx) (nx_y3 : y3 ∉ Lx) (nx_y4 : y4 ∉ Lx) (nx_y5 : y5 ∉ Lx) (nx_y6 : y6 ∉ Lx) (nx_y7 : y7 ∉ Lx) (nx_y8 : y8 ∉ Lx) (nx_y9 : y9 ∉ Lx) (nx_y10 : y10 ∉ Lx) (nx_y11 : y11 ∉ Lx) (nx_y12 : y12 ∉ Lx) (nx_y13 : y13 ∉ Lx) (nx_y15 : y15 ∉ Lx) (nx_y16 : y16 ∉ Lx) (nx_y17 : y17 ∉ Lx) (nx_y18 : y18 ∉ Lx) (nx_y19 : y19 ∉ Lx) (nx_y20 : y20 ∉ Lx) (nx_y21 : y21 ∉ Lx) (nx_y22 : y22 ∉ Lx) : W p l e room_1 s m #[Value.ref bs] below meth c H locs 62 310045 (lw_Z below #[Value.ref bs] s) (F0 m 286 ls []) := by
  have hW : ∀ j, j < 8 → ∃ b rb : Nat, ∃ vb : Nat → Int64, wf j = some b ∧ b ∈ L ∧ f b = .inr (0, [.ref rb, .int (nI 0)]) ∧ rb ∈ L ∧ f rb = .inl (g 1, 1000, .inr (.inl vb)) ∧ b ≠ dr ∧ b ≠ ri ∧ b ≠ th := fun j hj => by obtain ⟨b, rb, vb, h1, h2, h3, h4, h5, h6, h7, h8, -⟩ := hW2 j hj; exact ⟨b, rb, vb, h1, h2, h3, h4, h5, h6, h7, h8⟩
  refine lv_aload_n hx hb dL_law_286 rfl (lv_at hl 2 rfl) ?_
  refine lv_aload_n hx hb dL_law_287 rfl (lv_at hl 3 rfl) ?_
  refine lv_iload_n hx hb dL_law_288 rfl (lv_at hl 0 rfl) ?_
  refine lv_iconst (v := 1) hx hb dL_law_289 (by decide) ?_
  refine lv_iadd hx hb dL_law_290 ?_
  refine lv_topi (fun t_ et_ => ?_)
  obtain rfl : t_ = 1 := et_.trans (by decide)
  refine va_sld hx hb hX hbl (Nat.not_le.mpr hbl) S.2.2.2.1 (vp_in_nI (n := 1) (by omega) (by decide)) dL_law_291 ?_
  refine q_vi (As := [.int ((xs (1 : Int32).toNatClampNeg))]) (rest := []) ⟨hx, hb, hml, hown, hts⟩ (c_X8_things0 l D g m_x e_x m_wo e_wo hW) (cwV 1 hts gL_law_X8_things rfl rfl rfl (by decide +kernel) ⟨Nat.le_of_ble_eq_true rfl, Nat.le_of_ble_eq_true rfl⟩) S m_x e_x (T := TX8) (N := 8) rfl rfl hl.1 rfl (Nat.le_of_ble_eq_true rfl) dL_law_292 ⟨Nat.le_of_ble_eq_true rfl, Nat.le_of_ble_eq_true rfl⟩ (fun r3 L1 f2 H locs S w292 => ?_)
  obtain ⟨ex1, eL1, ef1⟩ := w292
  rw [eL1, ef1] at S
  refine lv_aload_n hx hb dL_law_295 rfl (lv_at hl 1 rfl) ?_
  refine lv_aload_n hx hb dL_law_296 rfl (lv_at hl 3 rfl) ?_
  refine lv_iload_n hx hb dL_law_297 rfl (lv_at hl 0 rfl) ?_
  refine lv_iconst (v := 1) hx hb dL_law_298 (by decide) ?_
  refine lv_iadd hx hb dL_law_299 ?_
  refine lv_topi (fun t_ et_ => ?_)
  obtain rfl : t_ = 1 := et_.trans (by decide)
  refine va_sld hx hb hX hbl (Nat.not_le.mpr hbl) S.2.2.2.1 (vp_in_nI (n := 1) (by omega) (by decide)) dL_law_300 ?_
  refine q_vi (As := [.int ((xs (1 : Int32).toNatClampNeg))]) (rest := [.int r3]) ⟨hx, hb, hml, hown, hts⟩ (c_X9_things0 l D g m_y e_y m_y1 e_y1 hI) (cwV 1 hts gL_law_X9_things rfl rfl rfl (by decide +kernel) ⟨Nat.le_of_ble_eq_true rfl, Nat.le_of_ble_eq_true rfl⟩) S m_y e_y (T := TX9) (N := 23) rfl rfl hl.1 rfl (Nat.le_of_ble_eq_true rfl) dL_law_301 ⟨Nat.le_of_ble_eq_true rfl, Nat.le_of_ble_eq_true rfl⟩ (fun r6 L4 f5 H locs S w301 => ?_)
  have ex2 := w301.1
  refine lv_icmp_eq (tgt := 1121) hx hb dL_law_304 (by decide) (fun b304 => ?_) (fun b304 => absurd (ex1.trans ex2.symm) b304)
  obtain ⟨i1, ei1⟩ : ∃ y : Int32, y = 0 + 6 := ⟨_, rfl⟩
  refine lv_iinc (v := i1) (lv' := [(3, .int i1), (2, .ref y), (1, .ref x), (0, .ref bs)]) hx hb dL_law_1121 hl (k := 0) rfl (by rw [ei1]; rfl) (by decide) rfl (fun ls hl => ?_)
  refine lv_goto (tgt := 18) hx hb dL_law_1124 (by decide) ?_
  refine lv_iload_n hx hb dL_law_18 rfl (lv_at hl 0 rfl) ?_
  refine lv_aload_n hx hb dL_law_19 rfl (lv_at hl 3 rfl) ?_
  refine va_slen hx hb hX hbl (Nat.not_le.mpr hbl) S.2.2.2.1 dL_law_20 ?_
  refine lv_bipush (v := 6) hx hb dL_law_21 (by decide) ?_
  refine lv_isub hx hb dL_law_23 ?_
  refine lv_icmp_gt (tgt := 1127) hx hb dL_law_24 (by decide) (fun b24 => ?_) (fun b24 => absurd (by rw [ei1]; decide) b24)
  refine lv_iconst (v := 1) hx hb dL_law_1127 (by decide) ?_
  refine va_forget (fun q hq => S.2.2.2.1.2.2 q hq) ?_
  refine W.widen (k := 600000) (n := 7302250) (by decide) (by decide) ?_
  exact lw_ret hx hb hr hlk dL_law_1128

set_option maxHeartbeats 4000000 in
set_option maxRecDepth 100000 in
theorem law_3 {p : Program} {l : Launch} {e : Env} {s : State} {m : MethodId} {below : List Frame} {meth : Method} {c : Code} {bs : Nat} {xs : Nat → Int32} {D : va_G} {g : Nat → ClassId} {Lx L : List Nat} {f : Nat → va_E} {H : Heap} {locs : List Loc} {ls : Array Slot} {x wo Sl dr drr ri rir th thr so pa ta la ba si tt tp sw ch im rm bo bw y y0 y1 y2 y3 y4 y5 y6 y7 y8 y9 y10 y11 y12 y13 y15 y16 y17 y18 y19 y20 y21 y22 : Nat} {wf sf : Nat → Option Nat} {vd vs vs2 : Nat → Int64} {vl vb : Nat → Int32} {v_worlds : Nat → Int64} {v_inWorld : Nat → Int32} {v_kind : Nat → Int32} {v_size : Nat → Int32} {v_marks : Nat → Int32} {v_seed : Nat → Int32} {v_contents : Nat → Int64} {v_contentMany : Nat → Int32} {v_row : Nat → Int32} {v_bits : Nat → Int32} {v_layerSize : Nat → Int32} {v_layerCame : Nat → Int32} {v_rest : Nat → Int64} {v_restMany : Nat → Int32} {v_come : Nat → Int64} {v_rivals : Nat → Int64} {v_gone : Nat → Int64} {v_order : Nat → Int32} {v_offAt : Nat → Int32} {v_isOff : Nat → Int32} {v_alone : Nat → Int32} {v_kept : Nat → Int32} (hx : p.tables.exec = Jvm.exec) (hb : c.code = cL_law) (hr : meth.sig.returnType = ret) (hml : c.maxLocals = 4) (hown : s.vm.findClass RL = some m.cls) (hts : ∀ w ∈ wsL_law, w.before #[Value.ref bs] s = true) (hX : va_X bs 6 xs s s.heap) (hbl : bs < s.heap.size) (hlk : meth.locks = false) (S : PS D g (fun q : Nat => s.heap.size ≤ q) s.heap s L f H locs) (hl : lv_has ls 4 [(3, .int 0), (2, .ref y), (1, .ref x), (0, .ref bs)]) (m_x : x ∈ L) (e_x : f x = .inr (6, [.ref wo, .ref Sl, .ref dr, .ref ri, .ref th, .ref so, .ref ch, .int 0])) (m_wo : wo ∈ L) (e_wo : f wo = .inl (g 3, 8, .inr (.inr (.inr (.inr wf))))) (m_Sl : Sl ∈ L) (e_Sl : f Sl = .inl (g 5, 30, .inr (.inr (.inr (.inr sf))))) (m_dr : dr ∈ L) (e_dr : f dr = .inr (0, [.ref drr, .int ((nI 0))])) (m_drr : drr ∈ L) (e_drr : f drr = .inl (g 1, 1000, .inr (.inl vd))) (m_ri : ri ∈ L) (e_ri : f ri = .inr (0, [.ref rir, .int ((nI 0))])) (m_th : th ∈ L) (e_th : f th = .inr (0, [.ref thr, .int ((nI 0))])) (m_so : so ∈ L) (e_so : f so = .inr (5, [.ref pa, .ref ta, .ref la, .ref ba, .ref si, .ref tt, .ref tp, .int 0, .int 0])) (m_la : la ∈ L) (e_la : f la = .inl (g 0, 3774, .inl vl)) (m_ba : ba ∈ L) (e_ba : f ba = .inl (g 0, 3774, .inl vb)) (m_si : si ∈ L) (e_si : f si = .inr (1, [.ref sw, .int ((nI 0))])) (m_sw : sw ∈ L) (e_sw : f sw = .inl (g 1, 64, .inr (.inl vs))) (m_ch : ch ∈ L) (e_ch : f ch = .inr (2, [.ref im, .ref rm, .ref bo, .int 0, .int 0])) (m_bo : bo ∈ L) (e_bo : f bo = .inr (1, [.ref bw, .int ((nI 0))])) (m_bw : bw ∈ L) (e_bw : f bw = .inl (g 1, 64, .inr (.inl vs2))) (m_y : y ∈ L) (e_y : f y = .inr (7, [.ref y0, .ref y1, .ref y2, .ref y3, .ref y4, .ref y5, .ref y6, .ref y7, .ref y8, .ref y9, .ref y10, .ref y11, .ref y12, .ref y13, .int 0, .ref y15, .ref y16, .ref y17, .ref y18, .ref y19, .ref y20, .ref y21, .ref y22])) (m_y0 : y0 ∈ L) (e_y0 : f y0 = .inl (g 1, 8000, .inr (.inl v_worlds))) (m_y1 : y1 ∈ L) (e_y1 : f y1 = .inl (g 0, 8, .inl v_inWorld)) (m_y2 : y2 ∈ L) (e_y2 : f y2 = .inl (g 0, 30, .inl v_kind)) (m_y3 : y3 ∈ L) (e_y3 : f y3 = .inl (g 0, 30, .inl v_size)) (m_y4 : y4 ∈ L) (e_y4 : f y4 = .inl (g 0, 30, .inl v_marks)) (m_y5 : y5 ∈ L) (e_y5 : f y5 = .inl (g 0, 30, .inl v_seed)) (m_y6 : y6 ∈ L) (e_y6 : f y6 = .inl (g 1, 30000, .inr (.inl v_contents))) (m_y7 : y7 ∈ L) (e_y7 : f y7 = .inl (g 0, 30, .inl v_contentMany)) (m_y8 : y8 ∈ L) (e_y8 : f y8 = .inl (g 0, 122880, .inl v_row)) (m_y9 : y9 ∈ L) (e_y9 : f y9 = .inl (g 0, 76800, .inl v_bits)) (m_y10 : y10 ∈ L) (e_y10 : f y10 = .inl (g 0, 600, .inl v_layerSize)) (m_y11 : y11 ∈ L) (e_y11 : f y11 = .inl (g 0, 600, .inl v_layerCame)) (m_y12 : y12 ∈ L) (e_y12 : f y12 = .inl (g 1, 30000, .inr (.inl v_rest))) (m_y13 : y13 ∈ L) (e_y13 : f y13 = .inl (g 0, 30, .inl v_restMany)) (m_y15 : y15 ∈ L) (e_y15 : f y15 = .inl (g 1, 1000, .inr (.inl v_come))) (m_y16 : y16 ∈ L) (e_y16 : f y16 = .inl (g 1, 1000, .inr (.inl v_rivals))) (m_y17 : y17 ∈ L) (e_y17 : f y17 = .inl (g 1, 1000, .inr (.inl v_gone))) (m_y18 : y18 ∈ L) (e_y18 : f y18 = .inl (g 0, 1000, .inl v_order)) (m_y19 : y19 ∈ L) (e_y19 : f y19 = .inl (g 0, 1000, .inl v_offAt)) (m_y20 : y20 ∈ L) (e_y20 : f y20 = .inl (g 2, 1000, .inl v_isOff)) (m_y21 : y21 ∈ L) (e_y21 : f y21 = .inl (g 0, 4096, .inl v_alone)) (m_y22 : y22 ∈ L) (e_y22 : f y22 = .inl (g 0, 4096, .inl v_kept)) (hs0 : sf 0 = none) (n_ri_dr : ri ≠ dr) (n_th_dr : th ≠ dr) (n_th_ri : th ≠ ri) (n_ba_la : ba ≠ la) (hW2 : ∀ j, j < 8 → ∃ b rb : Nat, ∃ vb : Nat → Int64, wf j = some b ∧ b ∈ L ∧ f b = .inr (0, [.ref rb, .int (nI 0)]) ∧ rb ∈ L ∧ f rb = .inl (g 1, 1000, .inr (.inl vb)) ∧ b ≠ dr ∧ b ≠ ri ∧ b ≠ th ∧ rb ≠ drr ∧ b ∈ Lx ∧ rb ∈ Lx) (hI : ∀ j, j < 8 → v_inWorld j = 0) (hnd : [y, y0, y1, y2, y3, y4, y5, y6, y7, y8, y9, y10, y11, y12, y13, y15, y16, y17, y18, y19, y20, y21, y22].Nodup) (lx_x : x ∈ Lx) (lx_Sl : Sl ∈ Lx) (lx_dr : dr ∈ Lx) (lx_drr : drr ∈ Lx) (lx_ri : ri ∈ Lx) (lx_th : th ∈ Lx) (lx_so : so ∈ Lx) (lx_la : la ∈ Lx) (lx_ba : ba ∈ Lx) (lx_si : si ∈ Lx) (lx_sw : sw ∈ Lx) (lx_ch : ch ∈ Lx) (lx_bo : bo ∈ Lx) (lx_bw : bw ∈ Lx) (nx_y : y ∉ Lx) (nx_y0 : y0 ∉ Lx) (nx_y1 : y1 ∉ Lx) (nx_y2 : y2 ∉ Lx) (nx_y3 : y3 ∉ Lx) (nx_y4 : y4 ∉ Lx) (nx_y5 : y5 ∉ Lx) (nx_y6 : y6 ∉ Lx) (nx_y7 : y7 ∉ Lx) (nx_y8 : y8 ∉ Lx) (nx_y9 : y9 ∉ Lx) (nx_y10 : y10 ∉ Lx) (nx_y11 : y11 ∉ Lx) (nx_y12 : y12 ∉ Lx) (nx_y13 : y13 ∉ Lx) (nx_y15 : y15 ∉ Lx) (nx_y16 : y16 ∉ Lx) (nx_y17 : y17 ∉ Lx) (nx_y18 : y18 ∉ Lx) (nx_y19 : y19 ∉ Lx) (nx_y20 : y20 ∉ Lx) (nx_y21 : y21 ∉ Lx) (nx_y22 : y22 ∉ Lx) : W p l e room_1 s m #[Value.ref bs] below meth c H locs 62 310045 (lw_Z below #[Value.ref bs] s) (F0 m 309 ls []) := by
  have hW : ∀ j, j < 8 → ∃ b rb : Nat, ∃ vb : Nat → Int64, wf j = some b ∧ b ∈ L ∧ f b = .inr (0, [.ref rb, .int (nI 0)]) ∧ rb ∈ L ∧ f rb = .inl (g 1, 1000, .inr (.inl vb)) ∧ b ≠ dr ∧ b ≠ ri ∧ b ≠ th := fun j hj => by obtain ⟨b, rb, vb, h1, h2, h3, h4, h5, h6, h7, h8, -⟩ := hW2 j hj; exact ⟨b, rb, vb, h1, h2, h3, h4, h5, h6, h7, h8⟩
  refine lv_aload_n hx hb dL_law_309 rfl (lv_at hl 2 rfl) ?_
  refine lv_aload_n hx hb dL_law_310 rfl (lv_at hl 3 rfl) ?_
  refine lv_iload_n hx hb dL_law_311 rfl (lv_at hl 0 rfl) ?_
  refine lv_iconst (v := 1) hx hb dL_law_312 (by decide) ?_
  refine lv_iadd hx hb dL_law_313 ?_
  refine lv_topi (fun t_ et_ => ?_)
  obtain rfl : t_ = 1 := et_.trans (by decide)
  refine va_sld hx hb hX hbl (Nat.not_le.mpr hbl) S.2.2.2.1 (vp_in_nI (n := 1) (by omega) (by decide)) dL_law_314 ?_
  refine lv_aload_n hx hb dL_law_315 rfl (lv_at hl 3 rfl) ?_
  refine lv_iload_n hx hb dL_law_316 rfl (lv_at hl 0 rfl) ?_
  refine lv_iconst (v := 2) hx hb dL_law_317 (by decide) ?_
  refine lv_iadd hx hb dL_law_318 ?_
  refine lv_topi (fun t_ et_ => ?_)
  obtain rfl : t_ = 2 := et_.trans (by decide)
  refine va_sld hx hb hX hbl (Nat.not_le.mpr hbl) S.2.2.2.1 (vp_in_nI (n := 2) (by omega) (by decide)) dL_law_319 ?_
  refine q_vl (As := [.int ((xs (1 : Int32).toNatClampNeg)), .int ((xs (2 : Int32).toNatClampNeg))]) (rest := []) ⟨hx, hb, hml, hown, hts⟩ (c_X8_thing0 l D g m_x e_x m_wo e_wo hW) (cwV 2 hts gL_law_X8_thing rfl rfl rfl (by decide +kernel) ⟨Nat.le_of_ble_eq_true rfl, Nat.le_of_ble_eq_true rfl⟩) S m_x e_x (T := TX8) (N := 8) rfl rfl hl.1 rfl (Nat.le_of_ble_eq_true rfl) dL_law_320 ⟨Nat.le_of_ble_eq_true rfl, Nat.le_of_ble_eq_true rfl⟩ (fun r3 L1 f2 H locs S w320 => ?_)
  obtain ⟨ex1, eL1, ef1⟩ := w320
  rw [eL1, ef1] at S
  refine lv_aload_n hx hb dL_law_323 rfl (lv_at hl 1 rfl) ?_
  refine lv_aload_n hx hb dL_law_324 rfl (lv_at hl 3 rfl) ?_
  refine lv_iload_n hx hb dL_law_325 rfl (lv_at hl 0 rfl) ?_
  refine lv_iconst (v := 1) hx hb dL_law_326 (by decide) ?_
  refine lv_iadd hx hb dL_law_327 ?_
  refine lv_topi (fun t_ et_ => ?_)
  obtain rfl : t_ = 1 := et_.trans (by decide)
  refine va_sld hx hb hX hbl (Nat.not_le.mpr hbl) S.2.2.2.1 (vp_in_nI (n := 1) (by omega) (by decide)) dL_law_328 ?_
  refine lv_aload_n hx hb dL_law_329 rfl (lv_at hl 3 rfl) ?_
  refine lv_iload_n hx hb dL_law_330 rfl (lv_at hl 0 rfl) ?_
  refine lv_iconst (v := 2) hx hb dL_law_331 (by decide) ?_
  refine lv_iadd hx hb dL_law_332 ?_
  refine lv_topi (fun t_ et_ => ?_)
  obtain rfl : t_ = 2 := et_.trans (by decide)
  refine va_sld hx hb hX hbl (Nat.not_le.mpr hbl) S.2.2.2.1 (vp_in_nI (n := 2) (by omega) (by decide)) dL_law_333 ?_
  refine q_vl (As := [.int ((xs (1 : Int32).toNatClampNeg)), .int ((xs (2 : Int32).toNatClampNeg))]) (rest := [.long r3]) ⟨hx, hb, hml, hown, hts⟩ (c_X9_thing0 l D g m_y e_y m_y1 e_y1 hI) (cwV 2 hts gL_law_X9_thing rfl rfl rfl (by decide +kernel) ⟨Nat.le_of_ble_eq_true rfl, Nat.le_of_ble_eq_true rfl⟩) S m_y e_y (T := TX9) (N := 23) rfl rfl hl.1 rfl (Nat.le_of_ble_eq_true rfl) dL_law_334 ⟨Nat.le_of_ble_eq_true rfl, Nat.le_of_ble_eq_true rfl⟩ (fun r6 L4 f5 H locs S w334 => ?_)
  have ex2 := w334.1
  refine W.lcmp hx hb dL_law_337 ?_
  refine lv_if_eq (tgt := 1121) hx hb dL_law_338 (by decide) (fun b338 => ?_) (fun b338 => absurd ((lg_cmp_eq _ _).mpr (ex1.trans ex2.symm)) b338)
  obtain ⟨i1, ei1⟩ : ∃ y : Int32, y = 0 + 6 := ⟨_, rfl⟩
  refine lv_iinc (v := i1) (lv' := [(3, .int i1), (2, .ref y), (1, .ref x), (0, .ref bs)]) hx hb dL_law_1121 hl (k := 0) rfl (by rw [ei1]; rfl) (by decide) rfl (fun ls hl => ?_)
  refine lv_goto (tgt := 18) hx hb dL_law_1124 (by decide) ?_
  refine lv_iload_n hx hb dL_law_18 rfl (lv_at hl 0 rfl) ?_
  refine lv_aload_n hx hb dL_law_19 rfl (lv_at hl 3 rfl) ?_
  refine va_slen hx hb hX hbl (Nat.not_le.mpr hbl) S.2.2.2.1 dL_law_20 ?_
  refine lv_bipush (v := 6) hx hb dL_law_21 (by decide) ?_
  refine lv_isub hx hb dL_law_23 ?_
  refine lv_icmp_gt (tgt := 1127) hx hb dL_law_24 (by decide) (fun b24 => ?_) (fun b24 => absurd (by rw [ei1]; decide) b24)
  refine lv_iconst (v := 1) hx hb dL_law_1127 (by decide) ?_
  refine va_forget (fun q hq => S.2.2.2.1.2.2 q hq) ?_
  refine W.widen (k := 600000) (n := 7302250) (by decide) (by decide) ?_
  exact lw_ret hx hb hr hlk dL_law_1128

set_option maxHeartbeats 4000000 in
set_option maxRecDepth 100000 in
theorem law_7 {p : Program} {l : Launch} {e : Env} {s : State} {m : MethodId} {below : List Frame} {meth : Method} {c : Code} {bs : Nat} {xs : Nat → Int32} {D : va_G} {g : Nat → ClassId} {Lx L : List Nat} {f : Nat → va_E} {H : Heap} {locs : List Loc} {ls : Array Slot} {x wo Sl dr drr ri rir th thr so pa ta la ba si tt tp sw ch im rm bo bw y y0 y1 y2 y3 y4 y5 y6 y7 y8 y9 y10 y11 y12 y13 y15 y16 y17 y18 y19 y20 y21 y22 : Nat} {wf sf : Nat → Option Nat} {vd vs vs2 : Nat → Int64} {vl vb : Nat → Int32} {v_worlds : Nat → Int64} {v_inWorld : Nat → Int32} {v_kind : Nat → Int32} {v_size : Nat → Int32} {v_marks : Nat → Int32} {v_seed : Nat → Int32} {v_contents : Nat → Int64} {v_contentMany : Nat → Int32} {v_row : Nat → Int32} {v_bits : Nat → Int32} {v_layerSize : Nat → Int32} {v_layerCame : Nat → Int32} {v_rest : Nat → Int64} {v_restMany : Nat → Int32} {v_come : Nat → Int64} {v_rivals : Nat → Int64} {v_gone : Nat → Int64} {v_order : Nat → Int32} {v_offAt : Nat → Int32} {v_isOff : Nat → Int32} {v_alone : Nat → Int32} {v_kept : Nat → Int32} (hx : p.tables.exec = Jvm.exec) (hb : c.code = cL_law) (hr : meth.sig.returnType = ret) (hml : c.maxLocals = 4) (hown : s.vm.findClass RL = some m.cls) (hts : ∀ w ∈ wsL_law, w.before #[Value.ref bs] s = true) (hX : va_X bs 6 xs s s.heap) (hbl : bs < s.heap.size) (hlk : meth.locks = false) (S : PS D g (fun q : Nat => s.heap.size ≤ q) s.heap s L f H locs) (hl : lv_has ls 4 [(3, .int 0), (2, .ref y), (1, .ref x), (0, .ref bs)]) (m_x : x ∈ L) (e_x : f x = .inr (6, [.ref wo, .ref Sl, .ref dr, .ref ri, .ref th, .ref so, .ref ch, .int 0])) (m_wo : wo ∈ L) (e_wo : f wo = .inl (g 3, 8, .inr (.inr (.inr (.inr wf))))) (m_Sl : Sl ∈ L) (e_Sl : f Sl = .inl (g 5, 30, .inr (.inr (.inr (.inr sf))))) (m_dr : dr ∈ L) (e_dr : f dr = .inr (0, [.ref drr, .int ((nI 0))])) (m_drr : drr ∈ L) (e_drr : f drr = .inl (g 1, 1000, .inr (.inl vd))) (m_ri : ri ∈ L) (e_ri : f ri = .inr (0, [.ref rir, .int ((nI 0))])) (m_th : th ∈ L) (e_th : f th = .inr (0, [.ref thr, .int ((nI 0))])) (m_so : so ∈ L) (e_so : f so = .inr (5, [.ref pa, .ref ta, .ref la, .ref ba, .ref si, .ref tt, .ref tp, .int 0, .int 0])) (m_la : la ∈ L) (e_la : f la = .inl (g 0, 3774, .inl vl)) (m_ba : ba ∈ L) (e_ba : f ba = .inl (g 0, 3774, .inl vb)) (m_si : si ∈ L) (e_si : f si = .inr (1, [.ref sw, .int ((nI 0))])) (m_sw : sw ∈ L) (e_sw : f sw = .inl (g 1, 64, .inr (.inl vs))) (m_ch : ch ∈ L) (e_ch : f ch = .inr (2, [.ref im, .ref rm, .ref bo, .int 0, .int 0])) (m_bo : bo ∈ L) (e_bo : f bo = .inr (1, [.ref bw, .int ((nI 0))])) (m_bw : bw ∈ L) (e_bw : f bw = .inl (g 1, 64, .inr (.inl vs2))) (m_y : y ∈ L) (e_y : f y = .inr (7, [.ref y0, .ref y1, .ref y2, .ref y3, .ref y4, .ref y5, .ref y6, .ref y7, .ref y8, .ref y9, .ref y10, .ref y11, .ref y12, .ref y13, .int 0, .ref y15, .ref y16, .ref y17, .ref y18, .ref y19, .ref y20, .ref y21, .ref y22])) (m_y0 : y0 ∈ L) (e_y0 : f y0 = .inl (g 1, 8000, .inr (.inl v_worlds))) (m_y1 : y1 ∈ L) (e_y1 : f y1 = .inl (g 0, 8, .inl v_inWorld)) (m_y2 : y2 ∈ L) (e_y2 : f y2 = .inl (g 0, 30, .inl v_kind)) (m_y3 : y3 ∈ L) (e_y3 : f y3 = .inl (g 0, 30, .inl v_size)) (m_y4 : y4 ∈ L) (e_y4 : f y4 = .inl (g 0, 30, .inl v_marks)) (m_y5 : y5 ∈ L) (e_y5 : f y5 = .inl (g 0, 30, .inl v_seed)) (m_y6 : y6 ∈ L) (e_y6 : f y6 = .inl (g 1, 30000, .inr (.inl v_contents))) (m_y7 : y7 ∈ L) (e_y7 : f y7 = .inl (g 0, 30, .inl v_contentMany)) (m_y8 : y8 ∈ L) (e_y8 : f y8 = .inl (g 0, 122880, .inl v_row)) (m_y9 : y9 ∈ L) (e_y9 : f y9 = .inl (g 0, 76800, .inl v_bits)) (m_y10 : y10 ∈ L) (e_y10 : f y10 = .inl (g 0, 600, .inl v_layerSize)) (m_y11 : y11 ∈ L) (e_y11 : f y11 = .inl (g 0, 600, .inl v_layerCame)) (m_y12 : y12 ∈ L) (e_y12 : f y12 = .inl (g 1, 30000, .inr (.inl v_rest))) (m_y13 : y13 ∈ L) (e_y13 : f y13 = .inl (g 0, 30, .inl v_restMany)) (m_y15 : y15 ∈ L) (e_y15 : f y15 = .inl (g 1, 1000, .inr (.inl v_come))) (m_y16 : y16 ∈ L) (e_y16 : f y16 = .inl (g 1, 1000, .inr (.inl v_rivals))) (m_y17 : y17 ∈ L) (e_y17 : f y17 = .inl (g 1, 1000, .inr (.inl v_gone))) (m_y18 : y18 ∈ L) (e_y18 : f y18 = .inl (g 0, 1000, .inl v_order)) (m_y19 : y19 ∈ L) (e_y19 : f y19 = .inl (g 0, 1000, .inl v_offAt)) (m_y20 : y20 ∈ L) (e_y20 : f y20 = .inl (g 2, 1000, .inl v_isOff)) (m_y21 : y21 ∈ L) (e_y21 : f y21 = .inl (g 0, 4096, .inl v_alone)) (m_y22 : y22 ∈ L) (e_y22 : f y22 = .inl (g 0, 4096, .inl v_kept)) (hs0 : sf 0 = none) (n_ri_dr : ri ≠ dr) (n_th_dr : th ≠ dr) (n_th_ri : th ≠ ri) (n_ba_la : ba ≠ la) (hW2 : ∀ j, j < 8 → ∃ b rb : Nat, ∃ vb : Nat → Int64, wf j = some b ∧ b ∈ L ∧ f b = .inr (0, [.ref rb, .int (nI 0)]) ∧ rb ∈ L ∧ f rb = .inl (g 1, 1000, .inr (.inl vb)) ∧ b ≠ dr ∧ b ≠ ri ∧ b ≠ th ∧ rb ≠ drr ∧ b ∈ Lx ∧ rb ∈ Lx) (hI : ∀ j, j < 8 → v_inWorld j = 0) (hnd : [y, y0, y1, y2, y3, y4, y5, y6, y7, y8, y9, y10, y11, y12, y13, y15, y16, y17, y18, y19, y20, y21, y22].Nodup) (lx_x : x ∈ Lx) (lx_Sl : Sl ∈ Lx) (lx_dr : dr ∈ Lx) (lx_drr : drr ∈ Lx) (lx_ri : ri ∈ Lx) (lx_th : th ∈ Lx) (lx_so : so ∈ Lx) (lx_la : la ∈ Lx) (lx_ba : ba ∈ Lx) (lx_si : si ∈ Lx) (lx_sw : sw ∈ Lx) (lx_ch : ch ∈ Lx) (lx_bo : bo ∈ Lx) (lx_bw : bw ∈ Lx) (nx_y : y ∉ Lx) (nx_y0 : y0 ∉ Lx) (nx_y1 : y1 ∉ Lx) (nx_y2 : y2 ∉ Lx) (nx_y3 : y3 ∉ Lx) (nx_y4 : y4 ∉ Lx) (nx_y5 : y5 ∉ Lx) (nx_y6 : y6 ∉ Lx) (nx_y7 : y7 ∉ Lx) (nx_y8 : y8 ∉ Lx) (nx_y9 : y9 ∉ Lx) (nx_y10 : y10 ∉ Lx) (nx_y11 : y11 ∉ Lx) (nx_y12 : y12 ∉ Lx) (nx_y13 : y13 ∉ Lx) (nx_y15 : y15 ∉ Lx) (nx_y16 : y16 ∉ Lx) (nx_y17 : y17 ∉ Lx) (nx_y18 : y18 ∉ Lx) (nx_y19 : y19 ∉ Lx) (nx_y20 : y20 ∉ Lx) (nx_y21 : y21 ∉ Lx) (nx_y22 : y22 ∉ Lx) : W p l e room_1 s m #[Value.ref bs] below meth c H locs 62 310045 (lw_Z below #[Value.ref bs] s) (F0 m 472 ls []) := by
  have hW : ∀ j, j < 8 → ∃ b rb : Nat, ∃ vb : Nat → Int64, wf j = some b ∧ b ∈ L ∧ f b = .inr (0, [.ref rb, .int (nI 0)]) ∧ rb ∈ L ∧ f rb = .inl (g 1, 1000, .inr (.inl vb)) ∧ b ≠ dr ∧ b ≠ ri ∧ b ≠ th := fun j hj => by obtain ⟨b, rb, vb, h1, h2, h3, h4, h5, h6, h7, h8, -⟩ := hW2 j hj; exact ⟨b, rb, vb, h1, h2, h3, h4, h5, h6, h7, h8⟩
  refine lv_aload_n hx hb dL_law_472 rfl (lv_at hl 2 rfl) ?_
  refine lv_aload_n hx hb dL_law_473 rfl (lv_at hl 3 rfl) ?_
  refine lv_iload_n hx hb dL_law_474 rfl (lv_at hl 0 rfl) ?_
  refine lv_iconst (v := 1) hx hb dL_law_475 (by decide) ?_
  refine lv_iadd hx hb dL_law_476 ?_
  refine lv_topi (fun t_ et_ => ?_)
  obtain rfl : t_ = 1 := et_.trans (by decide)
  refine va_sld hx hb hX hbl (Nat.not_le.mpr hbl) S.2.2.2.1 (vp_in_nI (n := 1) (by omega) (by decide)) dL_law_477 ?_
  refine lv_aload_n hx hb dL_law_478 rfl (lv_at hl 3 rfl) ?_
  refine lv_iload_n hx hb dL_law_479 rfl (lv_at hl 0 rfl) ?_
  refine lv_iconst (v := 2) hx hb dL_law_480 (by decide) ?_
  refine lv_iadd hx hb dL_law_481 ?_
  refine lv_topi (fun t_ et_ => ?_)
  obtain rfl : t_ = 2 := et_.trans (by decide)
  refine va_sld hx hb hX hbl (Nat.not_le.mpr hbl) S.2.2.2.1 (vp_in_nI (n := 2) (by omega) (by decide)) dL_law_482 ?_
  refine lv_i2l hx hb dL_law_483 rfl ?_
  refine lv_bipush (v := 32) hx hb dL_law_484 (by decide) ?_
  refine lv_lshl hx hb dL_law_486 rfl ?_
  refine lv_aload_n hx hb dL_law_487 rfl (lv_at hl 3 rfl) ?_
  refine lv_iload_n hx hb dL_law_488 rfl (lv_at hl 0 rfl) ?_
  refine lv_iconst (v := 3) hx hb dL_law_489 (by decide) ?_
  refine lv_iadd hx hb dL_law_490 ?_
  refine lv_topi (fun t_ et_ => ?_)
  obtain rfl : t_ = 3 := et_.trans (by decide)
  refine va_sld hx hb hX hbl (Nat.not_le.mpr hbl) S.2.2.2.1 (vp_in_nI (n := 3) (by omega) (by decide)) dL_law_491 ?_
  refine lv_i2l hx hb dL_law_492 rfl ?_
  refine lv_ldc2 (v := (4294967295)) hx hb hown (hts (.constantLong RL 13 (4294967295)) (by decide +kernel)) dL_law_493 ?_
  refine lv_land hx hb dL_law_496 ?_
  refine lv_lor hx hb dL_law_497 ?_
  refine lv_topl (fun fs1 efs1 => ?_)
  refine q_vi (As := [.int ((xs (1 : Int32).toNatClampNeg)), .long fs1]) (rest := []) ⟨hx, hb, hml, hown, hts⟩ (c_X8_put0 l D g m_x e_x ) (cwV 2 hts gL_law_X8_put rfl rfl rfl (by decide +kernel) ⟨Nat.le_of_ble_eq_true rfl, Nat.le_of_ble_eq_true rfl⟩) S m_x e_x (T := TX8) (N := 8) rfl rfl hl.1 rfl (Nat.le_of_ble_eq_true rfl) dL_law_498 ⟨Nat.le_of_ble_eq_true rfl, Nat.le_of_ble_eq_true rfl⟩ (fun r3 L1 f2 H locs S w498 => ?_)
  obtain ⟨ex1, eL1, ef1⟩ := w498
  rw [eL1, ef1] at S
  refine lv_aload_n hx hb dL_law_501 rfl (lv_at hl 1 rfl) ?_
  refine lv_aload_n hx hb dL_law_502 rfl (lv_at hl 3 rfl) ?_
  refine lv_iload_n hx hb dL_law_503 rfl (lv_at hl 0 rfl) ?_
  refine lv_iconst (v := 1) hx hb dL_law_504 (by decide) ?_
  refine lv_iadd hx hb dL_law_505 ?_
  refine lv_topi (fun t_ et_ => ?_)
  obtain rfl : t_ = 1 := et_.trans (by decide)
  refine va_sld hx hb hX hbl (Nat.not_le.mpr hbl) S.2.2.2.1 (vp_in_nI (n := 1) (by omega) (by decide)) dL_law_506 ?_
  refine lv_aload_n hx hb dL_law_507 rfl (lv_at hl 3 rfl) ?_
  refine lv_iload_n hx hb dL_law_508 rfl (lv_at hl 0 rfl) ?_
  refine lv_iconst (v := 2) hx hb dL_law_509 (by decide) ?_
  refine lv_iadd hx hb dL_law_510 ?_
  refine lv_topi (fun t_ et_ => ?_)
  obtain rfl : t_ = 2 := et_.trans (by decide)
  refine va_sld hx hb hX hbl (Nat.not_le.mpr hbl) S.2.2.2.1 (vp_in_nI (n := 2) (by omega) (by decide)) dL_law_511 ?_
  refine lv_i2l hx hb dL_law_512 rfl ?_
  refine lv_bipush (v := 32) hx hb dL_law_513 (by decide) ?_
  refine lv_lshl hx hb dL_law_515 rfl ?_
  refine lv_aload_n hx hb dL_law_516 rfl (lv_at hl 3 rfl) ?_
  refine lv_iload_n hx hb dL_law_517 rfl (lv_at hl 0 rfl) ?_
  refine lv_iconst (v := 3) hx hb dL_law_518 (by decide) ?_
  refine lv_iadd hx hb dL_law_519 ?_
  refine lv_topi (fun t_ et_ => ?_)
  obtain rfl : t_ = 3 := et_.trans (by decide)
  refine va_sld hx hb hX hbl (Nat.not_le.mpr hbl) S.2.2.2.1 (vp_in_nI (n := 3) (by omega) (by decide)) dL_law_520 ?_
  refine lv_i2l hx hb dL_law_521 rfl ?_
  refine lv_ldc2 (v := (4294967295)) hx hb hown (hts (.constantLong RL 13 (4294967295)) (by decide +kernel)) dL_law_522 ?_
  refine lv_land hx hb dL_law_525 ?_
  refine lv_lor hx hb dL_law_526 ?_
  refine lv_topl (fun fs2 efs2 => ?_)
  obtain rfl : fs1 = fs2 := efs1.trans efs2.symm
  refine q_vi (As := [.int ((xs (1 : Int32).toNatClampNeg)), .long fs1]) (rest := [.int r3]) ⟨hx, hb, hml, hown, hts⟩ (c_X9_put0 l D g m_y e_y ) (cwV 2 hts gL_law_X9_put rfl rfl rfl (by decide +kernel) ⟨Nat.le_of_ble_eq_true rfl, Nat.le_of_ble_eq_true rfl⟩) S m_y e_y (T := TX9) (N := 23) rfl rfl hl.1 rfl (Nat.le_of_ble_eq_true rfl) dL_law_527 ⟨Nat.le_of_ble_eq_true rfl, Nat.le_of_ble_eq_true rfl⟩ (fun r6 L4 f5 H locs S w527 => ?_)
  have ex2 := w527.1
  refine lv_icmp_eq (tgt := 1121) hx hb dL_law_530 (by decide) (fun b530 => ?_) (fun b530 => absurd (ex1.trans ex2.symm) b530)
  obtain ⟨i1, ei1⟩ : ∃ y : Int32, y = 0 + 6 := ⟨_, rfl⟩
  refine lv_iinc (v := i1) (lv' := [(3, .int i1), (2, .ref y), (1, .ref x), (0, .ref bs)]) hx hb dL_law_1121 hl (k := 0) rfl (by rw [ei1]; rfl) (by decide) rfl (fun ls hl => ?_)
  refine lv_goto (tgt := 18) hx hb dL_law_1124 (by decide) ?_
  refine lv_iload_n hx hb dL_law_18 rfl (lv_at hl 0 rfl) ?_
  refine lv_aload_n hx hb dL_law_19 rfl (lv_at hl 3 rfl) ?_
  refine va_slen hx hb hX hbl (Nat.not_le.mpr hbl) S.2.2.2.1 dL_law_20 ?_
  refine lv_bipush (v := 6) hx hb dL_law_21 (by decide) ?_
  refine lv_isub hx hb dL_law_23 ?_
  refine lv_icmp_gt (tgt := 1127) hx hb dL_law_24 (by decide) (fun b24 => ?_) (fun b24 => absurd (by rw [ei1]; decide) b24)
  refine lv_iconst (v := 1) hx hb dL_law_1127 (by decide) ?_
  refine va_forget (fun q hq => S.2.2.2.1.2.2 q hq) ?_
  refine W.widen (k := 600000) (n := 7302250) (by decide) (by decide) ?_
  exact lw_ret hx hb hr hlk dL_law_1128

set_option maxHeartbeats 4000000 in
set_option maxRecDepth 100000 in
theorem law_8 {p : Program} {l : Launch} {e : Env} {s : State} {m : MethodId} {below : List Frame} {meth : Method} {c : Code} {bs : Nat} {xs : Nat → Int32} {D : va_G} {g : Nat → ClassId} {Lx L : List Nat} {f : Nat → va_E} {H : Heap} {locs : List Loc} {ls : Array Slot} {x wo Sl dr drr ri rir th thr so pa ta la ba si tt tp sw ch im rm bo bw y y0 y1 y2 y3 y4 y5 y6 y7 y8 y9 y10 y11 y12 y13 y15 y16 y17 y18 y19 y20 y21 y22 : Nat} {wf sf : Nat → Option Nat} {vd vs vs2 : Nat → Int64} {vl vb : Nat → Int32} {v_worlds : Nat → Int64} {v_inWorld : Nat → Int32} {v_kind : Nat → Int32} {v_size : Nat → Int32} {v_marks : Nat → Int32} {v_seed : Nat → Int32} {v_contents : Nat → Int64} {v_contentMany : Nat → Int32} {v_row : Nat → Int32} {v_bits : Nat → Int32} {v_layerSize : Nat → Int32} {v_layerCame : Nat → Int32} {v_rest : Nat → Int64} {v_restMany : Nat → Int32} {v_come : Nat → Int64} {v_rivals : Nat → Int64} {v_gone : Nat → Int64} {v_order : Nat → Int32} {v_offAt : Nat → Int32} {v_isOff : Nat → Int32} {v_alone : Nat → Int32} {v_kept : Nat → Int32} (hx : p.tables.exec = Jvm.exec) (hb : c.code = cL_law) (hr : meth.sig.returnType = ret) (hml : c.maxLocals = 4) (hown : s.vm.findClass RL = some m.cls) (hts : ∀ w ∈ wsL_law, w.before #[Value.ref bs] s = true) (hX : va_X bs 6 xs s s.heap) (hbl : bs < s.heap.size) (hlk : meth.locks = false) (S : PS D g (fun q : Nat => s.heap.size ≤ q) s.heap s L f H locs) (hl : lv_has ls 4 [(3, .int 0), (2, .ref y), (1, .ref x), (0, .ref bs)]) (m_x : x ∈ L) (e_x : f x = .inr (6, [.ref wo, .ref Sl, .ref dr, .ref ri, .ref th, .ref so, .ref ch, .int 0])) (m_wo : wo ∈ L) (e_wo : f wo = .inl (g 3, 8, .inr (.inr (.inr (.inr wf))))) (m_Sl : Sl ∈ L) (e_Sl : f Sl = .inl (g 5, 30, .inr (.inr (.inr (.inr sf))))) (m_dr : dr ∈ L) (e_dr : f dr = .inr (0, [.ref drr, .int ((nI 0))])) (m_drr : drr ∈ L) (e_drr : f drr = .inl (g 1, 1000, .inr (.inl vd))) (m_ri : ri ∈ L) (e_ri : f ri = .inr (0, [.ref rir, .int ((nI 0))])) (m_th : th ∈ L) (e_th : f th = .inr (0, [.ref thr, .int ((nI 0))])) (m_so : so ∈ L) (e_so : f so = .inr (5, [.ref pa, .ref ta, .ref la, .ref ba, .ref si, .ref tt, .ref tp, .int 0, .int 0])) (m_la : la ∈ L) (e_la : f la = .inl (g 0, 3774, .inl vl)) (m_ba : ba ∈ L) (e_ba : f ba = .inl (g 0, 3774, .inl vb)) (m_si : si ∈ L) (e_si : f si = .inr (1, [.ref sw, .int ((nI 0))])) (m_sw : sw ∈ L) (e_sw : f sw = .inl (g 1, 64, .inr (.inl vs))) (m_ch : ch ∈ L) (e_ch : f ch = .inr (2, [.ref im, .ref rm, .ref bo, .int 0, .int 0])) (m_bo : bo ∈ L) (e_bo : f bo = .inr (1, [.ref bw, .int ((nI 0))])) (m_bw : bw ∈ L) (e_bw : f bw = .inl (g 1, 64, .inr (.inl vs2))) (m_y : y ∈ L) (e_y : f y = .inr (7, [.ref y0, .ref y1, .ref y2, .ref y3, .ref y4, .ref y5, .ref y6, .ref y7, .ref y8, .ref y9, .ref y10, .ref y11, .ref y12, .ref y13, .int 0, .ref y15, .ref y16, .ref y17, .ref y18, .ref y19, .ref y20, .ref y21, .ref y22])) (m_y0 : y0 ∈ L) (e_y0 : f y0 = .inl (g 1, 8000, .inr (.inl v_worlds))) (m_y1 : y1 ∈ L) (e_y1 : f y1 = .inl (g 0, 8, .inl v_inWorld)) (m_y2 : y2 ∈ L) (e_y2 : f y2 = .inl (g 0, 30, .inl v_kind)) (m_y3 : y3 ∈ L) (e_y3 : f y3 = .inl (g 0, 30, .inl v_size)) (m_y4 : y4 ∈ L) (e_y4 : f y4 = .inl (g 0, 30, .inl v_marks)) (m_y5 : y5 ∈ L) (e_y5 : f y5 = .inl (g 0, 30, .inl v_seed)) (m_y6 : y6 ∈ L) (e_y6 : f y6 = .inl (g 1, 30000, .inr (.inl v_contents))) (m_y7 : y7 ∈ L) (e_y7 : f y7 = .inl (g 0, 30, .inl v_contentMany)) (m_y8 : y8 ∈ L) (e_y8 : f y8 = .inl (g 0, 122880, .inl v_row)) (m_y9 : y9 ∈ L) (e_y9 : f y9 = .inl (g 0, 76800, .inl v_bits)) (m_y10 : y10 ∈ L) (e_y10 : f y10 = .inl (g 0, 600, .inl v_layerSize)) (m_y11 : y11 ∈ L) (e_y11 : f y11 = .inl (g 0, 600, .inl v_layerCame)) (m_y12 : y12 ∈ L) (e_y12 : f y12 = .inl (g 1, 30000, .inr (.inl v_rest))) (m_y13 : y13 ∈ L) (e_y13 : f y13 = .inl (g 0, 30, .inl v_restMany)) (m_y15 : y15 ∈ L) (e_y15 : f y15 = .inl (g 1, 1000, .inr (.inl v_come))) (m_y16 : y16 ∈ L) (e_y16 : f y16 = .inl (g 1, 1000, .inr (.inl v_rivals))) (m_y17 : y17 ∈ L) (e_y17 : f y17 = .inl (g 1, 1000, .inr (.inl v_gone))) (m_y18 : y18 ∈ L) (e_y18 : f y18 = .inl (g 0, 1000, .inl v_order)) (m_y19 : y19 ∈ L) (e_y19 : f y19 = .inl (g 0, 1000, .inl v_offAt)) (m_y20 : y20 ∈ L) (e_y20 : f y20 = .inl (g 2, 1000, .inl v_isOff)) (m_y21 : y21 ∈ L) (e_y21 : f y21 = .inl (g 0, 4096, .inl v_alone)) (m_y22 : y22 ∈ L) (e_y22 : f y22 = .inl (g 0, 4096, .inl v_kept)) (hs0 : sf 0 = none) (n_ri_dr : ri ≠ dr) (n_th_dr : th ≠ dr) (n_th_ri : th ≠ ri) (n_ba_la : ba ≠ la) (hW2 : ∀ j, j < 8 → ∃ b rb : Nat, ∃ vb : Nat → Int64, wf j = some b ∧ b ∈ L ∧ f b = .inr (0, [.ref rb, .int (nI 0)]) ∧ rb ∈ L ∧ f rb = .inl (g 1, 1000, .inr (.inl vb)) ∧ b ≠ dr ∧ b ≠ ri ∧ b ≠ th ∧ rb ≠ drr ∧ b ∈ Lx ∧ rb ∈ Lx) (hI : ∀ j, j < 8 → v_inWorld j = 0) (hnd : [y, y0, y1, y2, y3, y4, y5, y6, y7, y8, y9, y10, y11, y12, y13, y15, y16, y17, y18, y19, y20, y21, y22].Nodup) (lx_x : x ∈ Lx) (lx_Sl : Sl ∈ Lx) (lx_dr : dr ∈ Lx) (lx_drr : drr ∈ Lx) (lx_ri : ri ∈ Lx) (lx_th : th ∈ Lx) (lx_so : so ∈ Lx) (lx_la : la ∈ Lx) (lx_ba : ba ∈ Lx) (lx_si : si ∈ Lx) (lx_sw : sw ∈ Lx) (lx_ch : ch ∈ Lx) (lx_bo : bo ∈ Lx) (lx_bw : bw ∈ Lx) (nx_y : y ∉ Lx) (nx_y0 : y0 ∉ Lx) (nx_y1 : y1 ∉ Lx) (nx_y2 : y2 ∉ Lx) (nx_y3 : y3 ∉ Lx) (nx_y4 : y4 ∉ Lx) (nx_y5 : y5 ∉ Lx) (nx_y6 : y6 ∉ Lx) (nx_y7 : y7 ∉ Lx) (nx_y8 : y8 ∉ Lx) (nx_y9 : y9 ∉ Lx) (nx_y10 : y10 ∉ Lx) (nx_y11 : y11 ∉ Lx) (nx_y12 : y12 ∉ Lx) (nx_y13 : y13 ∉ Lx) (nx_y15 : y15 ∉ Lx) (nx_y16 : y16 ∉ Lx) (nx_y17 : y17 ∉ Lx) (nx_y18 : y18 ∉ Lx) (nx_y19 : y19 ∉ Lx) (nx_y20 : y20 ∉ Lx) (nx_y21 : y21 ∉ Lx) (nx_y22 : y22 ∉ Lx) : W p l e room_1 s m #[Value.ref bs] below meth c H locs 62 310045 (lw_Z below #[Value.ref bs] s) (F0 m 535 ls []) := by
  have hW : ∀ j, j < 8 → ∃ b rb : Nat, ∃ vb : Nat → Int64, wf j = some b ∧ b ∈ L ∧ f b = .inr (0, [.ref rb, .int (nI 0)]) ∧ rb ∈ L ∧ f rb = .inl (g 1, 1000, .inr (.inl vb)) ∧ b ≠ dr ∧ b ≠ ri ∧ b ≠ th := fun j hj => by obtain ⟨b, rb, vb, h1, h2, h3, h4, h5, h6, h7, h8, -⟩ := hW2 j hj; exact ⟨b, rb, vb, h1, h2, h3, h4, h5, h6, h7, h8⟩
  refine lv_aload_n hx hb dL_law_535 rfl (lv_at hl 2 rfl) ?_
  refine lv_aload_n hx hb dL_law_536 rfl (lv_at hl 3 rfl) ?_
  refine lv_iload_n hx hb dL_law_537 rfl (lv_at hl 0 rfl) ?_
  refine lv_iconst (v := 1) hx hb dL_law_538 (by decide) ?_
  refine lv_iadd hx hb dL_law_539 ?_
  refine lv_topi (fun t_ et_ => ?_)
  obtain rfl : t_ = 1 := et_.trans (by decide)
  refine va_sld hx hb hX hbl (Nat.not_le.mpr hbl) S.2.2.2.1 (vp_in_nI (n := 1) (by omega) (by decide)) dL_law_540 ?_
  refine lv_aload_n hx hb dL_law_541 rfl (lv_at hl 3 rfl) ?_
  refine lv_iload_n hx hb dL_law_542 rfl (lv_at hl 0 rfl) ?_
  refine lv_iconst (v := 2) hx hb dL_law_543 (by decide) ?_
  refine lv_iadd hx hb dL_law_544 ?_
  refine lv_topi (fun t_ et_ => ?_)
  obtain rfl : t_ = 2 := et_.trans (by decide)
  refine va_sld hx hb hX hbl (Nat.not_le.mpr hbl) S.2.2.2.1 (vp_in_nI (n := 2) (by omega) (by decide)) dL_law_545 ?_
  refine q_vi (As := [.int ((xs (1 : Int32).toNatClampNeg)), .int ((xs (2 : Int32).toNatClampNeg))]) (rest := []) ⟨hx, hb, hml, hown, hts⟩ (c_X8_putAll0 l D g m_x e_x m_wo e_wo hW) (cwV 2 hts gL_law_X8_putAll rfl rfl rfl (by decide +kernel) ⟨Nat.le_of_ble_eq_true rfl, Nat.le_of_ble_eq_true rfl⟩) S m_x e_x (T := TX8) (N := 8) rfl rfl hl.1 rfl (Nat.le_of_ble_eq_true rfl) dL_law_546 ⟨Nat.le_of_ble_eq_true rfl, Nat.le_of_ble_eq_true rfl⟩ (fun r3 L1 f2 H locs S w546 => ?_)
  obtain ⟨ex1, eL1, ef1⟩ := w546
  rw [eL1, ef1] at S
  refine lv_aload_n hx hb dL_law_549 rfl (lv_at hl 1 rfl) ?_
  refine lv_aload_n hx hb dL_law_550 rfl (lv_at hl 3 rfl) ?_
  refine lv_iload_n hx hb dL_law_551 rfl (lv_at hl 0 rfl) ?_
  refine lv_iconst (v := 1) hx hb dL_law_552 (by decide) ?_
  refine lv_iadd hx hb dL_law_553 ?_
  refine lv_topi (fun t_ et_ => ?_)
  obtain rfl : t_ = 1 := et_.trans (by decide)
  refine va_sld hx hb hX hbl (Nat.not_le.mpr hbl) S.2.2.2.1 (vp_in_nI (n := 1) (by omega) (by decide)) dL_law_554 ?_
  refine lv_aload_n hx hb dL_law_555 rfl (lv_at hl 3 rfl) ?_
  refine lv_iload_n hx hb dL_law_556 rfl (lv_at hl 0 rfl) ?_
  refine lv_iconst (v := 2) hx hb dL_law_557 (by decide) ?_
  refine lv_iadd hx hb dL_law_558 ?_
  refine lv_topi (fun t_ et_ => ?_)
  obtain rfl : t_ = 2 := et_.trans (by decide)
  refine va_sld hx hb hX hbl (Nat.not_le.mpr hbl) S.2.2.2.1 (vp_in_nI (n := 2) (by omega) (by decide)) dL_law_559 ?_
  refine q_vi (As := [.int ((xs (1 : Int32).toNatClampNeg)), .int ((xs (2 : Int32).toNatClampNeg))]) (rest := [.int r3]) ⟨hx, hb, hml, hown, hts⟩ (c_X9_putAll0 l D g m_y e_y ) (cwV 2 hts gL_law_X9_putAll rfl rfl rfl (by decide +kernel) ⟨Nat.le_of_ble_eq_true rfl, Nat.le_of_ble_eq_true rfl⟩) S m_y e_y (T := TX9) (N := 23) rfl rfl hl.1 rfl (Nat.le_of_ble_eq_true rfl) dL_law_560 ⟨Nat.le_of_ble_eq_true rfl, Nat.le_of_ble_eq_true rfl⟩ (fun r6 L4 f5 H locs S w560 => ?_)
  have ex2 := w560.1
  refine lv_icmp_eq (tgt := 1121) hx hb dL_law_563 (by decide) (fun b563 => ?_) (fun b563 => absurd (ex1.trans ex2.symm) b563)
  obtain ⟨i1, ei1⟩ : ∃ y : Int32, y = 0 + 6 := ⟨_, rfl⟩
  refine lv_iinc (v := i1) (lv' := [(3, .int i1), (2, .ref y), (1, .ref x), (0, .ref bs)]) hx hb dL_law_1121 hl (k := 0) rfl (by rw [ei1]; rfl) (by decide) rfl (fun ls hl => ?_)
  refine lv_goto (tgt := 18) hx hb dL_law_1124 (by decide) ?_
  refine lv_iload_n hx hb dL_law_18 rfl (lv_at hl 0 rfl) ?_
  refine lv_aload_n hx hb dL_law_19 rfl (lv_at hl 3 rfl) ?_
  refine va_slen hx hb hX hbl (Nat.not_le.mpr hbl) S.2.2.2.1 dL_law_20 ?_
  refine lv_bipush (v := 6) hx hb dL_law_21 (by decide) ?_
  refine lv_isub hx hb dL_law_23 ?_
  refine lv_icmp_gt (tgt := 1127) hx hb dL_law_24 (by decide) (fun b24 => ?_) (fun b24 => absurd (by rw [ei1]; decide) b24)
  refine lv_iconst (v := 1) hx hb dL_law_1127 (by decide) ?_
  refine va_forget (fun q hq => S.2.2.2.1.2.2 q hq) ?_
  refine W.widen (k := 600000) (n := 7302250) (by decide) (by decide) ?_
  exact lw_ret hx hb hr hlk dL_law_1128

set_option maxHeartbeats 4000000 in
set_option maxRecDepth 100000 in
theorem law_9 {p : Program} {l : Launch} {e : Env} {s : State} {m : MethodId} {below : List Frame} {meth : Method} {c : Code} {bs : Nat} {xs : Nat → Int32} {D : va_G} {g : Nat → ClassId} {Lx L : List Nat} {f : Nat → va_E} {H : Heap} {locs : List Loc} {ls : Array Slot} {x wo Sl dr drr ri rir th thr so pa ta la ba si tt tp sw ch im rm bo bw y y0 y1 y2 y3 y4 y5 y6 y7 y8 y9 y10 y11 y12 y13 y15 y16 y17 y18 y19 y20 y21 y22 : Nat} {wf sf : Nat → Option Nat} {vd vs vs2 : Nat → Int64} {vl vb : Nat → Int32} {v_worlds : Nat → Int64} {v_inWorld : Nat → Int32} {v_kind : Nat → Int32} {v_size : Nat → Int32} {v_marks : Nat → Int32} {v_seed : Nat → Int32} {v_contents : Nat → Int64} {v_contentMany : Nat → Int32} {v_row : Nat → Int32} {v_bits : Nat → Int32} {v_layerSize : Nat → Int32} {v_layerCame : Nat → Int32} {v_rest : Nat → Int64} {v_restMany : Nat → Int32} {v_come : Nat → Int64} {v_rivals : Nat → Int64} {v_gone : Nat → Int64} {v_order : Nat → Int32} {v_offAt : Nat → Int32} {v_isOff : Nat → Int32} {v_alone : Nat → Int32} {v_kept : Nat → Int32} (hx : p.tables.exec = Jvm.exec) (hb : c.code = cL_law) (hr : meth.sig.returnType = ret) (hml : c.maxLocals = 4) (hown : s.vm.findClass RL = some m.cls) (hts : ∀ w ∈ wsL_law, w.before #[Value.ref bs] s = true) (hX : va_X bs 6 xs s s.heap) (hbl : bs < s.heap.size) (hlk : meth.locks = false) (S : PS D g (fun q : Nat => s.heap.size ≤ q) s.heap s L f H locs) (hl : lv_has ls 4 [(3, .int 0), (2, .ref y), (1, .ref x), (0, .ref bs)]) (m_x : x ∈ L) (e_x : f x = .inr (6, [.ref wo, .ref Sl, .ref dr, .ref ri, .ref th, .ref so, .ref ch, .int 0])) (m_wo : wo ∈ L) (e_wo : f wo = .inl (g 3, 8, .inr (.inr (.inr (.inr wf))))) (m_Sl : Sl ∈ L) (e_Sl : f Sl = .inl (g 5, 30, .inr (.inr (.inr (.inr sf))))) (m_dr : dr ∈ L) (e_dr : f dr = .inr (0, [.ref drr, .int ((nI 0))])) (m_drr : drr ∈ L) (e_drr : f drr = .inl (g 1, 1000, .inr (.inl vd))) (m_ri : ri ∈ L) (e_ri : f ri = .inr (0, [.ref rir, .int ((nI 0))])) (m_th : th ∈ L) (e_th : f th = .inr (0, [.ref thr, .int ((nI 0))])) (m_so : so ∈ L) (e_so : f so = .inr (5, [.ref pa, .ref ta, .ref la, .ref ba, .ref si, .ref tt, .ref tp, .int 0, .int 0])) (m_la : la ∈ L) (e_la : f la = .inl (g 0, 3774, .inl vl)) (m_ba : ba ∈ L) (e_ba : f ba = .inl (g 0, 3774, .inl vb)) (m_si : si ∈ L) (e_si : f si = .inr (1, [.ref sw, .int ((nI 0))])) (m_sw : sw ∈ L) (e_sw : f sw = .inl (g 1, 64, .inr (.inl vs))) (m_ch : ch ∈ L) (e_ch : f ch = .inr (2, [.ref im, .ref rm, .ref bo, .int 0, .int 0])) (m_bo : bo ∈ L) (e_bo : f bo = .inr (1, [.ref bw, .int ((nI 0))])) (m_bw : bw ∈ L) (e_bw : f bw = .inl (g 1, 64, .inr (.inl vs2))) (m_y : y ∈ L) (e_y : f y = .inr (7, [.ref y0, .ref y1, .ref y2, .ref y3, .ref y4, .ref y5, .ref y6, .ref y7, .ref y8, .ref y9, .ref y10, .ref y11, .ref y12, .ref y13, .int 0, .ref y15, .ref y16, .ref y17, .ref y18, .ref y19, .ref y20, .ref y21, .ref y22])) (m_y0 : y0 ∈ L) (e_y0 : f y0 = .inl (g 1, 8000, .inr (.inl v_worlds))) (m_y1 : y1 ∈ L) (e_y1 : f y1 = .inl (g 0, 8, .inl v_inWorld)) (m_y2 : y2 ∈ L) (e_y2 : f y2 = .inl (g 0, 30, .inl v_kind)) (m_y3 : y3 ∈ L) (e_y3 : f y3 = .inl (g 0, 30, .inl v_size)) (m_y4 : y4 ∈ L) (e_y4 : f y4 = .inl (g 0, 30, .inl v_marks)) (m_y5 : y5 ∈ L) (e_y5 : f y5 = .inl (g 0, 30, .inl v_seed)) (m_y6 : y6 ∈ L) (e_y6 : f y6 = .inl (g 1, 30000, .inr (.inl v_contents))) (m_y7 : y7 ∈ L) (e_y7 : f y7 = .inl (g 0, 30, .inl v_contentMany)) (m_y8 : y8 ∈ L) (e_y8 : f y8 = .inl (g 0, 122880, .inl v_row)) (m_y9 : y9 ∈ L) (e_y9 : f y9 = .inl (g 0, 76800, .inl v_bits)) (m_y10 : y10 ∈ L) (e_y10 : f y10 = .inl (g 0, 600, .inl v_layerSize)) (m_y11 : y11 ∈ L) (e_y11 : f y11 = .inl (g 0, 600, .inl v_layerCame)) (m_y12 : y12 ∈ L) (e_y12 : f y12 = .inl (g 1, 30000, .inr (.inl v_rest))) (m_y13 : y13 ∈ L) (e_y13 : f y13 = .inl (g 0, 30, .inl v_restMany)) (m_y15 : y15 ∈ L) (e_y15 : f y15 = .inl (g 1, 1000, .inr (.inl v_come))) (m_y16 : y16 ∈ L) (e_y16 : f y16 = .inl (g 1, 1000, .inr (.inl v_rivals))) (m_y17 : y17 ∈ L) (e_y17 : f y17 = .inl (g 1, 1000, .inr (.inl v_gone))) (m_y18 : y18 ∈ L) (e_y18 : f y18 = .inl (g 0, 1000, .inl v_order)) (m_y19 : y19 ∈ L) (e_y19 : f y19 = .inl (g 0, 1000, .inl v_offAt)) (m_y20 : y20 ∈ L) (e_y20 : f y20 = .inl (g 2, 1000, .inl v_isOff)) (m_y21 : y21 ∈ L) (e_y21 : f y21 = .inl (g 0, 4096, .inl v_alone)) (m_y22 : y22 ∈ L) (e_y22 : f y22 = .inl (g 0, 4096, .inl v_kept)) (hs0 : sf 0 = none) (n_ri_dr : ri ≠ dr) (n_th_dr : th ≠ dr) (n_th_ri : th ≠ ri) (n_ba_la : ba ≠ la) (hW2 : ∀ j, j < 8 → ∃ b rb : Nat, ∃ vb : Nat → Int64, wf j = some b ∧ b ∈ L ∧ f b = .inr (0, [.ref rb, .int (nI 0)]) ∧ rb ∈ L ∧ f rb = .inl (g 1, 1000, .inr (.inl vb)) ∧ b ≠ dr ∧ b ≠ ri ∧ b ≠ th ∧ rb ≠ drr ∧ b ∈ Lx ∧ rb ∈ Lx) (hI : ∀ j, j < 8 → v_inWorld j = 0) (hnd : [y, y0, y1, y2, y3, y4, y5, y6, y7, y8, y9, y10, y11, y12, y13, y15, y16, y17, y18, y19, y20, y21, y22].Nodup) (lx_x : x ∈ Lx) (lx_Sl : Sl ∈ Lx) (lx_dr : dr ∈ Lx) (lx_drr : drr ∈ Lx) (lx_ri : ri ∈ Lx) (lx_th : th ∈ Lx) (lx_so : so ∈ Lx) (lx_la : la ∈ Lx) (lx_ba : ba ∈ Lx) (lx_si : si ∈ Lx) (lx_sw : sw ∈ Lx) (lx_ch : ch ∈ Lx) (lx_bo : bo ∈ Lx) (lx_bw : bw ∈ Lx) (nx_y : y ∉ Lx) (nx_y0 : y0 ∉ Lx) (nx_y1 : y1 ∉ Lx) (nx_y2 : y2 ∉ Lx) (nx_y3 : y3 ∉ Lx) (nx_y4 : y4 ∉ Lx) (nx_y5 : y5 ∉ Lx) (nx_y6 : y6 ∉ Lx) (nx_y7 : y7 ∉ Lx) (nx_y8 : y8 ∉ Lx) (nx_y9 : y9 ∉ Lx) (nx_y10 : y10 ∉ Lx) (nx_y11 : y11 ∉ Lx) (nx_y12 : y12 ∉ Lx) (nx_y13 : y13 ∉ Lx) (nx_y15 : y15 ∉ Lx) (nx_y16 : y16 ∉ Lx) (nx_y17 : y17 ∉ Lx) (nx_y18 : y18 ∉ Lx) (nx_y19 : y19 ∉ Lx) (nx_y20 : y20 ∉ Lx) (nx_y21 : y21 ∉ Lx) (nx_y22 : y22 ∉ Lx) : W p l e room_1 s m #[Value.ref bs] below meth c H locs 62 310045 (lw_Z below #[Value.ref bs] s) (F0 m 568 ls []) := by
  have hW : ∀ j, j < 8 → ∃ b rb : Nat, ∃ vb : Nat → Int64, wf j = some b ∧ b ∈ L ∧ f b = .inr (0, [.ref rb, .int (nI 0)]) ∧ rb ∈ L ∧ f rb = .inl (g 1, 1000, .inr (.inl vb)) ∧ b ≠ dr ∧ b ≠ ri ∧ b ≠ th := fun j hj => by obtain ⟨b, rb, vb, h1, h2, h3, h4, h5, h6, h7, h8, -⟩ := hW2 j hj; exact ⟨b, rb, vb, h1, h2, h3, h4, h5, h6, h7, h8⟩
  refine lv_aload_n hx hb dL_law_568 rfl (lv_at hl 2 rfl) ?_
  refine lv_aload_n hx hb dL_law_569 rfl (lv_at hl 3 rfl) ?_
  refine lv_iload_n hx hb dL_law_570 rfl (lv_at hl 0 rfl) ?_
  refine lv_iconst (v := 1) hx hb dL_law_571 (by decide) ?_
  refine lv_iadd hx hb dL_law_572 ?_
  refine lv_topi (fun t_ et_ => ?_)
  obtain rfl : t_ = 1 := et_.trans (by decide)
  refine va_sld hx hb hX hbl (Nat.not_le.mpr hbl) S.2.2.2.1 (vp_in_nI (n := 1) (by omega) (by decide)) dL_law_573 ?_
  refine lv_aload_n hx hb dL_law_574 rfl (lv_at hl 3 rfl) ?_
  refine lv_iload_n hx hb dL_law_575 rfl (lv_at hl 0 rfl) ?_
  refine lv_iconst (v := 2) hx hb dL_law_576 (by decide) ?_
  refine lv_iadd hx hb dL_law_577 ?_
  refine lv_topi (fun t_ et_ => ?_)
  obtain rfl : t_ = 2 := et_.trans (by decide)
  refine va_sld hx hb hX hbl (Nat.not_le.mpr hbl) S.2.2.2.1 (vp_in_nI (n := 2) (by omega) (by decide)) dL_law_578 ?_
  refine lv_i2l hx hb dL_law_579 rfl ?_
  refine lv_bipush (v := 32) hx hb dL_law_580 (by decide) ?_
  refine lv_lshl hx hb dL_law_582 rfl ?_
  refine lv_aload_n hx hb dL_law_583 rfl (lv_at hl 3 rfl) ?_
  refine lv_iload_n hx hb dL_law_584 rfl (lv_at hl 0 rfl) ?_
  refine lv_iconst (v := 3) hx hb dL_law_585 (by decide) ?_
  refine lv_iadd hx hb dL_law_586 ?_
  refine lv_topi (fun t_ et_ => ?_)
  obtain rfl : t_ = 3 := et_.trans (by decide)
  refine va_sld hx hb hX hbl (Nat.not_le.mpr hbl) S.2.2.2.1 (vp_in_nI (n := 3) (by omega) (by decide)) dL_law_587 ?_
  refine lv_i2l hx hb dL_law_588 rfl ?_
  refine lv_ldc2 (v := (4294967295)) hx hb hown (hts (.constantLong RL 13 (4294967295)) (by decide +kernel)) dL_law_589 ?_
  refine lv_land hx hb dL_law_592 ?_
  refine lv_lor hx hb dL_law_593 ?_
  refine lv_topl (fun fs1 efs1 => ?_)
  refine q_vi (As := [.int ((xs (1 : Int32).toNatClampNeg)), .long fs1]) (rest := []) ⟨hx, hb, hml, hown, hts⟩ (c_X8_drop0 l D g m_x e_x ) (cwV 2 hts gL_law_X8_drop rfl rfl rfl (by decide +kernel) ⟨Nat.le_of_ble_eq_true rfl, Nat.le_of_ble_eq_true rfl⟩) S m_x e_x (T := TX8) (N := 8) rfl rfl hl.1 rfl (Nat.le_of_ble_eq_true rfl) dL_law_594 ⟨Nat.le_of_ble_eq_true rfl, Nat.le_of_ble_eq_true rfl⟩ (fun r3 L1 f2 H locs S w594 => ?_)
  obtain ⟨ex1, eL1, ef1⟩ := w594
  rw [eL1, ef1] at S
  refine lv_aload_n hx hb dL_law_597 rfl (lv_at hl 1 rfl) ?_
  refine lv_aload_n hx hb dL_law_598 rfl (lv_at hl 3 rfl) ?_
  refine lv_iload_n hx hb dL_law_599 rfl (lv_at hl 0 rfl) ?_
  refine lv_iconst (v := 1) hx hb dL_law_600 (by decide) ?_
  refine lv_iadd hx hb dL_law_601 ?_
  refine lv_topi (fun t_ et_ => ?_)
  obtain rfl : t_ = 1 := et_.trans (by decide)
  refine va_sld hx hb hX hbl (Nat.not_le.mpr hbl) S.2.2.2.1 (vp_in_nI (n := 1) (by omega) (by decide)) dL_law_602 ?_
  refine lv_aload_n hx hb dL_law_603 rfl (lv_at hl 3 rfl) ?_
  refine lv_iload_n hx hb dL_law_604 rfl (lv_at hl 0 rfl) ?_
  refine lv_iconst (v := 2) hx hb dL_law_605 (by decide) ?_
  refine lv_iadd hx hb dL_law_606 ?_
  refine lv_topi (fun t_ et_ => ?_)
  obtain rfl : t_ = 2 := et_.trans (by decide)
  refine va_sld hx hb hX hbl (Nat.not_le.mpr hbl) S.2.2.2.1 (vp_in_nI (n := 2) (by omega) (by decide)) dL_law_607 ?_
  refine lv_i2l hx hb dL_law_608 rfl ?_
  refine lv_bipush (v := 32) hx hb dL_law_609 (by decide) ?_
  refine lv_lshl hx hb dL_law_611 rfl ?_
  refine lv_aload_n hx hb dL_law_612 rfl (lv_at hl 3 rfl) ?_
  refine lv_iload_n hx hb dL_law_613 rfl (lv_at hl 0 rfl) ?_
  refine lv_iconst (v := 3) hx hb dL_law_614 (by decide) ?_
  refine lv_iadd hx hb dL_law_615 ?_
  refine lv_topi (fun t_ et_ => ?_)
  obtain rfl : t_ = 3 := et_.trans (by decide)
  refine va_sld hx hb hX hbl (Nat.not_le.mpr hbl) S.2.2.2.1 (vp_in_nI (n := 3) (by omega) (by decide)) dL_law_616 ?_
  refine lv_i2l hx hb dL_law_617 rfl ?_
  refine lv_ldc2 (v := (4294967295)) hx hb hown (hts (.constantLong RL 13 (4294967295)) (by decide +kernel)) dL_law_618 ?_
  refine lv_land hx hb dL_law_621 ?_
  refine lv_lor hx hb dL_law_622 ?_
  refine lv_topl (fun fs2 efs2 => ?_)
  obtain rfl : fs1 = fs2 := efs1.trans efs2.symm
  refine q_vi (As := [.int ((xs (1 : Int32).toNatClampNeg)), .long fs1]) (rest := [.int r3]) ⟨hx, hb, hml, hown, hts⟩ (c_X9_drop0 l D g m_y e_y ) (cwV 2 hts gL_law_X9_drop rfl rfl rfl (by decide +kernel) ⟨Nat.le_of_ble_eq_true rfl, Nat.le_of_ble_eq_true rfl⟩) S m_y e_y (T := TX9) (N := 23) rfl rfl hl.1 rfl (Nat.le_of_ble_eq_true rfl) dL_law_623 ⟨Nat.le_of_ble_eq_true rfl, Nat.le_of_ble_eq_true rfl⟩ (fun r6 L4 f5 H locs S w623 => ?_)
  have ex2 := w623.1
  refine lv_icmp_eq (tgt := 1121) hx hb dL_law_626 (by decide) (fun b626 => ?_) (fun b626 => absurd (ex1.trans ex2.symm) b626)
  obtain ⟨i1, ei1⟩ : ∃ y : Int32, y = 0 + 6 := ⟨_, rfl⟩
  refine lv_iinc (v := i1) (lv' := [(3, .int i1), (2, .ref y), (1, .ref x), (0, .ref bs)]) hx hb dL_law_1121 hl (k := 0) rfl (by rw [ei1]; rfl) (by decide) rfl (fun ls hl => ?_)
  refine lv_goto (tgt := 18) hx hb dL_law_1124 (by decide) ?_
  refine lv_iload_n hx hb dL_law_18 rfl (lv_at hl 0 rfl) ?_
  refine lv_aload_n hx hb dL_law_19 rfl (lv_at hl 3 rfl) ?_
  refine va_slen hx hb hX hbl (Nat.not_le.mpr hbl) S.2.2.2.1 dL_law_20 ?_
  refine lv_bipush (v := 6) hx hb dL_law_21 (by decide) ?_
  refine lv_isub hx hb dL_law_23 ?_
  refine lv_icmp_gt (tgt := 1127) hx hb dL_law_24 (by decide) (fun b24 => ?_) (fun b24 => absurd (by rw [ei1]; decide) b24)
  refine lv_iconst (v := 1) hx hb dL_law_1127 (by decide) ?_
  refine va_forget (fun q hq => S.2.2.2.1.2.2 q hq) ?_
  refine W.widen (k := 600000) (n := 7302250) (by decide) (by decide) ?_
  exact lw_ret hx hb hr hlk dL_law_1128

set_option maxHeartbeats 4000000 in
set_option maxRecDepth 100000 in
theorem law_10 {p : Program} {l : Launch} {e : Env} {s : State} {m : MethodId} {below : List Frame} {meth : Method} {c : Code} {bs : Nat} {xs : Nat → Int32} {D : va_G} {g : Nat → ClassId} {Lx L : List Nat} {f : Nat → va_E} {H : Heap} {locs : List Loc} {ls : Array Slot} {x wo Sl dr drr ri rir th thr so pa ta la ba si tt tp sw ch im rm bo bw y y0 y1 y2 y3 y4 y5 y6 y7 y8 y9 y10 y11 y12 y13 y15 y16 y17 y18 y19 y20 y21 y22 : Nat} {wf sf : Nat → Option Nat} {vd vs vs2 : Nat → Int64} {vl vb : Nat → Int32} {v_worlds : Nat → Int64} {v_inWorld : Nat → Int32} {v_kind : Nat → Int32} {v_size : Nat → Int32} {v_marks : Nat → Int32} {v_seed : Nat → Int32} {v_contents : Nat → Int64} {v_contentMany : Nat → Int32} {v_row : Nat → Int32} {v_bits : Nat → Int32} {v_layerSize : Nat → Int32} {v_layerCame : Nat → Int32} {v_rest : Nat → Int64} {v_restMany : Nat → Int32} {v_come : Nat → Int64} {v_rivals : Nat → Int64} {v_gone : Nat → Int64} {v_order : Nat → Int32} {v_offAt : Nat → Int32} {v_isOff : Nat → Int32} {v_alone : Nat → Int32} {v_kept : Nat → Int32} (hx : p.tables.exec = Jvm.exec) (hb : c.code = cL_law) (hr : meth.sig.returnType = ret) (hml : c.maxLocals = 4) (hown : s.vm.findClass RL = some m.cls) (hts : ∀ w ∈ wsL_law, w.before #[Value.ref bs] s = true) (hX : va_X bs 6 xs s s.heap) (hbl : bs < s.heap.size) (hlk : meth.locks = false) (S : PS D g (fun q : Nat => s.heap.size ≤ q) s.heap s L f H locs) (hl : lv_has ls 4 [(3, .int 0), (2, .ref y), (1, .ref x), (0, .ref bs)]) (m_x : x ∈ L) (e_x : f x = .inr (6, [.ref wo, .ref Sl, .ref dr, .ref ri, .ref th, .ref so, .ref ch, .int 0])) (m_wo : wo ∈ L) (e_wo : f wo = .inl (g 3, 8, .inr (.inr (.inr (.inr wf))))) (m_Sl : Sl ∈ L) (e_Sl : f Sl = .inl (g 5, 30, .inr (.inr (.inr (.inr sf))))) (m_dr : dr ∈ L) (e_dr : f dr = .inr (0, [.ref drr, .int ((nI 0))])) (m_drr : drr ∈ L) (e_drr : f drr = .inl (g 1, 1000, .inr (.inl vd))) (m_ri : ri ∈ L) (e_ri : f ri = .inr (0, [.ref rir, .int ((nI 0))])) (m_th : th ∈ L) (e_th : f th = .inr (0, [.ref thr, .int ((nI 0))])) (m_so : so ∈ L) (e_so : f so = .inr (5, [.ref pa, .ref ta, .ref la, .ref ba, .ref si, .ref tt, .ref tp, .int 0, .int 0])) (m_la : la ∈ L) (e_la : f la = .inl (g 0, 3774, .inl vl)) (m_ba : ba ∈ L) (e_ba : f ba = .inl (g 0, 3774, .inl vb)) (m_si : si ∈ L) (e_si : f si = .inr (1, [.ref sw, .int ((nI 0))])) (m_sw : sw ∈ L) (e_sw : f sw = .inl (g 1, 64, .inr (.inl vs))) (m_ch : ch ∈ L) (e_ch : f ch = .inr (2, [.ref im, .ref rm, .ref bo, .int 0, .int 0])) (m_bo : bo ∈ L) (e_bo : f bo = .inr (1, [.ref bw, .int ((nI 0))])) (m_bw : bw ∈ L) (e_bw : f bw = .inl (g 1, 64, .inr (.inl vs2))) (m_y : y ∈ L) (e_y : f y = .inr (7, [.ref y0, .ref y1, .ref y2, .ref y3, .ref y4, .ref y5, .ref y6, .ref y7, .ref y8, .ref y9, .ref y10, .ref y11, .ref y12, .ref y13, .int 0, .ref y15, .ref y16, .ref y17, .ref y18, .ref y19, .ref y20, .ref y21, .ref y22])) (m_y0 : y0 ∈ L) (e_y0 : f y0 = .inl (g 1, 8000, .inr (.inl v_worlds))) (m_y1 : y1 ∈ L) (e_y1 : f y1 = .inl (g 0, 8, .inl v_inWorld)) (m_y2 : y2 ∈ L) (e_y2 : f y2 = .inl (g 0, 30, .inl v_kind)) (m_y3 : y3 ∈ L) (e_y3 : f y3 = .inl (g 0, 30, .inl v_size)) (m_y4 : y4 ∈ L) (e_y4 : f y4 = .inl (g 0, 30, .inl v_marks)) (m_y5 : y5 ∈ L) (e_y5 : f y5 = .inl (g 0, 30, .inl v_seed)) (m_y6 : y6 ∈ L) (e_y6 : f y6 = .inl (g 1, 30000, .inr (.inl v_contents))) (m_y7 : y7 ∈ L) (e_y7 : f y7 = .inl (g 0, 30, .inl v_contentMany)) (m_y8 : y8 ∈ L) (e_y8 : f y8 = .inl (g 0, 122880, .inl v_row)) (m_y9 : y9 ∈ L) (e_y9 : f y9 = .inl (g 0, 76800, .inl v_bits)) (m_y10 : y10 ∈ L) (e_y10 : f y10 = .inl (g 0, 600, .inl v_layerSize)) (m_y11 : y11 ∈ L) (e_y11 : f y11 = .inl (g 0, 600, .inl v_layerCame)) (m_y12 : y12 ∈ L) (e_y12 : f y12 = .inl (g 1, 30000, .inr (.inl v_rest))) (m_y13 : y13 ∈ L) (e_y13 : f y13 = .inl (g 0, 30, .inl v_restMany)) (m_y15 : y15 ∈ L) (e_y15 : f y15 = .inl (g 1, 1000, .inr (.inl v_come))) (m_y16 : y16 ∈ L) (e_y16 : f y16 = .inl (g 1, 1000, .inr (.inl v_rivals))) (m_y17 : y17 ∈ L) (e_y17 : f y17 = .inl (g 1, 1000, .inr (.inl v_gone))) (m_y18 : y18 ∈ L) (e_y18 : f y18 = .inl (g 0, 1000, .inl v_order)) (m_y19 : y19 ∈ L) (e_y19 : f y19 = .inl (g 0, 1000, .inl v_offAt)) (m_y20 : y20 ∈ L) (e_y20 : f y20 = .inl (g 2, 1000, .inl v_isOff)) (m_y21 : y21 ∈ L) (e_y21 : f y21 = .inl (g 0, 4096, .inl v_alone)) (m_y22 : y22 ∈ L) (e_y22 : f y22 = .inl (g 0, 4096, .inl v_kept)) (hs0 : sf 0 = none) (n_ri_dr : ri ≠ dr) (n_th_dr : th ≠ dr) (n_th_ri : th ≠ ri) (n_ba_la : ba ≠ la) (hW2 : ∀ j, j < 8 → ∃ b rb : Nat, ∃ vb : Nat → Int64, wf j = some b ∧ b ∈ L ∧ f b = .inr (0, [.ref rb, .int (nI 0)]) ∧ rb ∈ L ∧ f rb = .inl (g 1, 1000, .inr (.inl vb)) ∧ b ≠ dr ∧ b ≠ ri ∧ b ≠ th ∧ rb ≠ drr ∧ b ∈ Lx ∧ rb ∈ Lx) (hI : ∀ j, j < 8 → v_inWorld j = 0) (hnd : [y, y0, y1, y2, y3, y4, y5, y6, y7, y8, y9, y10, y11, y12, y13, y15, y16, y17, y18, y19, y20, y21, y22].Nodup) (lx_x : x ∈ Lx) (lx_Sl : Sl ∈ Lx) (lx_dr : dr ∈ Lx) (lx_drr : drr ∈ Lx) (lx_ri : ri ∈ Lx) (lx_th : th ∈ Lx) (lx_so : so ∈ Lx) (lx_la : la ∈ Lx) (lx_ba : ba ∈ Lx) (lx_si : si ∈ Lx) (lx_sw : sw ∈ Lx) (lx_ch : ch ∈ Lx) (lx_bo : bo ∈ Lx) (lx_bw : bw ∈ Lx) (nx_y : y ∉ Lx) (nx_y0 : y0 ∉ Lx) (nx_y1 : y1 ∉ Lx) (nx_y2 : y2 ∉ Lx) (nx_y3 : y3 ∉ Lx) (nx_y4 : y4 ∉ Lx) (nx_y5 : y5 ∉ Lx) (nx_y6 : y6 ∉ Lx) (nx_y7 : y7 ∉ Lx) (nx_y8 : y8 ∉ Lx) (nx_y9 : y9 ∉ Lx) (nx_y10 : y10 ∉ Lx) (nx_y11 : y11 ∉ Lx) (nx_y12 : y12 ∉ Lx) (nx_y13 : y13 ∉ Lx) (nx_y15 : y15 ∉ Lx) (nx_y16 : y16 ∉ Lx) (nx_y17 : y17 ∉ Lx) (nx_y18 : y18 ∉ Lx) (nx_y19 : y19 ∉ Lx) (nx_y20 : y20 ∉ Lx) (nx_y21 : y21 ∉ Lx) (nx_y22 : y22 ∉ Lx) : W p l e room_1 s m #[Value.ref bs] below meth c H locs 62 310045 (lw_Z below #[Value.ref bs] s) (F0 m 631 ls []) := by
  have hW : ∀ j, j < 8 → ∃ b rb : Nat, ∃ vb : Nat → Int64, wf j = some b ∧ b ∈ L ∧ f b = .inr (0, [.ref rb, .int (nI 0)]) ∧ rb ∈ L ∧ f rb = .inl (g 1, 1000, .inr (.inl vb)) ∧ b ≠ dr ∧ b ≠ ri ∧ b ≠ th := fun j hj => by obtain ⟨b, rb, vb, h1, h2, h3, h4, h5, h6, h7, h8, -⟩ := hW2 j hj; exact ⟨b, rb, vb, h1, h2, h3, h4, h5, h6, h7, h8⟩
  refine lv_aload_n hx hb dL_law_631 rfl (lv_at hl 2 rfl) ?_
  refine lv_aload_n hx hb dL_law_632 rfl (lv_at hl 3 rfl) ?_
  refine lv_iload_n hx hb dL_law_633 rfl (lv_at hl 0 rfl) ?_
  refine lv_iconst (v := 1) hx hb dL_law_634 (by decide) ?_
  refine lv_iadd hx hb dL_law_635 ?_
  refine lv_topi (fun t_ et_ => ?_)
  obtain rfl : t_ = 1 := et_.trans (by decide)
  refine va_sld hx hb hX hbl (Nat.not_le.mpr hbl) S.2.2.2.1 (vp_in_nI (n := 1) (by omega) (by decide)) dL_law_636 ?_
  refine lv_aload_n hx hb dL_law_637 rfl (lv_at hl 3 rfl) ?_
  refine lv_iload_n hx hb dL_law_638 rfl (lv_at hl 0 rfl) ?_
  refine lv_iconst (v := 2) hx hb dL_law_639 (by decide) ?_
  refine lv_iadd hx hb dL_law_640 ?_
  refine lv_topi (fun t_ et_ => ?_)
  obtain rfl : t_ = 2 := et_.trans (by decide)
  refine va_sld hx hb hX hbl (Nat.not_le.mpr hbl) S.2.2.2.1 (vp_in_nI (n := 2) (by omega) (by decide)) dL_law_641 ?_
  refine lv_i2l hx hb dL_law_642 rfl ?_
  refine lv_bipush (v := 32) hx hb dL_law_643 (by decide) ?_
  refine lv_lshl hx hb dL_law_645 rfl ?_
  refine lv_aload_n hx hb dL_law_646 rfl (lv_at hl 3 rfl) ?_
  refine lv_iload_n hx hb dL_law_647 rfl (lv_at hl 0 rfl) ?_
  refine lv_iconst (v := 3) hx hb dL_law_648 (by decide) ?_
  refine lv_iadd hx hb dL_law_649 ?_
  refine lv_topi (fun t_ et_ => ?_)
  obtain rfl : t_ = 3 := et_.trans (by decide)
  refine va_sld hx hb hX hbl (Nat.not_le.mpr hbl) S.2.2.2.1 (vp_in_nI (n := 3) (by omega) (by decide)) dL_law_650 ?_
  refine lv_i2l hx hb dL_law_651 rfl ?_
  refine lv_ldc2 (v := (4294967295)) hx hb hown (hts (.constantLong RL 13 (4294967295)) (by decide +kernel)) dL_law_652 ?_
  refine lv_land hx hb dL_law_655 ?_
  refine lv_lor hx hb dL_law_656 ?_
  refine lv_topl (fun fs1 efs1 => ?_)
  refine q_vi (As := [.int ((xs (1 : Int32).toNatClampNeg)), .long fs1]) (rest := []) ⟨hx, hb, hml, hown, hts⟩ (c_X8_lets0 l D g m_x e_x ) (cwV 2 hts gL_law_X8_lets rfl rfl rfl (by decide +kernel) ⟨Nat.le_of_ble_eq_true rfl, Nat.le_of_ble_eq_true rfl⟩) S m_x e_x (T := TX8) (N := 8) rfl rfl hl.1 rfl (Nat.le_of_ble_eq_true rfl) dL_law_657 ⟨Nat.le_of_ble_eq_true rfl, Nat.le_of_ble_eq_true rfl⟩ (fun r3 L1 f2 H locs S w657 => ?_)
  obtain ⟨ex1, eL1, ef1⟩ := w657
  rw [eL1, ef1] at S
  refine lv_aload_n hx hb dL_law_660 rfl (lv_at hl 1 rfl) ?_
  refine lv_aload_n hx hb dL_law_661 rfl (lv_at hl 3 rfl) ?_
  refine lv_iload_n hx hb dL_law_662 rfl (lv_at hl 0 rfl) ?_
  refine lv_iconst (v := 1) hx hb dL_law_663 (by decide) ?_
  refine lv_iadd hx hb dL_law_664 ?_
  refine lv_topi (fun t_ et_ => ?_)
  obtain rfl : t_ = 1 := et_.trans (by decide)
  refine va_sld hx hb hX hbl (Nat.not_le.mpr hbl) S.2.2.2.1 (vp_in_nI (n := 1) (by omega) (by decide)) dL_law_665 ?_
  refine lv_aload_n hx hb dL_law_666 rfl (lv_at hl 3 rfl) ?_
  refine lv_iload_n hx hb dL_law_667 rfl (lv_at hl 0 rfl) ?_
  refine lv_iconst (v := 2) hx hb dL_law_668 (by decide) ?_
  refine lv_iadd hx hb dL_law_669 ?_
  refine lv_topi (fun t_ et_ => ?_)
  obtain rfl : t_ = 2 := et_.trans (by decide)
  refine va_sld hx hb hX hbl (Nat.not_le.mpr hbl) S.2.2.2.1 (vp_in_nI (n := 2) (by omega) (by decide)) dL_law_670 ?_
  refine lv_i2l hx hb dL_law_671 rfl ?_
  refine lv_bipush (v := 32) hx hb dL_law_672 (by decide) ?_
  refine lv_lshl hx hb dL_law_674 rfl ?_
  refine lv_aload_n hx hb dL_law_675 rfl (lv_at hl 3 rfl) ?_
  refine lv_iload_n hx hb dL_law_676 rfl (lv_at hl 0 rfl) ?_
  refine lv_iconst (v := 3) hx hb dL_law_677 (by decide) ?_
  refine lv_iadd hx hb dL_law_678 ?_
  refine lv_topi (fun t_ et_ => ?_)
  obtain rfl : t_ = 3 := et_.trans (by decide)
  refine va_sld hx hb hX hbl (Nat.not_le.mpr hbl) S.2.2.2.1 (vp_in_nI (n := 3) (by omega) (by decide)) dL_law_679 ?_
  refine lv_i2l hx hb dL_law_680 rfl ?_
  refine lv_ldc2 (v := (4294967295)) hx hb hown (hts (.constantLong RL 13 (4294967295)) (by decide +kernel)) dL_law_681 ?_
  refine lv_land hx hb dL_law_684 ?_
  refine lv_lor hx hb dL_law_685 ?_
  refine lv_topl (fun fs2 efs2 => ?_)
  obtain rfl : fs1 = fs2 := efs1.trans efs2.symm
  refine q_vi (As := [.int ((xs (1 : Int32).toNatClampNeg)), .long fs1]) (rest := [.int r3]) ⟨hx, hb, hml, hown, hts⟩ (c_X9_lets0 l D g m_y e_y ) (cwV 2 hts gL_law_X9_lets rfl rfl rfl (by decide +kernel) ⟨Nat.le_of_ble_eq_true rfl, Nat.le_of_ble_eq_true rfl⟩) S m_y e_y (T := TX9) (N := 23) rfl rfl hl.1 rfl (Nat.le_of_ble_eq_true rfl) dL_law_686 ⟨Nat.le_of_ble_eq_true rfl, Nat.le_of_ble_eq_true rfl⟩ (fun r6 L4 f5 H locs S w686 => ?_)
  have ex2 := w686.1
  refine lv_icmp_eq (tgt := 1121) hx hb dL_law_689 (by decide) (fun b689 => ?_) (fun b689 => absurd (ex1.trans ex2.symm) b689)
  obtain ⟨i1, ei1⟩ : ∃ y : Int32, y = 0 + 6 := ⟨_, rfl⟩
  refine lv_iinc (v := i1) (lv' := [(3, .int i1), (2, .ref y), (1, .ref x), (0, .ref bs)]) hx hb dL_law_1121 hl (k := 0) rfl (by rw [ei1]; rfl) (by decide) rfl (fun ls hl => ?_)
  refine lv_goto (tgt := 18) hx hb dL_law_1124 (by decide) ?_
  refine lv_iload_n hx hb dL_law_18 rfl (lv_at hl 0 rfl) ?_
  refine lv_aload_n hx hb dL_law_19 rfl (lv_at hl 3 rfl) ?_
  refine va_slen hx hb hX hbl (Nat.not_le.mpr hbl) S.2.2.2.1 dL_law_20 ?_
  refine lv_bipush (v := 6) hx hb dL_law_21 (by decide) ?_
  refine lv_isub hx hb dL_law_23 ?_
  refine lv_icmp_gt (tgt := 1127) hx hb dL_law_24 (by decide) (fun b24 => ?_) (fun b24 => absurd (by rw [ei1]; decide) b24)
  refine lv_iconst (v := 1) hx hb dL_law_1127 (by decide) ?_
  refine va_forget (fun q hq => S.2.2.2.1.2.2 q hq) ?_
  refine W.widen (k := 600000) (n := 7302250) (by decide) (by decide) ?_
  exact lw_ret hx hb hr hlk dL_law_1128

set_option maxHeartbeats 4000000 in
set_option maxRecDepth 100000 in
theorem law_11 {p : Program} {l : Launch} {e : Env} {s : State} {m : MethodId} {below : List Frame} {meth : Method} {c : Code} {bs : Nat} {xs : Nat → Int32} {D : va_G} {g : Nat → ClassId} {Lx L : List Nat} {f : Nat → va_E} {H : Heap} {locs : List Loc} {ls : Array Slot} {x wo Sl dr drr ri rir th thr so pa ta la ba si tt tp sw ch im rm bo bw y y0 y1 y2 y3 y4 y5 y6 y7 y8 y9 y10 y11 y12 y13 y15 y16 y17 y18 y19 y20 y21 y22 : Nat} {wf sf : Nat → Option Nat} {vd vs vs2 : Nat → Int64} {vl vb : Nat → Int32} {v_worlds : Nat → Int64} {v_inWorld : Nat → Int32} {v_kind : Nat → Int32} {v_size : Nat → Int32} {v_marks : Nat → Int32} {v_seed : Nat → Int32} {v_contents : Nat → Int64} {v_contentMany : Nat → Int32} {v_row : Nat → Int32} {v_bits : Nat → Int32} {v_layerSize : Nat → Int32} {v_layerCame : Nat → Int32} {v_rest : Nat → Int64} {v_restMany : Nat → Int32} {v_come : Nat → Int64} {v_rivals : Nat → Int64} {v_gone : Nat → Int64} {v_order : Nat → Int32} {v_offAt : Nat → Int32} {v_isOff : Nat → Int32} {v_alone : Nat → Int32} {v_kept : Nat → Int32} (hx : p.tables.exec = Jvm.exec) (hb : c.code = cL_law) (hr : meth.sig.returnType = ret) (hml : c.maxLocals = 4) (hown : s.vm.findClass RL = some m.cls) (hts : ∀ w ∈ wsL_law, w.before #[Value.ref bs] s = true) (hX : va_X bs 6 xs s s.heap) (hbl : bs < s.heap.size) (hlk : meth.locks = false) (S : PS D g (fun q : Nat => s.heap.size ≤ q) s.heap s L f H locs) (hl : lv_has ls 4 [(3, .int 0), (2, .ref y), (1, .ref x), (0, .ref bs)]) (m_x : x ∈ L) (e_x : f x = .inr (6, [.ref wo, .ref Sl, .ref dr, .ref ri, .ref th, .ref so, .ref ch, .int 0])) (m_wo : wo ∈ L) (e_wo : f wo = .inl (g 3, 8, .inr (.inr (.inr (.inr wf))))) (m_Sl : Sl ∈ L) (e_Sl : f Sl = .inl (g 5, 30, .inr (.inr (.inr (.inr sf))))) (m_dr : dr ∈ L) (e_dr : f dr = .inr (0, [.ref drr, .int ((nI 0))])) (m_drr : drr ∈ L) (e_drr : f drr = .inl (g 1, 1000, .inr (.inl vd))) (m_ri : ri ∈ L) (e_ri : f ri = .inr (0, [.ref rir, .int ((nI 0))])) (m_th : th ∈ L) (e_th : f th = .inr (0, [.ref thr, .int ((nI 0))])) (m_so : so ∈ L) (e_so : f so = .inr (5, [.ref pa, .ref ta, .ref la, .ref ba, .ref si, .ref tt, .ref tp, .int 0, .int 0])) (m_la : la ∈ L) (e_la : f la = .inl (g 0, 3774, .inl vl)) (m_ba : ba ∈ L) (e_ba : f ba = .inl (g 0, 3774, .inl vb)) (m_si : si ∈ L) (e_si : f si = .inr (1, [.ref sw, .int ((nI 0))])) (m_sw : sw ∈ L) (e_sw : f sw = .inl (g 1, 64, .inr (.inl vs))) (m_ch : ch ∈ L) (e_ch : f ch = .inr (2, [.ref im, .ref rm, .ref bo, .int 0, .int 0])) (m_bo : bo ∈ L) (e_bo : f bo = .inr (1, [.ref bw, .int ((nI 0))])) (m_bw : bw ∈ L) (e_bw : f bw = .inl (g 1, 64, .inr (.inl vs2))) (m_y : y ∈ L) (e_y : f y = .inr (7, [.ref y0, .ref y1, .ref y2, .ref y3, .ref y4, .ref y5, .ref y6, .ref y7, .ref y8, .ref y9, .ref y10, .ref y11, .ref y12, .ref y13, .int 0, .ref y15, .ref y16, .ref y17, .ref y18, .ref y19, .ref y20, .ref y21, .ref y22])) (m_y0 : y0 ∈ L) (e_y0 : f y0 = .inl (g 1, 8000, .inr (.inl v_worlds))) (m_y1 : y1 ∈ L) (e_y1 : f y1 = .inl (g 0, 8, .inl v_inWorld)) (m_y2 : y2 ∈ L) (e_y2 : f y2 = .inl (g 0, 30, .inl v_kind)) (m_y3 : y3 ∈ L) (e_y3 : f y3 = .inl (g 0, 30, .inl v_size)) (m_y4 : y4 ∈ L) (e_y4 : f y4 = .inl (g 0, 30, .inl v_marks)) (m_y5 : y5 ∈ L) (e_y5 : f y5 = .inl (g 0, 30, .inl v_seed)) (m_y6 : y6 ∈ L) (e_y6 : f y6 = .inl (g 1, 30000, .inr (.inl v_contents))) (m_y7 : y7 ∈ L) (e_y7 : f y7 = .inl (g 0, 30, .inl v_contentMany)) (m_y8 : y8 ∈ L) (e_y8 : f y8 = .inl (g 0, 122880, .inl v_row)) (m_y9 : y9 ∈ L) (e_y9 : f y9 = .inl (g 0, 76800, .inl v_bits)) (m_y10 : y10 ∈ L) (e_y10 : f y10 = .inl (g 0, 600, .inl v_layerSize)) (m_y11 : y11 ∈ L) (e_y11 : f y11 = .inl (g 0, 600, .inl v_layerCame)) (m_y12 : y12 ∈ L) (e_y12 : f y12 = .inl (g 1, 30000, .inr (.inl v_rest))) (m_y13 : y13 ∈ L) (e_y13 : f y13 = .inl (g 0, 30, .inl v_restMany)) (m_y15 : y15 ∈ L) (e_y15 : f y15 = .inl (g 1, 1000, .inr (.inl v_come))) (m_y16 : y16 ∈ L) (e_y16 : f y16 = .inl (g 1, 1000, .inr (.inl v_rivals))) (m_y17 : y17 ∈ L) (e_y17 : f y17 = .inl (g 1, 1000, .inr (.inl v_gone))) (m_y18 : y18 ∈ L) (e_y18 : f y18 = .inl (g 0, 1000, .inl v_order)) (m_y19 : y19 ∈ L) (e_y19 : f y19 = .inl (g 0, 1000, .inl v_offAt)) (m_y20 : y20 ∈ L) (e_y20 : f y20 = .inl (g 2, 1000, .inl v_isOff)) (m_y21 : y21 ∈ L) (e_y21 : f y21 = .inl (g 0, 4096, .inl v_alone)) (m_y22 : y22 ∈ L) (e_y22 : f y22 = .inl (g 0, 4096, .inl v_kept)) (hs0 : sf 0 = none) (n_ri_dr : ri ≠ dr) (n_th_dr : th ≠ dr) (n_th_ri : th ≠ ri) (n_ba_la : ba ≠ la) (hW2 : ∀ j, j < 8 → ∃ b rb : Nat, ∃ vb : Nat → Int64, wf j = some b ∧ b ∈ L ∧ f b = .inr (0, [.ref rb, .int (nI 0)]) ∧ rb ∈ L ∧ f rb = .inl (g 1, 1000, .inr (.inl vb)) ∧ b ≠ dr ∧ b ≠ ri ∧ b ≠ th ∧ rb ≠ drr ∧ b ∈ Lx ∧ rb ∈ Lx) (hI : ∀ j, j < 8 → v_inWorld j = 0) (hnd : [y, y0, y1, y2, y3, y4, y5, y6, y7, y8, y9, y10, y11, y12, y13, y15, y16, y17, y18, y19, y20, y21, y22].Nodup) (lx_x : x ∈ Lx) (lx_Sl : Sl ∈ Lx) (lx_dr : dr ∈ Lx) (lx_drr : drr ∈ Lx) (lx_ri : ri ∈ Lx) (lx_th : th ∈ Lx) (lx_so : so ∈ Lx) (lx_la : la ∈ Lx) (lx_ba : ba ∈ Lx) (lx_si : si ∈ Lx) (lx_sw : sw ∈ Lx) (lx_ch : ch ∈ Lx) (lx_bo : bo ∈ Lx) (lx_bw : bw ∈ Lx) (nx_y : y ∉ Lx) (nx_y0 : y0 ∉ Lx) (nx_y1 : y1 ∉ Lx) (nx_y2 : y2 ∉ Lx) (nx_y3 : y3 ∉ Lx) (nx_y4 : y4 ∉ Lx) (nx_y5 : y5 ∉ Lx) (nx_y6 : y6 ∉ Lx) (nx_y7 : y7 ∉ Lx) (nx_y8 : y8 ∉ Lx) (nx_y9 : y9 ∉ Lx) (nx_y10 : y10 ∉ Lx) (nx_y11 : y11 ∉ Lx) (nx_y12 : y12 ∉ Lx) (nx_y13 : y13 ∉ Lx) (nx_y15 : y15 ∉ Lx) (nx_y16 : y16 ∉ Lx) (nx_y17 : y17 ∉ Lx) (nx_y18 : y18 ∉ Lx) (nx_y19 : y19 ∉ Lx) (nx_y20 : y20 ∉ Lx) (nx_y21 : y21 ∉ Lx) (nx_y22 : y22 ∉ Lx) : W p l e room_1 s m #[Value.ref bs] below meth c H locs 62 310045 (lw_Z below #[Value.ref bs] s) (F0 m 694 ls []) := by
  have hW : ∀ j, j < 8 → ∃ b rb : Nat, ∃ vb : Nat → Int64, wf j = some b ∧ b ∈ L ∧ f b = .inr (0, [.ref rb, .int (nI 0)]) ∧ rb ∈ L ∧ f rb = .inl (g 1, 1000, .inr (.inl vb)) ∧ b ≠ dr ∧ b ≠ ri ∧ b ≠ th := fun j hj => by obtain ⟨b, rb, vb, h1, h2, h3, h4, h5, h6, h7, h8, -⟩ := hW2 j hj; exact ⟨b, rb, vb, h1, h2, h3, h4, h5, h6, h7, h8⟩
  refine lv_aload_n hx hb dL_law_694 rfl (lv_at hl 2 rfl) ?_
  refine lv_aload_n hx hb dL_law_695 rfl (lv_at hl 3 rfl) ?_
  refine lv_iload_n hx hb dL_law_696 rfl (lv_at hl 0 rfl) ?_
  refine lv_iconst (v := 1) hx hb dL_law_697 (by decide) ?_
  refine lv_iadd hx hb dL_law_698 ?_
  refine lv_topi (fun t_ et_ => ?_)
  obtain rfl : t_ = 1 := et_.trans (by decide)
  refine va_sld hx hb hX hbl (Nat.not_le.mpr hbl) S.2.2.2.1 (vp_in_nI (n := 1) (by omega) (by decide)) dL_law_699 ?_
  refine lv_aload_n hx hb dL_law_700 rfl (lv_at hl 3 rfl) ?_
  refine lv_iload_n hx hb dL_law_701 rfl (lv_at hl 0 rfl) ?_
  refine lv_iconst (v := 2) hx hb dL_law_702 (by decide) ?_
  refine lv_iadd hx hb dL_law_703 ?_
  refine lv_topi (fun t_ et_ => ?_)
  obtain rfl : t_ = 2 := et_.trans (by decide)
  refine va_sld hx hb hX hbl (Nat.not_le.mpr hbl) S.2.2.2.1 (vp_in_nI (n := 2) (by omega) (by decide)) dL_law_704 ?_
  refine q_vi (As := [.int ((xs (1 : Int32).toNatClampNeg)), .int ((xs (2 : Int32).toNatClampNeg))]) (rest := []) ⟨hx, hb, hml, hown, hts⟩ (c_X8_falses0 l D g m_x e_x m_wo e_wo hW) (cwV 2 hts gL_law_X8_falses rfl rfl rfl (by decide +kernel) ⟨Nat.le_of_ble_eq_true rfl, Nat.le_of_ble_eq_true rfl⟩) S m_x e_x (T := TX8) (N := 8) rfl rfl hl.1 rfl (Nat.le_of_ble_eq_true rfl) dL_law_705 ⟨Nat.le_of_ble_eq_true rfl, Nat.le_of_ble_eq_true rfl⟩ (fun r3 L1 f2 H locs S w705 => ?_)
  obtain ⟨ex1, eL1, ef1⟩ := w705
  rw [eL1, ef1] at S
  refine lv_aload_n hx hb dL_law_708 rfl (lv_at hl 1 rfl) ?_
  refine lv_aload_n hx hb dL_law_709 rfl (lv_at hl 3 rfl) ?_
  refine lv_iload_n hx hb dL_law_710 rfl (lv_at hl 0 rfl) ?_
  refine lv_iconst (v := 1) hx hb dL_law_711 (by decide) ?_
  refine lv_iadd hx hb dL_law_712 ?_
  refine lv_topi (fun t_ et_ => ?_)
  obtain rfl : t_ = 1 := et_.trans (by decide)
  refine va_sld hx hb hX hbl (Nat.not_le.mpr hbl) S.2.2.2.1 (vp_in_nI (n := 1) (by omega) (by decide)) dL_law_713 ?_
  refine lv_aload_n hx hb dL_law_714 rfl (lv_at hl 3 rfl) ?_
  refine lv_iload_n hx hb dL_law_715 rfl (lv_at hl 0 rfl) ?_
  refine lv_iconst (v := 2) hx hb dL_law_716 (by decide) ?_
  refine lv_iadd hx hb dL_law_717 ?_
  refine lv_topi (fun t_ et_ => ?_)
  obtain rfl : t_ = 2 := et_.trans (by decide)
  refine va_sld hx hb hX hbl (Nat.not_le.mpr hbl) S.2.2.2.1 (vp_in_nI (n := 2) (by omega) (by decide)) dL_law_718 ?_
  refine q_vi (As := [.int ((xs (1 : Int32).toNatClampNeg)), .int ((xs (2 : Int32).toNatClampNeg))]) (rest := [.int r3]) ⟨hx, hb, hml, hown, hts⟩ (c_X9_falses0 l D g m_y e_y ) (cwV 2 hts gL_law_X9_falses rfl rfl rfl (by decide +kernel) ⟨Nat.le_of_ble_eq_true rfl, Nat.le_of_ble_eq_true rfl⟩) S m_y e_y (T := TX9) (N := 23) rfl rfl hl.1 rfl (Nat.le_of_ble_eq_true rfl) dL_law_719 ⟨Nat.le_of_ble_eq_true rfl, Nat.le_of_ble_eq_true rfl⟩ (fun r6 L4 f5 H locs S w719 => ?_)
  have ex2 := w719.1
  refine lv_icmp_eq (tgt := 1121) hx hb dL_law_722 (by decide) (fun b722 => ?_) (fun b722 => absurd (ex1.trans ex2.symm) b722)
  obtain ⟨i1, ei1⟩ : ∃ y : Int32, y = 0 + 6 := ⟨_, rfl⟩
  refine lv_iinc (v := i1) (lv' := [(3, .int i1), (2, .ref y), (1, .ref x), (0, .ref bs)]) hx hb dL_law_1121 hl (k := 0) rfl (by rw [ei1]; rfl) (by decide) rfl (fun ls hl => ?_)
  refine lv_goto (tgt := 18) hx hb dL_law_1124 (by decide) ?_
  refine lv_iload_n hx hb dL_law_18 rfl (lv_at hl 0 rfl) ?_
  refine lv_aload_n hx hb dL_law_19 rfl (lv_at hl 3 rfl) ?_
  refine va_slen hx hb hX hbl (Nat.not_le.mpr hbl) S.2.2.2.1 dL_law_20 ?_
  refine lv_bipush (v := 6) hx hb dL_law_21 (by decide) ?_
  refine lv_isub hx hb dL_law_23 ?_
  refine lv_icmp_gt (tgt := 1127) hx hb dL_law_24 (by decide) (fun b24 => ?_) (fun b24 => absurd (by rw [ei1]; decide) b24)
  refine lv_iconst (v := 1) hx hb dL_law_1127 (by decide) ?_
  refine va_forget (fun q hq => S.2.2.2.1.2.2 q hq) ?_
  refine W.widen (k := 600000) (n := 7302250) (by decide) (by decide) ?_
  exact lw_ret hx hb hr hlk dL_law_1128

set_option maxHeartbeats 4000000 in
set_option maxRecDepth 100000 in
theorem law_12 {p : Program} {l : Launch} {e : Env} {s : State} {m : MethodId} {below : List Frame} {meth : Method} {c : Code} {bs : Nat} {xs : Nat → Int32} {D : va_G} {g : Nat → ClassId} {Lx L : List Nat} {f : Nat → va_E} {H : Heap} {locs : List Loc} {ls : Array Slot} {x wo Sl dr drr ri rir th thr so pa ta la ba si tt tp sw ch im rm bo bw y y0 y1 y2 y3 y4 y5 y6 y7 y8 y9 y10 y11 y12 y13 y15 y16 y17 y18 y19 y20 y21 y22 : Nat} {wf sf : Nat → Option Nat} {vd vs vs2 : Nat → Int64} {vl vb : Nat → Int32} {v_worlds : Nat → Int64} {v_inWorld : Nat → Int32} {v_kind : Nat → Int32} {v_size : Nat → Int32} {v_marks : Nat → Int32} {v_seed : Nat → Int32} {v_contents : Nat → Int64} {v_contentMany : Nat → Int32} {v_row : Nat → Int32} {v_bits : Nat → Int32} {v_layerSize : Nat → Int32} {v_layerCame : Nat → Int32} {v_rest : Nat → Int64} {v_restMany : Nat → Int32} {v_come : Nat → Int64} {v_rivals : Nat → Int64} {v_gone : Nat → Int64} {v_order : Nat → Int32} {v_offAt : Nat → Int32} {v_isOff : Nat → Int32} {v_alone : Nat → Int32} {v_kept : Nat → Int32} (hx : p.tables.exec = Jvm.exec) (hb : c.code = cL_law) (hr : meth.sig.returnType = ret) (hml : c.maxLocals = 4) (hown : s.vm.findClass RL = some m.cls) (hts : ∀ w ∈ wsL_law, w.before #[Value.ref bs] s = true) (hX : va_X bs 6 xs s s.heap) (hbl : bs < s.heap.size) (hlk : meth.locks = false) (S : PS D g (fun q : Nat => s.heap.size ≤ q) s.heap s L f H locs) (hl : lv_has ls 4 [(3, .int 0), (2, .ref y), (1, .ref x), (0, .ref bs)]) (m_x : x ∈ L) (e_x : f x = .inr (6, [.ref wo, .ref Sl, .ref dr, .ref ri, .ref th, .ref so, .ref ch, .int 0])) (m_wo : wo ∈ L) (e_wo : f wo = .inl (g 3, 8, .inr (.inr (.inr (.inr wf))))) (m_Sl : Sl ∈ L) (e_Sl : f Sl = .inl (g 5, 30, .inr (.inr (.inr (.inr sf))))) (m_dr : dr ∈ L) (e_dr : f dr = .inr (0, [.ref drr, .int ((nI 0))])) (m_drr : drr ∈ L) (e_drr : f drr = .inl (g 1, 1000, .inr (.inl vd))) (m_ri : ri ∈ L) (e_ri : f ri = .inr (0, [.ref rir, .int ((nI 0))])) (m_th : th ∈ L) (e_th : f th = .inr (0, [.ref thr, .int ((nI 0))])) (m_so : so ∈ L) (e_so : f so = .inr (5, [.ref pa, .ref ta, .ref la, .ref ba, .ref si, .ref tt, .ref tp, .int 0, .int 0])) (m_la : la ∈ L) (e_la : f la = .inl (g 0, 3774, .inl vl)) (m_ba : ba ∈ L) (e_ba : f ba = .inl (g 0, 3774, .inl vb)) (m_si : si ∈ L) (e_si : f si = .inr (1, [.ref sw, .int ((nI 0))])) (m_sw : sw ∈ L) (e_sw : f sw = .inl (g 1, 64, .inr (.inl vs))) (m_ch : ch ∈ L) (e_ch : f ch = .inr (2, [.ref im, .ref rm, .ref bo, .int 0, .int 0])) (m_bo : bo ∈ L) (e_bo : f bo = .inr (1, [.ref bw, .int ((nI 0))])) (m_bw : bw ∈ L) (e_bw : f bw = .inl (g 1, 64, .inr (.inl vs2))) (m_y : y ∈ L) (e_y : f y = .inr (7, [.ref y0, .ref y1, .ref y2, .ref y3, .ref y4, .ref y5, .ref y6, .ref y7, .ref y8, .ref y9, .ref y10, .ref y11, .ref y12, .ref y13, .int 0, .ref y15, .ref y16, .ref y17, .ref y18, .ref y19, .ref y20, .ref y21, .ref y22])) (m_y0 : y0 ∈ L) (e_y0 : f y0 = .inl (g 1, 8000, .inr (.inl v_worlds))) (m_y1 : y1 ∈ L) (e_y1 : f y1 = .inl (g 0, 8, .inl v_inWorld)) (m_y2 : y2 ∈ L) (e_y2 : f y2 = .inl (g 0, 30, .inl v_kind)) (m_y3 : y3 ∈ L) (e_y3 : f y3 = .inl (g 0, 30, .inl v_size)) (m_y4 : y4 ∈ L) (e_y4 : f y4 = .inl (g 0, 30, .inl v_marks)) (m_y5 : y5 ∈ L) (e_y5 : f y5 = .inl (g 0, 30, .inl v_seed)) (m_y6 : y6 ∈ L) (e_y6 : f y6 = .inl (g 1, 30000, .inr (.inl v_contents))) (m_y7 : y7 ∈ L) (e_y7 : f y7 = .inl (g 0, 30, .inl v_contentMany)) (m_y8 : y8 ∈ L) (e_y8 : f y8 = .inl (g 0, 122880, .inl v_row)) (m_y9 : y9 ∈ L) (e_y9 : f y9 = .inl (g 0, 76800, .inl v_bits)) (m_y10 : y10 ∈ L) (e_y10 : f y10 = .inl (g 0, 600, .inl v_layerSize)) (m_y11 : y11 ∈ L) (e_y11 : f y11 = .inl (g 0, 600, .inl v_layerCame)) (m_y12 : y12 ∈ L) (e_y12 : f y12 = .inl (g 1, 30000, .inr (.inl v_rest))) (m_y13 : y13 ∈ L) (e_y13 : f y13 = .inl (g 0, 30, .inl v_restMany)) (m_y15 : y15 ∈ L) (e_y15 : f y15 = .inl (g 1, 1000, .inr (.inl v_come))) (m_y16 : y16 ∈ L) (e_y16 : f y16 = .inl (g 1, 1000, .inr (.inl v_rivals))) (m_y17 : y17 ∈ L) (e_y17 : f y17 = .inl (g 1, 1000, .inr (.inl v_gone))) (m_y18 : y18 ∈ L) (e_y18 : f y18 = .inl (g 0, 1000, .inl v_order)) (m_y19 : y19 ∈ L) (e_y19 : f y19 = .inl (g 0, 1000, .inl v_offAt)) (m_y20 : y20 ∈ L) (e_y20 : f y20 = .inl (g 2, 1000, .inl v_isOff)) (m_y21 : y21 ∈ L) (e_y21 : f y21 = .inl (g 0, 4096, .inl v_alone)) (m_y22 : y22 ∈ L) (e_y22 : f y22 = .inl (g 0, 4096, .inl v_kept)) (hs0 : sf 0 = none) (n_ri_dr : ri ≠ dr) (n_th_dr : th ≠ dr) (n_th_ri : th ≠ ri) (n_ba_la : ba ≠ la) (hW2 : ∀ j, j < 8 → ∃ b rb : Nat, ∃ vb : Nat → Int64, wf j = some b ∧ b ∈ L ∧ f b = .inr (0, [.ref rb, .int (nI 0)]) ∧ rb ∈ L ∧ f rb = .inl (g 1, 1000, .inr (.inl vb)) ∧ b ≠ dr ∧ b ≠ ri ∧ b ≠ th ∧ rb ≠ drr ∧ b ∈ Lx ∧ rb ∈ Lx) (hI : ∀ j, j < 8 → v_inWorld j = 0) (hnd : [y, y0, y1, y2, y3, y4, y5, y6, y7, y8, y9, y10, y11, y12, y13, y15, y16, y17, y18, y19, y20, y21, y22].Nodup) (lx_x : x ∈ Lx) (lx_Sl : Sl ∈ Lx) (lx_dr : dr ∈ Lx) (lx_drr : drr ∈ Lx) (lx_ri : ri ∈ Lx) (lx_th : th ∈ Lx) (lx_so : so ∈ Lx) (lx_la : la ∈ Lx) (lx_ba : ba ∈ Lx) (lx_si : si ∈ Lx) (lx_sw : sw ∈ Lx) (lx_ch : ch ∈ Lx) (lx_bo : bo ∈ Lx) (lx_bw : bw ∈ Lx) (nx_y : y ∉ Lx) (nx_y0 : y0 ∉ Lx) (nx_y1 : y1 ∉ Lx) (nx_y2 : y2 ∉ Lx) (nx_y3 : y3 ∉ Lx) (nx_y4 : y4 ∉ Lx) (nx_y5 : y5 ∉ Lx) (nx_y6 : y6 ∉ Lx) (nx_y7 : y7 ∉ Lx) (nx_y8 : y8 ∉ Lx) (nx_y9 : y9 ∉ Lx) (nx_y10 : y10 ∉ Lx) (nx_y11 : y11 ∉ Lx) (nx_y12 : y12 ∉ Lx) (nx_y13 : y13 ∉ Lx) (nx_y15 : y15 ∉ Lx) (nx_y16 : y16 ∉ Lx) (nx_y17 : y17 ∉ Lx) (nx_y18 : y18 ∉ Lx) (nx_y19 : y19 ∉ Lx) (nx_y20 : y20 ∉ Lx) (nx_y21 : y21 ∉ Lx) (nx_y22 : y22 ∉ Lx) : W p l e room_1 s m #[Value.ref bs] below meth c H locs 62 310045 (lw_Z below #[Value.ref bs] s) (F0 m 727 ls []) := by
  have hW : ∀ j, j < 8 → ∃ b rb : Nat, ∃ vb : Nat → Int64, wf j = some b ∧ b ∈ L ∧ f b = .inr (0, [.ref rb, .int (nI 0)]) ∧ rb ∈ L ∧ f rb = .inl (g 1, 1000, .inr (.inl vb)) ∧ b ≠ dr ∧ b ≠ ri ∧ b ≠ th := fun j hj => by obtain ⟨b, rb, vb, h1, h2, h3, h4, h5, h6, h7, h8, -⟩ := hW2 j hj; exact ⟨b, rb, vb, h1, h2, h3, h4, h5, h6, h7, h8⟩
  refine lv_aload_n hx hb dL_law_727 rfl (lv_at hl 2 rfl) ?_
  refine lv_aload_n hx hb dL_law_728 rfl (lv_at hl 3 rfl) ?_
  refine lv_iload_n hx hb dL_law_729 rfl (lv_at hl 0 rfl) ?_
  refine lv_iconst (v := 1) hx hb dL_law_730 (by decide) ?_
  refine lv_iadd hx hb dL_law_731 ?_
  refine lv_topi (fun t_ et_ => ?_)
  obtain rfl : t_ = 1 := et_.trans (by decide)
  refine va_sld hx hb hX hbl (Nat.not_le.mpr hbl) S.2.2.2.1 (vp_in_nI (n := 1) (by omega) (by decide)) dL_law_732 ?_
  refine lv_aload_n hx hb dL_law_733 rfl (lv_at hl 3 rfl) ?_
  refine lv_iload_n hx hb dL_law_734 rfl (lv_at hl 0 rfl) ?_
  refine lv_iconst (v := 2) hx hb dL_law_735 (by decide) ?_
  refine lv_iadd hx hb dL_law_736 ?_
  refine lv_topi (fun t_ et_ => ?_)
  obtain rfl : t_ = 2 := et_.trans (by decide)
  refine va_sld hx hb hX hbl (Nat.not_le.mpr hbl) S.2.2.2.1 (vp_in_nI (n := 2) (by omega) (by decide)) dL_law_737 ?_
  refine lv_aload_n hx hb dL_law_738 rfl (lv_at hl 3 rfl) ?_
  refine lv_iload_n hx hb dL_law_739 rfl (lv_at hl 0 rfl) ?_
  refine lv_iconst (v := 3) hx hb dL_law_740 (by decide) ?_
  refine lv_iadd hx hb dL_law_741 ?_
  refine lv_topi (fun t_ et_ => ?_)
  obtain rfl : t_ = 3 := et_.trans (by decide)
  refine va_sld hx hb hX hbl (Nat.not_le.mpr hbl) S.2.2.2.1 (vp_in_nI (n := 3) (by omega) (by decide)) dL_law_742 ?_
  refine q_vl (As := [.int ((xs (1 : Int32).toNatClampNeg)), .int ((xs (2 : Int32).toNatClampNeg)), .int ((xs (3 : Int32).toNatClampNeg))]) (rest := []) ⟨hx, hb, hml, hown, hts⟩ (c_X8_falseOne0 l D g m_x e_x m_wo e_wo hW) (cwV 3 hts gL_law_X8_falseOne rfl rfl rfl (by decide +kernel) ⟨Nat.le_of_ble_eq_true rfl, Nat.le_of_ble_eq_true rfl⟩) S m_x e_x (T := TX8) (N := 8) rfl rfl hl.1 rfl (Nat.le_of_ble_eq_true rfl) dL_law_743 ⟨Nat.le_of_ble_eq_true rfl, Nat.le_of_ble_eq_true rfl⟩ (fun r3 L1 f2 H locs S w743 => ?_)
  obtain ⟨ex1, eL1, ef1⟩ := w743
  rw [eL1, ef1] at S
  refine lv_aload_n hx hb dL_law_746 rfl (lv_at hl 1 rfl) ?_
  refine lv_aload_n hx hb dL_law_747 rfl (lv_at hl 3 rfl) ?_
  refine lv_iload_n hx hb dL_law_748 rfl (lv_at hl 0 rfl) ?_
  refine lv_iconst (v := 1) hx hb dL_law_749 (by decide) ?_
  refine lv_iadd hx hb dL_law_750 ?_
  refine lv_topi (fun t_ et_ => ?_)
  obtain rfl : t_ = 1 := et_.trans (by decide)
  refine va_sld hx hb hX hbl (Nat.not_le.mpr hbl) S.2.2.2.1 (vp_in_nI (n := 1) (by omega) (by decide)) dL_law_751 ?_
  refine lv_aload_n hx hb dL_law_752 rfl (lv_at hl 3 rfl) ?_
  refine lv_iload_n hx hb dL_law_753 rfl (lv_at hl 0 rfl) ?_
  refine lv_iconst (v := 2) hx hb dL_law_754 (by decide) ?_
  refine lv_iadd hx hb dL_law_755 ?_
  refine lv_topi (fun t_ et_ => ?_)
  obtain rfl : t_ = 2 := et_.trans (by decide)
  refine va_sld hx hb hX hbl (Nat.not_le.mpr hbl) S.2.2.2.1 (vp_in_nI (n := 2) (by omega) (by decide)) dL_law_756 ?_
  refine lv_aload_n hx hb dL_law_757 rfl (lv_at hl 3 rfl) ?_
  refine lv_iload_n hx hb dL_law_758 rfl (lv_at hl 0 rfl) ?_
  refine lv_iconst (v := 3) hx hb dL_law_759 (by decide) ?_
  refine lv_iadd hx hb dL_law_760 ?_
  refine lv_topi (fun t_ et_ => ?_)
  obtain rfl : t_ = 3 := et_.trans (by decide)
  refine va_sld hx hb hX hbl (Nat.not_le.mpr hbl) S.2.2.2.1 (vp_in_nI (n := 3) (by omega) (by decide)) dL_law_761 ?_
  refine q_vl (As := [.int ((xs (1 : Int32).toNatClampNeg)), .int ((xs (2 : Int32).toNatClampNeg)), .int ((xs (3 : Int32).toNatClampNeg))]) (rest := [.long r3]) ⟨hx, hb, hml, hown, hts⟩ (c_X9_falseOne0 l D g m_y e_y ) (cwV 3 hts gL_law_X9_falseOne rfl rfl rfl (by decide +kernel) ⟨Nat.le_of_ble_eq_true rfl, Nat.le_of_ble_eq_true rfl⟩) S m_y e_y (T := TX9) (N := 23) rfl rfl hl.1 rfl (Nat.le_of_ble_eq_true rfl) dL_law_762 ⟨Nat.le_of_ble_eq_true rfl, Nat.le_of_ble_eq_true rfl⟩ (fun r6 L4 f5 H locs S w762 => ?_)
  have ex2 := w762.1
  refine W.lcmp hx hb dL_law_765 ?_
  refine lv_if_eq (tgt := 1121) hx hb dL_law_766 (by decide) (fun b766 => ?_) (fun b766 => absurd ((lg_cmp_eq _ _).mpr (ex1.trans ex2.symm)) b766)
  obtain ⟨i1, ei1⟩ : ∃ y : Int32, y = 0 + 6 := ⟨_, rfl⟩
  refine lv_iinc (v := i1) (lv' := [(3, .int i1), (2, .ref y), (1, .ref x), (0, .ref bs)]) hx hb dL_law_1121 hl (k := 0) rfl (by rw [ei1]; rfl) (by decide) rfl (fun ls hl => ?_)
  refine lv_goto (tgt := 18) hx hb dL_law_1124 (by decide) ?_
  refine lv_iload_n hx hb dL_law_18 rfl (lv_at hl 0 rfl) ?_
  refine lv_aload_n hx hb dL_law_19 rfl (lv_at hl 3 rfl) ?_
  refine va_slen hx hb hX hbl (Nat.not_le.mpr hbl) S.2.2.2.1 dL_law_20 ?_
  refine lv_bipush (v := 6) hx hb dL_law_21 (by decide) ?_
  refine lv_isub hx hb dL_law_23 ?_
  refine lv_icmp_gt (tgt := 1127) hx hb dL_law_24 (by decide) (fun b24 => ?_) (fun b24 => absurd (by rw [ei1]; decide) b24)
  refine lv_iconst (v := 1) hx hb dL_law_1127 (by decide) ?_
  refine va_forget (fun q hq => S.2.2.2.1.2.2 q hq) ?_
  refine W.widen (k := 600000) (n := 7302250) (by decide) (by decide) ?_
  exact lw_ret hx hb hr hlk dL_law_1128

set_option maxHeartbeats 4000000 in
set_option maxRecDepth 100000 in
theorem law_13 {p : Program} {l : Launch} {e : Env} {s : State} {m : MethodId} {below : List Frame} {meth : Method} {c : Code} {bs : Nat} {xs : Nat → Int32} {D : va_G} {g : Nat → ClassId} {Lx L : List Nat} {f : Nat → va_E} {H : Heap} {locs : List Loc} {ls : Array Slot} {x wo Sl dr drr ri rir th thr so pa ta la ba si tt tp sw ch im rm bo bw y y0 y1 y2 y3 y4 y5 y6 y7 y8 y9 y10 y11 y12 y13 y15 y16 y17 y18 y19 y20 y21 y22 : Nat} {wf sf : Nat → Option Nat} {vd vs vs2 : Nat → Int64} {vl vb : Nat → Int32} {v_worlds : Nat → Int64} {v_inWorld : Nat → Int32} {v_kind : Nat → Int32} {v_size : Nat → Int32} {v_marks : Nat → Int32} {v_seed : Nat → Int32} {v_contents : Nat → Int64} {v_contentMany : Nat → Int32} {v_row : Nat → Int32} {v_bits : Nat → Int32} {v_layerSize : Nat → Int32} {v_layerCame : Nat → Int32} {v_rest : Nat → Int64} {v_restMany : Nat → Int32} {v_come : Nat → Int64} {v_rivals : Nat → Int64} {v_gone : Nat → Int64} {v_order : Nat → Int32} {v_offAt : Nat → Int32} {v_isOff : Nat → Int32} {v_alone : Nat → Int32} {v_kept : Nat → Int32} (hx : p.tables.exec = Jvm.exec) (hb : c.code = cL_law) (hr : meth.sig.returnType = ret) (hml : c.maxLocals = 4) (hown : s.vm.findClass RL = some m.cls) (hts : ∀ w ∈ wsL_law, w.before #[Value.ref bs] s = true) (hX : va_X bs 6 xs s s.heap) (hbl : bs < s.heap.size) (hlk : meth.locks = false) (S : PS D g (fun q : Nat => s.heap.size ≤ q) s.heap s L f H locs) (hl : lv_has ls 4 [(3, .int 0), (2, .ref y), (1, .ref x), (0, .ref bs)]) (m_x : x ∈ L) (e_x : f x = .inr (6, [.ref wo, .ref Sl, .ref dr, .ref ri, .ref th, .ref so, .ref ch, .int 0])) (m_wo : wo ∈ L) (e_wo : f wo = .inl (g 3, 8, .inr (.inr (.inr (.inr wf))))) (m_Sl : Sl ∈ L) (e_Sl : f Sl = .inl (g 5, 30, .inr (.inr (.inr (.inr sf))))) (m_dr : dr ∈ L) (e_dr : f dr = .inr (0, [.ref drr, .int ((nI 0))])) (m_drr : drr ∈ L) (e_drr : f drr = .inl (g 1, 1000, .inr (.inl vd))) (m_ri : ri ∈ L) (e_ri : f ri = .inr (0, [.ref rir, .int ((nI 0))])) (m_th : th ∈ L) (e_th : f th = .inr (0, [.ref thr, .int ((nI 0))])) (m_so : so ∈ L) (e_so : f so = .inr (5, [.ref pa, .ref ta, .ref la, .ref ba, .ref si, .ref tt, .ref tp, .int 0, .int 0])) (m_la : la ∈ L) (e_la : f la = .inl (g 0, 3774, .inl vl)) (m_ba : ba ∈ L) (e_ba : f ba = .inl (g 0, 3774, .inl vb)) (m_si : si ∈ L) (e_si : f si = .inr (1, [.ref sw, .int ((nI 0))])) (m_sw : sw ∈ L) (e_sw : f sw = .inl (g 1, 64, .inr (.inl vs))) (m_ch : ch ∈ L) (e_ch : f ch = .inr (2, [.ref im, .ref rm, .ref bo, .int 0, .int 0])) (m_bo : bo ∈ L) (e_bo : f bo = .inr (1, [.ref bw, .int ((nI 0))])) (m_bw : bw ∈ L) (e_bw : f bw = .inl (g 1, 64, .inr (.inl vs2))) (m_y : y ∈ L) (e_y : f y = .inr (7, [.ref y0, .ref y1, .ref y2, .ref y3, .ref y4, .ref y5, .ref y6, .ref y7, .ref y8, .ref y9, .ref y10, .ref y11, .ref y12, .ref y13, .int 0, .ref y15, .ref y16, .ref y17, .ref y18, .ref y19, .ref y20, .ref y21, .ref y22])) (m_y0 : y0 ∈ L) (e_y0 : f y0 = .inl (g 1, 8000, .inr (.inl v_worlds))) (m_y1 : y1 ∈ L) (e_y1 : f y1 = .inl (g 0, 8, .inl v_inWorld)) (m_y2 : y2 ∈ L) (e_y2 : f y2 = .inl (g 0, 30, .inl v_kind)) (m_y3 : y3 ∈ L) (e_y3 : f y3 = .inl (g 0, 30, .inl v_size)) (m_y4 : y4 ∈ L) (e_y4 : f y4 = .inl (g 0, 30, .inl v_marks)) (m_y5 : y5 ∈ L) (e_y5 : f y5 = .inl (g 0, 30, .inl v_seed)) (m_y6 : y6 ∈ L) (e_y6 : f y6 = .inl (g 1, 30000, .inr (.inl v_contents))) (m_y7 : y7 ∈ L) (e_y7 : f y7 = .inl (g 0, 30, .inl v_contentMany)) (m_y8 : y8 ∈ L) (e_y8 : f y8 = .inl (g 0, 122880, .inl v_row)) (m_y9 : y9 ∈ L) (e_y9 : f y9 = .inl (g 0, 76800, .inl v_bits)) (m_y10 : y10 ∈ L) (e_y10 : f y10 = .inl (g 0, 600, .inl v_layerSize)) (m_y11 : y11 ∈ L) (e_y11 : f y11 = .inl (g 0, 600, .inl v_layerCame)) (m_y12 : y12 ∈ L) (e_y12 : f y12 = .inl (g 1, 30000, .inr (.inl v_rest))) (m_y13 : y13 ∈ L) (e_y13 : f y13 = .inl (g 0, 30, .inl v_restMany)) (m_y15 : y15 ∈ L) (e_y15 : f y15 = .inl (g 1, 1000, .inr (.inl v_come))) (m_y16 : y16 ∈ L) (e_y16 : f y16 = .inl (g 1, 1000, .inr (.inl v_rivals))) (m_y17 : y17 ∈ L) (e_y17 : f y17 = .inl (g 1, 1000, .inr (.inl v_gone))) (m_y18 : y18 ∈ L) (e_y18 : f y18 = .inl (g 0, 1000, .inl v_order)) (m_y19 : y19 ∈ L) (e_y19 : f y19 = .inl (g 0, 1000, .inl v_offAt)) (m_y20 : y20 ∈ L) (e_y20 : f y20 = .inl (g 2, 1000, .inl v_isOff)) (m_y21 : y21 ∈ L) (e_y21 : f y21 = .inl (g 0, 4096, .inl v_alone)) (m_y22 : y22 ∈ L) (e_y22 : f y22 = .inl (g 0, 4096, .inl v_kept)) (hs0 : sf 0 = none) (n_ri_dr : ri ≠ dr) (n_th_dr : th ≠ dr) (n_th_ri : th ≠ ri) (n_ba_la : ba ≠ la) (hW2 : ∀ j, j < 8 → ∃ b rb : Nat, ∃ vb : Nat → Int64, wf j = some b ∧ b ∈ L ∧ f b = .inr (0, [.ref rb, .int (nI 0)]) ∧ rb ∈ L ∧ f rb = .inl (g 1, 1000, .inr (.inl vb)) ∧ b ≠ dr ∧ b ≠ ri ∧ b ≠ th ∧ rb ≠ drr ∧ b ∈ Lx ∧ rb ∈ Lx) (hI : ∀ j, j < 8 → v_inWorld j = 0) (hnd : [y, y0, y1, y2, y3, y4, y5, y6, y7, y8, y9, y10, y11, y12, y13, y15, y16, y17, y18, y19, y20, y21, y22].Nodup) (lx_x : x ∈ Lx) (lx_Sl : Sl ∈ Lx) (lx_dr : dr ∈ Lx) (lx_drr : drr ∈ Lx) (lx_ri : ri ∈ Lx) (lx_th : th ∈ Lx) (lx_so : so ∈ Lx) (lx_la : la ∈ Lx) (lx_ba : ba ∈ Lx) (lx_si : si ∈ Lx) (lx_sw : sw ∈ Lx) (lx_ch : ch ∈ Lx) (lx_bo : bo ∈ Lx) (lx_bw : bw ∈ Lx) (nx_y : y ∉ Lx) (nx_y0 : y0 ∉ Lx) (nx_y1 : y1 ∉ Lx) (nx_y2 : y2 ∉ Lx) (nx_y3 : y3 ∉ Lx) (nx_y4 : y4 ∉ Lx) (nx_y5 : y5 ∉ Lx) (nx_y6 : y6 ∉ Lx) (nx_y7 : y7 ∉ Lx) (nx_y8 : y8 ∉ Lx) (nx_y9 : y9 ∉ Lx) (nx_y10 : y10 ∉ Lx) (nx_y11 : y11 ∉ Lx) (nx_y12 : y12 ∉ Lx) (nx_y13 : y13 ∉ Lx) (nx_y15 : y15 ∉ Lx) (nx_y16 : y16 ∉ Lx) (nx_y17 : y17 ∉ Lx) (nx_y18 : y18 ∉ Lx) (nx_y19 : y19 ∉ Lx) (nx_y20 : y20 ∉ Lx) (nx_y21 : y21 ∉ Lx) (nx_y22 : y22 ∉ Lx) : W p l e room_1 s m #[Value.ref bs] below meth c H locs 62 310045 (lw_Z below #[Value.ref bs] s) (F0 m 771 ls []) := by
  have hW : ∀ j, j < 8 → ∃ b rb : Nat, ∃ vb : Nat → Int64, wf j = some b ∧ b ∈ L ∧ f b = .inr (0, [.ref rb, .int (nI 0)]) ∧ rb ∈ L ∧ f rb = .inl (g 1, 1000, .inr (.inl vb)) ∧ b ≠ dr ∧ b ≠ ri ∧ b ≠ th := fun j hj => by obtain ⟨b, rb, vb, h1, h2, h3, h4, h5, h6, h7, h8, -⟩ := hW2 j hj; exact ⟨b, rb, vb, h1, h2, h3, h4, h5, h6, h7, h8⟩
  refine lv_aload_n hx hb dL_law_771 rfl (lv_at hl 2 rfl) ?_
  refine lv_aload_n hx hb dL_law_772 rfl (lv_at hl 3 rfl) ?_
  refine lv_iload_n hx hb dL_law_773 rfl (lv_at hl 0 rfl) ?_
  refine lv_iconst (v := 1) hx hb dL_law_774 (by decide) ?_
  refine lv_iadd hx hb dL_law_775 ?_
  refine lv_topi (fun t_ et_ => ?_)
  obtain rfl : t_ = 1 := et_.trans (by decide)
  refine va_sld hx hb hX hbl (Nat.not_le.mpr hbl) S.2.2.2.1 (vp_in_nI (n := 1) (by omega) (by decide)) dL_law_776 ?_
  refine q_vi (As := [.int ((xs (1 : Int32).toNatClampNeg))]) (rest := []) ⟨hx, hb, hml, hown, hts⟩ (c_X8_missed0 l D g m_x e_x ) (cwV 1 hts gL_law_X8_missed rfl rfl rfl (by decide +kernel) ⟨Nat.le_of_ble_eq_true rfl, Nat.le_of_ble_eq_true rfl⟩) S m_x e_x (T := TX8) (N := 8) rfl rfl hl.1 rfl (Nat.le_of_ble_eq_true rfl) dL_law_777 ⟨Nat.le_of_ble_eq_true rfl, Nat.le_of_ble_eq_true rfl⟩ (fun r3 L1 f2 H locs S w777 => ?_)
  obtain ⟨ex1, eL1, ef1⟩ := w777
  rw [eL1, ef1] at S
  refine lv_aload_n hx hb dL_law_780 rfl (lv_at hl 1 rfl) ?_
  refine lv_aload_n hx hb dL_law_781 rfl (lv_at hl 3 rfl) ?_
  refine lv_iload_n hx hb dL_law_782 rfl (lv_at hl 0 rfl) ?_
  refine lv_iconst (v := 1) hx hb dL_law_783 (by decide) ?_
  refine lv_iadd hx hb dL_law_784 ?_
  refine lv_topi (fun t_ et_ => ?_)
  obtain rfl : t_ = 1 := et_.trans (by decide)
  refine va_sld hx hb hX hbl (Nat.not_le.mpr hbl) S.2.2.2.1 (vp_in_nI (n := 1) (by omega) (by decide)) dL_law_785 ?_
  refine q_vi (As := [.int ((xs (1 : Int32).toNatClampNeg))]) (rest := [.int r3]) ⟨hx, hb, hml, hown, hts⟩ (c_X9_missed0 l D g m_y e_y ) (cwV 1 hts gL_law_X9_missed rfl rfl rfl (by decide +kernel) ⟨Nat.le_of_ble_eq_true rfl, Nat.le_of_ble_eq_true rfl⟩) S m_y e_y (T := TX9) (N := 23) rfl rfl hl.1 rfl (Nat.le_of_ble_eq_true rfl) dL_law_786 ⟨Nat.le_of_ble_eq_true rfl, Nat.le_of_ble_eq_true rfl⟩ (fun r6 L4 f5 H locs S w786 => ?_)
  have ex2 := w786.1
  refine lv_icmp_eq (tgt := 1121) hx hb dL_law_789 (by decide) (fun b789 => ?_) (fun b789 => absurd (ex1.trans ex2.symm) b789)
  obtain ⟨i1, ei1⟩ : ∃ y : Int32, y = 0 + 6 := ⟨_, rfl⟩
  refine lv_iinc (v := i1) (lv' := [(3, .int i1), (2, .ref y), (1, .ref x), (0, .ref bs)]) hx hb dL_law_1121 hl (k := 0) rfl (by rw [ei1]; rfl) (by decide) rfl (fun ls hl => ?_)
  refine lv_goto (tgt := 18) hx hb dL_law_1124 (by decide) ?_
  refine lv_iload_n hx hb dL_law_18 rfl (lv_at hl 0 rfl) ?_
  refine lv_aload_n hx hb dL_law_19 rfl (lv_at hl 3 rfl) ?_
  refine va_slen hx hb hX hbl (Nat.not_le.mpr hbl) S.2.2.2.1 dL_law_20 ?_
  refine lv_bipush (v := 6) hx hb dL_law_21 (by decide) ?_
  refine lv_isub hx hb dL_law_23 ?_
  refine lv_icmp_gt (tgt := 1127) hx hb dL_law_24 (by decide) (fun b24 => ?_) (fun b24 => absurd (by rw [ei1]; decide) b24)
  refine lv_iconst (v := 1) hx hb dL_law_1127 (by decide) ?_
  refine va_forget (fun q hq => S.2.2.2.1.2.2 q hq) ?_
  refine W.widen (k := 600000) (n := 7302250) (by decide) (by decide) ?_
  exact lw_ret hx hb hr hlk dL_law_1128

set_option maxHeartbeats 4000000 in
set_option maxRecDepth 100000 in
theorem law_14 {p : Program} {l : Launch} {e : Env} {s : State} {m : MethodId} {below : List Frame} {meth : Method} {c : Code} {bs : Nat} {xs : Nat → Int32} {D : va_G} {g : Nat → ClassId} {Lx L : List Nat} {f : Nat → va_E} {H : Heap} {locs : List Loc} {ls : Array Slot} {x wo Sl dr drr ri rir th thr so pa ta la ba si tt tp sw ch im rm bo bw y y0 y1 y2 y3 y4 y5 y6 y7 y8 y9 y10 y11 y12 y13 y15 y16 y17 y18 y19 y20 y21 y22 : Nat} {wf sf : Nat → Option Nat} {vd vs vs2 : Nat → Int64} {vl vb : Nat → Int32} {v_worlds : Nat → Int64} {v_inWorld : Nat → Int32} {v_kind : Nat → Int32} {v_size : Nat → Int32} {v_marks : Nat → Int32} {v_seed : Nat → Int32} {v_contents : Nat → Int64} {v_contentMany : Nat → Int32} {v_row : Nat → Int32} {v_bits : Nat → Int32} {v_layerSize : Nat → Int32} {v_layerCame : Nat → Int32} {v_rest : Nat → Int64} {v_restMany : Nat → Int32} {v_come : Nat → Int64} {v_rivals : Nat → Int64} {v_gone : Nat → Int64} {v_order : Nat → Int32} {v_offAt : Nat → Int32} {v_isOff : Nat → Int32} {v_alone : Nat → Int32} {v_kept : Nat → Int32} (hx : p.tables.exec = Jvm.exec) (hb : c.code = cL_law) (hr : meth.sig.returnType = ret) (hml : c.maxLocals = 4) (hown : s.vm.findClass RL = some m.cls) (hts : ∀ w ∈ wsL_law, w.before #[Value.ref bs] s = true) (hX : va_X bs 6 xs s s.heap) (hbl : bs < s.heap.size) (hlk : meth.locks = false) (S : PS D g (fun q : Nat => s.heap.size ≤ q) s.heap s L f H locs) (hl : lv_has ls 4 [(3, .int 0), (2, .ref y), (1, .ref x), (0, .ref bs)]) (m_x : x ∈ L) (e_x : f x = .inr (6, [.ref wo, .ref Sl, .ref dr, .ref ri, .ref th, .ref so, .ref ch, .int 0])) (m_wo : wo ∈ L) (e_wo : f wo = .inl (g 3, 8, .inr (.inr (.inr (.inr wf))))) (m_Sl : Sl ∈ L) (e_Sl : f Sl = .inl (g 5, 30, .inr (.inr (.inr (.inr sf))))) (m_dr : dr ∈ L) (e_dr : f dr = .inr (0, [.ref drr, .int ((nI 0))])) (m_drr : drr ∈ L) (e_drr : f drr = .inl (g 1, 1000, .inr (.inl vd))) (m_ri : ri ∈ L) (e_ri : f ri = .inr (0, [.ref rir, .int ((nI 0))])) (m_th : th ∈ L) (e_th : f th = .inr (0, [.ref thr, .int ((nI 0))])) (m_so : so ∈ L) (e_so : f so = .inr (5, [.ref pa, .ref ta, .ref la, .ref ba, .ref si, .ref tt, .ref tp, .int 0, .int 0])) (m_la : la ∈ L) (e_la : f la = .inl (g 0, 3774, .inl vl)) (m_ba : ba ∈ L) (e_ba : f ba = .inl (g 0, 3774, .inl vb)) (m_si : si ∈ L) (e_si : f si = .inr (1, [.ref sw, .int ((nI 0))])) (m_sw : sw ∈ L) (e_sw : f sw = .inl (g 1, 64, .inr (.inl vs))) (m_ch : ch ∈ L) (e_ch : f ch = .inr (2, [.ref im, .ref rm, .ref bo, .int 0, .int 0])) (m_bo : bo ∈ L) (e_bo : f bo = .inr (1, [.ref bw, .int ((nI 0))])) (m_bw : bw ∈ L) (e_bw : f bw = .inl (g 1, 64, .inr (.inl vs2))) (m_y : y ∈ L) (e_y : f y = .inr (7, [.ref y0, .ref y1, .ref y2, .ref y3, .ref y4, .ref y5, .ref y6, .ref y7, .ref y8, .ref y9, .ref y10, .ref y11, .ref y12, .ref y13, .int 0, .ref y15, .ref y16, .ref y17, .ref y18, .ref y19, .ref y20, .ref y21, .ref y22])) (m_y0 : y0 ∈ L) (e_y0 : f y0 = .inl (g 1, 8000, .inr (.inl v_worlds))) (m_y1 : y1 ∈ L) (e_y1 : f y1 = .inl (g 0, 8, .inl v_inWorld)) (m_y2 : y2 ∈ L) (e_y2 : f y2 = .inl (g 0, 30, .inl v_kind)) (m_y3 : y3 ∈ L) (e_y3 : f y3 = .inl (g 0, 30, .inl v_size)) (m_y4 : y4 ∈ L) (e_y4 : f y4 = .inl (g 0, 30, .inl v_marks)) (m_y5 : y5 ∈ L) (e_y5 : f y5 = .inl (g 0, 30, .inl v_seed)) (m_y6 : y6 ∈ L) (e_y6 : f y6 = .inl (g 1, 30000, .inr (.inl v_contents))) (m_y7 : y7 ∈ L) (e_y7 : f y7 = .inl (g 0, 30, .inl v_contentMany)) (m_y8 : y8 ∈ L) (e_y8 : f y8 = .inl (g 0, 122880, .inl v_row)) (m_y9 : y9 ∈ L) (e_y9 : f y9 = .inl (g 0, 76800, .inl v_bits)) (m_y10 : y10 ∈ L) (e_y10 : f y10 = .inl (g 0, 600, .inl v_layerSize)) (m_y11 : y11 ∈ L) (e_y11 : f y11 = .inl (g 0, 600, .inl v_layerCame)) (m_y12 : y12 ∈ L) (e_y12 : f y12 = .inl (g 1, 30000, .inr (.inl v_rest))) (m_y13 : y13 ∈ L) (e_y13 : f y13 = .inl (g 0, 30, .inl v_restMany)) (m_y15 : y15 ∈ L) (e_y15 : f y15 = .inl (g 1, 1000, .inr (.inl v_come))) (m_y16 : y16 ∈ L) (e_y16 : f y16 = .inl (g 1, 1000, .inr (.inl v_rivals))) (m_y17 : y17 ∈ L) (e_y17 : f y17 = .inl (g 1, 1000, .inr (.inl v_gone))) (m_y18 : y18 ∈ L) (e_y18 : f y18 = .inl (g 0, 1000, .inl v_order)) (m_y19 : y19 ∈ L) (e_y19 : f y19 = .inl (g 0, 1000, .inl v_offAt)) (m_y20 : y20 ∈ L) (e_y20 : f y20 = .inl (g 2, 1000, .inl v_isOff)) (m_y21 : y21 ∈ L) (e_y21 : f y21 = .inl (g 0, 4096, .inl v_alone)) (m_y22 : y22 ∈ L) (e_y22 : f y22 = .inl (g 0, 4096, .inl v_kept)) (hs0 : sf 0 = none) (n_ri_dr : ri ≠ dr) (n_th_dr : th ≠ dr) (n_th_ri : th ≠ ri) (n_ba_la : ba ≠ la) (hW2 : ∀ j, j < 8 → ∃ b rb : Nat, ∃ vb : Nat → Int64, wf j = some b ∧ b ∈ L ∧ f b = .inr (0, [.ref rb, .int (nI 0)]) ∧ rb ∈ L ∧ f rb = .inl (g 1, 1000, .inr (.inl vb)) ∧ b ≠ dr ∧ b ≠ ri ∧ b ≠ th ∧ rb ≠ drr ∧ b ∈ Lx ∧ rb ∈ Lx) (hI : ∀ j, j < 8 → v_inWorld j = 0) (hnd : [y, y0, y1, y2, y3, y4, y5, y6, y7, y8, y9, y10, y11, y12, y13, y15, y16, y17, y18, y19, y20, y21, y22].Nodup) (lx_x : x ∈ Lx) (lx_Sl : Sl ∈ Lx) (lx_dr : dr ∈ Lx) (lx_drr : drr ∈ Lx) (lx_ri : ri ∈ Lx) (lx_th : th ∈ Lx) (lx_so : so ∈ Lx) (lx_la : la ∈ Lx) (lx_ba : ba ∈ Lx) (lx_si : si ∈ Lx) (lx_sw : sw ∈ Lx) (lx_ch : ch ∈ Lx) (lx_bo : bo ∈ Lx) (lx_bw : bw ∈ Lx) (nx_y : y ∉ Lx) (nx_y0 : y0 ∉ Lx) (nx_y1 : y1 ∉ Lx) (nx_y2 : y2 ∉ Lx) (nx_y3 : y3 ∉ Lx) (nx_y4 : y4 ∉ Lx) (nx_y5 : y5 ∉ Lx) (nx_y6 : y6 ∉ Lx) (nx_y7 : y7 ∉ Lx) (nx_y8 : y8 ∉ Lx) (nx_y9 : y9 ∉ Lx) (nx_y10 : y10 ∉ Lx) (nx_y11 : y11 ∉ Lx) (nx_y12 : y12 ∉ Lx) (nx_y13 : y13 ∉ Lx) (nx_y15 : y15 ∉ Lx) (nx_y16 : y16 ∉ Lx) (nx_y17 : y17 ∉ Lx) (nx_y18 : y18 ∉ Lx) (nx_y19 : y19 ∉ Lx) (nx_y20 : y20 ∉ Lx) (nx_y21 : y21 ∉ Lx) (nx_y22 : y22 ∉ Lx) : W p l e room_1 s m #[Value.ref bs] below meth c H locs 62 310045 (lw_Z below #[Value.ref bs] s) (F0 m 794 ls []) := by
  have hW : ∀ j, j < 8 → ∃ b rb : Nat, ∃ vb : Nat → Int64, wf j = some b ∧ b ∈ L ∧ f b = .inr (0, [.ref rb, .int (nI 0)]) ∧ rb ∈ L ∧ f rb = .inl (g 1, 1000, .inr (.inl vb)) ∧ b ≠ dr ∧ b ≠ ri ∧ b ≠ th := fun j hj => by obtain ⟨b, rb, vb, h1, h2, h3, h4, h5, h6, h7, h8, -⟩ := hW2 j hj; exact ⟨b, rb, vb, h1, h2, h3, h4, h5, h6, h7, h8⟩
  refine lv_aload_n hx hb dL_law_794 rfl (lv_at hl 2 rfl) ?_
  refine lv_aload_n hx hb dL_law_795 rfl (lv_at hl 3 rfl) ?_
  refine lv_iload_n hx hb dL_law_796 rfl (lv_at hl 0 rfl) ?_
  refine lv_iconst (v := 1) hx hb dL_law_797 (by decide) ?_
  refine lv_iadd hx hb dL_law_798 ?_
  refine lv_topi (fun t_ et_ => ?_)
  obtain rfl : t_ = 1 := et_.trans (by decide)
  refine va_sld hx hb hX hbl (Nat.not_le.mpr hbl) S.2.2.2.1 (vp_in_nI (n := 1) (by omega) (by decide)) dL_law_799 ?_
  refine lv_aload_n hx hb dL_law_800 rfl (lv_at hl 3 rfl) ?_
  refine lv_iload_n hx hb dL_law_801 rfl (lv_at hl 0 rfl) ?_
  refine lv_iconst (v := 2) hx hb dL_law_802 (by decide) ?_
  refine lv_iadd hx hb dL_law_803 ?_
  refine lv_topi (fun t_ et_ => ?_)
  obtain rfl : t_ = 2 := et_.trans (by decide)
  refine va_sld hx hb hX hbl (Nat.not_le.mpr hbl) S.2.2.2.1 (vp_in_nI (n := 2) (by omega) (by decide)) dL_law_804 ?_
  refine lv_aload_n hx hb dL_law_805 rfl (lv_at hl 3 rfl) ?_
  refine lv_iload_n hx hb dL_law_806 rfl (lv_at hl 0 rfl) ?_
  refine lv_iconst (v := 3) hx hb dL_law_807 (by decide) ?_
  refine lv_iadd hx hb dL_law_808 ?_
  refine lv_topi (fun t_ et_ => ?_)
  obtain rfl : t_ = 3 := et_.trans (by decide)
  refine va_sld hx hb hX hbl (Nat.not_le.mpr hbl) S.2.2.2.1 (vp_in_nI (n := 3) (by omega) (by decide)) dL_law_809 ?_
  refine q_vi (As := [.int ((xs (1 : Int32).toNatClampNeg)), .int ((xs (2 : Int32).toNatClampNeg)), .int ((xs (3 : Int32).toNatClampNeg))]) (rest := []) ⟨hx, hb, hml, hown, hts⟩ (c_X8_join0 l D g m_x e_x ) (cwV 3 hts gL_law_X8_join rfl rfl rfl (by decide +kernel) ⟨Nat.le_of_ble_eq_true rfl, Nat.le_of_ble_eq_true rfl⟩) S m_x e_x (T := TX8) (N := 8) rfl rfl hl.1 rfl (Nat.le_of_ble_eq_true rfl) dL_law_810 ⟨Nat.le_of_ble_eq_true rfl, Nat.le_of_ble_eq_true rfl⟩ (fun r3 L1 f2 H locs S w810 => ?_)
  obtain ⟨ex1, eL1, ef1⟩ := w810
  rw [eL1, ef1] at S
  refine lv_aload_n hx hb dL_law_813 rfl (lv_at hl 1 rfl) ?_
  refine lv_aload_n hx hb dL_law_814 rfl (lv_at hl 3 rfl) ?_
  refine lv_iload_n hx hb dL_law_815 rfl (lv_at hl 0 rfl) ?_
  refine lv_iconst (v := 1) hx hb dL_law_816 (by decide) ?_
  refine lv_iadd hx hb dL_law_817 ?_
  refine lv_topi (fun t_ et_ => ?_)
  obtain rfl : t_ = 1 := et_.trans (by decide)
  refine va_sld hx hb hX hbl (Nat.not_le.mpr hbl) S.2.2.2.1 (vp_in_nI (n := 1) (by omega) (by decide)) dL_law_818 ?_
  refine lv_aload_n hx hb dL_law_819 rfl (lv_at hl 3 rfl) ?_
  refine lv_iload_n hx hb dL_law_820 rfl (lv_at hl 0 rfl) ?_
  refine lv_iconst (v := 2) hx hb dL_law_821 (by decide) ?_
  refine lv_iadd hx hb dL_law_822 ?_
  refine lv_topi (fun t_ et_ => ?_)
  obtain rfl : t_ = 2 := et_.trans (by decide)
  refine va_sld hx hb hX hbl (Nat.not_le.mpr hbl) S.2.2.2.1 (vp_in_nI (n := 2) (by omega) (by decide)) dL_law_823 ?_
  refine lv_aload_n hx hb dL_law_824 rfl (lv_at hl 3 rfl) ?_
  refine lv_iload_n hx hb dL_law_825 rfl (lv_at hl 0 rfl) ?_
  refine lv_iconst (v := 3) hx hb dL_law_826 (by decide) ?_
  refine lv_iadd hx hb dL_law_827 ?_
  refine lv_topi (fun t_ et_ => ?_)
  obtain rfl : t_ = 3 := et_.trans (by decide)
  refine va_sld hx hb hX hbl (Nat.not_le.mpr hbl) S.2.2.2.1 (vp_in_nI (n := 3) (by omega) (by decide)) dL_law_828 ?_
  refine q_vi (As := [.int ((xs (1 : Int32).toNatClampNeg)), .int ((xs (2 : Int32).toNatClampNeg)), .int ((xs (3 : Int32).toNatClampNeg))]) (rest := [.int r3]) ⟨hx, hb, hml, hown, hts⟩ (c_X9_join0 l D g m_y e_y ) (cwV 3 hts gL_law_X9_join rfl rfl rfl (by decide +kernel) ⟨Nat.le_of_ble_eq_true rfl, Nat.le_of_ble_eq_true rfl⟩) S m_y e_y (T := TX9) (N := 23) rfl rfl hl.1 rfl (Nat.le_of_ble_eq_true rfl) dL_law_829 ⟨Nat.le_of_ble_eq_true rfl, Nat.le_of_ble_eq_true rfl⟩ (fun r6 L4 f5 H locs S w829 => ?_)
  have ex2 := w829.1
  refine lv_icmp_eq (tgt := 1121) hx hb dL_law_832 (by decide) (fun b832 => ?_) (fun b832 => absurd (ex1.trans ex2.symm) b832)
  obtain ⟨i1, ei1⟩ : ∃ y : Int32, y = 0 + 6 := ⟨_, rfl⟩
  refine lv_iinc (v := i1) (lv' := [(3, .int i1), (2, .ref y), (1, .ref x), (0, .ref bs)]) hx hb dL_law_1121 hl (k := 0) rfl (by rw [ei1]; rfl) (by decide) rfl (fun ls hl => ?_)
  refine lv_goto (tgt := 18) hx hb dL_law_1124 (by decide) ?_
  refine lv_iload_n hx hb dL_law_18 rfl (lv_at hl 0 rfl) ?_
  refine lv_aload_n hx hb dL_law_19 rfl (lv_at hl 3 rfl) ?_
  refine va_slen hx hb hX hbl (Nat.not_le.mpr hbl) S.2.2.2.1 dL_law_20 ?_
  refine lv_bipush (v := 6) hx hb dL_law_21 (by decide) ?_
  refine lv_isub hx hb dL_law_23 ?_
  refine lv_icmp_gt (tgt := 1127) hx hb dL_law_24 (by decide) (fun b24 => ?_) (fun b24 => absurd (by rw [ei1]; decide) b24)
  refine lv_iconst (v := 1) hx hb dL_law_1127 (by decide) ?_
  refine va_forget (fun q hq => S.2.2.2.1.2.2 q hq) ?_
  refine W.widen (k := 600000) (n := 7302250) (by decide) (by decide) ?_
  exact lw_ret hx hb hr hlk dL_law_1128

set_option maxHeartbeats 4000000 in
set_option maxRecDepth 100000 in
theorem law_15 {p : Program} {l : Launch} {e : Env} {s : State} {m : MethodId} {below : List Frame} {meth : Method} {c : Code} {bs : Nat} {xs : Nat → Int32} {D : va_G} {g : Nat → ClassId} {Lx L : List Nat} {f : Nat → va_E} {H : Heap} {locs : List Loc} {ls : Array Slot} {x wo Sl dr drr ri rir th thr so pa ta la ba si tt tp sw ch im rm bo bw y y0 y1 y2 y3 y4 y5 y6 y7 y8 y9 y10 y11 y12 y13 y15 y16 y17 y18 y19 y20 y21 y22 : Nat} {wf sf : Nat → Option Nat} {vd vs vs2 : Nat → Int64} {vl vb : Nat → Int32} {v_worlds : Nat → Int64} {v_inWorld : Nat → Int32} {v_kind : Nat → Int32} {v_size : Nat → Int32} {v_marks : Nat → Int32} {v_seed : Nat → Int32} {v_contents : Nat → Int64} {v_contentMany : Nat → Int32} {v_row : Nat → Int32} {v_bits : Nat → Int32} {v_layerSize : Nat → Int32} {v_layerCame : Nat → Int32} {v_rest : Nat → Int64} {v_restMany : Nat → Int32} {v_come : Nat → Int64} {v_rivals : Nat → Int64} {v_gone : Nat → Int64} {v_order : Nat → Int32} {v_offAt : Nat → Int32} {v_isOff : Nat → Int32} {v_alone : Nat → Int32} {v_kept : Nat → Int32} (hx : p.tables.exec = Jvm.exec) (hb : c.code = cL_law) (hr : meth.sig.returnType = ret) (hml : c.maxLocals = 4) (hown : s.vm.findClass RL = some m.cls) (hts : ∀ w ∈ wsL_law, w.before #[Value.ref bs] s = true) (hX : va_X bs 6 xs s s.heap) (hbl : bs < s.heap.size) (hlk : meth.locks = false) (S : PS D g (fun q : Nat => s.heap.size ≤ q) s.heap s L f H locs) (hl : lv_has ls 4 [(3, .int 0), (2, .ref y), (1, .ref x), (0, .ref bs)]) (m_x : x ∈ L) (e_x : f x = .inr (6, [.ref wo, .ref Sl, .ref dr, .ref ri, .ref th, .ref so, .ref ch, .int 0])) (m_wo : wo ∈ L) (e_wo : f wo = .inl (g 3, 8, .inr (.inr (.inr (.inr wf))))) (m_Sl : Sl ∈ L) (e_Sl : f Sl = .inl (g 5, 30, .inr (.inr (.inr (.inr sf))))) (m_dr : dr ∈ L) (e_dr : f dr = .inr (0, [.ref drr, .int ((nI 0))])) (m_drr : drr ∈ L) (e_drr : f drr = .inl (g 1, 1000, .inr (.inl vd))) (m_ri : ri ∈ L) (e_ri : f ri = .inr (0, [.ref rir, .int ((nI 0))])) (m_th : th ∈ L) (e_th : f th = .inr (0, [.ref thr, .int ((nI 0))])) (m_so : so ∈ L) (e_so : f so = .inr (5, [.ref pa, .ref ta, .ref la, .ref ba, .ref si, .ref tt, .ref tp, .int 0, .int 0])) (m_la : la ∈ L) (e_la : f la = .inl (g 0, 3774, .inl vl)) (m_ba : ba ∈ L) (e_ba : f ba = .inl (g 0, 3774, .inl vb)) (m_si : si ∈ L) (e_si : f si = .inr (1, [.ref sw, .int ((nI 0))])) (m_sw : sw ∈ L) (e_sw : f sw = .inl (g 1, 64, .inr (.inl vs))) (m_ch : ch ∈ L) (e_ch : f ch = .inr (2, [.ref im, .ref rm, .ref bo, .int 0, .int 0])) (m_bo : bo ∈ L) (e_bo : f bo = .inr (1, [.ref bw, .int ((nI 0))])) (m_bw : bw ∈ L) (e_bw : f bw = .inl (g 1, 64, .inr (.inl vs2))) (m_y : y ∈ L) (e_y : f y = .inr (7, [.ref y0, .ref y1, .ref y2, .ref y3, .ref y4, .ref y5, .ref y6, .ref y7, .ref y8, .ref y9, .ref y10, .ref y11, .ref y12, .ref y13, .int 0, .ref y15, .ref y16, .ref y17, .ref y18, .ref y19, .ref y20, .ref y21, .ref y22])) (m_y0 : y0 ∈ L) (e_y0 : f y0 = .inl (g 1, 8000, .inr (.inl v_worlds))) (m_y1 : y1 ∈ L) (e_y1 : f y1 = .inl (g 0, 8, .inl v_inWorld)) (m_y2 : y2 ∈ L) (e_y2 : f y2 = .inl (g 0, 30, .inl v_kind)) (m_y3 : y3 ∈ L) (e_y3 : f y3 = .inl (g 0, 30, .inl v_size)) (m_y4 : y4 ∈ L) (e_y4 : f y4 = .inl (g 0, 30, .inl v_marks)) (m_y5 : y5 ∈ L) (e_y5 : f y5 = .inl (g 0, 30, .inl v_seed)) (m_y6 : y6 ∈ L) (e_y6 : f y6 = .inl (g 1, 30000, .inr (.inl v_contents))) (m_y7 : y7 ∈ L) (e_y7 : f y7 = .inl (g 0, 30, .inl v_contentMany)) (m_y8 : y8 ∈ L) (e_y8 : f y8 = .inl (g 0, 122880, .inl v_row)) (m_y9 : y9 ∈ L) (e_y9 : f y9 = .inl (g 0, 76800, .inl v_bits)) (m_y10 : y10 ∈ L) (e_y10 : f y10 = .inl (g 0, 600, .inl v_layerSize)) (m_y11 : y11 ∈ L) (e_y11 : f y11 = .inl (g 0, 600, .inl v_layerCame)) (m_y12 : y12 ∈ L) (e_y12 : f y12 = .inl (g 1, 30000, .inr (.inl v_rest))) (m_y13 : y13 ∈ L) (e_y13 : f y13 = .inl (g 0, 30, .inl v_restMany)) (m_y15 : y15 ∈ L) (e_y15 : f y15 = .inl (g 1, 1000, .inr (.inl v_come))) (m_y16 : y16 ∈ L) (e_y16 : f y16 = .inl (g 1, 1000, .inr (.inl v_rivals))) (m_y17 : y17 ∈ L) (e_y17 : f y17 = .inl (g 1, 1000, .inr (.inl v_gone))) (m_y18 : y18 ∈ L) (e_y18 : f y18 = .inl (g 0, 1000, .inl v_order)) (m_y19 : y19 ∈ L) (e_y19 : f y19 = .inl (g 0, 1000, .inl v_offAt)) (m_y20 : y20 ∈ L) (e_y20 : f y20 = .inl (g 2, 1000, .inl v_isOff)) (m_y21 : y21 ∈ L) (e_y21 : f y21 = .inl (g 0, 4096, .inl v_alone)) (m_y22 : y22 ∈ L) (e_y22 : f y22 = .inl (g 0, 4096, .inl v_kept)) (hs0 : sf 0 = none) (n_ri_dr : ri ≠ dr) (n_th_dr : th ≠ dr) (n_th_ri : th ≠ ri) (n_ba_la : ba ≠ la) (hW2 : ∀ j, j < 8 → ∃ b rb : Nat, ∃ vb : Nat → Int64, wf j = some b ∧ b ∈ L ∧ f b = .inr (0, [.ref rb, .int (nI 0)]) ∧ rb ∈ L ∧ f rb = .inl (g 1, 1000, .inr (.inl vb)) ∧ b ≠ dr ∧ b ≠ ri ∧ b ≠ th ∧ rb ≠ drr ∧ b ∈ Lx ∧ rb ∈ Lx) (hI : ∀ j, j < 8 → v_inWorld j = 0) (hnd : [y, y0, y1, y2, y3, y4, y5, y6, y7, y8, y9, y10, y11, y12, y13, y15, y16, y17, y18, y19, y20, y21, y22].Nodup) (lx_x : x ∈ Lx) (lx_Sl : Sl ∈ Lx) (lx_dr : dr ∈ Lx) (lx_drr : drr ∈ Lx) (lx_ri : ri ∈ Lx) (lx_th : th ∈ Lx) (lx_so : so ∈ Lx) (lx_la : la ∈ Lx) (lx_ba : ba ∈ Lx) (lx_si : si ∈ Lx) (lx_sw : sw ∈ Lx) (lx_ch : ch ∈ Lx) (lx_bo : bo ∈ Lx) (lx_bw : bw ∈ Lx) (nx_y : y ∉ Lx) (nx_y0 : y0 ∉ Lx) (nx_y1 : y1 ∉ Lx) (nx_y2 : y2 ∉ Lx) (nx_y3 : y3 ∉ Lx) (nx_y4 : y4 ∉ Lx) (nx_y5 : y5 ∉ Lx) (nx_y6 : y6 ∉ Lx) (nx_y7 : y7 ∉ Lx) (nx_y8 : y8 ∉ Lx) (nx_y9 : y9 ∉ Lx) (nx_y10 : y10 ∉ Lx) (nx_y11 : y11 ∉ Lx) (nx_y12 : y12 ∉ Lx) (nx_y13 : y13 ∉ Lx) (nx_y15 : y15 ∉ Lx) (nx_y16 : y16 ∉ Lx) (nx_y17 : y17 ∉ Lx) (nx_y18 : y18 ∉ Lx) (nx_y19 : y19 ∉ Lx) (nx_y20 : y20 ∉ Lx) (nx_y21 : y21 ∉ Lx) (nx_y22 : y22 ∉ Lx) : W p l e room_1 s m #[Value.ref bs] below meth c H locs 62 310045 (lw_Z below #[Value.ref bs] s) (F0 m 837 ls []) := by
  have hW : ∀ j, j < 8 → ∃ b rb : Nat, ∃ vb : Nat → Int64, wf j = some b ∧ b ∈ L ∧ f b = .inr (0, [.ref rb, .int (nI 0)]) ∧ rb ∈ L ∧ f rb = .inl (g 1, 1000, .inr (.inl vb)) ∧ b ≠ dr ∧ b ≠ ri ∧ b ≠ th := fun j hj => by obtain ⟨b, rb, vb, h1, h2, h3, h4, h5, h6, h7, h8, -⟩ := hW2 j hj; exact ⟨b, rb, vb, h1, h2, h3, h4, h5, h6, h7, h8⟩
  refine lv_aload_n hx hb dL_law_837 rfl (lv_at hl 2 rfl) ?_
  refine lv_aload_n hx hb dL_law_838 rfl (lv_at hl 3 rfl) ?_
  refine lv_iload_n hx hb dL_law_839 rfl (lv_at hl 0 rfl) ?_
  refine lv_iconst (v := 1) hx hb dL_law_840 (by decide) ?_
  refine lv_iadd hx hb dL_law_841 ?_
  refine lv_topi (fun t_ et_ => ?_)
  obtain rfl : t_ = 1 := et_.trans (by decide)
  refine va_sld hx hb hX hbl (Nat.not_le.mpr hbl) S.2.2.2.1 (vp_in_nI (n := 1) (by omega) (by decide)) dL_law_842 ?_
  refine q_vi (As := [.int ((xs (1 : Int32).toNatClampNeg))]) (rest := []) ⟨hx, hb, hml, hown, hts⟩ (c_X8_fold0 l D g m_x e_x ) (cwV 1 hts gL_law_X8_fold rfl rfl rfl (by decide +kernel) ⟨Nat.le_of_ble_eq_true rfl, Nat.le_of_ble_eq_true rfl⟩) S m_x e_x (T := TX8) (N := 8) rfl rfl hl.1 rfl (Nat.le_of_ble_eq_true rfl) dL_law_843 ⟨Nat.le_of_ble_eq_true rfl, Nat.le_of_ble_eq_true rfl⟩ (fun r3 L1 f2 H locs S w843 => ?_)
  obtain ⟨ex1, eL1, ef1⟩ := w843
  rw [eL1, ef1] at S
  refine lv_aload_n hx hb dL_law_846 rfl (lv_at hl 1 rfl) ?_
  refine lv_aload_n hx hb dL_law_847 rfl (lv_at hl 3 rfl) ?_
  refine lv_iload_n hx hb dL_law_848 rfl (lv_at hl 0 rfl) ?_
  refine lv_iconst (v := 1) hx hb dL_law_849 (by decide) ?_
  refine lv_iadd hx hb dL_law_850 ?_
  refine lv_topi (fun t_ et_ => ?_)
  obtain rfl : t_ = 1 := et_.trans (by decide)
  refine va_sld hx hb hX hbl (Nat.not_le.mpr hbl) S.2.2.2.1 (vp_in_nI (n := 1) (by omega) (by decide)) dL_law_851 ?_
  refine q_vi (As := [.int ((xs (1 : Int32).toNatClampNeg))]) (rest := [.int r3]) ⟨hx, hb, hml, hown, hts⟩ (c_X9_fold0 l D g m_y e_y ) (cwV 1 hts gL_law_X9_fold rfl rfl rfl (by decide +kernel) ⟨Nat.le_of_ble_eq_true rfl, Nat.le_of_ble_eq_true rfl⟩) S m_y e_y (T := TX9) (N := 23) rfl rfl hl.1 rfl (Nat.le_of_ble_eq_true rfl) dL_law_852 ⟨Nat.le_of_ble_eq_true rfl, Nat.le_of_ble_eq_true rfl⟩ (fun r6 L4 f5 H locs S w852 => ?_)
  have ex2 := w852.1
  refine lv_icmp_eq (tgt := 1121) hx hb dL_law_855 (by decide) (fun b855 => ?_) (fun b855 => absurd (ex1.trans ex2.symm) b855)
  obtain ⟨i1, ei1⟩ : ∃ y : Int32, y = 0 + 6 := ⟨_, rfl⟩
  refine lv_iinc (v := i1) (lv' := [(3, .int i1), (2, .ref y), (1, .ref x), (0, .ref bs)]) hx hb dL_law_1121 hl (k := 0) rfl (by rw [ei1]; rfl) (by decide) rfl (fun ls hl => ?_)
  refine lv_goto (tgt := 18) hx hb dL_law_1124 (by decide) ?_
  refine lv_iload_n hx hb dL_law_18 rfl (lv_at hl 0 rfl) ?_
  refine lv_aload_n hx hb dL_law_19 rfl (lv_at hl 3 rfl) ?_
  refine va_slen hx hb hX hbl (Nat.not_le.mpr hbl) S.2.2.2.1 dL_law_20 ?_
  refine lv_bipush (v := 6) hx hb dL_law_21 (by decide) ?_
  refine lv_isub hx hb dL_law_23 ?_
  refine lv_icmp_gt (tgt := 1127) hx hb dL_law_24 (by decide) (fun b24 => ?_) (fun b24 => absurd (by rw [ei1]; decide) b24)
  refine lv_iconst (v := 1) hx hb dL_law_1127 (by decide) ?_
  refine va_forget (fun q hq => S.2.2.2.1.2.2 q hq) ?_
  refine W.widen (k := 600000) (n := 7302250) (by decide) (by decide) ?_
  exact lw_ret hx hb hr hlk dL_law_1128

set_option maxHeartbeats 4000000 in
set_option maxRecDepth 100000 in
theorem law_16 {p : Program} {l : Launch} {e : Env} {s : State} {m : MethodId} {below : List Frame} {meth : Method} {c : Code} {bs : Nat} {xs : Nat → Int32} {D : va_G} {g : Nat → ClassId} {Lx L : List Nat} {f : Nat → va_E} {H : Heap} {locs : List Loc} {ls : Array Slot} {x wo Sl dr drr ri rir th thr so pa ta la ba si tt tp sw ch im rm bo bw y y0 y1 y2 y3 y4 y5 y6 y7 y8 y9 y10 y11 y12 y13 y15 y16 y17 y18 y19 y20 y21 y22 : Nat} {wf sf : Nat → Option Nat} {vd vs vs2 : Nat → Int64} {vl vb : Nat → Int32} {v_worlds : Nat → Int64} {v_inWorld : Nat → Int32} {v_kind : Nat → Int32} {v_size : Nat → Int32} {v_marks : Nat → Int32} {v_seed : Nat → Int32} {v_contents : Nat → Int64} {v_contentMany : Nat → Int32} {v_row : Nat → Int32} {v_bits : Nat → Int32} {v_layerSize : Nat → Int32} {v_layerCame : Nat → Int32} {v_rest : Nat → Int64} {v_restMany : Nat → Int32} {v_come : Nat → Int64} {v_rivals : Nat → Int64} {v_gone : Nat → Int64} {v_order : Nat → Int32} {v_offAt : Nat → Int32} {v_isOff : Nat → Int32} {v_alone : Nat → Int32} {v_kept : Nat → Int32} (hx : p.tables.exec = Jvm.exec) (hb : c.code = cL_law) (hr : meth.sig.returnType = ret) (hml : c.maxLocals = 4) (hown : s.vm.findClass RL = some m.cls) (hts : ∀ w ∈ wsL_law, w.before #[Value.ref bs] s = true) (hX : va_X bs 6 xs s s.heap) (hbl : bs < s.heap.size) (hlk : meth.locks = false) (S : PS D g (fun q : Nat => s.heap.size ≤ q) s.heap s L f H locs) (hl : lv_has ls 4 [(3, .int 0), (2, .ref y), (1, .ref x), (0, .ref bs)]) (m_x : x ∈ L) (e_x : f x = .inr (6, [.ref wo, .ref Sl, .ref dr, .ref ri, .ref th, .ref so, .ref ch, .int 0])) (m_wo : wo ∈ L) (e_wo : f wo = .inl (g 3, 8, .inr (.inr (.inr (.inr wf))))) (m_Sl : Sl ∈ L) (e_Sl : f Sl = .inl (g 5, 30, .inr (.inr (.inr (.inr sf))))) (m_dr : dr ∈ L) (e_dr : f dr = .inr (0, [.ref drr, .int ((nI 0))])) (m_drr : drr ∈ L) (e_drr : f drr = .inl (g 1, 1000, .inr (.inl vd))) (m_ri : ri ∈ L) (e_ri : f ri = .inr (0, [.ref rir, .int ((nI 0))])) (m_th : th ∈ L) (e_th : f th = .inr (0, [.ref thr, .int ((nI 0))])) (m_so : so ∈ L) (e_so : f so = .inr (5, [.ref pa, .ref ta, .ref la, .ref ba, .ref si, .ref tt, .ref tp, .int 0, .int 0])) (m_la : la ∈ L) (e_la : f la = .inl (g 0, 3774, .inl vl)) (m_ba : ba ∈ L) (e_ba : f ba = .inl (g 0, 3774, .inl vb)) (m_si : si ∈ L) (e_si : f si = .inr (1, [.ref sw, .int ((nI 0))])) (m_sw : sw ∈ L) (e_sw : f sw = .inl (g 1, 64, .inr (.inl vs))) (m_ch : ch ∈ L) (e_ch : f ch = .inr (2, [.ref im, .ref rm, .ref bo, .int 0, .int 0])) (m_bo : bo ∈ L) (e_bo : f bo = .inr (1, [.ref bw, .int ((nI 0))])) (m_bw : bw ∈ L) (e_bw : f bw = .inl (g 1, 64, .inr (.inl vs2))) (m_y : y ∈ L) (e_y : f y = .inr (7, [.ref y0, .ref y1, .ref y2, .ref y3, .ref y4, .ref y5, .ref y6, .ref y7, .ref y8, .ref y9, .ref y10, .ref y11, .ref y12, .ref y13, .int 0, .ref y15, .ref y16, .ref y17, .ref y18, .ref y19, .ref y20, .ref y21, .ref y22])) (m_y0 : y0 ∈ L) (e_y0 : f y0 = .inl (g 1, 8000, .inr (.inl v_worlds))) (m_y1 : y1 ∈ L) (e_y1 : f y1 = .inl (g 0, 8, .inl v_inWorld)) (m_y2 : y2 ∈ L) (e_y2 : f y2 = .inl (g 0, 30, .inl v_kind)) (m_y3 : y3 ∈ L) (e_y3 : f y3 = .inl (g 0, 30, .inl v_size)) (m_y4 : y4 ∈ L) (e_y4 : f y4 = .inl (g 0, 30, .inl v_marks)) (m_y5 : y5 ∈ L) (e_y5 : f y5 = .inl (g 0, 30, .inl v_seed)) (m_y6 : y6 ∈ L) (e_y6 : f y6 = .inl (g 1, 30000, .inr (.inl v_contents))) (m_y7 : y7 ∈ L) (e_y7 : f y7 = .inl (g 0, 30, .inl v_contentMany)) (m_y8 : y8 ∈ L) (e_y8 : f y8 = .inl (g 0, 122880, .inl v_row)) (m_y9 : y9 ∈ L) (e_y9 : f y9 = .inl (g 0, 76800, .inl v_bits)) (m_y10 : y10 ∈ L) (e_y10 : f y10 = .inl (g 0, 600, .inl v_layerSize)) (m_y11 : y11 ∈ L) (e_y11 : f y11 = .inl (g 0, 600, .inl v_layerCame)) (m_y12 : y12 ∈ L) (e_y12 : f y12 = .inl (g 1, 30000, .inr (.inl v_rest))) (m_y13 : y13 ∈ L) (e_y13 : f y13 = .inl (g 0, 30, .inl v_restMany)) (m_y15 : y15 ∈ L) (e_y15 : f y15 = .inl (g 1, 1000, .inr (.inl v_come))) (m_y16 : y16 ∈ L) (e_y16 : f y16 = .inl (g 1, 1000, .inr (.inl v_rivals))) (m_y17 : y17 ∈ L) (e_y17 : f y17 = .inl (g 1, 1000, .inr (.inl v_gone))) (m_y18 : y18 ∈ L) (e_y18 : f y18 = .inl (g 0, 1000, .inl v_order)) (m_y19 : y19 ∈ L) (e_y19 : f y19 = .inl (g 0, 1000, .inl v_offAt)) (m_y20 : y20 ∈ L) (e_y20 : f y20 = .inl (g 2, 1000, .inl v_isOff)) (m_y21 : y21 ∈ L) (e_y21 : f y21 = .inl (g 0, 4096, .inl v_alone)) (m_y22 : y22 ∈ L) (e_y22 : f y22 = .inl (g 0, 4096, .inl v_kept)) (hs0 : sf 0 = none) (n_ri_dr : ri ≠ dr) (n_th_dr : th ≠ dr) (n_th_ri : th ≠ ri) (n_ba_la : ba ≠ la) (hW2 : ∀ j, j < 8 → ∃ b rb : Nat, ∃ vb : Nat → Int64, wf j = some b ∧ b ∈ L ∧ f b = .inr (0, [.ref rb, .int (nI 0)]) ∧ rb ∈ L ∧ f rb = .inl (g 1, 1000, .inr (.inl vb)) ∧ b ≠ dr ∧ b ≠ ri ∧ b ≠ th ∧ rb ≠ drr ∧ b ∈ Lx ∧ rb ∈ Lx) (hI : ∀ j, j < 8 → v_inWorld j = 0) (hnd : [y, y0, y1, y2, y3, y4, y5, y6, y7, y8, y9, y10, y11, y12, y13, y15, y16, y17, y18, y19, y20, y21, y22].Nodup) (lx_x : x ∈ Lx) (lx_Sl : Sl ∈ Lx) (lx_dr : dr ∈ Lx) (lx_drr : drr ∈ Lx) (lx_ri : ri ∈ Lx) (lx_th : th ∈ Lx) (lx_so : so ∈ Lx) (lx_la : la ∈ Lx) (lx_ba : ba ∈ Lx) (lx_si : si ∈ Lx) (lx_sw : sw ∈ Lx) (lx_ch : ch ∈ Lx) (lx_bo : bo ∈ Lx) (lx_bw : bw ∈ Lx) (nx_y : y ∉ Lx) (nx_y0 : y0 ∉ Lx) (nx_y1 : y1 ∉ Lx) (nx_y2 : y2 ∉ Lx) (nx_y3 : y3 ∉ Lx) (nx_y4 : y4 ∉ Lx) (nx_y5 : y5 ∉ Lx) (nx_y6 : y6 ∉ Lx) (nx_y7 : y7 ∉ Lx) (nx_y8 : y8 ∉ Lx) (nx_y9 : y9 ∉ Lx) (nx_y10 : y10 ∉ Lx) (nx_y11 : y11 ∉ Lx) (nx_y12 : y12 ∉ Lx) (nx_y13 : y13 ∉ Lx) (nx_y15 : y15 ∉ Lx) (nx_y16 : y16 ∉ Lx) (nx_y17 : y17 ∉ Lx) (nx_y18 : y18 ∉ Lx) (nx_y19 : y19 ∉ Lx) (nx_y20 : y20 ∉ Lx) (nx_y21 : y21 ∉ Lx) (nx_y22 : y22 ∉ Lx) : W p l e room_1 s m #[Value.ref bs] below meth c H locs 62 310045 (lw_Z below #[Value.ref bs] s) (F0 m 860 ls []) := by
  have hW : ∀ j, j < 8 → ∃ b rb : Nat, ∃ vb : Nat → Int64, wf j = some b ∧ b ∈ L ∧ f b = .inr (0, [.ref rb, .int (nI 0)]) ∧ rb ∈ L ∧ f rb = .inl (g 1, 1000, .inr (.inl vb)) ∧ b ≠ dr ∧ b ≠ ri ∧ b ≠ th := fun j hj => by obtain ⟨b, rb, vb, h1, h2, h3, h4, h5, h6, h7, h8, -⟩ := hW2 j hj; exact ⟨b, rb, vb, h1, h2, h3, h4, h5, h6, h7, h8⟩
  refine lv_aload_n hx hb dL_law_860 rfl (lv_at hl 2 rfl) ?_
  refine lv_aload_n hx hb dL_law_861 rfl (lv_at hl 3 rfl) ?_
  refine lv_iload_n hx hb dL_law_862 rfl (lv_at hl 0 rfl) ?_
  refine lv_iconst (v := 1) hx hb dL_law_863 (by decide) ?_
  refine lv_iadd hx hb dL_law_864 ?_
  refine lv_topi (fun t_ et_ => ?_)
  obtain rfl : t_ = 1 := et_.trans (by decide)
  refine va_sld hx hb hX hbl (Nat.not_le.mpr hbl) S.2.2.2.1 (vp_in_nI (n := 1) (by omega) (by decide)) dL_law_865 ?_
  refine lv_aload_n hx hb dL_law_866 rfl (lv_at hl 3 rfl) ?_
  refine lv_iload_n hx hb dL_law_867 rfl (lv_at hl 0 rfl) ?_
  refine lv_iconst (v := 2) hx hb dL_law_868 (by decide) ?_
  refine lv_iadd hx hb dL_law_869 ?_
  refine lv_topi (fun t_ et_ => ?_)
  obtain rfl : t_ = 2 := et_.trans (by decide)
  refine va_sld hx hb hX hbl (Nat.not_le.mpr hbl) S.2.2.2.1 (vp_in_nI (n := 2) (by omega) (by decide)) dL_law_870 ?_
  refine q_vi (As := [.int ((xs (1 : Int32).toNatClampNeg)), .int ((xs (2 : Int32).toNatClampNeg))]) (rest := []) ⟨hx, hb, hml, hown, hts⟩ (c_X8_about0 l D g m_x e_x ) (cwV 2 hts gL_law_X8_about rfl rfl rfl (by decide +kernel) ⟨Nat.le_of_ble_eq_true rfl, Nat.le_of_ble_eq_true rfl⟩) S m_x e_x (T := TX8) (N := 8) rfl rfl hl.1 rfl (Nat.le_of_ble_eq_true rfl) dL_law_871 ⟨Nat.le_of_ble_eq_true rfl, Nat.le_of_ble_eq_true rfl⟩ (fun r3 L1 f2 H locs S w871 => ?_)
  obtain ⟨ex1, eL1, ef1⟩ := w871
  rw [eL1, ef1] at S
  refine lv_aload_n hx hb dL_law_874 rfl (lv_at hl 1 rfl) ?_
  refine lv_aload_n hx hb dL_law_875 rfl (lv_at hl 3 rfl) ?_
  refine lv_iload_n hx hb dL_law_876 rfl (lv_at hl 0 rfl) ?_
  refine lv_iconst (v := 1) hx hb dL_law_877 (by decide) ?_
  refine lv_iadd hx hb dL_law_878 ?_
  refine lv_topi (fun t_ et_ => ?_)
  obtain rfl : t_ = 1 := et_.trans (by decide)
  refine va_sld hx hb hX hbl (Nat.not_le.mpr hbl) S.2.2.2.1 (vp_in_nI (n := 1) (by omega) (by decide)) dL_law_879 ?_
  refine lv_aload_n hx hb dL_law_880 rfl (lv_at hl 3 rfl) ?_
  refine lv_iload_n hx hb dL_law_881 rfl (lv_at hl 0 rfl) ?_
  refine lv_iconst (v := 2) hx hb dL_law_882 (by decide) ?_
  refine lv_iadd hx hb dL_law_883 ?_
  refine lv_topi (fun t_ et_ => ?_)
  obtain rfl : t_ = 2 := et_.trans (by decide)
  refine va_sld hx hb hX hbl (Nat.not_le.mpr hbl) S.2.2.2.1 (vp_in_nI (n := 2) (by omega) (by decide)) dL_law_884 ?_
  refine q_vi (As := [.int ((xs (1 : Int32).toNatClampNeg)), .int ((xs (2 : Int32).toNatClampNeg))]) (rest := [.int r3]) ⟨hx, hb, hml, hown, hts⟩ (c_X9_about0 l D g m_y e_y ) (cwV 2 hts gL_law_X9_about rfl rfl rfl (by decide +kernel) ⟨Nat.le_of_ble_eq_true rfl, Nat.le_of_ble_eq_true rfl⟩) S m_y e_y (T := TX9) (N := 23) rfl rfl hl.1 rfl (Nat.le_of_ble_eq_true rfl) dL_law_885 ⟨Nat.le_of_ble_eq_true rfl, Nat.le_of_ble_eq_true rfl⟩ (fun r6 L4 f5 H locs S w885 => ?_)
  have ex2 := w885.1
  refine lv_icmp_eq (tgt := 1121) hx hb dL_law_888 (by decide) (fun b888 => ?_) (fun b888 => absurd (ex1.trans ex2.symm) b888)
  obtain ⟨i1, ei1⟩ : ∃ y : Int32, y = 0 + 6 := ⟨_, rfl⟩
  refine lv_iinc (v := i1) (lv' := [(3, .int i1), (2, .ref y), (1, .ref x), (0, .ref bs)]) hx hb dL_law_1121 hl (k := 0) rfl (by rw [ei1]; rfl) (by decide) rfl (fun ls hl => ?_)
  refine lv_goto (tgt := 18) hx hb dL_law_1124 (by decide) ?_
  refine lv_iload_n hx hb dL_law_18 rfl (lv_at hl 0 rfl) ?_
  refine lv_aload_n hx hb dL_law_19 rfl (lv_at hl 3 rfl) ?_
  refine va_slen hx hb hX hbl (Nat.not_le.mpr hbl) S.2.2.2.1 dL_law_20 ?_
  refine lv_bipush (v := 6) hx hb dL_law_21 (by decide) ?_
  refine lv_isub hx hb dL_law_23 ?_
  refine lv_icmp_gt (tgt := 1127) hx hb dL_law_24 (by decide) (fun b24 => ?_) (fun b24 => absurd (by rw [ei1]; decide) b24)
  refine lv_iconst (v := 1) hx hb dL_law_1127 (by decide) ?_
  refine va_forget (fun q hq => S.2.2.2.1.2.2 q hq) ?_
  refine W.widen (k := 600000) (n := 7302250) (by decide) (by decide) ?_
  exact lw_ret hx hb hr hlk dL_law_1128

set_option maxHeartbeats 4000000 in
set_option maxRecDepth 100000 in
theorem law_17 {p : Program} {l : Launch} {e : Env} {s : State} {m : MethodId} {below : List Frame} {meth : Method} {c : Code} {bs : Nat} {xs : Nat → Int32} {D : va_G} {g : Nat → ClassId} {Lx L : List Nat} {f : Nat → va_E} {H : Heap} {locs : List Loc} {ls : Array Slot} {x wo Sl dr drr ri rir th thr so pa ta la ba si tt tp sw ch im rm bo bw y y0 y1 y2 y3 y4 y5 y6 y7 y8 y9 y10 y11 y12 y13 y15 y16 y17 y18 y19 y20 y21 y22 : Nat} {wf sf : Nat → Option Nat} {vd vs vs2 : Nat → Int64} {vl vb : Nat → Int32} {v_worlds : Nat → Int64} {v_inWorld : Nat → Int32} {v_kind : Nat → Int32} {v_size : Nat → Int32} {v_marks : Nat → Int32} {v_seed : Nat → Int32} {v_contents : Nat → Int64} {v_contentMany : Nat → Int32} {v_row : Nat → Int32} {v_bits : Nat → Int32} {v_layerSize : Nat → Int32} {v_layerCame : Nat → Int32} {v_rest : Nat → Int64} {v_restMany : Nat → Int32} {v_come : Nat → Int64} {v_rivals : Nat → Int64} {v_gone : Nat → Int64} {v_order : Nat → Int32} {v_offAt : Nat → Int32} {v_isOff : Nat → Int32} {v_alone : Nat → Int32} {v_kept : Nat → Int32} (hx : p.tables.exec = Jvm.exec) (hb : c.code = cL_law) (hr : meth.sig.returnType = ret) (hml : c.maxLocals = 4) (hown : s.vm.findClass RL = some m.cls) (hts : ∀ w ∈ wsL_law, w.before #[Value.ref bs] s = true) (hX : va_X bs 6 xs s s.heap) (hbl : bs < s.heap.size) (hlk : meth.locks = false) (S : PS D g (fun q : Nat => s.heap.size ≤ q) s.heap s L f H locs) (hl : lv_has ls 4 [(3, .int 0), (2, .ref y), (1, .ref x), (0, .ref bs)]) (m_x : x ∈ L) (e_x : f x = .inr (6, [.ref wo, .ref Sl, .ref dr, .ref ri, .ref th, .ref so, .ref ch, .int 0])) (m_wo : wo ∈ L) (e_wo : f wo = .inl (g 3, 8, .inr (.inr (.inr (.inr wf))))) (m_Sl : Sl ∈ L) (e_Sl : f Sl = .inl (g 5, 30, .inr (.inr (.inr (.inr sf))))) (m_dr : dr ∈ L) (e_dr : f dr = .inr (0, [.ref drr, .int ((nI 0))])) (m_drr : drr ∈ L) (e_drr : f drr = .inl (g 1, 1000, .inr (.inl vd))) (m_ri : ri ∈ L) (e_ri : f ri = .inr (0, [.ref rir, .int ((nI 0))])) (m_th : th ∈ L) (e_th : f th = .inr (0, [.ref thr, .int ((nI 0))])) (m_so : so ∈ L) (e_so : f so = .inr (5, [.ref pa, .ref ta, .ref la, .ref ba, .ref si, .ref tt, .ref tp, .int 0, .int 0])) (m_la : la ∈ L) (e_la : f la = .inl (g 0, 3774, .inl vl)) (m_ba : ba ∈ L) (e_ba : f ba = .inl (g 0, 3774, .inl vb)) (m_si : si ∈ L) (e_si : f si = .inr (1, [.ref sw, .int ((nI 0))])) (m_sw : sw ∈ L) (e_sw : f sw = .inl (g 1, 64, .inr (.inl vs))) (m_ch : ch ∈ L) (e_ch : f ch = .inr (2, [.ref im, .ref rm, .ref bo, .int 0, .int 0])) (m_bo : bo ∈ L) (e_bo : f bo = .inr (1, [.ref bw, .int ((nI 0))])) (m_bw : bw ∈ L) (e_bw : f bw = .inl (g 1, 64, .inr (.inl vs2))) (m_y : y ∈ L) (e_y : f y = .inr (7, [.ref y0, .ref y1, .ref y2, .ref y3, .ref y4, .ref y5, .ref y6, .ref y7, .ref y8, .ref y9, .ref y10, .ref y11, .ref y12, .ref y13, .int 0, .ref y15, .ref y16, .ref y17, .ref y18, .ref y19, .ref y20, .ref y21, .ref y22])) (m_y0 : y0 ∈ L) (e_y0 : f y0 = .inl (g 1, 8000, .inr (.inl v_worlds))) (m_y1 : y1 ∈ L) (e_y1 : f y1 = .inl (g 0, 8, .inl v_inWorld)) (m_y2 : y2 ∈ L) (e_y2 : f y2 = .inl (g 0, 30, .inl v_kind)) (m_y3 : y3 ∈ L) (e_y3 : f y3 = .inl (g 0, 30, .inl v_size)) (m_y4 : y4 ∈ L) (e_y4 : f y4 = .inl (g 0, 30, .inl v_marks)) (m_y5 : y5 ∈ L) (e_y5 : f y5 = .inl (g 0, 30, .inl v_seed)) (m_y6 : y6 ∈ L) (e_y6 : f y6 = .inl (g 1, 30000, .inr (.inl v_contents))) (m_y7 : y7 ∈ L) (e_y7 : f y7 = .inl (g 0, 30, .inl v_contentMany)) (m_y8 : y8 ∈ L) (e_y8 : f y8 = .inl (g 0, 122880, .inl v_row)) (m_y9 : y9 ∈ L) (e_y9 : f y9 = .inl (g 0, 76800, .inl v_bits)) (m_y10 : y10 ∈ L) (e_y10 : f y10 = .inl (g 0, 600, .inl v_layerSize)) (m_y11 : y11 ∈ L) (e_y11 : f y11 = .inl (g 0, 600, .inl v_layerCame)) (m_y12 : y12 ∈ L) (e_y12 : f y12 = .inl (g 1, 30000, .inr (.inl v_rest))) (m_y13 : y13 ∈ L) (e_y13 : f y13 = .inl (g 0, 30, .inl v_restMany)) (m_y15 : y15 ∈ L) (e_y15 : f y15 = .inl (g 1, 1000, .inr (.inl v_come))) (m_y16 : y16 ∈ L) (e_y16 : f y16 = .inl (g 1, 1000, .inr (.inl v_rivals))) (m_y17 : y17 ∈ L) (e_y17 : f y17 = .inl (g 1, 1000, .inr (.inl v_gone))) (m_y18 : y18 ∈ L) (e_y18 : f y18 = .inl (g 0, 1000, .inl v_order)) (m_y19 : y19 ∈ L) (e_y19 : f y19 = .inl (g 0, 1000, .inl v_offAt)) (m_y20 : y20 ∈ L) (e_y20 : f y20 = .inl (g 2, 1000, .inl v_isOff)) (m_y21 : y21 ∈ L) (e_y21 : f y21 = .inl (g 0, 4096, .inl v_alone)) (m_y22 : y22 ∈ L) (e_y22 : f y22 = .inl (g 0, 4096, .inl v_kept)) (hs0 : sf 0 = none) (n_ri_dr : ri ≠ dr) (n_th_dr : th ≠ dr) (n_th_ri : th ≠ ri) (n_ba_la : ba ≠ la) (hW2 : ∀ j, j < 8 → ∃ b rb : Nat, ∃ vb : Nat → Int64, wf j = some b ∧ b ∈ L ∧ f b = .inr (0, [.ref rb, .int (nI 0)]) ∧ rb ∈ L ∧ f rb = .inl (g 1, 1000, .inr (.inl vb)) ∧ b ≠ dr ∧ b ≠ ri ∧ b ≠ th ∧ rb ≠ drr ∧ b ∈ Lx ∧ rb ∈ Lx) (hI : ∀ j, j < 8 → v_inWorld j = 0) (hnd : [y, y0, y1, y2, y3, y4, y5, y6, y7, y8, y9, y10, y11, y12, y13, y15, y16, y17, y18, y19, y20, y21, y22].Nodup) (lx_x : x ∈ Lx) (lx_Sl : Sl ∈ Lx) (lx_dr : dr ∈ Lx) (lx_drr : drr ∈ Lx) (lx_ri : ri ∈ Lx) (lx_th : th ∈ Lx) (lx_so : so ∈ Lx) (lx_la : la ∈ Lx) (lx_ba : ba ∈ Lx) (lx_si : si ∈ Lx) (lx_sw : sw ∈ Lx) (lx_ch : ch ∈ Lx) (lx_bo : bo ∈ Lx) (lx_bw : bw ∈ Lx) (nx_y : y ∉ Lx) (nx_y0 : y0 ∉ Lx) (nx_y1 : y1 ∉ Lx) (nx_y2 : y2 ∉ Lx) (nx_y3 : y3 ∉ Lx) (nx_y4 : y4 ∉ Lx) (nx_y5 : y5 ∉ Lx) (nx_y6 : y6 ∉ Lx) (nx_y7 : y7 ∉ Lx) (nx_y8 : y8 ∉ Lx) (nx_y9 : y9 ∉ Lx) (nx_y10 : y10 ∉ Lx) (nx_y11 : y11 ∉ Lx) (nx_y12 : y12 ∉ Lx) (nx_y13 : y13 ∉ Lx) (nx_y15 : y15 ∉ Lx) (nx_y16 : y16 ∉ Lx) (nx_y17 : y17 ∉ Lx) (nx_y18 : y18 ∉ Lx) (nx_y19 : y19 ∉ Lx) (nx_y20 : y20 ∉ Lx) (nx_y21 : y21 ∉ Lx) (nx_y22 : y22 ∉ Lx) : W p l e room_1 s m #[Value.ref bs] below meth c H locs 62 310045 (lw_Z below #[Value.ref bs] s) (F0 m 893 ls []) := by
  have hW : ∀ j, j < 8 → ∃ b rb : Nat, ∃ vb : Nat → Int64, wf j = some b ∧ b ∈ L ∧ f b = .inr (0, [.ref rb, .int (nI 0)]) ∧ rb ∈ L ∧ f rb = .inl (g 1, 1000, .inr (.inl vb)) ∧ b ≠ dr ∧ b ≠ ri ∧ b ≠ th := fun j hj => by obtain ⟨b, rb, vb, h1, h2, h3, h4, h5, h6, h7, h8, -⟩ := hW2 j hj; exact ⟨b, rb, vb, h1, h2, h3, h4, h5, h6, h7, h8⟩
  refine lv_aload_n hx hb dL_law_893 rfl (lv_at hl 2 rfl) ?_
  refine lv_aload_n hx hb dL_law_894 rfl (lv_at hl 3 rfl) ?_
  refine lv_iload_n hx hb dL_law_895 rfl (lv_at hl 0 rfl) ?_
  refine lv_iconst (v := 1) hx hb dL_law_896 (by decide) ?_
  refine lv_iadd hx hb dL_law_897 ?_
  refine lv_topi (fun t_ et_ => ?_)
  obtain rfl : t_ = 1 := et_.trans (by decide)
  refine va_sld hx hb hX hbl (Nat.not_le.mpr hbl) S.2.2.2.1 (vp_in_nI (n := 1) (by omega) (by decide)) dL_law_898 ?_
  refine lv_aload_n hx hb dL_law_899 rfl (lv_at hl 3 rfl) ?_
  refine lv_iload_n hx hb dL_law_900 rfl (lv_at hl 0 rfl) ?_
  refine lv_iconst (v := 2) hx hb dL_law_901 (by decide) ?_
  refine lv_iadd hx hb dL_law_902 ?_
  refine lv_topi (fun t_ et_ => ?_)
  obtain rfl : t_ = 2 := et_.trans (by decide)
  refine va_sld hx hb hX hbl (Nat.not_le.mpr hbl) S.2.2.2.1 (vp_in_nI (n := 2) (by omega) (by decide)) dL_law_903 ?_
  refine q_vi (As := [.int ((xs (1 : Int32).toNatClampNeg)), .int ((xs (2 : Int32).toNatClampNeg))]) (rest := []) ⟨hx, hb, hml, hown, hts⟩ (c_X8_cell0 l D g m_x e_x ) (cwV 2 hts gL_law_X8_cell rfl rfl rfl (by decide +kernel) ⟨Nat.le_of_ble_eq_true rfl, Nat.le_of_ble_eq_true rfl⟩) S m_x e_x (T := TX8) (N := 8) rfl rfl hl.1 rfl (Nat.le_of_ble_eq_true rfl) dL_law_904 ⟨Nat.le_of_ble_eq_true rfl, Nat.le_of_ble_eq_true rfl⟩ (fun r3 L1 f2 H locs S w904 => ?_)
  obtain ⟨ex1, eL1, ef1⟩ := w904
  rw [eL1, ef1] at S
  refine lv_aload_n hx hb dL_law_907 rfl (lv_at hl 1 rfl) ?_
  refine lv_aload_n hx hb dL_law_908 rfl (lv_at hl 3 rfl) ?_
  refine lv_iload_n hx hb dL_law_909 rfl (lv_at hl 0 rfl) ?_
  refine lv_iconst (v := 1) hx hb dL_law_910 (by decide) ?_
  refine lv_iadd hx hb dL_law_911 ?_
  refine lv_topi (fun t_ et_ => ?_)
  obtain rfl : t_ = 1 := et_.trans (by decide)
  refine va_sld hx hb hX hbl (Nat.not_le.mpr hbl) S.2.2.2.1 (vp_in_nI (n := 1) (by omega) (by decide)) dL_law_912 ?_
  refine lv_aload_n hx hb dL_law_913 rfl (lv_at hl 3 rfl) ?_
  refine lv_iload_n hx hb dL_law_914 rfl (lv_at hl 0 rfl) ?_
  refine lv_iconst (v := 2) hx hb dL_law_915 (by decide) ?_
  refine lv_iadd hx hb dL_law_916 ?_
  refine lv_topi (fun t_ et_ => ?_)
  obtain rfl : t_ = 2 := et_.trans (by decide)
  refine va_sld hx hb hX hbl (Nat.not_le.mpr hbl) S.2.2.2.1 (vp_in_nI (n := 2) (by omega) (by decide)) dL_law_917 ?_
  refine q_vi (As := [.int ((xs (1 : Int32).toNatClampNeg)), .int ((xs (2 : Int32).toNatClampNeg))]) (rest := [.int r3]) ⟨hx, hb, hml, hown, hts⟩ (c_X9_cell0 l D g m_y e_y ) (cwV 2 hts gL_law_X9_cell rfl rfl rfl (by decide +kernel) ⟨Nat.le_of_ble_eq_true rfl, Nat.le_of_ble_eq_true rfl⟩) S m_y e_y (T := TX9) (N := 23) rfl rfl hl.1 rfl (Nat.le_of_ble_eq_true rfl) dL_law_918 ⟨Nat.le_of_ble_eq_true rfl, Nat.le_of_ble_eq_true rfl⟩ (fun r6 L4 f5 H locs S w918 => ?_)
  have ex2 := w918.1
  refine lv_icmp_eq (tgt := 1121) hx hb dL_law_921 (by decide) (fun b921 => ?_) (fun b921 => absurd (ex1.trans ex2.symm) b921)
  obtain ⟨i1, ei1⟩ : ∃ y : Int32, y = 0 + 6 := ⟨_, rfl⟩
  refine lv_iinc (v := i1) (lv' := [(3, .int i1), (2, .ref y), (1, .ref x), (0, .ref bs)]) hx hb dL_law_1121 hl (k := 0) rfl (by rw [ei1]; rfl) (by decide) rfl (fun ls hl => ?_)
  refine lv_goto (tgt := 18) hx hb dL_law_1124 (by decide) ?_
  refine lv_iload_n hx hb dL_law_18 rfl (lv_at hl 0 rfl) ?_
  refine lv_aload_n hx hb dL_law_19 rfl (lv_at hl 3 rfl) ?_
  refine va_slen hx hb hX hbl (Nat.not_le.mpr hbl) S.2.2.2.1 dL_law_20 ?_
  refine lv_bipush (v := 6) hx hb dL_law_21 (by decide) ?_
  refine lv_isub hx hb dL_law_23 ?_
  refine lv_icmp_gt (tgt := 1127) hx hb dL_law_24 (by decide) (fun b24 => ?_) (fun b24 => absurd (by rw [ei1]; decide) b24)
  refine lv_iconst (v := 1) hx hb dL_law_1127 (by decide) ?_
  refine va_forget (fun q hq => S.2.2.2.1.2.2 q hq) ?_
  refine W.widen (k := 600000) (n := 7302250) (by decide) (by decide) ?_
  exact lw_ret hx hb hr hlk dL_law_1128

set_option maxHeartbeats 4000000 in
set_option maxRecDepth 100000 in
theorem law_18 {p : Program} {l : Launch} {e : Env} {s : State} {m : MethodId} {below : List Frame} {meth : Method} {c : Code} {bs : Nat} {xs : Nat → Int32} {D : va_G} {g : Nat → ClassId} {Lx L : List Nat} {f : Nat → va_E} {H : Heap} {locs : List Loc} {ls : Array Slot} {x wo Sl dr drr ri rir th thr so pa ta la ba si tt tp sw ch im rm bo bw y y0 y1 y2 y3 y4 y5 y6 y7 y8 y9 y10 y11 y12 y13 y15 y16 y17 y18 y19 y20 y21 y22 : Nat} {wf sf : Nat → Option Nat} {vd vs vs2 : Nat → Int64} {vl vb : Nat → Int32} {v_worlds : Nat → Int64} {v_inWorld : Nat → Int32} {v_kind : Nat → Int32} {v_size : Nat → Int32} {v_marks : Nat → Int32} {v_seed : Nat → Int32} {v_contents : Nat → Int64} {v_contentMany : Nat → Int32} {v_row : Nat → Int32} {v_bits : Nat → Int32} {v_layerSize : Nat → Int32} {v_layerCame : Nat → Int32} {v_rest : Nat → Int64} {v_restMany : Nat → Int32} {v_come : Nat → Int64} {v_rivals : Nat → Int64} {v_gone : Nat → Int64} {v_order : Nat → Int32} {v_offAt : Nat → Int32} {v_isOff : Nat → Int32} {v_alone : Nat → Int32} {v_kept : Nat → Int32} (hx : p.tables.exec = Jvm.exec) (hb : c.code = cL_law) (hr : meth.sig.returnType = ret) (hml : c.maxLocals = 4) (hown : s.vm.findClass RL = some m.cls) (hts : ∀ w ∈ wsL_law, w.before #[Value.ref bs] s = true) (hX : va_X bs 6 xs s s.heap) (hbl : bs < s.heap.size) (hlk : meth.locks = false) (S : PS D g (fun q : Nat => s.heap.size ≤ q) s.heap s L f H locs) (hl : lv_has ls 4 [(3, .int 0), (2, .ref y), (1, .ref x), (0, .ref bs)]) (m_x : x ∈ L) (e_x : f x = .inr (6, [.ref wo, .ref Sl, .ref dr, .ref ri, .ref th, .ref so, .ref ch, .int 0])) (m_wo : wo ∈ L) (e_wo : f wo = .inl (g 3, 8, .inr (.inr (.inr (.inr wf))))) (m_Sl : Sl ∈ L) (e_Sl : f Sl = .inl (g 5, 30, .inr (.inr (.inr (.inr sf))))) (m_dr : dr ∈ L) (e_dr : f dr = .inr (0, [.ref drr, .int ((nI 0))])) (m_drr : drr ∈ L) (e_drr : f drr = .inl (g 1, 1000, .inr (.inl vd))) (m_ri : ri ∈ L) (e_ri : f ri = .inr (0, [.ref rir, .int ((nI 0))])) (m_th : th ∈ L) (e_th : f th = .inr (0, [.ref thr, .int ((nI 0))])) (m_so : so ∈ L) (e_so : f so = .inr (5, [.ref pa, .ref ta, .ref la, .ref ba, .ref si, .ref tt, .ref tp, .int 0, .int 0])) (m_la : la ∈ L) (e_la : f la = .inl (g 0, 3774, .inl vl)) (m_ba : ba ∈ L) (e_ba : f ba = .inl (g 0, 3774, .inl vb)) (m_si : si ∈ L) (e_si : f si = .inr (1, [.ref sw, .int ((nI 0))])) (m_sw : sw ∈ L) (e_sw : f sw = .inl (g 1, 64, .inr (.inl vs))) (m_ch : ch ∈ L) (e_ch : f ch = .inr (2, [.ref im, .ref rm, .ref bo, .int 0, .int 0])) (m_bo : bo ∈ L) (e_bo : f bo = .inr (1, [.ref bw, .int ((nI 0))])) (m_bw : bw ∈ L) (e_bw : f bw = .inl (g 1, 64, .inr (.inl vs2))) (m_y : y ∈ L) (e_y : f y = .inr (7, [.ref y0, .ref y1, .ref y2, .ref y3, .ref y4, .ref y5, .ref y6, .ref y7, .ref y8, .ref y9, .ref y10, .ref y11, .ref y12, .ref y13, .int 0, .ref y15, .ref y16, .ref y17, .ref y18, .ref y19, .ref y20, .ref y21, .ref y22])) (m_y0 : y0 ∈ L) (e_y0 : f y0 = .inl (g 1, 8000, .inr (.inl v_worlds))) (m_y1 : y1 ∈ L) (e_y1 : f y1 = .inl (g 0, 8, .inl v_inWorld)) (m_y2 : y2 ∈ L) (e_y2 : f y2 = .inl (g 0, 30, .inl v_kind)) (m_y3 : y3 ∈ L) (e_y3 : f y3 = .inl (g 0, 30, .inl v_size)) (m_y4 : y4 ∈ L) (e_y4 : f y4 = .inl (g 0, 30, .inl v_marks)) (m_y5 : y5 ∈ L) (e_y5 : f y5 = .inl (g 0, 30, .inl v_seed)) (m_y6 : y6 ∈ L) (e_y6 : f y6 = .inl (g 1, 30000, .inr (.inl v_contents))) (m_y7 : y7 ∈ L) (e_y7 : f y7 = .inl (g 0, 30, .inl v_contentMany)) (m_y8 : y8 ∈ L) (e_y8 : f y8 = .inl (g 0, 122880, .inl v_row)) (m_y9 : y9 ∈ L) (e_y9 : f y9 = .inl (g 0, 76800, .inl v_bits)) (m_y10 : y10 ∈ L) (e_y10 : f y10 = .inl (g 0, 600, .inl v_layerSize)) (m_y11 : y11 ∈ L) (e_y11 : f y11 = .inl (g 0, 600, .inl v_layerCame)) (m_y12 : y12 ∈ L) (e_y12 : f y12 = .inl (g 1, 30000, .inr (.inl v_rest))) (m_y13 : y13 ∈ L) (e_y13 : f y13 = .inl (g 0, 30, .inl v_restMany)) (m_y15 : y15 ∈ L) (e_y15 : f y15 = .inl (g 1, 1000, .inr (.inl v_come))) (m_y16 : y16 ∈ L) (e_y16 : f y16 = .inl (g 1, 1000, .inr (.inl v_rivals))) (m_y17 : y17 ∈ L) (e_y17 : f y17 = .inl (g 1, 1000, .inr (.inl v_gone))) (m_y18 : y18 ∈ L) (e_y18 : f y18 = .inl (g 0, 1000, .inl v_order)) (m_y19 : y19 ∈ L) (e_y19 : f y19 = .inl (g 0, 1000, .inl v_offAt)) (m_y20 : y20 ∈ L) (e_y20 : f y20 = .inl (g 2, 1000, .inl v_isOff)) (m_y21 : y21 ∈ L) (e_y21 : f y21 = .inl (g 0, 4096, .inl v_alone)) (m_y22 : y22 ∈ L) (e_y22 : f y22 = .inl (g 0, 4096, .inl v_kept)) (hs0 : sf 0 = none) (n_ri_dr : ri ≠ dr) (n_th_dr : th ≠ dr) (n_th_ri : th ≠ ri) (n_ba_la : ba ≠ la) (hW2 : ∀ j, j < 8 → ∃ b rb : Nat, ∃ vb : Nat → Int64, wf j = some b ∧ b ∈ L ∧ f b = .inr (0, [.ref rb, .int (nI 0)]) ∧ rb ∈ L ∧ f rb = .inl (g 1, 1000, .inr (.inl vb)) ∧ b ≠ dr ∧ b ≠ ri ∧ b ≠ th ∧ rb ≠ drr ∧ b ∈ Lx ∧ rb ∈ Lx) (hI : ∀ j, j < 8 → v_inWorld j = 0) (hnd : [y, y0, y1, y2, y3, y4, y5, y6, y7, y8, y9, y10, y11, y12, y13, y15, y16, y17, y18, y19, y20, y21, y22].Nodup) (lx_x : x ∈ Lx) (lx_Sl : Sl ∈ Lx) (lx_dr : dr ∈ Lx) (lx_drr : drr ∈ Lx) (lx_ri : ri ∈ Lx) (lx_th : th ∈ Lx) (lx_so : so ∈ Lx) (lx_la : la ∈ Lx) (lx_ba : ba ∈ Lx) (lx_si : si ∈ Lx) (lx_sw : sw ∈ Lx) (lx_ch : ch ∈ Lx) (lx_bo : bo ∈ Lx) (lx_bw : bw ∈ Lx) (nx_y : y ∉ Lx) (nx_y0 : y0 ∉ Lx) (nx_y1 : y1 ∉ Lx) (nx_y2 : y2 ∉ Lx) (nx_y3 : y3 ∉ Lx) (nx_y4 : y4 ∉ Lx) (nx_y5 : y5 ∉ Lx) (nx_y6 : y6 ∉ Lx) (nx_y7 : y7 ∉ Lx) (nx_y8 : y8 ∉ Lx) (nx_y9 : y9 ∉ Lx) (nx_y10 : y10 ∉ Lx) (nx_y11 : y11 ∉ Lx) (nx_y12 : y12 ∉ Lx) (nx_y13 : y13 ∉ Lx) (nx_y15 : y15 ∉ Lx) (nx_y16 : y16 ∉ Lx) (nx_y17 : y17 ∉ Lx) (nx_y18 : y18 ∉ Lx) (nx_y19 : y19 ∉ Lx) (nx_y20 : y20 ∉ Lx) (nx_y21 : y21 ∉ Lx) (nx_y22 : y22 ∉ Lx) : W p l e room_1 s m #[Value.ref bs] below meth c H locs 62 310045 (lw_Z below #[Value.ref bs] s) (F0 m 926 ls []) := by
  have hW : ∀ j, j < 8 → ∃ b rb : Nat, ∃ vb : Nat → Int64, wf j = some b ∧ b ∈ L ∧ f b = .inr (0, [.ref rb, .int (nI 0)]) ∧ rb ∈ L ∧ f rb = .inl (g 1, 1000, .inr (.inl vb)) ∧ b ≠ dr ∧ b ≠ ri ∧ b ≠ th := fun j hj => by obtain ⟨b, rb, vb, h1, h2, h3, h4, h5, h6, h7, h8, -⟩ := hW2 j hj; exact ⟨b, rb, vb, h1, h2, h3, h4, h5, h6, h7, h8⟩
  refine lv_aload_n hx hb dL_law_926 rfl (lv_at hl 2 rfl) ?_
  refine lv_aload_n hx hb dL_law_927 rfl (lv_at hl 3 rfl) ?_
  refine lv_iload_n hx hb dL_law_928 rfl (lv_at hl 0 rfl) ?_
  refine lv_iconst (v := 1) hx hb dL_law_929 (by decide) ?_
  refine lv_iadd hx hb dL_law_930 ?_
  refine lv_topi (fun t_ et_ => ?_)
  obtain rfl : t_ = 1 := et_.trans (by decide)
  refine va_sld hx hb hX hbl (Nat.not_le.mpr hbl) S.2.2.2.1 (vp_in_nI (n := 1) (by omega) (by decide)) dL_law_931 ?_
  refine lv_aload_n hx hb dL_law_932 rfl (lv_at hl 3 rfl) ?_
  refine lv_iload_n hx hb dL_law_933 rfl (lv_at hl 0 rfl) ?_
  refine lv_iconst (v := 2) hx hb dL_law_934 (by decide) ?_
  refine lv_iadd hx hb dL_law_935 ?_
  refine lv_topi (fun t_ et_ => ?_)
  obtain rfl : t_ = 2 := et_.trans (by decide)
  refine va_sld hx hb hX hbl (Nat.not_le.mpr hbl) S.2.2.2.1 (vp_in_nI (n := 2) (by omega) (by decide)) dL_law_936 ?_
  refine lv_aload_n hx hb dL_law_937 rfl (lv_at hl 3 rfl) ?_
  refine lv_iload_n hx hb dL_law_938 rfl (lv_at hl 0 rfl) ?_
  refine lv_iconst (v := 3) hx hb dL_law_939 (by decide) ?_
  refine lv_iadd hx hb dL_law_940 ?_
  refine lv_topi (fun t_ et_ => ?_)
  obtain rfl : t_ = 3 := et_.trans (by decide)
  refine va_sld hx hb hX hbl (Nat.not_le.mpr hbl) S.2.2.2.1 (vp_in_nI (n := 3) (by omega) (by decide)) dL_law_941 ?_
  refine q_vi (As := [.int ((xs (1 : Int32).toNatClampNeg)), .int ((xs (2 : Int32).toNatClampNeg)), .int ((xs (3 : Int32).toNatClampNeg))]) (rest := []) ⟨hx, hb, hml, hown, hts⟩ (c_X8_layer0 l D g m_x e_x ) (cwV 3 hts gL_law_X8_layer rfl rfl rfl (by decide +kernel) ⟨Nat.le_of_ble_eq_true rfl, Nat.le_of_ble_eq_true rfl⟩) S m_x e_x (T := TX8) (N := 8) rfl rfl hl.1 rfl (Nat.le_of_ble_eq_true rfl) dL_law_942 ⟨Nat.le_of_ble_eq_true rfl, Nat.le_of_ble_eq_true rfl⟩ (fun r3 L1 f2 H locs S w942 => ?_)
  obtain ⟨ex1, eL1, ef1⟩ := w942
  rw [eL1, ef1] at S
  refine lv_aload_n hx hb dL_law_945 rfl (lv_at hl 1 rfl) ?_
  refine lv_aload_n hx hb dL_law_946 rfl (lv_at hl 3 rfl) ?_
  refine lv_iload_n hx hb dL_law_947 rfl (lv_at hl 0 rfl) ?_
  refine lv_iconst (v := 1) hx hb dL_law_948 (by decide) ?_
  refine lv_iadd hx hb dL_law_949 ?_
  refine lv_topi (fun t_ et_ => ?_)
  obtain rfl : t_ = 1 := et_.trans (by decide)
  refine va_sld hx hb hX hbl (Nat.not_le.mpr hbl) S.2.2.2.1 (vp_in_nI (n := 1) (by omega) (by decide)) dL_law_950 ?_
  refine lv_aload_n hx hb dL_law_951 rfl (lv_at hl 3 rfl) ?_
  refine lv_iload_n hx hb dL_law_952 rfl (lv_at hl 0 rfl) ?_
  refine lv_iconst (v := 2) hx hb dL_law_953 (by decide) ?_
  refine lv_iadd hx hb dL_law_954 ?_
  refine lv_topi (fun t_ et_ => ?_)
  obtain rfl : t_ = 2 := et_.trans (by decide)
  refine va_sld hx hb hX hbl (Nat.not_le.mpr hbl) S.2.2.2.1 (vp_in_nI (n := 2) (by omega) (by decide)) dL_law_955 ?_
  refine lv_aload_n hx hb dL_law_956 rfl (lv_at hl 3 rfl) ?_
  refine lv_iload_n hx hb dL_law_957 rfl (lv_at hl 0 rfl) ?_
  refine lv_iconst (v := 3) hx hb dL_law_958 (by decide) ?_
  refine lv_iadd hx hb dL_law_959 ?_
  refine lv_topi (fun t_ et_ => ?_)
  obtain rfl : t_ = 3 := et_.trans (by decide)
  refine va_sld hx hb hX hbl (Nat.not_le.mpr hbl) S.2.2.2.1 (vp_in_nI (n := 3) (by omega) (by decide)) dL_law_960 ?_
  refine q_vi (As := [.int ((xs (1 : Int32).toNatClampNeg)), .int ((xs (2 : Int32).toNatClampNeg)), .int ((xs (3 : Int32).toNatClampNeg))]) (rest := [.int r3]) ⟨hx, hb, hml, hown, hts⟩ (c_X9_layer0 l D g m_y e_y ) (cwV 3 hts gL_law_X9_layer rfl rfl rfl (by decide +kernel) ⟨Nat.le_of_ble_eq_true rfl, Nat.le_of_ble_eq_true rfl⟩) S m_y e_y (T := TX9) (N := 23) rfl rfl hl.1 rfl (Nat.le_of_ble_eq_true rfl) dL_law_961 ⟨Nat.le_of_ble_eq_true rfl, Nat.le_of_ble_eq_true rfl⟩ (fun r6 L4 f5 H locs S w961 => ?_)
  have ex2 := w961.1
  refine lv_icmp_eq (tgt := 1121) hx hb dL_law_964 (by decide) (fun b964 => ?_) (fun b964 => absurd (ex1.trans ex2.symm) b964)
  obtain ⟨i1, ei1⟩ : ∃ y : Int32, y = 0 + 6 := ⟨_, rfl⟩
  refine lv_iinc (v := i1) (lv' := [(3, .int i1), (2, .ref y), (1, .ref x), (0, .ref bs)]) hx hb dL_law_1121 hl (k := 0) rfl (by rw [ei1]; rfl) (by decide) rfl (fun ls hl => ?_)
  refine lv_goto (tgt := 18) hx hb dL_law_1124 (by decide) ?_
  refine lv_iload_n hx hb dL_law_18 rfl (lv_at hl 0 rfl) ?_
  refine lv_aload_n hx hb dL_law_19 rfl (lv_at hl 3 rfl) ?_
  refine va_slen hx hb hX hbl (Nat.not_le.mpr hbl) S.2.2.2.1 dL_law_20 ?_
  refine lv_bipush (v := 6) hx hb dL_law_21 (by decide) ?_
  refine lv_isub hx hb dL_law_23 ?_
  refine lv_icmp_gt (tgt := 1127) hx hb dL_law_24 (by decide) (fun b24 => ?_) (fun b24 => absurd (by rw [ei1]; decide) b24)
  refine lv_iconst (v := 1) hx hb dL_law_1127 (by decide) ?_
  refine va_forget (fun q hq => S.2.2.2.1.2.2 q hq) ?_
  refine W.widen (k := 600000) (n := 7302250) (by decide) (by decide) ?_
  exact lw_ret hx hb hr hlk dL_law_1128

set_option maxHeartbeats 4000000 in
set_option maxRecDepth 100000 in
theorem law_19 {p : Program} {l : Launch} {e : Env} {s : State} {m : MethodId} {below : List Frame} {meth : Method} {c : Code} {bs : Nat} {xs : Nat → Int32} {D : va_G} {g : Nat → ClassId} {Lx L : List Nat} {f : Nat → va_E} {H : Heap} {locs : List Loc} {ls : Array Slot} {x wo Sl dr drr ri rir th thr so pa ta la ba si tt tp sw ch im rm bo bw y y0 y1 y2 y3 y4 y5 y6 y7 y8 y9 y10 y11 y12 y13 y15 y16 y17 y18 y19 y20 y21 y22 : Nat} {wf sf : Nat → Option Nat} {vd vs vs2 : Nat → Int64} {vl vb : Nat → Int32} {v_worlds : Nat → Int64} {v_inWorld : Nat → Int32} {v_kind : Nat → Int32} {v_size : Nat → Int32} {v_marks : Nat → Int32} {v_seed : Nat → Int32} {v_contents : Nat → Int64} {v_contentMany : Nat → Int32} {v_row : Nat → Int32} {v_bits : Nat → Int32} {v_layerSize : Nat → Int32} {v_layerCame : Nat → Int32} {v_rest : Nat → Int64} {v_restMany : Nat → Int32} {v_come : Nat → Int64} {v_rivals : Nat → Int64} {v_gone : Nat → Int64} {v_order : Nat → Int32} {v_offAt : Nat → Int32} {v_isOff : Nat → Int32} {v_alone : Nat → Int32} {v_kept : Nat → Int32} (hx : p.tables.exec = Jvm.exec) (hb : c.code = cL_law) (hr : meth.sig.returnType = ret) (hml : c.maxLocals = 4) (hown : s.vm.findClass RL = some m.cls) (hts : ∀ w ∈ wsL_law, w.before #[Value.ref bs] s = true) (hX : va_X bs 6 xs s s.heap) (hbl : bs < s.heap.size) (hlk : meth.locks = false) (S : PS D g (fun q : Nat => s.heap.size ≤ q) s.heap s L f H locs) (hl : lv_has ls 4 [(3, .int 0), (2, .ref y), (1, .ref x), (0, .ref bs)]) (m_x : x ∈ L) (e_x : f x = .inr (6, [.ref wo, .ref Sl, .ref dr, .ref ri, .ref th, .ref so, .ref ch, .int 0])) (m_wo : wo ∈ L) (e_wo : f wo = .inl (g 3, 8, .inr (.inr (.inr (.inr wf))))) (m_Sl : Sl ∈ L) (e_Sl : f Sl = .inl (g 5, 30, .inr (.inr (.inr (.inr sf))))) (m_dr : dr ∈ L) (e_dr : f dr = .inr (0, [.ref drr, .int ((nI 0))])) (m_drr : drr ∈ L) (e_drr : f drr = .inl (g 1, 1000, .inr (.inl vd))) (m_ri : ri ∈ L) (e_ri : f ri = .inr (0, [.ref rir, .int ((nI 0))])) (m_th : th ∈ L) (e_th : f th = .inr (0, [.ref thr, .int ((nI 0))])) (m_so : so ∈ L) (e_so : f so = .inr (5, [.ref pa, .ref ta, .ref la, .ref ba, .ref si, .ref tt, .ref tp, .int 0, .int 0])) (m_la : la ∈ L) (e_la : f la = .inl (g 0, 3774, .inl vl)) (m_ba : ba ∈ L) (e_ba : f ba = .inl (g 0, 3774, .inl vb)) (m_si : si ∈ L) (e_si : f si = .inr (1, [.ref sw, .int ((nI 0))])) (m_sw : sw ∈ L) (e_sw : f sw = .inl (g 1, 64, .inr (.inl vs))) (m_ch : ch ∈ L) (e_ch : f ch = .inr (2, [.ref im, .ref rm, .ref bo, .int 0, .int 0])) (m_bo : bo ∈ L) (e_bo : f bo = .inr (1, [.ref bw, .int ((nI 0))])) (m_bw : bw ∈ L) (e_bw : f bw = .inl (g 1, 64, .inr (.inl vs2))) (m_y : y ∈ L) (e_y : f y = .inr (7, [.ref y0, .ref y1, .ref y2, .ref y3, .ref y4, .ref y5, .ref y6, .ref y7, .ref y8, .ref y9, .ref y10, .ref y11, .ref y12, .ref y13, .int 0, .ref y15, .ref y16, .ref y17, .ref y18, .ref y19, .ref y20, .ref y21, .ref y22])) (m_y0 : y0 ∈ L) (e_y0 : f y0 = .inl (g 1, 8000, .inr (.inl v_worlds))) (m_y1 : y1 ∈ L) (e_y1 : f y1 = .inl (g 0, 8, .inl v_inWorld)) (m_y2 : y2 ∈ L) (e_y2 : f y2 = .inl (g 0, 30, .inl v_kind)) (m_y3 : y3 ∈ L) (e_y3 : f y3 = .inl (g 0, 30, .inl v_size)) (m_y4 : y4 ∈ L) (e_y4 : f y4 = .inl (g 0, 30, .inl v_marks)) (m_y5 : y5 ∈ L) (e_y5 : f y5 = .inl (g 0, 30, .inl v_seed)) (m_y6 : y6 ∈ L) (e_y6 : f y6 = .inl (g 1, 30000, .inr (.inl v_contents))) (m_y7 : y7 ∈ L) (e_y7 : f y7 = .inl (g 0, 30, .inl v_contentMany)) (m_y8 : y8 ∈ L) (e_y8 : f y8 = .inl (g 0, 122880, .inl v_row)) (m_y9 : y9 ∈ L) (e_y9 : f y9 = .inl (g 0, 76800, .inl v_bits)) (m_y10 : y10 ∈ L) (e_y10 : f y10 = .inl (g 0, 600, .inl v_layerSize)) (m_y11 : y11 ∈ L) (e_y11 : f y11 = .inl (g 0, 600, .inl v_layerCame)) (m_y12 : y12 ∈ L) (e_y12 : f y12 = .inl (g 1, 30000, .inr (.inl v_rest))) (m_y13 : y13 ∈ L) (e_y13 : f y13 = .inl (g 0, 30, .inl v_restMany)) (m_y15 : y15 ∈ L) (e_y15 : f y15 = .inl (g 1, 1000, .inr (.inl v_come))) (m_y16 : y16 ∈ L) (e_y16 : f y16 = .inl (g 1, 1000, .inr (.inl v_rivals))) (m_y17 : y17 ∈ L) (e_y17 : f y17 = .inl (g 1, 1000, .inr (.inl v_gone))) (m_y18 : y18 ∈ L) (e_y18 : f y18 = .inl (g 0, 1000, .inl v_order)) (m_y19 : y19 ∈ L) (e_y19 : f y19 = .inl (g 0, 1000, .inl v_offAt)) (m_y20 : y20 ∈ L) (e_y20 : f y20 = .inl (g 2, 1000, .inl v_isOff)) (m_y21 : y21 ∈ L) (e_y21 : f y21 = .inl (g 0, 4096, .inl v_alone)) (m_y22 : y22 ∈ L) (e_y22 : f y22 = .inl (g 0, 4096, .inl v_kept)) (hs0 : sf 0 = none) (n_ri_dr : ri ≠ dr) (n_th_dr : th ≠ dr) (n_th_ri : th ≠ ri) (n_ba_la : ba ≠ la) (hW2 : ∀ j, j < 8 → ∃ b rb : Nat, ∃ vb : Nat → Int64, wf j = some b ∧ b ∈ L ∧ f b = .inr (0, [.ref rb, .int (nI 0)]) ∧ rb ∈ L ∧ f rb = .inl (g 1, 1000, .inr (.inl vb)) ∧ b ≠ dr ∧ b ≠ ri ∧ b ≠ th ∧ rb ≠ drr ∧ b ∈ Lx ∧ rb ∈ Lx) (hI : ∀ j, j < 8 → v_inWorld j = 0) (hnd : [y, y0, y1, y2, y3, y4, y5, y6, y7, y8, y9, y10, y11, y12, y13, y15, y16, y17, y18, y19, y20, y21, y22].Nodup) (lx_x : x ∈ Lx) (lx_Sl : Sl ∈ Lx) (lx_dr : dr ∈ Lx) (lx_drr : drr ∈ Lx) (lx_ri : ri ∈ Lx) (lx_th : th ∈ Lx) (lx_so : so ∈ Lx) (lx_la : la ∈ Lx) (lx_ba : ba ∈ Lx) (lx_si : si ∈ Lx) (lx_sw : sw ∈ Lx) (lx_ch : ch ∈ Lx) (lx_bo : bo ∈ Lx) (lx_bw : bw ∈ Lx) (nx_y : y ∉ Lx) (nx_y0 : y0 ∉ Lx) (nx_y1 : y1 ∉ Lx) (nx_y2 : y2 ∉ Lx) (nx_y3 : y3 ∉ Lx) (nx_y4 : y4 ∉ Lx) (nx_y5 : y5 ∉ Lx) (nx_y6 : y6 ∉ Lx) (nx_y7 : y7 ∉ Lx) (nx_y8 : y8 ∉ Lx) (nx_y9 : y9 ∉ Lx) (nx_y10 : y10 ∉ Lx) (nx_y11 : y11 ∉ Lx) (nx_y12 : y12 ∉ Lx) (nx_y13 : y13 ∉ Lx) (nx_y15 : y15 ∉ Lx) (nx_y16 : y16 ∉ Lx) (nx_y17 : y17 ∉ Lx) (nx_y18 : y18 ∉ Lx) (nx_y19 : y19 ∉ Lx) (nx_y20 : y20 ∉ Lx) (nx_y21 : y21 ∉ Lx) (nx_y22 : y22 ∉ Lx) : W p l e room_1 s m #[Value.ref bs] below meth c H locs 62 310045 (lw_Z below #[Value.ref bs] s) (F0 m 969 ls []) := by
  have hW : ∀ j, j < 8 → ∃ b rb : Nat, ∃ vb : Nat → Int64, wf j = some b ∧ b ∈ L ∧ f b = .inr (0, [.ref rb, .int (nI 0)]) ∧ rb ∈ L ∧ f rb = .inl (g 1, 1000, .inr (.inl vb)) ∧ b ≠ dr ∧ b ≠ ri ∧ b ≠ th := fun j hj => by obtain ⟨b, rb, vb, h1, h2, h3, h4, h5, h6, h7, h8, -⟩ := hW2 j hj; exact ⟨b, rb, vb, h1, h2, h3, h4, h5, h6, h7, h8⟩
  refine lv_aload_n hx hb dL_law_969 rfl (lv_at hl 2 rfl) ?_
  refine lv_aload_n hx hb dL_law_970 rfl (lv_at hl 3 rfl) ?_
  refine lv_iload_n hx hb dL_law_971 rfl (lv_at hl 0 rfl) ?_
  refine lv_iconst (v := 1) hx hb dL_law_972 (by decide) ?_
  refine lv_iadd hx hb dL_law_973 ?_
  refine lv_topi (fun t_ et_ => ?_)
  obtain rfl : t_ = 1 := et_.trans (by decide)
  refine va_sld hx hb hX hbl (Nat.not_le.mpr hbl) S.2.2.2.1 (vp_in_nI (n := 1) (by omega) (by decide)) dL_law_974 ?_
  refine lv_aload_n hx hb dL_law_975 rfl (lv_at hl 3 rfl) ?_
  refine lv_iload_n hx hb dL_law_976 rfl (lv_at hl 0 rfl) ?_
  refine lv_iconst (v := 2) hx hb dL_law_977 (by decide) ?_
  refine lv_iadd hx hb dL_law_978 ?_
  refine lv_topi (fun t_ et_ => ?_)
  obtain rfl : t_ = 2 := et_.trans (by decide)
  refine va_sld hx hb hX hbl (Nat.not_le.mpr hbl) S.2.2.2.1 (vp_in_nI (n := 2) (by omega) (by decide)) dL_law_979 ?_
  refine lv_i2l hx hb dL_law_980 rfl ?_
  refine lv_bipush (v := 32) hx hb dL_law_981 (by decide) ?_
  refine lv_lshl hx hb dL_law_983 rfl ?_
  refine lv_aload_n hx hb dL_law_984 rfl (lv_at hl 3 rfl) ?_
  refine lv_iload_n hx hb dL_law_985 rfl (lv_at hl 0 rfl) ?_
  refine lv_iconst (v := 3) hx hb dL_law_986 (by decide) ?_
  refine lv_iadd hx hb dL_law_987 ?_
  refine lv_topi (fun t_ et_ => ?_)
  obtain rfl : t_ = 3 := et_.trans (by decide)
  refine va_sld hx hb hX hbl (Nat.not_le.mpr hbl) S.2.2.2.1 (vp_in_nI (n := 3) (by omega) (by decide)) dL_law_988 ?_
  refine lv_i2l hx hb dL_law_989 rfl ?_
  refine lv_ldc2 (v := (4294967295)) hx hb hown (hts (.constantLong RL 13 (4294967295)) (by decide +kernel)) dL_law_990 ?_
  refine lv_land hx hb dL_law_993 ?_
  refine lv_lor hx hb dL_law_994 ?_
  refine lv_topl (fun fs1 efs1 => ?_)
  refine lv_aload_n hx hb dL_law_995 rfl (lv_at hl 3 rfl) ?_
  refine lv_iload_n hx hb dL_law_996 rfl (lv_at hl 0 rfl) ?_
  refine lv_iconst (v := 4) hx hb dL_law_997 (by decide) ?_
  refine lv_iadd hx hb dL_law_998 ?_
  refine lv_topi (fun t_ et_ => ?_)
  obtain rfl : t_ = 4 := et_.trans (by decide)
  refine va_sld hx hb hX hbl (Nat.not_le.mpr hbl) S.2.2.2.1 (vp_in_nI (n := 4) (by omega) (by decide)) dL_law_999 ?_
  refine q_vi (As := [.int ((xs (1 : Int32).toNatClampNeg)), .long fs1, .int ((xs (4 : Int32).toNatClampNeg))]) (rest := []) ⟨hx, hb, hml, hown, hts⟩ (c_X8_mark0 l D g m_x e_x ) (cwV 3 hts gL_law_X8_mark rfl rfl rfl (by decide +kernel) ⟨Nat.le_of_ble_eq_true rfl, Nat.le_of_ble_eq_true rfl⟩) S m_x e_x (T := TX8) (N := 8) rfl rfl hl.1 rfl (Nat.le_of_ble_eq_true rfl) dL_law_1000 ⟨Nat.le_of_ble_eq_true rfl, Nat.le_of_ble_eq_true rfl⟩ (fun r3 L1 f2 H locs S w1000 => ?_)
  obtain ⟨ex1, eL1, ef1⟩ := w1000
  rw [eL1, ef1] at S
  refine lv_aload_n hx hb dL_law_1003 rfl (lv_at hl 1 rfl) ?_
  refine lv_aload_n hx hb dL_law_1004 rfl (lv_at hl 3 rfl) ?_
  refine lv_iload_n hx hb dL_law_1005 rfl (lv_at hl 0 rfl) ?_
  refine lv_iconst (v := 1) hx hb dL_law_1006 (by decide) ?_
  refine lv_iadd hx hb dL_law_1007 ?_
  refine lv_topi (fun t_ et_ => ?_)
  obtain rfl : t_ = 1 := et_.trans (by decide)
  refine va_sld hx hb hX hbl (Nat.not_le.mpr hbl) S.2.2.2.1 (vp_in_nI (n := 1) (by omega) (by decide)) dL_law_1008 ?_
  refine lv_aload_n hx hb dL_law_1009 rfl (lv_at hl 3 rfl) ?_
  refine lv_iload_n hx hb dL_law_1010 rfl (lv_at hl 0 rfl) ?_
  refine lv_iconst (v := 2) hx hb dL_law_1011 (by decide) ?_
  refine lv_iadd hx hb dL_law_1012 ?_
  refine lv_topi (fun t_ et_ => ?_)
  obtain rfl : t_ = 2 := et_.trans (by decide)
  refine va_sld hx hb hX hbl (Nat.not_le.mpr hbl) S.2.2.2.1 (vp_in_nI (n := 2) (by omega) (by decide)) dL_law_1013 ?_
  refine lv_i2l hx hb dL_law_1014 rfl ?_
  refine lv_bipush (v := 32) hx hb dL_law_1015 (by decide) ?_
  refine lv_lshl hx hb dL_law_1017 rfl ?_
  refine lv_aload_n hx hb dL_law_1018 rfl (lv_at hl 3 rfl) ?_
  refine lv_iload_n hx hb dL_law_1019 rfl (lv_at hl 0 rfl) ?_
  refine lv_iconst (v := 3) hx hb dL_law_1020 (by decide) ?_
  refine lv_iadd hx hb dL_law_1021 ?_
  refine lv_topi (fun t_ et_ => ?_)
  obtain rfl : t_ = 3 := et_.trans (by decide)
  refine va_sld hx hb hX hbl (Nat.not_le.mpr hbl) S.2.2.2.1 (vp_in_nI (n := 3) (by omega) (by decide)) dL_law_1022 ?_
  refine lv_i2l hx hb dL_law_1023 rfl ?_
  refine lv_ldc2 (v := (4294967295)) hx hb hown (hts (.constantLong RL 13 (4294967295)) (by decide +kernel)) dL_law_1024 ?_
  refine lv_land hx hb dL_law_1027 ?_
  refine lv_lor hx hb dL_law_1028 ?_
  refine lv_topl (fun fs2 efs2 => ?_)
  obtain rfl : fs1 = fs2 := efs1.trans efs2.symm
  refine lv_aload_n hx hb dL_law_1029 rfl (lv_at hl 3 rfl) ?_
  refine lv_iload_n hx hb dL_law_1030 rfl (lv_at hl 0 rfl) ?_
  refine lv_iconst (v := 4) hx hb dL_law_1031 (by decide) ?_
  refine lv_iadd hx hb dL_law_1032 ?_
  refine lv_topi (fun t_ et_ => ?_)
  obtain rfl : t_ = 4 := et_.trans (by decide)
  refine va_sld hx hb hX hbl (Nat.not_le.mpr hbl) S.2.2.2.1 (vp_in_nI (n := 4) (by omega) (by decide)) dL_law_1033 ?_
  refine q_vi (As := [.int ((xs (1 : Int32).toNatClampNeg)), .long fs1, .int ((xs (4 : Int32).toNatClampNeg))]) (rest := [.int r3]) ⟨hx, hb, hml, hown, hts⟩ (c_X9_mark0 l D g m_y e_y ) (cwV 3 hts gL_law_X9_mark rfl rfl rfl (by decide +kernel) ⟨Nat.le_of_ble_eq_true rfl, Nat.le_of_ble_eq_true rfl⟩) S m_y e_y (T := TX9) (N := 23) rfl rfl hl.1 rfl (Nat.le_of_ble_eq_true rfl) dL_law_1034 ⟨Nat.le_of_ble_eq_true rfl, Nat.le_of_ble_eq_true rfl⟩ (fun r6 L4 f5 H locs S w1034 => ?_)
  have ex2 := w1034.1
  refine lv_icmp_eq (tgt := 1121) hx hb dL_law_1037 (by decide) (fun b1037 => ?_) (fun b1037 => absurd (ex1.trans ex2.symm) b1037)
  obtain ⟨i1, ei1⟩ : ∃ y : Int32, y = 0 + 6 := ⟨_, rfl⟩
  refine lv_iinc (v := i1) (lv' := [(3, .int i1), (2, .ref y), (1, .ref x), (0, .ref bs)]) hx hb dL_law_1121 hl (k := 0) rfl (by rw [ei1]; rfl) (by decide) rfl (fun ls hl => ?_)
  refine lv_goto (tgt := 18) hx hb dL_law_1124 (by decide) ?_
  refine lv_iload_n hx hb dL_law_18 rfl (lv_at hl 0 rfl) ?_
  refine lv_aload_n hx hb dL_law_19 rfl (lv_at hl 3 rfl) ?_
  refine va_slen hx hb hX hbl (Nat.not_le.mpr hbl) S.2.2.2.1 dL_law_20 ?_
  refine lv_bipush (v := 6) hx hb dL_law_21 (by decide) ?_
  refine lv_isub hx hb dL_law_23 ?_
  refine lv_icmp_gt (tgt := 1127) hx hb dL_law_24 (by decide) (fun b24 => ?_) (fun b24 => absurd (by rw [ei1]; decide) b24)
  refine lv_iconst (v := 1) hx hb dL_law_1127 (by decide) ?_
  refine va_forget (fun q hq => S.2.2.2.1.2.2 q hq) ?_
  refine W.widen (k := 600000) (n := 7302250) (by decide) (by decide) ?_
  exact lw_ret hx hb hr hlk dL_law_1128

set_option maxHeartbeats 4000000 in
set_option maxRecDepth 100000 in
theorem law_21 {p : Program} {l : Launch} {e : Env} {s : State} {m : MethodId} {below : List Frame} {meth : Method} {c : Code} {bs : Nat} {xs : Nat → Int32} {D : va_G} {g : Nat → ClassId} {Lx L : List Nat} {f : Nat → va_E} {H : Heap} {locs : List Loc} {ls : Array Slot} {x wo Sl dr drr ri rir th thr so pa ta la ba si tt tp sw ch im rm bo bw y y0 y1 y2 y3 y4 y5 y6 y7 y8 y9 y10 y11 y12 y13 y15 y16 y17 y18 y19 y20 y21 y22 : Nat} {wf sf : Nat → Option Nat} {vd vs vs2 : Nat → Int64} {vl vb : Nat → Int32} {v_worlds : Nat → Int64} {v_inWorld : Nat → Int32} {v_kind : Nat → Int32} {v_size : Nat → Int32} {v_marks : Nat → Int32} {v_seed : Nat → Int32} {v_contents : Nat → Int64} {v_contentMany : Nat → Int32} {v_row : Nat → Int32} {v_bits : Nat → Int32} {v_layerSize : Nat → Int32} {v_layerCame : Nat → Int32} {v_rest : Nat → Int64} {v_restMany : Nat → Int32} {v_come : Nat → Int64} {v_rivals : Nat → Int64} {v_gone : Nat → Int64} {v_order : Nat → Int32} {v_offAt : Nat → Int32} {v_isOff : Nat → Int32} {v_alone : Nat → Int32} {v_kept : Nat → Int32} (hx : p.tables.exec = Jvm.exec) (hb : c.code = cL_law) (hr : meth.sig.returnType = ret) (hml : c.maxLocals = 4) (hown : s.vm.findClass RL = some m.cls) (hts : ∀ w ∈ wsL_law, w.before #[Value.ref bs] s = true) (hX : va_X bs 6 xs s s.heap) (hbl : bs < s.heap.size) (hlk : meth.locks = false) (S : PS D g (fun q : Nat => s.heap.size ≤ q) s.heap s L f H locs) (hl : lv_has ls 4 [(3, .int 0), (2, .ref y), (1, .ref x), (0, .ref bs)]) (m_x : x ∈ L) (e_x : f x = .inr (6, [.ref wo, .ref Sl, .ref dr, .ref ri, .ref th, .ref so, .ref ch, .int 0])) (m_wo : wo ∈ L) (e_wo : f wo = .inl (g 3, 8, .inr (.inr (.inr (.inr wf))))) (m_Sl : Sl ∈ L) (e_Sl : f Sl = .inl (g 5, 30, .inr (.inr (.inr (.inr sf))))) (m_dr : dr ∈ L) (e_dr : f dr = .inr (0, [.ref drr, .int ((nI 0))])) (m_drr : drr ∈ L) (e_drr : f drr = .inl (g 1, 1000, .inr (.inl vd))) (m_ri : ri ∈ L) (e_ri : f ri = .inr (0, [.ref rir, .int ((nI 0))])) (m_th : th ∈ L) (e_th : f th = .inr (0, [.ref thr, .int ((nI 0))])) (m_so : so ∈ L) (e_so : f so = .inr (5, [.ref pa, .ref ta, .ref la, .ref ba, .ref si, .ref tt, .ref tp, .int 0, .int 0])) (m_la : la ∈ L) (e_la : f la = .inl (g 0, 3774, .inl vl)) (m_ba : ba ∈ L) (e_ba : f ba = .inl (g 0, 3774, .inl vb)) (m_si : si ∈ L) (e_si : f si = .inr (1, [.ref sw, .int ((nI 0))])) (m_sw : sw ∈ L) (e_sw : f sw = .inl (g 1, 64, .inr (.inl vs))) (m_ch : ch ∈ L) (e_ch : f ch = .inr (2, [.ref im, .ref rm, .ref bo, .int 0, .int 0])) (m_bo : bo ∈ L) (e_bo : f bo = .inr (1, [.ref bw, .int ((nI 0))])) (m_bw : bw ∈ L) (e_bw : f bw = .inl (g 1, 64, .inr (.inl vs2))) (m_y : y ∈ L) (e_y : f y = .inr (7, [.ref y0, .ref y1, .ref y2, .ref y3, .ref y4, .ref y5, .ref y6, .ref y7, .ref y8, .ref y9, .ref y10, .ref y11, .ref y12, .ref y13, .int 0, .ref y15, .ref y16, .ref y17, .ref y18, .ref y19, .ref y20, .ref y21, .ref y22])) (m_y0 : y0 ∈ L) (e_y0 : f y0 = .inl (g 1, 8000, .inr (.inl v_worlds))) (m_y1 : y1 ∈ L) (e_y1 : f y1 = .inl (g 0, 8, .inl v_inWorld)) (m_y2 : y2 ∈ L) (e_y2 : f y2 = .inl (g 0, 30, .inl v_kind)) (m_y3 : y3 ∈ L) (e_y3 : f y3 = .inl (g 0, 30, .inl v_size)) (m_y4 : y4 ∈ L) (e_y4 : f y4 = .inl (g 0, 30, .inl v_marks)) (m_y5 : y5 ∈ L) (e_y5 : f y5 = .inl (g 0, 30, .inl v_seed)) (m_y6 : y6 ∈ L) (e_y6 : f y6 = .inl (g 1, 30000, .inr (.inl v_contents))) (m_y7 : y7 ∈ L) (e_y7 : f y7 = .inl (g 0, 30, .inl v_contentMany)) (m_y8 : y8 ∈ L) (e_y8 : f y8 = .inl (g 0, 122880, .inl v_row)) (m_y9 : y9 ∈ L) (e_y9 : f y9 = .inl (g 0, 76800, .inl v_bits)) (m_y10 : y10 ∈ L) (e_y10 : f y10 = .inl (g 0, 600, .inl v_layerSize)) (m_y11 : y11 ∈ L) (e_y11 : f y11 = .inl (g 0, 600, .inl v_layerCame)) (m_y12 : y12 ∈ L) (e_y12 : f y12 = .inl (g 1, 30000, .inr (.inl v_rest))) (m_y13 : y13 ∈ L) (e_y13 : f y13 = .inl (g 0, 30, .inl v_restMany)) (m_y15 : y15 ∈ L) (e_y15 : f y15 = .inl (g 1, 1000, .inr (.inl v_come))) (m_y16 : y16 ∈ L) (e_y16 : f y16 = .inl (g 1, 1000, .inr (.inl v_rivals))) (m_y17 : y17 ∈ L) (e_y17 : f y17 = .inl (g 1, 1000, .inr (.inl v_gone))) (m_y18 : y18 ∈ L) (e_y18 : f y18 = .inl (g 0, 1000, .inl v_order)) (m_y19 : y19 ∈ L) (e_y19 : f y19 = .inl (g 0, 1000, .inl v_offAt)) (m_y20 : y20 ∈ L) (e_y20 : f y20 = .inl (g 2, 1000, .inl v_isOff)) (m_y21 : y21 ∈ L) (e_y21 : f y21 = .inl (g 0, 4096, .inl v_alone)) (m_y22 : y22 ∈ L) (e_y22 : f y22 = .inl (g 0, 4096, .inl v_kept)) (hs0 : sf 0 = none) (n_ri_dr : ri ≠ dr) (n_th_dr : th ≠ dr) (n_th_ri : th ≠ ri) (n_ba_la : ba ≠ la) (hW2 : ∀ j, j < 8 → ∃ b rb : Nat, ∃ vb : Nat → Int64, wf j = some b ∧ b ∈ L ∧ f b = .inr (0, [.ref rb, .int (nI 0)]) ∧ rb ∈ L ∧ f rb = .inl (g 1, 1000, .inr (.inl vb)) ∧ b ≠ dr ∧ b ≠ ri ∧ b ≠ th ∧ rb ≠ drr ∧ b ∈ Lx ∧ rb ∈ Lx) (hI : ∀ j, j < 8 → v_inWorld j = 0) (hnd : [y, y0, y1, y2, y3, y4, y5, y6, y7, y8, y9, y10, y11, y12, y13, y15, y16, y17, y18, y19, y20, y21, y22].Nodup) (lx_x : x ∈ Lx) (lx_Sl : Sl ∈ Lx) (lx_dr : dr ∈ Lx) (lx_drr : drr ∈ Lx) (lx_ri : ri ∈ Lx) (lx_th : th ∈ Lx) (lx_so : so ∈ Lx) (lx_la : la ∈ Lx) (lx_ba : ba ∈ Lx) (lx_si : si ∈ Lx) (lx_sw : sw ∈ Lx) (lx_ch : ch ∈ Lx) (lx_bo : bo ∈ Lx) (lx_bw : bw ∈ Lx) (nx_y : y ∉ Lx) (nx_y0 : y0 ∉ Lx) (nx_y1 : y1 ∉ Lx) (nx_y2 : y2 ∉ Lx) (nx_y3 : y3 ∉ Lx) (nx_y4 : y4 ∉ Lx) (nx_y5 : y5 ∉ Lx) (nx_y6 : y6 ∉ Lx) (nx_y7 : y7 ∉ Lx) (nx_y8 : y8 ∉ Lx) (nx_y9 : y9 ∉ Lx) (nx_y10 : y10 ∉ Lx) (nx_y11 : y11 ∉ Lx) (nx_y12 : y12 ∉ Lx) (nx_y13 : y13 ∉ Lx) (nx_y15 : y15 ∉ Lx) (nx_y16 : y16 ∉ Lx) (nx_y17 : y17 ∉ Lx) (nx_y18 : y18 ∉ Lx) (nx_y19 : y19 ∉ Lx) (nx_y20 : y20 ∉ Lx) (nx_y21 : y21 ∉ Lx) (nx_y22 : y22 ∉ Lx) : W p l e room_1 s m #[Value.ref bs] below meth c H locs 62 310045 (lw_Z below #[Value.ref bs] s) (F0 m 1095 ls []) := by
  have hW : ∀ j, j < 8 → ∃ b rb : Nat, ∃ vb : Nat → Int64, wf j = some b ∧ b ∈ L ∧ f b = .inr (0, [.ref rb, .int (nI 0)]) ∧ rb ∈ L ∧ f rb = .inl (g 1, 1000, .inr (.inl vb)) ∧ b ≠ dr ∧ b ≠ ri ∧ b ≠ th := fun j hj => by obtain ⟨b, rb, vb, h1, h2, h3, h4, h5, h6, h7, h8, -⟩ := hW2 j hj; exact ⟨b, rb, vb, h1, h2, h3, h4, h5, h6, h7, h8⟩
  refine lv_aload_n hx hb dL_law_1095 rfl (lv_at hl 2 rfl) ?_
  refine q_vi (As := []) (rest := []) ⟨hx, hb, hml, hown, hts⟩ (c_X8_remove0 l D g m_x e_x ) (cwV 0 hts gL_law_X8_remove rfl rfl rfl (by decide +kernel) ⟨Nat.le_of_ble_eq_true rfl, Nat.le_of_ble_eq_true rfl⟩) S m_x e_x (T := TX8) (N := 8) rfl rfl hl.1 rfl (Nat.le_of_ble_eq_true rfl) dL_law_1096 ⟨Nat.le_of_ble_eq_true rfl, Nat.le_of_ble_eq_true rfl⟩ (fun r3 L1 f2 H locs S w1096 => ?_)
  obtain ⟨ex1, eL1, ef1⟩ := w1096
  rw [eL1, ef1] at S
  refine lv_aload_n hx hb dL_law_1099 rfl (lv_at hl 1 rfl) ?_
  refine q_vi (As := []) (rest := [.int r3]) ⟨hx, hb, hml, hown, hts⟩ (c_X9_remove0 l D g m_y e_y ) (cwV 0 hts gL_law_X9_remove rfl rfl rfl (by decide +kernel) ⟨Nat.le_of_ble_eq_true rfl, Nat.le_of_ble_eq_true rfl⟩) S m_y e_y (T := TX9) (N := 23) rfl rfl hl.1 rfl (Nat.le_of_ble_eq_true rfl) dL_law_1100 ⟨Nat.le_of_ble_eq_true rfl, Nat.le_of_ble_eq_true rfl⟩ (fun r6 L4 f5 H locs S w1100 => ?_)
  have ex2 := w1100.1
  refine lv_icmp_eq (tgt := 1121) hx hb dL_law_1103 (by decide) (fun b1103 => ?_) (fun b1103 => absurd (ex1.trans ex2.symm) b1103)
  obtain ⟨i1, ei1⟩ : ∃ y : Int32, y = 0 + 6 := ⟨_, rfl⟩
  refine lv_iinc (v := i1) (lv' := [(3, .int i1), (2, .ref y), (1, .ref x), (0, .ref bs)]) hx hb dL_law_1121 hl (k := 0) rfl (by rw [ei1]; rfl) (by decide) rfl (fun ls hl => ?_)
  refine lv_goto (tgt := 18) hx hb dL_law_1124 (by decide) ?_
  refine lv_iload_n hx hb dL_law_18 rfl (lv_at hl 0 rfl) ?_
  refine lv_aload_n hx hb dL_law_19 rfl (lv_at hl 3 rfl) ?_
  refine va_slen hx hb hX hbl (Nat.not_le.mpr hbl) S.2.2.2.1 dL_law_20 ?_
  refine lv_bipush (v := 6) hx hb dL_law_21 (by decide) ?_
  refine lv_isub hx hb dL_law_23 ?_
  refine lv_icmp_gt (tgt := 1127) hx hb dL_law_24 (by decide) (fun b24 => ?_) (fun b24 => absurd (by rw [ei1]; decide) b24)
  refine lv_iconst (v := 1) hx hb dL_law_1127 (by decide) ?_
  refine va_forget (fun q hq => S.2.2.2.1.2.2 q hq) ?_
  refine W.widen (k := 600000) (n := 7302250) (by decide) (by decide) ?_
  exact lw_ret hx hb hr hlk dL_law_1128

set_option maxHeartbeats 4000000 in
set_option maxRecDepth 100000 in
theorem law_22 {p : Program} {l : Launch} {e : Env} {s : State} {m : MethodId} {below : List Frame} {meth : Method} {c : Code} {bs : Nat} {xs : Nat → Int32} {D : va_G} {g : Nat → ClassId} {Lx L : List Nat} {f : Nat → va_E} {H : Heap} {locs : List Loc} {ls : Array Slot} {x wo Sl dr drr ri rir th thr so pa ta la ba si tt tp sw ch im rm bo bw y y0 y1 y2 y3 y4 y5 y6 y7 y8 y9 y10 y11 y12 y13 y15 y16 y17 y18 y19 y20 y21 y22 : Nat} {wf sf : Nat → Option Nat} {vd vs vs2 : Nat → Int64} {vl vb : Nat → Int32} {v_worlds : Nat → Int64} {v_inWorld : Nat → Int32} {v_kind : Nat → Int32} {v_size : Nat → Int32} {v_marks : Nat → Int32} {v_seed : Nat → Int32} {v_contents : Nat → Int64} {v_contentMany : Nat → Int32} {v_row : Nat → Int32} {v_bits : Nat → Int32} {v_layerSize : Nat → Int32} {v_layerCame : Nat → Int32} {v_rest : Nat → Int64} {v_restMany : Nat → Int32} {v_come : Nat → Int64} {v_rivals : Nat → Int64} {v_gone : Nat → Int64} {v_order : Nat → Int32} {v_offAt : Nat → Int32} {v_isOff : Nat → Int32} {v_alone : Nat → Int32} {v_kept : Nat → Int32} (hx : p.tables.exec = Jvm.exec) (hb : c.code = cL_law) (hr : meth.sig.returnType = ret) (hml : c.maxLocals = 4) (hown : s.vm.findClass RL = some m.cls) (hts : ∀ w ∈ wsL_law, w.before #[Value.ref bs] s = true) (hX : va_X bs 6 xs s s.heap) (hbl : bs < s.heap.size) (hlk : meth.locks = false) (S : PS D g (fun q : Nat => s.heap.size ≤ q) s.heap s L f H locs) (hl : lv_has ls 4 [(3, .int 0), (2, .ref y), (1, .ref x), (0, .ref bs)]) (m_x : x ∈ L) (e_x : f x = .inr (6, [.ref wo, .ref Sl, .ref dr, .ref ri, .ref th, .ref so, .ref ch, .int 0])) (m_wo : wo ∈ L) (e_wo : f wo = .inl (g 3, 8, .inr (.inr (.inr (.inr wf))))) (m_Sl : Sl ∈ L) (e_Sl : f Sl = .inl (g 5, 30, .inr (.inr (.inr (.inr sf))))) (m_dr : dr ∈ L) (e_dr : f dr = .inr (0, [.ref drr, .int ((nI 0))])) (m_drr : drr ∈ L) (e_drr : f drr = .inl (g 1, 1000, .inr (.inl vd))) (m_ri : ri ∈ L) (e_ri : f ri = .inr (0, [.ref rir, .int ((nI 0))])) (m_th : th ∈ L) (e_th : f th = .inr (0, [.ref thr, .int ((nI 0))])) (m_so : so ∈ L) (e_so : f so = .inr (5, [.ref pa, .ref ta, .ref la, .ref ba, .ref si, .ref tt, .ref tp, .int 0, .int 0])) (m_la : la ∈ L) (e_la : f la = .inl (g 0, 3774, .inl vl)) (m_ba : ba ∈ L) (e_ba : f ba = .inl (g 0, 3774, .inl vb)) (m_si : si ∈ L) (e_si : f si = .inr (1, [.ref sw, .int ((nI 0))])) (m_sw : sw ∈ L) (e_sw : f sw = .inl (g 1, 64, .inr (.inl vs))) (m_ch : ch ∈ L) (e_ch : f ch = .inr (2, [.ref im, .ref rm, .ref bo, .int 0, .int 0])) (m_bo : bo ∈ L) (e_bo : f bo = .inr (1, [.ref bw, .int ((nI 0))])) (m_bw : bw ∈ L) (e_bw : f bw = .inl (g 1, 64, .inr (.inl vs2))) (m_y : y ∈ L) (e_y : f y = .inr (7, [.ref y0, .ref y1, .ref y2, .ref y3, .ref y4, .ref y5, .ref y6, .ref y7, .ref y8, .ref y9, .ref y10, .ref y11, .ref y12, .ref y13, .int 0, .ref y15, .ref y16, .ref y17, .ref y18, .ref y19, .ref y20, .ref y21, .ref y22])) (m_y0 : y0 ∈ L) (e_y0 : f y0 = .inl (g 1, 8000, .inr (.inl v_worlds))) (m_y1 : y1 ∈ L) (e_y1 : f y1 = .inl (g 0, 8, .inl v_inWorld)) (m_y2 : y2 ∈ L) (e_y2 : f y2 = .inl (g 0, 30, .inl v_kind)) (m_y3 : y3 ∈ L) (e_y3 : f y3 = .inl (g 0, 30, .inl v_size)) (m_y4 : y4 ∈ L) (e_y4 : f y4 = .inl (g 0, 30, .inl v_marks)) (m_y5 : y5 ∈ L) (e_y5 : f y5 = .inl (g 0, 30, .inl v_seed)) (m_y6 : y6 ∈ L) (e_y6 : f y6 = .inl (g 1, 30000, .inr (.inl v_contents))) (m_y7 : y7 ∈ L) (e_y7 : f y7 = .inl (g 0, 30, .inl v_contentMany)) (m_y8 : y8 ∈ L) (e_y8 : f y8 = .inl (g 0, 122880, .inl v_row)) (m_y9 : y9 ∈ L) (e_y9 : f y9 = .inl (g 0, 76800, .inl v_bits)) (m_y10 : y10 ∈ L) (e_y10 : f y10 = .inl (g 0, 600, .inl v_layerSize)) (m_y11 : y11 ∈ L) (e_y11 : f y11 = .inl (g 0, 600, .inl v_layerCame)) (m_y12 : y12 ∈ L) (e_y12 : f y12 = .inl (g 1, 30000, .inr (.inl v_rest))) (m_y13 : y13 ∈ L) (e_y13 : f y13 = .inl (g 0, 30, .inl v_restMany)) (m_y15 : y15 ∈ L) (e_y15 : f y15 = .inl (g 1, 1000, .inr (.inl v_come))) (m_y16 : y16 ∈ L) (e_y16 : f y16 = .inl (g 1, 1000, .inr (.inl v_rivals))) (m_y17 : y17 ∈ L) (e_y17 : f y17 = .inl (g 1, 1000, .inr (.inl v_gone))) (m_y18 : y18 ∈ L) (e_y18 : f y18 = .inl (g 0, 1000, .inl v_order)) (m_y19 : y19 ∈ L) (e_y19 : f y19 = .inl (g 0, 1000, .inl v_offAt)) (m_y20 : y20 ∈ L) (e_y20 : f y20 = .inl (g 2, 1000, .inl v_isOff)) (m_y21 : y21 ∈ L) (e_y21 : f y21 = .inl (g 0, 4096, .inl v_alone)) (m_y22 : y22 ∈ L) (e_y22 : f y22 = .inl (g 0, 4096, .inl v_kept)) (hs0 : sf 0 = none) (n_ri_dr : ri ≠ dr) (n_th_dr : th ≠ dr) (n_th_ri : th ≠ ri) (n_ba_la : ba ≠ la) (hW2 : ∀ j, j < 8 → ∃ b rb : Nat, ∃ vb : Nat → Int64, wf j = some b ∧ b ∈ L ∧ f b = .inr (0, [.ref rb, .int (nI 0)]) ∧ rb ∈ L ∧ f rb = .inl (g 1, 1000, .inr (.inl vb)) ∧ b ≠ dr ∧ b ≠ ri ∧ b ≠ th ∧ rb ≠ drr ∧ b ∈ Lx ∧ rb ∈ Lx) (hI : ∀ j, j < 8 → v_inWorld j = 0) (hnd : [y, y0, y1, y2, y3, y4, y5, y6, y7, y8, y9, y10, y11, y12, y13, y15, y16, y17, y18, y19, y20, y21, y22].Nodup) (lx_x : x ∈ Lx) (lx_Sl : Sl ∈ Lx) (lx_dr : dr ∈ Lx) (lx_drr : drr ∈ Lx) (lx_ri : ri ∈ Lx) (lx_th : th ∈ Lx) (lx_so : so ∈ Lx) (lx_la : la ∈ Lx) (lx_ba : ba ∈ Lx) (lx_si : si ∈ Lx) (lx_sw : sw ∈ Lx) (lx_ch : ch ∈ Lx) (lx_bo : bo ∈ Lx) (lx_bw : bw ∈ Lx) (nx_y : y ∉ Lx) (nx_y0 : y0 ∉ Lx) (nx_y1 : y1 ∉ Lx) (nx_y2 : y2 ∉ Lx) (nx_y3 : y3 ∉ Lx) (nx_y4 : y4 ∉ Lx) (nx_y5 : y5 ∉ Lx) (nx_y6 : y6 ∉ Lx) (nx_y7 : y7 ∉ Lx) (nx_y8 : y8 ∉ Lx) (nx_y9 : y9 ∉ Lx) (nx_y10 : y10 ∉ Lx) (nx_y11 : y11 ∉ Lx) (nx_y12 : y12 ∉ Lx) (nx_y13 : y13 ∉ Lx) (nx_y15 : y15 ∉ Lx) (nx_y16 : y16 ∉ Lx) (nx_y17 : y17 ∉ Lx) (nx_y18 : y18 ∉ Lx) (nx_y19 : y19 ∉ Lx) (nx_y20 : y20 ∉ Lx) (nx_y21 : y21 ∉ Lx) (nx_y22 : y22 ∉ Lx) : W p l e room_1 s m #[Value.ref bs] below meth c H locs 62 310045 (lw_Z below #[Value.ref bs] s) (F0 m 1108 ls []) := by
  have hW : ∀ j, j < 8 → ∃ b rb : Nat, ∃ vb : Nat → Int64, wf j = some b ∧ b ∈ L ∧ f b = .inr (0, [.ref rb, .int (nI 0)]) ∧ rb ∈ L ∧ f rb = .inl (g 1, 1000, .inr (.inl vb)) ∧ b ≠ dr ∧ b ≠ ri ∧ b ≠ th := fun j hj => by obtain ⟨b, rb, vb, h1, h2, h3, h4, h5, h6, h7, h8, -⟩ := hW2 j hj; exact ⟨b, rb, vb, h1, h2, h3, h4, h5, h6, h7, h8⟩
  refine lv_aload_n hx hb dL_law_1108 rfl (lv_at hl 2 rfl) ?_
  refine q_vi (As := []) (rest := []) ⟨hx, hb, hml, hown, hts⟩ (c_X8_sieves0 l D g m_x e_x ) (cwV 0 hts gL_law_X8_sieves rfl rfl rfl (by decide +kernel) ⟨Nat.le_of_ble_eq_true rfl, Nat.le_of_ble_eq_true rfl⟩) S m_x e_x (T := TX8) (N := 8) rfl rfl hl.1 rfl (Nat.le_of_ble_eq_true rfl) dL_law_1109 ⟨Nat.le_of_ble_eq_true rfl, Nat.le_of_ble_eq_true rfl⟩ (fun r3 L1 f2 H locs S w1109 => ?_)
  obtain ⟨ex1, eL1, ef1⟩ := w1109
  rw [eL1, ef1] at S
  refine lv_aload_n hx hb dL_law_1112 rfl (lv_at hl 1 rfl) ?_
  refine q_vi (As := []) (rest := [.int r3]) ⟨hx, hb, hml, hown, hts⟩ (c_X9_sieves0 l D g m_y e_y ) (cwV 0 hts gL_law_X9_sieves rfl rfl rfl (by decide +kernel) ⟨Nat.le_of_ble_eq_true rfl, Nat.le_of_ble_eq_true rfl⟩) S m_y e_y (T := TX9) (N := 23) rfl rfl hl.1 rfl (Nat.le_of_ble_eq_true rfl) dL_law_1113 ⟨Nat.le_of_ble_eq_true rfl, Nat.le_of_ble_eq_true rfl⟩ (fun r6 L4 f5 H locs S w1113 => ?_)
  have ex2 := w1113.1
  refine lv_icmp_eq (tgt := 1121) hx hb dL_law_1116 (by decide) (fun b1116 => ?_) (fun b1116 => absurd (ex1.trans ex2.symm) b1116)
  obtain ⟨i1, ei1⟩ : ∃ y : Int32, y = 0 + 6 := ⟨_, rfl⟩
  refine lv_iinc (v := i1) (lv' := [(3, .int i1), (2, .ref y), (1, .ref x), (0, .ref bs)]) hx hb dL_law_1121 hl (k := 0) rfl (by rw [ei1]; rfl) (by decide) rfl (fun ls hl => ?_)
  refine lv_goto (tgt := 18) hx hb dL_law_1124 (by decide) ?_
  refine lv_iload_n hx hb dL_law_18 rfl (lv_at hl 0 rfl) ?_
  refine lv_aload_n hx hb dL_law_19 rfl (lv_at hl 3 rfl) ?_
  refine va_slen hx hb hX hbl (Nat.not_le.mpr hbl) S.2.2.2.1 dL_law_20 ?_
  refine lv_bipush (v := 6) hx hb dL_law_21 (by decide) ?_
  refine lv_isub hx hb dL_law_23 ?_
  refine lv_icmp_gt (tgt := 1127) hx hb dL_law_24 (by decide) (fun b24 => ?_) (fun b24 => absurd (by rw [ei1]; decide) b24)
  refine lv_iconst (v := 1) hx hb dL_law_1127 (by decide) ?_
  refine va_forget (fun q hq => S.2.2.2.1.2.2 q hq) ?_
  refine W.widen (k := 600000) (n := 7302250) (by decide) (by decide) ?_
  exact lw_ret hx hb hr hlk dL_law_1128
