set_option maxHeartbeats 4000000 in
set_option maxRecDepth 100000 in
theorem law_0 {p : Program} {l : Launch} {e : Env} {s : State} {m : MethodId} {below : List Frame} {meth : Method} {c : Code} {bs Ls i cells slots : Nat} {xs : Nat → Int32} {D : va_G} {g : Nat → ClassId} {L : List Nat} {f : Nat → va_E} {H : Heap} {locs : List Loc} {ls : Array Slot} {x y : Nat} {Q : State → Prop} (hx : p.tables.exec = Jvm.exec) (hb : c.code = cL_law) (hml : c.maxLocals = 4) (hown : s.vm.findClass RL = some m.cls) (hts : ∀ w ∈ wsL_law, w.before #[Value.ref bs] s = true) (hX : va_X bs Ls xs s s.heap) (hbl : bs < s.heap.size) (hLs : Ls ≤ 3072) (hi : i + 6 ≤ Ls) (hroom : cells + 49 ≤ room_1.cells ∧ slots + 7472 ≤ room_1.slots) (S : PS D g (fun q : Nat => s.heap.size ≤ q) s.heap s L f H locs) (hl : lv_has ls 4 [(3, .int (nI i)), (2, .ref y), (1, .ref x), (0, .ref bs)]) (I0 : InvH g L f x y) (kk : ∀ (L : List Nat) (f : Nat → va_E) (H : Heap) (locs : List Loc), PS D g (fun q : Nat => s.heap.size ≤ q) s.heap s L f H locs → InvH g L f x y → W p l e room_1 s m #[Value.ref bs] below meth c H locs (cells + 49) (slots + 7472) Q (F0 m 1119 ls [])) : W p l e room_1 s m #[Value.ref bs] below meth c H locs cells slots Q (F0 m 140 ls []) := by
  obtain ⟨ρ, wN, wV, M, σ, r, C, R, H⟩ := I0
  have hR := CfX_R C
  have hV := CfX_V C
  have hI := CfY_I R
  refine lv_aload_n hx hb dL_law_140 rfl (lv_at hl 2 rfl) ?_
  refine lv_aload_n hx hb dL_law_141 rfl (lv_at hl 3 rfl) ?_
  refine lv_iload_n hx hb dL_law_142 rfl (lv_at hl 0 rfl) ?_
  refine lv_iconst (v := 1) hx hb dL_law_143 (by decide) ?_
  refine lv_iadd hx hb dL_law_144 ?_
  refine lv_topi (fun t_ et_ => ?_)
  obtain rfl : t_ = nI (i + 1) := et_.trans (nI_add i 1)
  refine va_sld hx hb hX hbl (Nat.not_le.mpr hbl) S.2.2.2.1 (vp_in_nI (n := i + 1) (by omega) (by omega)) dL_law_145 ?_
  refine lv_topi (fun a1 ea1 => ?_)
  refine lv_aload_n hx hb dL_law_146 rfl (lv_at hl 3 rfl) ?_
  refine lv_iload_n hx hb dL_law_147 rfl (lv_at hl 0 rfl) ?_
  refine lv_iconst (v := 2) hx hb dL_law_148 (by decide) ?_
  refine lv_iadd hx hb dL_law_149 ?_
  refine lv_topi (fun t_ et_ => ?_)
  obtain rfl : t_ = nI (i + 2) := et_.trans (nI_add i 2)
  refine va_sld hx hb hX hbl (Nat.not_le.mpr hbl) S.2.2.2.1 (vp_in_nI (n := i + 2) (by omega) (by omega)) dL_law_150 ?_
  refine lv_topi (fun a2 ea2 => ?_)
  refine lv_i2l hx hb dL_law_151 rfl ?_
  refine lv_bipush (v := 32) hx hb dL_law_152 (by decide) ?_
  refine lv_lshl hx hb dL_law_154 rfl ?_
  refine lv_aload_n hx hb dL_law_155 rfl (lv_at hl 3 rfl) ?_
  refine lv_iload_n hx hb dL_law_156 rfl (lv_at hl 0 rfl) ?_
  refine lv_iconst (v := 3) hx hb dL_law_157 (by decide) ?_
  refine lv_iadd hx hb dL_law_158 ?_
  refine lv_topi (fun t_ et_ => ?_)
  obtain rfl : t_ = nI (i + 3) := et_.trans (nI_add i 3)
  refine va_sld hx hb hX hbl (Nat.not_le.mpr hbl) S.2.2.2.1 (vp_in_nI (n := i + 3) (by omega) (by omega)) dL_law_159 ?_
  refine lv_topi (fun a3 ea3 => ?_)
  refine lv_i2l hx hb dL_law_160 rfl ?_
  refine lv_ldc2 (v := (4294967295)) hx hb hown (hts (.constantLong RL 13 (4294967295)) (by decide +kernel)) dL_law_161 ?_
  refine lv_land hx hb dL_law_164 ?_
  refine lv_lor hx hb dL_law_165 ?_
  refine lv_topl (fun fs efs => ?_)
  refine lv_aload_n hx hb dL_law_166 rfl (lv_at hl 3 rfl) ?_
  refine lv_iload_n hx hb dL_law_167 rfl (lv_at hl 0 rfl) ?_
  refine lv_iconst (v := 4) hx hb dL_law_168 (by decide) ?_
  refine lv_iadd hx hb dL_law_169 ?_
  refine lv_topi (fun t_ et_ => ?_)
  obtain rfl : t_ = nI (i + 4) := et_.trans (nI_add i 4)
  refine va_sld hx hb hX hbl (Nat.not_le.mpr hbl) S.2.2.2.1 (vp_in_nI (n := i + 4) (by omega) (by omega)) dL_law_170 ?_
  refine lv_topi (fun a4 ea4 => ?_)
  refine lv_aload_n hx hb dL_law_171 rfl (lv_at hl 3 rfl) ?_
  refine lv_iload_n hx hb dL_law_172 rfl (lv_at hl 0 rfl) ?_
  refine lv_iconst (v := 5) hx hb dL_law_173 (by decide) ?_
  refine lv_iadd hx hb dL_law_174 ?_
  refine lv_topi (fun t_ et_ => ?_)
  obtain rfl : t_ = nI (i + 5) := et_.trans (nI_add i 5)
  refine va_sld hx hb hX hbl (Nat.not_le.mpr hbl) S.2.2.2.1 (vp_in_nI (n := i + 5) (by omega) (by omega)) dL_law_175 ?_
  refine lv_topi (fun a5 ea5 => ?_)
  obtain ⟨fx, m_x, e_x⟩ := CfX_x C
  refine q_vi (As := [.int a1, .long fs, .int a4, .int a5]) (rest := []) ⟨hx, hb, hml, hown, hts⟩ (sy_span l D C a1 fs a4 a5) (cwV 4 hts gL_law_X8_span rfl rfl rfl (by decide +kernel) ⟨Nat.le_of_ble_eq_true rfl, Nat.le_of_ble_eq_true rfl⟩) S m_x e_x (T := TX8) (N := 8) rfl rfl hl.1 rfl (Nat.le_of_ble_eq_true rfl) dL_law_176 hroom (fun r1 L f H1 locs S w1 => ?_)
  obtain ⟨wN1, wV1, M1, σ1, h8, w1⟩ := w1
  obtain ⟨ρ, C, R⟩ := after8X R w1
  refine lv_pop hx hb dL_law_179 rfl ?_
  refine lv_aload_n hx hb dL_law_180 rfl (lv_at hl 1 rfl) ?_
  refine lv_aload_n hx hb dL_law_181 rfl (lv_at hl 3 rfl) ?_
  refine lv_iload_n hx hb dL_law_182 rfl (lv_at hl 0 rfl) ?_
  refine lv_iconst (v := 1) hx hb dL_law_183 (by decide) ?_
  refine lv_iadd hx hb dL_law_184 ?_
  refine lv_topi (fun t_ et_ => ?_)
  obtain rfl : t_ = nI (i + 1) := et_.trans (nI_add i 1)
  refine va_sld hx hb hX hbl (Nat.not_le.mpr hbl) S.2.2.2.1 (vp_in_nI (n := i + 1) (by omega) (by omega)) dL_law_185 ?_
  refine lv_topi (fun t_ et_ => ?_)
  obtain rfl : a1 = t_ := ea1.trans et_.symm
  refine lv_aload_n hx hb dL_law_186 rfl (lv_at hl 3 rfl) ?_
  refine lv_iload_n hx hb dL_law_187 rfl (lv_at hl 0 rfl) ?_
  refine lv_iconst (v := 2) hx hb dL_law_188 (by decide) ?_
  refine lv_iadd hx hb dL_law_189 ?_
  refine lv_topi (fun t_ et_ => ?_)
  obtain rfl : t_ = nI (i + 2) := et_.trans (nI_add i 2)
  refine va_sld hx hb hX hbl (Nat.not_le.mpr hbl) S.2.2.2.1 (vp_in_nI (n := i + 2) (by omega) (by omega)) dL_law_190 ?_
  refine lv_topi (fun t_ et_ => ?_)
  obtain rfl : a2 = t_ := ea2.trans et_.symm
  refine lv_i2l hx hb dL_law_191 rfl ?_
  refine lv_bipush (v := 32) hx hb dL_law_192 (by decide) ?_
  refine lv_lshl hx hb dL_law_194 rfl ?_
  refine lv_aload_n hx hb dL_law_195 rfl (lv_at hl 3 rfl) ?_
  refine lv_iload_n hx hb dL_law_196 rfl (lv_at hl 0 rfl) ?_
  refine lv_iconst (v := 3) hx hb dL_law_197 (by decide) ?_
  refine lv_iadd hx hb dL_law_198 ?_
  refine lv_topi (fun t_ et_ => ?_)
  obtain rfl : t_ = nI (i + 3) := et_.trans (nI_add i 3)
  refine va_sld hx hb hX hbl (Nat.not_le.mpr hbl) S.2.2.2.1 (vp_in_nI (n := i + 3) (by omega) (by omega)) dL_law_199 ?_
  refine lv_topi (fun t_ et_ => ?_)
  obtain rfl : a3 = t_ := ea3.trans et_.symm
  refine lv_i2l hx hb dL_law_200 rfl ?_
  refine lv_ldc2 (v := (4294967295)) hx hb hown (hts (.constantLong RL 13 (4294967295)) (by decide +kernel)) dL_law_201 ?_
  refine lv_land hx hb dL_law_204 ?_
  refine lv_lor hx hb dL_law_205 ?_
  refine lv_topl (fun t_ et_ => ?_)
  obtain rfl : fs = t_ := efs.trans et_.symm
  refine lv_aload_n hx hb dL_law_206 rfl (lv_at hl 3 rfl) ?_
  refine lv_iload_n hx hb dL_law_207 rfl (lv_at hl 0 rfl) ?_
  refine lv_iconst (v := 4) hx hb dL_law_208 (by decide) ?_
  refine lv_iadd hx hb dL_law_209 ?_
  refine lv_topi (fun t_ et_ => ?_)
  obtain rfl : t_ = nI (i + 4) := et_.trans (nI_add i 4)
  refine va_sld hx hb hX hbl (Nat.not_le.mpr hbl) S.2.2.2.1 (vp_in_nI (n := i + 4) (by omega) (by omega)) dL_law_210 ?_
  refine lv_topi (fun t_ et_ => ?_)
  obtain rfl : a4 = t_ := ea4.trans et_.symm
  refine lv_aload_n hx hb dL_law_211 rfl (lv_at hl 3 rfl) ?_
  refine lv_iload_n hx hb dL_law_212 rfl (lv_at hl 0 rfl) ?_
  refine lv_iconst (v := 5) hx hb dL_law_213 (by decide) ?_
  refine lv_iadd hx hb dL_law_214 ?_
  refine lv_topi (fun t_ et_ => ?_)
  obtain rfl : t_ = nI (i + 5) := et_.trans (nI_add i 5)
  refine va_sld hx hb hX hbl (Nat.not_le.mpr hbl) S.2.2.2.1 (vp_in_nI (n := i + 5) (by omega) (by omega)) dL_law_215 ?_
  refine lv_topi (fun t_ et_ => ?_)
  obtain rfl : a5 = t_ := ea5.trans et_.symm
  obtain ⟨fy, m_y, e_y⟩ := CfY_y R
  refine q_vi (As := [.int a1, .long fs, .int a4, .int a5]) (rest := []) ⟨hx, hb, hml, hown, hts⟩ (rx_span l D R a1 fs a4 a5) (cwV 4 hts gL_law_X9_span rfl rfl rfl (by decide +kernel) ⟨Nat.le_of_ble_eq_true rfl, Nat.le_of_ble_eq_true rfl⟩) S m_y e_y (T := TX9) (N := 23) rfl rfl hl.1 rfl (Nat.le_of_ble_eq_true rfl) dL_law_216 hroom (fun r2 L f H1 locs S w2 => ?_)
  obtain ⟨rr1, h9, w2⟩ := w2
  obtain ⟨C, R⟩ := after9X C w2
  have hp := pH_span hI hV hR H h8 h9
  refine lv_pop hx hb dL_law_219 rfl ?_
  refine lv_goto (tgt := 1119) hx hb dL_law_220 (by decide) ?_
  exact kk _ _ _ _ S ⟨_, _, _, _, _, _, C, R, hp.2⟩
set_option maxHeartbeats 4000000 in
set_option maxRecDepth 100000 in
theorem law_1 {p : Program} {l : Launch} {e : Env} {s : State} {m : MethodId} {below : List Frame} {meth : Method} {c : Code} {bs Ls i cells slots : Nat} {xs : Nat → Int32} {D : va_G} {g : Nat → ClassId} {L : List Nat} {f : Nat → va_E} {H : Heap} {locs : List Loc} {ls : Array Slot} {x y : Nat} {Q : State → Prop} (hx : p.tables.exec = Jvm.exec) (hb : c.code = cL_law) (hml : c.maxLocals = 4) (hown : s.vm.findClass RL = some m.cls) (hts : ∀ w ∈ wsL_law, w.before #[Value.ref bs] s = true) (hX : va_X bs Ls xs s s.heap) (hbl : bs < s.heap.size) (hLs : Ls ≤ 3072) (hi : i + 6 ≤ Ls) (hroom : cells + 49 ≤ room_1.cells ∧ slots + 7472 ≤ room_1.slots) (S : PS D g (fun q : Nat => s.heap.size ≤ q) s.heap s L f H locs) (hl : lv_has ls 4 [(3, .int (nI i)), (2, .ref y), (1, .ref x), (0, .ref bs)]) (I0 : InvH g L f x y) (kk : ∀ (L : List Nat) (f : Nat → va_E) (H : Heap) (locs : List Loc), PS D g (fun q : Nat => s.heap.size ≤ q) s.heap s L f H locs → InvH g L f x y → W p l e room_1 s m #[Value.ref bs] below meth c H locs (cells + 49) (slots + 7472) Q (F0 m 1119 ls [])) : W p l e room_1 s m #[Value.ref bs] below meth c H locs cells slots Q (F0 m 223 ls []) := by
  obtain ⟨ρ, wN, wV, M, σ, r, C, R, H⟩ := I0
  have hR := CfX_R C
  have hV := CfX_V C
  have hI := CfY_I R
  refine lv_aload_n hx hb dL_law_223 rfl (lv_at hl 2 rfl) ?_
  refine lv_aload_n hx hb dL_law_224 rfl (lv_at hl 3 rfl) ?_
  refine lv_iload_n hx hb dL_law_225 rfl (lv_at hl 0 rfl) ?_
  refine lv_iconst (v := 1) hx hb dL_law_226 (by decide) ?_
  refine lv_iadd hx hb dL_law_227 ?_
  refine lv_topi (fun t_ et_ => ?_)
  obtain rfl : t_ = nI (i + 1) := et_.trans (nI_add i 1)
  refine va_sld hx hb hX hbl (Nat.not_le.mpr hbl) S.2.2.2.1 (vp_in_nI (n := i + 1) (by omega) (by omega)) dL_law_228 ?_
  refine lv_topi (fun a1 ea1 => ?_)
  refine lv_aload_n hx hb dL_law_229 rfl (lv_at hl 3 rfl) ?_
  refine lv_iload_n hx hb dL_law_230 rfl (lv_at hl 0 rfl) ?_
  refine lv_iconst (v := 2) hx hb dL_law_231 (by decide) ?_
  refine lv_iadd hx hb dL_law_232 ?_
  refine lv_topi (fun t_ et_ => ?_)
  obtain rfl : t_ = nI (i + 2) := et_.trans (nI_add i 2)
  refine va_sld hx hb hX hbl (Nat.not_le.mpr hbl) S.2.2.2.1 (vp_in_nI (n := i + 2) (by omega) (by omega)) dL_law_233 ?_
  refine lv_topi (fun a2 ea2 => ?_)
  refine lv_i2l hx hb dL_law_234 rfl ?_
  refine lv_bipush (v := 32) hx hb dL_law_235 (by decide) ?_
  refine lv_lshl hx hb dL_law_237 rfl ?_
  refine lv_aload_n hx hb dL_law_238 rfl (lv_at hl 3 rfl) ?_
  refine lv_iload_n hx hb dL_law_239 rfl (lv_at hl 0 rfl) ?_
  refine lv_iconst (v := 3) hx hb dL_law_240 (by decide) ?_
  refine lv_iadd hx hb dL_law_241 ?_
  refine lv_topi (fun t_ et_ => ?_)
  obtain rfl : t_ = nI (i + 3) := et_.trans (nI_add i 3)
  refine va_sld hx hb hX hbl (Nat.not_le.mpr hbl) S.2.2.2.1 (vp_in_nI (n := i + 3) (by omega) (by omega)) dL_law_242 ?_
  refine lv_topi (fun a3 ea3 => ?_)
  refine lv_i2l hx hb dL_law_243 rfl ?_
  refine lv_ldc2 (v := (4294967295)) hx hb hown (hts (.constantLong RL 13 (4294967295)) (by decide +kernel)) dL_law_244 ?_
  refine lv_land hx hb dL_law_247 ?_
  refine lv_lor hx hb dL_law_248 ?_
  refine lv_topl (fun fs efs => ?_)
  obtain ⟨fx, m_x, e_x⟩ := CfX_x C
  refine q_vi (As := [.int a1, .long fs]) (rest := []) ⟨hx, hb, hml, hown, hts⟩ (sy_take l D C a1 fs) (cwV 2 hts gL_law_X8_take rfl rfl rfl (by decide +kernel) ⟨Nat.le_of_ble_eq_true rfl, Nat.le_of_ble_eq_true rfl⟩) S m_x e_x (T := TX8) (N := 8) rfl rfl hl.1 rfl (Nat.le_of_ble_eq_true rfl) dL_law_249 hroom (fun r1 L f H1 locs S w1 => ?_)
  obtain ⟨wN1, wV1, M1, σ1, h8, w1⟩ := w1
  obtain ⟨ρ, C, R⟩ := after8X R w1
  refine lv_pop hx hb dL_law_252 rfl ?_
  refine lv_aload_n hx hb dL_law_253 rfl (lv_at hl 1 rfl) ?_
  refine lv_aload_n hx hb dL_law_254 rfl (lv_at hl 3 rfl) ?_
  refine lv_iload_n hx hb dL_law_255 rfl (lv_at hl 0 rfl) ?_
  refine lv_iconst (v := 1) hx hb dL_law_256 (by decide) ?_
  refine lv_iadd hx hb dL_law_257 ?_
  refine lv_topi (fun t_ et_ => ?_)
  obtain rfl : t_ = nI (i + 1) := et_.trans (nI_add i 1)
  refine va_sld hx hb hX hbl (Nat.not_le.mpr hbl) S.2.2.2.1 (vp_in_nI (n := i + 1) (by omega) (by omega)) dL_law_258 ?_
  refine lv_topi (fun t_ et_ => ?_)
  obtain rfl : a1 = t_ := ea1.trans et_.symm
  refine lv_aload_n hx hb dL_law_259 rfl (lv_at hl 3 rfl) ?_
  refine lv_iload_n hx hb dL_law_260 rfl (lv_at hl 0 rfl) ?_
  refine lv_iconst (v := 2) hx hb dL_law_261 (by decide) ?_
  refine lv_iadd hx hb dL_law_262 ?_
  refine lv_topi (fun t_ et_ => ?_)
  obtain rfl : t_ = nI (i + 2) := et_.trans (nI_add i 2)
  refine va_sld hx hb hX hbl (Nat.not_le.mpr hbl) S.2.2.2.1 (vp_in_nI (n := i + 2) (by omega) (by omega)) dL_law_263 ?_
  refine lv_topi (fun t_ et_ => ?_)
  obtain rfl : a2 = t_ := ea2.trans et_.symm
  refine lv_i2l hx hb dL_law_264 rfl ?_
  refine lv_bipush (v := 32) hx hb dL_law_265 (by decide) ?_
  refine lv_lshl hx hb dL_law_267 rfl ?_
  refine lv_aload_n hx hb dL_law_268 rfl (lv_at hl 3 rfl) ?_
  refine lv_iload_n hx hb dL_law_269 rfl (lv_at hl 0 rfl) ?_
  refine lv_iconst (v := 3) hx hb dL_law_270 (by decide) ?_
  refine lv_iadd hx hb dL_law_271 ?_
  refine lv_topi (fun t_ et_ => ?_)
  obtain rfl : t_ = nI (i + 3) := et_.trans (nI_add i 3)
  refine va_sld hx hb hX hbl (Nat.not_le.mpr hbl) S.2.2.2.1 (vp_in_nI (n := i + 3) (by omega) (by omega)) dL_law_272 ?_
  refine lv_topi (fun t_ et_ => ?_)
  obtain rfl : a3 = t_ := ea3.trans et_.symm
  refine lv_i2l hx hb dL_law_273 rfl ?_
  refine lv_ldc2 (v := (4294967295)) hx hb hown (hts (.constantLong RL 13 (4294967295)) (by decide +kernel)) dL_law_274 ?_
  refine lv_land hx hb dL_law_277 ?_
  refine lv_lor hx hb dL_law_278 ?_
  refine lv_topl (fun t_ et_ => ?_)
  obtain rfl : fs = t_ := efs.trans et_.symm
  obtain ⟨fy, m_y, e_y⟩ := CfY_y R
  refine q_vi (As := [.int a1, .long fs]) (rest := []) ⟨hx, hb, hml, hown, hts⟩ (rx_take l D R a1 fs) (cwV 2 hts gL_law_X9_take rfl rfl rfl (by decide +kernel) ⟨Nat.le_of_ble_eq_true rfl, Nat.le_of_ble_eq_true rfl⟩) S m_y e_y (T := TX9) (N := 23) rfl rfl hl.1 rfl (Nat.le_of_ble_eq_true rfl) dL_law_279 hroom (fun r2 L f H1 locs S w2 => ?_)
  obtain ⟨rr1, h9, w2⟩ := w2
  obtain ⟨C, R⟩ := after9X C w2
  have hp := pH_take hI hV hR H h8 h9
  refine lv_pop hx hb dL_law_282 rfl ?_
  refine lv_goto (tgt := 1119) hx hb dL_law_283 (by decide) ?_
  exact kk _ _ _ _ S ⟨_, _, _, _, _, _, C, R, hp.2⟩
set_option maxHeartbeats 4000000 in
set_option maxRecDepth 100000 in
theorem law_2 {p : Program} {l : Launch} {e : Env} {s : State} {m : MethodId} {below : List Frame} {meth : Method} {c : Code} {bs Ls i cells slots : Nat} {xs : Nat → Int32} {D : va_G} {g : Nat → ClassId} {L : List Nat} {f : Nat → va_E} {H : Heap} {locs : List Loc} {ls : Array Slot} {x y : Nat} {Q : State → Prop} (hx : p.tables.exec = Jvm.exec) (hb : c.code = cL_law) (hml : c.maxLocals = 4) (hown : s.vm.findClass RL = some m.cls) (hts : ∀ w ∈ wsL_law, w.before #[Value.ref bs] s = true) (hX : va_X bs Ls xs s s.heap) (hbl : bs < s.heap.size) (hLs : Ls ≤ 3072) (hi : i + 6 ≤ Ls) (hroom : cells + 49 ≤ room_1.cells ∧ slots + 7472 ≤ room_1.slots) (S : PS D g (fun q : Nat => s.heap.size ≤ q) s.heap s L f H locs) (hl : lv_has ls 4 [(3, .int (nI i)), (2, .ref y), (1, .ref x), (0, .ref bs)]) (I0 : InvH g L f x y) (kk : ∀ (L : List Nat) (f : Nat → va_E) (H : Heap) (locs : List Loc), PS D g (fun q : Nat => s.heap.size ≤ q) s.heap s L f H locs → InvH g L f x y → W p l e room_1 s m #[Value.ref bs] below meth c H locs (cells + 49) (slots + 7472) Q (F0 m 1119 ls [])) : W p l e room_1 s m #[Value.ref bs] below meth c H locs cells slots Q (F0 m 286 ls []) := by
  obtain ⟨ρ, wN, wV, M, σ, r, C, R, H⟩ := I0
  have hR := CfX_R C
  have hV := CfX_V C
  have hI := CfY_I R
  refine lv_aload_n hx hb dL_law_286 rfl (lv_at hl 2 rfl) ?_
  refine lv_aload_n hx hb dL_law_287 rfl (lv_at hl 3 rfl) ?_
  refine lv_iload_n hx hb dL_law_288 rfl (lv_at hl 0 rfl) ?_
  refine lv_iconst (v := 1) hx hb dL_law_289 (by decide) ?_
  refine lv_iadd hx hb dL_law_290 ?_
  refine lv_topi (fun t_ et_ => ?_)
  obtain rfl : t_ = nI (i + 1) := et_.trans (nI_add i 1)
  refine va_sld hx hb hX hbl (Nat.not_le.mpr hbl) S.2.2.2.1 (vp_in_nI (n := i + 1) (by omega) (by omega)) dL_law_291 ?_
  refine lv_topi (fun a1 ea1 => ?_)
  obtain ⟨fx, m_x, e_x⟩ := CfX_x C
  refine q_vi (As := [.int a1]) (rest := []) ⟨hx, hb, hml, hown, hts⟩ (sy_things l D C a1) (cwV 1 hts gL_law_X8_things rfl rfl rfl (by decide +kernel) ⟨Nat.le_of_ble_eq_true rfl, Nat.le_of_ble_eq_true rfl⟩) S m_x e_x (T := TX8) (N := 8) rfl rfl hl.1 rfl (Nat.le_of_ble_eq_true rfl) dL_law_292 hroom (fun r1 L f H1 locs S w1 => ?_)
  obtain ⟨wN1, wV1, M1, σ1, h8, w1⟩ := w1
  obtain ⟨ρ, C, R⟩ := after8X R w1
  refine lv_pop hx hb dL_law_295 rfl ?_
  refine lv_aload_n hx hb dL_law_296 rfl (lv_at hl 1 rfl) ?_
  refine lv_aload_n hx hb dL_law_297 rfl (lv_at hl 3 rfl) ?_
  refine lv_iload_n hx hb dL_law_298 rfl (lv_at hl 0 rfl) ?_
  refine lv_iconst (v := 1) hx hb dL_law_299 (by decide) ?_
  refine lv_iadd hx hb dL_law_300 ?_
  refine lv_topi (fun t_ et_ => ?_)
  obtain rfl : t_ = nI (i + 1) := et_.trans (nI_add i 1)
  refine va_sld hx hb hX hbl (Nat.not_le.mpr hbl) S.2.2.2.1 (vp_in_nI (n := i + 1) (by omega) (by omega)) dL_law_301 ?_
  refine lv_topi (fun t_ et_ => ?_)
  obtain rfl : a1 = t_ := ea1.trans et_.symm
  obtain ⟨fy, m_y, e_y⟩ := CfY_y R
  refine q_vi (As := [.int a1]) (rest := []) ⟨hx, hb, hml, hown, hts⟩ (rx_things l D R a1) (cwV 1 hts gL_law_X9_things rfl rfl rfl (by decide +kernel) ⟨Nat.le_of_ble_eq_true rfl, Nat.le_of_ble_eq_true rfl⟩) S m_y e_y (T := TX9) (N := 23) rfl rfl hl.1 rfl (Nat.le_of_ble_eq_true rfl) dL_law_302 hroom (fun r2 L f H1 locs S w2 => ?_)
  obtain ⟨rr1, h9, w2⟩ := w2
  obtain ⟨C, R⟩ := after9X C w2
  have hp := pH_things hI hV hR H h8 h9
  refine lv_pop hx hb dL_law_305 rfl ?_
  refine lv_goto (tgt := 1119) hx hb dL_law_306 (by decide) ?_
  exact kk _ _ _ _ S ⟨_, _, _, _, _, _, C, R, hp.2⟩
set_option maxHeartbeats 4000000 in
set_option maxRecDepth 100000 in
theorem law_3 {p : Program} {l : Launch} {e : Env} {s : State} {m : MethodId} {below : List Frame} {meth : Method} {c : Code} {bs Ls i cells slots : Nat} {xs : Nat → Int32} {D : va_G} {g : Nat → ClassId} {L : List Nat} {f : Nat → va_E} {H : Heap} {locs : List Loc} {ls : Array Slot} {x y : Nat} {Q : State → Prop} (hx : p.tables.exec = Jvm.exec) (hb : c.code = cL_law) (hml : c.maxLocals = 4) (hown : s.vm.findClass RL = some m.cls) (hts : ∀ w ∈ wsL_law, w.before #[Value.ref bs] s = true) (hX : va_X bs Ls xs s s.heap) (hbl : bs < s.heap.size) (hLs : Ls ≤ 3072) (hi : i + 6 ≤ Ls) (hroom : cells + 49 ≤ room_1.cells ∧ slots + 7472 ≤ room_1.slots) (S : PS D g (fun q : Nat => s.heap.size ≤ q) s.heap s L f H locs) (hl : lv_has ls 4 [(3, .int (nI i)), (2, .ref y), (1, .ref x), (0, .ref bs)]) (I0 : InvH g L f x y) (kk : ∀ (L : List Nat) (f : Nat → va_E) (H : Heap) (locs : List Loc), PS D g (fun q : Nat => s.heap.size ≤ q) s.heap s L f H locs → InvH g L f x y → W p l e room_1 s m #[Value.ref bs] below meth c H locs (cells + 49) (slots + 7472) Q (F0 m 1119 ls [])) : W p l e room_1 s m #[Value.ref bs] below meth c H locs cells slots Q (F0 m 309 ls []) := by
  obtain ⟨ρ, wN, wV, M, σ, r, C, R, H⟩ := I0
  have hR := CfX_R C
  have hV := CfX_V C
  have hI := CfY_I R
  refine lv_aload_n hx hb dL_law_309 rfl (lv_at hl 2 rfl) ?_
  refine lv_aload_n hx hb dL_law_310 rfl (lv_at hl 3 rfl) ?_
  refine lv_iload_n hx hb dL_law_311 rfl (lv_at hl 0 rfl) ?_
  refine lv_iconst (v := 1) hx hb dL_law_312 (by decide) ?_
  refine lv_iadd hx hb dL_law_313 ?_
  refine lv_topi (fun t_ et_ => ?_)
  obtain rfl : t_ = nI (i + 1) := et_.trans (nI_add i 1)
  refine va_sld hx hb hX hbl (Nat.not_le.mpr hbl) S.2.2.2.1 (vp_in_nI (n := i + 1) (by omega) (by omega)) dL_law_314 ?_
  refine lv_topi (fun a1 ea1 => ?_)
  refine lv_aload_n hx hb dL_law_315 rfl (lv_at hl 3 rfl) ?_
  refine lv_iload_n hx hb dL_law_316 rfl (lv_at hl 0 rfl) ?_
  refine lv_iconst (v := 2) hx hb dL_law_317 (by decide) ?_
  refine lv_iadd hx hb dL_law_318 ?_
  refine lv_topi (fun t_ et_ => ?_)
  obtain rfl : t_ = nI (i + 2) := et_.trans (nI_add i 2)
  refine va_sld hx hb hX hbl (Nat.not_le.mpr hbl) S.2.2.2.1 (vp_in_nI (n := i + 2) (by omega) (by omega)) dL_law_319 ?_
  refine lv_topi (fun a2 ea2 => ?_)
  obtain ⟨fx, m_x, e_x⟩ := CfX_x C
  refine q_vl (As := [.int a1, .int a2]) (rest := []) ⟨hx, hb, hml, hown, hts⟩ (sy_thing l D C a1 a2) (cwV 2 hts gL_law_X8_thing rfl rfl rfl (by decide +kernel) ⟨Nat.le_of_ble_eq_true rfl, Nat.le_of_ble_eq_true rfl⟩) S m_x e_x (T := TX8) (N := 8) rfl rfl hl.1 rfl (Nat.le_of_ble_eq_true rfl) dL_law_320 hroom (fun r1 L f H1 locs S w1 => ?_)
  obtain ⟨wN1, wV1, M1, σ1, h8, w1⟩ := w1
  obtain ⟨ρ, C, R⟩ := after8X R w1
  refine lv_pop2_2 hx hb dL_law_323 rfl ?_
  refine lv_aload_n hx hb dL_law_324 rfl (lv_at hl 1 rfl) ?_
  refine lv_aload_n hx hb dL_law_325 rfl (lv_at hl 3 rfl) ?_
  refine lv_iload_n hx hb dL_law_326 rfl (lv_at hl 0 rfl) ?_
  refine lv_iconst (v := 1) hx hb dL_law_327 (by decide) ?_
  refine lv_iadd hx hb dL_law_328 ?_
  refine lv_topi (fun t_ et_ => ?_)
  obtain rfl : t_ = nI (i + 1) := et_.trans (nI_add i 1)
  refine va_sld hx hb hX hbl (Nat.not_le.mpr hbl) S.2.2.2.1 (vp_in_nI (n := i + 1) (by omega) (by omega)) dL_law_329 ?_
  refine lv_topi (fun t_ et_ => ?_)
  obtain rfl : a1 = t_ := ea1.trans et_.symm
  refine lv_aload_n hx hb dL_law_330 rfl (lv_at hl 3 rfl) ?_
  refine lv_iload_n hx hb dL_law_331 rfl (lv_at hl 0 rfl) ?_
  refine lv_iconst (v := 2) hx hb dL_law_332 (by decide) ?_
  refine lv_iadd hx hb dL_law_333 ?_
  refine lv_topi (fun t_ et_ => ?_)
  obtain rfl : t_ = nI (i + 2) := et_.trans (nI_add i 2)
  refine va_sld hx hb hX hbl (Nat.not_le.mpr hbl) S.2.2.2.1 (vp_in_nI (n := i + 2) (by omega) (by omega)) dL_law_334 ?_
  refine lv_topi (fun t_ et_ => ?_)
  obtain rfl : a2 = t_ := ea2.trans et_.symm
  obtain ⟨fy, m_y, e_y⟩ := CfY_y R
  refine q_vl (As := [.int a1, .int a2]) (rest := []) ⟨hx, hb, hml, hown, hts⟩ (rx_thing l D R a1 a2) (cwV 2 hts gL_law_X9_thing rfl rfl rfl (by decide +kernel) ⟨Nat.le_of_ble_eq_true rfl, Nat.le_of_ble_eq_true rfl⟩) S m_y e_y (T := TX9) (N := 23) rfl rfl hl.1 rfl (Nat.le_of_ble_eq_true rfl) dL_law_335 hroom (fun r2 L f H1 locs S w2 => ?_)
  obtain ⟨rr1, h9, w2⟩ := w2
  obtain ⟨C, R⟩ := after9X C w2
  have hp := pH_thing hI hV hR H h8 h9
  refine lv_pop2_2 hx hb dL_law_338 rfl ?_
  refine lv_goto (tgt := 1119) hx hb dL_law_339 (by decide) ?_
  exact kk _ _ _ _ S ⟨_, _, _, _, _, _, C, R, hp.2⟩
set_option maxHeartbeats 4000000 in
set_option maxRecDepth 100000 in
theorem law_4 {p : Program} {l : Launch} {e : Env} {s : State} {m : MethodId} {below : List Frame} {meth : Method} {c : Code} {bs Ls i cells slots : Nat} {xs : Nat → Int32} {D : va_G} {g : Nat → ClassId} {L : List Nat} {f : Nat → va_E} {H : Heap} {locs : List Loc} {ls : Array Slot} {x y : Nat} {Q : State → Prop} (hx : p.tables.exec = Jvm.exec) (hb : c.code = cL_law) (hml : c.maxLocals = 4) (hown : s.vm.findClass RL = some m.cls) (hts : ∀ w ∈ wsL_law, w.before #[Value.ref bs] s = true) (hX : va_X bs Ls xs s s.heap) (hbl : bs < s.heap.size) (hLs : Ls ≤ 3072) (hi : i + 6 ≤ Ls) (hroom : cells + 49 ≤ room_1.cells ∧ slots + 7472 ≤ room_1.slots) (S : PS D g (fun q : Nat => s.heap.size ≤ q) s.heap s L f H locs) (hl : lv_has ls 4 [(3, .int (nI i)), (2, .ref y), (1, .ref x), (0, .ref bs)]) (I0 : InvH g L f x y) (kk : ∀ (L : List Nat) (f : Nat → va_E) (H : Heap) (locs : List Loc), PS D g (fun q : Nat => s.heap.size ≤ q) s.heap s L f H locs → InvH g L f x y → W p l e room_1 s m #[Value.ref bs] below meth c H locs (cells + 49) (slots + 7472) Q (F0 m 1119 ls [])) : W p l e room_1 s m #[Value.ref bs] below meth c H locs cells slots Q (F0 m 342 ls []) := by
  obtain ⟨ρ, wN, wV, M, σ, r, C, R, H⟩ := I0
  have hR := CfX_R C
  have hV := CfX_V C
  have hI := CfY_I R
  refine lv_aload_n hx hb dL_law_342 rfl (lv_at hl 2 rfl) ?_
  refine lv_aload_n hx hb dL_law_343 rfl (lv_at hl 3 rfl) ?_
  refine lv_iload_n hx hb dL_law_344 rfl (lv_at hl 0 rfl) ?_
  refine lv_iconst (v := 1) hx hb dL_law_345 (by decide) ?_
  refine lv_iadd hx hb dL_law_346 ?_
  refine lv_topi (fun t_ et_ => ?_)
  obtain rfl : t_ = nI (i + 1) := et_.trans (nI_add i 1)
  refine va_sld hx hb hX hbl (Nat.not_le.mpr hbl) S.2.2.2.1 (vp_in_nI (n := i + 1) (by omega) (by omega)) dL_law_347 ?_
  refine lv_topi (fun a1 ea1 => ?_)
  refine lv_aload_n hx hb dL_law_348 rfl (lv_at hl 3 rfl) ?_
  refine lv_iload_n hx hb dL_law_349 rfl (lv_at hl 0 rfl) ?_
  refine lv_iconst (v := 2) hx hb dL_law_350 (by decide) ?_
  refine lv_iadd hx hb dL_law_351 ?_
  refine lv_topi (fun t_ et_ => ?_)
  obtain rfl : t_ = nI (i + 2) := et_.trans (nI_add i 2)
  refine va_sld hx hb hX hbl (Nat.not_le.mpr hbl) S.2.2.2.1 (vp_in_nI (n := i + 2) (by omega) (by omega)) dL_law_352 ?_
  refine lv_topi (fun a2 ea2 => ?_)
  refine lv_aload_n hx hb dL_law_353 rfl (lv_at hl 3 rfl) ?_
  refine lv_iload_n hx hb dL_law_354 rfl (lv_at hl 0 rfl) ?_
  refine lv_iconst (v := 3) hx hb dL_law_355 (by decide) ?_
  refine lv_iadd hx hb dL_law_356 ?_
  refine lv_topi (fun t_ et_ => ?_)
  obtain rfl : t_ = nI (i + 3) := et_.trans (nI_add i 3)
  refine va_sld hx hb hX hbl (Nat.not_le.mpr hbl) S.2.2.2.1 (vp_in_nI (n := i + 3) (by omega) (by omega)) dL_law_357 ?_
  refine lv_topi (fun a3 ea3 => ?_)
  refine lv_aload_n hx hb dL_law_358 rfl (lv_at hl 3 rfl) ?_
  refine lv_iload_n hx hb dL_law_359 rfl (lv_at hl 0 rfl) ?_
  refine lv_iconst (v := 4) hx hb dL_law_360 (by decide) ?_
  refine lv_iadd hx hb dL_law_361 ?_
  refine lv_topi (fun t_ et_ => ?_)
  obtain rfl : t_ = nI (i + 4) := et_.trans (nI_add i 4)
  refine va_sld hx hb hX hbl (Nat.not_le.mpr hbl) S.2.2.2.1 (vp_in_nI (n := i + 4) (by omega) (by omega)) dL_law_362 ?_
  refine lv_topi (fun a4 ea4 => ?_)
  obtain ⟨fx, m_x, e_x⟩ := CfX_x C
  refine q_vi (As := [.int a1, .int a2, .int a3, .int a4]) (rest := []) ⟨hx, hb, hml, hown, hts⟩ (sy_make l D C a1 a2 a3 a4) (cwV 4 hts gL_law_X8_make rfl rfl rfl (by decide +kernel) ⟨Nat.le_of_ble_eq_true rfl, Nat.le_of_ble_eq_true rfl⟩) S m_x e_x (T := TX8) (N := 8) rfl rfl hl.1 rfl (Nat.le_of_ble_eq_true rfl) dL_law_363 hroom (fun r1 L f H1 locs S w1 => ?_)
  obtain ⟨wN1, wV1, M1, σ1, h8, w1⟩ := w1
  obtain ⟨ρ, C, R⟩ := after8X R w1
  refine lv_aload_n hx hb dL_law_366 rfl (lv_at hl 1 rfl) ?_
  refine lv_aload_n hx hb dL_law_367 rfl (lv_at hl 3 rfl) ?_
  refine lv_iload_n hx hb dL_law_368 rfl (lv_at hl 0 rfl) ?_
  refine lv_iconst (v := 1) hx hb dL_law_369 (by decide) ?_
  refine lv_iadd hx hb dL_law_370 ?_
  refine lv_topi (fun t_ et_ => ?_)
  obtain rfl : t_ = nI (i + 1) := et_.trans (nI_add i 1)
  refine va_sld hx hb hX hbl (Nat.not_le.mpr hbl) S.2.2.2.1 (vp_in_nI (n := i + 1) (by omega) (by omega)) dL_law_371 ?_
  refine lv_topi (fun t_ et_ => ?_)
  obtain rfl : a1 = t_ := ea1.trans et_.symm
  refine lv_aload_n hx hb dL_law_372 rfl (lv_at hl 3 rfl) ?_
  refine lv_iload_n hx hb dL_law_373 rfl (lv_at hl 0 rfl) ?_
  refine lv_iconst (v := 2) hx hb dL_law_374 (by decide) ?_
  refine lv_iadd hx hb dL_law_375 ?_
  refine lv_topi (fun t_ et_ => ?_)
  obtain rfl : t_ = nI (i + 2) := et_.trans (nI_add i 2)
  refine va_sld hx hb hX hbl (Nat.not_le.mpr hbl) S.2.2.2.1 (vp_in_nI (n := i + 2) (by omega) (by omega)) dL_law_376 ?_
  refine lv_topi (fun t_ et_ => ?_)
  obtain rfl : a2 = t_ := ea2.trans et_.symm
  refine lv_aload_n hx hb dL_law_377 rfl (lv_at hl 3 rfl) ?_
  refine lv_iload_n hx hb dL_law_378 rfl (lv_at hl 0 rfl) ?_
  refine lv_iconst (v := 3) hx hb dL_law_379 (by decide) ?_
  refine lv_iadd hx hb dL_law_380 ?_
  refine lv_topi (fun t_ et_ => ?_)
  obtain rfl : t_ = nI (i + 3) := et_.trans (nI_add i 3)
  refine va_sld hx hb hX hbl (Nat.not_le.mpr hbl) S.2.2.2.1 (vp_in_nI (n := i + 3) (by omega) (by omega)) dL_law_381 ?_
  refine lv_topi (fun t_ et_ => ?_)
  obtain rfl : a3 = t_ := ea3.trans et_.symm
  refine lv_aload_n hx hb dL_law_382 rfl (lv_at hl 3 rfl) ?_
  refine lv_iload_n hx hb dL_law_383 rfl (lv_at hl 0 rfl) ?_
  refine lv_iconst (v := 4) hx hb dL_law_384 (by decide) ?_
  refine lv_iadd hx hb dL_law_385 ?_
  refine lv_topi (fun t_ et_ => ?_)
  obtain rfl : t_ = nI (i + 4) := et_.trans (nI_add i 4)
  refine va_sld hx hb hX hbl (Nat.not_le.mpr hbl) S.2.2.2.1 (vp_in_nI (n := i + 4) (by omega) (by omega)) dL_law_386 ?_
  refine lv_topi (fun t_ et_ => ?_)
  obtain rfl : a4 = t_ := ea4.trans et_.symm
  obtain ⟨fy, m_y, e_y⟩ := CfY_y R
  refine q_vi (As := [.int a1, .int a2, .int a3, .int a4]) (rest := [.int r1]) ⟨hx, hb, hml, hown, hts⟩ (rx_make l D R a1 a2 a3 a4) (cwV 4 hts gL_law_X9_make rfl rfl rfl (by decide +kernel) ⟨Nat.le_of_ble_eq_true rfl, Nat.le_of_ble_eq_true rfl⟩) S m_y e_y (T := TX9) (N := 23) rfl rfl hl.1 rfl (Nat.le_of_ble_eq_true rfl) dL_law_387 hroom (fun r2 L f H1 locs S w2 => ?_)
  obtain ⟨rr1, h9, w2⟩ := w2
  obtain ⟨C, R⟩ := after9X C w2
  have hp := pH_make hI hV hR H h8 h9
  refine lv_icmp_eq (tgt := 1119) hx hb dL_law_390 (by decide) (fun _ => ?_) (fun q => absurd (hp.1) q)
  exact kk _ _ _ _ S ⟨_, _, _, _, _, _, C, R, hp.2⟩
set_option maxHeartbeats 4000000 in
set_option maxRecDepth 100000 in
theorem law_5 {p : Program} {l : Launch} {e : Env} {s : State} {m : MethodId} {below : List Frame} {meth : Method} {c : Code} {bs Ls i cells slots : Nat} {xs : Nat → Int32} {D : va_G} {g : Nat → ClassId} {L : List Nat} {f : Nat → va_E} {H : Heap} {locs : List Loc} {ls : Array Slot} {x y : Nat} {Q : State → Prop} (hx : p.tables.exec = Jvm.exec) (hb : c.code = cL_law) (hml : c.maxLocals = 4) (hown : s.vm.findClass RL = some m.cls) (hts : ∀ w ∈ wsL_law, w.before #[Value.ref bs] s = true) (hX : va_X bs Ls xs s s.heap) (hbl : bs < s.heap.size) (hLs : Ls ≤ 3072) (hi : i + 6 ≤ Ls) (hroom : cells + 49 ≤ room_1.cells ∧ slots + 7472 ≤ room_1.slots) (S : PS D g (fun q : Nat => s.heap.size ≤ q) s.heap s L f H locs) (hl : lv_has ls 4 [(3, .int (nI i)), (2, .ref y), (1, .ref x), (0, .ref bs)]) (I0 : InvH g L f x y) (kk : ∀ (L : List Nat) (f : Nat → va_E) (H : Heap) (locs : List Loc), PS D g (fun q : Nat => s.heap.size ≤ q) s.heap s L f H locs → InvH g L f x y → W p l e room_1 s m #[Value.ref bs] below meth c H locs (cells + 49) (slots + 7472) Q (F0 m 1119 ls [])) : W p l e room_1 s m #[Value.ref bs] below meth c H locs cells slots Q (F0 m 395 ls []) := by
  obtain ⟨ρ, wN, wV, M, σ, r, C, R, H⟩ := I0
  have hR := CfX_R C
  have hV := CfX_V C
  have hI := CfY_I R
  refine lv_aload_n hx hb dL_law_395 rfl (lv_at hl 2 rfl) ?_
  refine lv_aload_n hx hb dL_law_396 rfl (lv_at hl 3 rfl) ?_
  refine lv_iload_n hx hb dL_law_397 rfl (lv_at hl 0 rfl) ?_
  refine lv_iconst (v := 1) hx hb dL_law_398 (by decide) ?_
  refine lv_iadd hx hb dL_law_399 ?_
  refine lv_topi (fun t_ et_ => ?_)
  obtain rfl : t_ = nI (i + 1) := et_.trans (nI_add i 1)
  refine va_sld hx hb hX hbl (Nat.not_le.mpr hbl) S.2.2.2.1 (vp_in_nI (n := i + 1) (by omega) (by omega)) dL_law_400 ?_
  refine lv_topi (fun a1 ea1 => ?_)
  refine lv_aload_n hx hb dL_law_401 rfl (lv_at hl 3 rfl) ?_
  refine lv_iload_n hx hb dL_law_402 rfl (lv_at hl 0 rfl) ?_
  refine lv_iconst (v := 2) hx hb dL_law_403 (by decide) ?_
  refine lv_iadd hx hb dL_law_404 ?_
  refine lv_topi (fun t_ et_ => ?_)
  obtain rfl : t_ = nI (i + 2) := et_.trans (nI_add i 2)
  refine va_sld hx hb hX hbl (Nat.not_le.mpr hbl) S.2.2.2.1 (vp_in_nI (n := i + 2) (by omega) (by omega)) dL_law_405 ?_
  refine lv_topi (fun a2 ea2 => ?_)
  obtain ⟨fx, m_x, e_x⟩ := CfX_x C
  refine q_vi (As := [.int a1, .int a2]) (rest := []) ⟨hx, hb, hml, hown, hts⟩ (sy_solve l D C a1 a2) (cwV 2 hts gL_law_X8_solve rfl rfl rfl (by decide +kernel) ⟨Nat.le_of_ble_eq_true rfl, Nat.le_of_ble_eq_true rfl⟩) S m_x e_x (T := TX8) (N := 8) rfl rfl hl.1 rfl (Nat.le_of_ble_eq_true rfl) dL_law_406 hroom (fun r1 L f H1 locs S w1 => ?_)
  obtain ⟨wN1, wV1, M1, σ1, h8, w1⟩ := w1
  obtain ⟨ρ, C, R⟩ := after8X R w1
  refine lv_pop hx hb dL_law_409 rfl ?_
  refine lv_aload_n hx hb dL_law_410 rfl (lv_at hl 1 rfl) ?_
  refine lv_aload_n hx hb dL_law_411 rfl (lv_at hl 3 rfl) ?_
  refine lv_iload_n hx hb dL_law_412 rfl (lv_at hl 0 rfl) ?_
  refine lv_iconst (v := 1) hx hb dL_law_413 (by decide) ?_
  refine lv_iadd hx hb dL_law_414 ?_
  refine lv_topi (fun t_ et_ => ?_)
  obtain rfl : t_ = nI (i + 1) := et_.trans (nI_add i 1)
  refine va_sld hx hb hX hbl (Nat.not_le.mpr hbl) S.2.2.2.1 (vp_in_nI (n := i + 1) (by omega) (by omega)) dL_law_415 ?_
  refine lv_topi (fun t_ et_ => ?_)
  obtain rfl : a1 = t_ := ea1.trans et_.symm
  refine lv_aload_n hx hb dL_law_416 rfl (lv_at hl 3 rfl) ?_
  refine lv_iload_n hx hb dL_law_417 rfl (lv_at hl 0 rfl) ?_
  refine lv_iconst (v := 2) hx hb dL_law_418 (by decide) ?_
  refine lv_iadd hx hb dL_law_419 ?_
  refine lv_topi (fun t_ et_ => ?_)
  obtain rfl : t_ = nI (i + 2) := et_.trans (nI_add i 2)
  refine va_sld hx hb hX hbl (Nat.not_le.mpr hbl) S.2.2.2.1 (vp_in_nI (n := i + 2) (by omega) (by omega)) dL_law_420 ?_
  refine lv_topi (fun t_ et_ => ?_)
  obtain rfl : a2 = t_ := ea2.trans et_.symm
  obtain ⟨fy, m_y, e_y⟩ := CfY_y R
  refine q_vi (As := [.int a1, .int a2]) (rest := []) ⟨hx, hb, hml, hown, hts⟩ (rx_solve l D R a1 a2) (cwV 2 hts gL_law_X9_solve rfl rfl rfl (by decide +kernel) ⟨Nat.le_of_ble_eq_true rfl, Nat.le_of_ble_eq_true rfl⟩) S m_y e_y (T := TX9) (N := 23) rfl rfl hl.1 rfl (Nat.le_of_ble_eq_true rfl) dL_law_421 hroom (fun r2 L f H1 locs S w2 => ?_)
  obtain ⟨rr1, h9, w2⟩ := w2
  obtain ⟨C, R⟩ := after9X C w2
  have hp := pH_solve hI hV hR H h8 h9
  refine lv_pop hx hb dL_law_424 rfl ?_
  refine lv_goto (tgt := 1119) hx hb dL_law_425 (by decide) ?_
  exact kk _ _ _ _ S ⟨_, _, _, _, _, _, C, R, hp.2⟩
set_option maxHeartbeats 4000000 in
set_option maxRecDepth 100000 in
theorem law_6 {p : Program} {l : Launch} {e : Env} {s : State} {m : MethodId} {below : List Frame} {meth : Method} {c : Code} {bs Ls i cells slots : Nat} {xs : Nat → Int32} {D : va_G} {g : Nat → ClassId} {L : List Nat} {f : Nat → va_E} {H : Heap} {locs : List Loc} {ls : Array Slot} {x y : Nat} {Q : State → Prop} (hx : p.tables.exec = Jvm.exec) (hb : c.code = cL_law) (hml : c.maxLocals = 4) (hown : s.vm.findClass RL = some m.cls) (hts : ∀ w ∈ wsL_law, w.before #[Value.ref bs] s = true) (hX : va_X bs Ls xs s s.heap) (hbl : bs < s.heap.size) (hLs : Ls ≤ 3072) (hi : i + 6 ≤ Ls) (hroom : cells + 49 ≤ room_1.cells ∧ slots + 7472 ≤ room_1.slots) (S : PS D g (fun q : Nat => s.heap.size ≤ q) s.heap s L f H locs) (hl : lv_has ls 4 [(3, .int (nI i)), (2, .ref y), (1, .ref x), (0, .ref bs)]) (I0 : InvH g L f x y) (kk : ∀ (L : List Nat) (f : Nat → va_E) (H : Heap) (locs : List Loc), PS D g (fun q : Nat => s.heap.size ≤ q) s.heap s L f H locs → InvH g L f x y → W p l e room_1 s m #[Value.ref bs] below meth c H locs (cells + 49) (slots + 7472) Q (F0 m 1119 ls [])) : W p l e room_1 s m #[Value.ref bs] below meth c H locs cells slots Q (F0 m 428 ls []) := by
  obtain ⟨ρ, wN, wV, M, σ, r, C, R, H⟩ := I0
  have hR := CfX_R C
  have hV := CfX_V C
  have hI := CfY_I R
  refine lv_aload_n hx hb dL_law_428 rfl (lv_at hl 2 rfl) ?_
  refine lv_aload_n hx hb dL_law_429 rfl (lv_at hl 3 rfl) ?_
  refine lv_iload_n hx hb dL_law_430 rfl (lv_at hl 0 rfl) ?_
  refine lv_iconst (v := 1) hx hb dL_law_431 (by decide) ?_
  refine lv_iadd hx hb dL_law_432 ?_
  refine lv_topi (fun t_ et_ => ?_)
  obtain rfl : t_ = nI (i + 1) := et_.trans (nI_add i 1)
  refine va_sld hx hb hX hbl (Nat.not_le.mpr hbl) S.2.2.2.1 (vp_in_nI (n := i + 1) (by omega) (by omega)) dL_law_433 ?_
  refine lv_topi (fun a1 ea1 => ?_)
  refine lv_aload_n hx hb dL_law_434 rfl (lv_at hl 3 rfl) ?_
  refine lv_iload_n hx hb dL_law_435 rfl (lv_at hl 0 rfl) ?_
  refine lv_iconst (v := 2) hx hb dL_law_436 (by decide) ?_
  refine lv_iadd hx hb dL_law_437 ?_
  refine lv_topi (fun t_ et_ => ?_)
  obtain rfl : t_ = nI (i + 2) := et_.trans (nI_add i 2)
  refine va_sld hx hb hX hbl (Nat.not_le.mpr hbl) S.2.2.2.1 (vp_in_nI (n := i + 2) (by omega) (by omega)) dL_law_438 ?_
  refine lv_topi (fun a2 ea2 => ?_)
  refine lv_aload_n hx hb dL_law_439 rfl (lv_at hl 3 rfl) ?_
  refine lv_iload_n hx hb dL_law_440 rfl (lv_at hl 0 rfl) ?_
  refine lv_iconst (v := 3) hx hb dL_law_441 (by decide) ?_
  refine lv_iadd hx hb dL_law_442 ?_
  refine lv_topi (fun t_ et_ => ?_)
  obtain rfl : t_ = nI (i + 3) := et_.trans (nI_add i 3)
  refine va_sld hx hb hX hbl (Nat.not_le.mpr hbl) S.2.2.2.1 (vp_in_nI (n := i + 3) (by omega) (by omega)) dL_law_443 ?_
  refine lv_topi (fun a3 ea3 => ?_)
  obtain ⟨fx, m_x, e_x⟩ := CfX_x C
  refine q_vi (As := [.int a1, .int a2, .int a3]) (rest := []) ⟨hx, hb, hml, hown, hts⟩ (sy_layered l D C a1 a2 a3) (cwV 3 hts gL_law_X8_layered rfl rfl rfl (by decide +kernel) ⟨Nat.le_of_ble_eq_true rfl, Nat.le_of_ble_eq_true rfl⟩) S m_x e_x (T := TX8) (N := 8) rfl rfl hl.1 rfl (Nat.le_of_ble_eq_true rfl) dL_law_444 hroom (fun r1 L f H1 locs S w1 => ?_)
  obtain ⟨wN1, wV1, M1, σ1, h8, w1⟩ := w1
  obtain ⟨ρ, C, R⟩ := after8X R w1
  refine lv_pop hx hb dL_law_447 rfl ?_
  refine lv_aload_n hx hb dL_law_448 rfl (lv_at hl 1 rfl) ?_
  refine lv_aload_n hx hb dL_law_449 rfl (lv_at hl 3 rfl) ?_
  refine lv_iload_n hx hb dL_law_450 rfl (lv_at hl 0 rfl) ?_
  refine lv_iconst (v := 1) hx hb dL_law_451 (by decide) ?_
  refine lv_iadd hx hb dL_law_452 ?_
  refine lv_topi (fun t_ et_ => ?_)
  obtain rfl : t_ = nI (i + 1) := et_.trans (nI_add i 1)
  refine va_sld hx hb hX hbl (Nat.not_le.mpr hbl) S.2.2.2.1 (vp_in_nI (n := i + 1) (by omega) (by omega)) dL_law_453 ?_
  refine lv_topi (fun t_ et_ => ?_)
  obtain rfl : a1 = t_ := ea1.trans et_.symm
  refine lv_aload_n hx hb dL_law_454 rfl (lv_at hl 3 rfl) ?_
  refine lv_iload_n hx hb dL_law_455 rfl (lv_at hl 0 rfl) ?_
  refine lv_iconst (v := 2) hx hb dL_law_456 (by decide) ?_
  refine lv_iadd hx hb dL_law_457 ?_
  refine lv_topi (fun t_ et_ => ?_)
  obtain rfl : t_ = nI (i + 2) := et_.trans (nI_add i 2)
  refine va_sld hx hb hX hbl (Nat.not_le.mpr hbl) S.2.2.2.1 (vp_in_nI (n := i + 2) (by omega) (by omega)) dL_law_458 ?_
  refine lv_topi (fun t_ et_ => ?_)
  obtain rfl : a2 = t_ := ea2.trans et_.symm
  refine lv_aload_n hx hb dL_law_459 rfl (lv_at hl 3 rfl) ?_
  refine lv_iload_n hx hb dL_law_460 rfl (lv_at hl 0 rfl) ?_
  refine lv_iconst (v := 3) hx hb dL_law_461 (by decide) ?_
  refine lv_iadd hx hb dL_law_462 ?_
  refine lv_topi (fun t_ et_ => ?_)
  obtain rfl : t_ = nI (i + 3) := et_.trans (nI_add i 3)
  refine va_sld hx hb hX hbl (Nat.not_le.mpr hbl) S.2.2.2.1 (vp_in_nI (n := i + 3) (by omega) (by omega)) dL_law_463 ?_
  refine lv_topi (fun t_ et_ => ?_)
  obtain rfl : a3 = t_ := ea3.trans et_.symm
  obtain ⟨fy, m_y, e_y⟩ := CfY_y R
  refine q_vi (As := [.int a1, .int a2, .int a3]) (rest := []) ⟨hx, hb, hml, hown, hts⟩ (rx_layered l D R a1 a2 a3) (cwV 3 hts gL_law_X9_layered rfl rfl rfl (by decide +kernel) ⟨Nat.le_of_ble_eq_true rfl, Nat.le_of_ble_eq_true rfl⟩) S m_y e_y (T := TX9) (N := 23) rfl rfl hl.1 rfl (Nat.le_of_ble_eq_true rfl) dL_law_464 hroom (fun r2 L f H1 locs S w2 => ?_)
  obtain ⟨rr1, h9, w2⟩ := w2
  obtain ⟨C, R⟩ := after9X C w2
  have hp := pH_layered hI hV hR H h8 h9
  refine lv_pop hx hb dL_law_467 rfl ?_
  refine lv_goto (tgt := 1119) hx hb dL_law_468 (by decide) ?_
  exact kk _ _ _ _ S ⟨_, _, _, _, _, _, C, R, hp.2⟩
set_option maxHeartbeats 4000000 in
set_option maxRecDepth 100000 in
theorem law_7 {p : Program} {l : Launch} {e : Env} {s : State} {m : MethodId} {below : List Frame} {meth : Method} {c : Code} {bs Ls i cells slots : Nat} {xs : Nat → Int32} {D : va_G} {g : Nat → ClassId} {L : List Nat} {f : Nat → va_E} {H : Heap} {locs : List Loc} {ls : Array Slot} {x y : Nat} {Q : State → Prop} (hx : p.tables.exec = Jvm.exec) (hb : c.code = cL_law) (hml : c.maxLocals = 4) (hown : s.vm.findClass RL = some m.cls) (hts : ∀ w ∈ wsL_law, w.before #[Value.ref bs] s = true) (hX : va_X bs Ls xs s s.heap) (hbl : bs < s.heap.size) (hLs : Ls ≤ 3072) (hi : i + 6 ≤ Ls) (hroom : cells + 49 ≤ room_1.cells ∧ slots + 7472 ≤ room_1.slots) (S : PS D g (fun q : Nat => s.heap.size ≤ q) s.heap s L f H locs) (hl : lv_has ls 4 [(3, .int (nI i)), (2, .ref y), (1, .ref x), (0, .ref bs)]) (I0 : InvH g L f x y) (kk : ∀ (L : List Nat) (f : Nat → va_E) (H : Heap) (locs : List Loc), PS D g (fun q : Nat => s.heap.size ≤ q) s.heap s L f H locs → InvH g L f x y → W p l e room_1 s m #[Value.ref bs] below meth c H locs (cells + 49) (slots + 7472) Q (F0 m 1119 ls [])) : W p l e room_1 s m #[Value.ref bs] below meth c H locs cells slots Q (F0 m 471 ls []) := by
  obtain ⟨ρ, wN, wV, M, σ, r, C, R, H⟩ := I0
  have hR := CfX_R C
  have hV := CfX_V C
  have hI := CfY_I R
  refine lv_aload_n hx hb dL_law_471 rfl (lv_at hl 2 rfl) ?_
  refine lv_aload_n hx hb dL_law_472 rfl (lv_at hl 3 rfl) ?_
  refine lv_iload_n hx hb dL_law_473 rfl (lv_at hl 0 rfl) ?_
  refine lv_iconst (v := 1) hx hb dL_law_474 (by decide) ?_
  refine lv_iadd hx hb dL_law_475 ?_
  refine lv_topi (fun t_ et_ => ?_)
  obtain rfl : t_ = nI (i + 1) := et_.trans (nI_add i 1)
  refine va_sld hx hb hX hbl (Nat.not_le.mpr hbl) S.2.2.2.1 (vp_in_nI (n := i + 1) (by omega) (by omega)) dL_law_476 ?_
  refine lv_topi (fun a1 ea1 => ?_)
  refine lv_aload_n hx hb dL_law_477 rfl (lv_at hl 3 rfl) ?_
  refine lv_iload_n hx hb dL_law_478 rfl (lv_at hl 0 rfl) ?_
  refine lv_iconst (v := 2) hx hb dL_law_479 (by decide) ?_
  refine lv_iadd hx hb dL_law_480 ?_
  refine lv_topi (fun t_ et_ => ?_)
  obtain rfl : t_ = nI (i + 2) := et_.trans (nI_add i 2)
  refine va_sld hx hb hX hbl (Nat.not_le.mpr hbl) S.2.2.2.1 (vp_in_nI (n := i + 2) (by omega) (by omega)) dL_law_481 ?_
  refine lv_topi (fun a2 ea2 => ?_)
  refine lv_i2l hx hb dL_law_482 rfl ?_
  refine lv_bipush (v := 32) hx hb dL_law_483 (by decide) ?_
  refine lv_lshl hx hb dL_law_485 rfl ?_
  refine lv_aload_n hx hb dL_law_486 rfl (lv_at hl 3 rfl) ?_
  refine lv_iload_n hx hb dL_law_487 rfl (lv_at hl 0 rfl) ?_
  refine lv_iconst (v := 3) hx hb dL_law_488 (by decide) ?_
  refine lv_iadd hx hb dL_law_489 ?_
  refine lv_topi (fun t_ et_ => ?_)
  obtain rfl : t_ = nI (i + 3) := et_.trans (nI_add i 3)
  refine va_sld hx hb hX hbl (Nat.not_le.mpr hbl) S.2.2.2.1 (vp_in_nI (n := i + 3) (by omega) (by omega)) dL_law_490 ?_
  refine lv_topi (fun a3 ea3 => ?_)
  refine lv_i2l hx hb dL_law_491 rfl ?_
  refine lv_ldc2 (v := (4294967295)) hx hb hown (hts (.constantLong RL 13 (4294967295)) (by decide +kernel)) dL_law_492 ?_
  refine lv_land hx hb dL_law_495 ?_
  refine lv_lor hx hb dL_law_496 ?_
  refine lv_topl (fun fs efs => ?_)
  obtain ⟨fx, m_x, e_x⟩ := CfX_x C
  refine q_vi (As := [.int a1, .long fs]) (rest := []) ⟨hx, hb, hml, hown, hts⟩ (sy_put l D C a1 fs) (cwV 2 hts gL_law_X8_put rfl rfl rfl (by decide +kernel) ⟨Nat.le_of_ble_eq_true rfl, Nat.le_of_ble_eq_true rfl⟩) S m_x e_x (T := TX8) (N := 8) rfl rfl hl.1 rfl (Nat.le_of_ble_eq_true rfl) dL_law_497 hroom (fun r1 L f H1 locs S w1 => ?_)
  obtain ⟨wN1, wV1, M1, σ1, h8, w1⟩ := w1
  obtain ⟨ρ, C, R⟩ := after8X R w1
  refine lv_pop hx hb dL_law_500 rfl ?_
  refine lv_aload_n hx hb dL_law_501 rfl (lv_at hl 1 rfl) ?_
  refine lv_aload_n hx hb dL_law_502 rfl (lv_at hl 3 rfl) ?_
  refine lv_iload_n hx hb dL_law_503 rfl (lv_at hl 0 rfl) ?_
  refine lv_iconst (v := 1) hx hb dL_law_504 (by decide) ?_
  refine lv_iadd hx hb dL_law_505 ?_
  refine lv_topi (fun t_ et_ => ?_)
  obtain rfl : t_ = nI (i + 1) := et_.trans (nI_add i 1)
  refine va_sld hx hb hX hbl (Nat.not_le.mpr hbl) S.2.2.2.1 (vp_in_nI (n := i + 1) (by omega) (by omega)) dL_law_506 ?_
  refine lv_topi (fun t_ et_ => ?_)
  obtain rfl : a1 = t_ := ea1.trans et_.symm
  refine lv_aload_n hx hb dL_law_507 rfl (lv_at hl 3 rfl) ?_
  refine lv_iload_n hx hb dL_law_508 rfl (lv_at hl 0 rfl) ?_
  refine lv_iconst (v := 2) hx hb dL_law_509 (by decide) ?_
  refine lv_iadd hx hb dL_law_510 ?_
  refine lv_topi (fun t_ et_ => ?_)
  obtain rfl : t_ = nI (i + 2) := et_.trans (nI_add i 2)
  refine va_sld hx hb hX hbl (Nat.not_le.mpr hbl) S.2.2.2.1 (vp_in_nI (n := i + 2) (by omega) (by omega)) dL_law_511 ?_
  refine lv_topi (fun t_ et_ => ?_)
  obtain rfl : a2 = t_ := ea2.trans et_.symm
  refine lv_i2l hx hb dL_law_512 rfl ?_
  refine lv_bipush (v := 32) hx hb dL_law_513 (by decide) ?_
  refine lv_lshl hx hb dL_law_515 rfl ?_
  refine lv_aload_n hx hb dL_law_516 rfl (lv_at hl 3 rfl) ?_
  refine lv_iload_n hx hb dL_law_517 rfl (lv_at hl 0 rfl) ?_
  refine lv_iconst (v := 3) hx hb dL_law_518 (by decide) ?_
  refine lv_iadd hx hb dL_law_519 ?_
  refine lv_topi (fun t_ et_ => ?_)
  obtain rfl : t_ = nI (i + 3) := et_.trans (nI_add i 3)
  refine va_sld hx hb hX hbl (Nat.not_le.mpr hbl) S.2.2.2.1 (vp_in_nI (n := i + 3) (by omega) (by omega)) dL_law_520 ?_
  refine lv_topi (fun t_ et_ => ?_)
  obtain rfl : a3 = t_ := ea3.trans et_.symm
  refine lv_i2l hx hb dL_law_521 rfl ?_
  refine lv_ldc2 (v := (4294967295)) hx hb hown (hts (.constantLong RL 13 (4294967295)) (by decide +kernel)) dL_law_522 ?_
  refine lv_land hx hb dL_law_525 ?_
  refine lv_lor hx hb dL_law_526 ?_
  refine lv_topl (fun t_ et_ => ?_)
  obtain rfl : fs = t_ := efs.trans et_.symm
  obtain ⟨fy, m_y, e_y⟩ := CfY_y R
  refine q_vi (As := [.int a1, .long fs]) (rest := []) ⟨hx, hb, hml, hown, hts⟩ (rx_put l D R a1 fs) (cwV 2 hts gL_law_X9_put rfl rfl rfl (by decide +kernel) ⟨Nat.le_of_ble_eq_true rfl, Nat.le_of_ble_eq_true rfl⟩) S m_y e_y (T := TX9) (N := 23) rfl rfl hl.1 rfl (Nat.le_of_ble_eq_true rfl) dL_law_527 hroom (fun r2 L f H1 locs S w2 => ?_)
  obtain ⟨rr1, h9, w2⟩ := w2
  obtain ⟨C, R⟩ := after9X C w2
  have hp := pH_put hI hV hR H h8 h9
  refine lv_pop hx hb dL_law_530 rfl ?_
  refine lv_goto (tgt := 1119) hx hb dL_law_531 (by decide) ?_
  exact kk _ _ _ _ S ⟨_, _, _, _, _, _, C, R, hp⟩
set_option maxHeartbeats 4000000 in
set_option maxRecDepth 100000 in
theorem law_8 {p : Program} {l : Launch} {e : Env} {s : State} {m : MethodId} {below : List Frame} {meth : Method} {c : Code} {bs Ls i cells slots : Nat} {xs : Nat → Int32} {D : va_G} {g : Nat → ClassId} {L : List Nat} {f : Nat → va_E} {H : Heap} {locs : List Loc} {ls : Array Slot} {x y : Nat} {Q : State → Prop} (hx : p.tables.exec = Jvm.exec) (hb : c.code = cL_law) (hml : c.maxLocals = 4) (hown : s.vm.findClass RL = some m.cls) (hts : ∀ w ∈ wsL_law, w.before #[Value.ref bs] s = true) (hX : va_X bs Ls xs s s.heap) (hbl : bs < s.heap.size) (hLs : Ls ≤ 3072) (hi : i + 6 ≤ Ls) (hroom : cells + 49 ≤ room_1.cells ∧ slots + 7472 ≤ room_1.slots) (S : PS D g (fun q : Nat => s.heap.size ≤ q) s.heap s L f H locs) (hl : lv_has ls 4 [(3, .int (nI i)), (2, .ref y), (1, .ref x), (0, .ref bs)]) (I0 : InvH g L f x y) (kk : ∀ (L : List Nat) (f : Nat → va_E) (H : Heap) (locs : List Loc), PS D g (fun q : Nat => s.heap.size ≤ q) s.heap s L f H locs → InvH g L f x y → W p l e room_1 s m #[Value.ref bs] below meth c H locs (cells + 49) (slots + 7472) Q (F0 m 1119 ls [])) : W p l e room_1 s m #[Value.ref bs] below meth c H locs cells slots Q (F0 m 534 ls []) := by
  obtain ⟨ρ, wN, wV, M, σ, r, C, R, H⟩ := I0
  have hR := CfX_R C
  have hV := CfX_V C
  have hI := CfY_I R
  refine lv_aload_n hx hb dL_law_534 rfl (lv_at hl 2 rfl) ?_
  refine lv_aload_n hx hb dL_law_535 rfl (lv_at hl 3 rfl) ?_
  refine lv_iload_n hx hb dL_law_536 rfl (lv_at hl 0 rfl) ?_
  refine lv_iconst (v := 1) hx hb dL_law_537 (by decide) ?_
  refine lv_iadd hx hb dL_law_538 ?_
  refine lv_topi (fun t_ et_ => ?_)
  obtain rfl : t_ = nI (i + 1) := et_.trans (nI_add i 1)
  refine va_sld hx hb hX hbl (Nat.not_le.mpr hbl) S.2.2.2.1 (vp_in_nI (n := i + 1) (by omega) (by omega)) dL_law_539 ?_
  refine lv_topi (fun a1 ea1 => ?_)
  refine lv_aload_n hx hb dL_law_540 rfl (lv_at hl 3 rfl) ?_
  refine lv_iload_n hx hb dL_law_541 rfl (lv_at hl 0 rfl) ?_
  refine lv_iconst (v := 2) hx hb dL_law_542 (by decide) ?_
  refine lv_iadd hx hb dL_law_543 ?_
  refine lv_topi (fun t_ et_ => ?_)
  obtain rfl : t_ = nI (i + 2) := et_.trans (nI_add i 2)
  refine va_sld hx hb hX hbl (Nat.not_le.mpr hbl) S.2.2.2.1 (vp_in_nI (n := i + 2) (by omega) (by omega)) dL_law_544 ?_
  refine lv_topi (fun a2 ea2 => ?_)
  obtain ⟨fx, m_x, e_x⟩ := CfX_x C
  refine q_vi (As := [.int a1, .int a2]) (rest := []) ⟨hx, hb, hml, hown, hts⟩ (sy_putAll l D C a1 a2) (cwV 2 hts gL_law_X8_putAll rfl rfl rfl (by decide +kernel) ⟨Nat.le_of_ble_eq_true rfl, Nat.le_of_ble_eq_true rfl⟩) S m_x e_x (T := TX8) (N := 8) rfl rfl hl.1 rfl (Nat.le_of_ble_eq_true rfl) dL_law_545 hroom (fun r1 L f H1 locs S w1 => ?_)
  obtain ⟨wN1, wV1, M1, σ1, h8, w1⟩ := w1
  obtain ⟨ρ, C, R⟩ := after8X R w1
  refine lv_pop hx hb dL_law_548 rfl ?_
  refine lv_aload_n hx hb dL_law_549 rfl (lv_at hl 1 rfl) ?_
  refine lv_aload_n hx hb dL_law_550 rfl (lv_at hl 3 rfl) ?_
  refine lv_iload_n hx hb dL_law_551 rfl (lv_at hl 0 rfl) ?_
  refine lv_iconst (v := 1) hx hb dL_law_552 (by decide) ?_
  refine lv_iadd hx hb dL_law_553 ?_
  refine lv_topi (fun t_ et_ => ?_)
  obtain rfl : t_ = nI (i + 1) := et_.trans (nI_add i 1)
  refine va_sld hx hb hX hbl (Nat.not_le.mpr hbl) S.2.2.2.1 (vp_in_nI (n := i + 1) (by omega) (by omega)) dL_law_554 ?_
  refine lv_topi (fun t_ et_ => ?_)
  obtain rfl : a1 = t_ := ea1.trans et_.symm
  refine lv_aload_n hx hb dL_law_555 rfl (lv_at hl 3 rfl) ?_
  refine lv_iload_n hx hb dL_law_556 rfl (lv_at hl 0 rfl) ?_
  refine lv_iconst (v := 2) hx hb dL_law_557 (by decide) ?_
  refine lv_iadd hx hb dL_law_558 ?_
  refine lv_topi (fun t_ et_ => ?_)
  obtain rfl : t_ = nI (i + 2) := et_.trans (nI_add i 2)
  refine va_sld hx hb hX hbl (Nat.not_le.mpr hbl) S.2.2.2.1 (vp_in_nI (n := i + 2) (by omega) (by omega)) dL_law_559 ?_
  refine lv_topi (fun t_ et_ => ?_)
  obtain rfl : a2 = t_ := ea2.trans et_.symm
  obtain ⟨fy, m_y, e_y⟩ := CfY_y R
  refine q_vi (As := [.int a1, .int a2]) (rest := []) ⟨hx, hb, hml, hown, hts⟩ (rx_putAll l D R a1 a2) (cwV 2 hts gL_law_X9_putAll rfl rfl rfl (by decide +kernel) ⟨Nat.le_of_ble_eq_true rfl, Nat.le_of_ble_eq_true rfl⟩) S m_y e_y (T := TX9) (N := 23) rfl rfl hl.1 rfl (Nat.le_of_ble_eq_true rfl) dL_law_560 hroom (fun r2 L f H1 locs S w2 => ?_)
  obtain ⟨rr1, h9, w2⟩ := w2
  obtain ⟨C, R⟩ := after9X C w2
  have hp := pH_putAll hI hV hR H h8 h9
  refine lv_pop hx hb dL_law_563 rfl ?_
  refine lv_goto (tgt := 1119) hx hb dL_law_564 (by decide) ?_
  exact kk _ _ _ _ S ⟨_, _, _, _, _, _, C, R, hp⟩
set_option maxHeartbeats 4000000 in
set_option maxRecDepth 100000 in
theorem law_9 {p : Program} {l : Launch} {e : Env} {s : State} {m : MethodId} {below : List Frame} {meth : Method} {c : Code} {bs Ls i cells slots : Nat} {xs : Nat → Int32} {D : va_G} {g : Nat → ClassId} {L : List Nat} {f : Nat → va_E} {H : Heap} {locs : List Loc} {ls : Array Slot} {x y : Nat} {Q : State → Prop} (hx : p.tables.exec = Jvm.exec) (hb : c.code = cL_law) (hml : c.maxLocals = 4) (hown : s.vm.findClass RL = some m.cls) (hts : ∀ w ∈ wsL_law, w.before #[Value.ref bs] s = true) (hX : va_X bs Ls xs s s.heap) (hbl : bs < s.heap.size) (hLs : Ls ≤ 3072) (hi : i + 6 ≤ Ls) (hroom : cells + 49 ≤ room_1.cells ∧ slots + 7472 ≤ room_1.slots) (S : PS D g (fun q : Nat => s.heap.size ≤ q) s.heap s L f H locs) (hl : lv_has ls 4 [(3, .int (nI i)), (2, .ref y), (1, .ref x), (0, .ref bs)]) (I0 : InvH g L f x y) (kk : ∀ (L : List Nat) (f : Nat → va_E) (H : Heap) (locs : List Loc), PS D g (fun q : Nat => s.heap.size ≤ q) s.heap s L f H locs → InvH g L f x y → W p l e room_1 s m #[Value.ref bs] below meth c H locs (cells + 49) (slots + 7472) Q (F0 m 1119 ls [])) : W p l e room_1 s m #[Value.ref bs] below meth c H locs cells slots Q (F0 m 567 ls []) := by
  obtain ⟨ρ, wN, wV, M, σ, r, C, R, H⟩ := I0
  have hR := CfX_R C
  have hV := CfX_V C
  have hI := CfY_I R
  refine lv_aload_n hx hb dL_law_567 rfl (lv_at hl 2 rfl) ?_
  refine lv_aload_n hx hb dL_law_568 rfl (lv_at hl 3 rfl) ?_
  refine lv_iload_n hx hb dL_law_569 rfl (lv_at hl 0 rfl) ?_
  refine lv_iconst (v := 1) hx hb dL_law_570 (by decide) ?_
  refine lv_iadd hx hb dL_law_571 ?_
  refine lv_topi (fun t_ et_ => ?_)
  obtain rfl : t_ = nI (i + 1) := et_.trans (nI_add i 1)
  refine va_sld hx hb hX hbl (Nat.not_le.mpr hbl) S.2.2.2.1 (vp_in_nI (n := i + 1) (by omega) (by omega)) dL_law_572 ?_
  refine lv_topi (fun a1 ea1 => ?_)
  refine lv_aload_n hx hb dL_law_573 rfl (lv_at hl 3 rfl) ?_
  refine lv_iload_n hx hb dL_law_574 rfl (lv_at hl 0 rfl) ?_
  refine lv_iconst (v := 2) hx hb dL_law_575 (by decide) ?_
  refine lv_iadd hx hb dL_law_576 ?_
  refine lv_topi (fun t_ et_ => ?_)
  obtain rfl : t_ = nI (i + 2) := et_.trans (nI_add i 2)
  refine va_sld hx hb hX hbl (Nat.not_le.mpr hbl) S.2.2.2.1 (vp_in_nI (n := i + 2) (by omega) (by omega)) dL_law_577 ?_
  refine lv_topi (fun a2 ea2 => ?_)
  refine lv_i2l hx hb dL_law_578 rfl ?_
  refine lv_bipush (v := 32) hx hb dL_law_579 (by decide) ?_
  refine lv_lshl hx hb dL_law_581 rfl ?_
  refine lv_aload_n hx hb dL_law_582 rfl (lv_at hl 3 rfl) ?_
  refine lv_iload_n hx hb dL_law_583 rfl (lv_at hl 0 rfl) ?_
  refine lv_iconst (v := 3) hx hb dL_law_584 (by decide) ?_
  refine lv_iadd hx hb dL_law_585 ?_
  refine lv_topi (fun t_ et_ => ?_)
  obtain rfl : t_ = nI (i + 3) := et_.trans (nI_add i 3)
  refine va_sld hx hb hX hbl (Nat.not_le.mpr hbl) S.2.2.2.1 (vp_in_nI (n := i + 3) (by omega) (by omega)) dL_law_586 ?_
  refine lv_topi (fun a3 ea3 => ?_)
  refine lv_i2l hx hb dL_law_587 rfl ?_
  refine lv_ldc2 (v := (4294967295)) hx hb hown (hts (.constantLong RL 13 (4294967295)) (by decide +kernel)) dL_law_588 ?_
  refine lv_land hx hb dL_law_591 ?_
  refine lv_lor hx hb dL_law_592 ?_
  refine lv_topl (fun fs efs => ?_)
  obtain ⟨fx, m_x, e_x⟩ := CfX_x C
  refine q_vi (As := [.int a1, .long fs]) (rest := []) ⟨hx, hb, hml, hown, hts⟩ (sy_drop l D C a1 fs) (cwV 2 hts gL_law_X8_drop rfl rfl rfl (by decide +kernel) ⟨Nat.le_of_ble_eq_true rfl, Nat.le_of_ble_eq_true rfl⟩) S m_x e_x (T := TX8) (N := 8) rfl rfl hl.1 rfl (Nat.le_of_ble_eq_true rfl) dL_law_593 hroom (fun r1 L f H1 locs S w1 => ?_)
  obtain ⟨wN1, wV1, M1, σ1, h8, w1⟩ := w1
  obtain ⟨ρ, C, R⟩ := after8X R w1
  refine lv_pop hx hb dL_law_596 rfl ?_
  refine lv_aload_n hx hb dL_law_597 rfl (lv_at hl 1 rfl) ?_
  refine lv_aload_n hx hb dL_law_598 rfl (lv_at hl 3 rfl) ?_
  refine lv_iload_n hx hb dL_law_599 rfl (lv_at hl 0 rfl) ?_
  refine lv_iconst (v := 1) hx hb dL_law_600 (by decide) ?_
  refine lv_iadd hx hb dL_law_601 ?_
  refine lv_topi (fun t_ et_ => ?_)
  obtain rfl : t_ = nI (i + 1) := et_.trans (nI_add i 1)
  refine va_sld hx hb hX hbl (Nat.not_le.mpr hbl) S.2.2.2.1 (vp_in_nI (n := i + 1) (by omega) (by omega)) dL_law_602 ?_
  refine lv_topi (fun t_ et_ => ?_)
  obtain rfl : a1 = t_ := ea1.trans et_.symm
  refine lv_aload_n hx hb dL_law_603 rfl (lv_at hl 3 rfl) ?_
  refine lv_iload_n hx hb dL_law_604 rfl (lv_at hl 0 rfl) ?_
  refine lv_iconst (v := 2) hx hb dL_law_605 (by decide) ?_
  refine lv_iadd hx hb dL_law_606 ?_
  refine lv_topi (fun t_ et_ => ?_)
  obtain rfl : t_ = nI (i + 2) := et_.trans (nI_add i 2)
  refine va_sld hx hb hX hbl (Nat.not_le.mpr hbl) S.2.2.2.1 (vp_in_nI (n := i + 2) (by omega) (by omega)) dL_law_607 ?_
  refine lv_topi (fun t_ et_ => ?_)
  obtain rfl : a2 = t_ := ea2.trans et_.symm
  refine lv_i2l hx hb dL_law_608 rfl ?_
  refine lv_bipush (v := 32) hx hb dL_law_609 (by decide) ?_
  refine lv_lshl hx hb dL_law_611 rfl ?_
  refine lv_aload_n hx hb dL_law_612 rfl (lv_at hl 3 rfl) ?_
  refine lv_iload_n hx hb dL_law_613 rfl (lv_at hl 0 rfl) ?_
  refine lv_iconst (v := 3) hx hb dL_law_614 (by decide) ?_
  refine lv_iadd hx hb dL_law_615 ?_
  refine lv_topi (fun t_ et_ => ?_)
  obtain rfl : t_ = nI (i + 3) := et_.trans (nI_add i 3)
  refine va_sld hx hb hX hbl (Nat.not_le.mpr hbl) S.2.2.2.1 (vp_in_nI (n := i + 3) (by omega) (by omega)) dL_law_616 ?_
  refine lv_topi (fun t_ et_ => ?_)
  obtain rfl : a3 = t_ := ea3.trans et_.symm
  refine lv_i2l hx hb dL_law_617 rfl ?_
  refine lv_ldc2 (v := (4294967295)) hx hb hown (hts (.constantLong RL 13 (4294967295)) (by decide +kernel)) dL_law_618 ?_
  refine lv_land hx hb dL_law_621 ?_
  refine lv_lor hx hb dL_law_622 ?_
  refine lv_topl (fun t_ et_ => ?_)
  obtain rfl : fs = t_ := efs.trans et_.symm
  obtain ⟨fy, m_y, e_y⟩ := CfY_y R
  refine q_vi (As := [.int a1, .long fs]) (rest := []) ⟨hx, hb, hml, hown, hts⟩ (rx_drop l D R a1 fs) (cwV 2 hts gL_law_X9_drop rfl rfl rfl (by decide +kernel) ⟨Nat.le_of_ble_eq_true rfl, Nat.le_of_ble_eq_true rfl⟩) S m_y e_y (T := TX9) (N := 23) rfl rfl hl.1 rfl (Nat.le_of_ble_eq_true rfl) dL_law_623 hroom (fun r2 L f H1 locs S w2 => ?_)
  obtain ⟨rr1, h9, w2⟩ := w2
  obtain ⟨C, R⟩ := after9X C w2
  have hp := pH_drop hI hV hR H h8 h9
  refine lv_pop hx hb dL_law_626 rfl ?_
  refine lv_goto (tgt := 1119) hx hb dL_law_627 (by decide) ?_
  exact kk _ _ _ _ S ⟨_, _, _, _, _, _, C, R, hp⟩
set_option maxHeartbeats 4000000 in
set_option maxRecDepth 100000 in
theorem law_10 {p : Program} {l : Launch} {e : Env} {s : State} {m : MethodId} {below : List Frame} {meth : Method} {c : Code} {bs Ls i cells slots : Nat} {xs : Nat → Int32} {D : va_G} {g : Nat → ClassId} {L : List Nat} {f : Nat → va_E} {H : Heap} {locs : List Loc} {ls : Array Slot} {x y : Nat} {Q : State → Prop} (hx : p.tables.exec = Jvm.exec) (hb : c.code = cL_law) (hml : c.maxLocals = 4) (hown : s.vm.findClass RL = some m.cls) (hts : ∀ w ∈ wsL_law, w.before #[Value.ref bs] s = true) (hX : va_X bs Ls xs s s.heap) (hbl : bs < s.heap.size) (hLs : Ls ≤ 3072) (hi : i + 6 ≤ Ls) (hroom : cells + 49 ≤ room_1.cells ∧ slots + 7472 ≤ room_1.slots) (S : PS D g (fun q : Nat => s.heap.size ≤ q) s.heap s L f H locs) (hl : lv_has ls 4 [(3, .int (nI i)), (2, .ref y), (1, .ref x), (0, .ref bs)]) (I0 : InvH g L f x y) (kk : ∀ (L : List Nat) (f : Nat → va_E) (H : Heap) (locs : List Loc), PS D g (fun q : Nat => s.heap.size ≤ q) s.heap s L f H locs → InvH g L f x y → W p l e room_1 s m #[Value.ref bs] below meth c H locs (cells + 49) (slots + 7472) Q (F0 m 1119 ls [])) : W p l e room_1 s m #[Value.ref bs] below meth c H locs cells slots Q (F0 m 630 ls []) := by
  obtain ⟨ρ, wN, wV, M, σ, r, C, R, H⟩ := I0
  have hR := CfX_R C
  have hV := CfX_V C
  have hI := CfY_I R
  refine lv_aload_n hx hb dL_law_630 rfl (lv_at hl 2 rfl) ?_
  refine lv_aload_n hx hb dL_law_631 rfl (lv_at hl 3 rfl) ?_
  refine lv_iload_n hx hb dL_law_632 rfl (lv_at hl 0 rfl) ?_
  refine lv_iconst (v := 1) hx hb dL_law_633 (by decide) ?_
  refine lv_iadd hx hb dL_law_634 ?_
  refine lv_topi (fun t_ et_ => ?_)
  obtain rfl : t_ = nI (i + 1) := et_.trans (nI_add i 1)
  refine va_sld hx hb hX hbl (Nat.not_le.mpr hbl) S.2.2.2.1 (vp_in_nI (n := i + 1) (by omega) (by omega)) dL_law_635 ?_
  refine lv_topi (fun a1 ea1 => ?_)
  refine lv_aload_n hx hb dL_law_636 rfl (lv_at hl 3 rfl) ?_
  refine lv_iload_n hx hb dL_law_637 rfl (lv_at hl 0 rfl) ?_
  refine lv_iconst (v := 2) hx hb dL_law_638 (by decide) ?_
  refine lv_iadd hx hb dL_law_639 ?_
  refine lv_topi (fun t_ et_ => ?_)
  obtain rfl : t_ = nI (i + 2) := et_.trans (nI_add i 2)
  refine va_sld hx hb hX hbl (Nat.not_le.mpr hbl) S.2.2.2.1 (vp_in_nI (n := i + 2) (by omega) (by omega)) dL_law_640 ?_
  refine lv_topi (fun a2 ea2 => ?_)
  refine lv_i2l hx hb dL_law_641 rfl ?_
  refine lv_bipush (v := 32) hx hb dL_law_642 (by decide) ?_
  refine lv_lshl hx hb dL_law_644 rfl ?_
  refine lv_aload_n hx hb dL_law_645 rfl (lv_at hl 3 rfl) ?_
  refine lv_iload_n hx hb dL_law_646 rfl (lv_at hl 0 rfl) ?_
  refine lv_iconst (v := 3) hx hb dL_law_647 (by decide) ?_
  refine lv_iadd hx hb dL_law_648 ?_
  refine lv_topi (fun t_ et_ => ?_)
  obtain rfl : t_ = nI (i + 3) := et_.trans (nI_add i 3)
  refine va_sld hx hb hX hbl (Nat.not_le.mpr hbl) S.2.2.2.1 (vp_in_nI (n := i + 3) (by omega) (by omega)) dL_law_649 ?_
  refine lv_topi (fun a3 ea3 => ?_)
  refine lv_i2l hx hb dL_law_650 rfl ?_
  refine lv_ldc2 (v := (4294967295)) hx hb hown (hts (.constantLong RL 13 (4294967295)) (by decide +kernel)) dL_law_651 ?_
  refine lv_land hx hb dL_law_654 ?_
  refine lv_lor hx hb dL_law_655 ?_
  refine lv_topl (fun fs efs => ?_)
  obtain ⟨fx, m_x, e_x⟩ := CfX_x C
  refine q_vi (As := [.int a1, .long fs]) (rest := []) ⟨hx, hb, hml, hown, hts⟩ (sy_lets l D C a1 fs) (cwV 2 hts gL_law_X8_lets rfl rfl rfl (by decide +kernel) ⟨Nat.le_of_ble_eq_true rfl, Nat.le_of_ble_eq_true rfl⟩) S m_x e_x (T := TX8) (N := 8) rfl rfl hl.1 rfl (Nat.le_of_ble_eq_true rfl) dL_law_656 hroom (fun r1 L f H1 locs S w1 => ?_)
  obtain ⟨wN1, wV1, M1, σ1, h8, w1⟩ := w1
  obtain ⟨ρ, C, R⟩ := after8X R w1
  refine lv_pop hx hb dL_law_659 rfl ?_
  refine lv_aload_n hx hb dL_law_660 rfl (lv_at hl 1 rfl) ?_
  refine lv_aload_n hx hb dL_law_661 rfl (lv_at hl 3 rfl) ?_
  refine lv_iload_n hx hb dL_law_662 rfl (lv_at hl 0 rfl) ?_
  refine lv_iconst (v := 1) hx hb dL_law_663 (by decide) ?_
  refine lv_iadd hx hb dL_law_664 ?_
  refine lv_topi (fun t_ et_ => ?_)
  obtain rfl : t_ = nI (i + 1) := et_.trans (nI_add i 1)
  refine va_sld hx hb hX hbl (Nat.not_le.mpr hbl) S.2.2.2.1 (vp_in_nI (n := i + 1) (by omega) (by omega)) dL_law_665 ?_
  refine lv_topi (fun t_ et_ => ?_)
  obtain rfl : a1 = t_ := ea1.trans et_.symm
  refine lv_aload_n hx hb dL_law_666 rfl (lv_at hl 3 rfl) ?_
  refine lv_iload_n hx hb dL_law_667 rfl (lv_at hl 0 rfl) ?_
  refine lv_iconst (v := 2) hx hb dL_law_668 (by decide) ?_
  refine lv_iadd hx hb dL_law_669 ?_
  refine lv_topi (fun t_ et_ => ?_)
  obtain rfl : t_ = nI (i + 2) := et_.trans (nI_add i 2)
  refine va_sld hx hb hX hbl (Nat.not_le.mpr hbl) S.2.2.2.1 (vp_in_nI (n := i + 2) (by omega) (by omega)) dL_law_670 ?_
  refine lv_topi (fun t_ et_ => ?_)
  obtain rfl : a2 = t_ := ea2.trans et_.symm
  refine lv_i2l hx hb dL_law_671 rfl ?_
  refine lv_bipush (v := 32) hx hb dL_law_672 (by decide) ?_
  refine lv_lshl hx hb dL_law_674 rfl ?_
  refine lv_aload_n hx hb dL_law_675 rfl (lv_at hl 3 rfl) ?_
  refine lv_iload_n hx hb dL_law_676 rfl (lv_at hl 0 rfl) ?_
  refine lv_iconst (v := 3) hx hb dL_law_677 (by decide) ?_
  refine lv_iadd hx hb dL_law_678 ?_
  refine lv_topi (fun t_ et_ => ?_)
  obtain rfl : t_ = nI (i + 3) := et_.trans (nI_add i 3)
  refine va_sld hx hb hX hbl (Nat.not_le.mpr hbl) S.2.2.2.1 (vp_in_nI (n := i + 3) (by omega) (by omega)) dL_law_679 ?_
  refine lv_topi (fun t_ et_ => ?_)
  obtain rfl : a3 = t_ := ea3.trans et_.symm
  refine lv_i2l hx hb dL_law_680 rfl ?_
  refine lv_ldc2 (v := (4294967295)) hx hb hown (hts (.constantLong RL 13 (4294967295)) (by decide +kernel)) dL_law_681 ?_
  refine lv_land hx hb dL_law_684 ?_
  refine lv_lor hx hb dL_law_685 ?_
  refine lv_topl (fun t_ et_ => ?_)
  obtain rfl : fs = t_ := efs.trans et_.symm
  obtain ⟨fy, m_y, e_y⟩ := CfY_y R
  refine q_vi (As := [.int a1, .long fs]) (rest := []) ⟨hx, hb, hml, hown, hts⟩ (rx_lets l D R a1 fs) (cwV 2 hts gL_law_X9_lets rfl rfl rfl (by decide +kernel) ⟨Nat.le_of_ble_eq_true rfl, Nat.le_of_ble_eq_true rfl⟩) S m_y e_y (T := TX9) (N := 23) rfl rfl hl.1 rfl (Nat.le_of_ble_eq_true rfl) dL_law_686 hroom (fun r2 L f H1 locs S w2 => ?_)
  obtain ⟨rr1, h9, w2⟩ := w2
  obtain ⟨C, R⟩ := after9X C w2
  have hp := pH_lets hI hV hR H h8 h9
  refine lv_pop hx hb dL_law_689 rfl ?_
  refine lv_goto (tgt := 1119) hx hb dL_law_690 (by decide) ?_
  exact kk _ _ _ _ S ⟨_, _, _, _, _, _, C, R, hp⟩
set_option maxHeartbeats 4000000 in
set_option maxRecDepth 100000 in
theorem law_11 {p : Program} {l : Launch} {e : Env} {s : State} {m : MethodId} {below : List Frame} {meth : Method} {c : Code} {bs Ls i cells slots : Nat} {xs : Nat → Int32} {D : va_G} {g : Nat → ClassId} {L : List Nat} {f : Nat → va_E} {H : Heap} {locs : List Loc} {ls : Array Slot} {x y : Nat} {Q : State → Prop} (hx : p.tables.exec = Jvm.exec) (hb : c.code = cL_law) (hml : c.maxLocals = 4) (hown : s.vm.findClass RL = some m.cls) (hts : ∀ w ∈ wsL_law, w.before #[Value.ref bs] s = true) (hX : va_X bs Ls xs s s.heap) (hbl : bs < s.heap.size) (hLs : Ls ≤ 3072) (hi : i + 6 ≤ Ls) (hroom : cells + 49 ≤ room_1.cells ∧ slots + 7472 ≤ room_1.slots) (S : PS D g (fun q : Nat => s.heap.size ≤ q) s.heap s L f H locs) (hl : lv_has ls 4 [(3, .int (nI i)), (2, .ref y), (1, .ref x), (0, .ref bs)]) (I0 : InvH g L f x y) (kk : ∀ (L : List Nat) (f : Nat → va_E) (H : Heap) (locs : List Loc), PS D g (fun q : Nat => s.heap.size ≤ q) s.heap s L f H locs → InvH g L f x y → W p l e room_1 s m #[Value.ref bs] below meth c H locs (cells + 49) (slots + 7472) Q (F0 m 1119 ls [])) : W p l e room_1 s m #[Value.ref bs] below meth c H locs cells slots Q (F0 m 693 ls []) := by
  obtain ⟨ρ, wN, wV, M, σ, r, C, R, H⟩ := I0
  have hR := CfX_R C
  have hV := CfX_V C
  have hI := CfY_I R
  refine lv_aload_n hx hb dL_law_693 rfl (lv_at hl 2 rfl) ?_
  refine lv_aload_n hx hb dL_law_694 rfl (lv_at hl 3 rfl) ?_
  refine lv_iload_n hx hb dL_law_695 rfl (lv_at hl 0 rfl) ?_
  refine lv_iconst (v := 1) hx hb dL_law_696 (by decide) ?_
  refine lv_iadd hx hb dL_law_697 ?_
  refine lv_topi (fun t_ et_ => ?_)
  obtain rfl : t_ = nI (i + 1) := et_.trans (nI_add i 1)
  refine va_sld hx hb hX hbl (Nat.not_le.mpr hbl) S.2.2.2.1 (vp_in_nI (n := i + 1) (by omega) (by omega)) dL_law_698 ?_
  refine lv_topi (fun a1 ea1 => ?_)
  refine lv_aload_n hx hb dL_law_699 rfl (lv_at hl 3 rfl) ?_
  refine lv_iload_n hx hb dL_law_700 rfl (lv_at hl 0 rfl) ?_
  refine lv_iconst (v := 2) hx hb dL_law_701 (by decide) ?_
  refine lv_iadd hx hb dL_law_702 ?_
  refine lv_topi (fun t_ et_ => ?_)
  obtain rfl : t_ = nI (i + 2) := et_.trans (nI_add i 2)
  refine va_sld hx hb hX hbl (Nat.not_le.mpr hbl) S.2.2.2.1 (vp_in_nI (n := i + 2) (by omega) (by omega)) dL_law_703 ?_
  refine lv_topi (fun a2 ea2 => ?_)
  obtain ⟨fx, m_x, e_x⟩ := CfX_x C
  refine q_vi (As := [.int a1, .int a2]) (rest := []) ⟨hx, hb, hml, hown, hts⟩ (sy_falses l D C a1 a2) (cwV 2 hts gL_law_X8_falses rfl rfl rfl (by decide +kernel) ⟨Nat.le_of_ble_eq_true rfl, Nat.le_of_ble_eq_true rfl⟩) S m_x e_x (T := TX8) (N := 8) rfl rfl hl.1 rfl (Nat.le_of_ble_eq_true rfl) dL_law_704 hroom (fun r1 L f H1 locs S w1 => ?_)
  obtain ⟨wN1, wV1, M1, σ1, h8, w1⟩ := w1
  obtain ⟨ρ, C, R⟩ := after8X R w1
  refine lv_pop hx hb dL_law_707 rfl ?_
  refine lv_aload_n hx hb dL_law_708 rfl (lv_at hl 1 rfl) ?_
  refine lv_aload_n hx hb dL_law_709 rfl (lv_at hl 3 rfl) ?_
  refine lv_iload_n hx hb dL_law_710 rfl (lv_at hl 0 rfl) ?_
  refine lv_iconst (v := 1) hx hb dL_law_711 (by decide) ?_
  refine lv_iadd hx hb dL_law_712 ?_
  refine lv_topi (fun t_ et_ => ?_)
  obtain rfl : t_ = nI (i + 1) := et_.trans (nI_add i 1)
  refine va_sld hx hb hX hbl (Nat.not_le.mpr hbl) S.2.2.2.1 (vp_in_nI (n := i + 1) (by omega) (by omega)) dL_law_713 ?_
  refine lv_topi (fun t_ et_ => ?_)
  obtain rfl : a1 = t_ := ea1.trans et_.symm
  refine lv_aload_n hx hb dL_law_714 rfl (lv_at hl 3 rfl) ?_
  refine lv_iload_n hx hb dL_law_715 rfl (lv_at hl 0 rfl) ?_
  refine lv_iconst (v := 2) hx hb dL_law_716 (by decide) ?_
  refine lv_iadd hx hb dL_law_717 ?_
  refine lv_topi (fun t_ et_ => ?_)
  obtain rfl : t_ = nI (i + 2) := et_.trans (nI_add i 2)
  refine va_sld hx hb hX hbl (Nat.not_le.mpr hbl) S.2.2.2.1 (vp_in_nI (n := i + 2) (by omega) (by omega)) dL_law_718 ?_
  refine lv_topi (fun t_ et_ => ?_)
  obtain rfl : a2 = t_ := ea2.trans et_.symm
  obtain ⟨fy, m_y, e_y⟩ := CfY_y R
  refine q_vi (As := [.int a1, .int a2]) (rest := []) ⟨hx, hb, hml, hown, hts⟩ (rx_falses l D R a1 a2) (cwV 2 hts gL_law_X9_falses rfl rfl rfl (by decide +kernel) ⟨Nat.le_of_ble_eq_true rfl, Nat.le_of_ble_eq_true rfl⟩) S m_y e_y (T := TX9) (N := 23) rfl rfl hl.1 rfl (Nat.le_of_ble_eq_true rfl) dL_law_719 hroom (fun r2 L f H1 locs S w2 => ?_)
  obtain ⟨rr1, h9, w2⟩ := w2
  obtain ⟨C, R⟩ := after9X C w2
  have hp := pH_falses hI hV hR H h8 h9
  refine lv_pop hx hb dL_law_722 rfl ?_
  refine lv_goto (tgt := 1119) hx hb dL_law_723 (by decide) ?_
  exact kk _ _ _ _ S ⟨_, _, _, _, _, _, C, R, hp⟩
set_option maxHeartbeats 4000000 in
set_option maxRecDepth 100000 in
theorem law_12 {p : Program} {l : Launch} {e : Env} {s : State} {m : MethodId} {below : List Frame} {meth : Method} {c : Code} {bs Ls i cells slots : Nat} {xs : Nat → Int32} {D : va_G} {g : Nat → ClassId} {L : List Nat} {f : Nat → va_E} {H : Heap} {locs : List Loc} {ls : Array Slot} {x y : Nat} {Q : State → Prop} (hx : p.tables.exec = Jvm.exec) (hb : c.code = cL_law) (hml : c.maxLocals = 4) (hown : s.vm.findClass RL = some m.cls) (hts : ∀ w ∈ wsL_law, w.before #[Value.ref bs] s = true) (hX : va_X bs Ls xs s s.heap) (hbl : bs < s.heap.size) (hLs : Ls ≤ 3072) (hi : i + 6 ≤ Ls) (hroom : cells + 49 ≤ room_1.cells ∧ slots + 7472 ≤ room_1.slots) (S : PS D g (fun q : Nat => s.heap.size ≤ q) s.heap s L f H locs) (hl : lv_has ls 4 [(3, .int (nI i)), (2, .ref y), (1, .ref x), (0, .ref bs)]) (I0 : InvH g L f x y) (kk : ∀ (L : List Nat) (f : Nat → va_E) (H : Heap) (locs : List Loc), PS D g (fun q : Nat => s.heap.size ≤ q) s.heap s L f H locs → InvH g L f x y → W p l e room_1 s m #[Value.ref bs] below meth c H locs (cells + 49) (slots + 7472) Q (F0 m 1119 ls [])) : W p l e room_1 s m #[Value.ref bs] below meth c H locs cells slots Q (F0 m 726 ls []) := by
  obtain ⟨ρ, wN, wV, M, σ, r, C, R, H⟩ := I0
  have hR := CfX_R C
  have hV := CfX_V C
  have hI := CfY_I R
  refine lv_aload_n hx hb dL_law_726 rfl (lv_at hl 2 rfl) ?_
  refine lv_aload_n hx hb dL_law_727 rfl (lv_at hl 3 rfl) ?_
  refine lv_iload_n hx hb dL_law_728 rfl (lv_at hl 0 rfl) ?_
  refine lv_iconst (v := 1) hx hb dL_law_729 (by decide) ?_
  refine lv_iadd hx hb dL_law_730 ?_
  refine lv_topi (fun t_ et_ => ?_)
  obtain rfl : t_ = nI (i + 1) := et_.trans (nI_add i 1)
  refine va_sld hx hb hX hbl (Nat.not_le.mpr hbl) S.2.2.2.1 (vp_in_nI (n := i + 1) (by omega) (by omega)) dL_law_731 ?_
  refine lv_topi (fun a1 ea1 => ?_)
  refine lv_aload_n hx hb dL_law_732 rfl (lv_at hl 3 rfl) ?_
  refine lv_iload_n hx hb dL_law_733 rfl (lv_at hl 0 rfl) ?_
  refine lv_iconst (v := 2) hx hb dL_law_734 (by decide) ?_
  refine lv_iadd hx hb dL_law_735 ?_
  refine lv_topi (fun t_ et_ => ?_)
  obtain rfl : t_ = nI (i + 2) := et_.trans (nI_add i 2)
  refine va_sld hx hb hX hbl (Nat.not_le.mpr hbl) S.2.2.2.1 (vp_in_nI (n := i + 2) (by omega) (by omega)) dL_law_736 ?_
  refine lv_topi (fun a2 ea2 => ?_)
  refine lv_aload_n hx hb dL_law_737 rfl (lv_at hl 3 rfl) ?_
  refine lv_iload_n hx hb dL_law_738 rfl (lv_at hl 0 rfl) ?_
  refine lv_iconst (v := 3) hx hb dL_law_739 (by decide) ?_
  refine lv_iadd hx hb dL_law_740 ?_
  refine lv_topi (fun t_ et_ => ?_)
  obtain rfl : t_ = nI (i + 3) := et_.trans (nI_add i 3)
  refine va_sld hx hb hX hbl (Nat.not_le.mpr hbl) S.2.2.2.1 (vp_in_nI (n := i + 3) (by omega) (by omega)) dL_law_741 ?_
  refine lv_topi (fun a3 ea3 => ?_)
  obtain ⟨fx, m_x, e_x⟩ := CfX_x C
  refine q_vl (As := [.int a1, .int a2, .int a3]) (rest := []) ⟨hx, hb, hml, hown, hts⟩ (sy_falseOne l D C a1 a2 a3) (cwV 3 hts gL_law_X8_falseOne rfl rfl rfl (by decide +kernel) ⟨Nat.le_of_ble_eq_true rfl, Nat.le_of_ble_eq_true rfl⟩) S m_x e_x (T := TX8) (N := 8) rfl rfl hl.1 rfl (Nat.le_of_ble_eq_true rfl) dL_law_742 hroom (fun r1 L f H1 locs S w1 => ?_)
  obtain ⟨wN1, wV1, M1, σ1, h8, w1⟩ := w1
  obtain ⟨ρ, C, R⟩ := after8X R w1
  refine lv_pop2_2 hx hb dL_law_745 rfl ?_
  refine lv_aload_n hx hb dL_law_746 rfl (lv_at hl 1 rfl) ?_
  refine lv_aload_n hx hb dL_law_747 rfl (lv_at hl 3 rfl) ?_
  refine lv_iload_n hx hb dL_law_748 rfl (lv_at hl 0 rfl) ?_
  refine lv_iconst (v := 1) hx hb dL_law_749 (by decide) ?_
  refine lv_iadd hx hb dL_law_750 ?_
  refine lv_topi (fun t_ et_ => ?_)
  obtain rfl : t_ = nI (i + 1) := et_.trans (nI_add i 1)
  refine va_sld hx hb hX hbl (Nat.not_le.mpr hbl) S.2.2.2.1 (vp_in_nI (n := i + 1) (by omega) (by omega)) dL_law_751 ?_
  refine lv_topi (fun t_ et_ => ?_)
  obtain rfl : a1 = t_ := ea1.trans et_.symm
  refine lv_aload_n hx hb dL_law_752 rfl (lv_at hl 3 rfl) ?_
  refine lv_iload_n hx hb dL_law_753 rfl (lv_at hl 0 rfl) ?_
  refine lv_iconst (v := 2) hx hb dL_law_754 (by decide) ?_
  refine lv_iadd hx hb dL_law_755 ?_
  refine lv_topi (fun t_ et_ => ?_)
  obtain rfl : t_ = nI (i + 2) := et_.trans (nI_add i 2)
  refine va_sld hx hb hX hbl (Nat.not_le.mpr hbl) S.2.2.2.1 (vp_in_nI (n := i + 2) (by omega) (by omega)) dL_law_756 ?_
  refine lv_topi (fun t_ et_ => ?_)
  obtain rfl : a2 = t_ := ea2.trans et_.symm
  refine lv_aload_n hx hb dL_law_757 rfl (lv_at hl 3 rfl) ?_
  refine lv_iload_n hx hb dL_law_758 rfl (lv_at hl 0 rfl) ?_
  refine lv_iconst (v := 3) hx hb dL_law_759 (by decide) ?_
  refine lv_iadd hx hb dL_law_760 ?_
  refine lv_topi (fun t_ et_ => ?_)
  obtain rfl : t_ = nI (i + 3) := et_.trans (nI_add i 3)
  refine va_sld hx hb hX hbl (Nat.not_le.mpr hbl) S.2.2.2.1 (vp_in_nI (n := i + 3) (by omega) (by omega)) dL_law_761 ?_
  refine lv_topi (fun t_ et_ => ?_)
  obtain rfl : a3 = t_ := ea3.trans et_.symm
  obtain ⟨fy, m_y, e_y⟩ := CfY_y R
  refine q_vl (As := [.int a1, .int a2, .int a3]) (rest := []) ⟨hx, hb, hml, hown, hts⟩ (rx_falseOne l D R a1 a2 a3) (cwV 3 hts gL_law_X9_falseOne rfl rfl rfl (by decide +kernel) ⟨Nat.le_of_ble_eq_true rfl, Nat.le_of_ble_eq_true rfl⟩) S m_y e_y (T := TX9) (N := 23) rfl rfl hl.1 rfl (Nat.le_of_ble_eq_true rfl) dL_law_762 hroom (fun r2 L f H1 locs S w2 => ?_)
  obtain ⟨rr1, h9, w2⟩ := w2
  obtain ⟨C, R⟩ := after9X C w2
  have hp := pH_falseOne hI hV hR H h8 h9
  refine lv_pop2_2 hx hb dL_law_765 rfl ?_
  refine lv_goto (tgt := 1119) hx hb dL_law_766 (by decide) ?_
  exact kk _ _ _ _ S ⟨_, _, _, _, _, _, C, R, hp⟩
set_option maxHeartbeats 4000000 in
set_option maxRecDepth 100000 in
theorem law_13 {p : Program} {l : Launch} {e : Env} {s : State} {m : MethodId} {below : List Frame} {meth : Method} {c : Code} {bs Ls i cells slots : Nat} {xs : Nat → Int32} {D : va_G} {g : Nat → ClassId} {L : List Nat} {f : Nat → va_E} {H : Heap} {locs : List Loc} {ls : Array Slot} {x y : Nat} {Q : State → Prop} (hx : p.tables.exec = Jvm.exec) (hb : c.code = cL_law) (hml : c.maxLocals = 4) (hown : s.vm.findClass RL = some m.cls) (hts : ∀ w ∈ wsL_law, w.before #[Value.ref bs] s = true) (hX : va_X bs Ls xs s s.heap) (hbl : bs < s.heap.size) (hLs : Ls ≤ 3072) (hi : i + 6 ≤ Ls) (hroom : cells + 49 ≤ room_1.cells ∧ slots + 7472 ≤ room_1.slots) (S : PS D g (fun q : Nat => s.heap.size ≤ q) s.heap s L f H locs) (hl : lv_has ls 4 [(3, .int (nI i)), (2, .ref y), (1, .ref x), (0, .ref bs)]) (I0 : InvH g L f x y) (kk : ∀ (L : List Nat) (f : Nat → va_E) (H : Heap) (locs : List Loc), PS D g (fun q : Nat => s.heap.size ≤ q) s.heap s L f H locs → InvH g L f x y → W p l e room_1 s m #[Value.ref bs] below meth c H locs (cells + 49) (slots + 7472) Q (F0 m 1119 ls [])) : W p l e room_1 s m #[Value.ref bs] below meth c H locs cells slots Q (F0 m 769 ls []) := by
  obtain ⟨ρ, wN, wV, M, σ, r, C, R, H⟩ := I0
  have hR := CfX_R C
  have hV := CfX_V C
  have hI := CfY_I R
  refine lv_aload_n hx hb dL_law_769 rfl (lv_at hl 2 rfl) ?_
  refine lv_aload_n hx hb dL_law_770 rfl (lv_at hl 3 rfl) ?_
  refine lv_iload_n hx hb dL_law_771 rfl (lv_at hl 0 rfl) ?_
  refine lv_iconst (v := 1) hx hb dL_law_772 (by decide) ?_
  refine lv_iadd hx hb dL_law_773 ?_
  refine lv_topi (fun t_ et_ => ?_)
  obtain rfl : t_ = nI (i + 1) := et_.trans (nI_add i 1)
  refine va_sld hx hb hX hbl (Nat.not_le.mpr hbl) S.2.2.2.1 (vp_in_nI (n := i + 1) (by omega) (by omega)) dL_law_774 ?_
  refine lv_topi (fun a1 ea1 => ?_)
  obtain ⟨fx, m_x, e_x⟩ := CfX_x C
  refine q_vi (As := [.int a1]) (rest := []) ⟨hx, hb, hml, hown, hts⟩ (sy_missed l D C a1) (cwV 1 hts gL_law_X8_missed rfl rfl rfl (by decide +kernel) ⟨Nat.le_of_ble_eq_true rfl, Nat.le_of_ble_eq_true rfl⟩) S m_x e_x (T := TX8) (N := 8) rfl rfl hl.1 rfl (Nat.le_of_ble_eq_true rfl) dL_law_775 hroom (fun r1 L f H1 locs S w1 => ?_)
  obtain ⟨wN1, wV1, M1, σ1, h8, w1⟩ := w1
  obtain ⟨ρ, C, R⟩ := after8X R w1
  refine lv_pop hx hb dL_law_778 rfl ?_
  refine lv_aload_n hx hb dL_law_779 rfl (lv_at hl 1 rfl) ?_
  refine lv_aload_n hx hb dL_law_780 rfl (lv_at hl 3 rfl) ?_
  refine lv_iload_n hx hb dL_law_781 rfl (lv_at hl 0 rfl) ?_
  refine lv_iconst (v := 1) hx hb dL_law_782 (by decide) ?_
  refine lv_iadd hx hb dL_law_783 ?_
  refine lv_topi (fun t_ et_ => ?_)
  obtain rfl : t_ = nI (i + 1) := et_.trans (nI_add i 1)
  refine va_sld hx hb hX hbl (Nat.not_le.mpr hbl) S.2.2.2.1 (vp_in_nI (n := i + 1) (by omega) (by omega)) dL_law_784 ?_
  refine lv_topi (fun t_ et_ => ?_)
  obtain rfl : a1 = t_ := ea1.trans et_.symm
  obtain ⟨fy, m_y, e_y⟩ := CfY_y R
  refine q_vi (As := [.int a1]) (rest := []) ⟨hx, hb, hml, hown, hts⟩ (rx_missed l D R a1) (cwV 1 hts gL_law_X9_missed rfl rfl rfl (by decide +kernel) ⟨Nat.le_of_ble_eq_true rfl, Nat.le_of_ble_eq_true rfl⟩) S m_y e_y (T := TX9) (N := 23) rfl rfl hl.1 rfl (Nat.le_of_ble_eq_true rfl) dL_law_785 hroom (fun r2 L f H1 locs S w2 => ?_)
  obtain ⟨rr1, h9, w2⟩ := w2
  obtain ⟨C, R⟩ := after9X C w2
  have hp := pH_missed hI hV hR H h8 h9
  refine lv_pop hx hb dL_law_788 rfl ?_
  refine lv_goto (tgt := 1119) hx hb dL_law_789 (by decide) ?_
  exact kk _ _ _ _ S ⟨_, _, _, _, _, _, C, R, hp⟩
set_option maxHeartbeats 4000000 in
set_option maxRecDepth 100000 in
theorem law_14 {p : Program} {l : Launch} {e : Env} {s : State} {m : MethodId} {below : List Frame} {meth : Method} {c : Code} {bs Ls i cells slots : Nat} {xs : Nat → Int32} {D : va_G} {g : Nat → ClassId} {L : List Nat} {f : Nat → va_E} {H : Heap} {locs : List Loc} {ls : Array Slot} {x y : Nat} {Q : State → Prop} (hx : p.tables.exec = Jvm.exec) (hb : c.code = cL_law) (hml : c.maxLocals = 4) (hown : s.vm.findClass RL = some m.cls) (hts : ∀ w ∈ wsL_law, w.before #[Value.ref bs] s = true) (hX : va_X bs Ls xs s s.heap) (hbl : bs < s.heap.size) (hLs : Ls ≤ 3072) (hi : i + 6 ≤ Ls) (hroom : cells + 49 ≤ room_1.cells ∧ slots + 7472 ≤ room_1.slots) (S : PS D g (fun q : Nat => s.heap.size ≤ q) s.heap s L f H locs) (hl : lv_has ls 4 [(3, .int (nI i)), (2, .ref y), (1, .ref x), (0, .ref bs)]) (I0 : InvH g L f x y) (kk : ∀ (L : List Nat) (f : Nat → va_E) (H : Heap) (locs : List Loc), PS D g (fun q : Nat => s.heap.size ≤ q) s.heap s L f H locs → InvH g L f x y → W p l e room_1 s m #[Value.ref bs] below meth c H locs (cells + 49) (slots + 7472) Q (F0 m 1119 ls [])) : W p l e room_1 s m #[Value.ref bs] below meth c H locs cells slots Q (F0 m 792 ls []) := by
  obtain ⟨ρ, wN, wV, M, σ, r, C, R, H⟩ := I0
  have hR := CfX_R C
  have hV := CfX_V C
  have hI := CfY_I R
  refine lv_aload_n hx hb dL_law_792 rfl (lv_at hl 2 rfl) ?_
  refine lv_aload_n hx hb dL_law_793 rfl (lv_at hl 3 rfl) ?_
  refine lv_iload_n hx hb dL_law_794 rfl (lv_at hl 0 rfl) ?_
  refine lv_iconst (v := 1) hx hb dL_law_795 (by decide) ?_
  refine lv_iadd hx hb dL_law_796 ?_
  refine lv_topi (fun t_ et_ => ?_)
  obtain rfl : t_ = nI (i + 1) := et_.trans (nI_add i 1)
  refine va_sld hx hb hX hbl (Nat.not_le.mpr hbl) S.2.2.2.1 (vp_in_nI (n := i + 1) (by omega) (by omega)) dL_law_797 ?_
  refine lv_topi (fun a1 ea1 => ?_)
  refine lv_aload_n hx hb dL_law_798 rfl (lv_at hl 3 rfl) ?_
  refine lv_iload_n hx hb dL_law_799 rfl (lv_at hl 0 rfl) ?_
  refine lv_iconst (v := 2) hx hb dL_law_800 (by decide) ?_
  refine lv_iadd hx hb dL_law_801 ?_
  refine lv_topi (fun t_ et_ => ?_)
  obtain rfl : t_ = nI (i + 2) := et_.trans (nI_add i 2)
  refine va_sld hx hb hX hbl (Nat.not_le.mpr hbl) S.2.2.2.1 (vp_in_nI (n := i + 2) (by omega) (by omega)) dL_law_802 ?_
  refine lv_topi (fun a2 ea2 => ?_)
  refine lv_aload_n hx hb dL_law_803 rfl (lv_at hl 3 rfl) ?_
  refine lv_iload_n hx hb dL_law_804 rfl (lv_at hl 0 rfl) ?_
  refine lv_iconst (v := 3) hx hb dL_law_805 (by decide) ?_
  refine lv_iadd hx hb dL_law_806 ?_
  refine lv_topi (fun t_ et_ => ?_)
  obtain rfl : t_ = nI (i + 3) := et_.trans (nI_add i 3)
  refine va_sld hx hb hX hbl (Nat.not_le.mpr hbl) S.2.2.2.1 (vp_in_nI (n := i + 3) (by omega) (by omega)) dL_law_807 ?_
  refine lv_topi (fun a3 ea3 => ?_)
  obtain ⟨fx, m_x, e_x⟩ := CfX_x C
  refine q_vi (As := [.int a1, .int a2, .int a3]) (rest := []) ⟨hx, hb, hml, hown, hts⟩ (sy_join l D C a1 a2 a3) (cwV 3 hts gL_law_X8_join rfl rfl rfl (by decide +kernel) ⟨Nat.le_of_ble_eq_true rfl, Nat.le_of_ble_eq_true rfl⟩) S m_x e_x (T := TX8) (N := 8) rfl rfl hl.1 rfl (Nat.le_of_ble_eq_true rfl) dL_law_808 hroom (fun r1 L f H1 locs S w1 => ?_)
  obtain ⟨wN1, wV1, M1, σ1, h8, w1⟩ := w1
  obtain ⟨ρ, C, R⟩ := after8X R w1
  refine lv_pop hx hb dL_law_811 rfl ?_
  refine lv_aload_n hx hb dL_law_812 rfl (lv_at hl 1 rfl) ?_
  refine lv_aload_n hx hb dL_law_813 rfl (lv_at hl 3 rfl) ?_
  refine lv_iload_n hx hb dL_law_814 rfl (lv_at hl 0 rfl) ?_
  refine lv_iconst (v := 1) hx hb dL_law_815 (by decide) ?_
  refine lv_iadd hx hb dL_law_816 ?_
  refine lv_topi (fun t_ et_ => ?_)
  obtain rfl : t_ = nI (i + 1) := et_.trans (nI_add i 1)
  refine va_sld hx hb hX hbl (Nat.not_le.mpr hbl) S.2.2.2.1 (vp_in_nI (n := i + 1) (by omega) (by omega)) dL_law_817 ?_
  refine lv_topi (fun t_ et_ => ?_)
  obtain rfl : a1 = t_ := ea1.trans et_.symm
  refine lv_aload_n hx hb dL_law_818 rfl (lv_at hl 3 rfl) ?_
  refine lv_iload_n hx hb dL_law_819 rfl (lv_at hl 0 rfl) ?_
  refine lv_iconst (v := 2) hx hb dL_law_820 (by decide) ?_
  refine lv_iadd hx hb dL_law_821 ?_
  refine lv_topi (fun t_ et_ => ?_)
  obtain rfl : t_ = nI (i + 2) := et_.trans (nI_add i 2)
  refine va_sld hx hb hX hbl (Nat.not_le.mpr hbl) S.2.2.2.1 (vp_in_nI (n := i + 2) (by omega) (by omega)) dL_law_822 ?_
  refine lv_topi (fun t_ et_ => ?_)
  obtain rfl : a2 = t_ := ea2.trans et_.symm
  refine lv_aload_n hx hb dL_law_823 rfl (lv_at hl 3 rfl) ?_
  refine lv_iload_n hx hb dL_law_824 rfl (lv_at hl 0 rfl) ?_
  refine lv_iconst (v := 3) hx hb dL_law_825 (by decide) ?_
  refine lv_iadd hx hb dL_law_826 ?_
  refine lv_topi (fun t_ et_ => ?_)
  obtain rfl : t_ = nI (i + 3) := et_.trans (nI_add i 3)
  refine va_sld hx hb hX hbl (Nat.not_le.mpr hbl) S.2.2.2.1 (vp_in_nI (n := i + 3) (by omega) (by omega)) dL_law_827 ?_
  refine lv_topi (fun t_ et_ => ?_)
  obtain rfl : a3 = t_ := ea3.trans et_.symm
  obtain ⟨fy, m_y, e_y⟩ := CfY_y R
  refine q_vi (As := [.int a1, .int a2, .int a3]) (rest := []) ⟨hx, hb, hml, hown, hts⟩ (rx_join l D R a1 a2 a3) (cwV 3 hts gL_law_X9_join rfl rfl rfl (by decide +kernel) ⟨Nat.le_of_ble_eq_true rfl, Nat.le_of_ble_eq_true rfl⟩) S m_y e_y (T := TX9) (N := 23) rfl rfl hl.1 rfl (Nat.le_of_ble_eq_true rfl) dL_law_828 hroom (fun r2 L f H1 locs S w2 => ?_)
  obtain ⟨rr1, h9, w2⟩ := w2
  obtain ⟨C, R⟩ := after9X C w2
  have hp := pH_join hI hV hR H h8 h9
  refine lv_pop hx hb dL_law_831 rfl ?_
  refine lv_goto (tgt := 1119) hx hb dL_law_832 (by decide) ?_
  exact kk _ _ _ _ S ⟨_, _, _, _, _, _, C, R, hp.2⟩
set_option maxHeartbeats 4000000 in
set_option maxRecDepth 100000 in
theorem law_15 {p : Program} {l : Launch} {e : Env} {s : State} {m : MethodId} {below : List Frame} {meth : Method} {c : Code} {bs Ls i cells slots : Nat} {xs : Nat → Int32} {D : va_G} {g : Nat → ClassId} {L : List Nat} {f : Nat → va_E} {H : Heap} {locs : List Loc} {ls : Array Slot} {x y : Nat} {Q : State → Prop} (hx : p.tables.exec = Jvm.exec) (hb : c.code = cL_law) (hml : c.maxLocals = 4) (hown : s.vm.findClass RL = some m.cls) (hts : ∀ w ∈ wsL_law, w.before #[Value.ref bs] s = true) (hX : va_X bs Ls xs s s.heap) (hbl : bs < s.heap.size) (hLs : Ls ≤ 3072) (hi : i + 6 ≤ Ls) (hroom : cells + 49 ≤ room_1.cells ∧ slots + 7472 ≤ room_1.slots) (S : PS D g (fun q : Nat => s.heap.size ≤ q) s.heap s L f H locs) (hl : lv_has ls 4 [(3, .int (nI i)), (2, .ref y), (1, .ref x), (0, .ref bs)]) (I0 : InvH g L f x y) (kk : ∀ (L : List Nat) (f : Nat → va_E) (H : Heap) (locs : List Loc), PS D g (fun q : Nat => s.heap.size ≤ q) s.heap s L f H locs → InvH g L f x y → W p l e room_1 s m #[Value.ref bs] below meth c H locs (cells + 49) (slots + 7472) Q (F0 m 1119 ls [])) : W p l e room_1 s m #[Value.ref bs] below meth c H locs cells slots Q (F0 m 835 ls []) := by
  obtain ⟨ρ, wN, wV, M, σ, r, C, R, H⟩ := I0
  have hR := CfX_R C
  have hV := CfX_V C
  have hI := CfY_I R
  refine lv_aload_n hx hb dL_law_835 rfl (lv_at hl 2 rfl) ?_
  refine lv_aload_n hx hb dL_law_836 rfl (lv_at hl 3 rfl) ?_
  refine lv_iload_n hx hb dL_law_837 rfl (lv_at hl 0 rfl) ?_
  refine lv_iconst (v := 1) hx hb dL_law_838 (by decide) ?_
  refine lv_iadd hx hb dL_law_839 ?_
  refine lv_topi (fun t_ et_ => ?_)
  obtain rfl : t_ = nI (i + 1) := et_.trans (nI_add i 1)
  refine va_sld hx hb hX hbl (Nat.not_le.mpr hbl) S.2.2.2.1 (vp_in_nI (n := i + 1) (by omega) (by omega)) dL_law_840 ?_
  refine lv_topi (fun a1 ea1 => ?_)
  obtain ⟨fx, m_x, e_x⟩ := CfX_x C
  refine q_vi (As := [.int a1]) (rest := []) ⟨hx, hb, hml, hown, hts⟩ (sy_fold l D C a1) (cwV 1 hts gL_law_X8_fold rfl rfl rfl (by decide +kernel) ⟨Nat.le_of_ble_eq_true rfl, Nat.le_of_ble_eq_true rfl⟩) S m_x e_x (T := TX8) (N := 8) rfl rfl hl.1 rfl (Nat.le_of_ble_eq_true rfl) dL_law_841 hroom (fun r1 L f H1 locs S w1 => ?_)
  obtain ⟨wN1, wV1, M1, σ1, h8, w1⟩ := w1
  obtain ⟨ρ, C, R⟩ := after8X R w1
  refine lv_pop hx hb dL_law_844 rfl ?_
  refine lv_aload_n hx hb dL_law_845 rfl (lv_at hl 1 rfl) ?_
  refine lv_aload_n hx hb dL_law_846 rfl (lv_at hl 3 rfl) ?_
  refine lv_iload_n hx hb dL_law_847 rfl (lv_at hl 0 rfl) ?_
  refine lv_iconst (v := 1) hx hb dL_law_848 (by decide) ?_
  refine lv_iadd hx hb dL_law_849 ?_
  refine lv_topi (fun t_ et_ => ?_)
  obtain rfl : t_ = nI (i + 1) := et_.trans (nI_add i 1)
  refine va_sld hx hb hX hbl (Nat.not_le.mpr hbl) S.2.2.2.1 (vp_in_nI (n := i + 1) (by omega) (by omega)) dL_law_850 ?_
  refine lv_topi (fun t_ et_ => ?_)
  obtain rfl : a1 = t_ := ea1.trans et_.symm
  obtain ⟨fy, m_y, e_y⟩ := CfY_y R
  refine q_vi (As := [.int a1]) (rest := []) ⟨hx, hb, hml, hown, hts⟩ (rx_fold l D R a1) (cwV 1 hts gL_law_X9_fold rfl rfl rfl (by decide +kernel) ⟨Nat.le_of_ble_eq_true rfl, Nat.le_of_ble_eq_true rfl⟩) S m_y e_y (T := TX9) (N := 23) rfl rfl hl.1 rfl (Nat.le_of_ble_eq_true rfl) dL_law_851 hroom (fun r2 L f H1 locs S w2 => ?_)
  obtain ⟨rr1, h9, w2⟩ := w2
  obtain ⟨C, R⟩ := after9X C w2
  have hp := pH_fold hI hV hR H h8 h9
  refine lv_pop hx hb dL_law_854 rfl ?_
  refine lv_goto (tgt := 1119) hx hb dL_law_855 (by decide) ?_
  exact kk _ _ _ _ S ⟨_, _, _, _, _, _, C, R, hp.2⟩
set_option maxHeartbeats 4000000 in
set_option maxRecDepth 100000 in
theorem law_16 {p : Program} {l : Launch} {e : Env} {s : State} {m : MethodId} {below : List Frame} {meth : Method} {c : Code} {bs Ls i cells slots : Nat} {xs : Nat → Int32} {D : va_G} {g : Nat → ClassId} {L : List Nat} {f : Nat → va_E} {H : Heap} {locs : List Loc} {ls : Array Slot} {x y : Nat} {Q : State → Prop} (hx : p.tables.exec = Jvm.exec) (hb : c.code = cL_law) (hml : c.maxLocals = 4) (hown : s.vm.findClass RL = some m.cls) (hts : ∀ w ∈ wsL_law, w.before #[Value.ref bs] s = true) (hX : va_X bs Ls xs s s.heap) (hbl : bs < s.heap.size) (hLs : Ls ≤ 3072) (hi : i + 6 ≤ Ls) (hroom : cells + 49 ≤ room_1.cells ∧ slots + 7472 ≤ room_1.slots) (S : PS D g (fun q : Nat => s.heap.size ≤ q) s.heap s L f H locs) (hl : lv_has ls 4 [(3, .int (nI i)), (2, .ref y), (1, .ref x), (0, .ref bs)]) (I0 : InvH g L f x y) (kk : ∀ (L : List Nat) (f : Nat → va_E) (H : Heap) (locs : List Loc), PS D g (fun q : Nat => s.heap.size ≤ q) s.heap s L f H locs → InvH g L f x y → W p l e room_1 s m #[Value.ref bs] below meth c H locs (cells + 49) (slots + 7472) Q (F0 m 1119 ls [])) : W p l e room_1 s m #[Value.ref bs] below meth c H locs cells slots Q (F0 m 858 ls []) := by
  obtain ⟨ρ, wN, wV, M, σ, r, C, R, H⟩ := I0
  have hR := CfX_R C
  have hV := CfX_V C
  have hI := CfY_I R
  refine lv_aload_n hx hb dL_law_858 rfl (lv_at hl 2 rfl) ?_
  refine lv_aload_n hx hb dL_law_859 rfl (lv_at hl 3 rfl) ?_
  refine lv_iload_n hx hb dL_law_860 rfl (lv_at hl 0 rfl) ?_
  refine lv_iconst (v := 1) hx hb dL_law_861 (by decide) ?_
  refine lv_iadd hx hb dL_law_862 ?_
  refine lv_topi (fun t_ et_ => ?_)
  obtain rfl : t_ = nI (i + 1) := et_.trans (nI_add i 1)
  refine va_sld hx hb hX hbl (Nat.not_le.mpr hbl) S.2.2.2.1 (vp_in_nI (n := i + 1) (by omega) (by omega)) dL_law_863 ?_
  refine lv_topi (fun a1 ea1 => ?_)
  refine lv_aload_n hx hb dL_law_864 rfl (lv_at hl 3 rfl) ?_
  refine lv_iload_n hx hb dL_law_865 rfl (lv_at hl 0 rfl) ?_
  refine lv_iconst (v := 2) hx hb dL_law_866 (by decide) ?_
  refine lv_iadd hx hb dL_law_867 ?_
  refine lv_topi (fun t_ et_ => ?_)
  obtain rfl : t_ = nI (i + 2) := et_.trans (nI_add i 2)
  refine va_sld hx hb hX hbl (Nat.not_le.mpr hbl) S.2.2.2.1 (vp_in_nI (n := i + 2) (by omega) (by omega)) dL_law_868 ?_
  refine lv_topi (fun a2 ea2 => ?_)
  obtain ⟨fx, m_x, e_x⟩ := CfX_x C
  refine q_vi (As := [.int a1, .int a2]) (rest := []) ⟨hx, hb, hml, hown, hts⟩ (sy_about l D C a1 a2) (cwV 2 hts gL_law_X8_about rfl rfl rfl (by decide +kernel) ⟨Nat.le_of_ble_eq_true rfl, Nat.le_of_ble_eq_true rfl⟩) S m_x e_x (T := TX8) (N := 8) rfl rfl hl.1 rfl (Nat.le_of_ble_eq_true rfl) dL_law_869 hroom (fun r1 L f H1 locs S w1 => ?_)
  obtain ⟨wN1, wV1, M1, σ1, h8, w1⟩ := w1
  obtain ⟨ρ, C, R⟩ := after8X R w1
  refine lv_pop hx hb dL_law_872 rfl ?_
  refine lv_aload_n hx hb dL_law_873 rfl (lv_at hl 1 rfl) ?_
  refine lv_aload_n hx hb dL_law_874 rfl (lv_at hl 3 rfl) ?_
  refine lv_iload_n hx hb dL_law_875 rfl (lv_at hl 0 rfl) ?_
  refine lv_iconst (v := 1) hx hb dL_law_876 (by decide) ?_
  refine lv_iadd hx hb dL_law_877 ?_
  refine lv_topi (fun t_ et_ => ?_)
  obtain rfl : t_ = nI (i + 1) := et_.trans (nI_add i 1)
  refine va_sld hx hb hX hbl (Nat.not_le.mpr hbl) S.2.2.2.1 (vp_in_nI (n := i + 1) (by omega) (by omega)) dL_law_878 ?_
  refine lv_topi (fun t_ et_ => ?_)
  obtain rfl : a1 = t_ := ea1.trans et_.symm
  refine lv_aload_n hx hb dL_law_879 rfl (lv_at hl 3 rfl) ?_
  refine lv_iload_n hx hb dL_law_880 rfl (lv_at hl 0 rfl) ?_
  refine lv_iconst (v := 2) hx hb dL_law_881 (by decide) ?_
  refine lv_iadd hx hb dL_law_882 ?_
  refine lv_topi (fun t_ et_ => ?_)
  obtain rfl : t_ = nI (i + 2) := et_.trans (nI_add i 2)
  refine va_sld hx hb hX hbl (Nat.not_le.mpr hbl) S.2.2.2.1 (vp_in_nI (n := i + 2) (by omega) (by omega)) dL_law_883 ?_
  refine lv_topi (fun t_ et_ => ?_)
  obtain rfl : a2 = t_ := ea2.trans et_.symm
  obtain ⟨fy, m_y, e_y⟩ := CfY_y R
  refine q_vi (As := [.int a1, .int a2]) (rest := []) ⟨hx, hb, hml, hown, hts⟩ (rx_about l D R a1 a2) (cwV 2 hts gL_law_X9_about rfl rfl rfl (by decide +kernel) ⟨Nat.le_of_ble_eq_true rfl, Nat.le_of_ble_eq_true rfl⟩) S m_y e_y (T := TX9) (N := 23) rfl rfl hl.1 rfl (Nat.le_of_ble_eq_true rfl) dL_law_884 hroom (fun r2 L f H1 locs S w2 => ?_)
  obtain ⟨rr1, h9, w2⟩ := w2
  obtain ⟨C, R⟩ := after9X C w2
  have hp := pH_about hI hV hR H h8 h9
  refine lv_pop hx hb dL_law_887 rfl ?_
  refine lv_goto (tgt := 1119) hx hb dL_law_888 (by decide) ?_
  exact kk _ _ _ _ S ⟨_, _, _, _, _, _, C, R, hp⟩
set_option maxHeartbeats 4000000 in
set_option maxRecDepth 100000 in
theorem law_17 {p : Program} {l : Launch} {e : Env} {s : State} {m : MethodId} {below : List Frame} {meth : Method} {c : Code} {bs Ls i cells slots : Nat} {xs : Nat → Int32} {D : va_G} {g : Nat → ClassId} {L : List Nat} {f : Nat → va_E} {H : Heap} {locs : List Loc} {ls : Array Slot} {x y : Nat} {Q : State → Prop} (hx : p.tables.exec = Jvm.exec) (hb : c.code = cL_law) (hml : c.maxLocals = 4) (hown : s.vm.findClass RL = some m.cls) (hts : ∀ w ∈ wsL_law, w.before #[Value.ref bs] s = true) (hX : va_X bs Ls xs s s.heap) (hbl : bs < s.heap.size) (hLs : Ls ≤ 3072) (hi : i + 6 ≤ Ls) (hroom : cells + 49 ≤ room_1.cells ∧ slots + 7472 ≤ room_1.slots) (S : PS D g (fun q : Nat => s.heap.size ≤ q) s.heap s L f H locs) (hl : lv_has ls 4 [(3, .int (nI i)), (2, .ref y), (1, .ref x), (0, .ref bs)]) (I0 : InvH g L f x y) (kk : ∀ (L : List Nat) (f : Nat → va_E) (H : Heap) (locs : List Loc), PS D g (fun q : Nat => s.heap.size ≤ q) s.heap s L f H locs → InvH g L f x y → W p l e room_1 s m #[Value.ref bs] below meth c H locs (cells + 49) (slots + 7472) Q (F0 m 1119 ls [])) : W p l e room_1 s m #[Value.ref bs] below meth c H locs cells slots Q (F0 m 891 ls []) := by
  obtain ⟨ρ, wN, wV, M, σ, r, C, R, H⟩ := I0
  have hR := CfX_R C
  have hV := CfX_V C
  have hI := CfY_I R
  refine lv_aload_n hx hb dL_law_891 rfl (lv_at hl 2 rfl) ?_
  refine lv_aload_n hx hb dL_law_892 rfl (lv_at hl 3 rfl) ?_
  refine lv_iload_n hx hb dL_law_893 rfl (lv_at hl 0 rfl) ?_
  refine lv_iconst (v := 1) hx hb dL_law_894 (by decide) ?_
  refine lv_iadd hx hb dL_law_895 ?_
  refine lv_topi (fun t_ et_ => ?_)
  obtain rfl : t_ = nI (i + 1) := et_.trans (nI_add i 1)
  refine va_sld hx hb hX hbl (Nat.not_le.mpr hbl) S.2.2.2.1 (vp_in_nI (n := i + 1) (by omega) (by omega)) dL_law_896 ?_
  refine lv_topi (fun a1 ea1 => ?_)
  refine lv_aload_n hx hb dL_law_897 rfl (lv_at hl 3 rfl) ?_
  refine lv_iload_n hx hb dL_law_898 rfl (lv_at hl 0 rfl) ?_
  refine lv_iconst (v := 2) hx hb dL_law_899 (by decide) ?_
  refine lv_iadd hx hb dL_law_900 ?_
  refine lv_topi (fun t_ et_ => ?_)
  obtain rfl : t_ = nI (i + 2) := et_.trans (nI_add i 2)
  refine va_sld hx hb hX hbl (Nat.not_le.mpr hbl) S.2.2.2.1 (vp_in_nI (n := i + 2) (by omega) (by omega)) dL_law_901 ?_
  refine lv_topi (fun a2 ea2 => ?_)
  obtain ⟨fx, m_x, e_x⟩ := CfX_x C
  refine q_vi (As := [.int a1, .int a2]) (rest := []) ⟨hx, hb, hml, hown, hts⟩ (sy_cell l D C a1 a2) (cwV 2 hts gL_law_X8_cell rfl rfl rfl (by decide +kernel) ⟨Nat.le_of_ble_eq_true rfl, Nat.le_of_ble_eq_true rfl⟩) S m_x e_x (T := TX8) (N := 8) rfl rfl hl.1 rfl (Nat.le_of_ble_eq_true rfl) dL_law_902 hroom (fun r1 L f H1 locs S w1 => ?_)
  obtain ⟨wN1, wV1, M1, σ1, h8, w1⟩ := w1
  obtain ⟨ρ, C, R⟩ := after8X R w1
  refine lv_pop hx hb dL_law_905 rfl ?_
  refine lv_aload_n hx hb dL_law_906 rfl (lv_at hl 1 rfl) ?_
  refine lv_aload_n hx hb dL_law_907 rfl (lv_at hl 3 rfl) ?_
  refine lv_iload_n hx hb dL_law_908 rfl (lv_at hl 0 rfl) ?_
  refine lv_iconst (v := 1) hx hb dL_law_909 (by decide) ?_
  refine lv_iadd hx hb dL_law_910 ?_
  refine lv_topi (fun t_ et_ => ?_)
  obtain rfl : t_ = nI (i + 1) := et_.trans (nI_add i 1)
  refine va_sld hx hb hX hbl (Nat.not_le.mpr hbl) S.2.2.2.1 (vp_in_nI (n := i + 1) (by omega) (by omega)) dL_law_911 ?_
  refine lv_topi (fun t_ et_ => ?_)
  obtain rfl : a1 = t_ := ea1.trans et_.symm
  refine lv_aload_n hx hb dL_law_912 rfl (lv_at hl 3 rfl) ?_
  refine lv_iload_n hx hb dL_law_913 rfl (lv_at hl 0 rfl) ?_
  refine lv_iconst (v := 2) hx hb dL_law_914 (by decide) ?_
  refine lv_iadd hx hb dL_law_915 ?_
  refine lv_topi (fun t_ et_ => ?_)
  obtain rfl : t_ = nI (i + 2) := et_.trans (nI_add i 2)
  refine va_sld hx hb hX hbl (Nat.not_le.mpr hbl) S.2.2.2.1 (vp_in_nI (n := i + 2) (by omega) (by omega)) dL_law_916 ?_
  refine lv_topi (fun t_ et_ => ?_)
  obtain rfl : a2 = t_ := ea2.trans et_.symm
  obtain ⟨fy, m_y, e_y⟩ := CfY_y R
  refine q_vi (As := [.int a1, .int a2]) (rest := []) ⟨hx, hb, hml, hown, hts⟩ (rx_cell l D R a1 a2) (cwV 2 hts gL_law_X9_cell rfl rfl rfl (by decide +kernel) ⟨Nat.le_of_ble_eq_true rfl, Nat.le_of_ble_eq_true rfl⟩) S m_y e_y (T := TX9) (N := 23) rfl rfl hl.1 rfl (Nat.le_of_ble_eq_true rfl) dL_law_917 hroom (fun r2 L f H1 locs S w2 => ?_)
  obtain ⟨rr1, h9, w2⟩ := w2
  obtain ⟨C, R⟩ := after9X C w2
  have hp := pH_cell hI hV hR H h8 h9
  refine lv_pop hx hb dL_law_920 rfl ?_
  refine lv_goto (tgt := 1119) hx hb dL_law_921 (by decide) ?_
  exact kk _ _ _ _ S ⟨_, _, _, _, _, _, C, R, hp⟩
set_option maxHeartbeats 4000000 in
set_option maxRecDepth 100000 in
theorem law_18 {p : Program} {l : Launch} {e : Env} {s : State} {m : MethodId} {below : List Frame} {meth : Method} {c : Code} {bs Ls i cells slots : Nat} {xs : Nat → Int32} {D : va_G} {g : Nat → ClassId} {L : List Nat} {f : Nat → va_E} {H : Heap} {locs : List Loc} {ls : Array Slot} {x y : Nat} {Q : State → Prop} (hx : p.tables.exec = Jvm.exec) (hb : c.code = cL_law) (hml : c.maxLocals = 4) (hown : s.vm.findClass RL = some m.cls) (hts : ∀ w ∈ wsL_law, w.before #[Value.ref bs] s = true) (hX : va_X bs Ls xs s s.heap) (hbl : bs < s.heap.size) (hLs : Ls ≤ 3072) (hi : i + 6 ≤ Ls) (hroom : cells + 49 ≤ room_1.cells ∧ slots + 7472 ≤ room_1.slots) (S : PS D g (fun q : Nat => s.heap.size ≤ q) s.heap s L f H locs) (hl : lv_has ls 4 [(3, .int (nI i)), (2, .ref y), (1, .ref x), (0, .ref bs)]) (I0 : InvH g L f x y) (kk : ∀ (L : List Nat) (f : Nat → va_E) (H : Heap) (locs : List Loc), PS D g (fun q : Nat => s.heap.size ≤ q) s.heap s L f H locs → InvH g L f x y → W p l e room_1 s m #[Value.ref bs] below meth c H locs (cells + 49) (slots + 7472) Q (F0 m 1119 ls [])) : W p l e room_1 s m #[Value.ref bs] below meth c H locs cells slots Q (F0 m 924 ls []) := by
  obtain ⟨ρ, wN, wV, M, σ, r, C, R, H⟩ := I0
  have hR := CfX_R C
  have hV := CfX_V C
  have hI := CfY_I R
  refine lv_aload_n hx hb dL_law_924 rfl (lv_at hl 2 rfl) ?_
  refine lv_aload_n hx hb dL_law_925 rfl (lv_at hl 3 rfl) ?_
  refine lv_iload_n hx hb dL_law_926 rfl (lv_at hl 0 rfl) ?_
  refine lv_iconst (v := 1) hx hb dL_law_927 (by decide) ?_
  refine lv_iadd hx hb dL_law_928 ?_
  refine lv_topi (fun t_ et_ => ?_)
  obtain rfl : t_ = nI (i + 1) := et_.trans (nI_add i 1)
  refine va_sld hx hb hX hbl (Nat.not_le.mpr hbl) S.2.2.2.1 (vp_in_nI (n := i + 1) (by omega) (by omega)) dL_law_929 ?_
  refine lv_topi (fun a1 ea1 => ?_)
  refine lv_aload_n hx hb dL_law_930 rfl (lv_at hl 3 rfl) ?_
  refine lv_iload_n hx hb dL_law_931 rfl (lv_at hl 0 rfl) ?_
  refine lv_iconst (v := 2) hx hb dL_law_932 (by decide) ?_
  refine lv_iadd hx hb dL_law_933 ?_
  refine lv_topi (fun t_ et_ => ?_)
  obtain rfl : t_ = nI (i + 2) := et_.trans (nI_add i 2)
  refine va_sld hx hb hX hbl (Nat.not_le.mpr hbl) S.2.2.2.1 (vp_in_nI (n := i + 2) (by omega) (by omega)) dL_law_934 ?_
  refine lv_topi (fun a2 ea2 => ?_)
  refine lv_aload_n hx hb dL_law_935 rfl (lv_at hl 3 rfl) ?_
  refine lv_iload_n hx hb dL_law_936 rfl (lv_at hl 0 rfl) ?_
  refine lv_iconst (v := 3) hx hb dL_law_937 (by decide) ?_
  refine lv_iadd hx hb dL_law_938 ?_
  refine lv_topi (fun t_ et_ => ?_)
  obtain rfl : t_ = nI (i + 3) := et_.trans (nI_add i 3)
  refine va_sld hx hb hX hbl (Nat.not_le.mpr hbl) S.2.2.2.1 (vp_in_nI (n := i + 3) (by omega) (by omega)) dL_law_939 ?_
  refine lv_topi (fun a3 ea3 => ?_)
  obtain ⟨fx, m_x, e_x⟩ := CfX_x C
  refine q_vi (As := [.int a1, .int a2, .int a3]) (rest := []) ⟨hx, hb, hml, hown, hts⟩ (sy_layer l D C a1 a2 a3) (cwV 3 hts gL_law_X8_layer rfl rfl rfl (by decide +kernel) ⟨Nat.le_of_ble_eq_true rfl, Nat.le_of_ble_eq_true rfl⟩) S m_x e_x (T := TX8) (N := 8) rfl rfl hl.1 rfl (Nat.le_of_ble_eq_true rfl) dL_law_940 hroom (fun r1 L f H1 locs S w1 => ?_)
  obtain ⟨wN1, wV1, M1, σ1, h8, w1⟩ := w1
  obtain ⟨ρ, C, R⟩ := after8X R w1
  refine lv_pop hx hb dL_law_943 rfl ?_
  refine lv_aload_n hx hb dL_law_944 rfl (lv_at hl 1 rfl) ?_
  refine lv_aload_n hx hb dL_law_945 rfl (lv_at hl 3 rfl) ?_
  refine lv_iload_n hx hb dL_law_946 rfl (lv_at hl 0 rfl) ?_
  refine lv_iconst (v := 1) hx hb dL_law_947 (by decide) ?_
  refine lv_iadd hx hb dL_law_948 ?_
  refine lv_topi (fun t_ et_ => ?_)
  obtain rfl : t_ = nI (i + 1) := et_.trans (nI_add i 1)
  refine va_sld hx hb hX hbl (Nat.not_le.mpr hbl) S.2.2.2.1 (vp_in_nI (n := i + 1) (by omega) (by omega)) dL_law_949 ?_
  refine lv_topi (fun t_ et_ => ?_)
  obtain rfl : a1 = t_ := ea1.trans et_.symm
  refine lv_aload_n hx hb dL_law_950 rfl (lv_at hl 3 rfl) ?_
  refine lv_iload_n hx hb dL_law_951 rfl (lv_at hl 0 rfl) ?_
  refine lv_iconst (v := 2) hx hb dL_law_952 (by decide) ?_
  refine lv_iadd hx hb dL_law_953 ?_
  refine lv_topi (fun t_ et_ => ?_)
  obtain rfl : t_ = nI (i + 2) := et_.trans (nI_add i 2)
  refine va_sld hx hb hX hbl (Nat.not_le.mpr hbl) S.2.2.2.1 (vp_in_nI (n := i + 2) (by omega) (by omega)) dL_law_954 ?_
  refine lv_topi (fun t_ et_ => ?_)
  obtain rfl : a2 = t_ := ea2.trans et_.symm
  refine lv_aload_n hx hb dL_law_955 rfl (lv_at hl 3 rfl) ?_
  refine lv_iload_n hx hb dL_law_956 rfl (lv_at hl 0 rfl) ?_
  refine lv_iconst (v := 3) hx hb dL_law_957 (by decide) ?_
  refine lv_iadd hx hb dL_law_958 ?_
  refine lv_topi (fun t_ et_ => ?_)
  obtain rfl : t_ = nI (i + 3) := et_.trans (nI_add i 3)
  refine va_sld hx hb hX hbl (Nat.not_le.mpr hbl) S.2.2.2.1 (vp_in_nI (n := i + 3) (by omega) (by omega)) dL_law_959 ?_
  refine lv_topi (fun t_ et_ => ?_)
  obtain rfl : a3 = t_ := ea3.trans et_.symm
  obtain ⟨fy, m_y, e_y⟩ := CfY_y R
  refine q_vi (As := [.int a1, .int a2, .int a3]) (rest := []) ⟨hx, hb, hml, hown, hts⟩ (rx_layer l D R a1 a2 a3) (cwV 3 hts gL_law_X9_layer rfl rfl rfl (by decide +kernel) ⟨Nat.le_of_ble_eq_true rfl, Nat.le_of_ble_eq_true rfl⟩) S m_y e_y (T := TX9) (N := 23) rfl rfl hl.1 rfl (Nat.le_of_ble_eq_true rfl) dL_law_960 hroom (fun r2 L f H1 locs S w2 => ?_)
  obtain ⟨rr1, h9, w2⟩ := w2
  obtain ⟨C, R⟩ := after9X C w2
  have hp := pH_layer hI hV hR H h8 h9
  refine lv_pop hx hb dL_law_963 rfl ?_
  refine lv_goto (tgt := 1119) hx hb dL_law_964 (by decide) ?_
  exact kk _ _ _ _ S ⟨_, _, _, _, _, _, C, R, hp⟩
set_option maxHeartbeats 4000000 in
set_option maxRecDepth 100000 in
theorem law_19 {p : Program} {l : Launch} {e : Env} {s : State} {m : MethodId} {below : List Frame} {meth : Method} {c : Code} {bs Ls i cells slots : Nat} {xs : Nat → Int32} {D : va_G} {g : Nat → ClassId} {L : List Nat} {f : Nat → va_E} {H : Heap} {locs : List Loc} {ls : Array Slot} {x y : Nat} {Q : State → Prop} (hx : p.tables.exec = Jvm.exec) (hb : c.code = cL_law) (hml : c.maxLocals = 4) (hown : s.vm.findClass RL = some m.cls) (hts : ∀ w ∈ wsL_law, w.before #[Value.ref bs] s = true) (hX : va_X bs Ls xs s s.heap) (hbl : bs < s.heap.size) (hLs : Ls ≤ 3072) (hi : i + 6 ≤ Ls) (hroom : cells + 49 ≤ room_1.cells ∧ slots + 7472 ≤ room_1.slots) (S : PS D g (fun q : Nat => s.heap.size ≤ q) s.heap s L f H locs) (hl : lv_has ls 4 [(3, .int (nI i)), (2, .ref y), (1, .ref x), (0, .ref bs)]) (I0 : InvH g L f x y) (kk : ∀ (L : List Nat) (f : Nat → va_E) (H : Heap) (locs : List Loc), PS D g (fun q : Nat => s.heap.size ≤ q) s.heap s L f H locs → InvH g L f x y → W p l e room_1 s m #[Value.ref bs] below meth c H locs (cells + 49) (slots + 7472) Q (F0 m 1119 ls [])) : W p l e room_1 s m #[Value.ref bs] below meth c H locs cells slots Q (F0 m 967 ls []) := by
  obtain ⟨ρ, wN, wV, M, σ, r, C, R, H⟩ := I0
  have hR := CfX_R C
  have hV := CfX_V C
  have hI := CfY_I R
  refine lv_aload_n hx hb dL_law_967 rfl (lv_at hl 2 rfl) ?_
  refine lv_aload_n hx hb dL_law_968 rfl (lv_at hl 3 rfl) ?_
  refine lv_iload_n hx hb dL_law_969 rfl (lv_at hl 0 rfl) ?_
  refine lv_iconst (v := 1) hx hb dL_law_970 (by decide) ?_
  refine lv_iadd hx hb dL_law_971 ?_
  refine lv_topi (fun t_ et_ => ?_)
  obtain rfl : t_ = nI (i + 1) := et_.trans (nI_add i 1)
  refine va_sld hx hb hX hbl (Nat.not_le.mpr hbl) S.2.2.2.1 (vp_in_nI (n := i + 1) (by omega) (by omega)) dL_law_972 ?_
  refine lv_topi (fun a1 ea1 => ?_)
  refine lv_aload_n hx hb dL_law_973 rfl (lv_at hl 3 rfl) ?_
  refine lv_iload_n hx hb dL_law_974 rfl (lv_at hl 0 rfl) ?_
  refine lv_iconst (v := 2) hx hb dL_law_975 (by decide) ?_
  refine lv_iadd hx hb dL_law_976 ?_
  refine lv_topi (fun t_ et_ => ?_)
  obtain rfl : t_ = nI (i + 2) := et_.trans (nI_add i 2)
  refine va_sld hx hb hX hbl (Nat.not_le.mpr hbl) S.2.2.2.1 (vp_in_nI (n := i + 2) (by omega) (by omega)) dL_law_977 ?_
  refine lv_topi (fun a2 ea2 => ?_)
  refine lv_i2l hx hb dL_law_978 rfl ?_
  refine lv_bipush (v := 32) hx hb dL_law_979 (by decide) ?_
  refine lv_lshl hx hb dL_law_981 rfl ?_
  refine lv_aload_n hx hb dL_law_982 rfl (lv_at hl 3 rfl) ?_
  refine lv_iload_n hx hb dL_law_983 rfl (lv_at hl 0 rfl) ?_
  refine lv_iconst (v := 3) hx hb dL_law_984 (by decide) ?_
  refine lv_iadd hx hb dL_law_985 ?_
  refine lv_topi (fun t_ et_ => ?_)
  obtain rfl : t_ = nI (i + 3) := et_.trans (nI_add i 3)
  refine va_sld hx hb hX hbl (Nat.not_le.mpr hbl) S.2.2.2.1 (vp_in_nI (n := i + 3) (by omega) (by omega)) dL_law_986 ?_
  refine lv_topi (fun a3 ea3 => ?_)
  refine lv_i2l hx hb dL_law_987 rfl ?_
  refine lv_ldc2 (v := (4294967295)) hx hb hown (hts (.constantLong RL 13 (4294967295)) (by decide +kernel)) dL_law_988 ?_
  refine lv_land hx hb dL_law_991 ?_
  refine lv_lor hx hb dL_law_992 ?_
  refine lv_topl (fun fs efs => ?_)
  refine lv_aload_n hx hb dL_law_993 rfl (lv_at hl 3 rfl) ?_
  refine lv_iload_n hx hb dL_law_994 rfl (lv_at hl 0 rfl) ?_
  refine lv_iconst (v := 4) hx hb dL_law_995 (by decide) ?_
  refine lv_iadd hx hb dL_law_996 ?_
  refine lv_topi (fun t_ et_ => ?_)
  obtain rfl : t_ = nI (i + 4) := et_.trans (nI_add i 4)
  refine va_sld hx hb hX hbl (Nat.not_le.mpr hbl) S.2.2.2.1 (vp_in_nI (n := i + 4) (by omega) (by omega)) dL_law_997 ?_
  refine lv_topi (fun a4 ea4 => ?_)
  obtain ⟨fx, m_x, e_x⟩ := CfX_x C
  refine q_vi (As := [.int a1, .long fs, .int a4]) (rest := []) ⟨hx, hb, hml, hown, hts⟩ (sy_mark l D C a1 fs a4) (cwV 3 hts gL_law_X8_mark rfl rfl rfl (by decide +kernel) ⟨Nat.le_of_ble_eq_true rfl, Nat.le_of_ble_eq_true rfl⟩) S m_x e_x (T := TX8) (N := 8) rfl rfl hl.1 rfl (Nat.le_of_ble_eq_true rfl) dL_law_998 hroom (fun r1 L f H1 locs S w1 => ?_)
  obtain ⟨wN1, wV1, M1, σ1, h8, w1⟩ := w1
  obtain ⟨ρ, C, R⟩ := after8X R w1
  refine lv_pop hx hb dL_law_1001 rfl ?_
  refine lv_aload_n hx hb dL_law_1002 rfl (lv_at hl 1 rfl) ?_
  refine lv_aload_n hx hb dL_law_1003 rfl (lv_at hl 3 rfl) ?_
  refine lv_iload_n hx hb dL_law_1004 rfl (lv_at hl 0 rfl) ?_
  refine lv_iconst (v := 1) hx hb dL_law_1005 (by decide) ?_
  refine lv_iadd hx hb dL_law_1006 ?_
  refine lv_topi (fun t_ et_ => ?_)
  obtain rfl : t_ = nI (i + 1) := et_.trans (nI_add i 1)
  refine va_sld hx hb hX hbl (Nat.not_le.mpr hbl) S.2.2.2.1 (vp_in_nI (n := i + 1) (by omega) (by omega)) dL_law_1007 ?_
  refine lv_topi (fun t_ et_ => ?_)
  obtain rfl : a1 = t_ := ea1.trans et_.symm
  refine lv_aload_n hx hb dL_law_1008 rfl (lv_at hl 3 rfl) ?_
  refine lv_iload_n hx hb dL_law_1009 rfl (lv_at hl 0 rfl) ?_
  refine lv_iconst (v := 2) hx hb dL_law_1010 (by decide) ?_
  refine lv_iadd hx hb dL_law_1011 ?_
  refine lv_topi (fun t_ et_ => ?_)
  obtain rfl : t_ = nI (i + 2) := et_.trans (nI_add i 2)
  refine va_sld hx hb hX hbl (Nat.not_le.mpr hbl) S.2.2.2.1 (vp_in_nI (n := i + 2) (by omega) (by omega)) dL_law_1012 ?_
  refine lv_topi (fun t_ et_ => ?_)
  obtain rfl : a2 = t_ := ea2.trans et_.symm
  refine lv_i2l hx hb dL_law_1013 rfl ?_
  refine lv_bipush (v := 32) hx hb dL_law_1014 (by decide) ?_
  refine lv_lshl hx hb dL_law_1016 rfl ?_
  refine lv_aload_n hx hb dL_law_1017 rfl (lv_at hl 3 rfl) ?_
  refine lv_iload_n hx hb dL_law_1018 rfl (lv_at hl 0 rfl) ?_
  refine lv_iconst (v := 3) hx hb dL_law_1019 (by decide) ?_
  refine lv_iadd hx hb dL_law_1020 ?_
  refine lv_topi (fun t_ et_ => ?_)
  obtain rfl : t_ = nI (i + 3) := et_.trans (nI_add i 3)
  refine va_sld hx hb hX hbl (Nat.not_le.mpr hbl) S.2.2.2.1 (vp_in_nI (n := i + 3) (by omega) (by omega)) dL_law_1021 ?_
  refine lv_topi (fun t_ et_ => ?_)
  obtain rfl : a3 = t_ := ea3.trans et_.symm
  refine lv_i2l hx hb dL_law_1022 rfl ?_
  refine lv_ldc2 (v := (4294967295)) hx hb hown (hts (.constantLong RL 13 (4294967295)) (by decide +kernel)) dL_law_1023 ?_
  refine lv_land hx hb dL_law_1026 ?_
  refine lv_lor hx hb dL_law_1027 ?_
  refine lv_topl (fun t_ et_ => ?_)
  obtain rfl : fs = t_ := efs.trans et_.symm
  refine lv_aload_n hx hb dL_law_1028 rfl (lv_at hl 3 rfl) ?_
  refine lv_iload_n hx hb dL_law_1029 rfl (lv_at hl 0 rfl) ?_
  refine lv_iconst (v := 4) hx hb dL_law_1030 (by decide) ?_
  refine lv_iadd hx hb dL_law_1031 ?_
  refine lv_topi (fun t_ et_ => ?_)
  obtain rfl : t_ = nI (i + 4) := et_.trans (nI_add i 4)
  refine va_sld hx hb hX hbl (Nat.not_le.mpr hbl) S.2.2.2.1 (vp_in_nI (n := i + 4) (by omega) (by omega)) dL_law_1032 ?_
  refine lv_topi (fun t_ et_ => ?_)
  obtain rfl : a4 = t_ := ea4.trans et_.symm
  obtain ⟨fy, m_y, e_y⟩ := CfY_y R
  refine q_vi (As := [.int a1, .long fs, .int a4]) (rest := []) ⟨hx, hb, hml, hown, hts⟩ (rx_mark l D R a1 fs a4) (cwV 3 hts gL_law_X9_mark rfl rfl rfl (by decide +kernel) ⟨Nat.le_of_ble_eq_true rfl, Nat.le_of_ble_eq_true rfl⟩) S m_y e_y (T := TX9) (N := 23) rfl rfl hl.1 rfl (Nat.le_of_ble_eq_true rfl) dL_law_1033 hroom (fun r2 L f H1 locs S w2 => ?_)
  obtain ⟨rr1, h9, w2⟩ := w2
  obtain ⟨C, R⟩ := after9X C w2
  have hp := pH_markA hI hV hR H h8 h9
  refine lv_pop hx hb dL_law_1036 rfl ?_
  refine lv_goto (tgt := 1119) hx hb dL_law_1037 (by decide) ?_
  exact kk _ _ _ _ S ⟨_, _, _, _, _, _, C, R, hp.2⟩
set_option maxHeartbeats 4000000 in
set_option maxRecDepth 100000 in
theorem law_20 {p : Program} {l : Launch} {e : Env} {s : State} {m : MethodId} {below : List Frame} {meth : Method} {c : Code} {bs Ls i cells slots : Nat} {xs : Nat → Int32} {D : va_G} {g : Nat → ClassId} {L : List Nat} {f : Nat → va_E} {H : Heap} {locs : List Loc} {ls : Array Slot} {x y : Nat} {Q : State → Prop} (hx : p.tables.exec = Jvm.exec) (hb : c.code = cL_law) (hml : c.maxLocals = 4) (hown : s.vm.findClass RL = some m.cls) (hts : ∀ w ∈ wsL_law, w.before #[Value.ref bs] s = true) (hX : va_X bs Ls xs s s.heap) (hbl : bs < s.heap.size) (hLs : Ls ≤ 3072) (hi : i + 6 ≤ Ls) (hroom : cells + 49 ≤ room_1.cells ∧ slots + 7472 ≤ room_1.slots) (S : PS D g (fun q : Nat => s.heap.size ≤ q) s.heap s L f H locs) (hl : lv_has ls 4 [(3, .int (nI i)), (2, .ref y), (1, .ref x), (0, .ref bs)]) (I0 : InvH g L f x y) (kk : ∀ (L : List Nat) (f : Nat → va_E) (H : Heap) (locs : List Loc), PS D g (fun q : Nat => s.heap.size ≤ q) s.heap s L f H locs → InvH g L f x y → W p l e room_1 s m #[Value.ref bs] below meth c H locs (cells + 49) (slots + 7472) Q (F0 m 1119 ls [])) : W p l e room_1 s m #[Value.ref bs] below meth c H locs cells slots Q (F0 m 1040 ls []) := by
  obtain ⟨ρ, wN, wV, M, σ, r, C, R, H⟩ := I0
  have hR := CfX_R C
  have hV := CfX_V C
  have hI := CfY_I R
  refine lv_aload_n hx hb dL_law_1040 rfl (lv_at hl 2 rfl) ?_
  refine lv_aload_n hx hb dL_law_1041 rfl (lv_at hl 3 rfl) ?_
  refine lv_iload_n hx hb dL_law_1042 rfl (lv_at hl 0 rfl) ?_
  refine lv_iconst (v := 1) hx hb dL_law_1043 (by decide) ?_
  refine lv_iadd hx hb dL_law_1044 ?_
  refine lv_topi (fun t_ et_ => ?_)
  obtain rfl : t_ = nI (i + 1) := et_.trans (nI_add i 1)
  refine va_sld hx hb hX hbl (Nat.not_le.mpr hbl) S.2.2.2.1 (vp_in_nI (n := i + 1) (by omega) (by omega)) dL_law_1045 ?_
  refine lv_topi (fun a1 ea1 => ?_)
  refine lv_aload_n hx hb dL_law_1046 rfl (lv_at hl 3 rfl) ?_
  refine lv_iload_n hx hb dL_law_1047 rfl (lv_at hl 0 rfl) ?_
  refine lv_iconst (v := 2) hx hb dL_law_1048 (by decide) ?_
  refine lv_iadd hx hb dL_law_1049 ?_
  refine lv_topi (fun t_ et_ => ?_)
  obtain rfl : t_ = nI (i + 2) := et_.trans (nI_add i 2)
  refine va_sld hx hb hX hbl (Nat.not_le.mpr hbl) S.2.2.2.1 (vp_in_nI (n := i + 2) (by omega) (by omega)) dL_law_1050 ?_
  refine lv_topi (fun a2 ea2 => ?_)
  refine lv_aload_n hx hb dL_law_1051 rfl (lv_at hl 3 rfl) ?_
  refine lv_iload_n hx hb dL_law_1052 rfl (lv_at hl 0 rfl) ?_
  refine lv_iconst (v := 3) hx hb dL_law_1053 (by decide) ?_
  refine lv_iadd hx hb dL_law_1054 ?_
  refine lv_topi (fun t_ et_ => ?_)
  obtain rfl : t_ = nI (i + 3) := et_.trans (nI_add i 3)
  refine va_sld hx hb hX hbl (Nat.not_le.mpr hbl) S.2.2.2.1 (vp_in_nI (n := i + 3) (by omega) (by omega)) dL_law_1055 ?_
  refine lv_topi (fun a3 ea3 => ?_)
  refine lv_aload_n hx hb dL_law_1056 rfl (lv_at hl 3 rfl) ?_
  refine lv_iload_n hx hb dL_law_1057 rfl (lv_at hl 0 rfl) ?_
  refine lv_iconst (v := 4) hx hb dL_law_1058 (by decide) ?_
  refine lv_iadd hx hb dL_law_1059 ?_
  refine lv_topi (fun t_ et_ => ?_)
  obtain rfl : t_ = nI (i + 4) := et_.trans (nI_add i 4)
  refine va_sld hx hb hX hbl (Nat.not_le.mpr hbl) S.2.2.2.1 (vp_in_nI (n := i + 4) (by omega) (by omega)) dL_law_1060 ?_
  refine lv_topi (fun a4 ea4 => ?_)
  obtain ⟨fx, m_x, e_x⟩ := CfX_x C
  refine q_vi (As := [.int a1, .int a2, .int a3, .int a4]) (rest := []) ⟨hx, hb, hml, hown, hts⟩ (sy_fewest l D C a1 a2 a3 a4) (cwV 4 hts gL_law_X8_fewest rfl rfl rfl (by decide +kernel) ⟨Nat.le_of_ble_eq_true rfl, Nat.le_of_ble_eq_true rfl⟩) S m_x e_x (T := TX8) (N := 8) rfl rfl hl.1 rfl (Nat.le_of_ble_eq_true rfl) dL_law_1061 hroom (fun r1 L f H1 locs S w1 => ?_)
  obtain ⟨wN1, wV1, M1, σ1, h8, w1⟩ := w1
  obtain ⟨ρ, C, R⟩ := after8X R w1
  refine lv_pop hx hb dL_law_1064 rfl ?_
  refine lv_aload_n hx hb dL_law_1065 rfl (lv_at hl 1 rfl) ?_
  refine lv_aload_n hx hb dL_law_1066 rfl (lv_at hl 3 rfl) ?_
  refine lv_iload_n hx hb dL_law_1067 rfl (lv_at hl 0 rfl) ?_
  refine lv_iconst (v := 1) hx hb dL_law_1068 (by decide) ?_
  refine lv_iadd hx hb dL_law_1069 ?_
  refine lv_topi (fun t_ et_ => ?_)
  obtain rfl : t_ = nI (i + 1) := et_.trans (nI_add i 1)
  refine va_sld hx hb hX hbl (Nat.not_le.mpr hbl) S.2.2.2.1 (vp_in_nI (n := i + 1) (by omega) (by omega)) dL_law_1070 ?_
  refine lv_topi (fun t_ et_ => ?_)
  obtain rfl : a1 = t_ := ea1.trans et_.symm
  refine lv_aload_n hx hb dL_law_1071 rfl (lv_at hl 3 rfl) ?_
  refine lv_iload_n hx hb dL_law_1072 rfl (lv_at hl 0 rfl) ?_
  refine lv_iconst (v := 2) hx hb dL_law_1073 (by decide) ?_
  refine lv_iadd hx hb dL_law_1074 ?_
  refine lv_topi (fun t_ et_ => ?_)
  obtain rfl : t_ = nI (i + 2) := et_.trans (nI_add i 2)
  refine va_sld hx hb hX hbl (Nat.not_le.mpr hbl) S.2.2.2.1 (vp_in_nI (n := i + 2) (by omega) (by omega)) dL_law_1075 ?_
  refine lv_topi (fun t_ et_ => ?_)
  obtain rfl : a2 = t_ := ea2.trans et_.symm
  refine lv_aload_n hx hb dL_law_1076 rfl (lv_at hl 3 rfl) ?_
  refine lv_iload_n hx hb dL_law_1077 rfl (lv_at hl 0 rfl) ?_
  refine lv_iconst (v := 3) hx hb dL_law_1078 (by decide) ?_
  refine lv_iadd hx hb dL_law_1079 ?_
  refine lv_topi (fun t_ et_ => ?_)
  obtain rfl : t_ = nI (i + 3) := et_.trans (nI_add i 3)
  refine va_sld hx hb hX hbl (Nat.not_le.mpr hbl) S.2.2.2.1 (vp_in_nI (n := i + 3) (by omega) (by omega)) dL_law_1080 ?_
  refine lv_topi (fun t_ et_ => ?_)
  obtain rfl : a3 = t_ := ea3.trans et_.symm
  refine lv_aload_n hx hb dL_law_1081 rfl (lv_at hl 3 rfl) ?_
  refine lv_iload_n hx hb dL_law_1082 rfl (lv_at hl 0 rfl) ?_
  refine lv_iconst (v := 4) hx hb dL_law_1083 (by decide) ?_
  refine lv_iadd hx hb dL_law_1084 ?_
  refine lv_topi (fun t_ et_ => ?_)
  obtain rfl : t_ = nI (i + 4) := et_.trans (nI_add i 4)
  refine va_sld hx hb hX hbl (Nat.not_le.mpr hbl) S.2.2.2.1 (vp_in_nI (n := i + 4) (by omega) (by omega)) dL_law_1085 ?_
  refine lv_topi (fun t_ et_ => ?_)
  obtain rfl : a4 = t_ := ea4.trans et_.symm
  obtain ⟨fy, m_y, e_y⟩ := CfY_y R
  refine q_vi (As := [.int a1, .int a2, .int a3, .int a4]) (rest := []) ⟨hx, hb, hml, hown, hts⟩ (rx_fewest l D R a1 a2 a3 a4) (cwV 4 hts gL_law_X9_fewest rfl rfl rfl (by decide +kernel) ⟨Nat.le_of_ble_eq_true rfl, Nat.le_of_ble_eq_true rfl⟩) S m_y e_y (T := TX9) (N := 23) rfl rfl hl.1 rfl (Nat.le_of_ble_eq_true rfl) dL_law_1086 hroom (fun r2 L f H1 locs S w2 => ?_)
  obtain ⟨rr1, h9, w2⟩ := w2
  obtain ⟨C, R⟩ := after9X C w2
  have hp := pH_fewestA hI hV hR H h8 h9
  refine lv_pop hx hb dL_law_1089 rfl ?_
  refine lv_goto (tgt := 1119) hx hb dL_law_1090 (by decide) ?_
  exact kk _ _ _ _ S ⟨_, _, _, _, _, _, C, R, hp.2⟩
set_option maxHeartbeats 4000000 in
set_option maxRecDepth 100000 in
theorem law_21 {p : Program} {l : Launch} {e : Env} {s : State} {m : MethodId} {below : List Frame} {meth : Method} {c : Code} {bs Ls i cells slots : Nat} {xs : Nat → Int32} {D : va_G} {g : Nat → ClassId} {L : List Nat} {f : Nat → va_E} {H : Heap} {locs : List Loc} {ls : Array Slot} {x y : Nat} {Q : State → Prop} (hx : p.tables.exec = Jvm.exec) (hb : c.code = cL_law) (hml : c.maxLocals = 4) (hown : s.vm.findClass RL = some m.cls) (hts : ∀ w ∈ wsL_law, w.before #[Value.ref bs] s = true) (hX : va_X bs Ls xs s s.heap) (hbl : bs < s.heap.size) (hLs : Ls ≤ 3072) (hi : i + 6 ≤ Ls) (hroom : cells + 49 ≤ room_1.cells ∧ slots + 7472 ≤ room_1.slots) (S : PS D g (fun q : Nat => s.heap.size ≤ q) s.heap s L f H locs) (hl : lv_has ls 4 [(3, .int (nI i)), (2, .ref y), (1, .ref x), (0, .ref bs)]) (I0 : InvH g L f x y) (kk : ∀ (L : List Nat) (f : Nat → va_E) (H : Heap) (locs : List Loc), PS D g (fun q : Nat => s.heap.size ≤ q) s.heap s L f H locs → InvH g L f x y → W p l e room_1 s m #[Value.ref bs] below meth c H locs (cells + 49) (slots + 7472) Q (F0 m 1119 ls [])) : W p l e room_1 s m #[Value.ref bs] below meth c H locs cells slots Q (F0 m 1093 ls []) := by
  obtain ⟨ρ, wN, wV, M, σ, r, C, R, H⟩ := I0
  have hR := CfX_R C
  have hV := CfX_V C
  have hI := CfY_I R
  refine lv_aload_n hx hb dL_law_1093 rfl (lv_at hl 2 rfl) ?_
  obtain ⟨fx, m_x, e_x⟩ := CfX_x C
  refine q_vi (As := []) (rest := []) ⟨hx, hb, hml, hown, hts⟩ (sy_remove l D C) (cwV 0 hts gL_law_X8_remove rfl rfl rfl (by decide +kernel) ⟨Nat.le_of_ble_eq_true rfl, Nat.le_of_ble_eq_true rfl⟩) S m_x e_x (T := TX8) (N := 8) rfl rfl hl.1 rfl (Nat.le_of_ble_eq_true rfl) dL_law_1094 hroom (fun r1 L f H1 locs S w1 => ?_)
  obtain ⟨wN1, wV1, M1, σ1, h8, w1⟩ := w1
  obtain ⟨ρ, C, R⟩ := after8X R w1
  refine lv_pop hx hb dL_law_1097 rfl ?_
  refine lv_aload_n hx hb dL_law_1098 rfl (lv_at hl 1 rfl) ?_
  obtain ⟨fy, m_y, e_y⟩ := CfY_y R
  refine q_vi (As := []) (rest := []) ⟨hx, hb, hml, hown, hts⟩ (rx_remove l D R) (cwV 0 hts gL_law_X9_remove rfl rfl rfl (by decide +kernel) ⟨Nat.le_of_ble_eq_true rfl, Nat.le_of_ble_eq_true rfl⟩) S m_y e_y (T := TX9) (N := 23) rfl rfl hl.1 rfl (Nat.le_of_ble_eq_true rfl) dL_law_1099 hroom (fun r2 L f H1 locs S w2 => ?_)
  obtain ⟨rr1, h9, w2⟩ := w2
  obtain ⟨C, R⟩ := after9X C w2
  have hp := pH_remove hI hV hR H h8 h9
  refine lv_pop hx hb dL_law_1102 rfl ?_
  refine lv_goto (tgt := 1119) hx hb dL_law_1103 (by decide) ?_
  exact kk _ _ _ _ S ⟨_, _, _, _, _, _, C, R, hp.2⟩
set_option maxHeartbeats 4000000 in
set_option maxRecDepth 100000 in
theorem law_22 {p : Program} {l : Launch} {e : Env} {s : State} {m : MethodId} {below : List Frame} {meth : Method} {c : Code} {bs Ls i cells slots : Nat} {xs : Nat → Int32} {D : va_G} {g : Nat → ClassId} {L : List Nat} {f : Nat → va_E} {H : Heap} {locs : List Loc} {ls : Array Slot} {x y : Nat} {Q : State → Prop} (hx : p.tables.exec = Jvm.exec) (hb : c.code = cL_law) (hml : c.maxLocals = 4) (hown : s.vm.findClass RL = some m.cls) (hts : ∀ w ∈ wsL_law, w.before #[Value.ref bs] s = true) (hX : va_X bs Ls xs s s.heap) (hbl : bs < s.heap.size) (hLs : Ls ≤ 3072) (hi : i + 6 ≤ Ls) (hroom : cells + 49 ≤ room_1.cells ∧ slots + 7472 ≤ room_1.slots) (S : PS D g (fun q : Nat => s.heap.size ≤ q) s.heap s L f H locs) (hl : lv_has ls 4 [(3, .int (nI i)), (2, .ref y), (1, .ref x), (0, .ref bs)]) (I0 : InvH g L f x y) (kk : ∀ (L : List Nat) (f : Nat → va_E) (H : Heap) (locs : List Loc), PS D g (fun q : Nat => s.heap.size ≤ q) s.heap s L f H locs → InvH g L f x y → W p l e room_1 s m #[Value.ref bs] below meth c H locs (cells + 49) (slots + 7472) Q (F0 m 1119 ls [])) : W p l e room_1 s m #[Value.ref bs] below meth c H locs cells slots Q (F0 m 1106 ls []) := by
  obtain ⟨ρ, wN, wV, M, σ, r, C, R, H⟩ := I0
  have hR := CfX_R C
  have hV := CfX_V C
  have hI := CfY_I R
  refine lv_aload_n hx hb dL_law_1106 rfl (lv_at hl 2 rfl) ?_
  obtain ⟨fx, m_x, e_x⟩ := CfX_x C
  refine q_vi (As := []) (rest := []) ⟨hx, hb, hml, hown, hts⟩ (sy_sieves l D C) (cwV 0 hts gL_law_X8_sieves rfl rfl rfl (by decide +kernel) ⟨Nat.le_of_ble_eq_true rfl, Nat.le_of_ble_eq_true rfl⟩) S m_x e_x (T := TX8) (N := 8) rfl rfl hl.1 rfl (Nat.le_of_ble_eq_true rfl) dL_law_1107 hroom (fun r1 L f H1 locs S w1 => ?_)
  obtain ⟨wN1, wV1, M1, σ1, h8, w1⟩ := w1
  obtain ⟨ρ, C, R⟩ := after8X R w1
  refine lv_pop hx hb dL_law_1110 rfl ?_
  refine lv_aload_n hx hb dL_law_1111 rfl (lv_at hl 1 rfl) ?_
  obtain ⟨fy, m_y, e_y⟩ := CfY_y R
  refine q_vi (As := []) (rest := []) ⟨hx, hb, hml, hown, hts⟩ (rx_sieves l D R) (cwV 0 hts gL_law_X9_sieves rfl rfl rfl (by decide +kernel) ⟨Nat.le_of_ble_eq_true rfl, Nat.le_of_ble_eq_true rfl⟩) S m_y e_y (T := TX9) (N := 23) rfl rfl hl.1 rfl (Nat.le_of_ble_eq_true rfl) dL_law_1112 hroom (fun r2 L f H1 locs S w2 => ?_)
  obtain ⟨rr1, h9, w2⟩ := w2
  obtain ⟨C, R⟩ := after9X C w2
  have hp := pH_sieves hI hV hR H h8 h9
  refine lv_pop hx hb dL_law_1115 rfl ?_
  refine lv_goto (tgt := 1119) hx hb dL_law_1116 (by decide) ?_
  exact kk _ _ _ _ S ⟨_, _, _, _, _, _, C, R, hp.2⟩
