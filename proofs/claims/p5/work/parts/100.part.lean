set_option maxHeartbeats 4000000 in
set_option maxRecDepth 100000 in
theorem law_0 {p : Program} {l : Launch} {e : Env} {s : State} {m : MethodId} {below : List Frame} {meth : Method} {c : Code} {bs Ls i cells slots : Nat} {xs : Nat → Int32} {D : va_G} {g : Nat → ClassId} {L : List Nat} {f : Nat → va_E} {H : Heap} {locs : List Loc} {ls : Array Slot} {x y : Nat} {Q : State → Prop} (hx : p.tables.exec = Jvm.exec) (hb : c.code = cL_law) (hml : c.maxLocals = 4) (hown : s.vm.findClass RL = some m.cls) (hts : ∀ w ∈ wsL_law, w.before #[Value.ref bs] s = true) (hX : va_X bs Ls xs s s.heap) (hbl : bs < s.heap.size) (hLs : Ls ≤ 3072) (hi : i + 6 ≤ Ls) (hroom : cells + 49 ≤ room_1.cells ∧ slots + 7472 ≤ room_1.slots) (S : PS D g (fun q : Nat => s.heap.size ≤ q) s.heap s L f H locs) (hl : lv_has ls 4 [(3, .int (nI i)), (2, .ref y), (1, .ref x), (0, .ref bs)]) (I0 : Inv g L f x y) (kk : ∀ (L : List Nat) (f : Nat → va_E) (H : Heap) (locs : List Loc), PS D g (fun q : Nat => s.heap.size ≤ q) s.heap s L f H locs → Inv g L f x y → W p l e room_1 s m #[Value.ref bs] below meth c H locs (cells + 49) (slots + 7472) Q (F0 m 1120 ls [])) : W p l e room_1 s m #[Value.ref bs] below meth c H locs cells slots Q (F0 m 140 ls []) := by
  obtain ⟨ρ, wN, wV, vW, vIW, C, R, hK⟩ := I0
  have hR := Cf_R C
  refine lv_aload_n hx hb dL_law_140 rfl (lv_at hl 2 rfl) ?_
  refine lv_aload_n hx hb dL_law_141 rfl (lv_at hl 3 rfl) ?_
  refine lv_iload_n hx hb dL_law_142 rfl (lv_at hl 0 rfl) ?_
  refine lv_iconst (v := 1) hx hb dL_law_143 (by decide) ?_
  refine lv_iadd hx hb dL_law_144 ?_
  refine lv_topi (fun t_ et_ => ?_)
  obtain rfl : t_ = nI (i + 1) := et_.trans (nI_add i 1)
  refine va_sld hx hb hX hbl (Nat.not_le.mpr hbl) S.2.2.2.1 (vp_in_nI (n := i + 1) (by omega) (by omega)) dL_law_145 ?_
  refine lv_topi (fun a1 ea1 => ?_)
  refine lv_aload_n hx hb dL_law_146 rfl (lv_at hl 3 rfl) ?_
  refine lv_iload_n hx hb dL_law_147 rfl (lv_at hl 0 rfl) ?_
  refine lv_iconst (v := 2) hx hb dL_law_148 (by decide) ?_
  refine lv_iadd hx hb dL_law_149 ?_
  refine lv_topi (fun t_ et_ => ?_)
  obtain rfl : t_ = nI (i + 2) := et_.trans (nI_add i 2)
  refine va_sld hx hb hX hbl (Nat.not_le.mpr hbl) S.2.2.2.1 (vp_in_nI (n := i + 2) (by omega) (by omega)) dL_law_150 ?_
  refine lv_topi (fun a2 ea2 => ?_)
  refine lv_i2l hx hb dL_law_151 rfl ?_
  refine lv_bipush (v := 32) hx hb dL_law_152 (by decide) ?_
  refine lv_lshl hx hb dL_law_154 rfl ?_
  refine lv_aload_n hx hb dL_law_155 rfl (lv_at hl 3 rfl) ?_
  refine lv_iload_n hx hb dL_law_156 rfl (lv_at hl 0 rfl) ?_
  refine lv_iconst (v := 3) hx hb dL_law_157 (by decide) ?_
  refine lv_iadd hx hb dL_law_158 ?_
  refine lv_topi (fun t_ et_ => ?_)
  obtain rfl : t_ = nI (i + 3) := et_.trans (nI_add i 3)
  refine va_sld hx hb hX hbl (Nat.not_le.mpr hbl) S.2.2.2.1 (vp_in_nI (n := i + 3) (by omega) (by omega)) dL_law_159 ?_
  refine lv_topi (fun a3 ea3 => ?_)
  refine lv_i2l hx hb dL_law_160 rfl ?_
  refine lv_ldc2 (v := (4294967295)) hx hb hown (hts (.constantLong RL 13 (4294967295)) (by decide +kernel)) dL_law_161 ?_
  refine lv_land hx hb dL_law_164 ?_
  refine lv_lor hx hb dL_law_165 ?_
  refine lv_topl (fun fs efs => ?_)
  refine lv_aload_n hx hb dL_law_166 rfl (lv_at hl 3 rfl) ?_
  refine lv_iload_n hx hb dL_law_167 rfl (lv_at hl 0 rfl) ?_
  refine lv_iconst (v := 4) hx hb dL_law_168 (by decide) ?_
  refine lv_iadd hx hb dL_law_169 ?_
  refine lv_topi (fun t_ et_ => ?_)
  obtain rfl : t_ = nI (i + 4) := et_.trans (nI_add i 4)
  refine va_sld hx hb hX hbl (Nat.not_le.mpr hbl) S.2.2.2.1 (vp_in_nI (n := i + 4) (by omega) (by omega)) dL_law_170 ?_
  refine lv_topi (fun a4 ea4 => ?_)
  refine lv_aload_n hx hb dL_law_171 rfl (lv_at hl 3 rfl) ?_
  refine lv_iload_n hx hb dL_law_172 rfl (lv_at hl 0 rfl) ?_
  refine lv_iconst (v := 5) hx hb dL_law_173 (by decide) ?_
  refine lv_iadd hx hb dL_law_174 ?_
  refine lv_topi (fun t_ et_ => ?_)
  obtain rfl : t_ = nI (i + 5) := et_.trans (nI_add i 5)
  refine va_sld hx hb hX hbl (Nat.not_le.mpr hbl) S.2.2.2.1 (vp_in_nI (n := i + 5) (by omega) (by omega)) dL_law_175 ?_
  refine lv_topi (fun a5 ea5 => ?_)
  obtain ⟨fx, m_x, e_x⟩ := Cf_x C
  refine q_vi (As := [.int a1, .long fs, .int a4, .int a5]) (rest := []) ⟨hx, hb, hml, hown, hts⟩ (sc_span l D C a1 fs a4 a5) (cwV 4 hts gL_law_X8_span rfl rfl rfl (by decide +kernel) ⟨Nat.le_of_ble_eq_true rfl, Nat.le_of_ble_eq_true rfl⟩) S m_x e_x (T := TX8) (N := 8) rfl rfl hl.1 rfl (Nat.le_of_ble_eq_true rfl) dL_law_176 hroom (fun r1 L f H locs S w1 => ?_)
  obtain ⟨a8, wN1, wV1, h8, w1⟩ := w1
  obtain ⟨ρ, C, R⟩ := after8 R w1
  refine lv_pop hx hb dL_law_179 rfl ?_
  refine lv_aload_n hx hb dL_law_180 rfl (lv_at hl 1 rfl) ?_
  refine lv_aload_n hx hb dL_law_181 rfl (lv_at hl 3 rfl) ?_
  refine lv_iload_n hx hb dL_law_182 rfl (lv_at hl 0 rfl) ?_
  refine lv_iconst (v := 1) hx hb dL_law_183 (by decide) ?_
  refine lv_iadd hx hb dL_law_184 ?_
  refine lv_topi (fun t_ et_ => ?_)
  obtain rfl : t_ = nI (i + 1) := et_.trans (nI_add i 1)
  refine va_sld hx hb hX hbl (Nat.not_le.mpr hbl) S.2.2.2.1 (vp_in_nI (n := i + 1) (by omega) (by omega)) dL_law_185 ?_
  refine lv_topi (fun t_ et_ => ?_)
  obtain rfl : a1 = t_ := ea1.trans et_.symm
  refine lv_aload_n hx hb dL_law_186 rfl (lv_at hl 3 rfl) ?_
  refine lv_iload_n hx hb dL_law_187 rfl (lv_at hl 0 rfl) ?_
  refine lv_iconst (v := 2) hx hb dL_law_188 (by decide) ?_
  refine lv_iadd hx hb dL_law_189 ?_
  refine lv_topi (fun t_ et_ => ?_)
  obtain rfl : t_ = nI (i + 2) := et_.trans (nI_add i 2)
  refine va_sld hx hb hX hbl (Nat.not_le.mpr hbl) S.2.2.2.1 (vp_in_nI (n := i + 2) (by omega) (by omega)) dL_law_190 ?_
  refine lv_topi (fun t_ et_ => ?_)
  obtain rfl : a2 = t_ := ea2.trans et_.symm
  refine lv_i2l hx hb dL_law_191 rfl ?_
  refine lv_bipush (v := 32) hx hb dL_law_192 (by decide) ?_
  refine lv_lshl hx hb dL_law_194 rfl ?_
  refine lv_aload_n hx hb dL_law_195 rfl (lv_at hl 3 rfl) ?_
  refine lv_iload_n hx hb dL_law_196 rfl (lv_at hl 0 rfl) ?_
  refine lv_iconst (v := 3) hx hb dL_law_197 (by decide) ?_
  refine lv_iadd hx hb dL_law_198 ?_
  refine lv_topi (fun t_ et_ => ?_)
  obtain rfl : t_ = nI (i + 3) := et_.trans (nI_add i 3)
  refine va_sld hx hb hX hbl (Nat.not_le.mpr hbl) S.2.2.2.1 (vp_in_nI (n := i + 3) (by omega) (by omega)) dL_law_199 ?_
  refine lv_topi (fun t_ et_ => ?_)
  obtain rfl : a3 = t_ := ea3.trans et_.symm
  refine lv_i2l hx hb dL_law_200 rfl ?_
  refine lv_ldc2 (v := (4294967295)) hx hb hown (hts (.constantLong RL 13 (4294967295)) (by decide +kernel)) dL_law_201 ?_
  refine lv_land hx hb dL_law_204 ?_
  refine lv_lor hx hb dL_law_205 ?_
  refine lv_topl (fun t_ et_ => ?_)
  obtain rfl : fs = t_ := efs.trans et_.symm
  refine lv_aload_n hx hb dL_law_206 rfl (lv_at hl 3 rfl) ?_
  refine lv_iload_n hx hb dL_law_207 rfl (lv_at hl 0 rfl) ?_
  refine lv_iconst (v := 4) hx hb dL_law_208 (by decide) ?_
  refine lv_iadd hx hb dL_law_209 ?_
  refine lv_topi (fun t_ et_ => ?_)
  obtain rfl : t_ = nI (i + 4) := et_.trans (nI_add i 4)
  refine va_sld hx hb hX hbl (Nat.not_le.mpr hbl) S.2.2.2.1 (vp_in_nI (n := i + 4) (by omega) (by omega)) dL_law_210 ?_
  refine lv_topi (fun t_ et_ => ?_)
  obtain rfl : a4 = t_ := ea4.trans et_.symm
  refine lv_aload_n hx hb dL_law_211 rfl (lv_at hl 3 rfl) ?_
  refine lv_iload_n hx hb dL_law_212 rfl (lv_at hl 0 rfl) ?_
  refine lv_iconst (v := 5) hx hb dL_law_213 (by decide) ?_
  refine lv_iadd hx hb dL_law_214 ?_
  refine lv_topi (fun t_ et_ => ?_)
  obtain rfl : t_ = nI (i + 5) := et_.trans (nI_add i 5)
  refine va_sld hx hb hX hbl (Nat.not_le.mpr hbl) S.2.2.2.1 (vp_in_nI (n := i + 5) (by omega) (by omega)) dL_law_215 ?_
  refine lv_topi (fun t_ et_ => ?_)
  obtain rfl : a5 = t_ := ea5.trans et_.symm
  obtain ⟨fy, m_y, e_y⟩ := CfR_y R
  refine q_vi (As := [.int a1, .long fs, .int a4, .int a5]) (rest := []) ⟨hx, hb, hml, hown, hts⟩ (rc_span l D R hK hR a1 fs a4 a5) (cwV 4 hts gL_law_X9_span rfl rfl rfl (by decide +kernel) ⟨Nat.le_of_ble_eq_true rfl, Nat.le_of_ble_eq_true rfl⟩) S m_y e_y (T := TX9) (N := 23) rfl rfl hl.1 rfl (Nat.le_of_ble_eq_true rfl) dL_law_216 hroom (fun r2 L f H locs S w2 => ?_)
  obtain ⟨a9, w2⟩ := w2
  obtain ⟨vW1, vIW1, hP, C, R⟩ := after9 C w2
  have hK := span_link hK hR h8 hP
  refine lv_pop hx hb dL_law_219 rfl ?_
  refine lv_goto (tgt := 1120) hx hb dL_law_220 (by decide) ?_
  exact kk _ _ _ _ S ⟨_, _, _, _, _, C, R, hK⟩
set_option maxHeartbeats 4000000 in
set_option maxRecDepth 100000 in
theorem law_1 {p : Program} {l : Launch} {e : Env} {s : State} {m : MethodId} {below : List Frame} {meth : Method} {c : Code} {bs Ls i cells slots : Nat} {xs : Nat → Int32} {D : va_G} {g : Nat → ClassId} {L : List Nat} {f : Nat → va_E} {H : Heap} {locs : List Loc} {ls : Array Slot} {x y : Nat} {Q : State → Prop} (hx : p.tables.exec = Jvm.exec) (hb : c.code = cL_law) (hml : c.maxLocals = 4) (hown : s.vm.findClass RL = some m.cls) (hts : ∀ w ∈ wsL_law, w.before #[Value.ref bs] s = true) (hX : va_X bs Ls xs s s.heap) (hbl : bs < s.heap.size) (hLs : Ls ≤ 3072) (hi : i + 6 ≤ Ls) (hroom : cells + 49 ≤ room_1.cells ∧ slots + 7472 ≤ room_1.slots) (S : PS D g (fun q : Nat => s.heap.size ≤ q) s.heap s L f H locs) (hl : lv_has ls 4 [(3, .int (nI i)), (2, .ref y), (1, .ref x), (0, .ref bs)]) (I0 : Inv g L f x y) (kk : ∀ (L : List Nat) (f : Nat → va_E) (H : Heap) (locs : List Loc), PS D g (fun q : Nat => s.heap.size ≤ q) s.heap s L f H locs → Inv g L f x y → W p l e room_1 s m #[Value.ref bs] below meth c H locs (cells + 49) (slots + 7472) Q (F0 m 1120 ls [])) : W p l e room_1 s m #[Value.ref bs] below meth c H locs cells slots Q (F0 m 223 ls []) := by
  obtain ⟨ρ, wN, wV, vW, vIW, C, R, hK⟩ := I0
  have hR := Cf_R C
  refine lv_aload_n hx hb dL_law_223 rfl (lv_at hl 2 rfl) ?_
  refine lv_aload_n hx hb dL_law_224 rfl (lv_at hl 3 rfl) ?_
  refine lv_iload_n hx hb dL_law_225 rfl (lv_at hl 0 rfl) ?_
  refine lv_iconst (v := 1) hx hb dL_law_226 (by decide) ?_
  refine lv_iadd hx hb dL_law_227 ?_
  refine lv_topi (fun t_ et_ => ?_)
  obtain rfl : t_ = nI (i + 1) := et_.trans (nI_add i 1)
  refine va_sld hx hb hX hbl (Nat.not_le.mpr hbl) S.2.2.2.1 (vp_in_nI (n := i + 1) (by omega) (by omega)) dL_law_228 ?_
  refine lv_topi (fun a1 ea1 => ?_)
  refine lv_aload_n hx hb dL_law_229 rfl (lv_at hl 3 rfl) ?_
  refine lv_iload_n hx hb dL_law_230 rfl (lv_at hl 0 rfl) ?_
  refine lv_iconst (v := 2) hx hb dL_law_231 (by decide) ?_
  refine lv_iadd hx hb dL_law_232 ?_
  refine lv_topi (fun t_ et_ => ?_)
  obtain rfl : t_ = nI (i + 2) := et_.trans (nI_add i 2)
  refine va_sld hx hb hX hbl (Nat.not_le.mpr hbl) S.2.2.2.1 (vp_in_nI (n := i + 2) (by omega) (by omega)) dL_law_233 ?_
  refine lv_topi (fun a2 ea2 => ?_)
  refine lv_i2l hx hb dL_law_234 rfl ?_
  refine lv_bipush (v := 32) hx hb dL_law_235 (by decide) ?_
  refine lv_lshl hx hb dL_law_237 rfl ?_
  refine lv_aload_n hx hb dL_law_238 rfl (lv_at hl 3 rfl) ?_
  refine lv_iload_n hx hb dL_law_239 rfl (lv_at hl 0 rfl) ?_
  refine lv_iconst (v := 3) hx hb dL_law_240 (by decide) ?_
  refine lv_iadd hx hb dL_law_241 ?_
  refine lv_topi (fun t_ et_ => ?_)
  obtain rfl : t_ = nI (i + 3) := et_.trans (nI_add i 3)
  refine va_sld hx hb hX hbl (Nat.not_le.mpr hbl) S.2.2.2.1 (vp_in_nI (n := i + 3) (by omega) (by omega)) dL_law_242 ?_
  refine lv_topi (fun a3 ea3 => ?_)
  refine lv_i2l hx hb dL_law_243 rfl ?_
  refine lv_ldc2 (v := (4294967295)) hx hb hown (hts (.constantLong RL 13 (4294967295)) (by decide +kernel)) dL_law_244 ?_
  refine lv_land hx hb dL_law_247 ?_
  refine lv_lor hx hb dL_law_248 ?_
  refine lv_topl (fun fs efs => ?_)
  obtain ⟨fx, m_x, e_x⟩ := Cf_x C
  refine q_vi (As := [.int a1, .long fs]) (rest := []) ⟨hx, hb, hml, hown, hts⟩ (sc_take l D C a1 fs) (cwV 2 hts gL_law_X8_take rfl rfl rfl (by decide +kernel) ⟨Nat.le_of_ble_eq_true rfl, Nat.le_of_ble_eq_true rfl⟩) S m_x e_x (T := TX8) (N := 8) rfl rfl hl.1 rfl (Nat.le_of_ble_eq_true rfl) dL_law_249 hroom (fun r1 L f H locs S w1 => ?_)
  obtain ⟨a8, wN1, wV1, h8, w1⟩ := w1
  obtain ⟨ρ, C, R⟩ := after8 R w1
  refine lv_pop hx hb dL_law_252 rfl ?_
  refine lv_aload_n hx hb dL_law_253 rfl (lv_at hl 1 rfl) ?_
  refine lv_aload_n hx hb dL_law_254 rfl (lv_at hl 3 rfl) ?_
  refine lv_iload_n hx hb dL_law_255 rfl (lv_at hl 0 rfl) ?_
  refine lv_iconst (v := 1) hx hb dL_law_256 (by decide) ?_
  refine lv_iadd hx hb dL_law_257 ?_
  refine lv_topi (fun t_ et_ => ?_)
  obtain rfl : t_ = nI (i + 1) := et_.trans (nI_add i 1)
  refine va_sld hx hb hX hbl (Nat.not_le.mpr hbl) S.2.2.2.1 (vp_in_nI (n := i + 1) (by omega) (by omega)) dL_law_258 ?_
  refine lv_topi (fun t_ et_ => ?_)
  obtain rfl : a1 = t_ := ea1.trans et_.symm
  refine lv_aload_n hx hb dL_law_259 rfl (lv_at hl 3 rfl) ?_
  refine lv_iload_n hx hb dL_law_260 rfl (lv_at hl 0 rfl) ?_
  refine lv_iconst (v := 2) hx hb dL_law_261 (by decide) ?_
  refine lv_iadd hx hb dL_law_262 ?_
  refine lv_topi (fun t_ et_ => ?_)
  obtain rfl : t_ = nI (i + 2) := et_.trans (nI_add i 2)
  refine va_sld hx hb hX hbl (Nat.not_le.mpr hbl) S.2.2.2.1 (vp_in_nI (n := i + 2) (by omega) (by omega)) dL_law_263 ?_
  refine lv_topi (fun t_ et_ => ?_)
  obtain rfl : a2 = t_ := ea2.trans et_.symm
  refine lv_i2l hx hb dL_law_264 rfl ?_
  refine lv_bipush (v := 32) hx hb dL_law_265 (by decide) ?_
  refine lv_lshl hx hb dL_law_267 rfl ?_
  refine lv_aload_n hx hb dL_law_268 rfl (lv_at hl 3 rfl) ?_
  refine lv_iload_n hx hb dL_law_269 rfl (lv_at hl 0 rfl) ?_
  refine lv_iconst (v := 3) hx hb dL_law_270 (by decide) ?_
  refine lv_iadd hx hb dL_law_271 ?_
  refine lv_topi (fun t_ et_ => ?_)
  obtain rfl : t_ = nI (i + 3) := et_.trans (nI_add i 3)
  refine va_sld hx hb hX hbl (Nat.not_le.mpr hbl) S.2.2.2.1 (vp_in_nI (n := i + 3) (by omega) (by omega)) dL_law_272 ?_
  refine lv_topi (fun t_ et_ => ?_)
  obtain rfl : a3 = t_ := ea3.trans et_.symm
  refine lv_i2l hx hb dL_law_273 rfl ?_
  refine lv_ldc2 (v := (4294967295)) hx hb hown (hts (.constantLong RL 13 (4294967295)) (by decide +kernel)) dL_law_274 ?_
  refine lv_land hx hb dL_law_277 ?_
  refine lv_lor hx hb dL_law_278 ?_
  refine lv_topl (fun t_ et_ => ?_)
  obtain rfl : fs = t_ := efs.trans et_.symm
  obtain ⟨fy, m_y, e_y⟩ := CfR_y R
  refine q_vi (As := [.int a1, .long fs]) (rest := []) ⟨hx, hb, hml, hown, hts⟩ (rc_take l D R hK hR a1 fs) (cwV 2 hts gL_law_X9_take rfl rfl rfl (by decide +kernel) ⟨Nat.le_of_ble_eq_true rfl, Nat.le_of_ble_eq_true rfl⟩) S m_y e_y (T := TX9) (N := 23) rfl rfl hl.1 rfl (Nat.le_of_ble_eq_true rfl) dL_law_279 hroom (fun r2 L f H locs S w2 => ?_)
  obtain ⟨a9, w2⟩ := w2
  obtain ⟨vW1, vIW1, hP, C, R⟩ := after9 C w2
  have hK := take_link hK hR h8 hP
  refine lv_pop hx hb dL_law_282 rfl ?_
  refine lv_goto (tgt := 1120) hx hb dL_law_283 (by decide) ?_
  exact kk _ _ _ _ S ⟨_, _, _, _, _, C, R, hK⟩
set_option maxHeartbeats 4000000 in
set_option maxRecDepth 100000 in
theorem law_2 {p : Program} {l : Launch} {e : Env} {s : State} {m : MethodId} {below : List Frame} {meth : Method} {c : Code} {bs Ls i cells slots : Nat} {xs : Nat → Int32} {D : va_G} {g : Nat → ClassId} {L : List Nat} {f : Nat → va_E} {H : Heap} {locs : List Loc} {ls : Array Slot} {x y : Nat} {Q : State → Prop} (hx : p.tables.exec = Jvm.exec) (hb : c.code = cL_law) (hml : c.maxLocals = 4) (hown : s.vm.findClass RL = some m.cls) (hts : ∀ w ∈ wsL_law, w.before #[Value.ref bs] s = true) (hX : va_X bs Ls xs s s.heap) (hbl : bs < s.heap.size) (hLs : Ls ≤ 3072) (hi : i + 6 ≤ Ls) (hroom : cells + 49 ≤ room_1.cells ∧ slots + 7472 ≤ room_1.slots) (S : PS D g (fun q : Nat => s.heap.size ≤ q) s.heap s L f H locs) (hl : lv_has ls 4 [(3, .int (nI i)), (2, .ref y), (1, .ref x), (0, .ref bs)]) (I0 : Inv g L f x y) (kk : ∀ (L : List Nat) (f : Nat → va_E) (H : Heap) (locs : List Loc), PS D g (fun q : Nat => s.heap.size ≤ q) s.heap s L f H locs → Inv g L f x y → W p l e room_1 s m #[Value.ref bs] below meth c H locs (cells + 49) (slots + 7472) Q (F0 m 1120 ls [])) : W p l e room_1 s m #[Value.ref bs] below meth c H locs cells slots Q (F0 m 286 ls []) := by
  obtain ⟨ρ, wN, wV, vW, vIW, C, R, hK⟩ := I0
  have hR := Cf_R C
  refine lv_aload_n hx hb dL_law_286 rfl (lv_at hl 2 rfl) ?_
  refine lv_aload_n hx hb dL_law_287 rfl (lv_at hl 3 rfl) ?_
  refine lv_iload_n hx hb dL_law_288 rfl (lv_at hl 0 rfl) ?_
  refine lv_iconst (v := 1) hx hb dL_law_289 (by decide) ?_
  refine lv_iadd hx hb dL_law_290 ?_
  refine lv_topi (fun t_ et_ => ?_)
  obtain rfl : t_ = nI (i + 1) := et_.trans (nI_add i 1)
  refine va_sld hx hb hX hbl (Nat.not_le.mpr hbl) S.2.2.2.1 (vp_in_nI (n := i + 1) (by omega) (by omega)) dL_law_291 ?_
  refine lv_topi (fun a1 ea1 => ?_)
  obtain ⟨fx, m_x, e_x⟩ := Cf_x C
  refine q_vi (As := [.int a1]) (rest := []) ⟨hx, hb, hml, hown, hts⟩ (sc_things l D C a1) (cwV 1 hts gL_law_X8_things rfl rfl rfl (by decide +kernel) ⟨Nat.le_of_ble_eq_true rfl, Nat.le_of_ble_eq_true rfl⟩) S m_x e_x (T := TX8) (N := 8) rfl rfl hl.1 rfl (Nat.le_of_ble_eq_true rfl) dL_law_292 hroom (fun r1 L f H locs S w1 => ?_)
  obtain ⟨a8, w1⟩ := w1
  obtain ⟨ρ, C, R⟩ := after8 R w1
  refine lv_pop hx hb dL_law_295 rfl ?_
  refine lv_aload_n hx hb dL_law_296 rfl (lv_at hl 1 rfl) ?_
  refine lv_aload_n hx hb dL_law_297 rfl (lv_at hl 3 rfl) ?_
  refine lv_iload_n hx hb dL_law_298 rfl (lv_at hl 0 rfl) ?_
  refine lv_iconst (v := 1) hx hb dL_law_299 (by decide) ?_
  refine lv_iadd hx hb dL_law_300 ?_
  refine lv_topi (fun t_ et_ => ?_)
  obtain rfl : t_ = nI (i + 1) := et_.trans (nI_add i 1)
  refine va_sld hx hb hX hbl (Nat.not_le.mpr hbl) S.2.2.2.1 (vp_in_nI (n := i + 1) (by omega) (by omega)) dL_law_301 ?_
  refine lv_topi (fun t_ et_ => ?_)
  obtain rfl : a1 = t_ := ea1.trans et_.symm
  obtain ⟨fy, m_y, e_y⟩ := CfR_y R
  refine q_vi (As := [.int a1]) (rest := []) ⟨hx, hb, hml, hown, hts⟩ (rc_things l D R a1) (cwV 1 hts gL_law_X9_things rfl rfl rfl (by decide +kernel) ⟨Nat.le_of_ble_eq_true rfl, Nat.le_of_ble_eq_true rfl⟩) S m_y e_y (T := TX9) (N := 23) rfl rfl hl.1 rfl (Nat.le_of_ble_eq_true rfl) dL_law_302 hroom (fun r2 L f H locs S w2 => ?_)
  obtain ⟨a9, w2⟩ := w2
  obtain ⟨vW1, vIW1, hP, C, R⟩ := after9 C w2
  obtain ⟨e1_, e2_⟩ := hP
  rw [e1_, e2_] at R
  refine lv_pop hx hb dL_law_305 rfl ?_
  refine lv_goto (tgt := 1120) hx hb dL_law_306 (by decide) ?_
  exact kk _ _ _ _ S ⟨_, _, _, _, _, C, R, hK⟩
set_option maxHeartbeats 4000000 in
set_option maxRecDepth 100000 in
theorem law_3 {p : Program} {l : Launch} {e : Env} {s : State} {m : MethodId} {below : List Frame} {meth : Method} {c : Code} {bs Ls i cells slots : Nat} {xs : Nat → Int32} {D : va_G} {g : Nat → ClassId} {L : List Nat} {f : Nat → va_E} {H : Heap} {locs : List Loc} {ls : Array Slot} {x y : Nat} {Q : State → Prop} (hx : p.tables.exec = Jvm.exec) (hb : c.code = cL_law) (hml : c.maxLocals = 4) (hown : s.vm.findClass RL = some m.cls) (hts : ∀ w ∈ wsL_law, w.before #[Value.ref bs] s = true) (hX : va_X bs Ls xs s s.heap) (hbl : bs < s.heap.size) (hLs : Ls ≤ 3072) (hi : i + 6 ≤ Ls) (hroom : cells + 49 ≤ room_1.cells ∧ slots + 7472 ≤ room_1.slots) (S : PS D g (fun q : Nat => s.heap.size ≤ q) s.heap s L f H locs) (hl : lv_has ls 4 [(3, .int (nI i)), (2, .ref y), (1, .ref x), (0, .ref bs)]) (I0 : Inv g L f x y) (kk : ∀ (L : List Nat) (f : Nat → va_E) (H : Heap) (locs : List Loc), PS D g (fun q : Nat => s.heap.size ≤ q) s.heap s L f H locs → Inv g L f x y → W p l e room_1 s m #[Value.ref bs] below meth c H locs (cells + 49) (slots + 7472) Q (F0 m 1120 ls [])) : W p l e room_1 s m #[Value.ref bs] below meth c H locs cells slots Q (F0 m 309 ls []) := by
  obtain ⟨ρ, wN, wV, vW, vIW, C, R, hK⟩ := I0
  have hR := Cf_R C
  refine lv_aload_n hx hb dL_law_309 rfl (lv_at hl 2 rfl) ?_
  refine lv_aload_n hx hb dL_law_310 rfl (lv_at hl 3 rfl) ?_
  refine lv_iload_n hx hb dL_law_311 rfl (lv_at hl 0 rfl) ?_
  refine lv_iconst (v := 1) hx hb dL_law_312 (by decide) ?_
  refine lv_iadd hx hb dL_law_313 ?_
  refine lv_topi (fun t_ et_ => ?_)
  obtain rfl : t_ = nI (i + 1) := et_.trans (nI_add i 1)
  refine va_sld hx hb hX hbl (Nat.not_le.mpr hbl) S.2.2.2.1 (vp_in_nI (n := i + 1) (by omega) (by omega)) dL_law_314 ?_
  refine lv_topi (fun a1 ea1 => ?_)
  refine lv_aload_n hx hb dL_law_315 rfl (lv_at hl 3 rfl) ?_
  refine lv_iload_n hx hb dL_law_316 rfl (lv_at hl 0 rfl) ?_
  refine lv_iconst (v := 2) hx hb dL_law_317 (by decide) ?_
  refine lv_iadd hx hb dL_law_318 ?_
  refine lv_topi (fun t_ et_ => ?_)
  obtain rfl : t_ = nI (i + 2) := et_.trans (nI_add i 2)
  refine va_sld hx hb hX hbl (Nat.not_le.mpr hbl) S.2.2.2.1 (vp_in_nI (n := i + 2) (by omega) (by omega)) dL_law_319 ?_
  refine lv_topi (fun a2 ea2 => ?_)
  obtain ⟨fx, m_x, e_x⟩ := Cf_x C
  refine q_vl (As := [.int a1, .int a2]) (rest := []) ⟨hx, hb, hml, hown, hts⟩ (sc_thing l D C a1 a2) (cwV 2 hts gL_law_X8_thing rfl rfl rfl (by decide +kernel) ⟨Nat.le_of_ble_eq_true rfl, Nat.le_of_ble_eq_true rfl⟩) S m_x e_x (T := TX8) (N := 8) rfl rfl hl.1 rfl (Nat.le_of_ble_eq_true rfl) dL_law_320 hroom (fun r1 L f H locs S w1 => ?_)
  obtain ⟨a8, w1⟩ := w1
  obtain ⟨ρ, C, R⟩ := after8 R w1
  refine lv_aload_n hx hb dL_law_323 rfl (lv_at hl 1 rfl) ?_
  refine lv_aload_n hx hb dL_law_324 rfl (lv_at hl 3 rfl) ?_
  refine lv_iload_n hx hb dL_law_325 rfl (lv_at hl 0 rfl) ?_
  refine lv_iconst (v := 1) hx hb dL_law_326 (by decide) ?_
  refine lv_iadd hx hb dL_law_327 ?_
  refine lv_topi (fun t_ et_ => ?_)
  obtain rfl : t_ = nI (i + 1) := et_.trans (nI_add i 1)
  refine va_sld hx hb hX hbl (Nat.not_le.mpr hbl) S.2.2.2.1 (vp_in_nI (n := i + 1) (by omega) (by omega)) dL_law_328 ?_
  refine lv_topi (fun t_ et_ => ?_)
  obtain rfl : a1 = t_ := ea1.trans et_.symm
  refine lv_aload_n hx hb dL_law_329 rfl (lv_at hl 3 rfl) ?_
  refine lv_iload_n hx hb dL_law_330 rfl (lv_at hl 0 rfl) ?_
  refine lv_iconst (v := 2) hx hb dL_law_331 (by decide) ?_
  refine lv_iadd hx hb dL_law_332 ?_
  refine lv_topi (fun t_ et_ => ?_)
  obtain rfl : t_ = nI (i + 2) := et_.trans (nI_add i 2)
  refine va_sld hx hb hX hbl (Nat.not_le.mpr hbl) S.2.2.2.1 (vp_in_nI (n := i + 2) (by omega) (by omega)) dL_law_333 ?_
  refine lv_topi (fun t_ et_ => ?_)
  obtain rfl : a2 = t_ := ea2.trans et_.symm
  obtain ⟨fy, m_y, e_y⟩ := CfR_y R
  refine q_vl (As := [.int a1, .int a2]) (rest := [.long r1]) ⟨hx, hb, hml, hown, hts⟩ (rc_thing l D R a1 a2) (cwV 2 hts gL_law_X9_thing rfl rfl rfl (by decide +kernel) ⟨Nat.le_of_ble_eq_true rfl, Nat.le_of_ble_eq_true rfl⟩) S m_y e_y (T := TX9) (N := 23) rfl rfl hl.1 rfl (Nat.le_of_ble_eq_true rfl) dL_law_334 hroom (fun r2 L f H locs S w2 => ?_)
  obtain ⟨a9, w2⟩ := w2
  obtain ⟨vW1, vIW1, hP, C, R⟩ := after9 C w2
  obtain ⟨e1_, e2_⟩ := hP
  rw [e1_, e2_] at R
  refine W.lcmp hx hb dL_law_337 ?_
  refine lv_if_eq (tgt := 1120) hx hb dL_law_338 (by decide) (fun _ => ?_) (fun q => absurd ((lg_cmp_eq _ _).mpr (thing_link hK hR a8 a9)) q)
  exact kk _ _ _ _ S ⟨_, _, _, _, _, C, R, hK⟩
set_option maxHeartbeats 4000000 in
set_option maxRecDepth 100000 in
theorem law_4 {p : Program} {l : Launch} {e : Env} {s : State} {m : MethodId} {below : List Frame} {meth : Method} {c : Code} {bs Ls i cells slots : Nat} {xs : Nat → Int32} {D : va_G} {g : Nat → ClassId} {L : List Nat} {f : Nat → va_E} {H : Heap} {locs : List Loc} {ls : Array Slot} {x y : Nat} {Q : State → Prop} (hx : p.tables.exec = Jvm.exec) (hb : c.code = cL_law) (hml : c.maxLocals = 4) (hown : s.vm.findClass RL = some m.cls) (hts : ∀ w ∈ wsL_law, w.before #[Value.ref bs] s = true) (hX : va_X bs Ls xs s s.heap) (hbl : bs < s.heap.size) (hLs : Ls ≤ 3072) (hi : i + 6 ≤ Ls) (hroom : cells + 49 ≤ room_1.cells ∧ slots + 7472 ≤ room_1.slots) (S : PS D g (fun q : Nat => s.heap.size ≤ q) s.heap s L f H locs) (hl : lv_has ls 4 [(3, .int (nI i)), (2, .ref y), (1, .ref x), (0, .ref bs)]) (I0 : Inv g L f x y) (kk : ∀ (L : List Nat) (f : Nat → va_E) (H : Heap) (locs : List Loc), PS D g (fun q : Nat => s.heap.size ≤ q) s.heap s L f H locs → Inv g L f x y → W p l e room_1 s m #[Value.ref bs] below meth c H locs (cells + 49) (slots + 7472) Q (F0 m 1120 ls [])) : W p l e room_1 s m #[Value.ref bs] below meth c H locs cells slots Q (F0 m 343 ls []) := by
  obtain ⟨ρ, wN, wV, vW, vIW, C, R, hK⟩ := I0
  have hR := Cf_R C
  refine lv_aload_n hx hb dL_law_343 rfl (lv_at hl 2 rfl) ?_
  refine lv_aload_n hx hb dL_law_344 rfl (lv_at hl 3 rfl) ?_
  refine lv_iload_n hx hb dL_law_345 rfl (lv_at hl 0 rfl) ?_
  refine lv_iconst (v := 1) hx hb dL_law_346 (by decide) ?_
  refine lv_iadd hx hb dL_law_347 ?_
  refine lv_topi (fun t_ et_ => ?_)
  obtain rfl : t_ = nI (i + 1) := et_.trans (nI_add i 1)
  refine va_sld hx hb hX hbl (Nat.not_le.mpr hbl) S.2.2.2.1 (vp_in_nI (n := i + 1) (by omega) (by omega)) dL_law_348 ?_
  refine lv_topi (fun a1 ea1 => ?_)
  refine lv_aload_n hx hb dL_law_349 rfl (lv_at hl 3 rfl) ?_
  refine lv_iload_n hx hb dL_law_350 rfl (lv_at hl 0 rfl) ?_
  refine lv_iconst (v := 2) hx hb dL_law_351 (by decide) ?_
  refine lv_iadd hx hb dL_law_352 ?_
  refine lv_topi (fun t_ et_ => ?_)
  obtain rfl : t_ = nI (i + 2) := et_.trans (nI_add i 2)
  refine va_sld hx hb hX hbl (Nat.not_le.mpr hbl) S.2.2.2.1 (vp_in_nI (n := i + 2) (by omega) (by omega)) dL_law_353 ?_
  refine lv_topi (fun a2 ea2 => ?_)
  refine lv_aload_n hx hb dL_law_354 rfl (lv_at hl 3 rfl) ?_
  refine lv_iload_n hx hb dL_law_355 rfl (lv_at hl 0 rfl) ?_
  refine lv_iconst (v := 3) hx hb dL_law_356 (by decide) ?_
  refine lv_iadd hx hb dL_law_357 ?_
  refine lv_topi (fun t_ et_ => ?_)
  obtain rfl : t_ = nI (i + 3) := et_.trans (nI_add i 3)
  refine va_sld hx hb hX hbl (Nat.not_le.mpr hbl) S.2.2.2.1 (vp_in_nI (n := i + 3) (by omega) (by omega)) dL_law_358 ?_
  refine lv_topi (fun a3 ea3 => ?_)
  refine lv_aload_n hx hb dL_law_359 rfl (lv_at hl 3 rfl) ?_
  refine lv_iload_n hx hb dL_law_360 rfl (lv_at hl 0 rfl) ?_
  refine lv_iconst (v := 4) hx hb dL_law_361 (by decide) ?_
  refine lv_iadd hx hb dL_law_362 ?_
  refine lv_topi (fun t_ et_ => ?_)
  obtain rfl : t_ = nI (i + 4) := et_.trans (nI_add i 4)
  refine va_sld hx hb hX hbl (Nat.not_le.mpr hbl) S.2.2.2.1 (vp_in_nI (n := i + 4) (by omega) (by omega)) dL_law_363 ?_
  refine lv_topi (fun a4 ea4 => ?_)
  obtain ⟨fx, m_x, e_x⟩ := Cf_x C
  refine q_vi (As := [.int a1, .int a2, .int a3, .int a4]) (rest := []) ⟨hx, hb, hml, hown, hts⟩ (sc_make l D C a1 a2 a3 a4) (cwV 4 hts gL_law_X8_make rfl rfl rfl (by decide +kernel) ⟨Nat.le_of_ble_eq_true rfl, Nat.le_of_ble_eq_true rfl⟩) S m_x e_x (T := TX8) (N := 8) rfl rfl hl.1 rfl (Nat.le_of_ble_eq_true rfl) dL_law_364 hroom (fun r1 L f H locs S w1 => ?_)
  obtain ⟨ρ, C, R⟩ := after8 R w1
  refine lv_pop hx hb dL_law_367 rfl ?_
  refine lv_aload_n hx hb dL_law_368 rfl (lv_at hl 1 rfl) ?_
  refine lv_aload_n hx hb dL_law_369 rfl (lv_at hl 3 rfl) ?_
  refine lv_iload_n hx hb dL_law_370 rfl (lv_at hl 0 rfl) ?_
  refine lv_iconst (v := 1) hx hb dL_law_371 (by decide) ?_
  refine lv_iadd hx hb dL_law_372 ?_
  refine lv_topi (fun t_ et_ => ?_)
  obtain rfl : t_ = nI (i + 1) := et_.trans (nI_add i 1)
  refine va_sld hx hb hX hbl (Nat.not_le.mpr hbl) S.2.2.2.1 (vp_in_nI (n := i + 1) (by omega) (by omega)) dL_law_373 ?_
  refine lv_topi (fun t_ et_ => ?_)
  obtain rfl : a1 = t_ := ea1.trans et_.symm
  refine lv_aload_n hx hb dL_law_374 rfl (lv_at hl 3 rfl) ?_
  refine lv_iload_n hx hb dL_law_375 rfl (lv_at hl 0 rfl) ?_
  refine lv_iconst (v := 2) hx hb dL_law_376 (by decide) ?_
  refine lv_iadd hx hb dL_law_377 ?_
  refine lv_topi (fun t_ et_ => ?_)
  obtain rfl : t_ = nI (i + 2) := et_.trans (nI_add i 2)
  refine va_sld hx hb hX hbl (Nat.not_le.mpr hbl) S.2.2.2.1 (vp_in_nI (n := i + 2) (by omega) (by omega)) dL_law_378 ?_
  refine lv_topi (fun t_ et_ => ?_)
  obtain rfl : a2 = t_ := ea2.trans et_.symm
  refine lv_aload_n hx hb dL_law_379 rfl (lv_at hl 3 rfl) ?_
  refine lv_iload_n hx hb dL_law_380 rfl (lv_at hl 0 rfl) ?_
  refine lv_iconst (v := 3) hx hb dL_law_381 (by decide) ?_
  refine lv_iadd hx hb dL_law_382 ?_
  refine lv_topi (fun t_ et_ => ?_)
  obtain rfl : t_ = nI (i + 3) := et_.trans (nI_add i 3)
  refine va_sld hx hb hX hbl (Nat.not_le.mpr hbl) S.2.2.2.1 (vp_in_nI (n := i + 3) (by omega) (by omega)) dL_law_383 ?_
  refine lv_topi (fun t_ et_ => ?_)
  obtain rfl : a3 = t_ := ea3.trans et_.symm
  refine lv_aload_n hx hb dL_law_384 rfl (lv_at hl 3 rfl) ?_
  refine lv_iload_n hx hb dL_law_385 rfl (lv_at hl 0 rfl) ?_
  refine lv_iconst (v := 4) hx hb dL_law_386 (by decide) ?_
  refine lv_iadd hx hb dL_law_387 ?_
  refine lv_topi (fun t_ et_ => ?_)
  obtain rfl : t_ = nI (i + 4) := et_.trans (nI_add i 4)
  refine va_sld hx hb hX hbl (Nat.not_le.mpr hbl) S.2.2.2.1 (vp_in_nI (n := i + 4) (by omega) (by omega)) dL_law_388 ?_
  refine lv_topi (fun t_ et_ => ?_)
  obtain rfl : a4 = t_ := ea4.trans et_.symm
  obtain ⟨fy, m_y, e_y⟩ := CfR_y R
  refine q_vi (As := [.int a1, .int a2, .int a3, .int a4]) (rest := []) ⟨hx, hb, hml, hown, hts⟩ (rc_make l D R a1 a2 a3 a4) (cwV 4 hts gL_law_X9_make rfl rfl rfl (by decide +kernel) ⟨Nat.le_of_ble_eq_true rfl, Nat.le_of_ble_eq_true rfl⟩) S m_y e_y (T := TX9) (N := 23) rfl rfl hl.1 rfl (Nat.le_of_ble_eq_true rfl) dL_law_389 hroom (fun r2 L f H locs S w2 => ?_)
  obtain ⟨vW1, vIW1, hP, C, R⟩ := after9 C w2
  obtain ⟨e1_, e2_⟩ := hP
  rw [e1_, e2_] at R
  refine lv_pop hx hb dL_law_392 rfl ?_
  refine lv_goto (tgt := 1120) hx hb dL_law_393 (by decide) ?_
  exact kk _ _ _ _ S ⟨_, _, _, _, _, C, R, hK⟩
set_option maxHeartbeats 4000000 in
set_option maxRecDepth 100000 in
theorem law_5 {p : Program} {l : Launch} {e : Env} {s : State} {m : MethodId} {below : List Frame} {meth : Method} {c : Code} {bs Ls i cells slots : Nat} {xs : Nat → Int32} {D : va_G} {g : Nat → ClassId} {L : List Nat} {f : Nat → va_E} {H : Heap} {locs : List Loc} {ls : Array Slot} {x y : Nat} {Q : State → Prop} (hx : p.tables.exec = Jvm.exec) (hb : c.code = cL_law) (hml : c.maxLocals = 4) (hown : s.vm.findClass RL = some m.cls) (hts : ∀ w ∈ wsL_law, w.before #[Value.ref bs] s = true) (hX : va_X bs Ls xs s s.heap) (hbl : bs < s.heap.size) (hLs : Ls ≤ 3072) (hi : i + 6 ≤ Ls) (hroom : cells + 49 ≤ room_1.cells ∧ slots + 7472 ≤ room_1.slots) (S : PS D g (fun q : Nat => s.heap.size ≤ q) s.heap s L f H locs) (hl : lv_has ls 4 [(3, .int (nI i)), (2, .ref y), (1, .ref x), (0, .ref bs)]) (I0 : Inv g L f x y) (kk : ∀ (L : List Nat) (f : Nat → va_E) (H : Heap) (locs : List Loc), PS D g (fun q : Nat => s.heap.size ≤ q) s.heap s L f H locs → Inv g L f x y → W p l e room_1 s m #[Value.ref bs] below meth c H locs (cells + 49) (slots + 7472) Q (F0 m 1120 ls [])) : W p l e room_1 s m #[Value.ref bs] below meth c H locs cells slots Q (F0 m 396 ls []) := by
  obtain ⟨ρ, wN, wV, vW, vIW, C, R, hK⟩ := I0
  have hR := Cf_R C
  refine lv_aload_n hx hb dL_law_396 rfl (lv_at hl 2 rfl) ?_
  refine lv_aload_n hx hb dL_law_397 rfl (lv_at hl 3 rfl) ?_
  refine lv_iload_n hx hb dL_law_398 rfl (lv_at hl 0 rfl) ?_
  refine lv_iconst (v := 1) hx hb dL_law_399 (by decide) ?_
  refine lv_iadd hx hb dL_law_400 ?_
  refine lv_topi (fun t_ et_ => ?_)
  obtain rfl : t_ = nI (i + 1) := et_.trans (nI_add i 1)
  refine va_sld hx hb hX hbl (Nat.not_le.mpr hbl) S.2.2.2.1 (vp_in_nI (n := i + 1) (by omega) (by omega)) dL_law_401 ?_
  refine lv_topi (fun a1 ea1 => ?_)
  refine lv_aload_n hx hb dL_law_402 rfl (lv_at hl 3 rfl) ?_
  refine lv_iload_n hx hb dL_law_403 rfl (lv_at hl 0 rfl) ?_
  refine lv_iconst (v := 2) hx hb dL_law_404 (by decide) ?_
  refine lv_iadd hx hb dL_law_405 ?_
  refine lv_topi (fun t_ et_ => ?_)
  obtain rfl : t_ = nI (i + 2) := et_.trans (nI_add i 2)
  refine va_sld hx hb hX hbl (Nat.not_le.mpr hbl) S.2.2.2.1 (vp_in_nI (n := i + 2) (by omega) (by omega)) dL_law_406 ?_
  refine lv_topi (fun a2 ea2 => ?_)
  obtain ⟨fx, m_x, e_x⟩ := Cf_x C
  refine q_vi (As := [.int a1, .int a2]) (rest := []) ⟨hx, hb, hml, hown, hts⟩ (sc_solve l D C a1 a2) (cwV 2 hts gL_law_X8_solve rfl rfl rfl (by decide +kernel) ⟨Nat.le_of_ble_eq_true rfl, Nat.le_of_ble_eq_true rfl⟩) S m_x e_x (T := TX8) (N := 8) rfl rfl hl.1 rfl (Nat.le_of_ble_eq_true rfl) dL_law_407 hroom (fun r1 L f H locs S w1 => ?_)
  obtain ⟨ρ, C, R⟩ := after8 R w1
  refine lv_pop hx hb dL_law_410 rfl ?_
  refine lv_aload_n hx hb dL_law_411 rfl (lv_at hl 1 rfl) ?_
  refine lv_aload_n hx hb dL_law_412 rfl (lv_at hl 3 rfl) ?_
  refine lv_iload_n hx hb dL_law_413 rfl (lv_at hl 0 rfl) ?_
  refine lv_iconst (v := 1) hx hb dL_law_414 (by decide) ?_
  refine lv_iadd hx hb dL_law_415 ?_
  refine lv_topi (fun t_ et_ => ?_)
  obtain rfl : t_ = nI (i + 1) := et_.trans (nI_add i 1)
  refine va_sld hx hb hX hbl (Nat.not_le.mpr hbl) S.2.2.2.1 (vp_in_nI (n := i + 1) (by omega) (by omega)) dL_law_416 ?_
  refine lv_topi (fun t_ et_ => ?_)
  obtain rfl : a1 = t_ := ea1.trans et_.symm
  refine lv_aload_n hx hb dL_law_417 rfl (lv_at hl 3 rfl) ?_
  refine lv_iload_n hx hb dL_law_418 rfl (lv_at hl 0 rfl) ?_
  refine lv_iconst (v := 2) hx hb dL_law_419 (by decide) ?_
  refine lv_iadd hx hb dL_law_420 ?_
  refine lv_topi (fun t_ et_ => ?_)
  obtain rfl : t_ = nI (i + 2) := et_.trans (nI_add i 2)
  refine va_sld hx hb hX hbl (Nat.not_le.mpr hbl) S.2.2.2.1 (vp_in_nI (n := i + 2) (by omega) (by omega)) dL_law_421 ?_
  refine lv_topi (fun t_ et_ => ?_)
  obtain rfl : a2 = t_ := ea2.trans et_.symm
  obtain ⟨fy, m_y, e_y⟩ := CfR_y R
  refine q_vi (As := [.int a1, .int a2]) (rest := []) ⟨hx, hb, hml, hown, hts⟩ (rc_solve l D R a1 a2) (cwV 2 hts gL_law_X9_solve rfl rfl rfl (by decide +kernel) ⟨Nat.le_of_ble_eq_true rfl, Nat.le_of_ble_eq_true rfl⟩) S m_y e_y (T := TX9) (N := 23) rfl rfl hl.1 rfl (Nat.le_of_ble_eq_true rfl) dL_law_422 hroom (fun r2 L f H locs S w2 => ?_)
  obtain ⟨vW1, vIW1, hP, C, R⟩ := after9 C w2
  obtain ⟨e1_, e2_⟩ := hP
  rw [e1_, e2_] at R
  refine lv_pop hx hb dL_law_425 rfl ?_
  refine lv_goto (tgt := 1120) hx hb dL_law_426 (by decide) ?_
  exact kk _ _ _ _ S ⟨_, _, _, _, _, C, R, hK⟩
set_option maxHeartbeats 4000000 in
set_option maxRecDepth 100000 in
theorem law_6 {p : Program} {l : Launch} {e : Env} {s : State} {m : MethodId} {below : List Frame} {meth : Method} {c : Code} {bs Ls i cells slots : Nat} {xs : Nat → Int32} {D : va_G} {g : Nat → ClassId} {L : List Nat} {f : Nat → va_E} {H : Heap} {locs : List Loc} {ls : Array Slot} {x y : Nat} {Q : State → Prop} (hx : p.tables.exec = Jvm.exec) (hb : c.code = cL_law) (hml : c.maxLocals = 4) (hown : s.vm.findClass RL = some m.cls) (hts : ∀ w ∈ wsL_law, w.before #[Value.ref bs] s = true) (hX : va_X bs Ls xs s s.heap) (hbl : bs < s.heap.size) (hLs : Ls ≤ 3072) (hi : i + 6 ≤ Ls) (hroom : cells + 49 ≤ room_1.cells ∧ slots + 7472 ≤ room_1.slots) (S : PS D g (fun q : Nat => s.heap.size ≤ q) s.heap s L f H locs) (hl : lv_has ls 4 [(3, .int (nI i)), (2, .ref y), (1, .ref x), (0, .ref bs)]) (I0 : Inv g L f x y) (kk : ∀ (L : List Nat) (f : Nat → va_E) (H : Heap) (locs : List Loc), PS D g (fun q : Nat => s.heap.size ≤ q) s.heap s L f H locs → Inv g L f x y → W p l e room_1 s m #[Value.ref bs] below meth c H locs (cells + 49) (slots + 7472) Q (F0 m 1120 ls [])) : W p l e room_1 s m #[Value.ref bs] below meth c H locs cells slots Q (F0 m 429 ls []) := by
  obtain ⟨ρ, wN, wV, vW, vIW, C, R, hK⟩ := I0
  have hR := Cf_R C
  refine lv_aload_n hx hb dL_law_429 rfl (lv_at hl 2 rfl) ?_
  refine lv_aload_n hx hb dL_law_430 rfl (lv_at hl 3 rfl) ?_
  refine lv_iload_n hx hb dL_law_431 rfl (lv_at hl 0 rfl) ?_
  refine lv_iconst (v := 1) hx hb dL_law_432 (by decide) ?_
  refine lv_iadd hx hb dL_law_433 ?_
  refine lv_topi (fun t_ et_ => ?_)
  obtain rfl : t_ = nI (i + 1) := et_.trans (nI_add i 1)
  refine va_sld hx hb hX hbl (Nat.not_le.mpr hbl) S.2.2.2.1 (vp_in_nI (n := i + 1) (by omega) (by omega)) dL_law_434 ?_
  refine lv_topi (fun a1 ea1 => ?_)
  refine lv_aload_n hx hb dL_law_435 rfl (lv_at hl 3 rfl) ?_
  refine lv_iload_n hx hb dL_law_436 rfl (lv_at hl 0 rfl) ?_
  refine lv_iconst (v := 2) hx hb dL_law_437 (by decide) ?_
  refine lv_iadd hx hb dL_law_438 ?_
  refine lv_topi (fun t_ et_ => ?_)
  obtain rfl : t_ = nI (i + 2) := et_.trans (nI_add i 2)
  refine va_sld hx hb hX hbl (Nat.not_le.mpr hbl) S.2.2.2.1 (vp_in_nI (n := i + 2) (by omega) (by omega)) dL_law_439 ?_
  refine lv_topi (fun a2 ea2 => ?_)
  refine lv_aload_n hx hb dL_law_440 rfl (lv_at hl 3 rfl) ?_
  refine lv_iload_n hx hb dL_law_441 rfl (lv_at hl 0 rfl) ?_
  refine lv_iconst (v := 3) hx hb dL_law_442 (by decide) ?_
  refine lv_iadd hx hb dL_law_443 ?_
  refine lv_topi (fun t_ et_ => ?_)
  obtain rfl : t_ = nI (i + 3) := et_.trans (nI_add i 3)
  refine va_sld hx hb hX hbl (Nat.not_le.mpr hbl) S.2.2.2.1 (vp_in_nI (n := i + 3) (by omega) (by omega)) dL_law_444 ?_
  refine lv_topi (fun a3 ea3 => ?_)
  obtain ⟨fx, m_x, e_x⟩ := Cf_x C
  refine q_vi (As := [.int a1, .int a2, .int a3]) (rest := []) ⟨hx, hb, hml, hown, hts⟩ (sc_layered l D C a1 a2 a3) (cwV 3 hts gL_law_X8_layered rfl rfl rfl (by decide +kernel) ⟨Nat.le_of_ble_eq_true rfl, Nat.le_of_ble_eq_true rfl⟩) S m_x e_x (T := TX8) (N := 8) rfl rfl hl.1 rfl (Nat.le_of_ble_eq_true rfl) dL_law_445 hroom (fun r1 L f H locs S w1 => ?_)
  obtain ⟨ρ, C, R⟩ := after8 R w1
  refine lv_pop hx hb dL_law_448 rfl ?_
  refine lv_aload_n hx hb dL_law_449 rfl (lv_at hl 1 rfl) ?_
  refine lv_aload_n hx hb dL_law_450 rfl (lv_at hl 3 rfl) ?_
  refine lv_iload_n hx hb dL_law_451 rfl (lv_at hl 0 rfl) ?_
  refine lv_iconst (v := 1) hx hb dL_law_452 (by decide) ?_
  refine lv_iadd hx hb dL_law_453 ?_
  refine lv_topi (fun t_ et_ => ?_)
  obtain rfl : t_ = nI (i + 1) := et_.trans (nI_add i 1)
  refine va_sld hx hb hX hbl (Nat.not_le.mpr hbl) S.2.2.2.1 (vp_in_nI (n := i + 1) (by omega) (by omega)) dL_law_454 ?_
  refine lv_topi (fun t_ et_ => ?_)
  obtain rfl : a1 = t_ := ea1.trans et_.symm
  refine lv_aload_n hx hb dL_law_455 rfl (lv_at hl 3 rfl) ?_
  refine lv_iload_n hx hb dL_law_456 rfl (lv_at hl 0 rfl) ?_
  refine lv_iconst (v := 2) hx hb dL_law_457 (by decide) ?_
  refine lv_iadd hx hb dL_law_458 ?_
  refine lv_topi (fun t_ et_ => ?_)
  obtain rfl : t_ = nI (i + 2) := et_.trans (nI_add i 2)
  refine va_sld hx hb hX hbl (Nat.not_le.mpr hbl) S.2.2.2.1 (vp_in_nI (n := i + 2) (by omega) (by omega)) dL_law_459 ?_
  refine lv_topi (fun t_ et_ => ?_)
  obtain rfl : a2 = t_ := ea2.trans et_.symm
  refine lv_aload_n hx hb dL_law_460 rfl (lv_at hl 3 rfl) ?_
  refine lv_iload_n hx hb dL_law_461 rfl (lv_at hl 0 rfl) ?_
  refine lv_iconst (v := 3) hx hb dL_law_462 (by decide) ?_
  refine lv_iadd hx hb dL_law_463 ?_
  refine lv_topi (fun t_ et_ => ?_)
  obtain rfl : t_ = nI (i + 3) := et_.trans (nI_add i 3)
  refine va_sld hx hb hX hbl (Nat.not_le.mpr hbl) S.2.2.2.1 (vp_in_nI (n := i + 3) (by omega) (by omega)) dL_law_464 ?_
  refine lv_topi (fun t_ et_ => ?_)
  obtain rfl : a3 = t_ := ea3.trans et_.symm
  obtain ⟨fy, m_y, e_y⟩ := CfR_y R
  refine q_vi (As := [.int a1, .int a2, .int a3]) (rest := []) ⟨hx, hb, hml, hown, hts⟩ (rc_layered l D R a1 a2 a3) (cwV 3 hts gL_law_X9_layered rfl rfl rfl (by decide +kernel) ⟨Nat.le_of_ble_eq_true rfl, Nat.le_of_ble_eq_true rfl⟩) S m_y e_y (T := TX9) (N := 23) rfl rfl hl.1 rfl (Nat.le_of_ble_eq_true rfl) dL_law_465 hroom (fun r2 L f H locs S w2 => ?_)
  obtain ⟨vW1, vIW1, hP, C, R⟩ := after9 C w2
  obtain ⟨e1_, e2_⟩ := hP
  rw [e1_, e2_] at R
  refine lv_pop hx hb dL_law_468 rfl ?_
  refine lv_goto (tgt := 1120) hx hb dL_law_469 (by decide) ?_
  exact kk _ _ _ _ S ⟨_, _, _, _, _, C, R, hK⟩
set_option maxHeartbeats 4000000 in
set_option maxRecDepth 100000 in
theorem law_7 {p : Program} {l : Launch} {e : Env} {s : State} {m : MethodId} {below : List Frame} {meth : Method} {c : Code} {bs Ls i cells slots : Nat} {xs : Nat → Int32} {D : va_G} {g : Nat → ClassId} {L : List Nat} {f : Nat → va_E} {H : Heap} {locs : List Loc} {ls : Array Slot} {x y : Nat} {Q : State → Prop} (hx : p.tables.exec = Jvm.exec) (hb : c.code = cL_law) (hml : c.maxLocals = 4) (hown : s.vm.findClass RL = some m.cls) (hts : ∀ w ∈ wsL_law, w.before #[Value.ref bs] s = true) (hX : va_X bs Ls xs s s.heap) (hbl : bs < s.heap.size) (hLs : Ls ≤ 3072) (hi : i + 6 ≤ Ls) (hroom : cells + 49 ≤ room_1.cells ∧ slots + 7472 ≤ room_1.slots) (S : PS D g (fun q : Nat => s.heap.size ≤ q) s.heap s L f H locs) (hl : lv_has ls 4 [(3, .int (nI i)), (2, .ref y), (1, .ref x), (0, .ref bs)]) (I0 : Inv g L f x y) (kk : ∀ (L : List Nat) (f : Nat → va_E) (H : Heap) (locs : List Loc), PS D g (fun q : Nat => s.heap.size ≤ q) s.heap s L f H locs → Inv g L f x y → W p l e room_1 s m #[Value.ref bs] below meth c H locs (cells + 49) (slots + 7472) Q (F0 m 1120 ls [])) : W p l e room_1 s m #[Value.ref bs] below meth c H locs cells slots Q (F0 m 472 ls []) := by
  obtain ⟨ρ, wN, wV, vW, vIW, C, R, hK⟩ := I0
  have hR := Cf_R C
  refine lv_aload_n hx hb dL_law_472 rfl (lv_at hl 2 rfl) ?_
  refine lv_aload_n hx hb dL_law_473 rfl (lv_at hl 3 rfl) ?_
  refine lv_iload_n hx hb dL_law_474 rfl (lv_at hl 0 rfl) ?_
  refine lv_iconst (v := 1) hx hb dL_law_475 (by decide) ?_
  refine lv_iadd hx hb dL_law_476 ?_
  refine lv_topi (fun t_ et_ => ?_)
  obtain rfl : t_ = nI (i + 1) := et_.trans (nI_add i 1)
  refine va_sld hx hb hX hbl (Nat.not_le.mpr hbl) S.2.2.2.1 (vp_in_nI (n := i + 1) (by omega) (by omega)) dL_law_477 ?_
  refine lv_topi (fun a1 ea1 => ?_)
  refine lv_aload_n hx hb dL_law_478 rfl (lv_at hl 3 rfl) ?_
  refine lv_iload_n hx hb dL_law_479 rfl (lv_at hl 0 rfl) ?_
  refine lv_iconst (v := 2) hx hb dL_law_480 (by decide) ?_
  refine lv_iadd hx hb dL_law_481 ?_
  refine lv_topi (fun t_ et_ => ?_)
  obtain rfl : t_ = nI (i + 2) := et_.trans (nI_add i 2)
  refine va_sld hx hb hX hbl (Nat.not_le.mpr hbl) S.2.2.2.1 (vp_in_nI (n := i + 2) (by omega) (by omega)) dL_law_482 ?_
  refine lv_topi (fun a2 ea2 => ?_)
  refine lv_i2l hx hb dL_law_483 rfl ?_
  refine lv_bipush (v := 32) hx hb dL_law_484 (by decide) ?_
  refine lv_lshl hx hb dL_law_486 rfl ?_
  refine lv_aload_n hx hb dL_law_487 rfl (lv_at hl 3 rfl) ?_
  refine lv_iload_n hx hb dL_law_488 rfl (lv_at hl 0 rfl) ?_
  refine lv_iconst (v := 3) hx hb dL_law_489 (by decide) ?_
  refine lv_iadd hx hb dL_law_490 ?_
  refine lv_topi (fun t_ et_ => ?_)
  obtain rfl : t_ = nI (i + 3) := et_.trans (nI_add i 3)
  refine va_sld hx hb hX hbl (Nat.not_le.mpr hbl) S.2.2.2.1 (vp_in_nI (n := i + 3) (by omega) (by omega)) dL_law_491 ?_
  refine lv_topi (fun a3 ea3 => ?_)
  refine lv_i2l hx hb dL_law_492 rfl ?_
  refine lv_ldc2 (v := (4294967295)) hx hb hown (hts (.constantLong RL 13 (4294967295)) (by decide +kernel)) dL_law_493 ?_
  refine lv_land hx hb dL_law_496 ?_
  refine lv_lor hx hb dL_law_497 ?_
  refine lv_topl (fun fs efs => ?_)
  obtain ⟨fx, m_x, e_x⟩ := Cf_x C
  refine q_vi (As := [.int a1, .long fs]) (rest := []) ⟨hx, hb, hml, hown, hts⟩ (sc_put l D C a1 fs) (cwV 2 hts gL_law_X8_put rfl rfl rfl (by decide +kernel) ⟨Nat.le_of_ble_eq_true rfl, Nat.le_of_ble_eq_true rfl⟩) S m_x e_x (T := TX8) (N := 8) rfl rfl hl.1 rfl (Nat.le_of_ble_eq_true rfl) dL_law_498 hroom (fun r1 L f H locs S w1 => ?_)
  obtain ⟨ρ, C, R⟩ := after8 R w1
  refine lv_pop hx hb dL_law_501 rfl ?_
  refine lv_aload_n hx hb dL_law_502 rfl (lv_at hl 1 rfl) ?_
  refine lv_aload_n hx hb dL_law_503 rfl (lv_at hl 3 rfl) ?_
  refine lv_iload_n hx hb dL_law_504 rfl (lv_at hl 0 rfl) ?_
  refine lv_iconst (v := 1) hx hb dL_law_505 (by decide) ?_
  refine lv_iadd hx hb dL_law_506 ?_
  refine lv_topi (fun t_ et_ => ?_)
  obtain rfl : t_ = nI (i + 1) := et_.trans (nI_add i 1)
  refine va_sld hx hb hX hbl (Nat.not_le.mpr hbl) S.2.2.2.1 (vp_in_nI (n := i + 1) (by omega) (by omega)) dL_law_507 ?_
  refine lv_topi (fun t_ et_ => ?_)
  obtain rfl : a1 = t_ := ea1.trans et_.symm
  refine lv_aload_n hx hb dL_law_508 rfl (lv_at hl 3 rfl) ?_
  refine lv_iload_n hx hb dL_law_509 rfl (lv_at hl 0 rfl) ?_
  refine lv_iconst (v := 2) hx hb dL_law_510 (by decide) ?_
  refine lv_iadd hx hb dL_law_511 ?_
  refine lv_topi (fun t_ et_ => ?_)
  obtain rfl : t_ = nI (i + 2) := et_.trans (nI_add i 2)
  refine va_sld hx hb hX hbl (Nat.not_le.mpr hbl) S.2.2.2.1 (vp_in_nI (n := i + 2) (by omega) (by omega)) dL_law_512 ?_
  refine lv_topi (fun t_ et_ => ?_)
  obtain rfl : a2 = t_ := ea2.trans et_.symm
  refine lv_i2l hx hb dL_law_513 rfl ?_
  refine lv_bipush (v := 32) hx hb dL_law_514 (by decide) ?_
  refine lv_lshl hx hb dL_law_516 rfl ?_
  refine lv_aload_n hx hb dL_law_517 rfl (lv_at hl 3 rfl) ?_
  refine lv_iload_n hx hb dL_law_518 rfl (lv_at hl 0 rfl) ?_
  refine lv_iconst (v := 3) hx hb dL_law_519 (by decide) ?_
  refine lv_iadd hx hb dL_law_520 ?_
  refine lv_topi (fun t_ et_ => ?_)
  obtain rfl : t_ = nI (i + 3) := et_.trans (nI_add i 3)
  refine va_sld hx hb hX hbl (Nat.not_le.mpr hbl) S.2.2.2.1 (vp_in_nI (n := i + 3) (by omega) (by omega)) dL_law_521 ?_
  refine lv_topi (fun t_ et_ => ?_)
  obtain rfl : a3 = t_ := ea3.trans et_.symm
  refine lv_i2l hx hb dL_law_522 rfl ?_
  refine lv_ldc2 (v := (4294967295)) hx hb hown (hts (.constantLong RL 13 (4294967295)) (by decide +kernel)) dL_law_523 ?_
  refine lv_land hx hb dL_law_526 ?_
  refine lv_lor hx hb dL_law_527 ?_
  refine lv_topl (fun t_ et_ => ?_)
  obtain rfl : fs = t_ := efs.trans et_.symm
  obtain ⟨fy, m_y, e_y⟩ := CfR_y R
  refine q_vi (As := [.int a1, .long fs]) (rest := []) ⟨hx, hb, hml, hown, hts⟩ (rc_put l D R a1 fs) (cwV 2 hts gL_law_X9_put rfl rfl rfl (by decide +kernel) ⟨Nat.le_of_ble_eq_true rfl, Nat.le_of_ble_eq_true rfl⟩) S m_y e_y (T := TX9) (N := 23) rfl rfl hl.1 rfl (Nat.le_of_ble_eq_true rfl) dL_law_528 hroom (fun r2 L f H locs S w2 => ?_)
  obtain ⟨vW1, vIW1, hP, C, R⟩ := after9 C w2
  obtain ⟨e1_, e2_⟩ := hP
  rw [e1_, e2_] at R
  refine lv_pop hx hb dL_law_531 rfl ?_
  refine lv_goto (tgt := 1120) hx hb dL_law_532 (by decide) ?_
  exact kk _ _ _ _ S ⟨_, _, _, _, _, C, R, hK⟩
set_option maxHeartbeats 4000000 in
set_option maxRecDepth 100000 in
theorem law_8 {p : Program} {l : Launch} {e : Env} {s : State} {m : MethodId} {below : List Frame} {meth : Method} {c : Code} {bs Ls i cells slots : Nat} {xs : Nat → Int32} {D : va_G} {g : Nat → ClassId} {L : List Nat} {f : Nat → va_E} {H : Heap} {locs : List Loc} {ls : Array Slot} {x y : Nat} {Q : State → Prop} (hx : p.tables.exec = Jvm.exec) (hb : c.code = cL_law) (hml : c.maxLocals = 4) (hown : s.vm.findClass RL = some m.cls) (hts : ∀ w ∈ wsL_law, w.before #[Value.ref bs] s = true) (hX : va_X bs Ls xs s s.heap) (hbl : bs < s.heap.size) (hLs : Ls ≤ 3072) (hi : i + 6 ≤ Ls) (hroom : cells + 49 ≤ room_1.cells ∧ slots + 7472 ≤ room_1.slots) (S : PS D g (fun q : Nat => s.heap.size ≤ q) s.heap s L f H locs) (hl : lv_has ls 4 [(3, .int (nI i)), (2, .ref y), (1, .ref x), (0, .ref bs)]) (I0 : Inv g L f x y) (kk : ∀ (L : List Nat) (f : Nat → va_E) (H : Heap) (locs : List Loc), PS D g (fun q : Nat => s.heap.size ≤ q) s.heap s L f H locs → Inv g L f x y → W p l e room_1 s m #[Value.ref bs] below meth c H locs (cells + 49) (slots + 7472) Q (F0 m 1120 ls [])) : W p l e room_1 s m #[Value.ref bs] below meth c H locs cells slots Q (F0 m 535 ls []) := by
  obtain ⟨ρ, wN, wV, vW, vIW, C, R, hK⟩ := I0
  have hR := Cf_R C
  refine lv_aload_n hx hb dL_law_535 rfl (lv_at hl 2 rfl) ?_
  refine lv_aload_n hx hb dL_law_536 rfl (lv_at hl 3 rfl) ?_
  refine lv_iload_n hx hb dL_law_537 rfl (lv_at hl 0 rfl) ?_
  refine lv_iconst (v := 1) hx hb dL_law_538 (by decide) ?_
  refine lv_iadd hx hb dL_law_539 ?_
  refine lv_topi (fun t_ et_ => ?_)
  obtain rfl : t_ = nI (i + 1) := et_.trans (nI_add i 1)
  refine va_sld hx hb hX hbl (Nat.not_le.mpr hbl) S.2.2.2.1 (vp_in_nI (n := i + 1) (by omega) (by omega)) dL_law_540 ?_
  refine lv_topi (fun a1 ea1 => ?_)
  refine lv_aload_n hx hb dL_law_541 rfl (lv_at hl 3 rfl) ?_
  refine lv_iload_n hx hb dL_law_542 rfl (lv_at hl 0 rfl) ?_
  refine lv_iconst (v := 2) hx hb dL_law_543 (by decide) ?_
  refine lv_iadd hx hb dL_law_544 ?_
  refine lv_topi (fun t_ et_ => ?_)
  obtain rfl : t_ = nI (i + 2) := et_.trans (nI_add i 2)
  refine va_sld hx hb hX hbl (Nat.not_le.mpr hbl) S.2.2.2.1 (vp_in_nI (n := i + 2) (by omega) (by omega)) dL_law_545 ?_
  refine lv_topi (fun a2 ea2 => ?_)
  obtain ⟨fx, m_x, e_x⟩ := Cf_x C
  refine q_vi (As := [.int a1, .int a2]) (rest := []) ⟨hx, hb, hml, hown, hts⟩ (sc_putAll l D C a1 a2) (cwV 2 hts gL_law_X8_putAll rfl rfl rfl (by decide +kernel) ⟨Nat.le_of_ble_eq_true rfl, Nat.le_of_ble_eq_true rfl⟩) S m_x e_x (T := TX8) (N := 8) rfl rfl hl.1 rfl (Nat.le_of_ble_eq_true rfl) dL_law_546 hroom (fun r1 L f H locs S w1 => ?_)
  obtain ⟨ρ, C, R⟩ := after8 R w1
  refine lv_pop hx hb dL_law_549 rfl ?_
  refine lv_aload_n hx hb dL_law_550 rfl (lv_at hl 1 rfl) ?_
  refine lv_aload_n hx hb dL_law_551 rfl (lv_at hl 3 rfl) ?_
  refine lv_iload_n hx hb dL_law_552 rfl (lv_at hl 0 rfl) ?_
  refine lv_iconst (v := 1) hx hb dL_law_553 (by decide) ?_
  refine lv_iadd hx hb dL_law_554 ?_
  refine lv_topi (fun t_ et_ => ?_)
  obtain rfl : t_ = nI (i + 1) := et_.trans (nI_add i 1)
  refine va_sld hx hb hX hbl (Nat.not_le.mpr hbl) S.2.2.2.1 (vp_in_nI (n := i + 1) (by omega) (by omega)) dL_law_555 ?_
  refine lv_topi (fun t_ et_ => ?_)
  obtain rfl : a1 = t_ := ea1.trans et_.symm
  refine lv_aload_n hx hb dL_law_556 rfl (lv_at hl 3 rfl) ?_
  refine lv_iload_n hx hb dL_law_557 rfl (lv_at hl 0 rfl) ?_
  refine lv_iconst (v := 2) hx hb dL_law_558 (by decide) ?_
  refine lv_iadd hx hb dL_law_559 ?_
  refine lv_topi (fun t_ et_ => ?_)
  obtain rfl : t_ = nI (i + 2) := et_.trans (nI_add i 2)
  refine va_sld hx hb hX hbl (Nat.not_le.mpr hbl) S.2.2.2.1 (vp_in_nI (n := i + 2) (by omega) (by omega)) dL_law_560 ?_
  refine lv_topi (fun t_ et_ => ?_)
  obtain rfl : a2 = t_ := ea2.trans et_.symm
  obtain ⟨fy, m_y, e_y⟩ := CfR_y R
  refine q_vi (As := [.int a1, .int a2]) (rest := []) ⟨hx, hb, hml, hown, hts⟩ (rc_putAll l D R a1 a2) (cwV 2 hts gL_law_X9_putAll rfl rfl rfl (by decide +kernel) ⟨Nat.le_of_ble_eq_true rfl, Nat.le_of_ble_eq_true rfl⟩) S m_y e_y (T := TX9) (N := 23) rfl rfl hl.1 rfl (Nat.le_of_ble_eq_true rfl) dL_law_561 hroom (fun r2 L f H locs S w2 => ?_)
  obtain ⟨vW1, vIW1, hP, C, R⟩ := after9 C w2
  obtain ⟨e1_, e2_⟩ := hP
  rw [e1_, e2_] at R
  refine lv_pop hx hb dL_law_564 rfl ?_
  refine lv_goto (tgt := 1120) hx hb dL_law_565 (by decide) ?_
  exact kk _ _ _ _ S ⟨_, _, _, _, _, C, R, hK⟩
set_option maxHeartbeats 4000000 in
set_option maxRecDepth 100000 in
theorem law_9 {p : Program} {l : Launch} {e : Env} {s : State} {m : MethodId} {below : List Frame} {meth : Method} {c : Code} {bs Ls i cells slots : Nat} {xs : Nat → Int32} {D : va_G} {g : Nat → ClassId} {L : List Nat} {f : Nat → va_E} {H : Heap} {locs : List Loc} {ls : Array Slot} {x y : Nat} {Q : State → Prop} (hx : p.tables.exec = Jvm.exec) (hb : c.code = cL_law) (hml : c.maxLocals = 4) (hown : s.vm.findClass RL = some m.cls) (hts : ∀ w ∈ wsL_law, w.before #[Value.ref bs] s = true) (hX : va_X bs Ls xs s s.heap) (hbl : bs < s.heap.size) (hLs : Ls ≤ 3072) (hi : i + 6 ≤ Ls) (hroom : cells + 49 ≤ room_1.cells ∧ slots + 7472 ≤ room_1.slots) (S : PS D g (fun q : Nat => s.heap.size ≤ q) s.heap s L f H locs) (hl : lv_has ls 4 [(3, .int (nI i)), (2, .ref y), (1, .ref x), (0, .ref bs)]) (I0 : Inv g L f x y) (kk : ∀ (L : List Nat) (f : Nat → va_E) (H : Heap) (locs : List Loc), PS D g (fun q : Nat => s.heap.size ≤ q) s.heap s L f H locs → Inv g L f x y → W p l e room_1 s m #[Value.ref bs] below meth c H locs (cells + 49) (slots + 7472) Q (F0 m 1120 ls [])) : W p l e room_1 s m #[Value.ref bs] below meth c H locs cells slots Q (F0 m 568 ls []) := by
  obtain ⟨ρ, wN, wV, vW, vIW, C, R, hK⟩ := I0
  have hR := Cf_R C
  refine lv_aload_n hx hb dL_law_568 rfl (lv_at hl 2 rfl) ?_
  refine lv_aload_n hx hb dL_law_569 rfl (lv_at hl 3 rfl) ?_
  refine lv_iload_n hx hb dL_law_570 rfl (lv_at hl 0 rfl) ?_
  refine lv_iconst (v := 1) hx hb dL_law_571 (by decide) ?_
  refine lv_iadd hx hb dL_law_572 ?_
  refine lv_topi (fun t_ et_ => ?_)
  obtain rfl : t_ = nI (i + 1) := et_.trans (nI_add i 1)
  refine va_sld hx hb hX hbl (Nat.not_le.mpr hbl) S.2.2.2.1 (vp_in_nI (n := i + 1) (by omega) (by omega)) dL_law_573 ?_
  refine lv_topi (fun a1 ea1 => ?_)
  refine lv_aload_n hx hb dL_law_574 rfl (lv_at hl 3 rfl) ?_
  refine lv_iload_n hx hb dL_law_575 rfl (lv_at hl 0 rfl) ?_
  refine lv_iconst (v := 2) hx hb dL_law_576 (by decide) ?_
  refine lv_iadd hx hb dL_law_577 ?_
  refine lv_topi (fun t_ et_ => ?_)
  obtain rfl : t_ = nI (i + 2) := et_.trans (nI_add i 2)
  refine va_sld hx hb hX hbl (Nat.not_le.mpr hbl) S.2.2.2.1 (vp_in_nI (n := i + 2) (by omega) (by omega)) dL_law_578 ?_
  refine lv_topi (fun a2 ea2 => ?_)
  refine lv_i2l hx hb dL_law_579 rfl ?_
  refine lv_bipush (v := 32) hx hb dL_law_580 (by decide) ?_
  refine lv_lshl hx hb dL_law_582 rfl ?_
  refine lv_aload_n hx hb dL_law_583 rfl (lv_at hl 3 rfl) ?_
  refine lv_iload_n hx hb dL_law_584 rfl (lv_at hl 0 rfl) ?_
  refine lv_iconst (v := 3) hx hb dL_law_585 (by decide) ?_
  refine lv_iadd hx hb dL_law_586 ?_
  refine lv_topi (fun t_ et_ => ?_)
  obtain rfl : t_ = nI (i + 3) := et_.trans (nI_add i 3)
  refine va_sld hx hb hX hbl (Nat.not_le.mpr hbl) S.2.2.2.1 (vp_in_nI (n := i + 3) (by omega) (by omega)) dL_law_587 ?_
  refine lv_topi (fun a3 ea3 => ?_)
  refine lv_i2l hx hb dL_law_588 rfl ?_
  refine lv_ldc2 (v := (4294967295)) hx hb hown (hts (.constantLong RL 13 (4294967295)) (by decide +kernel)) dL_law_589 ?_
  refine lv_land hx hb dL_law_592 ?_
  refine lv_lor hx hb dL_law_593 ?_
  refine lv_topl (fun fs efs => ?_)
  obtain ⟨fx, m_x, e_x⟩ := Cf_x C
  refine q_vi (As := [.int a1, .long fs]) (rest := []) ⟨hx, hb, hml, hown, hts⟩ (sc_drop l D C a1 fs) (cwV 2 hts gL_law_X8_drop rfl rfl rfl (by decide +kernel) ⟨Nat.le_of_ble_eq_true rfl, Nat.le_of_ble_eq_true rfl⟩) S m_x e_x (T := TX8) (N := 8) rfl rfl hl.1 rfl (Nat.le_of_ble_eq_true rfl) dL_law_594 hroom (fun r1 L f H locs S w1 => ?_)
  obtain ⟨ρ, C, R⟩ := after8 R w1
  refine lv_pop hx hb dL_law_597 rfl ?_
  refine lv_aload_n hx hb dL_law_598 rfl (lv_at hl 1 rfl) ?_
  refine lv_aload_n hx hb dL_law_599 rfl (lv_at hl 3 rfl) ?_
  refine lv_iload_n hx hb dL_law_600 rfl (lv_at hl 0 rfl) ?_
  refine lv_iconst (v := 1) hx hb dL_law_601 (by decide) ?_
  refine lv_iadd hx hb dL_law_602 ?_
  refine lv_topi (fun t_ et_ => ?_)
  obtain rfl : t_ = nI (i + 1) := et_.trans (nI_add i 1)
  refine va_sld hx hb hX hbl (Nat.not_le.mpr hbl) S.2.2.2.1 (vp_in_nI (n := i + 1) (by omega) (by omega)) dL_law_603 ?_
  refine lv_topi (fun t_ et_ => ?_)
  obtain rfl : a1 = t_ := ea1.trans et_.symm
  refine lv_aload_n hx hb dL_law_604 rfl (lv_at hl 3 rfl) ?_
  refine lv_iload_n hx hb dL_law_605 rfl (lv_at hl 0 rfl) ?_
  refine lv_iconst (v := 2) hx hb dL_law_606 (by decide) ?_
  refine lv_iadd hx hb dL_law_607 ?_
  refine lv_topi (fun t_ et_ => ?_)
  obtain rfl : t_ = nI (i + 2) := et_.trans (nI_add i 2)
  refine va_sld hx hb hX hbl (Nat.not_le.mpr hbl) S.2.2.2.1 (vp_in_nI (n := i + 2) (by omega) (by omega)) dL_law_608 ?_
  refine lv_topi (fun t_ et_ => ?_)
  obtain rfl : a2 = t_ := ea2.trans et_.symm
  refine lv_i2l hx hb dL_law_609 rfl ?_
  refine lv_bipush (v := 32) hx hb dL_law_610 (by decide) ?_
  refine lv_lshl hx hb dL_law_612 rfl ?_
  refine lv_aload_n hx hb dL_law_613 rfl (lv_at hl 3 rfl) ?_
  refine lv_iload_n hx hb dL_law_614 rfl (lv_at hl 0 rfl) ?_
  refine lv_iconst (v := 3) hx hb dL_law_615 (by decide) ?_
  refine lv_iadd hx hb dL_law_616 ?_
  refine lv_topi (fun t_ et_ => ?_)
  obtain rfl : t_ = nI (i + 3) := et_.trans (nI_add i 3)
  refine va_sld hx hb hX hbl (Nat.not_le.mpr hbl) S.2.2.2.1 (vp_in_nI (n := i + 3) (by omega) (by omega)) dL_law_617 ?_
  refine lv_topi (fun t_ et_ => ?_)
  obtain rfl : a3 = t_ := ea3.trans et_.symm
  refine lv_i2l hx hb dL_law_618 rfl ?_
  refine lv_ldc2 (v := (4294967295)) hx hb hown (hts (.constantLong RL 13 (4294967295)) (by decide +kernel)) dL_law_619 ?_
  refine lv_land hx hb dL_law_622 ?_
  refine lv_lor hx hb dL_law_623 ?_
  refine lv_topl (fun t_ et_ => ?_)
  obtain rfl : fs = t_ := efs.trans et_.symm
  obtain ⟨fy, m_y, e_y⟩ := CfR_y R
  refine q_vi (As := [.int a1, .long fs]) (rest := []) ⟨hx, hb, hml, hown, hts⟩ (rc_drop l D R a1 fs) (cwV 2 hts gL_law_X9_drop rfl rfl rfl (by decide +kernel) ⟨Nat.le_of_ble_eq_true rfl, Nat.le_of_ble_eq_true rfl⟩) S m_y e_y (T := TX9) (N := 23) rfl rfl hl.1 rfl (Nat.le_of_ble_eq_true rfl) dL_law_624 hroom (fun r2 L f H locs S w2 => ?_)
  obtain ⟨vW1, vIW1, hP, C, R⟩ := after9 C w2
  obtain ⟨e1_, e2_⟩ := hP
  rw [e1_, e2_] at R
  refine lv_pop hx hb dL_law_627 rfl ?_
  refine lv_goto (tgt := 1120) hx hb dL_law_628 (by decide) ?_
  exact kk _ _ _ _ S ⟨_, _, _, _, _, C, R, hK⟩
set_option maxHeartbeats 4000000 in
set_option maxRecDepth 100000 in
theorem law_10 {p : Program} {l : Launch} {e : Env} {s : State} {m : MethodId} {below : List Frame} {meth : Method} {c : Code} {bs Ls i cells slots : Nat} {xs : Nat → Int32} {D : va_G} {g : Nat → ClassId} {L : List Nat} {f : Nat → va_E} {H : Heap} {locs : List Loc} {ls : Array Slot} {x y : Nat} {Q : State → Prop} (hx : p.tables.exec = Jvm.exec) (hb : c.code = cL_law) (hml : c.maxLocals = 4) (hown : s.vm.findClass RL = some m.cls) (hts : ∀ w ∈ wsL_law, w.before #[Value.ref bs] s = true) (hX : va_X bs Ls xs s s.heap) (hbl : bs < s.heap.size) (hLs : Ls ≤ 3072) (hi : i + 6 ≤ Ls) (hroom : cells + 49 ≤ room_1.cells ∧ slots + 7472 ≤ room_1.slots) (S : PS D g (fun q : Nat => s.heap.size ≤ q) s.heap s L f H locs) (hl : lv_has ls 4 [(3, .int (nI i)), (2, .ref y), (1, .ref x), (0, .ref bs)]) (I0 : Inv g L f x y) (kk : ∀ (L : List Nat) (f : Nat → va_E) (H : Heap) (locs : List Loc), PS D g (fun q : Nat => s.heap.size ≤ q) s.heap s L f H locs → Inv g L f x y → W p l e room_1 s m #[Value.ref bs] below meth c H locs (cells + 49) (slots + 7472) Q (F0 m 1120 ls [])) : W p l e room_1 s m #[Value.ref bs] below meth c H locs cells slots Q (F0 m 631 ls []) := by
  obtain ⟨ρ, wN, wV, vW, vIW, C, R, hK⟩ := I0
  have hR := Cf_R C
  refine lv_aload_n hx hb dL_law_631 rfl (lv_at hl 2 rfl) ?_
  refine lv_aload_n hx hb dL_law_632 rfl (lv_at hl 3 rfl) ?_
  refine lv_iload_n hx hb dL_law_633 rfl (lv_at hl 0 rfl) ?_
  refine lv_iconst (v := 1) hx hb dL_law_634 (by decide) ?_
  refine lv_iadd hx hb dL_law_635 ?_
  refine lv_topi (fun t_ et_ => ?_)
  obtain rfl : t_ = nI (i + 1) := et_.trans (nI_add i 1)
  refine va_sld hx hb hX hbl (Nat.not_le.mpr hbl) S.2.2.2.1 (vp_in_nI (n := i + 1) (by omega) (by omega)) dL_law_636 ?_
  refine lv_topi (fun a1 ea1 => ?_)
  refine lv_aload_n hx hb dL_law_637 rfl (lv_at hl 3 rfl) ?_
  refine lv_iload_n hx hb dL_law_638 rfl (lv_at hl 0 rfl) ?_
  refine lv_iconst (v := 2) hx hb dL_law_639 (by decide) ?_
  refine lv_iadd hx hb dL_law_640 ?_
  refine lv_topi (fun t_ et_ => ?_)
  obtain rfl : t_ = nI (i + 2) := et_.trans (nI_add i 2)
  refine va_sld hx hb hX hbl (Nat.not_le.mpr hbl) S.2.2.2.1 (vp_in_nI (n := i + 2) (by omega) (by omega)) dL_law_641 ?_
  refine lv_topi (fun a2 ea2 => ?_)
  refine lv_i2l hx hb dL_law_642 rfl ?_
  refine lv_bipush (v := 32) hx hb dL_law_643 (by decide) ?_
  refine lv_lshl hx hb dL_law_645 rfl ?_
  refine lv_aload_n hx hb dL_law_646 rfl (lv_at hl 3 rfl) ?_
  refine lv_iload_n hx hb dL_law_647 rfl (lv_at hl 0 rfl) ?_
  refine lv_iconst (v := 3) hx hb dL_law_648 (by decide) ?_
  refine lv_iadd hx hb dL_law_649 ?_
  refine lv_topi (fun t_ et_ => ?_)
  obtain rfl : t_ = nI (i + 3) := et_.trans (nI_add i 3)
  refine va_sld hx hb hX hbl (Nat.not_le.mpr hbl) S.2.2.2.1 (vp_in_nI (n := i + 3) (by omega) (by omega)) dL_law_650 ?_
  refine lv_topi (fun a3 ea3 => ?_)
  refine lv_i2l hx hb dL_law_651 rfl ?_
  refine lv_ldc2 (v := (4294967295)) hx hb hown (hts (.constantLong RL 13 (4294967295)) (by decide +kernel)) dL_law_652 ?_
  refine lv_land hx hb dL_law_655 ?_
  refine lv_lor hx hb dL_law_656 ?_
  refine lv_topl (fun fs efs => ?_)
  obtain ⟨fx, m_x, e_x⟩ := Cf_x C
  refine q_vi (As := [.int a1, .long fs]) (rest := []) ⟨hx, hb, hml, hown, hts⟩ (sc_lets l D C a1 fs) (cwV 2 hts gL_law_X8_lets rfl rfl rfl (by decide +kernel) ⟨Nat.le_of_ble_eq_true rfl, Nat.le_of_ble_eq_true rfl⟩) S m_x e_x (T := TX8) (N := 8) rfl rfl hl.1 rfl (Nat.le_of_ble_eq_true rfl) dL_law_657 hroom (fun r1 L f H locs S w1 => ?_)
  obtain ⟨ρ, C, R⟩ := after8 R w1
  refine lv_pop hx hb dL_law_660 rfl ?_
  refine lv_aload_n hx hb dL_law_661 rfl (lv_at hl 1 rfl) ?_
  refine lv_aload_n hx hb dL_law_662 rfl (lv_at hl 3 rfl) ?_
  refine lv_iload_n hx hb dL_law_663 rfl (lv_at hl 0 rfl) ?_
  refine lv_iconst (v := 1) hx hb dL_law_664 (by decide) ?_
  refine lv_iadd hx hb dL_law_665 ?_
  refine lv_topi (fun t_ et_ => ?_)
  obtain rfl : t_ = nI (i + 1) := et_.trans (nI_add i 1)
  refine va_sld hx hb hX hbl (Nat.not_le.mpr hbl) S.2.2.2.1 (vp_in_nI (n := i + 1) (by omega) (by omega)) dL_law_666 ?_
  refine lv_topi (fun t_ et_ => ?_)
  obtain rfl : a1 = t_ := ea1.trans et_.symm
  refine lv_aload_n hx hb dL_law_667 rfl (lv_at hl 3 rfl) ?_
  refine lv_iload_n hx hb dL_law_668 rfl (lv_at hl 0 rfl) ?_
  refine lv_iconst (v := 2) hx hb dL_law_669 (by decide) ?_
  refine lv_iadd hx hb dL_law_670 ?_
  refine lv_topi (fun t_ et_ => ?_)
  obtain rfl : t_ = nI (i + 2) := et_.trans (nI_add i 2)
  refine va_sld hx hb hX hbl (Nat.not_le.mpr hbl) S.2.2.2.1 (vp_in_nI (n := i + 2) (by omega) (by omega)) dL_law_671 ?_
  refine lv_topi (fun t_ et_ => ?_)
  obtain rfl : a2 = t_ := ea2.trans et_.symm
  refine lv_i2l hx hb dL_law_672 rfl ?_
  refine lv_bipush (v := 32) hx hb dL_law_673 (by decide) ?_
  refine lv_lshl hx hb dL_law_675 rfl ?_
  refine lv_aload_n hx hb dL_law_676 rfl (lv_at hl 3 rfl) ?_
  refine lv_iload_n hx hb dL_law_677 rfl (lv_at hl 0 rfl) ?_
  refine lv_iconst (v := 3) hx hb dL_law_678 (by decide) ?_
  refine lv_iadd hx hb dL_law_679 ?_
  refine lv_topi (fun t_ et_ => ?_)
  obtain rfl : t_ = nI (i + 3) := et_.trans (nI_add i 3)
  refine va_sld hx hb hX hbl (Nat.not_le.mpr hbl) S.2.2.2.1 (vp_in_nI (n := i + 3) (by omega) (by omega)) dL_law_680 ?_
  refine lv_topi (fun t_ et_ => ?_)
  obtain rfl : a3 = t_ := ea3.trans et_.symm
  refine lv_i2l hx hb dL_law_681 rfl ?_
  refine lv_ldc2 (v := (4294967295)) hx hb hown (hts (.constantLong RL 13 (4294967295)) (by decide +kernel)) dL_law_682 ?_
  refine lv_land hx hb dL_law_685 ?_
  refine lv_lor hx hb dL_law_686 ?_
  refine lv_topl (fun t_ et_ => ?_)
  obtain rfl : fs = t_ := efs.trans et_.symm
  obtain ⟨fy, m_y, e_y⟩ := CfR_y R
  refine q_vi (As := [.int a1, .long fs]) (rest := []) ⟨hx, hb, hml, hown, hts⟩ (rc_lets l D R a1 fs) (cwV 2 hts gL_law_X9_lets rfl rfl rfl (by decide +kernel) ⟨Nat.le_of_ble_eq_true rfl, Nat.le_of_ble_eq_true rfl⟩) S m_y e_y (T := TX9) (N := 23) rfl rfl hl.1 rfl (Nat.le_of_ble_eq_true rfl) dL_law_687 hroom (fun r2 L f H locs S w2 => ?_)
  obtain ⟨vW1, vIW1, hP, C, R⟩ := after9 C w2
  obtain ⟨e1_, e2_⟩ := hP
  rw [e1_, e2_] at R
  refine lv_pop hx hb dL_law_690 rfl ?_
  refine lv_goto (tgt := 1120) hx hb dL_law_691 (by decide) ?_
  exact kk _ _ _ _ S ⟨_, _, _, _, _, C, R, hK⟩
set_option maxHeartbeats 4000000 in
set_option maxRecDepth 100000 in
theorem law_11 {p : Program} {l : Launch} {e : Env} {s : State} {m : MethodId} {below : List Frame} {meth : Method} {c : Code} {bs Ls i cells slots : Nat} {xs : Nat → Int32} {D : va_G} {g : Nat → ClassId} {L : List Nat} {f : Nat → va_E} {H : Heap} {locs : List Loc} {ls : Array Slot} {x y : Nat} {Q : State → Prop} (hx : p.tables.exec = Jvm.exec) (hb : c.code = cL_law) (hml : c.maxLocals = 4) (hown : s.vm.findClass RL = some m.cls) (hts : ∀ w ∈ wsL_law, w.before #[Value.ref bs] s = true) (hX : va_X bs Ls xs s s.heap) (hbl : bs < s.heap.size) (hLs : Ls ≤ 3072) (hi : i + 6 ≤ Ls) (hroom : cells + 49 ≤ room_1.cells ∧ slots + 7472 ≤ room_1.slots) (S : PS D g (fun q : Nat => s.heap.size ≤ q) s.heap s L f H locs) (hl : lv_has ls 4 [(3, .int (nI i)), (2, .ref y), (1, .ref x), (0, .ref bs)]) (I0 : Inv g L f x y) (kk : ∀ (L : List Nat) (f : Nat → va_E) (H : Heap) (locs : List Loc), PS D g (fun q : Nat => s.heap.size ≤ q) s.heap s L f H locs → Inv g L f x y → W p l e room_1 s m #[Value.ref bs] below meth c H locs (cells + 49) (slots + 7472) Q (F0 m 1120 ls [])) : W p l e room_1 s m #[Value.ref bs] below meth c H locs cells slots Q (F0 m 694 ls []) := by
  obtain ⟨ρ, wN, wV, vW, vIW, C, R, hK⟩ := I0
  have hR := Cf_R C
  refine lv_aload_n hx hb dL_law_694 rfl (lv_at hl 2 rfl) ?_
  refine lv_aload_n hx hb dL_law_695 rfl (lv_at hl 3 rfl) ?_
  refine lv_iload_n hx hb dL_law_696 rfl (lv_at hl 0 rfl) ?_
  refine lv_iconst (v := 1) hx hb dL_law_697 (by decide) ?_
  refine lv_iadd hx hb dL_law_698 ?_
  refine lv_topi (fun t_ et_ => ?_)
  obtain rfl : t_ = nI (i + 1) := et_.trans (nI_add i 1)
  refine va_sld hx hb hX hbl (Nat.not_le.mpr hbl) S.2.2.2.1 (vp_in_nI (n := i + 1) (by omega) (by omega)) dL_law_699 ?_
  refine lv_topi (fun a1 ea1 => ?_)
  refine lv_aload_n hx hb dL_law_700 rfl (lv_at hl 3 rfl) ?_
  refine lv_iload_n hx hb dL_law_701 rfl (lv_at hl 0 rfl) ?_
  refine lv_iconst (v := 2) hx hb dL_law_702 (by decide) ?_
  refine lv_iadd hx hb dL_law_703 ?_
  refine lv_topi (fun t_ et_ => ?_)
  obtain rfl : t_ = nI (i + 2) := et_.trans (nI_add i 2)
  refine va_sld hx hb hX hbl (Nat.not_le.mpr hbl) S.2.2.2.1 (vp_in_nI (n := i + 2) (by omega) (by omega)) dL_law_704 ?_
  refine lv_topi (fun a2 ea2 => ?_)
  obtain ⟨fx, m_x, e_x⟩ := Cf_x C
  refine q_vi (As := [.int a1, .int a2]) (rest := []) ⟨hx, hb, hml, hown, hts⟩ (sc_falses l D C a1 a2) (cwV 2 hts gL_law_X8_falses rfl rfl rfl (by decide +kernel) ⟨Nat.le_of_ble_eq_true rfl, Nat.le_of_ble_eq_true rfl⟩) S m_x e_x (T := TX8) (N := 8) rfl rfl hl.1 rfl (Nat.le_of_ble_eq_true rfl) dL_law_705 hroom (fun r1 L f H locs S w1 => ?_)
  obtain ⟨ρ, C, R⟩ := after8 R w1
  refine lv_pop hx hb dL_law_708 rfl ?_
  refine lv_aload_n hx hb dL_law_709 rfl (lv_at hl 1 rfl) ?_
  refine lv_aload_n hx hb dL_law_710 rfl (lv_at hl 3 rfl) ?_
  refine lv_iload_n hx hb dL_law_711 rfl (lv_at hl 0 rfl) ?_
  refine lv_iconst (v := 1) hx hb dL_law_712 (by decide) ?_
  refine lv_iadd hx hb dL_law_713 ?_
  refine lv_topi (fun t_ et_ => ?_)
  obtain rfl : t_ = nI (i + 1) := et_.trans (nI_add i 1)
  refine va_sld hx hb hX hbl (Nat.not_le.mpr hbl) S.2.2.2.1 (vp_in_nI (n := i + 1) (by omega) (by omega)) dL_law_714 ?_
  refine lv_topi (fun t_ et_ => ?_)
  obtain rfl : a1 = t_ := ea1.trans et_.symm
  refine lv_aload_n hx hb dL_law_715 rfl (lv_at hl 3 rfl) ?_
  refine lv_iload_n hx hb dL_law_716 rfl (lv_at hl 0 rfl) ?_
  refine lv_iconst (v := 2) hx hb dL_law_717 (by decide) ?_
  refine lv_iadd hx hb dL_law_718 ?_
  refine lv_topi (fun t_ et_ => ?_)
  obtain rfl : t_ = nI (i + 2) := et_.trans (nI_add i 2)
  refine va_sld hx hb hX hbl (Nat.not_le.mpr hbl) S.2.2.2.1 (vp_in_nI (n := i + 2) (by omega) (by omega)) dL_law_719 ?_
  refine lv_topi (fun t_ et_ => ?_)
  obtain rfl : a2 = t_ := ea2.trans et_.symm
  obtain ⟨fy, m_y, e_y⟩ := CfR_y R
  refine q_vi (As := [.int a1, .int a2]) (rest := []) ⟨hx, hb, hml, hown, hts⟩ (rc_falses l D R a1 a2) (cwV 2 hts gL_law_X9_falses rfl rfl rfl (by decide +kernel) ⟨Nat.le_of_ble_eq_true rfl, Nat.le_of_ble_eq_true rfl⟩) S m_y e_y (T := TX9) (N := 23) rfl rfl hl.1 rfl (Nat.le_of_ble_eq_true rfl) dL_law_720 hroom (fun r2 L f H locs S w2 => ?_)
  obtain ⟨vW1, vIW1, hP, C, R⟩ := after9 C w2
  obtain ⟨e1_, e2_⟩ := hP
  rw [e1_, e2_] at R
  refine lv_pop hx hb dL_law_723 rfl ?_
  refine lv_goto (tgt := 1120) hx hb dL_law_724 (by decide) ?_
  exact kk _ _ _ _ S ⟨_, _, _, _, _, C, R, hK⟩
set_option maxHeartbeats 4000000 in
set_option maxRecDepth 100000 in
theorem law_12 {p : Program} {l : Launch} {e : Env} {s : State} {m : MethodId} {below : List Frame} {meth : Method} {c : Code} {bs Ls i cells slots : Nat} {xs : Nat → Int32} {D : va_G} {g : Nat → ClassId} {L : List Nat} {f : Nat → va_E} {H : Heap} {locs : List Loc} {ls : Array Slot} {x y : Nat} {Q : State → Prop} (hx : p.tables.exec = Jvm.exec) (hb : c.code = cL_law) (hml : c.maxLocals = 4) (hown : s.vm.findClass RL = some m.cls) (hts : ∀ w ∈ wsL_law, w.before #[Value.ref bs] s = true) (hX : va_X bs Ls xs s s.heap) (hbl : bs < s.heap.size) (hLs : Ls ≤ 3072) (hi : i + 6 ≤ Ls) (hroom : cells + 49 ≤ room_1.cells ∧ slots + 7472 ≤ room_1.slots) (S : PS D g (fun q : Nat => s.heap.size ≤ q) s.heap s L f H locs) (hl : lv_has ls 4 [(3, .int (nI i)), (2, .ref y), (1, .ref x), (0, .ref bs)]) (I0 : Inv g L f x y) (kk : ∀ (L : List Nat) (f : Nat → va_E) (H : Heap) (locs : List Loc), PS D g (fun q : Nat => s.heap.size ≤ q) s.heap s L f H locs → Inv g L f x y → W p l e room_1 s m #[Value.ref bs] below meth c H locs (cells + 49) (slots + 7472) Q (F0 m 1120 ls [])) : W p l e room_1 s m #[Value.ref bs] below meth c H locs cells slots Q (F0 m 727 ls []) := by
  obtain ⟨ρ, wN, wV, vW, vIW, C, R, hK⟩ := I0
  have hR := Cf_R C
  refine lv_aload_n hx hb dL_law_727 rfl (lv_at hl 2 rfl) ?_
  refine lv_aload_n hx hb dL_law_728 rfl (lv_at hl 3 rfl) ?_
  refine lv_iload_n hx hb dL_law_729 rfl (lv_at hl 0 rfl) ?_
  refine lv_iconst (v := 1) hx hb dL_law_730 (by decide) ?_
  refine lv_iadd hx hb dL_law_731 ?_
  refine lv_topi (fun t_ et_ => ?_)
  obtain rfl : t_ = nI (i + 1) := et_.trans (nI_add i 1)
  refine va_sld hx hb hX hbl (Nat.not_le.mpr hbl) S.2.2.2.1 (vp_in_nI (n := i + 1) (by omega) (by omega)) dL_law_732 ?_
  refine lv_topi (fun a1 ea1 => ?_)
  refine lv_aload_n hx hb dL_law_733 rfl (lv_at hl 3 rfl) ?_
  refine lv_iload_n hx hb dL_law_734 rfl (lv_at hl 0 rfl) ?_
  refine lv_iconst (v := 2) hx hb dL_law_735 (by decide) ?_
  refine lv_iadd hx hb dL_law_736 ?_
  refine lv_topi (fun t_ et_ => ?_)
  obtain rfl : t_ = nI (i + 2) := et_.trans (nI_add i 2)
  refine va_sld hx hb hX hbl (Nat.not_le.mpr hbl) S.2.2.2.1 (vp_in_nI (n := i + 2) (by omega) (by omega)) dL_law_737 ?_
  refine lv_topi (fun a2 ea2 => ?_)
  refine lv_aload_n hx hb dL_law_738 rfl (lv_at hl 3 rfl) ?_
  refine lv_iload_n hx hb dL_law_739 rfl (lv_at hl 0 rfl) ?_
  refine lv_iconst (v := 3) hx hb dL_law_740 (by decide) ?_
  refine lv_iadd hx hb dL_law_741 ?_
  refine lv_topi (fun t_ et_ => ?_)
  obtain rfl : t_ = nI (i + 3) := et_.trans (nI_add i 3)
  refine va_sld hx hb hX hbl (Nat.not_le.mpr hbl) S.2.2.2.1 (vp_in_nI (n := i + 3) (by omega) (by omega)) dL_law_742 ?_
  refine lv_topi (fun a3 ea3 => ?_)
  obtain ⟨fx, m_x, e_x⟩ := Cf_x C
  refine q_vl (As := [.int a1, .int a2, .int a3]) (rest := []) ⟨hx, hb, hml, hown, hts⟩ (sc_falseOne l D C a1 a2 a3) (cwV 3 hts gL_law_X8_falseOne rfl rfl rfl (by decide +kernel) ⟨Nat.le_of_ble_eq_true rfl, Nat.le_of_ble_eq_true rfl⟩) S m_x e_x (T := TX8) (N := 8) rfl rfl hl.1 rfl (Nat.le_of_ble_eq_true rfl) dL_law_743 hroom (fun r1 L f H locs S w1 => ?_)
  obtain ⟨ρ, C, R⟩ := after8 R w1
  refine lv_pop2_2 hx hb dL_law_746 rfl ?_
  refine lv_aload_n hx hb dL_law_747 rfl (lv_at hl 1 rfl) ?_
  refine lv_aload_n hx hb dL_law_748 rfl (lv_at hl 3 rfl) ?_
  refine lv_iload_n hx hb dL_law_749 rfl (lv_at hl 0 rfl) ?_
  refine lv_iconst (v := 1) hx hb dL_law_750 (by decide) ?_
  refine lv_iadd hx hb dL_law_751 ?_
  refine lv_topi (fun t_ et_ => ?_)
  obtain rfl : t_ = nI (i + 1) := et_.trans (nI_add i 1)
  refine va_sld hx hb hX hbl (Nat.not_le.mpr hbl) S.2.2.2.1 (vp_in_nI (n := i + 1) (by omega) (by omega)) dL_law_752 ?_
  refine lv_topi (fun t_ et_ => ?_)
  obtain rfl : a1 = t_ := ea1.trans et_.symm
  refine lv_aload_n hx hb dL_law_753 rfl (lv_at hl 3 rfl) ?_
  refine lv_iload_n hx hb dL_law_754 rfl (lv_at hl 0 rfl) ?_
  refine lv_iconst (v := 2) hx hb dL_law_755 (by decide) ?_
  refine lv_iadd hx hb dL_law_756 ?_
  refine lv_topi (fun t_ et_ => ?_)
  obtain rfl : t_ = nI (i + 2) := et_.trans (nI_add i 2)
  refine va_sld hx hb hX hbl (Nat.not_le.mpr hbl) S.2.2.2.1 (vp_in_nI (n := i + 2) (by omega) (by omega)) dL_law_757 ?_
  refine lv_topi (fun t_ et_ => ?_)
  obtain rfl : a2 = t_ := ea2.trans et_.symm
  refine lv_aload_n hx hb dL_law_758 rfl (lv_at hl 3 rfl) ?_
  refine lv_iload_n hx hb dL_law_759 rfl (lv_at hl 0 rfl) ?_
  refine lv_iconst (v := 3) hx hb dL_law_760 (by decide) ?_
  refine lv_iadd hx hb dL_law_761 ?_
  refine lv_topi (fun t_ et_ => ?_)
  obtain rfl : t_ = nI (i + 3) := et_.trans (nI_add i 3)
  refine va_sld hx hb hX hbl (Nat.not_le.mpr hbl) S.2.2.2.1 (vp_in_nI (n := i + 3) (by omega) (by omega)) dL_law_762 ?_
  refine lv_topi (fun t_ et_ => ?_)
  obtain rfl : a3 = t_ := ea3.trans et_.symm
  obtain ⟨fy, m_y, e_y⟩ := CfR_y R
  refine q_vl (As := [.int a1, .int a2, .int a3]) (rest := []) ⟨hx, hb, hml, hown, hts⟩ (rc_falseOne l D R a1 a2 a3) (cwV 3 hts gL_law_X9_falseOne rfl rfl rfl (by decide +kernel) ⟨Nat.le_of_ble_eq_true rfl, Nat.le_of_ble_eq_true rfl⟩) S m_y e_y (T := TX9) (N := 23) rfl rfl hl.1 rfl (Nat.le_of_ble_eq_true rfl) dL_law_763 hroom (fun r2 L f H locs S w2 => ?_)
  obtain ⟨vW1, vIW1, hP, C, R⟩ := after9 C w2
  obtain ⟨e1_, e2_⟩ := hP
  rw [e1_, e2_] at R
  refine lv_pop2_2 hx hb dL_law_766 rfl ?_
  refine lv_goto (tgt := 1120) hx hb dL_law_767 (by decide) ?_
  exact kk _ _ _ _ S ⟨_, _, _, _, _, C, R, hK⟩
set_option maxHeartbeats 4000000 in
set_option maxRecDepth 100000 in
theorem law_13 {p : Program} {l : Launch} {e : Env} {s : State} {m : MethodId} {below : List Frame} {meth : Method} {c : Code} {bs Ls i cells slots : Nat} {xs : Nat → Int32} {D : va_G} {g : Nat → ClassId} {L : List Nat} {f : Nat → va_E} {H : Heap} {locs : List Loc} {ls : Array Slot} {x y : Nat} {Q : State → Prop} (hx : p.tables.exec = Jvm.exec) (hb : c.code = cL_law) (hml : c.maxLocals = 4) (hown : s.vm.findClass RL = some m.cls) (hts : ∀ w ∈ wsL_law, w.before #[Value.ref bs] s = true) (hX : va_X bs Ls xs s s.heap) (hbl : bs < s.heap.size) (hLs : Ls ≤ 3072) (hi : i + 6 ≤ Ls) (hroom : cells + 49 ≤ room_1.cells ∧ slots + 7472 ≤ room_1.slots) (S : PS D g (fun q : Nat => s.heap.size ≤ q) s.heap s L f H locs) (hl : lv_has ls 4 [(3, .int (nI i)), (2, .ref y), (1, .ref x), (0, .ref bs)]) (I0 : Inv g L f x y) (kk : ∀ (L : List Nat) (f : Nat → va_E) (H : Heap) (locs : List Loc), PS D g (fun q : Nat => s.heap.size ≤ q) s.heap s L f H locs → Inv g L f x y → W p l e room_1 s m #[Value.ref bs] below meth c H locs (cells + 49) (slots + 7472) Q (F0 m 1120 ls [])) : W p l e room_1 s m #[Value.ref bs] below meth c H locs cells slots Q (F0 m 770 ls []) := by
  obtain ⟨ρ, wN, wV, vW, vIW, C, R, hK⟩ := I0
  have hR := Cf_R C
  refine lv_aload_n hx hb dL_law_770 rfl (lv_at hl 2 rfl) ?_
  refine lv_aload_n hx hb dL_law_771 rfl (lv_at hl 3 rfl) ?_
  refine lv_iload_n hx hb dL_law_772 rfl (lv_at hl 0 rfl) ?_
  refine lv_iconst (v := 1) hx hb dL_law_773 (by decide) ?_
  refine lv_iadd hx hb dL_law_774 ?_
  refine lv_topi (fun t_ et_ => ?_)
  obtain rfl : t_ = nI (i + 1) := et_.trans (nI_add i 1)
  refine va_sld hx hb hX hbl (Nat.not_le.mpr hbl) S.2.2.2.1 (vp_in_nI (n := i + 1) (by omega) (by omega)) dL_law_775 ?_
  refine lv_topi (fun a1 ea1 => ?_)
  obtain ⟨fx, m_x, e_x⟩ := Cf_x C
  refine q_vi (As := [.int a1]) (rest := []) ⟨hx, hb, hml, hown, hts⟩ (sc_missed l D C a1) (cwV 1 hts gL_law_X8_missed rfl rfl rfl (by decide +kernel) ⟨Nat.le_of_ble_eq_true rfl, Nat.le_of_ble_eq_true rfl⟩) S m_x e_x (T := TX8) (N := 8) rfl rfl hl.1 rfl (Nat.le_of_ble_eq_true rfl) dL_law_776 hroom (fun r1 L f H locs S w1 => ?_)
  obtain ⟨ρ, C, R⟩ := after8 R w1
  refine lv_pop hx hb dL_law_779 rfl ?_
  refine lv_aload_n hx hb dL_law_780 rfl (lv_at hl 1 rfl) ?_
  refine lv_aload_n hx hb dL_law_781 rfl (lv_at hl 3 rfl) ?_
  refine lv_iload_n hx hb dL_law_782 rfl (lv_at hl 0 rfl) ?_
  refine lv_iconst (v := 1) hx hb dL_law_783 (by decide) ?_
  refine lv_iadd hx hb dL_law_784 ?_
  refine lv_topi (fun t_ et_ => ?_)
  obtain rfl : t_ = nI (i + 1) := et_.trans (nI_add i 1)
  refine va_sld hx hb hX hbl (Nat.not_le.mpr hbl) S.2.2.2.1 (vp_in_nI (n := i + 1) (by omega) (by omega)) dL_law_785 ?_
  refine lv_topi (fun t_ et_ => ?_)
  obtain rfl : a1 = t_ := ea1.trans et_.symm
  obtain ⟨fy, m_y, e_y⟩ := CfR_y R
  refine q_vi (As := [.int a1]) (rest := []) ⟨hx, hb, hml, hown, hts⟩ (rc_missed l D R a1) (cwV 1 hts gL_law_X9_missed rfl rfl rfl (by decide +kernel) ⟨Nat.le_of_ble_eq_true rfl, Nat.le_of_ble_eq_true rfl⟩) S m_y e_y (T := TX9) (N := 23) rfl rfl hl.1 rfl (Nat.le_of_ble_eq_true rfl) dL_law_786 hroom (fun r2 L f H locs S w2 => ?_)
  obtain ⟨vW1, vIW1, hP, C, R⟩ := after9 C w2
  obtain ⟨e1_, e2_⟩ := hP
  rw [e1_, e2_] at R
  refine lv_pop hx hb dL_law_789 rfl ?_
  refine lv_goto (tgt := 1120) hx hb dL_law_790 (by decide) ?_
  exact kk _ _ _ _ S ⟨_, _, _, _, _, C, R, hK⟩
set_option maxHeartbeats 4000000 in
set_option maxRecDepth 100000 in
theorem law_14 {p : Program} {l : Launch} {e : Env} {s : State} {m : MethodId} {below : List Frame} {meth : Method} {c : Code} {bs Ls i cells slots : Nat} {xs : Nat → Int32} {D : va_G} {g : Nat → ClassId} {L : List Nat} {f : Nat → va_E} {H : Heap} {locs : List Loc} {ls : Array Slot} {x y : Nat} {Q : State → Prop} (hx : p.tables.exec = Jvm.exec) (hb : c.code = cL_law) (hml : c.maxLocals = 4) (hown : s.vm.findClass RL = some m.cls) (hts : ∀ w ∈ wsL_law, w.before #[Value.ref bs] s = true) (hX : va_X bs Ls xs s s.heap) (hbl : bs < s.heap.size) (hLs : Ls ≤ 3072) (hi : i + 6 ≤ Ls) (hroom : cells + 49 ≤ room_1.cells ∧ slots + 7472 ≤ room_1.slots) (S : PS D g (fun q : Nat => s.heap.size ≤ q) s.heap s L f H locs) (hl : lv_has ls 4 [(3, .int (nI i)), (2, .ref y), (1, .ref x), (0, .ref bs)]) (I0 : Inv g L f x y) (kk : ∀ (L : List Nat) (f : Nat → va_E) (H : Heap) (locs : List Loc), PS D g (fun q : Nat => s.heap.size ≤ q) s.heap s L f H locs → Inv g L f x y → W p l e room_1 s m #[Value.ref bs] below meth c H locs (cells + 49) (slots + 7472) Q (F0 m 1120 ls [])) : W p l e room_1 s m #[Value.ref bs] below meth c H locs cells slots Q (F0 m 793 ls []) := by
  obtain ⟨ρ, wN, wV, vW, vIW, C, R, hK⟩ := I0
  have hR := Cf_R C
  refine lv_aload_n hx hb dL_law_793 rfl (lv_at hl 2 rfl) ?_
  refine lv_aload_n hx hb dL_law_794 rfl (lv_at hl 3 rfl) ?_
  refine lv_iload_n hx hb dL_law_795 rfl (lv_at hl 0 rfl) ?_
  refine lv_iconst (v := 1) hx hb dL_law_796 (by decide) ?_
  refine lv_iadd hx hb dL_law_797 ?_
  refine lv_topi (fun t_ et_ => ?_)
  obtain rfl : t_ = nI (i + 1) := et_.trans (nI_add i 1)
  refine va_sld hx hb hX hbl (Nat.not_le.mpr hbl) S.2.2.2.1 (vp_in_nI (n := i + 1) (by omega) (by omega)) dL_law_798 ?_
  refine lv_topi (fun a1 ea1 => ?_)
  refine lv_aload_n hx hb dL_law_799 rfl (lv_at hl 3 rfl) ?_
  refine lv_iload_n hx hb dL_law_800 rfl (lv_at hl 0 rfl) ?_
  refine lv_iconst (v := 2) hx hb dL_law_801 (by decide) ?_
  refine lv_iadd hx hb dL_law_802 ?_
  refine lv_topi (fun t_ et_ => ?_)
  obtain rfl : t_ = nI (i + 2) := et_.trans (nI_add i 2)
  refine va_sld hx hb hX hbl (Nat.not_le.mpr hbl) S.2.2.2.1 (vp_in_nI (n := i + 2) (by omega) (by omega)) dL_law_803 ?_
  refine lv_topi (fun a2 ea2 => ?_)
  refine lv_aload_n hx hb dL_law_804 rfl (lv_at hl 3 rfl) ?_
  refine lv_iload_n hx hb dL_law_805 rfl (lv_at hl 0 rfl) ?_
  refine lv_iconst (v := 3) hx hb dL_law_806 (by decide) ?_
  refine lv_iadd hx hb dL_law_807 ?_
  refine lv_topi (fun t_ et_ => ?_)
  obtain rfl : t_ = nI (i + 3) := et_.trans (nI_add i 3)
  refine va_sld hx hb hX hbl (Nat.not_le.mpr hbl) S.2.2.2.1 (vp_in_nI (n := i + 3) (by omega) (by omega)) dL_law_808 ?_
  refine lv_topi (fun a3 ea3 => ?_)
  obtain ⟨fx, m_x, e_x⟩ := Cf_x C
  refine q_vi (As := [.int a1, .int a2, .int a3]) (rest := []) ⟨hx, hb, hml, hown, hts⟩ (sc_join l D C a1 a2 a3) (cwV 3 hts gL_law_X8_join rfl rfl rfl (by decide +kernel) ⟨Nat.le_of_ble_eq_true rfl, Nat.le_of_ble_eq_true rfl⟩) S m_x e_x (T := TX8) (N := 8) rfl rfl hl.1 rfl (Nat.le_of_ble_eq_true rfl) dL_law_809 hroom (fun r1 L f H locs S w1 => ?_)
  obtain ⟨ρ, C, R⟩ := after8 R w1
  refine lv_pop hx hb dL_law_812 rfl ?_
  refine lv_aload_n hx hb dL_law_813 rfl (lv_at hl 1 rfl) ?_
  refine lv_aload_n hx hb dL_law_814 rfl (lv_at hl 3 rfl) ?_
  refine lv_iload_n hx hb dL_law_815 rfl (lv_at hl 0 rfl) ?_
  refine lv_iconst (v := 1) hx hb dL_law_816 (by decide) ?_
  refine lv_iadd hx hb dL_law_817 ?_
  refine lv_topi (fun t_ et_ => ?_)
  obtain rfl : t_ = nI (i + 1) := et_.trans (nI_add i 1)
  refine va_sld hx hb hX hbl (Nat.not_le.mpr hbl) S.2.2.2.1 (vp_in_nI (n := i + 1) (by omega) (by omega)) dL_law_818 ?_
  refine lv_topi (fun t_ et_ => ?_)
  obtain rfl : a1 = t_ := ea1.trans et_.symm
  refine lv_aload_n hx hb dL_law_819 rfl (lv_at hl 3 rfl) ?_
  refine lv_iload_n hx hb dL_law_820 rfl (lv_at hl 0 rfl) ?_
  refine lv_iconst (v := 2) hx hb dL_law_821 (by decide) ?_
  refine lv_iadd hx hb dL_law_822 ?_
  refine lv_topi (fun t_ et_ => ?_)
  obtain rfl : t_ = nI (i + 2) := et_.trans (nI_add i 2)
  refine va_sld hx hb hX hbl (Nat.not_le.mpr hbl) S.2.2.2.1 (vp_in_nI (n := i + 2) (by omega) (by omega)) dL_law_823 ?_
  refine lv_topi (fun t_ et_ => ?_)
  obtain rfl : a2 = t_ := ea2.trans et_.symm
  refine lv_aload_n hx hb dL_law_824 rfl (lv_at hl 3 rfl) ?_
  refine lv_iload_n hx hb dL_law_825 rfl (lv_at hl 0 rfl) ?_
  refine lv_iconst (v := 3) hx hb dL_law_826 (by decide) ?_
  refine lv_iadd hx hb dL_law_827 ?_
  refine lv_topi (fun t_ et_ => ?_)
  obtain rfl : t_ = nI (i + 3) := et_.trans (nI_add i 3)
  refine va_sld hx hb hX hbl (Nat.not_le.mpr hbl) S.2.2.2.1 (vp_in_nI (n := i + 3) (by omega) (by omega)) dL_law_828 ?_
  refine lv_topi (fun t_ et_ => ?_)
  obtain rfl : a3 = t_ := ea3.trans et_.symm
  obtain ⟨fy, m_y, e_y⟩ := CfR_y R
  refine q_vi (As := [.int a1, .int a2, .int a3]) (rest := []) ⟨hx, hb, hml, hown, hts⟩ (rc_join l D R a1 a2 a3) (cwV 3 hts gL_law_X9_join rfl rfl rfl (by decide +kernel) ⟨Nat.le_of_ble_eq_true rfl, Nat.le_of_ble_eq_true rfl⟩) S m_y e_y (T := TX9) (N := 23) rfl rfl hl.1 rfl (Nat.le_of_ble_eq_true rfl) dL_law_829 hroom (fun r2 L f H locs S w2 => ?_)
  obtain ⟨vW1, vIW1, hP, C, R⟩ := after9 C w2
  obtain ⟨e1_, e2_⟩ := hP
  rw [e1_, e2_] at R
  refine lv_pop hx hb dL_law_832 rfl ?_
  refine lv_goto (tgt := 1120) hx hb dL_law_833 (by decide) ?_
  exact kk _ _ _ _ S ⟨_, _, _, _, _, C, R, hK⟩
set_option maxHeartbeats 4000000 in
set_option maxRecDepth 100000 in
theorem law_15 {p : Program} {l : Launch} {e : Env} {s : State} {m : MethodId} {below : List Frame} {meth : Method} {c : Code} {bs Ls i cells slots : Nat} {xs : Nat → Int32} {D : va_G} {g : Nat → ClassId} {L : List Nat} {f : Nat → va_E} {H : Heap} {locs : List Loc} {ls : Array Slot} {x y : Nat} {Q : State → Prop} (hx : p.tables.exec = Jvm.exec) (hb : c.code = cL_law) (hml : c.maxLocals = 4) (hown : s.vm.findClass RL = some m.cls) (hts : ∀ w ∈ wsL_law, w.before #[Value.ref bs] s = true) (hX : va_X bs Ls xs s s.heap) (hbl : bs < s.heap.size) (hLs : Ls ≤ 3072) (hi : i + 6 ≤ Ls) (hroom : cells + 49 ≤ room_1.cells ∧ slots + 7472 ≤ room_1.slots) (S : PS D g (fun q : Nat => s.heap.size ≤ q) s.heap s L f H locs) (hl : lv_has ls 4 [(3, .int (nI i)), (2, .ref y), (1, .ref x), (0, .ref bs)]) (I0 : Inv g L f x y) (kk : ∀ (L : List Nat) (f : Nat → va_E) (H : Heap) (locs : List Loc), PS D g (fun q : Nat => s.heap.size ≤ q) s.heap s L f H locs → Inv g L f x y → W p l e room_1 s m #[Value.ref bs] below meth c H locs (cells + 49) (slots + 7472) Q (F0 m 1120 ls [])) : W p l e room_1 s m #[Value.ref bs] below meth c H locs cells slots Q (F0 m 836 ls []) := by
  obtain ⟨ρ, wN, wV, vW, vIW, C, R, hK⟩ := I0
  have hR := Cf_R C
  refine lv_aload_n hx hb dL_law_836 rfl (lv_at hl 2 rfl) ?_
  refine lv_aload_n hx hb dL_law_837 rfl (lv_at hl 3 rfl) ?_
  refine lv_iload_n hx hb dL_law_838 rfl (lv_at hl 0 rfl) ?_
  refine lv_iconst (v := 1) hx hb dL_law_839 (by decide) ?_
  refine lv_iadd hx hb dL_law_840 ?_
  refine lv_topi (fun t_ et_ => ?_)
  obtain rfl : t_ = nI (i + 1) := et_.trans (nI_add i 1)
  refine va_sld hx hb hX hbl (Nat.not_le.mpr hbl) S.2.2.2.1 (vp_in_nI (n := i + 1) (by omega) (by omega)) dL_law_841 ?_
  refine lv_topi (fun a1 ea1 => ?_)
  obtain ⟨fx, m_x, e_x⟩ := Cf_x C
  refine q_vi (As := [.int a1]) (rest := []) ⟨hx, hb, hml, hown, hts⟩ (sc_fold l D C a1) (cwV 1 hts gL_law_X8_fold rfl rfl rfl (by decide +kernel) ⟨Nat.le_of_ble_eq_true rfl, Nat.le_of_ble_eq_true rfl⟩) S m_x e_x (T := TX8) (N := 8) rfl rfl hl.1 rfl (Nat.le_of_ble_eq_true rfl) dL_law_842 hroom (fun r1 L f H locs S w1 => ?_)
  obtain ⟨ρ, C, R⟩ := after8 R w1
  refine lv_pop hx hb dL_law_845 rfl ?_
  refine lv_aload_n hx hb dL_law_846 rfl (lv_at hl 1 rfl) ?_
  refine lv_aload_n hx hb dL_law_847 rfl (lv_at hl 3 rfl) ?_
  refine lv_iload_n hx hb dL_law_848 rfl (lv_at hl 0 rfl) ?_
  refine lv_iconst (v := 1) hx hb dL_law_849 (by decide) ?_
  refine lv_iadd hx hb dL_law_850 ?_
  refine lv_topi (fun t_ et_ => ?_)
  obtain rfl : t_ = nI (i + 1) := et_.trans (nI_add i 1)
  refine va_sld hx hb hX hbl (Nat.not_le.mpr hbl) S.2.2.2.1 (vp_in_nI (n := i + 1) (by omega) (by omega)) dL_law_851 ?_
  refine lv_topi (fun t_ et_ => ?_)
  obtain rfl : a1 = t_ := ea1.trans et_.symm
  obtain ⟨fy, m_y, e_y⟩ := CfR_y R
  refine q_vi (As := [.int a1]) (rest := []) ⟨hx, hb, hml, hown, hts⟩ (rc_fold l D R a1) (cwV 1 hts gL_law_X9_fold rfl rfl rfl (by decide +kernel) ⟨Nat.le_of_ble_eq_true rfl, Nat.le_of_ble_eq_true rfl⟩) S m_y e_y (T := TX9) (N := 23) rfl rfl hl.1 rfl (Nat.le_of_ble_eq_true rfl) dL_law_852 hroom (fun r2 L f H locs S w2 => ?_)
  obtain ⟨vW1, vIW1, hP, C, R⟩ := after9 C w2
  obtain ⟨e1_, e2_⟩ := hP
  rw [e1_, e2_] at R
  refine lv_pop hx hb dL_law_855 rfl ?_
  refine lv_goto (tgt := 1120) hx hb dL_law_856 (by decide) ?_
  exact kk _ _ _ _ S ⟨_, _, _, _, _, C, R, hK⟩
set_option maxHeartbeats 4000000 in
set_option maxRecDepth 100000 in
theorem law_16 {p : Program} {l : Launch} {e : Env} {s : State} {m : MethodId} {below : List Frame} {meth : Method} {c : Code} {bs Ls i cells slots : Nat} {xs : Nat → Int32} {D : va_G} {g : Nat → ClassId} {L : List Nat} {f : Nat → va_E} {H : Heap} {locs : List Loc} {ls : Array Slot} {x y : Nat} {Q : State → Prop} (hx : p.tables.exec = Jvm.exec) (hb : c.code = cL_law) (hml : c.maxLocals = 4) (hown : s.vm.findClass RL = some m.cls) (hts : ∀ w ∈ wsL_law, w.before #[Value.ref bs] s = true) (hX : va_X bs Ls xs s s.heap) (hbl : bs < s.heap.size) (hLs : Ls ≤ 3072) (hi : i + 6 ≤ Ls) (hroom : cells + 49 ≤ room_1.cells ∧ slots + 7472 ≤ room_1.slots) (S : PS D g (fun q : Nat => s.heap.size ≤ q) s.heap s L f H locs) (hl : lv_has ls 4 [(3, .int (nI i)), (2, .ref y), (1, .ref x), (0, .ref bs)]) (I0 : Inv g L f x y) (kk : ∀ (L : List Nat) (f : Nat → va_E) (H : Heap) (locs : List Loc), PS D g (fun q : Nat => s.heap.size ≤ q) s.heap s L f H locs → Inv g L f x y → W p l e room_1 s m #[Value.ref bs] below meth c H locs (cells + 49) (slots + 7472) Q (F0 m 1120 ls [])) : W p l e room_1 s m #[Value.ref bs] below meth c H locs cells slots Q (F0 m 859 ls []) := by
  obtain ⟨ρ, wN, wV, vW, vIW, C, R, hK⟩ := I0
  have hR := Cf_R C
  refine lv_aload_n hx hb dL_law_859 rfl (lv_at hl 2 rfl) ?_
  refine lv_aload_n hx hb dL_law_860 rfl (lv_at hl 3 rfl) ?_
  refine lv_iload_n hx hb dL_law_861 rfl (lv_at hl 0 rfl) ?_
  refine lv_iconst (v := 1) hx hb dL_law_862 (by decide) ?_
  refine lv_iadd hx hb dL_law_863 ?_
  refine lv_topi (fun t_ et_ => ?_)
  obtain rfl : t_ = nI (i + 1) := et_.trans (nI_add i 1)
  refine va_sld hx hb hX hbl (Nat.not_le.mpr hbl) S.2.2.2.1 (vp_in_nI (n := i + 1) (by omega) (by omega)) dL_law_864 ?_
  refine lv_topi (fun a1 ea1 => ?_)
  refine lv_aload_n hx hb dL_law_865 rfl (lv_at hl 3 rfl) ?_
  refine lv_iload_n hx hb dL_law_866 rfl (lv_at hl 0 rfl) ?_
  refine lv_iconst (v := 2) hx hb dL_law_867 (by decide) ?_
  refine lv_iadd hx hb dL_law_868 ?_
  refine lv_topi (fun t_ et_ => ?_)
  obtain rfl : t_ = nI (i + 2) := et_.trans (nI_add i 2)
  refine va_sld hx hb hX hbl (Nat.not_le.mpr hbl) S.2.2.2.1 (vp_in_nI (n := i + 2) (by omega) (by omega)) dL_law_869 ?_
  refine lv_topi (fun a2 ea2 => ?_)
  obtain ⟨fx, m_x, e_x⟩ := Cf_x C
  refine q_vi (As := [.int a1, .int a2]) (rest := []) ⟨hx, hb, hml, hown, hts⟩ (sc_about l D C a1 a2) (cwV 2 hts gL_law_X8_about rfl rfl rfl (by decide +kernel) ⟨Nat.le_of_ble_eq_true rfl, Nat.le_of_ble_eq_true rfl⟩) S m_x e_x (T := TX8) (N := 8) rfl rfl hl.1 rfl (Nat.le_of_ble_eq_true rfl) dL_law_870 hroom (fun r1 L f H locs S w1 => ?_)
  obtain ⟨ρ, C, R⟩ := after8 R w1
  refine lv_pop hx hb dL_law_873 rfl ?_
  refine lv_aload_n hx hb dL_law_874 rfl (lv_at hl 1 rfl) ?_
  refine lv_aload_n hx hb dL_law_875 rfl (lv_at hl 3 rfl) ?_
  refine lv_iload_n hx hb dL_law_876 rfl (lv_at hl 0 rfl) ?_
  refine lv_iconst (v := 1) hx hb dL_law_877 (by decide) ?_
  refine lv_iadd hx hb dL_law_878 ?_
  refine lv_topi (fun t_ et_ => ?_)
  obtain rfl : t_ = nI (i + 1) := et_.trans (nI_add i 1)
  refine va_sld hx hb hX hbl (Nat.not_le.mpr hbl) S.2.2.2.1 (vp_in_nI (n := i + 1) (by omega) (by omega)) dL_law_879 ?_
  refine lv_topi (fun t_ et_ => ?_)
  obtain rfl : a1 = t_ := ea1.trans et_.symm
  refine lv_aload_n hx hb dL_law_880 rfl (lv_at hl 3 rfl) ?_
  refine lv_iload_n hx hb dL_law_881 rfl (lv_at hl 0 rfl) ?_
  refine lv_iconst (v := 2) hx hb dL_law_882 (by decide) ?_
  refine lv_iadd hx hb dL_law_883 ?_
  refine lv_topi (fun t_ et_ => ?_)
  obtain rfl : t_ = nI (i + 2) := et_.trans (nI_add i 2)
  refine va_sld hx hb hX hbl (Nat.not_le.mpr hbl) S.2.2.2.1 (vp_in_nI (n := i + 2) (by omega) (by omega)) dL_law_884 ?_
  refine lv_topi (fun t_ et_ => ?_)
  obtain rfl : a2 = t_ := ea2.trans et_.symm
  obtain ⟨fy, m_y, e_y⟩ := CfR_y R
  refine q_vi (As := [.int a1, .int a2]) (rest := []) ⟨hx, hb, hml, hown, hts⟩ (rc_about l D R a1 a2) (cwV 2 hts gL_law_X9_about rfl rfl rfl (by decide +kernel) ⟨Nat.le_of_ble_eq_true rfl, Nat.le_of_ble_eq_true rfl⟩) S m_y e_y (T := TX9) (N := 23) rfl rfl hl.1 rfl (Nat.le_of_ble_eq_true rfl) dL_law_885 hroom (fun r2 L f H locs S w2 => ?_)
  obtain ⟨vW1, vIW1, hP, C, R⟩ := after9 C w2
  obtain ⟨e1_, e2_⟩ := hP
  rw [e1_, e2_] at R
  refine lv_pop hx hb dL_law_888 rfl ?_
  refine lv_goto (tgt := 1120) hx hb dL_law_889 (by decide) ?_
  exact kk _ _ _ _ S ⟨_, _, _, _, _, C, R, hK⟩
set_option maxHeartbeats 4000000 in
set_option maxRecDepth 100000 in
theorem law_17 {p : Program} {l : Launch} {e : Env} {s : State} {m : MethodId} {below : List Frame} {meth : Method} {c : Code} {bs Ls i cells slots : Nat} {xs : Nat → Int32} {D : va_G} {g : Nat → ClassId} {L : List Nat} {f : Nat → va_E} {H : Heap} {locs : List Loc} {ls : Array Slot} {x y : Nat} {Q : State → Prop} (hx : p.tables.exec = Jvm.exec) (hb : c.code = cL_law) (hml : c.maxLocals = 4) (hown : s.vm.findClass RL = some m.cls) (hts : ∀ w ∈ wsL_law, w.before #[Value.ref bs] s = true) (hX : va_X bs Ls xs s s.heap) (hbl : bs < s.heap.size) (hLs : Ls ≤ 3072) (hi : i + 6 ≤ Ls) (hroom : cells + 49 ≤ room_1.cells ∧ slots + 7472 ≤ room_1.slots) (S : PS D g (fun q : Nat => s.heap.size ≤ q) s.heap s L f H locs) (hl : lv_has ls 4 [(3, .int (nI i)), (2, .ref y), (1, .ref x), (0, .ref bs)]) (I0 : Inv g L f x y) (kk : ∀ (L : List Nat) (f : Nat → va_E) (H : Heap) (locs : List Loc), PS D g (fun q : Nat => s.heap.size ≤ q) s.heap s L f H locs → Inv g L f x y → W p l e room_1 s m #[Value.ref bs] below meth c H locs (cells + 49) (slots + 7472) Q (F0 m 1120 ls [])) : W p l e room_1 s m #[Value.ref bs] below meth c H locs cells slots Q (F0 m 892 ls []) := by
  obtain ⟨ρ, wN, wV, vW, vIW, C, R, hK⟩ := I0
  have hR := Cf_R C
  refine lv_aload_n hx hb dL_law_892 rfl (lv_at hl 2 rfl) ?_
  refine lv_aload_n hx hb dL_law_893 rfl (lv_at hl 3 rfl) ?_
  refine lv_iload_n hx hb dL_law_894 rfl (lv_at hl 0 rfl) ?_
  refine lv_iconst (v := 1) hx hb dL_law_895 (by decide) ?_
  refine lv_iadd hx hb dL_law_896 ?_
  refine lv_topi (fun t_ et_ => ?_)
  obtain rfl : t_ = nI (i + 1) := et_.trans (nI_add i 1)
  refine va_sld hx hb hX hbl (Nat.not_le.mpr hbl) S.2.2.2.1 (vp_in_nI (n := i + 1) (by omega) (by omega)) dL_law_897 ?_
  refine lv_topi (fun a1 ea1 => ?_)
  refine lv_aload_n hx hb dL_law_898 rfl (lv_at hl 3 rfl) ?_
  refine lv_iload_n hx hb dL_law_899 rfl (lv_at hl 0 rfl) ?_
  refine lv_iconst (v := 2) hx hb dL_law_900 (by decide) ?_
  refine lv_iadd hx hb dL_law_901 ?_
  refine lv_topi (fun t_ et_ => ?_)
  obtain rfl : t_ = nI (i + 2) := et_.trans (nI_add i 2)
  refine va_sld hx hb hX hbl (Nat.not_le.mpr hbl) S.2.2.2.1 (vp_in_nI (n := i + 2) (by omega) (by omega)) dL_law_902 ?_
  refine lv_topi (fun a2 ea2 => ?_)
  obtain ⟨fx, m_x, e_x⟩ := Cf_x C
  refine q_vi (As := [.int a1, .int a2]) (rest := []) ⟨hx, hb, hml, hown, hts⟩ (sc_cell l D C a1 a2) (cwV 2 hts gL_law_X8_cell rfl rfl rfl (by decide +kernel) ⟨Nat.le_of_ble_eq_true rfl, Nat.le_of_ble_eq_true rfl⟩) S m_x e_x (T := TX8) (N := 8) rfl rfl hl.1 rfl (Nat.le_of_ble_eq_true rfl) dL_law_903 hroom (fun r1 L f H locs S w1 => ?_)
  obtain ⟨ρ, C, R⟩ := after8 R w1
  refine lv_pop hx hb dL_law_906 rfl ?_
  refine lv_aload_n hx hb dL_law_907 rfl (lv_at hl 1 rfl) ?_
  refine lv_aload_n hx hb dL_law_908 rfl (lv_at hl 3 rfl) ?_
  refine lv_iload_n hx hb dL_law_909 rfl (lv_at hl 0 rfl) ?_
  refine lv_iconst (v := 1) hx hb dL_law_910 (by decide) ?_
  refine lv_iadd hx hb dL_law_911 ?_
  refine lv_topi (fun t_ et_ => ?_)
  obtain rfl : t_ = nI (i + 1) := et_.trans (nI_add i 1)
  refine va_sld hx hb hX hbl (Nat.not_le.mpr hbl) S.2.2.2.1 (vp_in_nI (n := i + 1) (by omega) (by omega)) dL_law_912 ?_
  refine lv_topi (fun t_ et_ => ?_)
  obtain rfl : a1 = t_ := ea1.trans et_.symm
  refine lv_aload_n hx hb dL_law_913 rfl (lv_at hl 3 rfl) ?_
  refine lv_iload_n hx hb dL_law_914 rfl (lv_at hl 0 rfl) ?_
  refine lv_iconst (v := 2) hx hb dL_law_915 (by decide) ?_
  refine lv_iadd hx hb dL_law_916 ?_
  refine lv_topi (fun t_ et_ => ?_)
  obtain rfl : t_ = nI (i + 2) := et_.trans (nI_add i 2)
  refine va_sld hx hb hX hbl (Nat.not_le.mpr hbl) S.2.2.2.1 (vp_in_nI (n := i + 2) (by omega) (by omega)) dL_law_917 ?_
  refine lv_topi (fun t_ et_ => ?_)
  obtain rfl : a2 = t_ := ea2.trans et_.symm
  obtain ⟨fy, m_y, e_y⟩ := CfR_y R
  refine q_vi (As := [.int a1, .int a2]) (rest := []) ⟨hx, hb, hml, hown, hts⟩ (rc_cell l D R a1 a2) (cwV 2 hts gL_law_X9_cell rfl rfl rfl (by decide +kernel) ⟨Nat.le_of_ble_eq_true rfl, Nat.le_of_ble_eq_true rfl⟩) S m_y e_y (T := TX9) (N := 23) rfl rfl hl.1 rfl (Nat.le_of_ble_eq_true rfl) dL_law_918 hroom (fun r2 L f H locs S w2 => ?_)
  obtain ⟨vW1, vIW1, hP, C, R⟩ := after9 C w2
  obtain ⟨e1_, e2_⟩ := hP
  rw [e1_, e2_] at R
  refine lv_pop hx hb dL_law_921 rfl ?_
  refine lv_goto (tgt := 1120) hx hb dL_law_922 (by decide) ?_
  exact kk _ _ _ _ S ⟨_, _, _, _, _, C, R, hK⟩
set_option maxHeartbeats 4000000 in
set_option maxRecDepth 100000 in
theorem law_18 {p : Program} {l : Launch} {e : Env} {s : State} {m : MethodId} {below : List Frame} {meth : Method} {c : Code} {bs Ls i cells slots : Nat} {xs : Nat → Int32} {D : va_G} {g : Nat → ClassId} {L : List Nat} {f : Nat → va_E} {H : Heap} {locs : List Loc} {ls : Array Slot} {x y : Nat} {Q : State → Prop} (hx : p.tables.exec = Jvm.exec) (hb : c.code = cL_law) (hml : c.maxLocals = 4) (hown : s.vm.findClass RL = some m.cls) (hts : ∀ w ∈ wsL_law, w.before #[Value.ref bs] s = true) (hX : va_X bs Ls xs s s.heap) (hbl : bs < s.heap.size) (hLs : Ls ≤ 3072) (hi : i + 6 ≤ Ls) (hroom : cells + 49 ≤ room_1.cells ∧ slots + 7472 ≤ room_1.slots) (S : PS D g (fun q : Nat => s.heap.size ≤ q) s.heap s L f H locs) (hl : lv_has ls 4 [(3, .int (nI i)), (2, .ref y), (1, .ref x), (0, .ref bs)]) (I0 : Inv g L f x y) (kk : ∀ (L : List Nat) (f : Nat → va_E) (H : Heap) (locs : List Loc), PS D g (fun q : Nat => s.heap.size ≤ q) s.heap s L f H locs → Inv g L f x y → W p l e room_1 s m #[Value.ref bs] below meth c H locs (cells + 49) (slots + 7472) Q (F0 m 1120 ls [])) : W p l e room_1 s m #[Value.ref bs] below meth c H locs cells slots Q (F0 m 925 ls []) := by
  obtain ⟨ρ, wN, wV, vW, vIW, C, R, hK⟩ := I0
  have hR := Cf_R C
  refine lv_aload_n hx hb dL_law_925 rfl (lv_at hl 2 rfl) ?_
  refine lv_aload_n hx hb dL_law_926 rfl (lv_at hl 3 rfl) ?_
  refine lv_iload_n hx hb dL_law_927 rfl (lv_at hl 0 rfl) ?_
  refine lv_iconst (v := 1) hx hb dL_law_928 (by decide) ?_
  refine lv_iadd hx hb dL_law_929 ?_
  refine lv_topi (fun t_ et_ => ?_)
  obtain rfl : t_ = nI (i + 1) := et_.trans (nI_add i 1)
  refine va_sld hx hb hX hbl (Nat.not_le.mpr hbl) S.2.2.2.1 (vp_in_nI (n := i + 1) (by omega) (by omega)) dL_law_930 ?_
  refine lv_topi (fun a1 ea1 => ?_)
  refine lv_aload_n hx hb dL_law_931 rfl (lv_at hl 3 rfl) ?_
  refine lv_iload_n hx hb dL_law_932 rfl (lv_at hl 0 rfl) ?_
  refine lv_iconst (v := 2) hx hb dL_law_933 (by decide) ?_
  refine lv_iadd hx hb dL_law_934 ?_
  refine lv_topi (fun t_ et_ => ?_)
  obtain rfl : t_ = nI (i + 2) := et_.trans (nI_add i 2)
  refine va_sld hx hb hX hbl (Nat.not_le.mpr hbl) S.2.2.2.1 (vp_in_nI (n := i + 2) (by omega) (by omega)) dL_law_935 ?_
  refine lv_topi (fun a2 ea2 => ?_)
  refine lv_aload_n hx hb dL_law_936 rfl (lv_at hl 3 rfl) ?_
  refine lv_iload_n hx hb dL_law_937 rfl (lv_at hl 0 rfl) ?_
  refine lv_iconst (v := 3) hx hb dL_law_938 (by decide) ?_
  refine lv_iadd hx hb dL_law_939 ?_
  refine lv_topi (fun t_ et_ => ?_)
  obtain rfl : t_ = nI (i + 3) := et_.trans (nI_add i 3)
  refine va_sld hx hb hX hbl (Nat.not_le.mpr hbl) S.2.2.2.1 (vp_in_nI (n := i + 3) (by omega) (by omega)) dL_law_940 ?_
  refine lv_topi (fun a3 ea3 => ?_)
  obtain ⟨fx, m_x, e_x⟩ := Cf_x C
  refine q_vi (As := [.int a1, .int a2, .int a3]) (rest := []) ⟨hx, hb, hml, hown, hts⟩ (sc_layer l D C a1 a2 a3) (cwV 3 hts gL_law_X8_layer rfl rfl rfl (by decide +kernel) ⟨Nat.le_of_ble_eq_true rfl, Nat.le_of_ble_eq_true rfl⟩) S m_x e_x (T := TX8) (N := 8) rfl rfl hl.1 rfl (Nat.le_of_ble_eq_true rfl) dL_law_941 hroom (fun r1 L f H locs S w1 => ?_)
  obtain ⟨ρ, C, R⟩ := after8 R w1
  refine lv_pop hx hb dL_law_944 rfl ?_
  refine lv_aload_n hx hb dL_law_945 rfl (lv_at hl 1 rfl) ?_
  refine lv_aload_n hx hb dL_law_946 rfl (lv_at hl 3 rfl) ?_
  refine lv_iload_n hx hb dL_law_947 rfl (lv_at hl 0 rfl) ?_
  refine lv_iconst (v := 1) hx hb dL_law_948 (by decide) ?_
  refine lv_iadd hx hb dL_law_949 ?_
  refine lv_topi (fun t_ et_ => ?_)
  obtain rfl : t_ = nI (i + 1) := et_.trans (nI_add i 1)
  refine va_sld hx hb hX hbl (Nat.not_le.mpr hbl) S.2.2.2.1 (vp_in_nI (n := i + 1) (by omega) (by omega)) dL_law_950 ?_
  refine lv_topi (fun t_ et_ => ?_)
  obtain rfl : a1 = t_ := ea1.trans et_.symm
  refine lv_aload_n hx hb dL_law_951 rfl (lv_at hl 3 rfl) ?_
  refine lv_iload_n hx hb dL_law_952 rfl (lv_at hl 0 rfl) ?_
  refine lv_iconst (v := 2) hx hb dL_law_953 (by decide) ?_
  refine lv_iadd hx hb dL_law_954 ?_
  refine lv_topi (fun t_ et_ => ?_)
  obtain rfl : t_ = nI (i + 2) := et_.trans (nI_add i 2)
  refine va_sld hx hb hX hbl (Nat.not_le.mpr hbl) S.2.2.2.1 (vp_in_nI (n := i + 2) (by omega) (by omega)) dL_law_955 ?_
  refine lv_topi (fun t_ et_ => ?_)
  obtain rfl : a2 = t_ := ea2.trans et_.symm
  refine lv_aload_n hx hb dL_law_956 rfl (lv_at hl 3 rfl) ?_
  refine lv_iload_n hx hb dL_law_957 rfl (lv_at hl 0 rfl) ?_
  refine lv_iconst (v := 3) hx hb dL_law_958 (by decide) ?_
  refine lv_iadd hx hb dL_law_959 ?_
  refine lv_topi (fun t_ et_ => ?_)
  obtain rfl : t_ = nI (i + 3) := et_.trans (nI_add i 3)
  refine va_sld hx hb hX hbl (Nat.not_le.mpr hbl) S.2.2.2.1 (vp_in_nI (n := i + 3) (by omega) (by omega)) dL_law_960 ?_
  refine lv_topi (fun t_ et_ => ?_)
  obtain rfl : a3 = t_ := ea3.trans et_.symm
  obtain ⟨fy, m_y, e_y⟩ := CfR_y R
  refine q_vi (As := [.int a1, .int a2, .int a3]) (rest := []) ⟨hx, hb, hml, hown, hts⟩ (rc_layer l D R a1 a2 a3) (cwV 3 hts gL_law_X9_layer rfl rfl rfl (by decide +kernel) ⟨Nat.le_of_ble_eq_true rfl, Nat.le_of_ble_eq_true rfl⟩) S m_y e_y (T := TX9) (N := 23) rfl rfl hl.1 rfl (Nat.le_of_ble_eq_true rfl) dL_law_961 hroom (fun r2 L f H locs S w2 => ?_)
  obtain ⟨vW1, vIW1, hP, C, R⟩ := after9 C w2
  obtain ⟨e1_, e2_⟩ := hP
  rw [e1_, e2_] at R
  refine lv_pop hx hb dL_law_964 rfl ?_
  refine lv_goto (tgt := 1120) hx hb dL_law_965 (by decide) ?_
  exact kk _ _ _ _ S ⟨_, _, _, _, _, C, R, hK⟩
set_option maxHeartbeats 4000000 in
set_option maxRecDepth 100000 in
theorem law_19 {p : Program} {l : Launch} {e : Env} {s : State} {m : MethodId} {below : List Frame} {meth : Method} {c : Code} {bs Ls i cells slots : Nat} {xs : Nat → Int32} {D : va_G} {g : Nat → ClassId} {L : List Nat} {f : Nat → va_E} {H : Heap} {locs : List Loc} {ls : Array Slot} {x y : Nat} {Q : State → Prop} (hx : p.tables.exec = Jvm.exec) (hb : c.code = cL_law) (hml : c.maxLocals = 4) (hown : s.vm.findClass RL = some m.cls) (hts : ∀ w ∈ wsL_law, w.before #[Value.ref bs] s = true) (hX : va_X bs Ls xs s s.heap) (hbl : bs < s.heap.size) (hLs : Ls ≤ 3072) (hi : i + 6 ≤ Ls) (hroom : cells + 49 ≤ room_1.cells ∧ slots + 7472 ≤ room_1.slots) (S : PS D g (fun q : Nat => s.heap.size ≤ q) s.heap s L f H locs) (hl : lv_has ls 4 [(3, .int (nI i)), (2, .ref y), (1, .ref x), (0, .ref bs)]) (I0 : Inv g L f x y) (kk : ∀ (L : List Nat) (f : Nat → va_E) (H : Heap) (locs : List Loc), PS D g (fun q : Nat => s.heap.size ≤ q) s.heap s L f H locs → Inv g L f x y → W p l e room_1 s m #[Value.ref bs] below meth c H locs (cells + 49) (slots + 7472) Q (F0 m 1120 ls [])) : W p l e room_1 s m #[Value.ref bs] below meth c H locs cells slots Q (F0 m 968 ls []) := by
  obtain ⟨ρ, wN, wV, vW, vIW, C, R, hK⟩ := I0
  have hR := Cf_R C
  refine lv_aload_n hx hb dL_law_968 rfl (lv_at hl 2 rfl) ?_
  refine lv_aload_n hx hb dL_law_969 rfl (lv_at hl 3 rfl) ?_
  refine lv_iload_n hx hb dL_law_970 rfl (lv_at hl 0 rfl) ?_
  refine lv_iconst (v := 1) hx hb dL_law_971 (by decide) ?_
  refine lv_iadd hx hb dL_law_972 ?_
  refine lv_topi (fun t_ et_ => ?_)
  obtain rfl : t_ = nI (i + 1) := et_.trans (nI_add i 1)
  refine va_sld hx hb hX hbl (Nat.not_le.mpr hbl) S.2.2.2.1 (vp_in_nI (n := i + 1) (by omega) (by omega)) dL_law_973 ?_
  refine lv_topi (fun a1 ea1 => ?_)
  refine lv_aload_n hx hb dL_law_974 rfl (lv_at hl 3 rfl) ?_
  refine lv_iload_n hx hb dL_law_975 rfl (lv_at hl 0 rfl) ?_
  refine lv_iconst (v := 2) hx hb dL_law_976 (by decide) ?_
  refine lv_iadd hx hb dL_law_977 ?_
  refine lv_topi (fun t_ et_ => ?_)
  obtain rfl : t_ = nI (i + 2) := et_.trans (nI_add i 2)
  refine va_sld hx hb hX hbl (Nat.not_le.mpr hbl) S.2.2.2.1 (vp_in_nI (n := i + 2) (by omega) (by omega)) dL_law_978 ?_
  refine lv_topi (fun a2 ea2 => ?_)
  refine lv_i2l hx hb dL_law_979 rfl ?_
  refine lv_bipush (v := 32) hx hb dL_law_980 (by decide) ?_
  refine lv_lshl hx hb dL_law_982 rfl ?_
  refine lv_aload_n hx hb dL_law_983 rfl (lv_at hl 3 rfl) ?_
  refine lv_iload_n hx hb dL_law_984 rfl (lv_at hl 0 rfl) ?_
  refine lv_iconst (v := 3) hx hb dL_law_985 (by decide) ?_
  refine lv_iadd hx hb dL_law_986 ?_
  refine lv_topi (fun t_ et_ => ?_)
  obtain rfl : t_ = nI (i + 3) := et_.trans (nI_add i 3)
  refine va_sld hx hb hX hbl (Nat.not_le.mpr hbl) S.2.2.2.1 (vp_in_nI (n := i + 3) (by omega) (by omega)) dL_law_987 ?_
  refine lv_topi (fun a3 ea3 => ?_)
  refine lv_i2l hx hb dL_law_988 rfl ?_
  refine lv_ldc2 (v := (4294967295)) hx hb hown (hts (.constantLong RL 13 (4294967295)) (by decide +kernel)) dL_law_989 ?_
  refine lv_land hx hb dL_law_992 ?_
  refine lv_lor hx hb dL_law_993 ?_
  refine lv_topl (fun fs efs => ?_)
  refine lv_aload_n hx hb dL_law_994 rfl (lv_at hl 3 rfl) ?_
  refine lv_iload_n hx hb dL_law_995 rfl (lv_at hl 0 rfl) ?_
  refine lv_iconst (v := 4) hx hb dL_law_996 (by decide) ?_
  refine lv_iadd hx hb dL_law_997 ?_
  refine lv_topi (fun t_ et_ => ?_)
  obtain rfl : t_ = nI (i + 4) := et_.trans (nI_add i 4)
  refine va_sld hx hb hX hbl (Nat.not_le.mpr hbl) S.2.2.2.1 (vp_in_nI (n := i + 4) (by omega) (by omega)) dL_law_998 ?_
  refine lv_topi (fun a4 ea4 => ?_)
  obtain ⟨fx, m_x, e_x⟩ := Cf_x C
  refine q_vi (As := [.int a1, .long fs, .int a4]) (rest := []) ⟨hx, hb, hml, hown, hts⟩ (sc_mark l D C a1 fs a4) (cwV 3 hts gL_law_X8_mark rfl rfl rfl (by decide +kernel) ⟨Nat.le_of_ble_eq_true rfl, Nat.le_of_ble_eq_true rfl⟩) S m_x e_x (T := TX8) (N := 8) rfl rfl hl.1 rfl (Nat.le_of_ble_eq_true rfl) dL_law_999 hroom (fun r1 L f H locs S w1 => ?_)
  obtain ⟨ρ, C, R⟩ := after8 R w1
  refine lv_pop hx hb dL_law_1002 rfl ?_
  refine lv_aload_n hx hb dL_law_1003 rfl (lv_at hl 1 rfl) ?_
  refine lv_aload_n hx hb dL_law_1004 rfl (lv_at hl 3 rfl) ?_
  refine lv_iload_n hx hb dL_law_1005 rfl (lv_at hl 0 rfl) ?_
  refine lv_iconst (v := 1) hx hb dL_law_1006 (by decide) ?_
  refine lv_iadd hx hb dL_law_1007 ?_
  refine lv_topi (fun t_ et_ => ?_)
  obtain rfl : t_ = nI (i + 1) := et_.trans (nI_add i 1)
  refine va_sld hx hb hX hbl (Nat.not_le.mpr hbl) S.2.2.2.1 (vp_in_nI (n := i + 1) (by omega) (by omega)) dL_law_1008 ?_
  refine lv_topi (fun t_ et_ => ?_)
  obtain rfl : a1 = t_ := ea1.trans et_.symm
  refine lv_aload_n hx hb dL_law_1009 rfl (lv_at hl 3 rfl) ?_
  refine lv_iload_n hx hb dL_law_1010 rfl (lv_at hl 0 rfl) ?_
  refine lv_iconst (v := 2) hx hb dL_law_1011 (by decide) ?_
  refine lv_iadd hx hb dL_law_1012 ?_
  refine lv_topi (fun t_ et_ => ?_)
  obtain rfl : t_ = nI (i + 2) := et_.trans (nI_add i 2)
  refine va_sld hx hb hX hbl (Nat.not_le.mpr hbl) S.2.2.2.1 (vp_in_nI (n := i + 2) (by omega) (by omega)) dL_law_1013 ?_
  refine lv_topi (fun t_ et_ => ?_)
  obtain rfl : a2 = t_ := ea2.trans et_.symm
  refine lv_i2l hx hb dL_law_1014 rfl ?_
  refine lv_bipush (v := 32) hx hb dL_law_1015 (by decide) ?_
  refine lv_lshl hx hb dL_law_1017 rfl ?_
  refine lv_aload_n hx hb dL_law_1018 rfl (lv_at hl 3 rfl) ?_
  refine lv_iload_n hx hb dL_law_1019 rfl (lv_at hl 0 rfl) ?_
  refine lv_iconst (v := 3) hx hb dL_law_1020 (by decide) ?_
  refine lv_iadd hx hb dL_law_1021 ?_
  refine lv_topi (fun t_ et_ => ?_)
  obtain rfl : t_ = nI (i + 3) := et_.trans (nI_add i 3)
  refine va_sld hx hb hX hbl (Nat.not_le.mpr hbl) S.2.2.2.1 (vp_in_nI (n := i + 3) (by omega) (by omega)) dL_law_1022 ?_
  refine lv_topi (fun t_ et_ => ?_)
  obtain rfl : a3 = t_ := ea3.trans et_.symm
  refine lv_i2l hx hb dL_law_1023 rfl ?_
  refine lv_ldc2 (v := (4294967295)) hx hb hown (hts (.constantLong RL 13 (4294967295)) (by decide +kernel)) dL_law_1024 ?_
  refine lv_land hx hb dL_law_1027 ?_
  refine lv_lor hx hb dL_law_1028 ?_
  refine lv_topl (fun t_ et_ => ?_)
  obtain rfl : fs = t_ := efs.trans et_.symm
  refine lv_aload_n hx hb dL_law_1029 rfl (lv_at hl 3 rfl) ?_
  refine lv_iload_n hx hb dL_law_1030 rfl (lv_at hl 0 rfl) ?_
  refine lv_iconst (v := 4) hx hb dL_law_1031 (by decide) ?_
  refine lv_iadd hx hb dL_law_1032 ?_
  refine lv_topi (fun t_ et_ => ?_)
  obtain rfl : t_ = nI (i + 4) := et_.trans (nI_add i 4)
  refine va_sld hx hb hX hbl (Nat.not_le.mpr hbl) S.2.2.2.1 (vp_in_nI (n := i + 4) (by omega) (by omega)) dL_law_1033 ?_
  refine lv_topi (fun t_ et_ => ?_)
  obtain rfl : a4 = t_ := ea4.trans et_.symm
  obtain ⟨fy, m_y, e_y⟩ := CfR_y R
  refine q_vi (As := [.int a1, .long fs, .int a4]) (rest := []) ⟨hx, hb, hml, hown, hts⟩ (rc_mark l D R a1 fs a4) (cwV 3 hts gL_law_X9_mark rfl rfl rfl (by decide +kernel) ⟨Nat.le_of_ble_eq_true rfl, Nat.le_of_ble_eq_true rfl⟩) S m_y e_y (T := TX9) (N := 23) rfl rfl hl.1 rfl (Nat.le_of_ble_eq_true rfl) dL_law_1034 hroom (fun r2 L f H locs S w2 => ?_)
  obtain ⟨vW1, vIW1, hP, C, R⟩ := after9 C w2
  obtain ⟨e1_, e2_⟩ := hP
  rw [e1_, e2_] at R
  refine lv_pop hx hb dL_law_1037 rfl ?_
  refine lv_goto (tgt := 1120) hx hb dL_law_1038 (by decide) ?_
  exact kk _ _ _ _ S ⟨_, _, _, _, _, C, R, hK⟩
set_option maxHeartbeats 4000000 in
set_option maxRecDepth 100000 in
theorem law_20 {p : Program} {l : Launch} {e : Env} {s : State} {m : MethodId} {below : List Frame} {meth : Method} {c : Code} {bs Ls i cells slots : Nat} {xs : Nat → Int32} {D : va_G} {g : Nat → ClassId} {L : List Nat} {f : Nat → va_E} {H : Heap} {locs : List Loc} {ls : Array Slot} {x y : Nat} {Q : State → Prop} (hx : p.tables.exec = Jvm.exec) (hb : c.code = cL_law) (hml : c.maxLocals = 4) (hown : s.vm.findClass RL = some m.cls) (hts : ∀ w ∈ wsL_law, w.before #[Value.ref bs] s = true) (hX : va_X bs Ls xs s s.heap) (hbl : bs < s.heap.size) (hLs : Ls ≤ 3072) (hi : i + 6 ≤ Ls) (hroom : cells + 49 ≤ room_1.cells ∧ slots + 7472 ≤ room_1.slots) (S : PS D g (fun q : Nat => s.heap.size ≤ q) s.heap s L f H locs) (hl : lv_has ls 4 [(3, .int (nI i)), (2, .ref y), (1, .ref x), (0, .ref bs)]) (I0 : Inv g L f x y) (kk : ∀ (L : List Nat) (f : Nat → va_E) (H : Heap) (locs : List Loc), PS D g (fun q : Nat => s.heap.size ≤ q) s.heap s L f H locs → Inv g L f x y → W p l e room_1 s m #[Value.ref bs] below meth c H locs (cells + 49) (slots + 7472) Q (F0 m 1120 ls [])) : W p l e room_1 s m #[Value.ref bs] below meth c H locs cells slots Q (F0 m 1041 ls []) := by
  obtain ⟨ρ, wN, wV, vW, vIW, C, R, hK⟩ := I0
  have hR := Cf_R C
  refine lv_aload_n hx hb dL_law_1041 rfl (lv_at hl 2 rfl) ?_
  refine lv_aload_n hx hb dL_law_1042 rfl (lv_at hl 3 rfl) ?_
  refine lv_iload_n hx hb dL_law_1043 rfl (lv_at hl 0 rfl) ?_
  refine lv_iconst (v := 1) hx hb dL_law_1044 (by decide) ?_
  refine lv_iadd hx hb dL_law_1045 ?_
  refine lv_topi (fun t_ et_ => ?_)
  obtain rfl : t_ = nI (i + 1) := et_.trans (nI_add i 1)
  refine va_sld hx hb hX hbl (Nat.not_le.mpr hbl) S.2.2.2.1 (vp_in_nI (n := i + 1) (by omega) (by omega)) dL_law_1046 ?_
  refine lv_topi (fun a1 ea1 => ?_)
  refine lv_aload_n hx hb dL_law_1047 rfl (lv_at hl 3 rfl) ?_
  refine lv_iload_n hx hb dL_law_1048 rfl (lv_at hl 0 rfl) ?_
  refine lv_iconst (v := 2) hx hb dL_law_1049 (by decide) ?_
  refine lv_iadd hx hb dL_law_1050 ?_
  refine lv_topi (fun t_ et_ => ?_)
  obtain rfl : t_ = nI (i + 2) := et_.trans (nI_add i 2)
  refine va_sld hx hb hX hbl (Nat.not_le.mpr hbl) S.2.2.2.1 (vp_in_nI (n := i + 2) (by omega) (by omega)) dL_law_1051 ?_
  refine lv_topi (fun a2 ea2 => ?_)
  refine lv_aload_n hx hb dL_law_1052 rfl (lv_at hl 3 rfl) ?_
  refine lv_iload_n hx hb dL_law_1053 rfl (lv_at hl 0 rfl) ?_
  refine lv_iconst (v := 3) hx hb dL_law_1054 (by decide) ?_
  refine lv_iadd hx hb dL_law_1055 ?_
  refine lv_topi (fun t_ et_ => ?_)
  obtain rfl : t_ = nI (i + 3) := et_.trans (nI_add i 3)
  refine va_sld hx hb hX hbl (Nat.not_le.mpr hbl) S.2.2.2.1 (vp_in_nI (n := i + 3) (by omega) (by omega)) dL_law_1056 ?_
  refine lv_topi (fun a3 ea3 => ?_)
  refine lv_aload_n hx hb dL_law_1057 rfl (lv_at hl 3 rfl) ?_
  refine lv_iload_n hx hb dL_law_1058 rfl (lv_at hl 0 rfl) ?_
  refine lv_iconst (v := 4) hx hb dL_law_1059 (by decide) ?_
  refine lv_iadd hx hb dL_law_1060 ?_
  refine lv_topi (fun t_ et_ => ?_)
  obtain rfl : t_ = nI (i + 4) := et_.trans (nI_add i 4)
  refine va_sld hx hb hX hbl (Nat.not_le.mpr hbl) S.2.2.2.1 (vp_in_nI (n := i + 4) (by omega) (by omega)) dL_law_1061 ?_
  refine lv_topi (fun a4 ea4 => ?_)
  obtain ⟨fx, m_x, e_x⟩ := Cf_x C
  refine q_vi (As := [.int a1, .int a2, .int a3, .int a4]) (rest := []) ⟨hx, hb, hml, hown, hts⟩ (sc_fewest l D C a1 a2 a3 a4) (cwV 4 hts gL_law_X8_fewest rfl rfl rfl (by decide +kernel) ⟨Nat.le_of_ble_eq_true rfl, Nat.le_of_ble_eq_true rfl⟩) S m_x e_x (T := TX8) (N := 8) rfl rfl hl.1 rfl (Nat.le_of_ble_eq_true rfl) dL_law_1062 hroom (fun r1 L f H locs S w1 => ?_)
  obtain ⟨ρ, C, R⟩ := after8 R w1
  refine lv_pop hx hb dL_law_1065 rfl ?_
  refine lv_aload_n hx hb dL_law_1066 rfl (lv_at hl 1 rfl) ?_
  refine lv_aload_n hx hb dL_law_1067 rfl (lv_at hl 3 rfl) ?_
  refine lv_iload_n hx hb dL_law_1068 rfl (lv_at hl 0 rfl) ?_
  refine lv_iconst (v := 1) hx hb dL_law_1069 (by decide) ?_
  refine lv_iadd hx hb dL_law_1070 ?_
  refine lv_topi (fun t_ et_ => ?_)
  obtain rfl : t_ = nI (i + 1) := et_.trans (nI_add i 1)
  refine va_sld hx hb hX hbl (Nat.not_le.mpr hbl) S.2.2.2.1 (vp_in_nI (n := i + 1) (by omega) (by omega)) dL_law_1071 ?_
  refine lv_topi (fun t_ et_ => ?_)
  obtain rfl : a1 = t_ := ea1.trans et_.symm
  refine lv_aload_n hx hb dL_law_1072 rfl (lv_at hl 3 rfl) ?_
  refine lv_iload_n hx hb dL_law_1073 rfl (lv_at hl 0 rfl) ?_
  refine lv_iconst (v := 2) hx hb dL_law_1074 (by decide) ?_
  refine lv_iadd hx hb dL_law_1075 ?_
  refine lv_topi (fun t_ et_ => ?_)
  obtain rfl : t_ = nI (i + 2) := et_.trans (nI_add i 2)
  refine va_sld hx hb hX hbl (Nat.not_le.mpr hbl) S.2.2.2.1 (vp_in_nI (n := i + 2) (by omega) (by omega)) dL_law_1076 ?_
  refine lv_topi (fun t_ et_ => ?_)
  obtain rfl : a2 = t_ := ea2.trans et_.symm
  refine lv_aload_n hx hb dL_law_1077 rfl (lv_at hl 3 rfl) ?_
  refine lv_iload_n hx hb dL_law_1078 rfl (lv_at hl 0 rfl) ?_
  refine lv_iconst (v := 3) hx hb dL_law_1079 (by decide) ?_
  refine lv_iadd hx hb dL_law_1080 ?_
  refine lv_topi (fun t_ et_ => ?_)
  obtain rfl : t_ = nI (i + 3) := et_.trans (nI_add i 3)
  refine va_sld hx hb hX hbl (Nat.not_le.mpr hbl) S.2.2.2.1 (vp_in_nI (n := i + 3) (by omega) (by omega)) dL_law_1081 ?_
  refine lv_topi (fun t_ et_ => ?_)
  obtain rfl : a3 = t_ := ea3.trans et_.symm
  refine lv_aload_n hx hb dL_law_1082 rfl (lv_at hl 3 rfl) ?_
  refine lv_iload_n hx hb dL_law_1083 rfl (lv_at hl 0 rfl) ?_
  refine lv_iconst (v := 4) hx hb dL_law_1084 (by decide) ?_
  refine lv_iadd hx hb dL_law_1085 ?_
  refine lv_topi (fun t_ et_ => ?_)
  obtain rfl : t_ = nI (i + 4) := et_.trans (nI_add i 4)
  refine va_sld hx hb hX hbl (Nat.not_le.mpr hbl) S.2.2.2.1 (vp_in_nI (n := i + 4) (by omega) (by omega)) dL_law_1086 ?_
  refine lv_topi (fun t_ et_ => ?_)
  obtain rfl : a4 = t_ := ea4.trans et_.symm
  obtain ⟨fy, m_y, e_y⟩ := CfR_y R
  refine q_vi (As := [.int a1, .int a2, .int a3, .int a4]) (rest := []) ⟨hx, hb, hml, hown, hts⟩ (rc_fewest l D R a1 a2 a3 a4) (cwV 4 hts gL_law_X9_fewest rfl rfl rfl (by decide +kernel) ⟨Nat.le_of_ble_eq_true rfl, Nat.le_of_ble_eq_true rfl⟩) S m_y e_y (T := TX9) (N := 23) rfl rfl hl.1 rfl (Nat.le_of_ble_eq_true rfl) dL_law_1087 hroom (fun r2 L f H locs S w2 => ?_)
  obtain ⟨vW1, vIW1, hP, C, R⟩ := after9 C w2
  obtain ⟨e1_, e2_⟩ := hP
  rw [e1_, e2_] at R
  refine lv_pop hx hb dL_law_1090 rfl ?_
  refine lv_goto (tgt := 1120) hx hb dL_law_1091 (by decide) ?_
  exact kk _ _ _ _ S ⟨_, _, _, _, _, C, R, hK⟩
set_option maxHeartbeats 4000000 in
set_option maxRecDepth 100000 in
theorem law_21 {p : Program} {l : Launch} {e : Env} {s : State} {m : MethodId} {below : List Frame} {meth : Method} {c : Code} {bs Ls i cells slots : Nat} {xs : Nat → Int32} {D : va_G} {g : Nat → ClassId} {L : List Nat} {f : Nat → va_E} {H : Heap} {locs : List Loc} {ls : Array Slot} {x y : Nat} {Q : State → Prop} (hx : p.tables.exec = Jvm.exec) (hb : c.code = cL_law) (hml : c.maxLocals = 4) (hown : s.vm.findClass RL = some m.cls) (hts : ∀ w ∈ wsL_law, w.before #[Value.ref bs] s = true) (hX : va_X bs Ls xs s s.heap) (hbl : bs < s.heap.size) (hLs : Ls ≤ 3072) (hi : i + 6 ≤ Ls) (hroom : cells + 49 ≤ room_1.cells ∧ slots + 7472 ≤ room_1.slots) (S : PS D g (fun q : Nat => s.heap.size ≤ q) s.heap s L f H locs) (hl : lv_has ls 4 [(3, .int (nI i)), (2, .ref y), (1, .ref x), (0, .ref bs)]) (I0 : Inv g L f x y) (kk : ∀ (L : List Nat) (f : Nat → va_E) (H : Heap) (locs : List Loc), PS D g (fun q : Nat => s.heap.size ≤ q) s.heap s L f H locs → Inv g L f x y → W p l e room_1 s m #[Value.ref bs] below meth c H locs (cells + 49) (slots + 7472) Q (F0 m 1120 ls [])) : W p l e room_1 s m #[Value.ref bs] below meth c H locs cells slots Q (F0 m 1094 ls []) := by
  obtain ⟨ρ, wN, wV, vW, vIW, C, R, hK⟩ := I0
  have hR := Cf_R C
  refine lv_aload_n hx hb dL_law_1094 rfl (lv_at hl 2 rfl) ?_
  obtain ⟨fx, m_x, e_x⟩ := Cf_x C
  refine q_vi (As := []) (rest := []) ⟨hx, hb, hml, hown, hts⟩ (sc_remove l D C) (cwV 0 hts gL_law_X8_remove rfl rfl rfl (by decide +kernel) ⟨Nat.le_of_ble_eq_true rfl, Nat.le_of_ble_eq_true rfl⟩) S m_x e_x (T := TX8) (N := 8) rfl rfl hl.1 rfl (Nat.le_of_ble_eq_true rfl) dL_law_1095 hroom (fun r1 L f H locs S w1 => ?_)
  obtain ⟨ρ, C, R⟩ := after8 R w1
  refine lv_pop hx hb dL_law_1098 rfl ?_
  refine lv_aload_n hx hb dL_law_1099 rfl (lv_at hl 1 rfl) ?_
  obtain ⟨fy, m_y, e_y⟩ := CfR_y R
  refine q_vi (As := []) (rest := []) ⟨hx, hb, hml, hown, hts⟩ (rc_remove l D R) (cwV 0 hts gL_law_X9_remove rfl rfl rfl (by decide +kernel) ⟨Nat.le_of_ble_eq_true rfl, Nat.le_of_ble_eq_true rfl⟩) S m_y e_y (T := TX9) (N := 23) rfl rfl hl.1 rfl (Nat.le_of_ble_eq_true rfl) dL_law_1100 hroom (fun r2 L f H locs S w2 => ?_)
  obtain ⟨vW1, vIW1, hP, C, R⟩ := after9 C w2
  obtain ⟨e1_, e2_⟩ := hP
  rw [e1_, e2_] at R
  refine lv_pop hx hb dL_law_1103 rfl ?_
  refine lv_goto (tgt := 1120) hx hb dL_law_1104 (by decide) ?_
  exact kk _ _ _ _ S ⟨_, _, _, _, _, C, R, hK⟩
set_option maxHeartbeats 4000000 in
set_option maxRecDepth 100000 in
theorem law_22 {p : Program} {l : Launch} {e : Env} {s : State} {m : MethodId} {below : List Frame} {meth : Method} {c : Code} {bs Ls i cells slots : Nat} {xs : Nat → Int32} {D : va_G} {g : Nat → ClassId} {L : List Nat} {f : Nat → va_E} {H : Heap} {locs : List Loc} {ls : Array Slot} {x y : Nat} {Q : State → Prop} (hx : p.tables.exec = Jvm.exec) (hb : c.code = cL_law) (hml : c.maxLocals = 4) (hown : s.vm.findClass RL = some m.cls) (hts : ∀ w ∈ wsL_law, w.before #[Value.ref bs] s = true) (hX : va_X bs Ls xs s s.heap) (hbl : bs < s.heap.size) (hLs : Ls ≤ 3072) (hi : i + 6 ≤ Ls) (hroom : cells + 49 ≤ room_1.cells ∧ slots + 7472 ≤ room_1.slots) (S : PS D g (fun q : Nat => s.heap.size ≤ q) s.heap s L f H locs) (hl : lv_has ls 4 [(3, .int (nI i)), (2, .ref y), (1, .ref x), (0, .ref bs)]) (I0 : Inv g L f x y) (kk : ∀ (L : List Nat) (f : Nat → va_E) (H : Heap) (locs : List Loc), PS D g (fun q : Nat => s.heap.size ≤ q) s.heap s L f H locs → Inv g L f x y → W p l e room_1 s m #[Value.ref bs] below meth c H locs (cells + 49) (slots + 7472) Q (F0 m 1120 ls [])) : W p l e room_1 s m #[Value.ref bs] below meth c H locs cells slots Q (F0 m 1107 ls []) := by
  obtain ⟨ρ, wN, wV, vW, vIW, C, R, hK⟩ := I0
  have hR := Cf_R C
  refine lv_aload_n hx hb dL_law_1107 rfl (lv_at hl 2 rfl) ?_
  obtain ⟨fx, m_x, e_x⟩ := Cf_x C
  refine q_vi (As := []) (rest := []) ⟨hx, hb, hml, hown, hts⟩ (sc_sieves l D C) (cwV 0 hts gL_law_X8_sieves rfl rfl rfl (by decide +kernel) ⟨Nat.le_of_ble_eq_true rfl, Nat.le_of_ble_eq_true rfl⟩) S m_x e_x (T := TX8) (N := 8) rfl rfl hl.1 rfl (Nat.le_of_ble_eq_true rfl) dL_law_1108 hroom (fun r1 L f H locs S w1 => ?_)
  obtain ⟨ρ, C, R⟩ := after8 R w1
  refine lv_pop hx hb dL_law_1111 rfl ?_
  refine lv_aload_n hx hb dL_law_1112 rfl (lv_at hl 1 rfl) ?_
  obtain ⟨fy, m_y, e_y⟩ := CfR_y R
  refine q_vi (As := []) (rest := []) ⟨hx, hb, hml, hown, hts⟩ (rc_sieves l D R) (cwV 0 hts gL_law_X9_sieves rfl rfl rfl (by decide +kernel) ⟨Nat.le_of_ble_eq_true rfl, Nat.le_of_ble_eq_true rfl⟩) S m_y e_y (T := TX9) (N := 23) rfl rfl hl.1 rfl (Nat.le_of_ble_eq_true rfl) dL_law_1113 hroom (fun r2 L f H locs S w2 => ?_)
  obtain ⟨vW1, vIW1, hP, C, R⟩ := after9 C w2
  obtain ⟨e1_, e2_⟩ := hP
  rw [e1_, e2_] at R
  refine lv_pop hx hb dL_law_1116 rfl ?_
  refine lv_goto (tgt := 1120) hx hb dL_law_1117 (by decide) ?_
  exact kk _ _ _ _ S ⟨_, _, _, _, _, C, R, hK⟩
