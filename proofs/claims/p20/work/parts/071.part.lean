/-! ===== the class: join, solve, layered ===== -/
theorem like_ok (akd asz amk asd bkd bsz bmk bsd : Int32) : OK (mX6_isMarkedLike akd asz amk asd bkd bsz bmk bsd) (fun _ => True) := OK_ite (fun _ => OK_ite (fun _ => OK_ite (fun _ => OK_ite (fun _ => OK_ite (fun _ => OK_some trivial) (fun _ => OK_some trivial)) (fun _ => OK_some trivial)) (fun _ => OK_some trivial)) (fun _ => OK_some trivial)) (fun _ => OK_some trivial)
theorem sjoinE_ok {M : Nat} (hM : M < 30) {akd asz amk an bn kd sz mk n : Int32} (ha : SV akd asz amk an) (hb : BN bn) (h : SV kd sz mk n) (ho asd : Int32) (akc : Nat → Int32) (av : Nat → Int64) (bkd bsz bmk bsd : Int32) (bkc : Nat → Int32) (bv : Nat → Int64) (sd : Int32) (kc : Nat → Int32) (v : Nat → Int64) : OK (mX8_joinE (nI M) ho akd asz amk asd akc an av bkd bsz bmk bsd bkc bn bv kd sz mk sd kc n v) (fun z => NS M kd z.2.1 z.2.2.1 z.2.2.2.1 z.2.2.2.2.1 z.2.2.2.2.2.2.2.1) := by
  obtain ⟨hm, hn, Z, hZ, rfl, -⟩ := ha
  have n4 : ¬ (0 : Int32) = 4 := by decide
  have hv : ∀ {x : Int32}, BN x → SV 0 (nI Z) amk x := fun hx => ⟨hm, hx, Z, hZ, rfl, fun q => absurd q (show ¬ (0 : Int32) = 2 by decide)⟩
  unfold mX8_joinE
  exact OK_ite (fun _ => OK_some (NS_old h)) (fun _ => OK_ite (fun _ => OK_bind (like_ok _ _ _ _ _ _ _ _) (fun _ _ => OK_ite (fun _ => OK_some (NS_old h)) (fun _ => OK_be (slotE_v hM) (OK_ite (fun _ => OK_ite (fun _ => OK_be rfl (OK_be rfl (OK_ite (fun _ => OK_be (begin6_v _ _ _ _ _) (OK_bind (joinBits_ok hZ _ _ _ _) (fun _ _ => OK_ite (fun _ => OK_bind (together_ok hn hb _ _ _) (fun _ hy => OK_some (NS_new (hv hy) n4))) (fun _ => OK_bind (shared_ok hn hb _ _ _) (fun _ hy => OK_some (NS_new (hv hy) n4)))))) (fun _ => OK_some (NS_old h))))) (fun _ => OK_be (begin6_v _ _ _ _ _) (OK_bind (joinBits_ok hZ _ _ _ _) (fun _ _ => OK_ite (fun _ => OK_bind (together_ok hn hb _ _ _) (fun _ hy => OK_some (NS_new (hv hy) n4))) (fun _ => OK_bind (shared_ok hn hb _ _ _) (fun _ hy => OK_some (NS_new (hv hy) n4))))))) (fun _ => OK_ite (fun _ => OK_be rfl (OK_be rfl (OK_ite (fun _ => OK_be (begin6_v _ _ _ _ _) (OK_bind (joinBits_ok hZ _ _ _ _) (fun _ _ => OK_ite (fun _ => OK_bind (together_ok hn hb _ _ _) (fun _ hy => OK_some (NS_new (hv hy) n4))) (fun _ => OK_bind (shared_ok hn hb _ _ _) (fun _ hy => OK_some (NS_new (hv hy) n4)))))) (fun _ => OK_some (NS_old h))))) (fun _ => OK_be (begin6_v _ _ _ _ _) (OK_bind (joinBits_ok hZ _ _ _ _) (fun _ _ => OK_ite (fun _ => OK_bind (together_ok hn hb _ _ _) (fun _ hy => OK_some (NS_new (hv hy) n4))) (fun _ => OK_bind (shared_ok hn hb _ _ _) (fun _ hy => OK_some (NS_new (hv hy) n4))))))))))) (fun _ => OK_some (NS_old h)))
theorem SV_0 : SV 0 0 0 0 := ⟨⟨0, by decide, rfl⟩, BN_0, 0, by decide, rfl, fun _ => by decide⟩
theorem sjoinF_ok {M : Nat} (hM : M < 30) {akd asz amk asd an bkd bsz bmk bsd bn ho : Int32} (ha : SV akd asz amk an) (hb : BN bn) (h0 : ¬ ho < 0) (h1 : ho ≤ 1) (e : ¬ mX6_isMarkedLike akd asz amk asd bkd bsz bmk bsd = some 0) (akc : Nat → Int32) (av : Nat → Int64) (bkc : Nat → Int32) (bv : Nat → Int64) : OK (mX8_joinF (nI M) ho akd asz amk asd akc an av bkd bsz bmk bsd bkc bn bv) (fun z => NS M 0 z.2.1 z.2.2.1 z.2.2.2.1 z.2.2.2.2.1 z.2.2.2.2.2.2.2.1) := by
  obtain ⟨z, ez, -⟩ := like_ok akd asz amk asd bkd bsz bmk bsd
  have q : ¬ z = 0 := fun q => e (by rw [ez, q])
  obtain ⟨hm, hn, Z, hZ, rfl, -⟩ := ha
  have n4 : ¬ (0 : Int32) = 4 := by decide
  have hv : ∀ {x : Int32}, BN x → SV 0 (nI Z) amk x := fun hx => ⟨hm, hx, Z, hZ, rfl, fun q => absurd q (show ¬ (0 : Int32) = 2 by decide)⟩
  unfold mX8_joinF
  exact OK_F h0 (OK_T h1 (OK_be ez (OK_F q (OK_be (slotF_v hM) (OK_ite (fun _ => OK_ite (fun _ => OK_be rfl (OK_be rfl (OK_ite (fun _ => OK_be (begin6_v _ _ _ _ _) (OK_bind (joinBits_ok hZ _ _ _ _) (fun _ _ => OK_ite (fun _ => OK_bind (together_ok hn hb _ _ _) (fun _ hy => OK_some (NS_new (hv hy) n4))) (fun _ => OK_bind (shared_ok hn hb _ _ _) (fun _ hy => OK_some (NS_new (hv hy) n4)))))) (fun _ => OK_some (NS_old SV_0))))) (fun _ => OK_be (begin6_v _ _ _ _ _) (OK_bind (joinBits_ok hZ _ _ _ _) (fun _ _ => OK_ite (fun _ => OK_bind (together_ok hn hb _ _ _) (fun _ hy => OK_some (NS_new (hv hy) n4))) (fun _ => OK_bind (shared_ok hn hb _ _ _) (fun _ hy => OK_some (NS_new (hv hy) n4))))))) (fun _ => OK_ite (fun _ => OK_be rfl (OK_be rfl (OK_ite (fun _ => OK_be (begin6_v _ _ _ _ _) (OK_bind (joinBits_ok hZ _ _ _ _) (fun _ _ => OK_ite (fun _ => OK_bind (together_ok hn hb _ _ _) (fun _ hy => OK_some (NS_new (hv hy) n4))) (fun _ => OK_bind (shared_ok hn hb _ _ _) (fun _ hy => OK_some (NS_new (hv hy) n4)))))) (fun _ => OK_some (NS_old SV_0))))) (fun _ => OK_be (begin6_v _ _ _ _ _) (OK_bind (joinBits_ok hZ _ _ _ _) (fun _ _ => OK_ite (fun _ => OK_bind (together_ok hn hb _ _ _) (fun _ hy => OK_some (NS_new (hv hy) n4))) (fun _ => OK_bind (shared_ok hn hb _ _ _) (fun _ hy => OK_some (NS_new (hv hy) n4))))))))))))
theorem sjoinX_ok (ho akd asz amk asd bkd bsz bmk bsd : Int32) : OK (mX8_joinX (nI 30) ho akd asz amk asd bkd bsz bmk bsd) (fun _ => True) := OK_ite (fun _ => OK_some trivial) (fun _ => OK_ite (fun _ => OK_bind (like_ok _ _ _ _ _ _ _ _) (fun _ _ => OK_ite (fun _ => OK_some trivial) (fun _ => OK_be slotN_v (OK_ite (fun _ => OK_some trivial) (fun _ => OK_some trivial))))) (fun _ => OK_some trivial))
theorem sjoinR_ok {ho akd asz amk asd bkd bsz bmk bsd : Int32} (h : ho < 0 ∨ ¬ ho ≤ 1 ∨ mX6_isMarkedLike akd asz amk asd bkd bsz bmk bsd = some 0) : OK (mX8_joinR ho akd asz amk asd bkd bsz bmk bsd) (fun _ => True) := by
  unfold mX8_joinR
  refine OK_ite (fun _ => OK_some trivial) (fun h0 => OK_ite (fun h1 => ?_) (fun _ => OK_some trivial))
  rcases h with q | q | q
  · exact absurd q h0
  · exact absurd h1 q
  · exact OK_be q (OK_T rfl (OK_some trivial))
theorem m1_lt : ¬ (0 : Int32) ≤ -1 := by decide
theorem ssolveE_ok {M : Nat} (hM : M < 30) {wn kd sz mk n : Int32} (hw : BN wn) (h : SV kd sz mk n) (sd_ : Int32) (wv : Nat → Int64) (vpa vta vlf vbl : Nat → Int32) (z0 : Int32) (vsw : Nat → Int64) (vtt vtp : Nat → Int32) (sd : Int32) (kc : Nat → Int32) (v : Nat → Int64) : OK (mX8_solveE (nI M) sd_ wn wv vpa vta vlf vbl z0 vsw vtt vtp kd sz mk sd kc n v) (fun z => NS M kd z.2.1 z.2.2.2.2.2.2.2.2.2.2.2.2.1 z.2.2.2.2.2.2.2.2.2.2.2.2.2.1 z.2.2.2.2.2.2.2.2.2.2.2.2.2.2.1 z.2.2.2.2.2.2.2.2.2.2.2.2.2.2.2.2.2.1) := by
  have hw2 := hw
  obtain ⟨N, hN, rfl⟩ := hw2
  unfold mX8_solveE
  refine OK_bind (tries_v hN vpa vta vlf vbl z0 vsw vtt vtp wv sd_) ?_
  rintro z ⟨e1, e2, ⟨e3, -⟩ | ⟨τ, hτ, e3, -, hT⟩⟩
  · rw [e3]
    exact OK_F m1_lt (OK_some (NS_old h))
  · have hc := cOf_b hN
    rw [e3, e2, e1]
    refine OK_T (nI_pos' (by omega)) (OK_be (slotE_v hM) (OK_be rfl ?_))
    rw [show (3 : Int32) * nI (cOf N) = nI (3 * cOf N) from pk_mul 3 (cOf N)]
    exact OK_be (begin6_v _ _ _ _ _) (OK_bind (cpy_ok hw _ _) (fun y hy => OK_bind (fill7_ok hN hT _) (fun _ _ => OK_some (NS_new ⟨⟨0, by decide, rfl⟩, hy.2, 3 * cOf N, by omega, rfl, fun q => absurd q (show ¬ (3 : Int32) = 2 by decide)⟩ (show ¬ (3 : Int32) = 4 by decide)))))
theorem ssolveF_ok {M : Nat} (hM : M < 30) {wn : Int32} (hw : BN wn) (sd_ : Int32) (wv : Nat → Int64) (vpa vta vlf vbl : Nat → Int32) (z0 : Int32) (vsw : Nat → Int64) (vtt vtp : Nat → Int32) (hg : ∀ z, mX7_triesUntilSolved vpa vta vlf vbl z0 vsw vtt vtp wn wv sd_ = some z → 0 ≤ z.1) : OK (mX8_solveF (nI M) sd_ wn wv vpa vta vlf vbl z0 vsw vtt vtp) (fun z => NS M 0 z.2.1 z.2.2.2.2.2.2.2.2.2.2.2.2.1 z.2.2.2.2.2.2.2.2.2.2.2.2.2.1 z.2.2.2.2.2.2.2.2.2.2.2.2.2.2.1 z.2.2.2.2.2.2.2.2.2.2.2.2.2.2.2.2.2.1) := by
  have hw2 := hw
  obtain ⟨N, hN, rfl⟩ := hw2
  unfold mX8_solveF
  obtain ⟨z, ez, e1, e2, ⟨e3, -⟩ | ⟨τ, hτ, e3, -, hT⟩⟩ := tries_v hN vpa vta vlf vbl z0 vsw vtt vtp wv sd_
  · exact absurd (hg z ez) (by rw [e3]; exact m1_lt)
  · have hc := cOf_b hN
    refine OK_be ez ?_
    rw [e3, e2, e1]
    refine OK_T (nI_pos' (by omega)) (OK_be (slotF_v hM) (OK_be rfl ?_))
    rw [show (3 : Int32) * nI (cOf N) = nI (3 * cOf N) from pk_mul 3 (cOf N)]
    exact OK_be (begin6_v _ _ _ _ _) (OK_bind (cpy_ok hw _ _) (fun y hy => OK_bind (fill7_ok hN hT _) (fun _ _ => OK_some (NS_new ⟨⟨0, by decide, rfl⟩, hy.2, 3 * cOf N, by omega, rfl, fun q => absurd q (show ¬ (3 : Int32) = 2 by decide)⟩ (show ¬ (3 : Int32) = 4 by decide)))))
theorem ssolveX_ok {wn : Int32} (hw : BN wn) (sd_ : Int32) (wv : Nat → Int64) (vpa vta vlf vbl : Nat → Int32) (z0 : Int32) (vsw : Nat → Int64) (vtt vtp : Nat → Int32) : OK (mX8_solveX (nI 30) sd_ wn wv vpa vta vlf vbl z0 vsw vtt vtp) (fun _ => True) := by
  obtain ⟨N, hN, rfl⟩ := hw
  unfold mX8_solveX
  exact OK_bind (tries_v hN vpa vta vlf vbl z0 vsw vtt vtp wv sd_) (fun _ _ => OK_ite (fun _ => OK_be slotN_v (OK_some trivial)) (fun _ => OK_some trivial))
theorem ssolveR_ok {wn : Int32} (hw : BN wn) (sd_ : Int32) (wv : Nat → Int64) (vpa vta vlf vbl : Nat → Int32) (z0 : Int32) (vsw : Nat → Int64) (vtt vtp : Nat → Int32) (hg : ∀ z, mX7_triesUntilSolved vpa vta vlf vbl z0 vsw vtt vtp wn wv sd_ = some z → ¬ 0 ≤ z.1) : OK (mX8_solveR sd_ wn wv vpa vta vlf vbl z0 vsw vtt vtp) (fun _ => True) := by
  obtain ⟨N, hN, rfl⟩ := hw
  unfold mX8_solveR
  obtain ⟨z, ez, -⟩ := tries_v hN vpa vta vlf vbl z0 vsw vtt vtp wv sd_
  exact OK_be ez (OK_F (hg z ez) (OK_some trivial))
theorem blL_ok {n1 n2 : Int32} (h1 : BN n1) (h2 : BN n2) {lz : Nat → Int32} (hz : LZ lz) (kc kca : Nat → Int32) (rv : Nat → Int64) (ld : Nat → Nat → Int64) (v1 v2 : Nat → Int64) (n3 : Int32) (v3 : Nat → Int64) (nsd : Int32) : OK (mX6_beginLayeredL kc kca rv lz ld n1 v1 n2 v2 n3 v3 nsd) (fun z => z.1 = 4 ∧ (∃ Z, Z ≤ 20 ∧ z.2.1 = nI Z) ∧ z.2.2.1 = 3 ∧ LN z.2.2.2.2.2.2.1 z.2.2.2.2.2.2.2.2.2.1 z.2.2.2.2.2.2.2.2.2.2.2.1) := by
  unfold mX6_beginLayeredL
  exact OK_bind (build_ok h1 h2 hz _ _ _ _ _ _ _ _) (fun z hz => OK_be rfl (OK_be (begin6_v _ _ _ _ _) (OK_some ⟨rfl, hz.1, rfl, hz⟩)))
theorem blN_ok {n1 n2 : Int32} (h1 : BN n1) (h2 : BN n2) (kc : Nat → Int32) (v1 v2 : Nat → Int64) (n3 : Int32) (v3 : Nat → Int64) (nsd : Int32) : OK (mX6_beginLayeredN kc n1 v1 n2 v2 n3 v3 nsd) (fun z => z.1 = 4 ∧ (∃ Z, Z ≤ 20 ∧ z.2.1 = nI Z) ∧ z.2.2.1 = 3 ∧ LN z.2.2.2.2.2.2.1 z.2.2.2.2.2.2.2.2.2.1 z.2.2.2.2.2.2.2.2.2.2.2.1) := by
  unfold mX6_beginLayeredN
  exact OK_bind (build_ok h1 h2 (fun _ _ => ⟨0, by decide, rfl⟩) _ _ _ _ _ _ _ _) (fun z hz => OK_be rfl (OK_be (begin6_v _ _ _ _ _) (OK_some ⟨rfl, hz.1, rfl, hz⟩)))
theorem SV_4 {kd sz mk n : Int32} (h1 : kd = 4) (h2 : ∃ Z, Z ≤ 20 ∧ sz = nI Z) (h3 : mk = 3) (hn : BN n) : SV kd sz mk n := by
  obtain ⟨Z, hZ, e⟩ := h2
  exact ⟨⟨3, by decide, h3⟩, hn, Z, by omega, e, fun _ => by omega⟩
theorem slayeredL_ok {M : Nat} (hM : M < 30) {wn un : Int32} (hw : BN wn) (hu : BN un) {lz : Nat → Int32} (hz : LZ lz) (sd_ : Int32) (wv uv dv riv : Nat → Int64) (thn : Int32) (thv : Nat → Int64) (kc : Nat → Int32) (v : Nat → Int64) (kca : Nat → Int32) (rv : Nat → Int64) (ld : Nat → Nat → Int64) : OK (mX8_layeredL (nI M) sd_ wn wv un uv dv riv thn thv kc v kca rv lz ld) (fun z => z.2.1 = nI (M + 1) ∧ SV z.2.2.1 z.2.2.2.1 z.2.2.2.2.1 z.2.2.2.2.2.2.2.1 ∧ LN z.2.2.2.2.2.2.2.2.2.1 z.2.2.2.2.2.2.2.2.2.2.2.2.1 z.2.2.2.2.2.2.2.2.2.2.2.2.2.2.1) := by
  unfold mX8_layeredL
  exact OK_be (slotE_v hM) (OK_bind (cpy_ok hw _ _) (fun _ h1 => OK_bind (without_ok hu hw _ _ _) (fun _ h2 => OK_bind (blL_ok h1.2 h2 hz _ _ _ _ _ _ _ _ _) (fun _ h3 => OK_bind (cpy_ok hw _ _) (fun _ h4 => OK_some ⟨nI_s M, SV_4 h3.1 h3.2.1 h3.2.2.1 h4.2, h3.2.2.2⟩)))))
theorem slayeredE_ok {M : Nat} (hM : M < 30) {wn un : Int32} (hw : BN wn) (hu : BN un) (sd_ : Int32) (wv uv dv riv : Nat → Int64) (thn : Int32) (thv : Nat → Int64) (kc : Nat → Int32) (v : Nat → Int64) : OK (mX8_layeredE (nI M) sd_ wn wv un uv dv riv thn thv kc v) (fun z => z.2.1 = nI (M + 1) ∧ SV z.2.2.1 z.2.2.2.1 z.2.2.2.2.1 z.2.2.2.2.2.2.2.1 ∧ LN z.2.2.2.2.2.2.2.2.2.1 z.2.2.2.2.2.2.2.2.2.2.2.2.1 z.2.2.2.2.2.2.2.2.2.2.2.2.2.2.1) := by
  unfold mX8_layeredE
  exact OK_be (slotE_v hM) (OK_bind (cpy_ok hw _ _) (fun _ h1 => OK_bind (without_ok hu hw _ _ _) (fun _ h2 => OK_bind (blN_ok h1.2 h2 _ _ _ _ _ _) (fun _ h3 => OK_bind (cpy_ok hw _ _) (fun _ h4 => OK_some ⟨nI_s M, SV_4 h3.1 h3.2.1 h3.2.2.1 h4.2, h3.2.2.2⟩)))))
theorem slayeredF_ok {M : Nat} (hM : M < 30) {wn un : Int32} (hw : BN wn) (hu : BN un) (sd_ : Int32) (wv uv dv riv : Nat → Int64) (thn : Int32) (thv : Nat → Int64) : OK (mX8_layeredF (nI M) sd_ wn wv un uv dv riv thn thv) (fun z => z.2.1 = nI (M + 1) ∧ SV z.2.2.1 z.2.2.2.1 z.2.2.2.2.1 z.2.2.2.2.2.2.2.1 ∧ LN z.2.2.2.2.2.2.2.2.2.1 z.2.2.2.2.2.2.2.2.2.2.2.2.1 z.2.2.2.2.2.2.2.2.2.2.2.2.2.2.1) := by
  unfold mX8_layeredF
  exact OK_be (slotF_v hM) (OK_bind (cpy_ok hw _ _) (fun _ h1 => OK_bind (without_ok hu hw _ _ _) (fun _ h2 => OK_bind (blN_ok h1.2 h2 _ _ _ _ _ _) (fun _ h3 => OK_bind (cpy_ok hw _ _) (fun _ h4 => OK_some ⟨nI_s M, SV_4 h3.1 h3.2.1 h3.2.2.1 h4.2, h3.2.2.2⟩)))))
theorem slayeredX_ok : OK (mX8_layeredX (nI 30)) (fun _ => True) := OK_be slotN_v (OK_some trivial)
