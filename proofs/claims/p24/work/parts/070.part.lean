/-! ===== the class: calls that make a sieve, ranges ===== -/
theorem ipow_v {k1 : Int32} {l h : Nat} (hl : 1 ≤ l) (hl2 : l ≤ 4096) (hh : h ≤ 4096) : OK (mX8_isPowerOfTwo k1 (nI l) (nI h)) (fun z => z = 0 ∨ (z = 1 ∧ ∃ a, a ≤ 12 ∧ k1 = nI (2 ^ a) ∧ l ≤ 2 ^ a ∧ 2 ^ a ≤ h)) := by
  unfold mX8_isPowerOfTwo
  refine OK_ite (fun _ => OK_some (Or.inl rfl)) (fun h1 => OK_ite (fun _ => OK_some (Or.inl rfl)) (fun h2 => OK_ite (fun h3 => OK_some (Or.inr ⟨rfl, ?_⟩)) (fun _ => OK_some (Or.inl rfl))))
  have hp : ¬ k1 < 0 := fun q => h1 (Int32.lt_of_lt_of_le q (nI_pos' (by omega)))
  obtain ⟨Z, hZ, rfl⟩ := nI_of2 (M := nI h) (n := h) (nI_toInt (by omega)) hp (Int32.not_lt.mp h2)
  have hlZ : l ≤ Z := Nat.le_of_not_lt (fun q => h1 (nI_lt q (by omega)))
  obtain ⟨k, hk, e⟩ := pow2_of (x := nI Z) (nI_ne0 (by omega) (by omega)) h3
  have hk2 : 2 ^ k < 2 ^ 32 := Nat.pow_lt_pow_right (by decide) hk
  have eZ : Z = 2 ^ k := by
    have := congrArg (fun y : Int32 => y.toBitVec.toNat) e
    rw [pk_tn (by omega), pk_tn hk2] at this
    exact this
  have hk12 : k ≤ 12 := by
    apply Nat.le_of_not_lt
    intro q
    have := pow_up (a := 13) (b := k) q
    omega
  exact ⟨k, hk12, e, by omega, by omega⟩
theorem MN_of {k2 : Int32} (h1 : ¬ k2 < 1) (h8 : ¬ 8 < k2) : MN k2 := by
  have hp : ¬ k2 < 0 := fun q => h1 (Int32.lt_of_lt_of_le q (by decide))
  obtain ⟨Z, hZ, e⟩ := nI_of2 (M := nI 8) (n := 8) (nI_toInt (by omega)) hp (Int32.not_lt.mp h8)
  exact ⟨Z, by omega, e⟩
def Mkb (k0 k1 k2 : Int32) : Prop := (k0 = 2 ∧ ∃ a, a ≤ 8 ∧ k1 = nI (2 ^ a)) ∨ ((k0 = 0 ∨ k0 = 1) ∧ (∃ a, 3 ≤ a ∧ a ≤ 12 ∧ k1 = nI (2 ^ a)) ∧ MN k2)
theorem makeable_v (k0 k1 k2 : Int32) : OK (mX8_isMakeable k0 k1 k2) (fun z => z = 0 ∨ (z = 1 ∧ Mkb k0 k1 k2)) := by
  unfold mX8_isMakeable
  have big : ∀ (q : k0 = 0 ∨ k0 = 1), OK ((mX8_isPowerOfTwo k1 8 4096).bind fun z31 => if z31 = 0 then (some (0 : Int32)) else (if k2 < 1 then (some 0) else (if 8 < k2 then (some 0) else (some 1)))) (fun z => z = 0 ∨ (z = 1 ∧ Mkb k0 k1 k2)) := by
    intro q
    refine OK_bind (ipow_v (l := 8) (h := 4096) (by decide) (by decide) (by decide)) (fun z hz => ?_)
    rcases hz with rfl | ⟨rfl, a, ha, e, h8, -⟩
    · exact OK_T rfl (OK_some (Or.inl rfl))
    · refine OK_F (by decide) (OK_ite (fun _ => OK_some (Or.inl rfl)) (fun h1 => OK_ite (fun _ => OK_some (Or.inl rfl)) (fun h2 => OK_some (Or.inr ⟨rfl, Or.inr ⟨q, ⟨a, ?_, ha, e⟩, MN_of h1 h2⟩⟩))))
      apply Nat.le_of_not_lt
      intro q3
      have := pow_up (a := a) (b := 2) (by omega)
      omega
  refine OK_ite (fun q => ?_) (fun _ => OK_ite (fun q => big (Or.inl q)) (fun _ => OK_ite (fun q => big (Or.inr q)) (fun _ => OK_some (Or.inl rfl))))
  refine OK_bind (ipow_v (l := 1) (h := 256) (by decide) (by decide) (by decide)) (fun z hz => ?_)
  rcases hz with rfl | ⟨rfl, a, ha, e, -, h8⟩
  · exact OK_T (Or.inl rfl) (OK_some (Or.inl rfl))
  · refine OK_T (Or.inr rfl) (OK_some (Or.inr ⟨rfl, Or.inl ⟨q, a, ?_, e⟩⟩))
    apply Nat.le_of_not_lt
    intro q3
    have := pow_up (a := 9) (b := a) (by omega)
    omega
theorem nn_ (M : Nat) (h : M < 2 ^ 31) : ¬ nI M < 0 := Int32.not_lt.mpr (nI_pos' h)
theorem slotE_v {M : Nat} (h : M < 30) : mX8_nextSlotE (nI M) = some () := by
  have i := ix_nI (k := M) (n := 30) h
  rw [mX8_nextSlotE, if_neg (nn_ M (by omega)), if_pos (show nI M < (30 : Int32) from nI_lt (b := 30) h (by decide)), if_pos i, if_pos i]
theorem slotF_v {M : Nat} (h : M < 30) : mX8_nextSlotF (nI M) = some (0, 0, 0, 0, (fun _ => 0), 0, (fun _ => 0)) := by
  have i := ix_nI (k := M) (n := 30) h
  rw [mX8_nextSlotF, if_neg (nn_ M (by omega)), if_pos (show nI M < (30 : Int32) from nI_lt (b := 30) h (by decide)), if_pos i, if_pos i, if_pos i]
theorem slotN_v : mX8_nextSlotN (nI 30) = some () := by
  rw [mX8_nextSlotN, if_neg (by decide), if_neg (by decide)]
theorem begin6_v (kc : Nat → Int32) (k0 k1 k2 k3 : Int32) : mX6_begin kc k0 k1 k2 k3 = some (k0, k1, k2, k3, filI 4096 kc 0, 0) := by
  rw [mX6_begin, show mX0_empty = some 0 from rfl, sb_, fill_I (by decide), sb_]
/-- after a maker: the slot's ranges, and how many sieves there are -/
def NS (M : Nat) (kd0 md kd sz mk n : Int32) : Prop := SV kd sz mk n ∧ (kd = 4 → kd0 = 4) ∧ (md = nI M ∨ md = nI (M + 1))
theorem NS_old {M : Nat} {kd sz mk n : Int32} (h : SV kd sz mk n) : NS M kd (nI M) kd sz mk n := ⟨h, id, Or.inl rfl⟩
theorem NS_new {M : Nat} {kd0 kd sz mk n : Int32} (h : SV kd sz mk n) (h4 : ¬ kd = 4) : NS M kd0 (nI M + 1) kd sz mk n := ⟨h, fun q => absurd q h4, Or.inr (nI_s M)⟩
theorem SV_mk {k0 k1 k2 : Int32} (h : Mkb k0 k1 k2) (hk : ¬ k0 = 2) : SV k0 k1 k2 0 ∧ ¬ k0 = 4 := by
  rcases h with ⟨q, _⟩ | ⟨q, ⟨a, -, ha, e⟩, hm⟩
  · exact absurd q hk
  · refine ⟨⟨hm, BN_0, 2 ^ a, pow_up ha, e, fun q2 => absurd q2 hk⟩, ?_⟩
    rcases q with rfl | rfl <;> decide
theorem SV_mk2 {k0 k1 k2 : Int32} (h : Mkb k0 k1 k2) (hk : k0 = 2) : SV k0 k1 0 0 ∧ ¬ k0 = 4 := by
  rcases h with ⟨q, a, ha, e⟩ | ⟨q, _⟩
  · have hp := pow_up ha
    exact ⟨⟨⟨0, by decide, rfl⟩, BN_0, 2 ^ a, by omega, e, fun _ => hp⟩, by rw [q]; decide⟩
  · rcases q with rfl | rfl <;> exact absurd hk (by decide)
theorem smakeR_ok {k0 k1 k2 : Int32} (e : mX8_isMakeable k0 k1 k2 = some 0) : OK (mX8_makeR k0 k1 k2) (fun _ => True) := OK_be e (OK_T rfl (OK_some trivial))
theorem smakeX_ok (k0 k1 k2 : Int32) : OK (mX8_makeX (nI 30) k0 k1 k2) (fun _ => True) := OK_bind (makeable_v k0 k1 k2) (fun _ _ => OK_ite (fun _ => OK_some trivial) (fun _ => OK_be slotN_v (OK_some trivial)))
theorem smakeE_ok {M : Nat} (hM : M < 30) {kd sz mk n : Int32} (h : SV kd sz mk n) (k0 k1 k2 k3 sd : Int32) (kc : Nat → Int32) : OK (mX8_makeE (nI M) k0 k1 k2 k3 kd sz mk sd kc n) (fun z => NS M kd z.2.1 z.2.2.1 z.2.2.2.1 z.2.2.2.2.1 z.2.2.2.2.2.2.2) := by
  unfold mX8_makeE
  refine OK_bind (makeable_v k0 k1 k2) (fun z hz => OK_ite (fun _ => OK_some (NS_old h)) (fun q => OK_be (slotE_v hM) ?_))
  have hm : Mkb k0 k1 k2 := hz.elim (fun q0 => absurd q0 q) (fun q1 => q1.2)
  exact OK_ite (fun q2 => OK_be (begin6_v _ _ _ _ _) (OK_some (NS_new (SV_mk2 hm q2).1 (SV_mk2 hm q2).2))) (fun q2 => OK_be (begin6_v _ _ _ _ _) (OK_some (NS_new (SV_mk hm q2).1 (SV_mk hm q2).2)))
theorem smakeF_ok {M : Nat} (hM : M < 30) {k0 k1 k2 : Int32} (e : ¬ mX8_isMakeable k0 k1 k2 = some 0) (k3 : Int32) : OK (mX8_makeF (nI M) k0 k1 k2 k3) (fun z => NS M 0 z.2.1 z.2.2.1 z.2.2.2.1 z.2.2.2.2.1 z.2.2.2.2.2.2.2.1) := by
  unfold mX8_makeF
  obtain ⟨z, ez, hz⟩ := makeable_v k0 k1 k2
  have q : ¬ z = 0 := fun q => e (by rw [ez, q])
  have hm : Mkb k0 k1 k2 := hz.elim (fun q0 => absurd q0 q) (fun q1 => q1.2)
  exact OK_be ez (OK_F q (OK_be (slotF_v hM) (OK_ite (fun q2 => OK_be (begin6_v _ _ _ _ _) (OK_some (NS_new (SV_mk2 hm q2).1 (SV_mk2 hm q2).2))) (fun q2 => OK_be (begin6_v _ _ _ _ _) (OK_some (NS_new (SV_mk hm q2).1 (SV_mk hm q2).2))))))
theorem sfoldE_ok {M : Nat} (hM : M < 30) {akd asz amk an kd sz mk n : Int32} (ha : SV akd asz amk an) (h : SV kd sz mk n) (asd : Int32) (akc : Nat → Int32) (av : Nat → Int64) (sd : Int32) (kc : Nat → Int32) (v : Nat → Int64) : OK (mX8_foldE (nI M) akd asz amk asd akc an av kd sz mk sd kc n v) (fun z => NS M kd z.2.1 z.2.2.1 z.2.2.2.1 z.2.2.2.2.1 z.2.2.2.2.2.2.2.1) := by
  unfold mX8_foldE
  obtain ⟨hm, hn, Z, hZ, eZ, -⟩ := ha
  have e2 : asz / (2 : Int32) = nI (Z / 2) := by rw [eZ]; exact q_d (d := 2) (by omega) (by decide) (by decide)
  rw [e2]
  exact OK_ite (fun _ => OK_ite (fun _ => OK_be (slotE_v hM) (OK_be (begin6_v _ _ _ _ _) (OK_bind (foldBits_ok (by omega) _ _) (fun _ _ => OK_bind (cpy_ok hn _ _) (fun y hy => OK_some (NS_new ⟨hm, hy.2, Z / 2, by omega, rfl, fun q => absurd q (show ¬ (0 : Int32) = 2 by decide)⟩ (show ¬ (0 : Int32) = 4 by decide))))))) (fun _ => OK_some (NS_old h))) (fun _ => OK_some (NS_old h))
theorem sfoldF_ok {M : Nat} (hM : M < 30) {akd asz amk an : Int32} (ha : SV akd asz amk an) (q0 : akd = 0) (q8 : 8 < asz) (asd : Int32) (akc : Nat → Int32) (av : Nat → Int64) : OK (mX8_foldF (nI M) akd asz amk asd akc an av) (fun z => NS M 0 z.2.1 z.2.2.1 z.2.2.2.1 z.2.2.2.2.1 z.2.2.2.2.2.2.2.1) := by
  unfold mX8_foldF
  obtain ⟨hm, hn, Z, hZ, eZ, -⟩ := ha
  have e2 : asz / (2 : Int32) = nI (Z / 2) := by rw [eZ]; exact q_d (d := 2) (by omega) (by decide) (by decide)
  rw [e2]
  exact OK_T q0 (OK_T q8 (OK_be (slotF_v hM) (OK_be (begin6_v _ _ _ _ _) (OK_bind (foldBits_ok (by omega) _ _) (fun _ _ => OK_bind (cpy_ok hn _ _) (fun y hy => OK_some (NS_new ⟨hm, hy.2, Z / 2, by omega, rfl, fun q => absurd q (show ¬ (0 : Int32) = 2 by decide)⟩ (show ¬ (0 : Int32) = 4 by decide))))))))
theorem sfoldX_ok (akd asz : Int32) : OK (mX8_foldX (nI 30) akd asz) (fun _ => True) := OK_ite (fun _ => OK_ite (fun _ => OK_be slotN_v (OK_some trivial)) (fun _ => OK_some trivial)) (fun _ => OK_some trivial)
theorem sfoldR_ok {akd asz : Int32} (h : ¬ (akd = 0 ∧ 8 < asz)) : OK (mX8_foldR akd asz) (fun _ => True) := OK_ite (fun q => OK_ite (fun q8 => absurd ⟨q, q8⟩ h) (fun _ => OK_some trivial)) (fun _ => OK_some trivial)
