/-! ===== the class's makers, exact ===== -/
def Zr (kc : Nat → Int32) : Prop := ∀ i, i < 4096 → kc i = 0
theorem Zr_fil (kc : Nat → Int32) : Zr (filI 4096 kc 0) := fun i hi => if_pos hi
theorem Zr_0 : Zr (fun _ => 0) := fun _ _ => rfl
def MkN (k0 k1 k2 k3 kd sz mk sd : Int32) (kc : Nat → Int32) (n : Int32) : Prop := kd = k0 ∧ sz = k1 ∧ mk = (if k0 = 2 then 0 else k2) ∧ sd = k3 ∧ Zr kc ∧ n = 0 ∧ Mkb k0 k1 k2 ∧ SV kd sz mk n ∧ ¬ kd = 4
theorem MkN_2 {k0 k1 k2 k3 : Int32} {kc : Nat → Int32} (hm : Mkb k0 k1 k2) (hz : Zr kc) (q : k0 = 2) : MkN k0 k1 k2 k3 k0 k1 0 k3 kc 0 := ⟨rfl, rfl, by rw [if_pos q], rfl, hz, rfl, hm, (SV_mk2 hm q).1, (SV_mk2 hm q).2⟩
theorem MkN_1 {k0 k1 k2 k3 : Int32} {kc : Nat → Int32} (hm : Mkb k0 k1 k2) (hz : Zr kc) (q : ¬ k0 = 2) : MkN k0 k1 k2 k3 k0 k1 k2 k3 kc 0 := ⟨rfl, rfl, by rw [if_neg q], rfl, hz, rfl, hm, (SV_mk hm q).1, (SV_mk hm q).2⟩
theorem smakeR_x {k0 k1 k2 : Int32} (e : mX8_isMakeable k0 k1 k2 = some 0) : OK (mX8_makeR k0 k1 k2) (fun z => z = -1) := OK_be e (OK_T rfl (OK_some rfl))
theorem smakeX_x {k0 k1 k2 : Int32} (e : ¬ mX8_isMakeable k0 k1 k2 = some 0) : OK (mX8_makeX (nI 30) k0 k1 k2) (fun z => z = -4) := by
  obtain ⟨z, ez, hz⟩ := makeable_v k0 k1 k2
  have q : ¬ z = 0 := fun q => e (by rw [ez, q])
  exact OK_be ez (OK_F q (OK_be slotN_v (OK_some rfl)))
theorem smakeE_x {M : Nat} (hM : M < 30) {k0 k1 k2 : Int32} (e : ¬ mX8_isMakeable k0 k1 k2 = some 0) (k3 kd sz mk sd : Int32) (kc : Nat → Int32) (n : Int32) : OK (mX8_makeE (nI M) k0 k1 k2 k3 kd sz mk sd kc n) (fun z => z.1 = nI M ∧ z.2.1 = nI (M + 1) ∧ MkN k0 k1 k2 k3 z.2.2.1 z.2.2.2.1 z.2.2.2.2.1 z.2.2.2.2.2.1 z.2.2.2.2.2.2.1 z.2.2.2.2.2.2.2) := by
  unfold mX8_makeE
  obtain ⟨z, ez, hz⟩ := makeable_v k0 k1 k2
  have q : ¬ z = 0 := fun q => e (by rw [ez, q])
  have hm : Mkb k0 k1 k2 := hz.elim (fun q0 => absurd q0 q) (fun q1 => q1.2)
  exact OK_be ez (OK_F q (OK_be (slotE_v hM) (OK_ite (fun q2 => OK_be (begin6_v _ _ _ _ _) (OK_some ⟨rfl, nI_s M, MkN_2 hm (Zr_fil _) q2⟩)) (fun q2 => OK_be (begin6_v _ _ _ _ _) (OK_some ⟨rfl, nI_s M, MkN_1 hm (Zr_fil _) q2⟩)))))
theorem smakeF_x {M : Nat} (hM : M < 30) {k0 k1 k2 : Int32} (e : ¬ mX8_isMakeable k0 k1 k2 = some 0) (k3 : Int32) : OK (mX8_makeF (nI M) k0 k1 k2 k3) (fun z => z.1 = nI M ∧ z.2.1 = nI (M + 1) ∧ MkN k0 k1 k2 k3 z.2.2.1 z.2.2.2.1 z.2.2.2.2.1 z.2.2.2.2.2.1 z.2.2.2.2.2.2.1 z.2.2.2.2.2.2.2.1) := by
  unfold mX8_makeF
  obtain ⟨z, ez, hz⟩ := makeable_v k0 k1 k2
  have q : ¬ z = 0 := fun q => e (by rw [ez, q])
  have hm : Mkb k0 k1 k2 := hz.elim (fun q0 => absurd q0 q) (fun q1 => q1.2)
  exact OK_be ez (OK_F q (OK_be (slotF_v hM) (OK_ite (fun q2 => OK_be (begin6_v _ _ _ _ _) (OK_some ⟨rfl, nI_s M, MkN_2 hm (Zr_fil _) q2⟩)) (fun q2 => OK_be (begin6_v _ _ _ _ _) (OK_some ⟨rfl, nI_s M, MkN_1 hm (Zr_fil _) q2⟩)))))
/-- a fold's new sieve -/
def FoN (asz amk asd : Int32) (akc : Nat → Int32) (an : Int32) (av : Nat → Int64) (kd sz mk sd : Int32) (kc : Nat → Int32) (n : Int32) (v : Nat → Int64) : Prop := kd = 0 ∧ sz = asz / 2 ∧ mk = amk ∧ sd = asd ∧ (∃ k0, Zr k0 ∧ mX6_foldBits (asz / 2) k0 akc = some kc) ∧ (∃ v0, mX0_copyFrom v0 an av = some (n, v)) ∧ SV kd sz mk n
theorem sfoldE_x {M : Nat} (hM : M < 30) {akd asz amk an : Int32} (ha : SV akd asz amk an) (q0 : akd = 0) (q8 : 8 < asz) (asd : Int32) (akc : Nat → Int32) (av : Nat → Int64) (kd sz mk sd : Int32) (kc : Nat → Int32) (n : Int32) (v : Nat → Int64) : OK (mX8_foldE (nI M) akd asz amk asd akc an av kd sz mk sd kc n v) (fun z => z.1 = nI M ∧ z.2.1 = nI (M + 1) ∧ FoN asz amk asd akc an av z.2.2.1 z.2.2.2.1 z.2.2.2.2.1 z.2.2.2.2.2.1 z.2.2.2.2.2.2.1 z.2.2.2.2.2.2.2.1 z.2.2.2.2.2.2.2.2) := by
  unfold mX8_foldE
  obtain ⟨hm, hn, Z, hZ, eZ, -⟩ := ha
  have e2 : asz / (2 : Int32) = nI (Z / 2) := by rw [eZ]; exact q_d (d := 2) (by omega) (by decide) (by decide)
  refine OK_T q0 (OK_T q8 (OK_be (slotE_v hM) (OK_be (begin6_v _ _ _ _ _) ?_)))
  obtain ⟨b, eb, -⟩ := foldBits_ok (Z := Z / 2) (by omega) (filI 4096 kc 0) akc
  rw [← e2] at eb
  refine OK_be eb ?_
  obtain ⟨y, ey, hy1, hy2⟩ := cpy_ok hn v av
  refine OK_be ey (OK_some ⟨rfl, nI_s M, rfl, rfl, rfl, rfl, ⟨_, Zr_fil _, eb⟩, ⟨v, ey⟩, ?_⟩)
  exact ⟨hm, hy2, Z / 2, by omega, e2, fun q => absurd q (show ¬ (0 : Int32) = 2 by decide)⟩
theorem sfoldF_x {M : Nat} (hM : M < 30) {akd asz amk an : Int32} (ha : SV akd asz amk an) (q0 : akd = 0) (q8 : 8 < asz) (asd : Int32) (akc : Nat → Int32) (av : Nat → Int64) : OK (mX8_foldF (nI M) akd asz amk asd akc an av) (fun z => z.1 = nI M ∧ z.2.1 = nI (M + 1) ∧ FoN asz amk asd akc an av z.2.2.1 z.2.2.2.1 z.2.2.2.2.1 z.2.2.2.2.2.1 z.2.2.2.2.2.2.1 z.2.2.2.2.2.2.2.1 z.2.2.2.2.2.2.2.2) := by
  unfold mX8_foldF
  obtain ⟨hm, hn, Z, hZ, eZ, -⟩ := ha
  have e2 : asz / (2 : Int32) = nI (Z / 2) := by rw [eZ]; exact q_d (d := 2) (by omega) (by decide) (by decide)
  refine OK_T q0 (OK_T q8 (OK_be (slotF_v hM) (OK_be (begin6_v _ _ _ _ _) ?_)))
  obtain ⟨b, eb, -⟩ := foldBits_ok (Z := Z / 2) (by omega) (filI 4096 (fun _ => 0) 0) akc
  rw [← e2] at eb
  refine OK_be eb ?_
  obtain ⟨y, ey, hy1, hy2⟩ := cpy_ok hn (fun _ => 0) av
  refine OK_be ey (OK_some ⟨rfl, nI_s M, rfl, rfl, rfl, rfl, ⟨_, Zr_fil _, eb⟩, ⟨_, ey⟩, ?_⟩)
  exact ⟨hm, hy2, Z / 2, by omega, e2, fun q => absurd q (show ¬ (0 : Int32) = 2 by decide)⟩
theorem sfoldX_x {akd asz : Int32} (q0 : akd = 0) (q8 : 8 < asz) : OK (mX8_foldX (nI 30) akd asz) (fun z => z = -4) := OK_T q0 (OK_T q8 (OK_be slotN_v (OK_some rfl)))
theorem sfoldR_x {akd asz : Int32} (h : ¬ (akd = 0 ∧ 8 < asz)) : OK (mX8_foldR akd asz) (fun z => z = -2) := OK_ite (fun q => OK_ite (fun q8 => absurd ⟨q, q8⟩ h) (fun _ => OK_some rfl)) (fun _ => OK_some rfl)
/-- a join's new sieve -/
def JoN (ho asz amk asd : Int32) (akc : Nat → Int32) (an : Int32) (av : Nat → Int64) (bkc : Nat → Int32) (bn : Int32) (bv : Nat → Int64) (kd sz mk sd : Int32) (kc : Nat → Int32) (n : Int32) (v : Nat → Int64) : Prop := kd = 0 ∧ sz = asz ∧ mk = amk ∧ sd = asd ∧ (∃ k0, Zr k0 ∧ mX6_joinBits asz k0 akc bkc (if ho = 1 then 1 else 0) = some kc) ∧ (ho = 1 → ∃ v0, mX0_becomeShared v0 an av bn bv = some (n, v)) ∧ (¬ ho = 1 → ∃ v0, mX0_becomeTogether v0 an av bn bv = some (n, v)) ∧ SV kd sz mk n
def JoF (ho an bn : Int32) : Prop := ¬ ho = 1 ∧ ¬ an + bn ≤ 1000
theorem sjoin_k {akd asz amk an bn : Int32} (ha : SV akd asz amk an) (hb : BN bn) (ho asd : Int32) (akc : Nat → Int32) (av : Nat → Int64) (bkc : Nat → Int32) (bv : Nat → Int64) (kc : Nat → Int32) (v : Nat → Int64) (hz : Zr kc) : (ho = 1 → ∃ kc2 n2 v2, mX6_joinBits asz kc akc bkc 1 = some kc2 ∧ mX0_becomeShared v an av bn bv = some (n2, v2) ∧ JoN ho asz amk asd akc an av bkc bn bv 0 asz amk asd kc2 n2 v2) ∧ (¬ ho = 1 → ∃ kc2 n2 v2, mX6_joinBits asz kc akc bkc 0 = some kc2 ∧ mX0_becomeTogether v an av bn bv = some (n2, v2) ∧ JoN ho asz amk asd akc an av bkc bn bv 0 asz amk asd kc2 n2 v2) := by
  obtain ⟨hm, hn, Z, hZ, eZ, -⟩ := ha
  have hv : ∀ {x : Int32}, BN x → SV 0 asz amk x := fun hx => ⟨hm, hx, Z, hZ, eZ, fun q => absurd q (show ¬ (0 : Int32) = 2 by decide)⟩
  constructor
  · intro q
    obtain ⟨b, eb, -⟩ := joinBits_ok hZ kc akc bkc 1
    rw [← eZ] at eb
    obtain ⟨⟨n2, v2⟩, ey, hy⟩ := shared_ok hn hb v av bv
    exact ⟨b, n2, v2, eb, ey, rfl, rfl, rfl, rfl, ⟨kc, hz, by rw [if_pos q]; exact eb⟩, fun _ => ⟨v, ey⟩, fun r => absurd q r, hv hy⟩
  · intro q
    obtain ⟨b, eb, -⟩ := joinBits_ok hZ kc akc bkc 0
    rw [← eZ] at eb
    obtain ⟨⟨n2, v2⟩, ey, hy⟩ := together_ok hn hb v av bv
    exact ⟨b, n2, v2, eb, ey, rfl, rfl, rfl, rfl, ⟨kc, hz, by rw [if_neg q]; exact eb⟩, fun r => absurd r q, fun _ => ⟨v, ey⟩, hv hy⟩
theorem sjoinE_x {M : Nat} (hM : M < 30) {akd asz amk asd an bkd bsz bmk bsd bn ho : Int32} (ha : SV akd asz amk an) (hb : BN bn) (h0 : ¬ ho < 0) (h1 : ho ≤ 1) (e : ¬ mX6_isMarkedLike akd asz amk asd bkd bsz bmk bsd = some 0) (akc : Nat → Int32) (av : Nat → Int64) (bkc : Nat → Int32) (bv : Nat → Int64) (kd sz mk sd : Int32) (kc : Nat → Int32) (n : Int32) (v : Nat → Int64) : OK (mX8_joinE (nI M) ho akd asz amk asd akc an av bkd bsz bmk bsd bkc bn bv kd sz mk sd kc n v) (fun z => (JoF ho an bn ∧ z = (-4, nI M, kd, sz, mk, sd, kc, n, v)) ∨ (¬ JoF ho an bn ∧ z.1 = nI M ∧ z.2.1 = nI (M + 1) ∧ JoN ho asz amk asd akc an av bkc bn bv z.2.2.1 z.2.2.2.1 z.2.2.2.2.1 z.2.2.2.2.2.1 z.2.2.2.2.2.2.1 z.2.2.2.2.2.2.2.1 z.2.2.2.2.2.2.2.2)) := by
  obtain ⟨z, ez, -⟩ := like_ok akd asz amk asd bkd bsz bmk bsd
  have q : ¬ z = 0 := fun q => e (by rw [ez, q])
  obtain ⟨j1, j0⟩ := sjoin_k ha hb ho asd akc av bkc bv (filI 4096 kc 0) v (Zr_fil _)
  unfold mX8_joinE
  refine OK_F h0 (OK_T h1 (OK_be ez (OK_F q (OK_be (slotE_v hM) (OK_ite (fun g1 => ?_) (fun g1 => ?_))))))
  · obtain ⟨kc2, n2, v2, e1, e2, hJ⟩ := j1 g1
    exact OK_F (by decide) (OK_be (begin6_v _ _ _ _ _) (OK_be e1 (OK_F (by decide) (OK_be e2 (OK_some (Or.inr ⟨fun r => r.1 g1, rfl, nI_s M, hJ⟩))))))
  · obtain ⟨kc2, n2, v2, e1, e2, hJ⟩ := j0 g1
    exact OK_T rfl (OK_be rfl (OK_be rfl (OK_ite (fun g2 => OK_be (begin6_v _ _ _ _ _) (OK_be e1 (OK_T rfl (OK_be e2 (OK_some (Or.inr ⟨fun r => r.2 g2, rfl, nI_s M, hJ⟩)))))) (fun g2 => OK_some (Or.inl ⟨⟨g1, g2⟩, rfl⟩)))))
theorem sjoinF_x {M : Nat} (hM : M < 30) {akd asz amk asd an bkd bsz bmk bsd bn ho : Int32} (ha : SV akd asz amk an) (hb : BN bn) (h0 : ¬ ho < 0) (h1 : ho ≤ 1) (e : ¬ mX6_isMarkedLike akd asz amk asd bkd bsz bmk bsd = some 0) (akc : Nat → Int32) (av : Nat → Int64) (bkc : Nat → Int32) (bv : Nat → Int64) : OK (mX8_joinF (nI M) ho akd asz amk asd akc an av bkd bsz bmk bsd bkc bn bv) (fun z => (JoF ho an bn ∧ z = (-4, nI M, 0, 0, 0, 0, (fun _ => 0), 0, (fun _ => 0))) ∨ (¬ JoF ho an bn ∧ z.1 = nI M ∧ z.2.1 = nI (M + 1) ∧ JoN ho asz amk asd akc an av bkc bn bv z.2.2.1 z.2.2.2.1 z.2.2.2.2.1 z.2.2.2.2.2.1 z.2.2.2.2.2.2.1 z.2.2.2.2.2.2.2.1 z.2.2.2.2.2.2.2.2)) := by
  obtain ⟨z, ez, -⟩ := like_ok akd asz amk asd bkd bsz bmk bsd
  have q : ¬ z = 0 := fun q => e (by rw [ez, q])
  obtain ⟨j1, j0⟩ := sjoin_k ha hb ho asd akc av bkc bv (filI 4096 (fun _ => 0) 0) (fun _ => 0) (Zr_fil _)
  unfold mX8_joinF
  refine OK_F h0 (OK_T h1 (OK_be ez (OK_F q (OK_be (slotF_v hM) (OK_ite (fun g1 => ?_) (fun g1 => ?_))))))
  · obtain ⟨kc2, n2, v2, e1, e2, hJ⟩ := j1 g1
    exact OK_F (by decide) (OK_be (begin6_v _ _ _ _ _) (OK_be e1 (OK_F (by decide) (OK_be e2 (OK_some (Or.inr ⟨fun r => r.1 g1, rfl, nI_s M, hJ⟩))))))
  · obtain ⟨kc2, n2, v2, e1, e2, hJ⟩ := j0 g1
    exact OK_T rfl (OK_be rfl (OK_be rfl (OK_ite (fun g2 => OK_be (begin6_v _ _ _ _ _) (OK_be e1 (OK_T rfl (OK_be e2 (OK_some (Or.inr ⟨fun r => r.2 g2, rfl, nI_s M, hJ⟩)))))) (fun g2 => OK_some (Or.inl ⟨⟨g1, g2⟩, rfl⟩)))))
theorem sjoinX_x {ho akd asz amk asd bkd bsz bmk bsd : Int32} (h0 : ¬ ho < 0) (h1 : ho ≤ 1) (e : ¬ mX6_isMarkedLike akd asz amk asd bkd bsz bmk bsd = some 0) : OK (mX8_joinX (nI 30) ho akd asz amk asd bkd bsz bmk bsd) (fun z => z = -4) := by
  obtain ⟨z, ez, -⟩ := like_ok akd asz amk asd bkd bsz bmk bsd
  have q : ¬ z = 0 := fun q => e (by rw [ez, q])
  exact OK_F h0 (OK_T h1 (OK_be ez (OK_F q (OK_be slotN_v (OK_ite (fun _ => OK_some rfl) (fun _ => OK_some rfl))))))
theorem sjoinR_x {ho akd asz amk asd bkd bsz bmk bsd : Int32} (h : ho < 0 ∨ ¬ ho ≤ 1 ∨ mX6_isMarkedLike akd asz amk asd bkd bsz bmk bsd = some 0) : OK (mX8_joinR ho akd asz amk asd bkd bsz bmk bsd) (fun z => ((ho < 0 ∨ ¬ ho ≤ 1) ∧ z = -1) ∨ (¬ (ho < 0 ∨ ¬ ho ≤ 1) ∧ z = -2)) := by
  unfold mX8_joinR
  refine OK_ite (fun q => OK_some (Or.inl ⟨Or.inl q, rfl⟩)) (fun h0 => OK_ite (fun h1 => ?_) (fun q => OK_some (Or.inl ⟨Or.inr q, rfl⟩)))
  rcases h with q | q | q
  · exact absurd q h0
  · exact absurd h1 q
  · exact OK_be q (OK_T rfl (OK_some (Or.inr ⟨fun r => r.elim h0 (fun r => r h1), rfl⟩)))
/-- solve: what the tries say, and the new sieve -/
def TrV (N : Nat) (wv : Nat → Int64) (sd : Int32) (τ : Nat) : Prop := τ < 50 ∧ (∀ σ, σ < τ → ¬ Solv wv (sd + nI σ) (cOf N) N) ∧ Solv wv (sd + nI τ) (cOf N) N
def NoV (N : Nat) (wv : Nat → Int64) (sd : Int32) : Prop := ∀ τ, τ < 50 → ¬ Solv wv (sd + nI τ) (cOf N) N
def SoN (N : Nat) (wv : Nat → Int64) (sd_ : Int32) (kd sz mk sd : Int32) (kc : Nat → Int32) (n : Int32) (v : Nat → Int64) : Prop := ∃ τ, TrV N wv sd_ τ ∧ kd = 3 ∧ sz = nI (3 * cOf N) ∧ mk = 0 ∧ sd = sd_ + nI τ ∧ (∃ pa ta tt tp k0, TryS wv (sd_ + nI τ) N pa ta tt tp ∧ Zr k0 ∧ mX7_fill (nI N) pa ta tt tp k0 = some kc) ∧ (∃ v0, mX0_copyFrom v0 (nI N) wv = some (n, v)) ∧ SV kd sz mk n
theorem ssolve_k {N : Nat} (hN : N ≤ 1000) (sd_ : Int32) (wv : Nat → Int64) {τ : Nat} (hτ : τ < 50) {pa ta tt tp : Nat → Int32} (hno : ∀ σ, σ < τ → ¬ Solv wv (sd_ + nI σ) (cOf N) N) (hT : TryS wv (sd_ + nI τ) N pa ta tt tp) {k0 : Nat → Int32} (hz : Zr k0) (v : Nat → Int64) : ∃ n2 v2 kc2, mX0_copyFrom v (nI N) wv = some (n2, v2) ∧ mX7_fill (nI N) pa ta tt tp k0 = some kc2 ∧ SoN N wv sd_ 3 (nI (3 * cOf N)) 0 (sd_ + nI τ) kc2 n2 v2 := by
  have hc := cOf_b hN
  obtain ⟨⟨n2, v2⟩, ey, -, hy2⟩ := cpy_ok (n := nI N) ⟨N, hN, rfl⟩ v wv
  obtain ⟨kc2, ef, -⟩ := fill7_ok hN hT k0
  have hT2 := hT
  obtain ⟨-, -, T, P, hR, -⟩ := hT2
  exact ⟨n2, v2, kc2, ey, ef, τ, ⟨hτ, hno, T, P, hR⟩, rfl, rfl, rfl, rfl, ⟨pa, ta, tt, tp, k0, hT, hz, ef⟩, ⟨v, ey⟩, ⟨0, by decide, rfl⟩, hy2, 3 * cOf N, by omega, rfl, fun q => absurd q (show ¬ (3 : Int32) = 2 by decide)⟩
theorem ssolveE_x {M : Nat} (hM : M < 30) {N : Nat} (hN : N ≤ 1000) (sd_ : Int32) (wv : Nat → Int64) (vpa vta vlf vbl : Nat → Int32) (z0 : Int32) (vsw : Nat → Int64) (vtt vtp : Nat → Int32) (hg : ∀ z, mX7_triesUntilSolved vpa vta vlf vbl z0 vsw vtt vtp (nI N) wv sd_ = some z → 0 ≤ z.1) (kd sz mk sd : Int32) (kc : Nat → Int32) (n : Int32) (v : Nat → Int64) : OK (mX8_solveE (nI M) sd_ (nI N) wv vpa vta vlf vbl z0 vsw vtt vtp kd sz mk sd kc n v) (fun z => z.1 = nI M ∧ z.2.1 = nI (M + 1) ∧ SoN N wv sd_ z.2.2.2.2.2.2.2.2.2.2.2.2.1 z.2.2.2.2.2.2.2.2.2.2.2.2.2.1 z.2.2.2.2.2.2.2.2.2.2.2.2.2.2.1 z.2.2.2.2.2.2.2.2.2.2.2.2.2.2.2.1 z.2.2.2.2.2.2.2.2.2.2.2.2.2.2.2.2.1 z.2.2.2.2.2.2.2.2.2.2.2.2.2.2.2.2.2.1 z.2.2.2.2.2.2.2.2.2.2.2.2.2.2.2.2.2.2) := by
  unfold mX8_solveE
  obtain ⟨z, ez, e1, e2, ⟨e3, -⟩ | ⟨τ, hτ, e3, hno, hT⟩⟩ := tries_v hN vpa vta vlf vbl z0 vsw vtt vtp wv sd_
  · exact absurd (hg z ez) (by rw [e3]; exact m1_lt)
  · obtain ⟨n2, v2, kc2, ey, ef, hS⟩ := ssolve_k hN sd_ wv hτ hno hT (Zr_fil kc) v
    refine OK_be ez ?_
    rw [e3, e2, e1]
    refine OK_T (nI_pos' (by omega)) (OK_be (slotE_v hM) (OK_be rfl ?_))
    rw [show (3 : Int32) * nI (cOf N) = nI (3 * cOf N) from pk_mul 3 (cOf N)]
    exact OK_be (begin6_v _ _ _ _ _) (OK_be ey (OK_be ef (OK_some ⟨rfl, nI_s M, hS⟩)))
theorem ssolveF_x {M : Nat} (hM : M < 30) {N : Nat} (hN : N ≤ 1000) (sd_ : Int32) (wv : Nat → Int64) (vpa vta vlf vbl : Nat → Int32) (z0 : Int32) (vsw : Nat → Int64) (vtt vtp : Nat → Int32) (hg : ∀ z, mX7_triesUntilSolved vpa vta vlf vbl z0 vsw vtt vtp (nI N) wv sd_ = some z → 0 ≤ z.1) : OK (mX8_solveF (nI M) sd_ (nI N) wv vpa vta vlf vbl z0 vsw vtt vtp) (fun z => z.1 = nI M ∧ z.2.1 = nI (M + 1) ∧ SoN N wv sd_ z.2.2.2.2.2.2.2.2.2.2.2.2.1 z.2.2.2.2.2.2.2.2.2.2.2.2.2.1 z.2.2.2.2.2.2.2.2.2.2.2.2.2.2.1 z.2.2.2.2.2.2.2.2.2.2.2.2.2.2.2.1 z.2.2.2.2.2.2.2.2.2.2.2.2.2.2.2.2.1 z.2.2.2.2.2.2.2.2.2.2.2.2.2.2.2.2.2.1 z.2.2.2.2.2.2.2.2.2.2.2.2.2.2.2.2.2.2) := by
  unfold mX8_solveF
  obtain ⟨z, ez, e1, e2, ⟨e3, -⟩ | ⟨τ, hτ, e3, hno, hT⟩⟩ := tries_v hN vpa vta vlf vbl z0 vsw vtt vtp wv sd_
  · exact absurd (hg z ez) (by rw [e3]; exact m1_lt)
  · obtain ⟨n2, v2, kc2, ey, ef, hS⟩ := ssolve_k hN sd_ wv hτ hno hT (Zr_fil (fun _ => 0)) (fun _ => 0)
    refine OK_be ez ?_
    rw [e3, e2, e1]
    refine OK_T (nI_pos' (by omega)) (OK_be (slotF_v hM) (OK_be rfl ?_))
    rw [show (3 : Int32) * nI (cOf N) = nI (3 * cOf N) from pk_mul 3 (cOf N)]
    exact OK_be (begin6_v _ _ _ _ _) (OK_be ey (OK_be ef (OK_some ⟨rfl, nI_s M, hS⟩)))
theorem ssolveX_x {N : Nat} (hN : N ≤ 1000) (sd_ : Int32) (wv : Nat → Int64) (vpa vta vlf vbl : Nat → Int32) (z0 : Int32) (vsw : Nat → Int64) (vtt vtp : Nat → Int32) (hg : ∀ z, mX7_triesUntilSolved vpa vta vlf vbl z0 vsw vtt vtp (nI N) wv sd_ = some z → 0 ≤ z.1) : OK (mX8_solveX (nI 30) sd_ (nI N) wv vpa vta vlf vbl z0 vsw vtt vtp) (fun z => z.1 = -4 ∧ ∃ τ, TrV N wv sd_ τ) := by
  unfold mX8_solveX
  obtain ⟨z, ez, e1, e2, ⟨e3, -⟩ | ⟨τ, hτ, e3, hno, -, -, T, P, hR, -⟩⟩ := tries_v hN vpa vta vlf vbl z0 vsw vtt vtp wv sd_
  · exact absurd (hg z ez) (by rw [e3]; exact m1_lt)
  · exact OK_be ez (OK_T (hg z ez) (OK_be slotN_v (OK_some ⟨rfl, τ, hτ, hno, T, P, hR⟩)))
theorem ssolveR_x {N : Nat} (hN : N ≤ 1000) (sd_ : Int32) (wv : Nat → Int64) (vpa vta vlf vbl : Nat → Int32) (z0 : Int32) (vsw : Nat → Int64) (vtt vtp : Nat → Int32) (hg : ∀ z, mX7_triesUntilSolved vpa vta vlf vbl z0 vsw vtt vtp (nI N) wv sd_ = some z → ¬ 0 ≤ z.1) : OK (mX8_solveR sd_ (nI N) wv vpa vta vlf vbl z0 vsw vtt vtp) (fun z => z.1 = -3 ∧ NoV N wv sd_) := by
  unfold mX8_solveR
  obtain ⟨z, ez, e1, e2, ⟨e3, hno⟩ | ⟨τ, hτ, e3, -⟩⟩ := tries_v hN vpa vta vlf vbl z0 vsw vtt vtp wv sd_
  · exact OK_be ez (OK_F (hg z ez) (OK_some ⟨rfl, hno⟩))
  · exact absurd (show 0 ≤ z.1 by rw [e3]; exact nI_pos' (by omega)) (hg z ez)
/-- layered: the new sieve -/
def LaN (N : Nat) (wv : Nat → Int64) (U : Nat) (uv : Nat → Int64) (sd_ : Int32) (kd sz mk sd : Int32) (kc : Nat → Int32) (n : Int32) (v : Nat → Int64) (lc lsd : Int32) (kca : Nat → Int32) (rn : Int32) (rv : Nat → Int64) (lz : Nat → Int32) (ld : Nat → Nat → Int64) : Prop := kd = 4 ∧ sz = lc ∧ mk = 3 ∧ sd = sd_ ∧ Zr kc ∧ (∃ v0, mX0_copyFrom v0 (nI N) wv = some (n, v)) ∧ (∃ n1 v1 n2 v2 n3 v3 v4 v5 kca0 rv0 lz0 ld0, mX0_copyFrom v4 (nI N) wv = some (n1, v1) ∧ mX0_becomeWithout v5 (nI U) uv (nI N) wv = some (n2, v2) ∧ LZ lz0 ∧ mX3_build kca0 rv0 lz0 ld0 n1 v1 n2 v2 n3 v3 sd_ = some (lc, lsd, kca, rn, rv, lz, ld)) ∧ SV kd sz mk n ∧ LN lc rn lz
theorem slay_k {N U : Nat} (hN : N ≤ 1000) (hU : U ≤ 1000) (wv uv : Nat → Int64) (sd_ : Int32) (dv riv : Nat → Int64) (thn : Int32) (thv : Nat → Int64) (v : Nat → Int64) (kca : Nat → Int32) (rv : Nat → Int64) {lz : Nat → Int32} (hz : LZ lz) (ld : Nat → Nat → Int64) : ∃ n1 v1 n2 v2 lc lsd kca1 rn rv1 lz1 ld1 n3 v3, mX0_copyFrom dv (nI N) wv = some (n1, v1) ∧ mX0_becomeWithout riv (nI U) uv (nI N) wv = some (n2, v2) ∧ mX3_build kca rv lz ld n1 v1 n2 v2 thn thv sd_ = some (lc, lsd, kca1, rn, rv1, lz1, ld1) ∧ mX0_copyFrom v (nI N) wv = some (n3, v3) ∧ ∀ kc, Zr kc → LaN N wv U uv sd_ 4 lc 3 sd_ kc n3 v3 lc lsd kca1 rn rv1 lz1 ld1 := by
  have hw : BN (nI N) := ⟨N, hN, rfl⟩
  have hu : BN (nI U) := ⟨U, hU, rfl⟩
  obtain ⟨⟨n1, v1⟩, e1, -, h1⟩ := cpy_ok hw dv wv
  obtain ⟨⟨n2, v2⟩, e2, h2⟩ := without_ok hu hw riv uv wv
  obtain ⟨⟨lc, lsd, kca1, rn, rv1, lz1, ld1⟩, e3, h3⟩ := build_ok h1 h2 hz kca rv ld v1 v2 thn thv sd_
  obtain ⟨⟨n3, v3⟩, e4, -, h4⟩ := cpy_ok hw v wv
  exact ⟨n1, v1, n2, v2, lc, lsd, kca1, rn, rv1, lz1, ld1, n3, v3, e1, e2, e3, e4, fun kc hk => ⟨rfl, rfl, rfl, rfl, hk, ⟨v, e4⟩, ⟨n1, v1, n2, v2, thn, thv, dv, riv, kca, rv, lz, ld, e1, e2, hz, e3⟩, SV_4 rfl h3.1 rfl h4, h3⟩⟩
theorem slayeredL_x {M : Nat} (hM : M < 30) {N U : Nat} (hN : N ≤ 1000) (hU : U ≤ 1000) {lz : Nat → Int32} (hz : LZ lz) (sd_ : Int32) (wv uv dv riv : Nat → Int64) (thn : Int32) (thv : Nat → Int64) (kc : Nat → Int32) (v : Nat → Int64) (kca : Nat → Int32) (rv : Nat → Int64) (ld : Nat → Nat → Int64) : OK (mX8_layeredL (nI M) sd_ (nI N) wv (nI U) uv dv riv thn thv kc v kca rv lz ld) (fun z => z.1 = nI M ∧ z.2.1 = nI (M + 1) ∧ LaN N wv U uv sd_ z.2.2.1 z.2.2.2.1 z.2.2.2.2.1 z.2.2.2.2.2.1 z.2.2.2.2.2.2.1 z.2.2.2.2.2.2.2.1 z.2.2.2.2.2.2.2.2.1 z.2.2.2.2.2.2.2.2.2.1 z.2.2.2.2.2.2.2.2.2.2.1 z.2.2.2.2.2.2.2.2.2.2.2.1 z.2.2.2.2.2.2.2.2.2.2.2.2.1 z.2.2.2.2.2.2.2.2.2.2.2.2.2.1 z.2.2.2.2.2.2.2.2.2.2.2.2.2.2.1 z.2.2.2.2.2.2.2.2.2.2.2.2.2.2.2) := by
  obtain ⟨n1, v1, n2, v2, lc, lsd, kca1, rn, rv1, lz1, ld1, n3, v3, e1, e2, e3, e4, hL⟩ := slay_k hN hU wv uv sd_ dv riv thn thv v kca rv hz ld
  unfold mX8_layeredL
  refine OK_be (slotE_v hM) (OK_be e1 (OK_be e2 ?_))
  have eb : mX6_beginLayeredL kc kca rv lz ld n1 v1 n2 v2 thn thv sd_ = some (4, lc, 3, sd_, filI 4096 kc 0, 0, lc, lsd, kca1, rn, rv1, lz1, ld1) := by
    unfold mX6_beginLayeredL
    rw [e3, sb_]
    show ((some lc).bind _) = _
    rw [sb_, begin6_v, sb_]
  exact OK_be eb (OK_be e4 (OK_some ⟨rfl, nI_s M, hL _ (Zr_fil kc)⟩))
theorem slayN_b {n1 n2 thn sd_ : Int32} {v1 v2 thv : Nat → Int64} {lc lsd rn : Int32} {kca1 : Nat → Int32} {rv1 : Nat → Int64} {lz1 : Nat → Int32} {ld1 : Nat → Nat → Int64} (kc : Nat → Int32) (e3 : mX3_build (fun _ => 0) (fun _ => 0) (fun _ => 0) (fun _ _ => 0) n1 v1 n2 v2 thn thv sd_ = some (lc, lsd, kca1, rn, rv1, lz1, ld1)) : mX6_beginLayeredN kc n1 v1 n2 v2 thn thv sd_ = some (4, lc, 3, sd_, filI 4096 kc 0, 0, lc, lsd, kca1, rn, rv1, lz1, ld1) := by
  unfold mX6_beginLayeredN
  rw [e3, sb_]
  show ((some lc).bind _) = _
  rw [sb_, begin6_v, sb_]
theorem slayeredE_x {M : Nat} (hM : M < 30) {N U : Nat} (hN : N ≤ 1000) (hU : U ≤ 1000) (sd_ : Int32) (wv uv dv riv : Nat → Int64) (thn : Int32) (thv : Nat → Int64) (kc : Nat → Int32) (v : Nat → Int64) : OK (mX8_layeredE (nI M) sd_ (nI N) wv (nI U) uv dv riv thn thv kc v) (fun z => z.1 = nI M ∧ z.2.1 = nI (M + 1) ∧ LaN N wv U uv sd_ z.2.2.1 z.2.2.2.1 z.2.2.2.2.1 z.2.2.2.2.2.1 z.2.2.2.2.2.2.1 z.2.2.2.2.2.2.2.1 z.2.2.2.2.2.2.2.2.1 z.2.2.2.2.2.2.2.2.2.1 z.2.2.2.2.2.2.2.2.2.2.1 z.2.2.2.2.2.2.2.2.2.2.2.1 z.2.2.2.2.2.2.2.2.2.2.2.2.1 z.2.2.2.2.2.2.2.2.2.2.2.2.2.1 z.2.2.2.2.2.2.2.2.2.2.2.2.2.2.1 z.2.2.2.2.2.2.2.2.2.2.2.2.2.2.2) := by
  obtain ⟨n1, v1, n2, v2, lc, lsd, kca1, rn, rv1, lz1, ld1, n3, v3, e1, e2, e3, e4, hL⟩ := slay_k hN hU wv uv sd_ dv riv thn thv v (fun _ => 0) (fun _ => 0) (lz := fun _ => 0) (fun _ _ => ⟨0, by decide, rfl⟩) (fun _ _ => 0)
  unfold mX8_layeredE
  exact OK_be (slotE_v hM) (OK_be e1 (OK_be e2 (OK_be (slayN_b kc e3) (OK_be e4 (OK_some ⟨rfl, nI_s M, hL _ (Zr_fil kc)⟩)))))
theorem slayeredF_x {M : Nat} (hM : M < 30) {N U : Nat} (hN : N ≤ 1000) (hU : U ≤ 1000) (sd_ : Int32) (wv uv dv riv : Nat → Int64) (thn : Int32) (thv : Nat → Int64) : OK (mX8_layeredF (nI M) sd_ (nI N) wv (nI U) uv dv riv thn thv) (fun z => z.1 = nI M ∧ z.2.1 = nI (M + 1) ∧ LaN N wv U uv sd_ z.2.2.1 z.2.2.2.1 z.2.2.2.2.1 z.2.2.2.2.2.1 z.2.2.2.2.2.2.1 z.2.2.2.2.2.2.2.1 z.2.2.2.2.2.2.2.2.1 z.2.2.2.2.2.2.2.2.2.1 z.2.2.2.2.2.2.2.2.2.2.1 z.2.2.2.2.2.2.2.2.2.2.2.1 z.2.2.2.2.2.2.2.2.2.2.2.2.1 z.2.2.2.2.2.2.2.2.2.2.2.2.2.1 z.2.2.2.2.2.2.2.2.2.2.2.2.2.2.1 z.2.2.2.2.2.2.2.2.2.2.2.2.2.2.2) := by
  obtain ⟨n1, v1, n2, v2, lc, lsd, kca1, rn, rv1, lz1, ld1, n3, v3, e1, e2, e3, e4, hL⟩ := slay_k hN hU wv uv sd_ dv riv thn thv (fun _ => 0) (fun _ => 0) (fun _ => 0) (lz := fun _ => 0) (fun _ _ => ⟨0, by decide, rfl⟩) (fun _ _ => 0)
  unfold mX8_layeredF
  exact OK_be (slotF_v hM) (OK_be e1 (OK_be e2 (OK_be (slayN_b _ e3) (OK_be e4 (OK_some ⟨rfl, nI_s M, hL _ (Zr_fil _)⟩)))))
theorem slayeredX_x : OK (mX8_layeredX (nI 30)) (fun z => z = -4) := OK_be slotN_v (OK_some rfl)
