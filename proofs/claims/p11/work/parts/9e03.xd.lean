
def L00 : LayT := (0, 0, fun _ => 0, 0, fun _ => 0, fun _ => 0, fun _ _ => 0)
def MkNs (k0 k1 k2 k3 : Int32) : SlT → Prop := fun (kd, sz, mk1, sd, kc, n, v, τ) => MkN k0 k1 k2 k3 kd sz mk1 sd kc n
def FoC : SlT → Prop := fun (akd, asz, amk, asd, akc, an, av, τ) => akd = 0 ∧ 8 < asz
def FoNs : SlT → SlT → Prop := fun (akd, asz, amk, asd, akc, an, av, τ) (kd, sz, mk1, sd, kc, n, v, τ2) => FoN asz amk asd akc an av kd sz mk1 sd kc n v
def JoC : SlT → SlT → Prop := fun (akd, asz, amk, asd, akc, an, av, τ) (bkd, bsz, bmk, bsd, bkc, bn, bv, τ2) => ¬ mX6_isMarkedLike akd asz amk asd bkd bsz bmk bsd = some 0
def JoFs (ho : Int32) : SlT → SlT → Prop := fun (akd, asz, amk, asd, akc, an, av, τ) (bkd, bsz, bmk, bsd, bkc, bn, bv, τ2) => JoF ho an bn
def JoNs (ho : Int32) : SlT → SlT → SlT → Prop := fun (akd, asz, amk, asd, akc, an, av, τ) (bkd, bsz, bmk, bsd, bkc, bn, bv, τ2) (kd, sz, mk1, sd, kc, n, v, τ3) => JoN ho asz amk asd akc an av bkc bn bv kd sz mk1 sd kc n v
def SoNs (N : Nat) (wv : Nat → Int64) (sd_ : Int32) : SlT → Prop := fun (kd, sz, mk1, sd, kc, n, v, τ) => SoN N wv sd_ kd sz mk1 sd kc n v
def LaNs (N : Nat) (wv : Nat → Int64) (U : Nat) (uv : Nat → Int64) (sd_ : Int32) : SlT → Prop := fun (kd, sz, mk1, sd, kc, n, v, lc, lsd, kca, rn, rv, lz, ld) => LaN N wv U uv sd_ kd sz mk1 sd kc n v lc lsd kca rn rv lz ld
set_option maxHeartbeats 1000000 in
theorem sx_make (l : Launch) (D : va_G) {ρ : Nat → Nat × Nat} {g : Nat → ClassId} {L : List Nat} {f : Nat → va_E} {xb : Nat} {wN : Nat → Nat} {wV : Nat → Nat → Int64} {M : Nat} {σ : Nat → SlT} (C : CfX ρ g L f xb wN wV M σ) (k0 : Int32) (k1 : Int32) (k2 : Int32) (k3 : Int32) : cI l yX8_make wsX8_make (RmC 49 7472) D g [.ref xb, .int k0, .int k1, .int k2, .int k3] L f 49 7472 (fun x L1 f1 => (mX8_isMakeable k0 k1 k2 = some 0 ∧ x = -1 ∧ ResX ρ g L f xb wN wV M σ L1 f1) ∨ (¬ mX8_isMakeable k0 k1 k2 = some 0 ∧ M = 30 ∧ x = -4 ∧ ResX ρ g L f xb wN wV M σ L1 f1) ∨ (¬ mX8_isMakeable k0 k1 k2 = some 0 ∧ M < 30 ∧ x = nI M ∧ ∃ τ, MkNs k0 k1 k2 k3 τ ∧ ResX ρ g L f xb wN wV (M + 1) (nup σ M τ) L1 f1)) := by
  have CC := C
  obtain ⟨A, WA, WR, wf, sf, rfl, hM, hO, hW, hS⟩ := C
  have hO2 := hO
  obtain ⟨o, e_xb, e_wo, e_Sl, oS⟩ := hO2
  have m_xb := (o 0 (by decide)).1
  have r_xb := (o 0 (by decide)).2
  have m_wo := (o 1 (by decide)).1
  have r_wo := (o 1 (by decide)).2
  have m_Sl := (o 2 (by decide)).1
  have r_Sl := (o 2 (by decide)).2
  by_cases hmk : mX8_isMakeable k0 k1 k2 = some 0
  · skip
    obtain ⟨z, hz, hq⟩ : OK (mX8_makeR k0 k1 k2) _ := smakeR_x hmk
    refine cI_up (k_X8_makeR l D g  hz) (by decide) (by decide) (by decide) (by decide) (by decide) (by decide) (fun x L1 f1 P => ?_)
    obtain ⟨ex, eL, ef⟩ := P
    subst eL ef
    exact Or.inl ⟨hmk, ex.trans hq, ResX_same CC⟩
  · skip
    rcases Nat.lt_or_ge M 30 with hM30 | hM30
    · skip
      rcases (hS M hM30).2 (Nat.le_refl _) with hF0_ | ⟨h, hF_h_, H_⟩
      · skip
        have hF0 : sf (Int32.toNatClampNeg (nI M)) = none := by rw [clN (by omega)]; exact hF0_
        obtain ⟨z, hz, hq⟩ : OK (mX8_makeF (nI M) k0 k1 k2 k3) _ := smakeF_x hM30 hmk _
        refine cI_up (k_X8_makeF l D g m_xb e_xb m_Sl e_Sl hF0 hz) (by decide) (by decide) (by decide) (by decide) (by decide) (by decide) (fun x L1 f1 P => ?_)
        obtain ⟨q38, ce, co, cr, ex, mo, fv, E_xb, E_Sl, ⟨nq_q38, mq_q38, E_q38⟩, ⟨nq_ce, mq_ce, E_ce⟩, ⟨nq_co, mq_co, E_co⟩, ⟨nq_cr, mq_cr, E_cr⟩⟩ := P
        rw [hq.2.1] at E_xb
        rw [clN (k := M) (by omega)] at E_Sl
        have hLL : ∀ b, b ∈ L → b ∈ L1 ∧ rN ρ L M b = ρ b := fun b hb => ⟨mo b hb, rN_i hb⟩
        refine Or.inr (Or.inr ⟨hmk, hM30, ex.trans hq.1, (z.2.2.1, z.2.2.2.1, z.2.2.2.2.1, z.2.2.2.2.2.1, z.2.2.2.2.2.2.1, z.2.2.2.2.2.2.2.1, z.2.2.2.2.2.2.2.2, L00), hq.2.2, ?_⟩)
        have FT : ∀ b, b ∈ _ → ¬ TT [0, 2] (fun _ => False) (fun j => j = M) (ρ b) → f1 b = f b := fun b hb ht => fv b hb (ne_T2 ht (tt_o r_xb (by decide))) (ne_T2 ht (tt_o r_Sl (by decide)))
        refine CX_up (M1 := (M + 1)) [0, 2] (fun _ => False) (fun j => j = M) rfl hO hW hS hLL FT (fun j h => by subst h; omega) (by decide) hM30 E_xb E_Sl ?_ ?_ ?_ ?_ ?_
        · intro k h3 _ hK
          have hc : False := by
            have hh : ∀ q, q ∈ ([0, 2] : List Nat) → 3 ≤ q → False := by decide
            exact hh k hK h3
          exact hc.elim
        · exact fun j _ h => h.elim
        · exact fun j _ _ => ⟨rfl, rfl⟩
        · intro j _ h_
          subst h_
          refine ⟨fun _ => ⟨q38, va_up_self _ _ _, ?_⟩, fun q => absurd q (by omega)⟩
          rw [nup_s]
          exact ⟨ce, co, cr, .null, ⟨mq_q38, rN_o nq_q38, E_q38⟩, ⟨mq_ce, rN_o nq_ce, E_ce⟩, ⟨mq_co, rN_o nq_co, E_co⟩, ⟨mq_cr, rN_o nq_cr, E_cr⟩, hq.2.2.2.2.2.2.2.2.2.1, Or.inl ⟨rfl, hq.2.2.2.2.2.2.2.2.2.2⟩⟩
        · exact fun j _ hh => ⟨va_up_ne _ _ hh, nup_n hh, fun q => by omega⟩
      · skip
        have hF_h : sf (Int32.toNatClampNeg (nI M)) = some h := by rw [clN (by omega)]; exact hF_h_
        obtain ⟨ce, co, cr, lay, kd, sz, mk, sd, kc, n, v, ⟨m_h, r_h, e_h⟩, ⟨m_ce, r_ce, e_ce⟩, ⟨m_co, r_co, e_co⟩, ⟨m_cr, r_cr, e_cr⟩, hSV, hk4, hLY⟩ := H_
        obtain ⟨z, hz, hq⟩ : OK (mX8_makeE (nI M) k0 k1 k2 k3 kd sz mk sd kc n) _ := smakeE_x hM30 hmk _ _ _ _ _ _ _
        refine cI_up (k_X8_makeE l D g m_xb e_xb m_Sl e_Sl m_h e_h m_ce e_ce m_co e_co hF_h hz) (by decide) (by decide) (by decide) (by decide) (by decide) (by decide) (fun x L1 f1 P => ?_)
        obtain ⟨ex, eL, fv, E_xb, E_h, E_ce, E_co⟩ := P
        subst eL
        rw [hq.2.1] at E_xb
        refine Or.inr (Or.inr ⟨hmk, hM30, ex.trans hq.1, (z.2.2.1, z.2.2.2.1, z.2.2.2.2.1, z.2.2.2.2.2.1, z.2.2.2.2.2.2.1, z.2.2.2.2.2.2.2, v, L00), hq.2.2, ?_⟩)
        have FT : ∀ b, b ∈ _ → ¬ TT [0] (fun _ => False) (fun j => j = M) (ρ b) → f1 b = f b := fun b hb ht => fv b hb (ne_T2 ht (tt_o r_xb (by decide))) (ne_T2 ht (tt_s r_h rfl)) (ne_T2 ht (tt_s r_ce rfl)) (ne_T2 ht (tt_s r_co rfl))
        refine CX_up (M1 := (M + 1)) [0] (fun _ => False) (fun j => j = M) rfl hO hW hS (fun _ h => ⟨h, rfl⟩) FT (fun j h => by subst h; omega) (by decide) hM30 E_xb ((FT _ m_Sl (tn_o r_Sl (by decide))).trans e_Sl) ?_ ?_ ?_ ?_ ?_
        · intro k h3 _ hK
          have hc : False := by
            have hh : ∀ q, q ∈ ([0] : List Nat) → 3 ≤ q → False := by decide
            exact hh k hK h3
          exact hc.elim
        · exact fun j _ h => h.elim
        · exact fun j _ _ => ⟨rfl, rfl⟩
        · intro j _ h_
          subst h_
          refine ⟨fun _ => ⟨h, hF_h_, ?_⟩, fun q => absurd q (by omega)⟩
          rw [nup_s]
          exact ⟨ce, co, cr, lay, ⟨m_h, r_h, E_h⟩, ⟨m_ce, r_ce, E_ce⟩, ⟨m_co, r_co, E_co⟩, ⟨m_cr, r_cr, ((fv cr m_cr (role_ne r_xb r_cr nr_s0) (ne_ri e_h e_cr) (ne_len e_ce e_cr (by decide)) (ne_ri e_co e_cr)).trans e_cr)⟩, hq.2.2.2.2.2.2.2.2.2.1, (LyS_new (fun _ h => ⟨h, rfl⟩) (fun b hb hr n1 n2 n3 n4 => fv b hb (role_ne r_xb hr nr_s0) n1 n2 n3) hLY e_h e_ce e_co e_cr hq.2.2.2.2.2.2.2.2.2.2)⟩
        · exact fun j _ hh => ⟨rfl, nup_n hh, fun q => by omega⟩
    · skip
      have hM3 : M = 30 := by omega
      subst hM3
      obtain ⟨z, hz, hq⟩ : OK (mX8_makeX (nI 30) k0 k1 k2) _ := smakeX_x hmk
      refine cI_up (k_X8_makeX l D g m_xb e_xb m_Sl e_Sl hz) (by decide) (by decide) (by decide) (by decide) (by decide) (by decide) (fun x L1 f1 P => ?_)
      obtain ⟨ex, eL, ef⟩ := P
      subst eL ef
      exact Or.inr (Or.inl ⟨hmk, rfl, ex.trans hq, ResX_same CC⟩)
set_option maxHeartbeats 1000000 in
theorem sx_fold (l : Launch) (D : va_G) {ρ : Nat → Nat × Nat} {g : Nat → ClassId} {L : List Nat} {f : Nat → va_E} {xb : Nat} {wN : Nat → Nat} {wV : Nat → Nat → Int64} {M : Nat} {σ : Nat → SlT} (C : CfX ρ g L f xb wN wV M σ) (aq : Int32) : cI l yX8_fold wsX8_fold (RmC 49 7472) D g [.ref xb, .int aq] L f 49 7472 (fun x L1 f1 => (NoS M aq ∧ x = -1 ∧ ResX ρ g L f xb wN wV M σ L1 f1) ∨ ∃ j, j < M ∧ aq = nI j ∧ ((¬ FoC (σ j) ∧ x = -2 ∧ ResX ρ g L f xb wN wV M σ L1 f1) ∨ (FoC (σ j) ∧ M = 30 ∧ x = -4 ∧ ResX ρ g L f xb wN wV M σ L1 f1) ∨ (FoC (σ j) ∧ M < 30 ∧ x = nI M ∧ ∃ τ, FoNs (σ j) τ ∧ ResX ρ g L f xb wN wV (M + 1) (nup σ M τ) L1 f1))) := by
  have CC := C
  obtain ⟨A, WA, WR, wf, sf, rfl, hM, hO, hW, hS⟩ := C
  have hO2 := hO
  obtain ⟨o, e_xb, e_wo, e_Sl, oS⟩ := hO2
  have m_xb := (o 0 (by decide)).1
  have r_xb := (o 0 (by decide)).2
  have m_wo := (o 1 (by decide)).1
  have r_wo := (o 1 (by decide)).2
  have m_Sl := (o 2 (by decide)).1
  have r_Sl := (o 2 (by decide)).2
  rcases sAtX (sf := sf) hM aq with ⟨hs_a, hn_a⟩ | ⟨jas, hjas, rfl, hs_a⟩
  · have hz : mX8_foldN = some _ := rfl
    refine cI_up (k_X8_foldN l D g m_xb e_xb m_Sl e_Sl hs_a hz) (by decide) (by decide) (by decide) (by decide) (by decide) (by decide) (fun x L1 f1 P => ?_)
    obtain ⟨ex, eL, ef⟩ := P
    subst eL ef ex
    exact Or.inl ⟨hn_a, rfl, ResX_same CC⟩
  · skip
    obtain ⟨ah, hsf_a, H_a⟩ := (hS jas (by omega)).1 hjas
    have hs_a := hs_a _ hsf_a
    rcases eσa : σ jas with ⟨akd, asz, amk, asd, akc, an, av, aτ⟩
    rw [eσa] at H_a
    obtain ⟨ace, aco, acr, alay, ⟨m_ah, r_ah, e_ah⟩, ⟨m_ace, r_ace, e_ace⟩, ⟨m_aco, r_aco, e_aco⟩, ⟨m_acr, r_acr, e_acr⟩, hSVa, hLSa⟩ := H_a
    have hFC : FoC (σ jas) ↔ (akd = 0 ∧ 8 < asz) := by rw [eσa]; exact Iff.rfl
    by_cases hfo : akd = 0 ∧ 8 < asz
    · skip
      rcases Nat.lt_or_ge M 30 with hM30 | hM30
      · skip
        rcases (hS M hM30).2 (Nat.le_refl _) with hF0_ | ⟨h, hF_h_, H_⟩
        · skip
          have hF0 : sf (Int32.toNatClampNeg (nI M)) = none := by rw [clN (by omega)]; exact hF0_
          obtain ⟨z, hz, hq⟩ : OK (mX8_foldF (nI M) akd asz amk asd akc an av) _ := sfoldF_x hM30 hSVa hfo.1 hfo.2 _ _ _
          refine cI_up (k_X8_foldF l D g m_xb e_xb m_Sl e_Sl m_ah e_ah m_ace e_ace m_aco e_aco m_acr e_acr hF0 hs_a hz) (by decide) (by decide) (by decide) (by decide) (by decide) (by decide) (fun x L1 f1 P => ?_)
          obtain ⟨q38, ce, co, cr, ex, mo, fv, E_xb, E_Sl, ⟨nq_q38, mq_q38, E_q38⟩, ⟨nq_ce, mq_ce, E_ce⟩, ⟨nq_co, mq_co, E_co⟩, ⟨nq_cr, mq_cr, E_cr⟩⟩ := P
          rw [hq.2.1] at E_xb
          rw [clN (k := M) (by omega)] at E_Sl
          have hLL : ∀ b, b ∈ L → b ∈ L1 ∧ rN ρ L M b = ρ b := fun b hb => ⟨mo b hb, rN_i hb⟩
          refine Or.inr ⟨jas, hjas, rfl, Or.inr (Or.inr ⟨hFC.mpr hfo, hM30, ex.trans hq.1, (z.2.2.1, z.2.2.2.1, z.2.2.2.2.1, z.2.2.2.2.2.1, z.2.2.2.2.2.2.1, z.2.2.2.2.2.2.2.1, z.2.2.2.2.2.2.2.2, L00), by rw [eσa]; exact hq.2.2, ?_⟩)⟩
          have FT : ∀ b, b ∈ _ → ¬ TT [0, 2] (fun _ => False) (fun j => j = M) (ρ b) → f1 b = f b := fun b hb ht => fv b hb (ne_T2 ht (tt_o r_xb (by decide))) (ne_T2 ht (tt_o r_Sl (by decide)))
          refine CX_up (M1 := (M + 1)) [0, 2] (fun _ => False) (fun j => j = M) rfl hO hW hS hLL FT (fun j h => by subst h; omega) (by decide) hM30 E_xb E_Sl ?_ ?_ ?_ ?_ ?_
          · intro k h3 _ hK
            have hc : False := by
              have hh : ∀ q, q ∈ ([0, 2] : List Nat) → 3 ≤ q → False := by decide
              exact hh k hK h3
            exact hc.elim
          · exact fun j _ h => h.elim
          · exact fun j _ _ => ⟨rfl, rfl⟩
          · intro j _ h_
            subst h_
            refine ⟨fun _ => ⟨q38, va_up_self _ _ _, ?_⟩, fun q => absurd q (by omega)⟩
            rw [nup_s]
            exact ⟨ce, co, cr, .null, ⟨mq_q38, rN_o nq_q38, E_q38⟩, ⟨mq_ce, rN_o nq_ce, E_ce⟩, ⟨mq_co, rN_o nq_co, E_co⟩, ⟨mq_cr, rN_o nq_cr, E_cr⟩, hq.2.2.2.2.2.2.2.2, Or.inl ⟨rfl, (by rw [hq.2.2.1]; decide)⟩⟩
          · exact fun j _ hh => ⟨va_up_ne _ _ hh, nup_n hh, fun q => by omega⟩
        · skip
          have hF_h : sf (Int32.toNatClampNeg (nI M)) = some h := by rw [clN (by omega)]; exact hF_h_
          obtain ⟨ce, co, cr, lay, kd, sz, mk, sd, kc, n, v, ⟨m_h, r_h, e_h⟩, ⟨m_ce, r_ce, e_ce⟩, ⟨m_co, r_co, e_co⟩, ⟨m_cr, r_cr, e_cr⟩, hSV, hk4, hLY⟩ := H_
          have hja : jas ≠ M := by omega
          obtain ⟨z, hz, hq⟩ : OK (mX8_foldE (nI M) akd asz amk asd akc an av kd sz mk sd kc n v) _ := sfoldE_x hM30 hSVa hfo.1 hfo.2 _ _ _ _ _ _ _ _ _ _
          refine cI_up (k_X8_foldE l D g m_xb e_xb m_Sl e_Sl m_ah e_ah m_ace e_ace m_aco e_aco m_acr e_acr m_h e_h m_ce e_ce m_co e_co m_cr e_cr r_ah r_ace r_aco r_h r_ce r_co hF_h hja hs_a hz) (by decide) (by decide) (by decide) (by decide) (by decide) (by decide) (fun x L1 f1 P => ?_)
          obtain ⟨ex, eL, fv, E_xb, E_h, E_ce, E_co, E_cr⟩ := P
          subst eL
          rw [hq.2.1] at E_xb
          refine Or.inr ⟨jas, hjas, rfl, Or.inr (Or.inr ⟨hFC.mpr hfo, hM30, ex.trans hq.1, (z.2.2.1, z.2.2.2.1, z.2.2.2.2.1, z.2.2.2.2.2.1, z.2.2.2.2.2.2.1, z.2.2.2.2.2.2.2.1, z.2.2.2.2.2.2.2.2, L00), by rw [eσa]; exact hq.2.2, ?_⟩)⟩
          have FT : ∀ b, b ∈ _ → ¬ TT [0] (fun _ => False) (fun j => j = M) (ρ b) → f1 b = f b := fun b hb ht => fv b hb (ne_T2 ht (tt_o r_xb (by decide))) (ne_T2 ht (tt_s r_h rfl)) (ne_T2 ht (tt_s r_ce rfl)) (ne_T2 ht (tt_s r_co rfl)) (ne_T2 ht (tt_s r_cr rfl))
          refine CX_up (M1 := (M + 1)) [0] (fun _ => False) (fun j => j = M) rfl hO hW hS (fun _ h => ⟨h, rfl⟩) FT (fun j h => by subst h; omega) (by decide) hM30 E_xb ((FT _ m_Sl (tn_o r_Sl (by decide))).trans e_Sl) ?_ ?_ ?_ ?_ ?_
          · intro k h3 _ hK
            have hc : False := by
              have hh : ∀ q, q ∈ ([0] : List Nat) → 3 ≤ q → False := by decide
              exact hh k hK h3
            exact hc.elim
          · exact fun j _ h => h.elim
          · exact fun j _ _ => ⟨rfl, rfl⟩
          · intro j _ h_
            subst h_
            refine ⟨fun _ => ⟨h, hF_h_, ?_⟩, fun q => absurd q (by omega)⟩
            rw [nup_s]
            exact ⟨ce, co, cr, lay, ⟨m_h, r_h, E_h⟩, ⟨m_ce, r_ce, E_ce⟩, ⟨m_co, r_co, E_co⟩, ⟨m_cr, r_cr, E_cr⟩, hq.2.2.2.2.2.2.2.2, (LyS_new (fun _ h => ⟨h, rfl⟩) (fun b hb hr n1 n2 n3 n4 => fv b hb (role_ne r_xb hr nr_s0) n1 n2 n3 n4) hLY e_h e_ce e_co e_cr (by rw [hq.2.2.1]; decide))⟩
          · exact fun j _ hh => ⟨rfl, nup_n hh, fun q => by omega⟩
      · skip
        have hM3 : M = 30 := by omega
        subst hM3
        obtain ⟨z, hz, hq⟩ : OK (mX8_foldX (nI 30) akd asz) _ := sfoldX_x hfo.1 hfo.2
        refine cI_up (k_X8_foldX l D g m_xb e_xb m_Sl e_Sl m_ah e_ah hs_a hz) (by decide) (by decide) (by decide) (by decide) (by decide) (by decide) (fun x L1 f1 P => ?_)
        obtain ⟨ex, eL, ef⟩ := P
        subst eL ef
        exact Or.inr ⟨jas, hjas, rfl, Or.inr (Or.inl ⟨hFC.mpr hfo, rfl, ex.trans hq, ResX_same CC⟩)⟩
    · skip
      obtain ⟨z, hz, hq⟩ : OK (mX8_foldR akd asz) _ := sfoldR_x hfo
      refine cI_up (k_X8_foldR l D g m_xb e_xb m_Sl e_Sl m_ah e_ah hs_a hz) (by decide) (by decide) (by decide) (by decide) (by decide) (by decide) (fun x L1 f1 P => ?_)
      obtain ⟨ex, eL, ef⟩ := P
      subst eL ef
      exact Or.inr ⟨jas, hjas, rfl, Or.inl ⟨fun q => hfo (hFC.mp q), ex.trans hq, ResX_same CC⟩⟩
set_option maxHeartbeats 1000000 in
theorem sx_join (l : Launch) (D : va_G) {ρ : Nat → Nat × Nat} {g : Nat → ClassId} {L : List Nat} {f : Nat → va_E} {xb : Nat} {wN : Nat → Nat} {wV : Nat → Nat → Int64} {M : Nat} {σ : Nat → SlT} (C : CfX ρ g L f xb wN wV M σ) (ho : Int32) (aq : Int32) (bq : Int32) : cI l yX8_join wsX8_join (RmC 49 7472) D g [.ref xb, .int ho, .int aq, .int bq] L f 49 7472 (fun x L1 f1 => ((NoS M aq ∨ NoS M bq ∨ (ho < 0 ∨ ¬ ho ≤ 1)) ∧ x = -1 ∧ ResX ρ g L f xb wN wV M σ L1 f1) ∨ ∃ i, i < M ∧ ∃ j, j < M ∧ aq = nI i ∧ bq = nI j ∧ ¬ (ho < 0 ∨ ¬ ho ≤ 1) ∧ ((¬ JoC (σ i) (σ j) ∧ x = -2 ∧ ResX ρ g L f xb wN wV M σ L1 f1) ∨ (JoC (σ i) (σ j) ∧ (M = 30 ∨ JoFs ho (σ i) (σ j)) ∧ x = -4 ∧ ResX ρ g L f xb wN wV M σ L1 f1) ∨ (JoC (σ i) (σ j) ∧ M < 30 ∧ ¬ JoFs ho (σ i) (σ j) ∧ x = nI M ∧ ∃ τ, JoNs ho (σ i) (σ j) τ ∧ ResX ρ g L f xb wN wV (M + 1) (nup σ M τ) L1 f1))) := by
  have CC := C
  obtain ⟨A, WA, WR, wf, sf, rfl, hM, hO, hW, hS⟩ := C
  have hO2 := hO
  obtain ⟨o, e_xb, e_wo, e_Sl, oS⟩ := hO2
  have m_xb := (o 0 (by decide)).1
  have r_xb := (o 0 (by decide)).2
  have m_wo := (o 1 (by decide)).1
  have r_wo := (o 1 (by decide)).2
  have m_Sl := (o 2 (by decide)).1
  have r_Sl := (o 2 (by decide)).2
  rcases sAtX (sf := sf) hM aq with ⟨hs_a, hn_a⟩ | ⟨jas, hjas, rfl, hs_a⟩
  · rcases sAtX (sf := sf) hM bq with ⟨hs_b, hn_b⟩ | ⟨jbs, hjbs, rfl, hs_b⟩
    · skip
      have hz : mX8_joinNN = some _ := rfl
      refine cI_up (k_X8_joinNN l D g m_xb e_xb m_Sl e_Sl hs_a hs_b hz) (by decide) (by decide) (by decide) (by decide) (by decide) (by decide) (fun x L1 f1 P => ?_)
      obtain ⟨ex, eL, ef⟩ := P
      subst eL ef ex
      exact Or.inl ⟨Or.inl hn_a, rfl, ResX_same CC⟩
    · skip
      obtain ⟨bh, hsf_b, H_b⟩ := (hS jbs (by omega)).1 hjbs
      have hs_b := hs_b _ hsf_b
      rcases eσb : σ jbs with ⟨bkd, bsz, bmk, bsd, bkc, bn, bv, bτ⟩
      rw [eσb] at H_b
      obtain ⟨bce, bco, bcr, blay, ⟨m_bh, r_bh, e_bh⟩, ⟨m_bce, r_bce, e_bce⟩, ⟨m_bco, r_bco, e_bco⟩, ⟨m_bcr, r_bcr, e_bcr⟩, hSVb, hLSb⟩ := H_b
      have hz : mX8_joinNB = some _ := rfl
      refine cI_up (k_X8_joinNB l D g m_xb e_xb m_Sl e_Sl hs_a hs_b hz) (by decide) (by decide) (by decide) (by decide) (by decide) (by decide) (fun x L1 f1 P => ?_)
      obtain ⟨ex, eL, ef⟩ := P
      subst eL ef ex
      exact Or.inl ⟨Or.inl hn_a, rfl, ResX_same CC⟩
  · skip
    obtain ⟨ah, hsf_a, H_a⟩ := (hS jas (by omega)).1 hjas
    have hs_a := hs_a _ hsf_a
    rcases eσa : σ jas with ⟨akd, asz, amk, asd, akc, an, av, aτ⟩
    rw [eσa] at H_a
    obtain ⟨ace, aco, acr, alay, ⟨m_ah, r_ah, e_ah⟩, ⟨m_ace, r_ace, e_ace⟩, ⟨m_aco, r_aco, e_aco⟩, ⟨m_acr, r_acr, e_acr⟩, hSVa, hLSa⟩ := H_a
    rcases sAtX (sf := sf) hM bq with ⟨hs_b, hn_b⟩ | ⟨jbs, hjbs, rfl, hs_b⟩
    · have hz : mX8_joinAN = some _ := rfl
      refine cI_up (k_X8_joinAN l D g m_xb e_xb m_Sl e_Sl hs_a hs_b hz) (by decide) (by decide) (by decide) (by decide) (by decide) (by decide) (fun x L1 f1 P => ?_)
      obtain ⟨ex, eL, ef⟩ := P
      subst eL ef ex
      exact Or.inl ⟨Or.inr (Or.inl hn_b), rfl, ResX_same CC⟩
    · skip
      obtain ⟨bh, hsf_b, H_b⟩ := (hS jbs (by omega)).1 hjbs
      have hs_b := hs_b _ hsf_b
      rcases eσb : σ jbs with ⟨bkd, bsz, bmk, bsd, bkc, bn, bv, bτ⟩
      rw [eσb] at H_b
      obtain ⟨bce, bco, bcr, blay, ⟨m_bh, r_bh, e_bh⟩, ⟨m_bce, r_bce, e_bce⟩, ⟨m_bco, r_bco, e_bco⟩, ⟨m_bcr, r_bcr, e_bcr⟩, hSVb, hLSb⟩ := H_b
      have hJC : JoC (σ jas) (σ jbs) ↔ ¬ mX6_isMarkedLike akd asz amk asd bkd bsz bmk bsd = some 0 := by rw [eσa, eσb]; exact Iff.rfl
      have hJFs : JoFs ho (σ jas) (σ jbs) ↔ JoF ho an bn := by rw [eσa, eσb]; exact Iff.rfl
      by_cases hjo : ho < 0 ∨ ¬ ho ≤ 1 ∨ mX6_isMarkedLike akd asz amk asd bkd bsz bmk bsd = some 0
      · skip
        obtain ⟨z, hz, hq⟩ : OK (mX8_joinR ho akd asz amk asd bkd bsz bmk bsd) _ := sjoinR_x hjo
        refine cI_up (k_X8_joinR l D g m_xb e_xb m_Sl e_Sl m_ah e_ah m_bh e_bh hs_a hs_b hz) (by decide) (by decide) (by decide) (by decide) (by decide) (by decide) (fun x L1 f1 P => ?_)
        obtain ⟨ex, eL, ef⟩ := P
        subst eL ef
        rcases hq with ⟨q1, q2⟩ | ⟨q1, q2⟩
        · exact Or.inl ⟨Or.inr (Or.inr q1), ex.trans q2, ResX_same CC⟩
        · refine Or.inr ⟨jas, hjas, jbs, hjbs, rfl, rfl, q1, Or.inl ⟨fun w => ?_, ex.trans q2, ResX_same CC⟩⟩
          rcases hjo with r | r | r
          · exact q1 (Or.inl r)
          · exact q1 (Or.inr r)
          · exact hJC.mp w r
      · skip
        have hj0 : ¬ ho < 0 := fun q => hjo (Or.inl q)
        have hj1 : ho ≤ 1 := Decidable.byContradiction (fun q => hjo (Or.inr (Or.inl q)))
        have hj2 : ¬ mX6_isMarkedLike akd asz amk asd bkd bsz bmk bsd = some 0 := fun q => hjo (Or.inr (Or.inr q))
        have hj3 : ¬ (ho < 0 ∨ ¬ ho ≤ 1) := fun q => q.elim hj0 (fun q => q hj1)
        rcases Nat.lt_or_ge M 30 with hM30 | hM30
        · skip
          rcases (hS M hM30).2 (Nat.le_refl _) with hF0_ | ⟨h, hF_h_, H_⟩
          · skip
            have hF0 : sf (Int32.toNatClampNeg (nI M)) = none := by rw [clN (by omega)]; exact hF0_
            obtain ⟨z, hz, hq⟩ : OK (mX8_joinF (nI M) ho akd asz amk asd akc an av bkd bsz bmk bsd bkc bn bv) _ := sjoinF_x hM30 hSVa hSVb.2.1 hj0 hj1 hj2 _ _ _ _
            refine cI_up (k_X8_joinF l D g m_xb e_xb m_Sl e_Sl m_ah e_ah m_ace e_ace m_aco e_aco m_acr e_acr m_bh e_bh m_bce e_bce m_bco e_bco m_bcr e_bcr hF0 hs_a hs_b hz) (by decide) (by decide) (by decide) (by decide) (by decide) (by decide) (fun x L1 f1 P => ?_)
            obtain ⟨q38, ce, co, cr, ex, mo, fv, E_xb, E_Sl, ⟨nq_q38, mq_q38, E_q38⟩, ⟨nq_ce, mq_ce, E_ce⟩, ⟨nq_co, mq_co, E_co⟩, ⟨nq_cr, mq_cr, E_cr⟩⟩ := P
            rcases hq with ⟨hJF, hzz⟩ | ⟨hJF, hq⟩
            · skip
              subst hzz
              refine Or.inr ⟨jas, hjas, jbs, hjbs, rfl, rfl, hj3, Or.inr (Or.inl ⟨hJC.mpr hj2, (Or.inr (hJFs.mpr hJF)), ex, ?_⟩)⟩
              rw [clN (k := M) (by omega)] at E_Sl
              have hLL : ∀ b, b ∈ L → b ∈ L1 ∧ rN ρ L M b = ρ b := fun b hb => ⟨mo b hb, rN_i hb⟩
              have FT : ∀ b, b ∈ _ → ¬ TT [0, 2] (fun _ => False) (fun j => j = M) (ρ b) → f1 b = f b := fun b hb ht => fv b hb (ne_T2 ht (tt_o r_xb (by decide))) (ne_T2 ht (tt_o r_Sl (by decide)))
              refine CX_up (M1 := M) [0, 2] (fun _ => False) (fun j => j = M) rfl hO hW hS hLL FT (fun j h => by subst h; omega) (by decide) hM E_xb E_Sl ?_ ?_ ?_ ?_ ?_
              · intro k h3 _ hK
                have hc : False := by
                  have hh : ∀ q, q ∈ ([0, 2] : List Nat) → 3 ≤ q → False := by decide
                  exact hh k hK h3
                exact hc.elim
              · exact fun j _ h => h.elim
              · exact fun j _ _ => ⟨rfl, rfl⟩
              · intro j _ h_
                subst h_
                exact ⟨fun q => absurd q (by omega), fun _ => Or.inr ⟨q38, va_up_self _ _ _, ce, co, cr, .null, _, _, _, _, _, _, _, ⟨mq_q38, rN_o nq_q38, E_q38⟩, ⟨mq_ce, rN_o nq_ce, E_ce⟩, ⟨mq_co, rN_o nq_co, E_co⟩, ⟨mq_cr, rN_o nq_cr, E_cr⟩, SV_0, fun q => absurd q (show ¬ (0 : Int32) = 4 by decide), Or.inl rfl⟩⟩
              · exact fun j _ hh => ⟨va_up_ne _ _ hh, rfl, id⟩
            · skip
              rw [hq.2.1] at E_xb
              rw [clN (k := M) (by omega)] at E_Sl
              have hLL : ∀ b, b ∈ L → b ∈ L1 ∧ rN ρ L M b = ρ b := fun b hb => ⟨mo b hb, rN_i hb⟩
              refine Or.inr ⟨jas, hjas, jbs, hjbs, rfl, rfl, hj3, Or.inr (Or.inr ⟨hJC.mpr hj2, hM30, fun w => hJF (hJFs.mp w), ex.trans hq.1, (z.2.2.1, z.2.2.2.1, z.2.2.2.2.1, z.2.2.2.2.2.1, z.2.2.2.2.2.2.1, z.2.2.2.2.2.2.2.1, z.2.2.2.2.2.2.2.2, L00), by rw [eσa, eσb]; exact hq.2.2, ?_⟩)⟩
              have FT : ∀ b, b ∈ _ → ¬ TT [0, 2] (fun _ => False) (fun j => j = M) (ρ b) → f1 b = f b := fun b hb ht => fv b hb (ne_T2 ht (tt_o r_xb (by decide))) (ne_T2 ht (tt_o r_Sl (by decide)))
              refine CX_up (M1 := (M + 1)) [0, 2] (fun _ => False) (fun j => j = M) rfl hO hW hS hLL FT (fun j h => by subst h; omega) (by decide) hM30 E_xb E_Sl ?_ ?_ ?_ ?_ ?_
              · intro k h3 _ hK
                have hc : False := by
                  have hh : ∀ q, q ∈ ([0, 2] : List Nat) → 3 ≤ q → False := by decide
                  exact hh k hK h3
                exact hc.elim
              · exact fun j _ h => h.elim
              · exact fun j _ _ => ⟨rfl, rfl⟩
              · intro j _ h_
                subst h_
                refine ⟨fun _ => ⟨q38, va_up_self _ _ _, ?_⟩, fun q => absurd q (by omega)⟩
                rw [nup_s]
                exact ⟨ce, co, cr, .null, ⟨mq_q38, rN_o nq_q38, E_q38⟩, ⟨mq_ce, rN_o nq_ce, E_ce⟩, ⟨mq_co, rN_o nq_co, E_co⟩, ⟨mq_cr, rN_o nq_cr, E_cr⟩, hq.2.2.2.2.2.2.2.2.2, Or.inl ⟨rfl, (by rw [hq.2.2.1]; decide)⟩⟩
              · exact fun j _ hh => ⟨va_up_ne _ _ hh, nup_n hh, fun q => by omega⟩
          · skip
            have hF_h : sf (Int32.toNatClampNeg (nI M)) = some h := by rw [clN (by omega)]; exact hF_h_
            obtain ⟨ce, co, cr, lay, kd, sz, mk, sd, kc, n, v, ⟨m_h, r_h, e_h⟩, ⟨m_ce, r_ce, e_ce⟩, ⟨m_co, r_co, e_co⟩, ⟨m_cr, r_cr, e_cr⟩, hSV, hk4, hLY⟩ := H_
            have hja : jas ≠ M := by omega
            have hjb : jbs ≠ M := by omega
            obtain ⟨z, hz, hq⟩ : OK (mX8_joinE (nI M) ho akd asz amk asd akc an av bkd bsz bmk bsd bkc bn bv kd sz mk sd kc n v) _ := sjoinE_x hM30 hSVa hSVb.2.1 hj0 hj1 hj2 _ _ _ _ _ _ _ _ _ _ _
            refine cI_up (k_X8_joinE l D g m_xb e_xb m_Sl e_Sl m_ah e_ah m_ace e_ace m_aco e_aco m_acr e_acr m_bh e_bh m_bce e_bce m_bco e_bco m_bcr e_bcr m_h e_h m_ce e_ce m_co e_co m_cr e_cr r_ah r_ace r_aco r_acr r_bh r_bce r_bco r_bcr r_h r_ce r_co r_cr hF_h hja hjb hs_a hs_b hz) (by decide) (by decide) (by decide) (by decide) (by decide) (by decide) (fun x L1 f1 P => ?_)
            obtain ⟨ex, eL, fv, E_xb, E_h, E_ce, E_co, E_cr⟩ := P
            subst eL
            rcases hq with ⟨hJF, hzz⟩ | ⟨hJF, hq⟩
            · skip
              subst hzz
              refine Or.inr ⟨jas, hjas, jbs, hjbs, rfl, rfl, hj3, Or.inr (Or.inl ⟨hJC.mpr hj2, (Or.inr (hJFs.mpr hJF)), ex, ?_⟩)⟩
              have FT : ∀ b, b ∈ _ → ¬ TT [0] (fun _ => False) (fun j => j = M) (ρ b) → f1 b = f b := fun b hb ht => fv b hb (ne_T2 ht (tt_o r_xb (by decide))) (ne_T2 ht (tt_s r_h rfl)) (ne_T2 ht (tt_s r_ce rfl)) (ne_T2 ht (tt_s r_co rfl)) (ne_T2 ht (tt_s r_cr rfl))
              refine CX_up (M1 := M) [0] (fun _ => False) (fun j => j = M) rfl hO hW hS (fun _ h => ⟨h, rfl⟩) FT (fun j h => by subst h; omega) (by decide) hM E_xb ((FT _ m_Sl (tn_o r_Sl (by decide))).trans e_Sl) ?_ ?_ ?_ ?_ ?_
              · intro k h3 _ hK
                have hc : False := by
                  have hh : ∀ q, q ∈ ([0] : List Nat) → 3 ≤ q → False := by decide
                  exact hh k hK h3
                exact hc.elim
              · exact fun j _ h => h.elim
              · exact fun j _ _ => ⟨rfl, rfl⟩
              · intro j _ h_
                subst h_
                exact ⟨fun q => absurd q (by omega), fun _ => Or.inr ⟨h, hF_h_, ce, co, cr, lay, _, _, _, _, _, _, _, ⟨m_h, r_h, E_h⟩, ⟨m_ce, r_ce, E_ce⟩, ⟨m_co, r_co, E_co⟩, ⟨m_cr, r_cr, E_cr⟩, hSV, hk4, (hLY.elim Or.inl (fun q => Or.inr (LY_fr (fun _ h => ⟨h, rfl⟩) (fun b hb hr n1 n2 n3 n4 => fv b hb (role_ne r_xb hr nr_s0) n1 n2 n3 n4) q e_h e_ce e_co e_cr)))⟩⟩
              · exact fun j _ hh => ⟨rfl, rfl, id⟩
            · skip
              rw [hq.2.1] at E_xb
              refine Or.inr ⟨jas, hjas, jbs, hjbs, rfl, rfl, hj3, Or.inr (Or.inr ⟨hJC.mpr hj2, hM30, fun w => hJF (hJFs.mp w), ex.trans hq.1, (z.2.2.1, z.2.2.2.1, z.2.2.2.2.1, z.2.2.2.2.2.1, z.2.2.2.2.2.2.1, z.2.2.2.2.2.2.2.1, z.2.2.2.2.2.2.2.2, L00), by rw [eσa, eσb]; exact hq.2.2, ?_⟩)⟩
              have FT : ∀ b, b ∈ _ → ¬ TT [0] (fun _ => False) (fun j => j = M) (ρ b) → f1 b = f b := fun b hb ht => fv b hb (ne_T2 ht (tt_o r_xb (by decide))) (ne_T2 ht (tt_s r_h rfl)) (ne_T2 ht (tt_s r_ce rfl)) (ne_T2 ht (tt_s r_co rfl)) (ne_T2 ht (tt_s r_cr rfl))
              refine CX_up (M1 := (M + 1)) [0] (fun _ => False) (fun j => j = M) rfl hO hW hS (fun _ h => ⟨h, rfl⟩) FT (fun j h => by subst h; omega) (by decide) hM30 E_xb ((FT _ m_Sl (tn_o r_Sl (by decide))).trans e_Sl) ?_ ?_ ?_ ?_ ?_
              · intro k h3 _ hK
                have hc : False := by
                  have hh : ∀ q, q ∈ ([0] : List Nat) → 3 ≤ q → False := by decide
                  exact hh k hK h3
                exact hc.elim
              · exact fun j _ h => h.elim
              · exact fun j _ _ => ⟨rfl, rfl⟩
              · intro j _ h_
                subst h_
                refine ⟨fun _ => ⟨h, hF_h_, ?_⟩, fun q => absurd q (by omega)⟩
                rw [nup_s]
                exact ⟨ce, co, cr, lay, ⟨m_h, r_h, E_h⟩, ⟨m_ce, r_ce, E_ce⟩, ⟨m_co, r_co, E_co⟩, ⟨m_cr, r_cr, E_cr⟩, hq.2.2.2.2.2.2.2.2.2, (LyS_new (fun _ h => ⟨h, rfl⟩) (fun b hb hr n1 n2 n3 n4 => fv b hb (role_ne r_xb hr nr_s0) n1 n2 n3 n4) hLY e_h e_ce e_co e_cr (by rw [hq.2.2.1]; decide))⟩
              · exact fun j _ hh => ⟨rfl, nup_n hh, fun q => by omega⟩
        · skip
          have hM3 : M = 30 := by omega
          subst hM3
          obtain ⟨z, hz, hq⟩ : OK (mX8_joinX (nI 30) ho akd asz amk asd bkd bsz bmk bsd) _ := sjoinX_x hj0 hj1 hj2
          refine cI_up (k_X8_joinX l D g m_xb e_xb m_Sl e_Sl m_ah e_ah m_bh e_bh hs_a hs_b hz) (by decide) (by decide) (by decide) (by decide) (by decide) (by decide) (fun x L1 f1 P => ?_)
          obtain ⟨ex, eL, ef⟩ := P
          subst eL ef
          exact Or.inr ⟨jas, hjas, jbs, hjbs, rfl, rfl, hj3, Or.inr (Or.inl ⟨hJC.mpr hj2, Or.inl rfl, ex.trans hq, ResX_same CC⟩)⟩
set_option maxHeartbeats 1000000 in
theorem sx_solve (l : Launch) (D : va_G) {ρ : Nat → Nat × Nat} {g : Nat → ClassId} {L : List Nat} {f : Nat → va_E} {xb : Nat} {wN : Nat → Nat} {wV : Nat → Nat → Int64} {M : Nat} {σ : Nat → SlT} (C : CfX ρ g L f xb wN wV M σ) (wi : Int32) (sd_ : Int32) : cI l yX8_solve wsX8_solve (RmC 49 7472) D g [.ref xb, .int wi, .int sd_] L f 49 7472 (fun x L1 f1 => (mX9_isWorld wi = some 0 ∧ x = -1 ∧ ResX ρ g L f xb wN wV M σ L1 f1) ∨ ∃ j, j < 8 ∧ wi = nI j ∧ ((NoV (wN j) (wV j) sd_ ∧ x = -3 ∧ ResX ρ g L f xb wN wV M σ L1 f1) ∨ ((∃ τ, TrV (wN j) (wV j) sd_ τ) ∧ M = 30 ∧ x = -4 ∧ ResX ρ g L f xb wN wV M σ L1 f1) ∨ (M < 30 ∧ x = nI M ∧ ∃ τ, SoNs (wN j) (wV j) sd_ τ ∧ ResX ρ g L f xb wN wV (M + 1) (nup σ M τ) L1 f1))) := by
  have CC := C
  obtain ⟨A, WA, WR, wf, sf, rfl, hM, hO, hW, hS⟩ := C
  have hO2 := hO
  obtain ⟨o, e_xb, e_wo, e_Sl, oS⟩ := hO2
  have m_xb := (o 0 (by decide)).1
  have r_xb := (o 0 (by decide)).2
  have m_wo := (o 1 (by decide)).1
  have r_wo := (o 1 (by decide)).2
  have m_Sl := (o 2 (by decide)).1
  have r_Sl := (o 2 (by decide)).2
  obtain ⟨cn, th3, e_so⟩ := oS 9 (by decide) (by decide)
  have m_so := (o 9 (by decide)).1
  have r_so := (o 9 (by decide)).2
  obtain ⟨vpa, e_pa⟩ := oS 10 (by decide) (by decide)
  have m_pa := (o 10 (by decide)).1
  have r_pa := (o 10 (by decide)).2
  obtain ⟨vta, e_ta⟩ := oS 11 (by decide) (by decide)
  have m_ta := (o 11 (by decide)).1
  have r_ta := (o 11 (by decide)).2
  obtain ⟨vlf, e_lf⟩ := oS 12 (by decide) (by decide)
  have m_lf := (o 12 (by decide)).1
  have r_lf := (o 12 (by decide)).2
  obtain ⟨vbl, e_bl⟩ := oS 13 (by decide) (by decide)
  have m_bl := (o 13 (by decide)).1
  have r_bl := (o 13 (by decide)).2
  obtain ⟨z0, e_si⟩ := oS 14 (by decide) (by decide)
  have m_si := (o 14 (by decide)).1
  have r_si := (o 14 (by decide)).2
  obtain ⟨vsw, e_sw⟩ := oS 15 (by decide) (by decide)
  have m_sw := (o 15 (by decide)).1
  have r_sw := (o 15 (by decide)).2
  obtain ⟨vtt, e_tt⟩ := oS 16 (by decide) (by decide)
  have m_tt := (o 16 (by decide)).1
  have r_tt := (o 16 (by decide)).2
  obtain ⟨vtp, e_tp⟩ := oS 17 (by decide) (by decide)
  have m_tp := (o 17 (by decide)).1
  have r_tp := (o 17 (by decide)).2
  rcases wAt (wf := wf) wi with ⟨hw_w, hq_w⟩ | ⟨jw, hjw, rfl, hw_w⟩
  · have hz : mX8_solveN = some _ := rfl
    refine cI_up (k_X8_solveN l D g m_xb e_xb m_wo e_wo hw_w hz) (by decide) (by decide) (by decide) (by decide) (by decide) (by decide) (fun x L1 f1 P => ?_)
    obtain ⟨ex, eL, ef⟩ := P
    subst eL ef ex
    exact Or.inl ⟨hq_w, rfl, ResX_same CC⟩
  · skip
    have hw_w := hw_w _ (hW jw hjw).1
    obtain ⟨m_wb, r_wb, e_wb, m_wr, r_wr, e_wr, bn_w, wr_w⟩ := (hW jw hjw).2
    have BNw : BN (nI (wN jw)) := ⟨_, bn_w, rfl⟩
    by_cases hgg : ∀ z, mX7_triesUntilSolved vpa vta vlf vbl z0 vsw vtt vtp (nI (wN jw)) (wV jw) sd_ = some z → 0 ≤ z.1
    · skip
      rcases Nat.lt_or_ge M 30 with hM30 | hM30
      · skip
        rcases (hS M hM30).2 (Nat.le_refl _) with hF0_ | ⟨h, hF_h_, H_⟩
        · skip
          have hF0 : sf (Int32.toNatClampNeg (nI M)) = none := by rw [clN (by omega)]; exact hF0_
          obtain ⟨z, hz, hq⟩ : OK (mX8_solveF (nI M) sd_ (nI (wN jw)) (wV jw) vpa vta vlf vbl z0 vsw vtt vtp) _ := ssolveF_x hM30 bn_w _ _ _ _ _ _ _ _ _ _ hgg
          refine cI_up (k_X8_solveF l D g m_xb e_xb m_wo e_wo m_wb e_wb m_wr e_wr m_Sl e_Sl m_so e_so m_pa e_pa m_ta e_ta m_lf e_lf m_bl e_bl m_si e_si m_sw e_sw m_tt e_tt m_tp e_tp r_ta r_lf r_bl r_tt r_tp hF0 hw_w hz) (by decide) (by decide) (by decide) (by decide) (by decide) (by decide) (fun x L1 f1 P => ?_)
          obtain ⟨q38, ce, co, cr, ex, mo, fv, E_xb, E_Sl, E_so, E_pa, E_ta, E_lf, E_bl, E_si, E_sw, E_tt, E_tp, ⟨nq_q38, mq_q38, E_q38⟩, ⟨nq_ce, mq_ce, E_ce⟩, ⟨nq_co, mq_co, E_co⟩, ⟨nq_cr, mq_cr, E_cr⟩⟩ := P
          rw [hq.2.1] at E_xb
          rw [clN (k := M) (by omega)] at E_Sl
          have hLL : ∀ b, b ∈ L → b ∈ L1 ∧ rN ρ L M b = ρ b := fun b hb => ⟨mo b hb, rN_i hb⟩
          refine Or.inr ⟨jw, hjw, rfl, Or.inr (Or.inr ⟨hM30, ex.trans hq.1, (z.2.2.2.2.2.2.2.2.2.2.2.2.1, z.2.2.2.2.2.2.2.2.2.2.2.2.2.1, z.2.2.2.2.2.2.2.2.2.2.2.2.2.2.1, z.2.2.2.2.2.2.2.2.2.2.2.2.2.2.2.1, z.2.2.2.2.2.2.2.2.2.2.2.2.2.2.2.2.1, z.2.2.2.2.2.2.2.2.2.2.2.2.2.2.2.2.2.1, z.2.2.2.2.2.2.2.2.2.2.2.2.2.2.2.2.2.2, L00), hq.2.2, ?_⟩)⟩
          have FT : ∀ b, b ∈ _ → ¬ TT [0, 2, 9, 10, 11, 12, 13, 14, 15, 16, 17] (fun _ => False) (fun j => j = M) (ρ b) → f1 b = f b := fun b hb ht => fv b hb (ne_T2 ht (tt_o r_xb (by decide))) (ne_T2 ht (tt_o r_Sl (by decide))) (ne_T2 ht (tt_o r_so (by decide))) (ne_T2 ht (tt_o r_pa (by decide))) (ne_T2 ht (tt_o r_ta (by decide))) (ne_T2 ht (tt_o r_lf (by decide))) (ne_T2 ht (tt_o r_bl (by decide))) (ne_T2 ht (tt_o r_si (by decide))) (ne_T2 ht (tt_o r_sw (by decide))) (ne_T2 ht (tt_o r_tt (by decide))) (ne_T2 ht (tt_o r_tp (by decide)))
          refine CX_up (M1 := (M + 1)) [0, 2, 9, 10, 11, 12, 13, 14, 15, 16, 17] (fun _ => False) (fun j => j = M) rfl hO hW hS hLL FT (fun j h => by subst h; omega) (by decide) hM30 E_xb E_Sl ?_ ?_ ?_ ?_ ?_
          · intro k h3 _ hK
            have hc : k = 9 ∨ k = 10 ∨ k = 11 ∨ k = 12 ∨ k = 13 ∨ k = 14 ∨ k = 15 ∨ k = 16 ∨ k = 17 := by
              have hh : ∀ q, q ∈ ([0, 2, 9, 10, 11, 12, 13, 14, 15, 16, 17] : List Nat) → 3 ≤ q → q = 9 ∨ q = 10 ∨ q = 11 ∨ q = 12 ∨ q = 13 ∨ q = 14 ∨ q = 15 ∨ q = 16 ∨ q = 17 := by decide
              exact hh k hK h3
            rcases hc with rfl | rfl | rfl | rfl | rfl | rfl | rfl | rfl | rfl
            · exact ⟨_, _, E_so⟩
            · exact ⟨_, E_pa⟩
            · exact ⟨_, E_ta⟩
            · exact ⟨_, E_lf⟩
            · exact ⟨_, E_bl⟩
            · exact ⟨_, E_si⟩
            · exact ⟨_, E_sw⟩
            · exact ⟨_, E_tt⟩
            · exact ⟨_, E_tp⟩
          · exact fun j _ h => h.elim
          · exact fun j _ _ => ⟨rfl, rfl⟩
          · intro j _ h_
            subst h_
            refine ⟨fun _ => ⟨q38, va_up_self _ _ _, ?_⟩, fun q => absurd q (by omega)⟩
            rw [nup_s]
            exact ⟨ce, co, cr, .null, ⟨mq_q38, rN_o nq_q38, E_q38⟩, ⟨mq_ce, rN_o nq_ce, E_ce⟩, ⟨mq_co, rN_o nq_co, E_co⟩, ⟨mq_cr, rN_o nq_cr, E_cr⟩, hq.2.2.choose_spec.2.2.2.2.2.2.2, Or.inl ⟨rfl, (by obtain ⟨-, -, q, -⟩ := hq.2.2; rw [q]; decide)⟩⟩
          · exact fun j _ hh => ⟨va_up_ne _ _ hh, nup_n hh, fun q => by omega⟩
        · skip
          have hF_h : sf (Int32.toNatClampNeg (nI M)) = some h := by rw [clN (by omega)]; exact hF_h_
          obtain ⟨ce, co, cr, lay, kd, sz, mk, sd, kc, n, v, ⟨m_h, r_h, e_h⟩, ⟨m_ce, r_ce, e_ce⟩, ⟨m_co, r_co, e_co⟩, ⟨m_cr, r_cr, e_cr⟩, hSV, hk4, hLY⟩ := H_
          obtain ⟨z, hz, hq⟩ : OK (mX8_solveE (nI M) sd_ (nI (wN jw)) (wV jw) vpa vta vlf vbl z0 vsw vtt vtp kd sz mk sd kc n v) _ := ssolveE_x hM30 bn_w _ _ _ _ _ _ _ _ _ _ hgg _ _ _ _ _ _ _
          refine cI_up (k_X8_solveE l D g m_xb e_xb m_wo e_wo m_wb e_wb m_wr e_wr m_Sl e_Sl m_so e_so m_pa e_pa m_ta e_ta m_lf e_lf m_bl e_bl m_si e_si m_sw e_sw m_tt e_tt m_tp e_tp m_h e_h m_ce e_ce m_co e_co m_cr e_cr r_ta r_lf r_bl r_tt r_tp r_wb r_co hF_h hw_w hz) (by decide) (by decide) (by decide) (by decide) (by decide) (by decide) (fun x L1 f1 P => ?_)
          obtain ⟨ex, eL, fv, E_xb, E_so, E_pa, E_ta, E_lf, E_bl, E_si, E_sw, E_tt, E_tp, E_h, E_ce, E_co, E_cr⟩ := P
          subst eL
          rw [hq.2.1] at E_xb
          refine Or.inr ⟨jw, hjw, rfl, Or.inr (Or.inr ⟨hM30, ex.trans hq.1, (z.2.2.2.2.2.2.2.2.2.2.2.2.1, z.2.2.2.2.2.2.2.2.2.2.2.2.2.1, z.2.2.2.2.2.2.2.2.2.2.2.2.2.2.1, z.2.2.2.2.2.2.2.2.2.2.2.2.2.2.2.1, z.2.2.2.2.2.2.2.2.2.2.2.2.2.2.2.2.1, z.2.2.2.2.2.2.2.2.2.2.2.2.2.2.2.2.2.1, z.2.2.2.2.2.2.2.2.2.2.2.2.2.2.2.2.2.2, L00), hq.2.2, ?_⟩)⟩
          have FT : ∀ b, b ∈ _ → ¬ TT [0, 9, 10, 11, 12, 13, 14, 15, 16, 17] (fun _ => False) (fun j => j = M) (ρ b) → f1 b = f b := fun b hb ht => fv b hb (ne_T2 ht (tt_o r_xb (by decide))) (ne_T2 ht (tt_o r_so (by decide))) (ne_T2 ht (tt_o r_pa (by decide))) (ne_T2 ht (tt_o r_ta (by decide))) (ne_T2 ht (tt_o r_lf (by decide))) (ne_T2 ht (tt_o r_bl (by decide))) (ne_T2 ht (tt_o r_si (by decide))) (ne_T2 ht (tt_o r_sw (by decide))) (ne_T2 ht (tt_o r_tt (by decide))) (ne_T2 ht (tt_o r_tp (by decide))) (ne_T2 ht (tt_s r_h rfl)) (ne_T2 ht (tt_s r_ce rfl)) (ne_T2 ht (tt_s r_co rfl)) (ne_T2 ht (tt_s r_cr rfl))
          refine CX_up (M1 := (M + 1)) [0, 9, 10, 11, 12, 13, 14, 15, 16, 17] (fun _ => False) (fun j => j = M) rfl hO hW hS (fun _ h => ⟨h, rfl⟩) FT (fun j h => by subst h; omega) (by decide) hM30 E_xb ((FT _ m_Sl (tn_o r_Sl (by decide))).trans e_Sl) ?_ ?_ ?_ ?_ ?_
          · intro k h3 _ hK
            have hc : k = 9 ∨ k = 10 ∨ k = 11 ∨ k = 12 ∨ k = 13 ∨ k = 14 ∨ k = 15 ∨ k = 16 ∨ k = 17 := by
              have hh : ∀ q, q ∈ ([0, 9, 10, 11, 12, 13, 14, 15, 16, 17] : List Nat) → 3 ≤ q → q = 9 ∨ q = 10 ∨ q = 11 ∨ q = 12 ∨ q = 13 ∨ q = 14 ∨ q = 15 ∨ q = 16 ∨ q = 17 := by decide
              exact hh k hK h3
            rcases hc with rfl | rfl | rfl | rfl | rfl | rfl | rfl | rfl | rfl
            · exact ⟨_, _, E_so⟩
            · exact ⟨_, E_pa⟩
            · exact ⟨_, E_ta⟩
            · exact ⟨_, E_lf⟩
            · exact ⟨_, E_bl⟩
            · exact ⟨_, E_si⟩
            · exact ⟨_, E_sw⟩
            · exact ⟨_, E_tt⟩
            · exact ⟨_, E_tp⟩
          · exact fun j _ h => h.elim
          · exact fun j _ _ => ⟨rfl, rfl⟩
          · intro j _ h_
            subst h_
            refine ⟨fun _ => ⟨h, hF_h_, ?_⟩, fun q => absurd q (by omega)⟩
            rw [nup_s]
            exact ⟨ce, co, cr, lay, ⟨m_h, r_h, E_h⟩, ⟨m_ce, r_ce, E_ce⟩, ⟨m_co, r_co, E_co⟩, ⟨m_cr, r_cr, E_cr⟩, hq.2.2.choose_spec.2.2.2.2.2.2.2, (LyS_new (fun _ h => ⟨h, rfl⟩) (fun b hb hr n1 n2 n3 n4 => fv b hb (role_ne r_xb hr nr_s0) (role_ne r_so hr nr_s0) (role_ne r_pa hr nr_s0) (role_ne r_ta hr nr_s0) (role_ne r_lf hr nr_s0) (role_ne r_bl hr nr_s0) (role_ne r_si hr nr_s0) (role_ne r_sw hr nr_s0) (role_ne r_tt hr nr_s0) (role_ne r_tp hr nr_s0) n1 n2 n3 n4) hLY e_h e_ce e_co e_cr (by obtain ⟨-, -, q, -⟩ := hq.2.2; rw [q]; decide))⟩
          · exact fun j _ hh => ⟨rfl, nup_n hh, fun q => by omega⟩
      · skip
        have hM3 : M = 30 := by omega
        subst hM3
        obtain ⟨z, hz, hq⟩ : OK (mX8_solveX (nI 30) sd_ (nI (wN jw)) (wV jw) vpa vta vlf vbl z0 vsw vtt vtp) _ := ssolveX_x bn_w _ _ _ _ _ _ _ _ _ _ hgg
        refine cI_up (k_X8_solveX l D g m_xb e_xb m_wo e_wo m_wb e_wb m_wr e_wr m_Sl e_Sl m_so e_so m_pa e_pa m_ta e_ta m_lf e_lf m_bl e_bl m_si e_si m_sw e_sw m_tt e_tt m_tp e_tp r_ta r_lf r_bl r_tt r_tp hw_w hz) (by decide) (by decide) (by decide) (by decide) (by decide) (by decide) (fun x L1 f1 P => ?_)
        obtain ⟨ex, eL, fv, E_so, E_pa, E_ta, E_lf, E_bl, E_si, E_sw, E_tt, E_tp⟩ := P
        subst eL
        refine Or.inr ⟨jw, hjw, rfl, Or.inr (Or.inl ⟨hq.2, rfl, ex.trans hq.1, ?_⟩)⟩
        have FT : ∀ b, b ∈ _ → ¬ TT [9, 10, 11, 12, 13, 14, 15, 16, 17] (fun _ => False) (fun _ => False) (ρ b) → f1 b = f b := fun b hb ht => fv b hb (ne_T2 ht (tt_o r_so (by decide))) (ne_T2 ht (tt_o r_pa (by decide))) (ne_T2 ht (tt_o r_ta (by decide))) (ne_T2 ht (tt_o r_lf (by decide))) (ne_T2 ht (tt_o r_bl (by decide))) (ne_T2 ht (tt_o r_si (by decide))) (ne_T2 ht (tt_o r_sw (by decide))) (ne_T2 ht (tt_o r_tt (by decide))) (ne_T2 ht (tt_o r_tp (by decide)))
        refine CX_up (M1 := _) [9, 10, 11, 12, 13, 14, 15, 16, 17] (fun _ => False) (fun _ => False) rfl hO hW hS (fun _ h => ⟨h, rfl⟩) FT (fun j h => h.elim) (by decide) hM ((FT _ m_xb (tn_o r_xb (by decide))).trans e_xb) ((FT _ m_Sl (tn_o r_Sl (by decide))).trans e_Sl) ?_ ?_ ?_ ?_ ?_
        · intro k h3 _ hK
          have hc : k = 9 ∨ k = 10 ∨ k = 11 ∨ k = 12 ∨ k = 13 ∨ k = 14 ∨ k = 15 ∨ k = 16 ∨ k = 17 := by
            have hh : ∀ q, q ∈ ([9, 10, 11, 12, 13, 14, 15, 16, 17] : List Nat) → 3 ≤ q → q = 9 ∨ q = 10 ∨ q = 11 ∨ q = 12 ∨ q = 13 ∨ q = 14 ∨ q = 15 ∨ q = 16 ∨ q = 17 := by decide
            exact hh k hK h3
          rcases hc with rfl | rfl | rfl | rfl | rfl | rfl | rfl | rfl | rfl
          · exact ⟨_, _, E_so⟩
          · exact ⟨_, E_pa⟩
          · exact ⟨_, E_ta⟩
          · exact ⟨_, E_lf⟩
          · exact ⟨_, E_bl⟩
          · exact ⟨_, E_si⟩
          · exact ⟨_, E_sw⟩
          · exact ⟨_, E_tt⟩
          · exact ⟨_, E_tp⟩
        · exact fun j _ h => h.elim
        · exact fun j _ _ => ⟨rfl, rfl⟩
        · exact fun j _ h => h.elim
        · exact fun j _ _ => ⟨rfl, rfl, id⟩
    · skip
      have hgg2 : ∀ z, mX7_triesUntilSolved vpa vta vlf vbl z0 vsw vtt vtp (nI (wN jw)) (wV jw) sd_ = some z → ¬ 0 ≤ z.1 := fun z ez q => hgg (fun z2 ez2 => by rw [ez] at ez2; exact Option.some.inj ez2 ▸ q)
      obtain ⟨z, hz, hq⟩ : OK (mX8_solveR sd_ (nI (wN jw)) (wV jw) vpa vta vlf vbl z0 vsw vtt vtp) _ := ssolveR_x bn_w _ _ _ _ _ _ _ _ _ _ hgg2
      refine cI_up (k_X8_solveR l D g m_xb e_xb m_wo e_wo m_wb e_wb m_wr e_wr m_so e_so m_pa e_pa m_ta e_ta m_lf e_lf m_bl e_bl m_si e_si m_sw e_sw m_tt e_tt m_tp e_tp r_ta r_lf r_bl r_tt r_tp hw_w hz) (by decide) (by decide) (by decide) (by decide) (by decide) (by decide) (fun x L1 f1 P => ?_)
      obtain ⟨ex, eL, fv, E_so, E_pa, E_ta, E_lf, E_bl, E_si, E_sw, E_tt, E_tp⟩ := P
      subst eL
      refine Or.inr ⟨jw, hjw, rfl, Or.inl ⟨hq.2, ex.trans hq.1, ?_⟩⟩
      have FT : ∀ b, b ∈ _ → ¬ TT [9, 10, 11, 12, 13, 14, 15, 16, 17] (fun _ => False) (fun _ => False) (ρ b) → f1 b = f b := fun b hb ht => fv b hb (ne_T2 ht (tt_o r_so (by decide))) (ne_T2 ht (tt_o r_pa (by decide))) (ne_T2 ht (tt_o r_ta (by decide))) (ne_T2 ht (tt_o r_lf (by decide))) (ne_T2 ht (tt_o r_bl (by decide))) (ne_T2 ht (tt_o r_si (by decide))) (ne_T2 ht (tt_o r_sw (by decide))) (ne_T2 ht (tt_o r_tt (by decide))) (ne_T2 ht (tt_o r_tp (by decide)))
      refine CX_up (M1 := _) [9, 10, 11, 12, 13, 14, 15, 16, 17] (fun _ => False) (fun _ => False) rfl hO hW hS (fun _ h => ⟨h, rfl⟩) FT (fun j h => h.elim) (by decide) hM ((FT _ m_xb (tn_o r_xb (by decide))).trans e_xb) ((FT _ m_Sl (tn_o r_Sl (by decide))).trans e_Sl) ?_ ?_ ?_ ?_ ?_
      · intro k h3 _ hK
        have hc : k = 9 ∨ k = 10 ∨ k = 11 ∨ k = 12 ∨ k = 13 ∨ k = 14 ∨ k = 15 ∨ k = 16 ∨ k = 17 := by
          have hh : ∀ q, q ∈ ([9, 10, 11, 12, 13, 14, 15, 16, 17] : List Nat) → 3 ≤ q → q = 9 ∨ q = 10 ∨ q = 11 ∨ q = 12 ∨ q = 13 ∨ q = 14 ∨ q = 15 ∨ q = 16 ∨ q = 17 := by decide
          exact hh k hK h3
        rcases hc with rfl | rfl | rfl | rfl | rfl | rfl | rfl | rfl | rfl
        · exact ⟨_, _, E_so⟩
        · exact ⟨_, E_pa⟩
        · exact ⟨_, E_ta⟩
        · exact ⟨_, E_lf⟩
        · exact ⟨_, E_bl⟩
        · exact ⟨_, E_si⟩
        · exact ⟨_, E_sw⟩
        · exact ⟨_, E_tt⟩
        · exact ⟨_, E_tp⟩
      · exact fun j _ h => h.elim
      · exact fun j _ _ => ⟨rfl, rfl⟩
      · exact fun j _ h => h.elim
      · exact fun j _ _ => ⟨rfl, rfl, id⟩
