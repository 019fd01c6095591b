set_option maxHeartbeats 1000000 in
theorem sx_layered (l : Launch) (D : va_G) {ρ : Nat → Nat × Nat} {g : Nat → ClassId} {L : List Nat} {f : Nat → va_E} {xb : Nat} {wN : Nat → Nat} {wV : Nat → Nat → Int64} {M : Nat} {σ : Nat → SlT} (C : CfX ρ g L f xb wN wV M σ) (wi : Int32) (wa : Int32) (sd_ : Int32) : cI l yX8_layered wsX8_layered (RmC 49 7472) D g [.ref xb, .int wi, .int wa, .int sd_] L f 49 7472 (fun x L1 f1 => ((mX9_isWorld wi = some 0 ∨ mX9_isWorld wa = some 0) ∧ x = -1 ∧ ResX ρ g L f xb wN wV M σ L1 f1) ∨ ∃ j, j < 8 ∧ ∃ k, k < 8 ∧ wi = nI j ∧ wa = nI k ∧ ((M = 30 ∧ x = -4 ∧ ResX ρ g L f xb wN wV M σ L1 f1) ∨ (M < 30 ∧ x = nI M ∧ ∃ τ, LaNs (wN j) (wV j) (wN k) (wV k) sd_ τ ∧ ResX ρ g L f xb wN wV (M + 1) (nup σ M τ) L1 f1))) := by
  have CC := C
  obtain ⟨A, WA, WR, wf, sf, rfl, hM, hO, hW, hS⟩ := C
  have hO2 := hO
  obtain ⟨o, e_xb, e_wo, e_Sl, oS⟩ := hO2
  have m_xb := (o 0 (by decide)).1
  have r_xb := (o 0 (by decide)).2
  have m_wo := (o 1 (by decide)).1
  have r_wo := (o 1 (by decide)).2
  have m_Sl := (o 2 (by decide)).1
  have r_Sl := (o 2 (by decide)).2
  obtain ⟨dn, e_dr⟩ := oS 3 (by decide) (by decide)
  have m_dr := (o 3 (by decide)).1
  have r_dr := (o 3 (by decide)).2
  obtain ⟨dv, e_drr⟩ := oS 4 (by decide) (by decide)
  have m_drr := (o 4 (by decide)).1
  have r_drr := (o 4 (by decide)).2
  obtain ⟨rin, e_ri⟩ := oS 5 (by decide) (by decide)
  have m_ri := (o 5 (by decide)).1
  have r_ri := (o 5 (by decide)).2
  obtain ⟨riv, e_rir⟩ := oS 6 (by decide) (by decide)
  have m_rir := (o 6 (by decide)).1
  have r_rir := (o 6 (by decide)).2
  obtain ⟨thn, e_th⟩ := oS 7 (by decide) (by decide)
  have m_th := (o 7 (by decide)).1
  have r_th := (o 7 (by decide)).2
  obtain ⟨thv, e_thr⟩ := oS 8 (by decide) (by decide)
  have m_thr := (o 8 (by decide)).1
  have r_thr := (o 8 (by decide)).2
  rcases wAt (wf := wf) wi with ⟨hw_w, hq_w⟩ | ⟨jw, hjw, rfl, hw_w⟩
  · rcases wAt (wf := wf) wa with ⟨hw_u, hq_u⟩ | ⟨ju, hju, rfl, hw_u⟩
    · skip
      have hz : mX8_layeredNN = some _ := rfl
      refine cI_up (k_X8_layeredNN l D g m_xb e_xb m_wo e_wo hw_w hw_u hz) (by decide) (by decide) (by decide) (by decide) (by decide) (by decide) (fun x L1 f1 P => ?_)
      obtain ⟨ex, eL, ef⟩ := P
      subst eL ef ex
      exact Or.inl ⟨Or.inl hq_w, rfl, ResX_same CC⟩
    · skip
      have hw_u := hw_u _ (hW ju hju).1
      obtain ⟨m_ub, r_ub, e_ub, m_ur, r_ur, e_ur, bn_u, wr_u⟩ := (hW ju hju).2
      have BNu : BN (nI (wN ju)) := ⟨_, bn_u, rfl⟩
      have hz : mX8_layeredNW = some _ := rfl
      refine cI_up (k_X8_layeredNW l D g m_xb e_xb m_wo e_wo hw_w hw_u hz) (by decide) (by decide) (by decide) (by decide) (by decide) (by decide) (fun x L1 f1 P => ?_)
      obtain ⟨ex, eL, ef⟩ := P
      subst eL ef ex
      exact Or.inl ⟨Or.inl hq_w, rfl, ResX_same CC⟩
  · skip
    have hw_w := hw_w _ (hW jw hjw).1
    obtain ⟨m_wb, r_wb, e_wb, m_wr, r_wr, e_wr, bn_w, wr_w⟩ := (hW jw hjw).2
    have BNw : BN (nI (wN jw)) := ⟨_, bn_w, rfl⟩
    rcases wAt (wf := wf) wa with ⟨hw_u, hq_u⟩ | ⟨ju, hju, rfl, hw_u⟩
    · have hz : mX8_layeredWN = some _ := rfl
      refine cI_up (k_X8_layeredWN l D g m_xb e_xb m_wo e_wo hw_w hw_u hz) (by decide) (by decide) (by decide) (by decide) (by decide) (by decide) (fun x L1 f1 P => ?_)
      obtain ⟨ex, eL, ef⟩ := P
      subst eL ef ex
      exact Or.inl ⟨Or.inr hq_u, rfl, ResX_same CC⟩
    · skip
      have hw_u := hw_u _ (hW ju hju).1
      obtain ⟨m_ub, r_ub, e_ub, m_ur, r_ur, e_ur, bn_u, wr_u⟩ := (hW ju hju).2
      have BNu : BN (nI (wN ju)) := ⟨_, bn_u, rfl⟩
      rcases Nat.lt_or_ge M 30 with hM30 | hM30
      · skip
        rcases (hS M hM30).2 (Nat.le_refl _) with hF0_ | ⟨h, hF_h_, H_⟩
        · skip
          have hF0 : sf (Int32.toNatClampNeg (nI M)) = none := by rw [clN (by omega)]; exact hF0_
          obtain ⟨z, hz, hq⟩ : OK (mX8_layeredF (nI M) sd_ (nI (wN jw)) (wV jw) (nI (wN ju)) (wV ju) dv riv thn thv) _ := slayeredF_x hM30 bn_w bn_u _ _ _ _ _ _ _
          refine cI_up (k_X8_layeredF l D g m_xb e_xb m_wo e_wo m_wb e_wb m_wr e_wr m_ub e_ub m_ur e_ur m_Sl e_Sl m_dr e_dr m_drr e_drr m_ri e_ri m_rir e_rir m_th e_th m_thr e_thr r_dr r_drr r_ri r_rir r_th r_thr r_wb r_wr r_ub r_ur hF0 hw_w hw_u hz) (by decide) (by decide) (by decide) (by decide) (by decide) (by decide) (fun x L1 f1 P => ?_)
          obtain ⟨q38, ce, co, cr, q8, ca, re, rr, ro, lb, lw, rf, ex, mo, fv, E_xb, E_Sl, E_dr, E_drr, E_ri, E_rir, E_th, E_thr, ⟨nq_q38, mq_q38, E_q38⟩, ⟨nq_ce, mq_ce, E_ce⟩, ⟨nq_co, mq_co, E_co⟩, ⟨nq_cr, mq_cr, E_cr⟩, ⟨nq_q8, mq_q8, E_q8⟩, ⟨nq_ca, mq_ca, E_ca⟩, ⟨nq_re, mq_re, E_re⟩, ⟨nq_rr, mq_rr, E_rr⟩, ⟨nq_ro, mq_ro, E_ro⟩, ⟨n_co_re, n_cr_rr⟩, ⟨E_fam, hdis, hnf⟩⟩ := P
          rw [clN (k := M) (by omega)] at E_Sl
          have hLL : ∀ b, b ∈ L → b ∈ L1 ∧ rN ρ L M b = ρ b := fun b hb => ⟨mo b hb, rN_i hb⟩
          obtain ⟨hq1, hq2, hq3⟩ := hq
          have hq4 := hq3
          obtain ⟨-, -, -, -, -, -, -, hSV2, hLN2⟩ := hq4
          rw [hq2] at E_xb
          refine Or.inr ⟨jw, hjw, ju, hju, rfl, rfl, Or.inr ⟨hM30, ex.trans hq1, (z.2.2.1, z.2.2.2.1, z.2.2.2.2.1, z.2.2.2.2.2.1, z.2.2.2.2.2.2.1, z.2.2.2.2.2.2.2.1, z.2.2.2.2.2.2.2.2.1, z.2.2.2.2.2.2.2.2.2.1, z.2.2.2.2.2.2.2.2.2.2.1, z.2.2.2.2.2.2.2.2.2.2.2.1, z.2.2.2.2.2.2.2.2.2.2.2.2.1, z.2.2.2.2.2.2.2.2.2.2.2.2.2.1, z.2.2.2.2.2.2.2.2.2.2.2.2.2.2.1, z.2.2.2.2.2.2.2.2.2.2.2.2.2.2.2), hq3, ?_⟩⟩
          have FT : ∀ b, b ∈ _ → ¬ TT [0, 2, 3, 4, 5, 6, 7, 8] (fun _ => False) (fun j => j = M) (ρ b) → f1 b = f b := fun b hb ht => fv b hb (ne_T2 ht (tt_o r_xb (by decide))) (ne_T2 ht (tt_o r_Sl (by decide))) (ne_T2 ht (tt_o r_dr (by decide))) (ne_T2 ht (tt_o r_drr (by decide))) (ne_T2 ht (tt_o r_ri (by decide))) (ne_T2 ht (tt_o r_rir (by decide))) (ne_T2 ht (tt_o r_th (by decide))) (ne_T2 ht (tt_o r_thr (by decide)))
          refine CX_up (M1 := (M + 1)) [0, 2, 3, 4, 5, 6, 7, 8] (fun _ => False) (fun j => j = M) rfl hO hW hS hLL FT (fun j h => by subst h; omega) (by decide) hM30 E_xb E_Sl ?_ ?_ ?_ ?_ ?_
          · intro k h3 _ hK
            have hc : k = 3 ∨ k = 4 ∨ k = 5 ∨ k = 6 ∨ k = 7 ∨ k = 8 := by
              have hh : ∀ q, q ∈ ([0, 2, 3, 4, 5, 6, 7, 8] : List Nat) → 3 ≤ q → q = 3 ∨ q = 4 ∨ q = 5 ∨ q = 6 ∨ q = 7 ∨ q = 8 := by decide
              exact hh k hK h3
            rcases hc with rfl | rfl | rfl | rfl | rfl | rfl
            · exact E_dr
            · exact E_drr
            · exact E_ri
            · exact E_rir
            · exact E_th
            · exact E_thr
          · exact fun j _ h => h.elim
          · exact fun j _ _ => ⟨rfl, rfl⟩
          · intro j _ h_
            subst h_
            refine ⟨fun _ => ⟨q38, va_up_self _ _ _, ?_⟩, fun q => absurd q (by omega)⟩
            rw [nup_s]
            exact ⟨ce, co, cr, .ref q8, ⟨mq_q38, rN_o nq_q38, E_q38⟩, ⟨mq_ce, rN_o nq_ce, E_ce⟩, ⟨mq_co, rN_o nq_co, E_co⟩, ⟨mq_cr, rN_o nq_cr, E_cr⟩, hSV2, Or.inr ⟨_, ⟨q8, ro, ca, re, rr, rf, lb, lw, rfl, ⟨mq_q8, rN_o nq_q8, E_q8⟩, ⟨mq_ro, rN_o nq_ro, E_ro⟩, ⟨mq_ca, rN_o nq_ca, E_ca⟩, ⟨mq_re, rN_o nq_re, E_re⟩, ⟨mq_rr, rN_o nq_rr, E_rr⟩, n_co_re, n_cr_rr, E_fam, hdis, fun i hi => ⟨rN_o (hnf i hi).1, rN_o (hnf i hi).2⟩, hLN2⟩, fun _ => rfl⟩⟩
          · exact fun j _ hh => ⟨va_up_ne _ _ hh, nup_n hh, fun q => by omega⟩
        · skip
          have hF_h : sf (Int32.toNatClampNeg (nI M)) = some h := by rw [clN (by omega)]; exact hF_h_
          obtain ⟨ce, co, cr, lay, kd, sz, mk, sd, kc, n, v, ⟨m_h, r_h, e_h⟩, ⟨m_ce, r_ce, e_ce⟩, ⟨m_co, r_co, e_co⟩, ⟨m_cr, r_cr, e_cr⟩, hSV, hk4, hLY⟩ := H_
          rcases hLY with hnl | hLY
          · skip
            subst hnl
            obtain ⟨z, hz, hq⟩ : OK (mX8_layeredE (nI M) sd_ (nI (wN jw)) (wV jw) (nI (wN ju)) (wV ju) dv riv thn thv kc v) _ := slayeredE_x hM30 bn_w bn_u _ _ _ _ _ _ _ _ _
            refine cI_up (k_X8_layeredE l D g m_xb e_xb m_wo e_wo m_wb e_wb m_wr e_wr m_ub e_ub m_ur e_ur m_Sl e_Sl m_dr e_dr m_drr e_drr m_ri e_ri m_rir e_rir m_th e_th m_thr e_thr m_h e_h m_ce e_ce m_co e_co m_cr e_cr r_dr r_drr r_ri r_rir r_th r_thr r_wb r_wr r_ub r_ur r_co r_cr hF_h hw_w hw_u hz) (by decide) (by decide) (by decide) (by decide) (by decide) (by decide) (fun x L1 f1 P => ?_)
            obtain ⟨q8, ca, re, rr, ro, lb, lw, rf, ex, mo, fv, E_xb, E_dr, E_drr, E_ri, E_rir, E_th, E_thr, E_h, E_ce, E_co, E_cr, ⟨nq_q8, mq_q8, E_q8⟩, ⟨nq_ca, mq_ca, E_ca⟩, ⟨nq_re, mq_re, E_re⟩, ⟨nq_rr, mq_rr, E_rr⟩, ⟨nq_ro, mq_ro, E_ro⟩, ⟨E_fam, hdis, hnf⟩⟩ := P
            have hLL : ∀ b, b ∈ L → b ∈ L1 ∧ rN ρ L M b = ρ b := fun b hb => ⟨mo b hb, rN_i hb⟩
            have n_co_re : co ≠ re := fun q => nq_re (q ▸ m_co)
            have n_cr_rr : cr ≠ rr := fun q => nq_rr (q ▸ m_cr)
            obtain ⟨hq1, hq2, hq3⟩ := hq
            have hq4 := hq3
            obtain ⟨-, -, -, -, -, -, -, hSV2, hLN2⟩ := hq4
            rw [hq2] at E_xb
            refine Or.inr ⟨jw, hjw, ju, hju, rfl, rfl, Or.inr ⟨hM30, ex.trans hq1, (z.2.2.1, z.2.2.2.1, z.2.2.2.2.1, z.2.2.2.2.2.1, z.2.2.2.2.2.2.1, z.2.2.2.2.2.2.2.1, z.2.2.2.2.2.2.2.2.1, z.2.2.2.2.2.2.2.2.2.1, z.2.2.2.2.2.2.2.2.2.2.1, z.2.2.2.2.2.2.2.2.2.2.2.1, z.2.2.2.2.2.2.2.2.2.2.2.2.1, z.2.2.2.2.2.2.2.2.2.2.2.2.2.1, z.2.2.2.2.2.2.2.2.2.2.2.2.2.2.1, z.2.2.2.2.2.2.2.2.2.2.2.2.2.2.2), hq3, ?_⟩⟩
            have FT : ∀ b, b ∈ _ → ¬ TT [0, 3, 4, 5, 6, 7, 8] (fun _ => False) (fun j => j = M) (ρ b) → f1 b = f b := fun b hb ht => fv b hb (ne_T2 ht (tt_o r_xb (by decide))) (ne_T2 ht (tt_o r_dr (by decide))) (ne_T2 ht (tt_o r_drr (by decide))) (ne_T2 ht (tt_o r_ri (by decide))) (ne_T2 ht (tt_o r_rir (by decide))) (ne_T2 ht (tt_o r_th (by decide))) (ne_T2 ht (tt_o r_thr (by decide))) (ne_T2 ht (tt_s r_h rfl)) (ne_T2 ht (tt_s r_ce rfl)) (ne_T2 ht (tt_s r_co rfl)) (ne_T2 ht (tt_s r_cr rfl))
            refine CX_up (M1 := (M + 1)) [0, 3, 4, 5, 6, 7, 8] (fun _ => False) (fun j => j = M) rfl hO hW hS hLL FT (fun j h => by subst h; omega) (by decide) hM30 E_xb ((FT _ m_Sl (tn_o r_Sl (by decide))).trans e_Sl) ?_ ?_ ?_ ?_ ?_
            · intro k h3 _ hK
              have hc : k = 3 ∨ k = 4 ∨ k = 5 ∨ k = 6 ∨ k = 7 ∨ k = 8 := by
                have hh : ∀ q, q ∈ ([0, 3, 4, 5, 6, 7, 8] : List Nat) → 3 ≤ q → q = 3 ∨ q = 4 ∨ q = 5 ∨ q = 6 ∨ q = 7 ∨ q = 8 := by decide
                exact hh k hK h3
              rcases hc with rfl | rfl | rfl | rfl | rfl | rfl
              · exact E_dr
              · exact E_drr
              · exact E_ri
              · exact E_rir
              · exact E_th
              · exact E_thr
            · exact fun j _ h => h.elim
            · exact fun j _ _ => ⟨rfl, rfl⟩
            · intro j _ h_
              subst h_
              refine ⟨fun _ => ⟨h, hF_h_, ?_⟩, fun q => absurd q (by omega)⟩
              rw [nup_s]
              exact ⟨ce, co, cr, .ref q8, ⟨mo _ m_h, (rN_i m_h).trans r_h, E_h⟩, ⟨mo _ m_ce, (rN_i m_ce).trans r_ce, E_ce⟩, ⟨mo _ m_co, (rN_i m_co).trans r_co, E_co⟩, ⟨mo _ m_cr, (rN_i m_cr).trans r_cr, E_cr⟩, hSV2, Or.inr ⟨_, ⟨q8, ro, ca, re, rr, rf, lb, lw, rfl, ⟨mq_q8, rN_o nq_q8, E_q8⟩, ⟨mq_ro, rN_o nq_ro, E_ro⟩, ⟨mq_ca, rN_o nq_ca, E_ca⟩, ⟨mq_re, rN_o nq_re, E_re⟩, ⟨mq_rr, rN_o nq_rr, E_rr⟩, n_co_re, n_cr_rr, E_fam, hdis, fun i hi => ⟨rN_o (hnf i hi).1, rN_o (hnf i hi).2⟩, hLN2⟩, fun _ => rfl⟩⟩
            · exact fun j _ hh => ⟨rfl, nup_n hh, fun q => by omega⟩
          · skip
            obtain ⟨la, ro, ca, re, rr, lc, lsd, rf, kca, rn, rv, lb, lw, lz, ld, rfl, ⟨m_la, r_la, e_la⟩, ⟨m_ro, r_ro, e_ro⟩, ⟨m_ca, r_ca, e_ca⟩, ⟨m_re, r_re, e_re⟩, ⟨m_rr, r_rr, e_rr⟩, n_co_re, n_cr_rr, e_fam, hdis, hrl, hLN⟩ := hLY
            obtain ⟨z, hz, hq⟩ : OK (mX8_layeredL (nI M) sd_ (nI (wN jw)) (wV jw) (nI (wN ju)) (wV ju) dv riv thn thv kc v kca rv lz ld) _ := slayeredL_x hM30 bn_w bn_u hLN.2.2 _ _ _ _ _ _ _ _ _ _ _ _
            refine cI_up (k_X8_layeredL l D g m_xb e_xb m_wo e_wo m_wb e_wb m_wr e_wr m_ub e_ub m_ur e_ur m_Sl e_Sl m_dr e_dr m_drr e_drr m_ri e_ri m_rir e_rir m_th e_th m_thr e_thr m_h e_h m_ce e_ce m_co e_co m_cr e_cr m_la e_la m_ro e_ro m_ca e_ca m_re e_re m_rr e_rr e_fam n_co_re n_cr_rr r_dr r_drr r_ri r_rir r_th r_thr r_wb r_wr r_ub r_ur r_co r_cr r_re r_rr hF_h hdis hw_w hw_u hz) (by decide) (by decide) (by decide) (by decide) (by decide) (by decide) (fun x L1 f1 P => ?_)
            obtain ⟨ex, eL, fv, E_xb, E_dr, E_drr, E_ri, E_rir, E_th, E_thr, E_h, E_ce, E_co, E_cr, E_la, E_ca, E_re, E_rr, E_fam⟩ := P
            subst eL
            obtain ⟨hq1, hq2, hq3⟩ := hq
            have hq4 := hq3
            obtain ⟨-, -, -, -, -, -, -, hSV2, hLN2⟩ := hq4
            rw [hq2] at E_xb
            refine Or.inr ⟨jw, hjw, ju, hju, rfl, rfl, Or.inr ⟨hM30, ex.trans hq1, (z.2.2.1, z.2.2.2.1, z.2.2.2.2.1, z.2.2.2.2.2.1, z.2.2.2.2.2.2.1, z.2.2.2.2.2.2.2.1, z.2.2.2.2.2.2.2.2.1, z.2.2.2.2.2.2.2.2.2.1, z.2.2.2.2.2.2.2.2.2.2.1, z.2.2.2.2.2.2.2.2.2.2.2.1, z.2.2.2.2.2.2.2.2.2.2.2.2.1, z.2.2.2.2.2.2.2.2.2.2.2.2.2.1, z.2.2.2.2.2.2.2.2.2.2.2.2.2.2.1, z.2.2.2.2.2.2.2.2.2.2.2.2.2.2.2), hq3, ?_⟩⟩
            have FT : ∀ b, b ∈ _ → ¬ TT [0, 3, 4, 5, 6, 7, 8] (fun _ => False) (fun j => j = M) (ρ b) → f1 b = f b := fun b hb ht => fv b hb (ne_T2 ht (tt_o r_xb (by decide))) (ne_T2 ht (tt_o r_dr (by decide))) (ne_T2 ht (tt_o r_drr (by decide))) (ne_T2 ht (tt_o r_ri (by decide))) (ne_T2 ht (tt_o r_rir (by decide))) (ne_T2 ht (tt_o r_th (by decide))) (ne_T2 ht (tt_o r_thr (by decide))) (ne_T2 ht (tt_s r_h rfl)) (ne_T2 ht (tt_s r_ce rfl)) (ne_T2 ht (tt_s r_co rfl)) (ne_T2 ht (tt_s r_cr rfl)) (ne_T2 ht (tt_s r_la rfl)) (ne_T2 ht (tt_s r_ca rfl)) (ne_T2 ht (tt_s r_re rfl)) (ne_T2 ht (tt_s r_rr rfl)) (fun i hi => ⟨ne_T2 ht (tt_s (hrl i hi).1 rfl), ne_T2 ht (tt_s (hrl i hi).2 rfl)⟩)
            refine CX_up (M1 := (M + 1)) [0, 3, 4, 5, 6, 7, 8] (fun _ => False) (fun j => j = M) rfl hO hW hS (fun _ h => ⟨h, rfl⟩) FT (fun j h => by subst h; omega) (by decide) hM30 E_xb ((FT _ m_Sl (tn_o r_Sl (by decide))).trans e_Sl) ?_ ?_ ?_ ?_ ?_
            · intro k h3 _ hK
              have hc : k = 3 ∨ k = 4 ∨ k = 5 ∨ k = 6 ∨ k = 7 ∨ k = 8 := by
                have hh : ∀ q, q ∈ ([0, 3, 4, 5, 6, 7, 8] : List Nat) → 3 ≤ q → q = 3 ∨ q = 4 ∨ q = 5 ∨ q = 6 ∨ q = 7 ∨ q = 8 := by decide
                exact hh k hK h3
              rcases hc with rfl | rfl | rfl | rfl | rfl | rfl
              · exact E_dr
              · exact E_drr
              · exact E_ri
              · exact E_rir
              · exact E_th
              · exact E_thr
            · exact fun j _ h => h.elim
            · exact fun j _ _ => ⟨rfl, rfl⟩
            · intro j _ h_
              subst h_
              refine ⟨fun _ => ⟨h, hF_h_, ?_⟩, fun q => absurd q (by omega)⟩
              rw [nup_s]
              exact ⟨ce, co, cr, .ref la, ⟨m_h, r_h, E_h⟩, ⟨m_ce, r_ce, E_ce⟩, ⟨m_co, r_co, E_co⟩, ⟨m_cr, r_cr, E_cr⟩, hSV2, Or.inr ⟨_, ⟨la, ro, ca, re, rr, rf, lb, lw, rfl, ⟨m_la, r_la, E_la⟩, ⟨m_ro, r_ro, (fv ro m_ro (role_ne r_xb r_ro nr_s0) (role_ne r_dr r_ro nr_s0) (role_ne r_drr r_ro nr_s0) (role_ne r_ri r_ro nr_s0) (role_ne r_rir r_ro nr_s0) (role_ne r_th r_ro nr_s0) (role_ne r_thr r_ro nr_s0) (ne_ri e_h e_ro) (ne_len e_ce e_ro (by decide)) (ne_ri e_co e_ro) (ne_len e_cr e_ro (by decide)) (ne_ri e_la e_ro) (ne_01 e_ca e_ro) (ne_ri e_re e_ro) (ne_len e_rr e_ro (by decide)) (fam_na e_fam e_ro (by decide))).trans e_ro⟩, ⟨m_ca, r_ca, E_ca⟩, ⟨m_re, r_re, E_re⟩, ⟨m_rr, r_rr, E_rr⟩, n_co_re, n_cr_rr, E_fam, hdis, hrl, hLN2⟩, fun _ => rfl⟩⟩
            · exact fun j _ hh => ⟨rfl, nup_n hh, fun q => by omega⟩
      · skip
        have hM3 : M = 30 := by omega
        subst hM3
        obtain ⟨z, hz, hq⟩ : OK (mX8_layeredX (nI 30)) _ := slayeredX_x
        refine cI_up (k_X8_layeredX l D g m_xb e_xb m_wo e_wo m_Sl e_Sl hw_w hw_u hz) (by decide) (by decide) (by decide) (by decide) (by decide) (by decide) (fun x L1 f1 P => ?_)
        obtain ⟨ex, eL, ef⟩ := P
        subst eL ef
        exact Or.inr ⟨jw, hjw, ju, hju, rfl, rfl, Or.inl ⟨rfl, ex.trans hq, ResX_same CC⟩⟩
