set_option maxHeartbeats 1000000 in
theorem sc_cell (l : Launch) (D : va_G) {ρ : Nat → Nat × Nat} {g : Nat → ClassId} {L : List Nat} {f : Nat → va_E} {xb : Nat} {wN : Nat → Nat} {wV : Nat → Nat → Int64} (C : Cf ρ g L f xb wN wV) (sq : Int32) (i : Int32) : cI l yX8_cell wsX8_cell (RmC 49 7472) D g [.ref xb, .int sq, .int i] L f 49 7472 (fun x L1 f1 => Res ρ g L f xb wN wV L1 f1) := by
  have CC := C
  obtain ⟨A, WA, WR, M, wf, sf, rfl, hM, hO, hW, hS⟩ := C
  have hO2 := hO
  obtain ⟨o, e_xb, e_wo, e_Sl, oS⟩ := hO2
  have m_xb := (o 0 (by decide)).1
  have r_xb := (o 0 (by decide)).2
  have m_wo := (o 1 (by decide)).1
  have r_wo := (o 1 (by decide)).2
  have m_Sl := (o 2 (by decide)).1
  have r_Sl := (o 2 (by decide)).2
  rcases sAt (sf := sf) hM sq with hs_ | ⟨js, hjs, rfl, hs_⟩
  · have hz : mX8_cellN = some _ := rfl
    refine cI_up (k_X8_cellN l D g m_xb e_xb m_Sl e_Sl hs_ hz) (by decide) (by decide) (by decide) (by decide) (by decide) (by decide) (fun x L1 f1 P => ?_)
    obtain ⟨-, eL, ef⟩ := P
    subst eL ef
    exact Res_same CC
  · skip
    rcases hS js (by omega) with ⟨-, q2⟩ | ⟨h, hsf_, H_⟩
    · exact absurd q2 (by omega)
    · skip
      have hs_ := hs_ _ hsf_
      obtain ⟨ce, co, cr, lay, kd, sz, mk, sd, kc, n, v, ⟨m_h, r_h, e_h⟩, ⟨m_ce, r_ce, e_ce⟩, ⟨m_co, r_co, e_co⟩, ⟨m_cr, r_cr, e_cr⟩, hSV, hk4, hLY⟩ := H_
      obtain ⟨z, hz, hq⟩ : OK (mX8_cell i kd sz kc) _ := scell_ok _ _ _ _
      refine cI_up (k_X8_cell l D g m_xb e_xb m_Sl e_Sl m_h e_h m_ce e_ce hs_ hz) (by decide) (by decide) (by decide) (by decide) (by decide) (by decide) (fun x L1 f1 P => ?_)
      obtain ⟨-, eL, ef⟩ := P
      subst eL ef
      exact Res_same CC
set_option maxHeartbeats 1000000 in
theorem sc_mark (l : Launch) (D : va_G) {ρ : Nat → Nat × Nat} {g : Nat → ClassId} {L : List Nat} {f : Nat → va_E} {xb : Nat} {wN : Nat → Nat} {wV : Nat → Nat → Int64} (C : Cf ρ g L f xb wN wV) (sq : Int32) (t : Int64) (j : Int32) : cI l yX8_mark wsX8_mark (RmC 49 7472) D g [.ref xb, .int sq, .long t, .int j] L f 49 7472 (fun x L1 f1 => Res ρ g L f xb wN wV L1 f1) := by
  have CC := C
  obtain ⟨A, WA, WR, M, wf, sf, rfl, hM, hO, hW, hS⟩ := C
  have hO2 := hO
  obtain ⟨o, e_xb, e_wo, e_Sl, oS⟩ := hO2
  have m_xb := (o 0 (by decide)).1
  have r_xb := (o 0 (by decide)).2
  have m_wo := (o 1 (by decide)).1
  have r_wo := (o 1 (by decide)).2
  have m_Sl := (o 2 (by decide)).1
  have r_Sl := (o 2 (by decide)).2
  rcases sAt (sf := sf) hM sq with hs_ | ⟨js, hjs, rfl, hs_⟩
  · have hz : mX8_markN = some _ := rfl
    refine cI_up (k_X8_markN l D g m_xb e_xb m_Sl e_Sl hs_ hz) (by decide) (by decide) (by decide) (by decide) (by decide) (by decide) (fun x L1 f1 P => ?_)
    obtain ⟨-, eL, ef⟩ := P
    subst eL ef
    exact Res_same CC
  · skip
    rcases hS js (by omega) with ⟨-, q2⟩ | ⟨h, hsf_, H_⟩
    · exact absurd q2 (by omega)
    · skip
      have hs_ := hs_ _ hsf_
      obtain ⟨ce, co, cr, lay, kd, sz, mk, sd, kc, n, v, ⟨m_h, r_h, e_h⟩, ⟨m_ce, r_ce, e_ce⟩, ⟨m_co, r_co, e_co⟩, ⟨m_cr, r_cr, e_cr⟩, hSV, hk4, hLY⟩ := H_
      obtain ⟨z, hz, hq⟩ : OK (mX8_mark t j kd sz mk sd) _ := smark_ok _ _ _ _ _ _
      refine cI_up (k_X8_mark l D g m_xb e_xb m_Sl e_Sl m_h e_h hs_ hz) (by decide) (by decide) (by decide) (by decide) (by decide) (by decide) (fun x L1 f1 P => ?_)
      obtain ⟨-, eL, ef⟩ := P
      subst eL ef
      exact Res_same CC
set_option maxHeartbeats 1000000 in
theorem sc_lets (l : Launch) (D : va_G) {ρ : Nat → Nat × Nat} {g : Nat → ClassId} {L : List Nat} {f : Nat → va_E} {xb : Nat} {wN : Nat → Nat} {wV : Nat → Nat → Int64} (C : Cf ρ g L f xb wN wV) (sq : Int32) (t : Int64) : cI l yX8_lets wsX8_lets (RmC 49 7472) D g [.ref xb, .int sq, .long t] L f 49 7472 (fun x L1 f1 => Res ρ g L f xb wN wV L1 f1) := by
  have CC := C
  obtain ⟨A, WA, WR, M, wf, sf, rfl, hM, hO, hW, hS⟩ := C
  have hO2 := hO
  obtain ⟨o, e_xb, e_wo, e_Sl, oS⟩ := hO2
  have m_xb := (o 0 (by decide)).1
  have r_xb := (o 0 (by decide)).2
  have m_wo := (o 1 (by decide)).1
  have r_wo := (o 1 (by decide)).2
  have m_Sl := (o 2 (by decide)).1
  have r_Sl := (o 2 (by decide)).2
  rcases sAt (sf := sf) hM sq with hs_ | ⟨js, hjs, rfl, hs_⟩
  · have hz : mX8_letsN = some _ := rfl
    refine cI_up (k_X8_letsN l D g m_xb e_xb m_Sl e_Sl hs_ hz) (by decide) (by decide) (by decide) (by decide) (by decide) (by decide) (fun x L1 f1 P => ?_)
    obtain ⟨-, eL, ef⟩ := P
    subst eL ef
    exact Res_same CC
  · skip
    rcases hS js (by omega) with ⟨-, q2⟩ | ⟨h, hsf_, H_⟩
    · exact absurd q2 (by omega)
    · skip
      have hs_ := hs_ _ hsf_
      obtain ⟨ce, co, cr, lay, kd, sz, mk, sd, kc, n, v, ⟨m_h, r_h, e_h⟩, ⟨m_ce, r_ce, e_ce⟩, ⟨m_co, r_co, e_co⟩, ⟨m_cr, r_cr, e_cr⟩, hSV, hk4, hLY⟩ := H_
      by_cases hk : kd = 4
      · skip
        rcases hLY with hq | hLY
        · exact absurd hq (hk4 hk)
        · skip
          obtain ⟨la, ro, ca, re, rr, lc, lsd, rf, kca, rn, rv, lb, lw, lz, ld, rfl, ⟨m_la, r_la, e_la⟩, ⟨m_ro, r_ro, e_ro⟩, ⟨m_ca, r_ca, e_ca⟩, ⟨m_re, r_re, e_re⟩, ⟨m_rr, r_rr, e_rr⟩, n_co_re, n_cr_rr, e_fam, hdis, hrl, hLN⟩ := hLY
          obtain ⟨z, hz, hq⟩ : OK (mX8_letsL t kd sz mk sd kc lc lsd rn rv lz ld) _ := sletsL_ok hSV hLN _ _ _ _ _ _
          refine cI_up (k_X8_letsL l D g m_xb e_xb m_Sl e_Sl m_h e_h m_ce e_ce m_la e_la m_ro e_ro m_re e_re m_rr e_rr e_fam hs_ hz) (by decide) (by decide) (by decide) (by decide) (by decide) (by decide) (fun x L1 f1 P => ?_)
          obtain ⟨-, eL, ef⟩ := P
          subst eL ef
          exact Res_same CC
      · skip
        obtain ⟨z, hz, hq⟩ : OK (mX8_letsG t kd sz mk sd kc) _ := sletsG_ok hSV hk _ _ _
        refine cI_up (k_X8_letsG l D g m_xb e_xb m_Sl e_Sl m_h e_h m_ce e_ce hs_ hz) (by decide) (by decide) (by decide) (by decide) (by decide) (by decide) (fun x L1 f1 P => ?_)
        obtain ⟨-, eL, ef⟩ := P
        subst eL ef
        exact Res_same CC
set_option maxHeartbeats 1000000 in
theorem sc_missed (l : Launch) (D : va_G) {ρ : Nat → Nat × Nat} {g : Nat → ClassId} {L : List Nat} {f : Nat → va_E} {xb : Nat} {wN : Nat → Nat} {wV : Nat → Nat → Int64} (C : Cf ρ g L f xb wN wV) (sq : Int32) : cI l yX8_missed wsX8_missed (RmC 49 7472) D g [.ref xb, .int sq] L f 49 7472 (fun x L1 f1 => Res ρ g L f xb wN wV L1 f1) := by
  have CC := C
  obtain ⟨A, WA, WR, M, wf, sf, rfl, hM, hO, hW, hS⟩ := C
  have hO2 := hO
  obtain ⟨o, e_xb, e_wo, e_Sl, oS⟩ := hO2
  have m_xb := (o 0 (by decide)).1
  have r_xb := (o 0 (by decide)).2
  have m_wo := (o 1 (by decide)).1
  have r_wo := (o 1 (by decide)).2
  have m_Sl := (o 2 (by decide)).1
  have r_Sl := (o 2 (by decide)).2
  rcases sAt (sf := sf) hM sq with hs_ | ⟨js, hjs, rfl, hs_⟩
  · have hz : mX8_missedN = some _ := rfl
    refine cI_up (k_X8_missedN l D g m_xb e_xb m_Sl e_Sl hs_ hz) (by decide) (by decide) (by decide) (by decide) (by decide) (by decide) (fun x L1 f1 P => ?_)
    obtain ⟨-, eL, ef⟩ := P
    subst eL ef
    exact Res_same CC
  · skip
    rcases hS js (by omega) with ⟨-, q2⟩ | ⟨h, hsf_, H_⟩
    · exact absurd q2 (by omega)
    · skip
      have hs_ := hs_ _ hsf_
      obtain ⟨ce, co, cr, lay, kd, sz, mk, sd, kc, n, v, ⟨m_h, r_h, e_h⟩, ⟨m_ce, r_ce, e_ce⟩, ⟨m_co, r_co, e_co⟩, ⟨m_cr, r_cr, e_cr⟩, hSV, hk4, hLY⟩ := H_
      by_cases hk : kd = 4
      · skip
        rcases hLY with hq | hLY
        · exact absurd hq (hk4 hk)
        · skip
          obtain ⟨la, ro, ca, re, rr, lc, lsd, rf, kca, rn, rv, lb, lw, lz, ld, rfl, ⟨m_la, r_la, e_la⟩, ⟨m_ro, r_ro, e_ro⟩, ⟨m_ca, r_ca, e_ca⟩, ⟨m_re, r_re, e_re⟩, ⟨m_rr, r_rr, e_rr⟩, n_co_re, n_cr_rr, e_fam, hdis, hrl, hLN⟩ := hLY
          obtain ⟨z, hz, hq⟩ : OK (mX8_missedL kd sz mk sd kc n v lc lsd rn rv lz ld) _ := smissedL_ok hSV hLN _ _ _ _ _ _
          refine cI_up (k_X8_missedL l D g m_xb e_xb m_Sl e_Sl m_h e_h m_ce e_ce m_co e_co m_cr e_cr m_la e_la m_ro e_ro m_re e_re m_rr e_rr e_fam hs_ hz) (by decide) (by decide) (by decide) (by decide) (by decide) (by decide) (fun x L1 f1 P => ?_)
          obtain ⟨-, eL, ef⟩ := P
          subst eL ef
          exact Res_same CC
      · skip
        obtain ⟨z, hz, hq⟩ : OK (mX8_missedG kd sz mk sd kc n v) _ := smissedG_ok hSV hk _ _ _
        refine cI_up (k_X8_missedG l D g m_xb e_xb m_Sl e_Sl m_h e_h m_ce e_ce m_co e_co m_cr e_cr hs_ hz) (by decide) (by decide) (by decide) (by decide) (by decide) (by decide) (fun x L1 f1 P => ?_)
        obtain ⟨-, eL, ef⟩ := P
        subst eL ef
        exact Res_same CC
set_option maxHeartbeats 1000000 in
theorem sc_about (l : Launch) (D : va_G) {ρ : Nat → Nat × Nat} {g : Nat → ClassId} {L : List Nat} {f : Nat → va_E} {xb : Nat} {wN : Nat → Nat} {wV : Nat → Nat → Int64} (C : Cf ρ g L f xb wN wV) (sq : Int32) (wh : Int32) : cI l yX8_about wsX8_about (RmC 49 7472) D g [.ref xb, .int sq, .int wh] L f 49 7472 (fun x L1 f1 => Res ρ g L f xb wN wV L1 f1) := by
  have CC := C
  obtain ⟨A, WA, WR, M, wf, sf, rfl, hM, hO, hW, hS⟩ := C
  have hO2 := hO
  obtain ⟨o, e_xb, e_wo, e_Sl, oS⟩ := hO2
  have m_xb := (o 0 (by decide)).1
  have r_xb := (o 0 (by decide)).2
  have m_wo := (o 1 (by decide)).1
  have r_wo := (o 1 (by decide)).2
  have m_Sl := (o 2 (by decide)).1
  have r_Sl := (o 2 (by decide)).2
  rcases sAt (sf := sf) hM sq with hs_ | ⟨js, hjs, rfl, hs_⟩
  · have hz : mX8_aboutN = some _ := rfl
    refine cI_up (k_X8_aboutN l D g m_xb e_xb m_Sl e_Sl hs_ hz) (by decide) (by decide) (by decide) (by decide) (by decide) (by decide) (fun x L1 f1 P => ?_)
    obtain ⟨-, eL, ef⟩ := P
    subst eL ef
    exact Res_same CC
  · skip
    rcases hS js (by omega) with ⟨-, q2⟩ | ⟨h, hsf_, H_⟩
    · exact absurd q2 (by omega)
    · skip
      have hs_ := hs_ _ hsf_
      obtain ⟨ce, co, cr, lay, kd, sz, mk, sd, kc, n, v, ⟨m_h, r_h, e_h⟩, ⟨m_ce, r_ce, e_ce⟩, ⟨m_co, r_co, e_co⟩, ⟨m_cr, r_cr, e_cr⟩, hSV, hk4, hLY⟩ := H_
      by_cases hk : kd = 4
      · skip
        rcases hLY with hq | hLY
        · exact absurd hq (hk4 hk)
        · skip
          obtain ⟨la, ro, ca, re, rr, lc, lsd, rf, kca, rn, rv, lb, lw, lz, ld, rfl, ⟨m_la, r_la, e_la⟩, ⟨m_ro, r_ro, e_ro⟩, ⟨m_ca, r_ca, e_ca⟩, ⟨m_re, r_re, e_re⟩, ⟨m_rr, r_rr, e_rr⟩, n_co_re, n_cr_rr, e_fam, hdis, hrl, hLN⟩ := hLY
          obtain ⟨z, hz, hq⟩ : OK (mX8_aboutL wh kd sz mk sd kc n lc rn lz) _ := saboutL_ok hSV hLN _ _ _
          refine cI_up (k_X8_aboutL l D g m_xb e_xb m_Sl e_Sl m_h e_h m_ce e_ce m_co e_co m_la e_la m_ro e_ro m_re e_re e_fam hs_ hz) (by decide) (by decide) (by decide) (by decide) (by decide) (by decide) (fun x L1 f1 P => ?_)
          obtain ⟨-, eL, ef⟩ := P
          subst eL ef
          exact Res_same CC
      · skip
        obtain ⟨z, hz, hq⟩ : OK (mX8_aboutG wh kd sz mk sd kc n) _ := saboutG_ok hSV hk _ _ _
        refine cI_up (k_X8_aboutG l D g m_xb e_xb m_Sl e_Sl m_h e_h m_ce e_ce m_co e_co hs_ hz) (by decide) (by decide) (by decide) (by decide) (by decide) (by decide) (fun x L1 f1 P => ?_)
        obtain ⟨-, eL, ef⟩ := P
        subst eL ef
        exact Res_same CC
set_option maxHeartbeats 1000000 in
theorem sc_layer (l : Launch) (D : va_G) {ρ : Nat → Nat × Nat} {g : Nat → ClassId} {L : List Nat} {f : Nat → va_E} {xb : Nat} {wN : Nat → Nat} {wV : Nat → Nat → Int64} (C : Cf ρ g L f xb wN wV) (sq : Int32) (i : Int32) (wh : Int32) : cI l yX8_layer wsX8_layer (RmC 49 7472) D g [.ref xb, .int sq, .int i, .int wh] L f 49 7472 (fun x L1 f1 => Res ρ g L f xb wN wV L1 f1) := by
  have CC := C
  obtain ⟨A, WA, WR, M, wf, sf, rfl, hM, hO, hW, hS⟩ := C
  have hO2 := hO
  obtain ⟨o, e_xb, e_wo, e_Sl, oS⟩ := hO2
  have m_xb := (o 0 (by decide)).1
  have r_xb := (o 0 (by decide)).2
  have m_wo := (o 1 (by decide)).1
  have r_wo := (o 1 (by decide)).2
  have m_Sl := (o 2 (by decide)).1
  have r_Sl := (o 2 (by decide)).2
  rcases sAt (sf := sf) hM sq with hs_ | ⟨js, hjs, rfl, hs_⟩
  · have hz : mX8_layerN = some _ := rfl
    refine cI_up (k_X8_layerN l D g m_xb e_xb m_Sl e_Sl hs_ hz) (by decide) (by decide) (by decide) (by decide) (by decide) (by decide) (fun x L1 f1 P => ?_)
    obtain ⟨-, eL, ef⟩ := P
    subst eL ef
    exact Res_same CC
  · skip
    rcases hS js (by omega) with ⟨-, q2⟩ | ⟨h, hsf_, H_⟩
    · exact absurd q2 (by omega)
    · skip
      have hs_ := hs_ _ hsf_
      obtain ⟨ce, co, cr, lay, kd, sz, mk, sd, kc, n, v, ⟨m_h, r_h, e_h⟩, ⟨m_ce, r_ce, e_ce⟩, ⟨m_co, r_co, e_co⟩, ⟨m_cr, r_cr, e_cr⟩, hSV, hk4, hLY⟩ := H_
      by_cases hk : kd = 4
      · skip
        rcases hLY with hq | hLY
        · exact absurd hq (hk4 hk)
        · skip
          obtain ⟨la, ro, ca, re, rr, lc, lsd, rf, kca, rn, rv, lb, lw, lz, ld, rfl, ⟨m_la, r_la, e_la⟩, ⟨m_ro, r_ro, e_ro⟩, ⟨m_ca, r_ca, e_ca⟩, ⟨m_re, r_re, e_re⟩, ⟨m_rr, r_rr, e_rr⟩, n_co_re, n_cr_rr, e_fam, hdis, hrl, hLN⟩ := hLY
          obtain ⟨z, hz, hq⟩ : OK (mX8_layerL i wh kd lc kca lz ld) _ := slayerL_ok hLN _ _ _ _ _
          refine cI_up (k_X8_layerL l D g m_xb e_xb m_Sl e_Sl m_h e_h m_la e_la m_ro e_ro m_ca e_ca e_fam hs_ hz) (by decide) (by decide) (by decide) (by decide) (by decide) (by decide) (fun x L1 f1 P => ?_)
          obtain ⟨-, eL, ef⟩ := P
          subst eL ef
          exact Res_same CC
      · skip
        obtain ⟨z, hz, hq⟩ : OK (mX8_layerG wh kd) _ := slayerG_ok hk _
        refine cI_up (k_X8_layerG l D g m_xb e_xb m_Sl e_Sl m_h e_h hs_ hz) (by decide) (by decide) (by decide) (by decide) (by decide) (by decide) (fun x L1 f1 P => ?_)
        obtain ⟨-, eL, ef⟩ := P
        subst eL ef
        exact Res_same CC
set_option maxHeartbeats 1000000 in
theorem sc_falses (l : Launch) (D : va_G) {ρ : Nat → Nat × Nat} {g : Nat → ClassId} {L : List Nat} {f : Nat → va_E} {xb : Nat} {wN : Nat → Nat} {wV : Nat → Nat → Int64} (C : Cf ρ g L f xb wN wV) (sq : Int32) (wi : Int32) : cI l yX8_falses wsX8_falses (RmC 49 7472) D g [.ref xb, .int sq, .int wi] L f 49 7472 (fun x L1 f1 => Res ρ g L f xb wN wV L1 f1) := by
  have CC := C
  obtain ⟨A, WA, WR, M, wf, sf, rfl, hM, hO, hW, hS⟩ := C
  have hO2 := hO
  obtain ⟨o, e_xb, e_wo, e_Sl, oS⟩ := hO2
  have m_xb := (o 0 (by decide)).1
  have r_xb := (o 0 (by decide)).2
  have m_wo := (o 1 (by decide)).1
  have r_wo := (o 1 (by decide)).2
  have m_Sl := (o 2 (by decide)).1
  have r_Sl := (o 2 (by decide)).2
  rcases sAt (sf := sf) hM sq with hs_ | ⟨js, hjs, rfl, hs_⟩
  · rcases wAt (wf := wf) wi with ⟨hw_w, hq_w⟩ | ⟨jw, hjw, rfl, hw_w⟩
    · skip
      have hz : mX8_falsesNN = some _ := rfl
      refine cI_up (k_X8_falsesNN l D g m_xb e_xb m_wo e_wo m_Sl e_Sl hw_w hs_ hz) (by decide) (by decide) (by decide) (by decide) (by decide) (by decide) (fun x L1 f1 P => ?_)
      obtain ⟨-, eL, ef⟩ := P
      subst eL ef
      exact Res_same CC
    · skip
      have hw_w := hw_w _ (hW jw hjw).1
      obtain ⟨m_wb, r_wb, e_wb, m_wr, r_wr, e_wr, bn_w, wr_w⟩ := (hW jw hjw).2
      have BNw : BN (nI (wN jw)) := ⟨_, bn_w, rfl⟩
      have hz : mX8_falsesNW = some _ := rfl
      refine cI_up (k_X8_falsesNW l D g m_xb e_xb m_wo e_wo m_Sl e_Sl hw_w hs_ hz) (by decide) (by decide) (by decide) (by decide) (by decide) (by decide) (fun x L1 f1 P => ?_)
      obtain ⟨-, eL, ef⟩ := P
      subst eL ef
      exact Res_same CC
  · skip
    rcases hS js (by omega) with ⟨-, q2⟩ | ⟨h, hsf_, H_⟩
    · exact absurd q2 (by omega)
    · skip
      have hs_ := hs_ _ hsf_
      obtain ⟨ce, co, cr, lay, kd, sz, mk, sd, kc, n, v, ⟨m_h, r_h, e_h⟩, ⟨m_ce, r_ce, e_ce⟩, ⟨m_co, r_co, e_co⟩, ⟨m_cr, r_cr, e_cr⟩, hSV, hk4, hLY⟩ := H_
      rcases wAt (wf := wf) wi with ⟨hw_w, hq_w⟩ | ⟨jw, hjw, rfl, hw_w⟩
      · have hz : mX8_falsesSN = some _ := rfl
        refine cI_up (k_X8_falsesSN l D g m_xb e_xb m_wo e_wo m_Sl e_Sl hw_w hs_ hz) (by decide) (by decide) (by decide) (by decide) (by decide) (by decide) (fun x L1 f1 P => ?_)
        obtain ⟨-, eL, ef⟩ := P
        subst eL ef
        exact Res_same CC
      · skip
        have hw_w := hw_w _ (hW jw hjw).1
        obtain ⟨m_wb, r_wb, e_wb, m_wr, r_wr, e_wr, bn_w, wr_w⟩ := (hW jw hjw).2
        have BNw : BN (nI (wN jw)) := ⟨_, bn_w, rfl⟩
        by_cases hk : kd = 4
        · skip
          rcases hLY with hq | hLY
          · exact absurd hq (hk4 hk)
          · skip
            obtain ⟨la, ro, ca, re, rr, lc, lsd, rf, kca, rn, rv, lb, lw, lz, ld, rfl, ⟨m_la, r_la, e_la⟩, ⟨m_ro, r_ro, e_ro⟩, ⟨m_ca, r_ca, e_ca⟩, ⟨m_re, r_re, e_re⟩, ⟨m_rr, r_rr, e_rr⟩, n_co_re, n_cr_rr, e_fam, hdis, hrl, hLN⟩ := hLY
            obtain ⟨z, hz, hq⟩ : OK (mX8_falsesL (nI (wN jw)) (wV jw) kd sz mk sd kc n v lc lsd rn rv lz ld) _ := sfalsesL_ok hSV BNw hLN _ _ _ _ _ _ _
            refine cI_up (k_X8_falsesL l D g m_xb e_xb m_wo e_wo m_Sl e_Sl m_wb e_wb m_wr e_wr m_h e_h m_ce e_ce m_co e_co m_cr e_cr m_la e_la m_ro e_ro m_re e_re m_rr e_rr e_fam hw_w hs_ hz) (by decide) (by decide) (by decide) (by decide) (by decide) (by decide) (fun x L1 f1 P => ?_)
            obtain ⟨-, eL, ef⟩ := P
            subst eL ef
            exact Res_same CC
        · skip
          obtain ⟨z, hz, hq⟩ : OK (mX8_falsesG (nI (wN jw)) (wV jw) kd sz mk sd kc n v) _ := sfalsesG_ok hSV BNw hk _ _ _ _
          refine cI_up (k_X8_falsesG l D g m_xb e_xb m_wo e_wo m_Sl e_Sl m_wb e_wb m_wr e_wr m_h e_h m_ce e_ce m_co e_co m_cr e_cr hw_w hs_ hz) (by decide) (by decide) (by decide) (by decide) (by decide) (by decide) (fun x L1 f1 P => ?_)
          obtain ⟨-, eL, ef⟩ := P
          subst eL ef
          exact Res_same CC
set_option maxHeartbeats 1000000 in
theorem sc_falseOne (l : Launch) (D : va_G) {ρ : Nat → Nat × Nat} {g : Nat → ClassId} {L : List Nat} {f : Nat → va_E} {xb : Nat} {wN : Nat → Nat} {wV : Nat → Nat → Int64} (C : Cf ρ g L f xb wN wV) (sq : Int32) (wi : Int32) (i : Int32) : cL l yX8_falseOne wsX8_falseOne (RmC 49 7472) D g [.ref xb, .int sq, .int wi, .int i] L f 49 7472 (fun x L1 f1 => Res ρ g L f xb wN wV L1 f1) := by
  have CC := C
  obtain ⟨A, WA, WR, M, wf, sf, rfl, hM, hO, hW, hS⟩ := C
  have hO2 := hO
  obtain ⟨o, e_xb, e_wo, e_Sl, oS⟩ := hO2
  have m_xb := (o 0 (by decide)).1
  have r_xb := (o 0 (by decide)).2
  have m_wo := (o 1 (by decide)).1
  have r_wo := (o 1 (by decide)).2
  have m_Sl := (o 2 (by decide)).1
  have r_Sl := (o 2 (by decide)).2
  rcases sAt (sf := sf) hM sq with hs_ | ⟨js, hjs, rfl, hs_⟩
  · rcases wAt (wf := wf) wi with ⟨hw_w, hq_w⟩ | ⟨jw, hjw, rfl, hw_w⟩
    · skip
      have hz : mX8_falseOneNN = some _ := rfl
      refine cL_up (k_X8_falseOneNN l D g m_xb e_xb m_wo e_wo m_Sl e_Sl hw_w hs_ hz) (by decide) (by decide) (by decide) (by decide) (by decide) (by decide) (fun x L1 f1 P => ?_)
      obtain ⟨-, eL, ef⟩ := P
      subst eL ef
      exact Res_same CC
    · skip
      have hw_w := hw_w _ (hW jw hjw).1
      obtain ⟨m_wb, r_wb, e_wb, m_wr, r_wr, e_wr, bn_w, wr_w⟩ := (hW jw hjw).2
      have BNw : BN (nI (wN jw)) := ⟨_, bn_w, rfl⟩
      have hz : mX8_falseOneNW = some _ := rfl
      refine cL_up (k_X8_falseOneNW l D g m_xb e_xb m_wo e_wo m_Sl e_Sl hw_w hs_ hz) (by decide) (by decide) (by decide) (by decide) (by decide) (by decide) (fun x L1 f1 P => ?_)
      obtain ⟨-, eL, ef⟩ := P
      subst eL ef
      exact Res_same CC
  · skip
    rcases hS js (by omega) with ⟨-, q2⟩ | ⟨h, hsf_, H_⟩
    · exact absurd q2 (by omega)
    · skip
      have hs_ := hs_ _ hsf_
      obtain ⟨ce, co, cr, lay, kd, sz, mk, sd, kc, n, v, ⟨m_h, r_h, e_h⟩, ⟨m_ce, r_ce, e_ce⟩, ⟨m_co, r_co, e_co⟩, ⟨m_cr, r_cr, e_cr⟩, hSV, hk4, hLY⟩ := H_
      rcases wAt (wf := wf) wi with ⟨hw_w, hq_w⟩ | ⟨jw, hjw, rfl, hw_w⟩
      · have hz : mX8_falseOneSN = some _ := rfl
        refine cL_up (k_X8_falseOneSN l D g m_xb e_xb m_wo e_wo m_Sl e_Sl hw_w hs_ hz) (by decide) (by decide) (by decide) (by decide) (by decide) (by decide) (fun x L1 f1 P => ?_)
        obtain ⟨-, eL, ef⟩ := P
        subst eL ef
        exact Res_same CC
      · skip
        have hw_w := hw_w _ (hW jw hjw).1
        obtain ⟨m_wb, r_wb, e_wb, m_wr, r_wr, e_wr, bn_w, wr_w⟩ := (hW jw hjw).2
        have BNw : BN (nI (wN jw)) := ⟨_, bn_w, rfl⟩
        by_cases hk : kd = 4
        · skip
          rcases hLY with hq | hLY
          · exact absurd hq (hk4 hk)
          · skip
            obtain ⟨la, ro, ca, re, rr, lc, lsd, rf, kca, rn, rv, lb, lw, lz, ld, rfl, ⟨m_la, r_la, e_la⟩, ⟨m_ro, r_ro, e_ro⟩, ⟨m_ca, r_ca, e_ca⟩, ⟨m_re, r_re, e_re⟩, ⟨m_rr, r_rr, e_rr⟩, n_co_re, n_cr_rr, e_fam, hdis, hrl, hLN⟩ := hLY
            obtain ⟨z, hz, hq⟩ : OK (mX8_falseOneL i (nI (wN jw)) (wV jw) kd sz mk sd kc n v lc lsd rn rv lz ld) _ := sfalseOneL_ok hSV BNw hLN _ _ _ _ _ _ _ _
            refine cL_up (k_X8_falseOneL l D g m_xb e_xb m_wo e_wo m_Sl e_Sl m_wb e_wb m_wr e_wr m_h e_h m_ce e_ce m_co e_co m_cr e_cr m_la e_la m_ro e_ro m_re e_re m_rr e_rr e_fam hw_w hs_ hz) (by decide) (by decide) (by decide) (by decide) (by decide) (by decide) (fun x L1 f1 P => ?_)
            obtain ⟨-, eL, ef⟩ := P
            subst eL ef
            exact Res_same CC
        · skip
          obtain ⟨z, hz, hq⟩ : OK (mX8_falseOneG i (nI (wN jw)) (wV jw) kd sz mk sd kc n v) _ := sfalseOneG_ok hSV BNw hk _ _ _ _ _
          refine cL_up (k_X8_falseOneG l D g m_xb e_xb m_wo e_wo m_Sl e_Sl m_wb e_wb m_wr e_wr m_h e_h m_ce e_ce m_co e_co m_cr e_cr hw_w hs_ hz) (by decide) (by decide) (by decide) (by decide) (by decide) (by decide) (fun x L1 f1 P => ?_)
          obtain ⟨-, eL, ef⟩ := P
          subst eL ef
          exact Res_same CC
set_option maxHeartbeats 1000000 in
theorem sc_things (l : Launch) (D : va_G) {ρ : Nat → Nat × Nat} {g : Nat → ClassId} {L : List Nat} {f : Nat → va_E} {xb : Nat} {wN : Nat → Nat} {wV : Nat → Nat → Int64} (C : Cf ρ g L f xb wN wV) (wi : Int32) : cI l yX8_things wsX8_things (RmC 49 7472) D g [.ref xb, .int wi] L f 49 7472 (fun x L1 f1 => AnW (-1) wi (fun j x => x = nI (wN j)) x ∧ Res ρ g L f xb wN wV L1 f1) := by
  have CC := C
  obtain ⟨A, WA, WR, M, wf, sf, rfl, hM, hO, hW, hS⟩ := C
  have hO2 := hO
  obtain ⟨o, e_xb, e_wo, e_Sl, oS⟩ := hO2
  have m_xb := (o 0 (by decide)).1
  have r_xb := (o 0 (by decide)).2
  have m_wo := (o 1 (by decide)).1
  have r_wo := (o 1 (by decide)).2
  have m_Sl := (o 2 (by decide)).1
  have r_Sl := (o 2 (by decide)).2
  rcases wAt (wf := wf) wi with ⟨hw_w, hq_w⟩ | ⟨jw, hjw, rfl, hw_w⟩
  · have hz : mX8_thingsN = some _ := rfl
    refine cI_up (k_X8_thingsN l D g m_xb e_xb m_wo e_wo hw_w hz) (by decide) (by decide) (by decide) (by decide) (by decide) (by decide) (fun x L1 f1 P => ?_)
    obtain ⟨ex, eL, ef⟩ := P
    subst eL ef ex
    exact ⟨Or.inl ⟨hq_w, rfl⟩, Res_same CC⟩
  · skip
    have hw_w := hw_w _ (hW jw hjw).1
    obtain ⟨m_wb, r_wb, e_wb, m_wr, r_wr, e_wr, bn_w, wr_w⟩ := (hW jw hjw).2
    have BNw : BN (nI (wN jw)) := ⟨_, bn_w, rfl⟩
    have hz : mX8_things (nI (wN jw)) = some _ := rfl
    refine cI_up (k_X8_things l D g m_xb e_xb m_wo e_wo m_wb e_wb hw_w hz) (by decide) (by decide) (by decide) (by decide) (by decide) (by decide) (fun x L1 f1 P => ?_)
    obtain ⟨ex, eL, ef⟩ := P
    subst eL ef ex
    exact ⟨Or.inr ⟨jw, hjw, rfl, rfl⟩, Res_same CC⟩
set_option maxHeartbeats 1000000 in
theorem sc_thing (l : Launch) (D : va_G) {ρ : Nat → Nat × Nat} {g : Nat → ClassId} {L : List Nat} {f : Nat → va_E} {xb : Nat} {wN : Nat → Nat} {wV : Nat → Nat → Int64} (C : Cf ρ g L f xb wN wV) (wi : Int32) (i : Int32) : cL l yX8_thing wsX8_thing (RmC 49 7472) D g [.ref xb, .int wi, .int i] L f 49 7472 (fun x L1 f1 => AnW 0 wi (fun j x => ThA (wN j) (wV j) i x) x ∧ Res ρ g L f xb wN wV L1 f1) := by
  have CC := C
  obtain ⟨A, WA, WR, M, wf, sf, rfl, hM, hO, hW, hS⟩ := C
  have hO2 := hO
  obtain ⟨o, e_xb, e_wo, e_Sl, oS⟩ := hO2
  have m_xb := (o 0 (by decide)).1
  have r_xb := (o 0 (by decide)).2
  have m_wo := (o 1 (by decide)).1
  have r_wo := (o 1 (by decide)).2
  have m_Sl := (o 2 (by decide)).1
  have r_Sl := (o 2 (by decide)).2
  rcases wAt (wf := wf) wi with ⟨hw_w, hq_w⟩ | ⟨jw, hjw, rfl, hw_w⟩
  · have hz : mX8_thingN = some _ := rfl
    refine cL_up (k_X8_thingN l D g m_xb e_xb m_wo e_wo hw_w hz) (by decide) (by decide) (by decide) (by decide) (by decide) (by decide) (fun x L1 f1 P => ?_)
    obtain ⟨ex, eL, ef⟩ := P
    subst eL ef ex
    exact ⟨Or.inl ⟨hq_w, rfl⟩, Res_same CC⟩
  · skip
    have hw_w := hw_w _ (hW jw hjw).1
    obtain ⟨m_wb, r_wb, e_wb, m_wr, r_wr, e_wr, bn_w, wr_w⟩ := (hW jw hjw).2
    have BNw : BN (nI (wN jw)) := ⟨_, bn_w, rfl⟩
    obtain ⟨z, hz, hq⟩ : ∃ z, mX8_thing i (nI (wN jw)) (wV jw) = some z ∧ ThA (wN jw) (wV jw) i z := ⟨_, by unfold mX8_thing; rw [bag_at bn_w]; rfl, rfl⟩
    refine cL_up (k_X8_thing l D g m_xb e_xb m_wo e_wo m_wb e_wb m_wr e_wr hw_w hz) (by decide) (by decide) (by decide) (by decide) (by decide) (by decide) (fun x L1 f1 P => ?_)
    obtain ⟨ex, eL, ef⟩ := P
    subst eL ef ex
    exact ⟨Or.inr ⟨jw, hjw, rfl, hq⟩, Res_same CC⟩
set_option maxHeartbeats 1000000 in
theorem sc_sieves (l : Launch) (D : va_G) {ρ : Nat → Nat × Nat} {g : Nat → ClassId} {L : List Nat} {f : Nat → va_E} {xb : Nat} {wN : Nat → Nat} {wV : Nat → Nat → Int64} (C : Cf ρ g L f xb wN wV)  : cI l yX8_sieves wsX8_sieves (RmC 49 7472) D g [.ref xb] L f 49 7472 (fun x L1 f1 => Res ρ g L f xb wN wV L1 f1) := by
  have CC := C
  obtain ⟨A, WA, WR, M, wf, sf, rfl, hM, hO, hW, hS⟩ := C
  have hO2 := hO
  obtain ⟨o, e_xb, e_wo, e_Sl, oS⟩ := hO2
  have m_xb := (o 0 (by decide)).1
  have r_xb := (o 0 (by decide)).2
  have m_wo := (o 1 (by decide)).1
  have r_wo := (o 1 (by decide)).2
  have m_Sl := (o 2 (by decide)).1
  have r_Sl := (o 2 (by decide)).2
  have hz : mX8_sieves (nI M) = some _ := rfl
  refine cI_up (k_X8_sieves l D g m_xb e_xb hz) (by decide) (by decide) (by decide) (by decide) (by decide) (by decide) (fun x L1 f1 P => ?_)
  obtain ⟨-, eL, ef⟩ := P
  subst eL ef
  exact Res_same CC
def SpC (wi : Int32) (fi : Int64) (st_ nn : Int32) (wN : Nat → Nat) (wV : Nat → Nat → Int64) (wN1 : Nat → Nat) (wV1 : Nat → Nat → Int64) : Prop := (mX9_isWorld wi = some 0 ∧ wN1 = wN ∧ wV1 = wV) ∨ ∃ j, j < 8 ∧ wi = nI j ∧ (∀ i, i ≠ j → wN1 i = wN i ∧ wV1 i = wV i) ∧ SpR (wN j) (wV j) fi st_ nn (wN1 j) (wV1 j)
def TkC (wi : Int32) (t : Int64) (wN : Nat → Nat) (wV : Nat → Nat → Int64) (wN1 : Nat → Nat) (wV1 : Nat → Nat → Int64) : Prop := (mX9_isWorld wi = some 0 ∧ wN1 = wN ∧ wV1 = wV) ∨ ∃ j, j < 8 ∧ wi = nI j ∧ (∀ i, i ≠ j → wN1 i = wN i ∧ wV1 i = wV i) ∧ TkR (wN j) (wV j) t (wN1 j) (wV1 j)
def nup {α : Type} (h : Nat → α) (j : Nat) (x : α) : Nat → α := fun i => if i = j then x else h i
theorem nup_s {α : Type} {h : Nat → α} {j : Nat} {x : α} : nup h j x j = x := if_pos rfl
theorem nup_n {α : Type} {h : Nat → α} {j i : Nat} {x : α} (q : i ≠ j) : nup h j x i = h i := if_neg q
set_option maxHeartbeats 1000000 in
theorem sc_span (l : Launch) (D : va_G) {ρ : Nat → Nat × Nat} {g : Nat → ClassId} {L : List Nat} {f : Nat → va_E} {xb : Nat} {wN : Nat → Nat} {wV : Nat → Nat → Int64} (C : Cf ρ g L f xb wN wV) (wi : Int32) (fi : Int64) (st_ : Int32) (nn : Int32) : cI l yX8_span wsX8_span (RmC 49 7472) D g [.ref xb, .int wi, .long fi, .int st_, .int nn] L f 49 7472 (fun x L1 f1 => AnW (-1) wi (fun j x => SpA (wN j) (wV j) fi st_ nn x) x ∧ ∃ wN1 wV1, SpC wi fi st_ nn wN wV wN1 wV1 ∧ Res ρ g L f xb wN1 wV1 L1 f1) := by
  have CC := C
  obtain ⟨A, WA, WR, M, wf, sf, rfl, hM, hO, hW, hS⟩ := C
  have hO2 := hO
  obtain ⟨o, e_xb, e_wo, e_Sl, oS⟩ := hO2
  have m_xb := (o 0 (by decide)).1
  have r_xb := (o 0 (by decide)).2
  have m_wo := (o 1 (by decide)).1
  have r_wo := (o 1 (by decide)).2
  have m_Sl := (o 2 (by decide)).1
  have r_Sl := (o 2 (by decide)).2
  obtain ⟨dn, e_dr⟩ := oS 3 (by decide) (by decide)
  have m_dr := (o 3 (by decide)).1
  have r_dr := (o 3 (by decide)).2
  obtain ⟨dv, e_drr⟩ := oS 4 (by decide) (by decide)
  have m_drr := (o 4 (by decide)).1
  have r_drr := (o 4 (by decide)).2
  rcases wAt (wf := wf) wi with ⟨hw_w, hq_w⟩ | ⟨jw, hjw, rfl, hw_w⟩
  · have hz : mX8_spanN = some _ := rfl
    refine cI_up (k_X8_spanN l D g m_xb e_xb m_wo e_wo hw_w hz) (by decide) (by decide) (by decide) (by decide) (by decide) (by decide) (fun x L1 f1 P => ?_)
    obtain ⟨ex, eL, ef⟩ := P
    subst eL ef ex
    exact ⟨Or.inl ⟨hq_w, rfl⟩, wN, wV, Or.inl ⟨hq_w, rfl, rfl⟩, Res_same CC⟩
  · skip
    have hw_w := hw_w _ (hW jw hjw).1
    obtain ⟨m_wb, r_wb, e_wb, m_wr, r_wr, e_wr, bn_w, wr_w⟩ := (hW jw hjw).2
    have BNw : BN (nI (wN jw)) := ⟨_, bn_w, rfl⟩
    obtain ⟨z, hz, mq, hm, hq, hqa⟩ : OK (mX8_span fi st_ nn (nI (wN jw)) (wV jw) dn dv) _ := sspan_ok2 bn_w wr_w _ _ _ _ _
    refine cI_up (k_X8_span l D g m_xb e_xb m_wo e_wo m_wb e_wb m_wr e_wr m_dr e_dr m_drr e_drr r_dr r_drr r_wb r_wr hw_w hz) (by decide) (by decide) (by decide) (by decide) (by decide) (by decide) (fun x L1 f1 P => ?_)
    obtain ⟨ex, eL, fv, E_wb, E_wr, E_dr, E_drr⟩ := P
    subst eL
    subst ex
    have FT : ∀ b, b ∈ _ → ¬ TT [3, 4] (fun j => j = jw) (fun _ => False) (ρ b) → f1 b = f b := fun b hb ht => fv b hb (ne_T2 ht (tt_w r_wb rfl)) (ne_T2 ht (tt_w r_wr rfl)) (ne_T2 ht (tt_o r_dr (by decide))) (ne_T2 ht (tt_o r_drr (by decide)))
    refine ⟨Or.inr ⟨jw, hjw, rfl, hqa⟩, nup wN jw mq, nup wV jw z.2.2.1, Or.inr ⟨jw, hjw, rfl, fun i hi => ⟨nup_n hi, nup_n hi⟩, ?_⟩, ?_⟩
    · rw [nup_s, nup_s]
      exact hq
    refine Cf_up (M1 := M) [3, 4] (fun j => j = jw) (fun _ => False) rfl hO hW hS (fun _ h => ⟨h, rfl⟩) FT (fun j h => h.elim) (by decide) hM ((FT _ m_xb (tn_o r_xb (by decide))).trans e_xb) ((FT _ m_Sl (tn_o r_Sl (by decide))).trans e_Sl) ?_ ?_ ?_ ?_ ?_
    · intro k h3 _ hK
      have hc : k = 3 ∨ k = 4 := by
        have hh : ∀ q, q ∈ ([3, 4] : List Nat) → 3 ≤ q → q = 3 ∨ q = 4 := by decide
        exact hh k hK h3
      rcases hc with rfl | rfl
      · exact ⟨_, E_dr⟩
      · exact ⟨_, E_drr⟩
    · intro j _ h
      subst h
      rw [nup_s, nup_s]
      exact ⟨m_wb, r_wb, by rw [E_wb, hm], m_wr, r_wr, E_wr, SpR_w bn_w wr_w hq⟩
    · exact fun j _ h => ⟨nup_n h, nup_n h⟩
    · exact fun j _ h => h.elim
    · exact fun j _ _ => ⟨rfl, id⟩
set_option maxHeartbeats 1000000 in
theorem sc_take (l : Launch) (D : va_G) {ρ : Nat → Nat × Nat} {g : Nat → ClassId} {L : List Nat} {f : Nat → va_E} {xb : Nat} {wN : Nat → Nat} {wV : Nat → Nat → Int64} (C : Cf ρ g L f xb wN wV) (wi : Int32) (t : Int64) : cI l yX8_take wsX8_take (RmC 49 7472) D g [.ref xb, .int wi, .long t] L f 49 7472 (fun x L1 f1 => AnW (-1) wi (fun j x => TkA (wN j) (wV j) t x) x ∧ ∃ wN1 wV1, TkC wi t wN wV wN1 wV1 ∧ Res ρ g L f xb wN1 wV1 L1 f1) := by
  have CC := C
  obtain ⟨A, WA, WR, M, wf, sf, rfl, hM, hO, hW, hS⟩ := C
  have hO2 := hO
  obtain ⟨o, e_xb, e_wo, e_Sl, oS⟩ := hO2
  have m_xb := (o 0 (by decide)).1
  have r_xb := (o 0 (by decide)).2
  have m_wo := (o 1 (by decide)).1
  have r_wo := (o 1 (by decide)).2
  have m_Sl := (o 2 (by decide)).1
  have r_Sl := (o 2 (by decide)).2
  rcases wAt (wf := wf) wi with ⟨hw_w, hq_w⟩ | ⟨jw, hjw, rfl, hw_w⟩
  · have hz : mX8_takeN = some _ := rfl
    refine cI_up (k_X8_takeN l D g m_xb e_xb m_wo e_wo hw_w hz) (by decide) (by decide) (by decide) (by decide) (by decide) (by decide) (fun x L1 f1 P => ?_)
    obtain ⟨ex, eL, ef⟩ := P
    subst eL ef ex
    exact ⟨Or.inl ⟨hq_w, rfl⟩, wN, wV, Or.inl ⟨hq_w, rfl, rfl⟩, Res_same CC⟩
  · skip
    have hw_w := hw_w _ (hW jw hjw).1
    obtain ⟨m_wb, r_wb, e_wb, m_wr, r_wr, e_wr, bn_w, wr_w⟩ := (hW jw hjw).2
    have BNw : BN (nI (wN jw)) := ⟨_, bn_w, rfl⟩
    obtain ⟨z, hz, mq, hm, hq, hqa⟩ : OK (mX8_take t (nI (wN jw)) (wV jw)) _ := stake_ok bn_w wr_w _
    refine cI_up (k_X8_take l D g m_xb e_xb m_wo e_wo m_wb e_wb m_wr e_wr hw_w hz) (by decide) (by decide) (by decide) (by decide) (by decide) (by decide) (fun x L1 f1 P => ?_)
    obtain ⟨ex, eL, fv, E_wb, E_wr⟩ := P
    subst eL
    subst ex
    have FT : ∀ b, b ∈ _ → ¬ TT [] (fun j => j = jw) (fun _ => False) (ρ b) → f1 b = f b := fun b hb ht => fv b hb (ne_T2 ht (tt_w r_wb rfl)) (ne_T2 ht (tt_w r_wr rfl))
    refine ⟨Or.inr ⟨jw, hjw, rfl, hqa⟩, nup wN jw mq, nup wV jw z.2.2, Or.inr ⟨jw, hjw, rfl, fun i hi => ⟨nup_n hi, nup_n hi⟩, ?_⟩, ?_⟩
    · rw [nup_s, nup_s]
      exact hq
    refine Cf_up (M1 := M) [] (fun j => j = jw) (fun _ => False) rfl hO hW hS (fun _ h => ⟨h, rfl⟩) FT (fun j h => h.elim) (by decide) hM ((FT _ m_xb (tn_o r_xb (by decide))).trans e_xb) ((FT _ m_Sl (tn_o r_Sl (by decide))).trans e_Sl) ?_ ?_ ?_ ?_ ?_
    · intro k h3 _ hK
      have hc : False := by
        have hh : ∀ q, q ∈ ([] : List Nat) → 3 ≤ q → False := by decide
        exact hh k hK h3
      exact hc.elim
    · intro j _ h
      subst h
      rw [nup_s, nup_s]
      exact ⟨m_wb, r_wb, by rw [E_wb, hm], m_wr, r_wr, E_wr, TkR_w bn_w wr_w hq⟩
    · exact fun j _ h => ⟨nup_n h, nup_n h⟩
    · exact fun j _ h => h.elim
    · exact fun j _ _ => ⟨rfl, id⟩
set_option maxHeartbeats 1000000 in
theorem sc_remove (l : Launch) (D : va_G) {ρ : Nat → Nat × Nat} {g : Nat → ClassId} {L : List Nat} {f : Nat → va_E} {xb : Nat} {wN : Nat → Nat} {wV : Nat → Nat → Int64} (C : Cf ρ g L f xb wN wV)  : cI l yX8_remove wsX8_remove (RmC 49 7472) D g [.ref xb] L f 49 7472 (fun x L1 f1 => Res ρ g L f xb wN wV L1 f1) := by
  have CC := C
  obtain ⟨A, WA, WR, M, wf, sf, rfl, hM, hO, hW, hS⟩ := C
  have hO2 := hO
  obtain ⟨o, e_xb, e_wo, e_Sl, oS⟩ := hO2
  have m_xb := (o 0 (by decide)).1
  have r_xb := (o 0 (by decide)).2
  have m_wo := (o 1 (by decide)).1
  have r_wo := (o 1 (by decide)).2
  have m_Sl := (o 2 (by decide)).1
  have r_Sl := (o 2 (by decide)).2
  obtain ⟨z, hz, N, hN, hN2⟩ : ∃ z, mX8_remove (nI M) = some z ∧ ∃ N, N ≤ M ∧ z.2 = nI N := by
    unfold mX8_remove
    by_cases h0 : 0 < nI M
    · refine ⟨_, if_pos h0, M - 1, by omega, ?_⟩
      have hm : 0 < M := Nat.pos_of_ne_zero (fun q => by subst q; exact absurd h0 (by decide))
      exact pk_sub (b := 1) hm
    · exact ⟨_, if_neg h0, M, Nat.le_refl _, rfl⟩
  refine cI_up (k_X8_remove l D g m_xb e_xb hz) (by decide) (by decide) (by decide) (by decide) (by decide) (by decide) (fun x L1 f1 P => ?_)
  obtain ⟨-, eL, fv, E_xb⟩ := P
  subst eL
  rw [hN2] at E_xb
  have FT : ∀ b, b ∈ _ → ¬ TT [0] (fun _ => False) (fun _ => False) (ρ b) → f1 b = f b := fun b hb ht => fv b hb (ne_T2 ht (tt_o r_xb (by decide)))
  refine Cf_up (M1 := N) [0] (fun _ => False) (fun _ => False) rfl hO hW hS (fun _ h => ⟨h, rfl⟩) FT (fun j h => h.elim) (by decide) (Nat.le_trans hN hM) E_xb ((FT _ m_Sl (tn_o r_Sl (by decide))).trans e_Sl) ?_ ?_ ?_ ?_ ?_
  · intro k h3 _ hK
    have hc : False := by
      have hh : ∀ q, q ∈ ([0] : List Nat) → 3 ≤ q → False := by decide
      exact hh k hK h3
    exact hc.elim
  · exact fun j _ h => h.elim
  · exact fun j _ _ => ⟨rfl, rfl⟩
  · exact fun j _ h => h.elim
  · exact fun j _ _ => ⟨rfl, fun h => Nat.le_trans hN h⟩
set_option maxHeartbeats 1000000 in
theorem sc_fewest (l : Launch) (D : va_G) {ρ : Nat → Nat × Nat} {g : Nat → ClassId} {L : List Nat} {f : Nat → va_E} {xb : Nat} {wN : Nat → Nat} {wV : Nat → Nat → Int64} (C : Cf ρ g L f xb wN wV) (wi : Int32) (wa : Int32) (mo : Int32) (sd_ : Int32) : cI l yX8_fewest wsX8_fewest (RmC 49 7472) D g [.ref xb, .int wi, .int wa, .int mo, .int sd_] L f 49 7472 (fun x L1 f1 => Res ρ g L f xb wN wV L1 f1) := by
  have CC := C
  obtain ⟨A, WA, WR, M, wf, sf, rfl, hM, hO, hW, hS⟩ := C
  have hO2 := hO
  obtain ⟨o, e_xb, e_wo, e_Sl, oS⟩ := hO2
  have m_xb := (o 0 (by decide)).1
  have r_xb := (o 0 (by decide)).2
  have m_wo := (o 1 (by decide)).1
  have r_wo := (o 1 (by decide)).2
  have m_Sl := (o 2 (by decide)).1
  have r_Sl := (o 2 (by decide)).2
  obtain ⟨rin, e_ri⟩ := oS 5 (by decide) (by decide)
  have m_ri := (o 5 (by decide)).1
  have r_ri := (o 5 (by decide)).2
  obtain ⟨riv, e_rir⟩ := oS 6 (by decide) (by decide)
  have m_rir := (o 6 (by decide)).1
  have r_rir := (o 6 (by decide)).2
  obtain ⟨ic, rc, e_ch⟩ := oS 18 (by decide) (by decide)
  have m_ch := (o 18 (by decide)).1
  have r_ch := (o 18 (by decide)).2
  obtain ⟨vim, e_im⟩ := oS 19 (by decide) (by decide)
  have m_im := (o 19 (by decide)).1
  have r_im := (o 19 (by decide)).2
  obtain ⟨vrm, e_rm⟩ := oS 20 (by decide) (by decide)
  have m_rm := (o 20 (by decide)).1
  have r_rm := (o 20 (by decide)).2
  obtain ⟨z0, e_bo⟩ := oS 21 (by decide) (by decide)
  have m_bo := (o 21 (by decide)).1
  have r_bo := (o 21 (by decide)).2
  obtain ⟨vbw, e_bw⟩ := oS 22 (by decide) (by decide)
  have m_bw := (o 22 (by decide)).1
  have r_bw := (o 22 (by decide)).2
  rcases wAt (wf := wf) wi with ⟨hw_w, hq_w⟩ | ⟨jw, hjw, rfl, hw_w⟩
  · rcases wAt (wf := wf) wa with ⟨hw_u, hq_u⟩ | ⟨ju, hju, rfl, hw_u⟩
    · skip
      have hz : mX8_fewestNN = some _ := rfl
      refine cI_up (k_X8_fewestNN l D g m_xb e_xb m_wo e_wo hw_w hw_u hz) (by decide) (by decide) (by decide) (by decide) (by decide) (by decide) (fun x L1 f1 P => ?_)
      obtain ⟨-, eL, ef⟩ := P
      subst eL ef
      exact Res_same CC
    · skip
      have hw_u := hw_u _ (hW ju hju).1
      obtain ⟨m_ub, r_ub, e_ub, m_ur, r_ur, e_ur, bn_u, wr_u⟩ := (hW ju hju).2
      have BNu : BN (nI (wN ju)) := ⟨_, bn_u, rfl⟩
      have hz : mX8_fewestNW = some _ := rfl
      refine cI_up (k_X8_fewestNW l D g m_xb e_xb m_wo e_wo hw_w hw_u hz) (by decide) (by decide) (by decide) (by decide) (by decide) (by decide) (fun x L1 f1 P => ?_)
      obtain ⟨-, eL, ef⟩ := P
      subst eL ef
      exact Res_same CC
  · skip
    have hw_w := hw_w _ (hW jw hjw).1
    obtain ⟨m_wb, r_wb, e_wb, m_wr, r_wr, e_wr, bn_w, wr_w⟩ := (hW jw hjw).2
    have BNw : BN (nI (wN jw)) := ⟨_, bn_w, rfl⟩
    rcases wAt (wf := wf) wa with ⟨hw_u, hq_u⟩ | ⟨ju, hju, rfl, hw_u⟩
    · have hz : mX8_fewestWN = some _ := rfl
      refine cI_up (k_X8_fewestWN l D g m_xb e_xb m_wo e_wo hw_w hw_u hz) (by decide) (by decide) (by decide) (by decide) (by decide) (by decide) (fun x L1 f1 P => ?_)
      obtain ⟨-, eL, ef⟩ := P
      subst eL ef
      exact Res_same CC
    · skip
      have hw_u := hw_u _ (hW ju hju).1
      obtain ⟨m_ub, r_ub, e_ub, m_ur, r_ur, e_ur, bn_u, wr_u⟩ := (hW ju hju).2
      have BNu : BN (nI (wN ju)) := ⟨_, bn_u, rfl⟩
      obtain ⟨z, hz, hq⟩ : OK (mX8_fewest mo sd_ (nI (wN jw)) (wV jw) (nI (wN ju)) (wV ju) rin riv ic rc vim vrm z0 vbw) _ := sfewest_ok BNw BNu _ _ _ _ _ _ _ _ _ _ _ _
      refine cI_up (k_X8_fewest l D g m_xb e_xb m_wo e_wo m_wb e_wb m_wr e_wr m_ub e_ub m_ur e_ur m_ri e_ri m_rir e_rir m_ch e_ch m_im e_im m_rm e_rm m_bo e_bo m_bw e_bw r_ri r_rir r_im r_rm r_wb r_wr r_ub r_ur hw_w hw_u hz) (by decide) (by decide) (by decide) (by decide) (by decide) (by decide) (fun x L1 f1 P => ?_)
      obtain ⟨-, eL, fv, E_ri, E_rir, E_ch, E_im, E_rm, E_bo, E_bw⟩ := P
      subst eL
      have FT : ∀ b, b ∈ _ → ¬ TT [5, 6, 18, 19, 20, 21, 22] (fun _ => False) (fun _ => False) (ρ b) → f1 b = f b := fun b hb ht => fv b hb (ne_T2 ht (tt_o r_ri (by decide))) (ne_T2 ht (tt_o r_rir (by decide))) (ne_T2 ht (tt_o r_ch (by decide))) (ne_T2 ht (tt_o r_im (by decide))) (ne_T2 ht (tt_o r_rm (by decide))) (ne_T2 ht (tt_o r_bo (by decide))) (ne_T2 ht (tt_o r_bw (by decide)))
      refine Cf_up (M1 := M) [5, 6, 18, 19, 20, 21, 22] (fun _ => False) (fun _ => False) rfl hO hW hS (fun _ h => ⟨h, rfl⟩) FT (fun j h => h.elim) (by decide) hM ((FT _ m_xb (tn_o r_xb (by decide))).trans e_xb) ((FT _ m_Sl (tn_o r_Sl (by decide))).trans e_Sl) ?_ ?_ ?_ ?_ ?_
      · intro k h3 _ hK
        have hc : k = 5 ∨ k = 6 ∨ k = 18 ∨ k = 19 ∨ k = 20 ∨ k = 21 ∨ k = 22 := by
          have hh : ∀ q, q ∈ ([5, 6, 18, 19, 20, 21, 22] : List Nat) → 3 ≤ q → q = 5 ∨ q = 6 ∨ q = 18 ∨ q = 19 ∨ q = 20 ∨ q = 21 ∨ q = 22 := by decide
          exact hh k hK h3
        rcases hc with rfl | rfl | rfl | rfl | rfl | rfl | rfl
        · exact ⟨_, E_ri⟩
        · exact ⟨_, E_rir⟩
        · exact ⟨_, _, E_ch⟩
        · exact ⟨_, E_im⟩
        · exact ⟨_, E_rm⟩
        · exact ⟨_, E_bo⟩
        · exact ⟨_, E_bw⟩
      · exact fun j _ h => h.elim
      · exact fun j _ _ => ⟨rfl, rfl⟩
      · exact fun j _ h => h.elim
      · exact fun j _ _ => ⟨rfl, id⟩
set_option maxHeartbeats 1000000 in
theorem sc_put (l : Launch) (D : va_G) {ρ : Nat → Nat × Nat} {g : Nat → ClassId} {L : List Nat} {f : Nat → va_E} {xb : Nat} {wN : Nat → Nat} {wV : Nat → Nat → Int64} (C : Cf ρ g L f xb wN wV) (sq : Int32) (t : Int64) : cI l yX8_put wsX8_put (RmC 49 7472) D g [.ref xb, .int sq, .long t] L f 49 7472 (fun x L1 f1 => Res ρ g L f xb wN wV L1 f1) := by
  have CC := C
  obtain ⟨A, WA, WR, M, wf, sf, rfl, hM, hO, hW, hS⟩ := C
  have hO2 := hO
  obtain ⟨o, e_xb, e_wo, e_Sl, oS⟩ := hO2
  have m_xb := (o 0 (by decide)).1
  have r_xb := (o 0 (by decide)).2
  have m_wo := (o 1 (by decide)).1
  have r_wo := (o 1 (by decide)).2
  have m_Sl := (o 2 (by decide)).1
  have r_Sl := (o 2 (by decide)).2
  rcases sAt (sf := sf) hM sq with hs_ | ⟨js, hjs, rfl, hs_⟩
  · have hz : mX8_putN = some _ := rfl
    refine cI_up (k_X8_putN l D g m_xb e_xb m_Sl e_Sl hs_ hz) (by decide) (by decide) (by decide) (by decide) (by decide) (by decide) (fun x L1 f1 P => ?_)
    obtain ⟨-, eL, ef⟩ := P
    subst eL ef
    exact Res_same CC
  · skip
    rcases hS js (by omega) with ⟨-, q2⟩ | ⟨h, hsf_, H_⟩
    · exact absurd q2 (by omega)
    · skip
      have hs_ := hs_ _ hsf_
      obtain ⟨ce, co, cr, lay, kd, sz, mk, sd, kc, n, v, ⟨m_h, r_h, e_h⟩, ⟨m_ce, r_ce, e_ce⟩, ⟨m_co, r_co, e_co⟩, ⟨m_cr, r_cr, e_cr⟩, hSV, hk4, hLY⟩ := H_
      obtain ⟨z, hz, hq⟩ : OK (mX8_put t kd sz mk sd kc n v) _ := sput_ok hSV _ _ _ _
      refine cI_up (k_X8_put l D g m_xb e_xb m_Sl e_Sl m_h e_h m_ce e_ce m_co e_co m_cr e_cr hs_ hz) (by decide) (by decide) (by decide) (by decide) (by decide) (by decide) (fun x L1 f1 P => ?_)
      obtain ⟨-, eL, fv, E_ce, E_co, E_cr⟩ := P
      subst eL
      have FT : ∀ b, b ∈ _ → ¬ TT [] (fun _ => False) (fun j => j = js) (ρ b) → f1 b = f b := fun b hb ht => fv b hb (ne_T2 ht (tt_s r_ce rfl)) (ne_T2 ht (tt_s r_co rfl)) (ne_T2 ht (tt_s r_cr rfl))
      refine Cf_up (M1 := M) [] (fun _ => False) (fun j => j = js) rfl hO hW hS (fun _ h => ⟨h, rfl⟩) FT (fun j h => by subst h; omega) (by decide) hM ((FT _ m_xb (tn_o r_xb (by decide))).trans e_xb) ((FT _ m_Sl (tn_o r_Sl (by decide))).trans e_Sl) ?_ ?_ ?_ ?_ ?_
      · intro k h3 _ hK
        have hc : False := by
          have hh : ∀ q, q ∈ ([] : List Nat) → 3 ≤ q → False := by decide
          exact hh k hK h3
        exact hc.elim
      · exact fun j _ h => h.elim
      · exact fun j _ _ => ⟨rfl, rfl⟩
      · intro j _ h_
        subst h_
        exact Or.inr ⟨h, hsf_, ce, co, cr, lay, _, _, _, _, _, _, _, ⟨m_h, r_h, ((fv h m_h (ne_ir e_ce e_h) (ne_rr e_co e_h (by decide)) (ne_ir e_cr e_h)).trans e_h)⟩, ⟨m_ce, r_ce, E_ce⟩, ⟨m_co, r_co, E_co⟩, ⟨m_cr, r_cr, E_cr⟩, hq, hk4, (hLY.elim Or.inl (fun q => Or.inr (LY_fr (fun _ h => ⟨h, rfl⟩) (fun b hb hr n1 n2 n3 n4 => fv b hb n2 n3 n4) q e_h e_ce e_co e_cr)))⟩
      · exact fun j _ _ => ⟨rfl, id⟩
set_option maxHeartbeats 1000000 in
theorem sc_drop (l : Launch) (D : va_G) {ρ : Nat → Nat × Nat} {g : Nat → ClassId} {L : List Nat} {f : Nat → va_E} {xb : Nat} {wN : Nat → Nat} {wV : Nat → Nat → Int64} (C : Cf ρ g L f xb wN wV) (sq : Int32) (t : Int64) : cI l yX8_drop wsX8_drop (RmC 49 7472) D g [.ref xb, .int sq, .long t] L f 49 7472 (fun x L1 f1 => Res ρ g L f xb wN wV L1 f1) := by
  have CC := C
  obtain ⟨A, WA, WR, M, wf, sf, rfl, hM, hO, hW, hS⟩ := C
  have hO2 := hO
  obtain ⟨o, e_xb, e_wo, e_Sl, oS⟩ := hO2
  have m_xb := (o 0 (by decide)).1
  have r_xb := (o 0 (by decide)).2
  have m_wo := (o 1 (by decide)).1
  have r_wo := (o 1 (by decide)).2
  have m_Sl := (o 2 (by decide)).1
  have r_Sl := (o 2 (by decide)).2
  rcases sAt (sf := sf) hM sq with hs_ | ⟨js, hjs, rfl, hs_⟩
  · have hz : mX8_dropN = some _ := rfl
    refine cI_up (k_X8_dropN l D g m_xb e_xb m_Sl e_Sl hs_ hz) (by decide) (by decide) (by decide) (by decide) (by decide) (by decide) (fun x L1 f1 P => ?_)
    obtain ⟨-, eL, ef⟩ := P
    subst eL ef
    exact Res_same CC
  · skip
    rcases hS js (by omega) with ⟨-, q2⟩ | ⟨h, hsf_, H_⟩
    · exact absurd q2 (by omega)
    · skip
      have hs_ := hs_ _ hsf_
      obtain ⟨ce, co, cr, lay, kd, sz, mk, sd, kc, n, v, ⟨m_h, r_h, e_h⟩, ⟨m_ce, r_ce, e_ce⟩, ⟨m_co, r_co, e_co⟩, ⟨m_cr, r_cr, e_cr⟩, hSV, hk4, hLY⟩ := H_
      obtain ⟨z, hz, hq⟩ : OK (mX8_drop t kd sz mk sd kc n v) _ := sdrop_ok hSV _ _ _ _
      refine cI_up (k_X8_drop l D g m_xb e_xb m_Sl e_Sl m_h e_h m_ce e_ce m_co e_co m_cr e_cr hs_ hz) (by decide) (by decide) (by decide) (by decide) (by decide) (by decide) (fun x L1 f1 P => ?_)
      obtain ⟨-, eL, fv, E_ce, E_co, E_cr⟩ := P
      subst eL
      have FT : ∀ b, b ∈ _ → ¬ TT [] (fun _ => False) (fun j => j = js) (ρ b) → f1 b = f b := fun b hb ht => fv b hb (ne_T2 ht (tt_s r_ce rfl)) (ne_T2 ht (tt_s r_co rfl)) (ne_T2 ht (tt_s r_cr rfl))
      refine Cf_up (M1 := M) [] (fun _ => False) (fun j => j = js) rfl hO hW hS (fun _ h => ⟨h, rfl⟩) FT (fun j h => by subst h; omega) (by decide) hM ((FT _ m_xb (tn_o r_xb (by decide))).trans e_xb) ((FT _ m_Sl (tn_o r_Sl (by decide))).trans e_Sl) ?_ ?_ ?_ ?_ ?_
      · intro k h3 _ hK
        have hc : False := by
          have hh : ∀ q, q ∈ ([] : List Nat) → 3 ≤ q → False := by decide
          exact hh k hK h3
        exact hc.elim
      · exact fun j _ h => h.elim
      · exact fun j _ _ => ⟨rfl, rfl⟩
      · intro j _ h_
        subst h_
        exact Or.inr ⟨h, hsf_, ce, co, cr, lay, _, _, _, _, _, _, _, ⟨m_h, r_h, ((fv h m_h (ne_ir e_ce e_h) (ne_rr e_co e_h (by decide)) (ne_ir e_cr e_h)).trans e_h)⟩, ⟨m_ce, r_ce, E_ce⟩, ⟨m_co, r_co, E_co⟩, ⟨m_cr, r_cr, E_cr⟩, hq, hk4, (hLY.elim Or.inl (fun q => Or.inr (LY_fr (fun _ h => ⟨h, rfl⟩) (fun b hb hr n1 n2 n3 n4 => fv b hb n2 n3 n4) q e_h e_ce e_co e_cr)))⟩
      · exact fun j _ _ => ⟨rfl, id⟩
set_option maxHeartbeats 1000000 in
theorem sc_putAll (l : Launch) (D : va_G) {ρ : Nat → Nat × Nat} {g : Nat → ClassId} {L : List Nat} {f : Nat → va_E} {xb : Nat} {wN : Nat → Nat} {wV : Nat → Nat → Int64} (C : Cf ρ g L f xb wN wV) (sq : Int32) (wi : Int32) : cI l yX8_putAll wsX8_putAll (RmC 49 7472) D g [.ref xb, .int sq, .int wi] L f 49 7472 (fun x L1 f1 => Res ρ g L f xb wN wV L1 f1) := by
  have CC := C
  obtain ⟨A, WA, WR, M, wf, sf, rfl, hM, hO, hW, hS⟩ := C
  have hO2 := hO
  obtain ⟨o, e_xb, e_wo, e_Sl, oS⟩ := hO2
  have m_xb := (o 0 (by decide)).1
  have r_xb := (o 0 (by decide)).2
  have m_wo := (o 1 (by decide)).1
  have r_wo := (o 1 (by decide)).2
  have m_Sl := (o 2 (by decide)).1
  have r_Sl := (o 2 (by decide)).2
  rcases sAt (sf := sf) hM sq with hs_ | ⟨js, hjs, rfl, hs_⟩
  · rcases wAt (wf := wf) wi with ⟨hw_w, hq_w⟩ | ⟨jw, hjw, rfl, hw_w⟩
    · skip
      have hz : mX8_putAllNN = some _ := rfl
      refine cI_up (k_X8_putAllNN l D g m_xb e_xb m_wo e_wo m_Sl e_Sl hw_w hs_ hz) (by decide) (by decide) (by decide) (by decide) (by decide) (by decide) (fun x L1 f1 P => ?_)
      obtain ⟨-, eL, ef⟩ := P
      subst eL ef
      exact Res_same CC
    · skip
      have hw_w := hw_w _ (hW jw hjw).1
      obtain ⟨m_wb, r_wb, e_wb, m_wr, r_wr, e_wr, bn_w, wr_w⟩ := (hW jw hjw).2
      have BNw : BN (nI (wN jw)) := ⟨_, bn_w, rfl⟩
      have hz : mX8_putAllNW = some _ := rfl
      refine cI_up (k_X8_putAllNW l D g m_xb e_xb m_wo e_wo m_Sl e_Sl hw_w hs_ hz) (by decide) (by decide) (by decide) (by decide) (by decide) (by decide) (fun x L1 f1 P => ?_)
      obtain ⟨-, eL, ef⟩ := P
      subst eL ef
      exact Res_same CC
  · skip
    rcases hS js (by omega) with ⟨-, q2⟩ | ⟨h, hsf_, H_⟩
    · exact absurd q2 (by omega)
    · skip
      have hs_ := hs_ _ hsf_
      obtain ⟨ce, co, cr, lay, kd, sz, mk, sd, kc, n, v, ⟨m_h, r_h, e_h⟩, ⟨m_ce, r_ce, e_ce⟩, ⟨m_co, r_co, e_co⟩, ⟨m_cr, r_cr, e_cr⟩, hSV, hk4, hLY⟩ := H_
      rcases wAt (wf := wf) wi with ⟨hw_w, hq_w⟩ | ⟨jw, hjw, rfl, hw_w⟩
      · have hz : mX8_putAllSN = some _ := rfl
        refine cI_up (k_X8_putAllSN l D g m_xb e_xb m_wo e_wo m_Sl e_Sl hw_w hs_ hz) (by decide) (by decide) (by decide) (by decide) (by decide) (by decide) (fun x L1 f1 P => ?_)
        obtain ⟨-, eL, ef⟩ := P
        subst eL ef
        exact Res_same CC
      · skip
        have hw_w := hw_w _ (hW jw hjw).1
        obtain ⟨m_wb, r_wb, e_wb, m_wr, r_wr, e_wr, bn_w, wr_w⟩ := (hW jw hjw).2
        have BNw : BN (nI (wN jw)) := ⟨_, bn_w, rfl⟩
        obtain ⟨z, hz, hq⟩ : OK (mX8_putAllG (nI (wN jw)) (wV jw) kd sz mk sd kc n v) _ := sputAllG_ok hSV BNw _ _ _ _
        refine cI_up (k_X8_putAllG l D g m_xb e_xb m_wo e_wo m_Sl e_Sl m_wb e_wb m_wr e_wr m_h e_h m_ce e_ce m_co e_co m_cr e_cr r_wb r_wr r_co r_cr hw_w hs_ hz) (by decide) (by decide) (by decide) (by decide) (by decide) (by decide) (fun x L1 f1 P => ?_)
        obtain ⟨-, eL, fv, E_ce, E_co, E_cr⟩ := P
        subst eL
        have FT : ∀ b, b ∈ _ → ¬ TT [] (fun _ => False) (fun j => j = js) (ρ b) → f1 b = f b := fun b hb ht => fv b hb (ne_T2 ht (tt_s r_ce rfl)) (ne_T2 ht (tt_s r_co rfl)) (ne_T2 ht (tt_s r_cr rfl))
        refine Cf_up (M1 := M) [] (fun _ => False) (fun j => j = js) rfl hO hW hS (fun _ h => ⟨h, rfl⟩) FT (fun j h => by subst h; omega) (by decide) hM ((FT _ m_xb (tn_o r_xb (by decide))).trans e_xb) ((FT _ m_Sl (tn_o r_Sl (by decide))).trans e_Sl) ?_ ?_ ?_ ?_ ?_
        · intro k h3 _ hK
          have hc : False := by
            have hh : ∀ q, q ∈ ([] : List Nat) → 3 ≤ q → False := by decide
            exact hh k hK h3
          exact hc.elim
        · exact fun j _ h => h.elim
        · exact fun j _ _ => ⟨rfl, rfl⟩
        · intro j _ h_
          subst h_
          exact Or.inr ⟨h, hsf_, ce, co, cr, lay, _, _, _, _, _, _, _, ⟨m_h, r_h, ((fv h m_h (ne_ir e_ce e_h) (ne_rr e_co e_h (by decide)) (ne_ir e_cr e_h)).trans e_h)⟩, ⟨m_ce, r_ce, E_ce⟩, ⟨m_co, r_co, E_co⟩, ⟨m_cr, r_cr, E_cr⟩, hq, hk4, (hLY.elim Or.inl (fun q => Or.inr (LY_fr (fun _ h => ⟨h, rfl⟩) (fun b hb hr n1 n2 n3 n4 => fv b hb n2 n3 n4) q e_h e_ce e_co e_cr)))⟩
        · exact fun j _ _ => ⟨rfl, id⟩
