/-! ===== the reference: takeOff, solve ===== -/
theorem alone_up {c t : Nat} (h0 : 0 < c) (hc : c ≤ 1258) (vo : Nat → Int64) (sd : Int32) (al : Nat → Int32) : OK (mX9_takeOff_L73 (nI c) (mixV (vo t) sd) FU 0 al) (fun z => ∀ p, p < 3 * c → z.2 p = (if plc vo sd c t (p / c) = p then al p + 1 else al p)) := by
  refine OK_for (fun fu i (s : Nat → Int32) => mX9_takeOff_L73 (nI c) (mixV (vo t) sd) fu i s) 3 (by decide) (fun k s => ∀ p, p < 3 * c → s p = (if p / c < k ∧ plc vo sd c t (p / c) = p then al p + 1 else al p)) _ ?_ ?_ ?_
  · intro p _; rw [if_neg (fun q => Nat.not_lt_zero _ q.1)]
  · intro fu s hs
    show OK (mX9_takeOff_L73 (nI c) (mixV (vo t) sd) (fu + 1) (nI 3) s) _
    rw [mX9_takeOff_L73]
    refine OK_T (by decide) (OK_some (fun p hp => ?_))
    have h3 := d3 hp
    have hh := hs p hp
    simp only [h3, true_and] at hh
    exact hh
  · intro fu k s hk hs ih
    show OK (mX9_takeOff_L73 (nI c) (mixV (vo t) sd) (fu + 1) (nI k) s) _
    have hq := plc_lt (vo := vo) (sd := sd) (t := t) h0 hk
    have hqd := plc_div (vo := vo) (sd := sd) (t := t) (k := k) h0
    rw [mX9_takeOff_L73]
    refine OK_F (nI_ge (b := 3) hk (by decide)) (OK_be (sp_r _ hk h0 (by omega)) ?_)
    rw [show spN (nM (mixV (vo t) sd)) k c = plc vo sd c t k from rfl]
    obtain ⟨q, eq⟩ : ∃ q, q = plc vo sd c t k := ⟨_, rfl⟩
    rw [← eq] at hq hqd ⊢
    have i1 : ix (nI q) 4096 = true := ix_nI (by omega)
    rw [nI_s, clN (by omega)]
    refine OK_T i1 (OK_T i1 (ih _ (fun p hp => ?_)))
    have g1 := hs p hp
    by_cases ep : p = q
    · subst ep
      have hA : plc vo sd c t (p / c) = p := by rw [hqd]; exact eq.symm
      rw [if_neg (fun w => absurd w.1 (by rw [hqd]; omega))] at g1
      rw [pk_us, if_pos ⟨by rw [hqd]; omega, hA⟩, g1]
    · rw [pk_un ep]
      have hiff : (p / c < k + 1 ∧ plc vo sd c t (p / c) = p) ↔ (p / c < k ∧ plc vo sd c t (p / c) = p) := by
        constructor
        · intro w
          refine ⟨?_, w.2⟩
          rcases Nat.lt_or_ge (p / c) k with l | l
          · exact l
          · have e2 : p / c = k := Nat.le_antisymm (Nat.le_of_lt_succ w.1) l
            have := w.2
            rw [e2, ← eq] at this
            exact absurd this.symm ep
        · intro w; exact ⟨Nat.lt_succ_of_lt w.1, w.2⟩
      simp only [hiff]
      exact g1
theorem alone_dn {c t w n : Nat} (h0 : 0 < c) (hc : c ≤ 1258) (hw : w < 8) (ht : t < 1000) (vW : Nat → Int64) (sd : Int32) (off : Nat → Bool) (al : Nat → Int32) (hal : ∀ p, p < 3 * c → al p = nI (cnt (plc (fun u => vW (1000 * w + u)) sd c) c off n p + (if plc (fun u => vW (1000 * w + u)) sd c t (p / c) = p then 1 else 0))) : OK (mX9_takeOff_L234 vW (nI w) sd (nI c) (nI t) FU 0 al) (fun z => ∀ p, p < 3 * c → z.2 p = nI (cnt (plc (fun u => vW (1000 * w + u)) sd c) c off n p)) := by
  generalize hvo : (fun u => vW (1000 * w + u)) = vo at hal ⊢
  have hv : vW (1000 * w + t) = vo t := by rw [← hvo]
  refine OK_for (fun fu i (s : Nat → Int32) => mX9_takeOff_L234 vW (nI w) sd (nI c) (nI t) fu i s) 3 (by decide) (fun k s => ∀ p, p < 3 * c → s p = nI (cnt (plc vo sd c) c off n p + (if ¬ p / c < k ∧ plc vo sd c t (p / c) = p then 1 else 0))) _ ?_ ?_ ?_
  · intro p hp
    rw [hal p hp]
    simp only [Nat.not_lt_zero, not_false_iff, true_and]
  · intro fu s hs
    show OK (mX9_takeOff_L234 vW (nI w) sd (nI c) (nI t) (fu + 1) (nI 3) s) _
    rw [mX9_takeOff_L234]
    refine OK_T (by decide) (OK_some (fun p hp => ?_))
    have h3 := d3 hp
    have hh := hs p hp
    simp only [h3, not_true, false_and, if_false, Nat.add_zero] at hh
    exact hh
  · intro fu k s hk hs ih
    show OK (mX9_takeOff_L234 vW (nI w) sd (nI c) (nI t) (fu + 1) (nI k) s) _
    have hq := plc_lt (vo := vo) (sd := sd) (t := t) h0 hk
    have hqd := plc_div (vo := vo) (sd := sd) (t := t) (k := k) h0
    rw [mX9_takeOff_L234, m1000, clN (k := 1000 * w + t) (by omega), hv]
    refine OK_F (nI_ge (b := 3) hk (by decide)) (OK_T (ix_nI (by omega)) (OK_be (mix_r _ _) (OK_be (sp_r _ hk h0 (by omega)) ?_)))
    rw [show spN (nM (mixV (vo t) sd)) k c = plc vo sd c t k from rfl]
    obtain ⟨q, eq⟩ : ∃ q, q = plc vo sd c t k := ⟨_, rfl⟩
    rw [← eq] at hq hqd ⊢
    have i1 : ix (nI q) 4096 = true := ix_nI (by omega)
    rw [nI_s, clN (by omega)]
    refine OK_T i1 (OK_T i1 (ih _ (fun p hp => ?_)))
    have g1 := hs p hp
    by_cases ep : p = q
    · subst ep
      have hA : plc vo sd c t (p / c) = p := by rw [hqd]; exact eq.symm
      rw [if_pos ⟨by rw [hqd]; omega, hA⟩] at g1
      rw [pk_us, g1, if_neg (fun w => w.1 (by rw [hqd]; omega)), nI_pred]
      rfl
    · rw [pk_un ep]
      have hiff : (¬ p / c < k + 1 ∧ plc vo sd c t (p / c) = p) ↔ (¬ p / c < k ∧ plc vo sd c t (p / c) = p) := by
        constructor
        · intro w; exact ⟨fun l => w.1 (Nat.lt_succ_of_lt l), w.2⟩
        · intro w
          refine ⟨fun l => ?_, w.2⟩
          have e2 : p / c = k := Nat.le_antisymm (Nat.le_of_lt_succ l) (Nat.le_of_not_lt w.1)
          have := w.2
          rw [e2, ← eq] at this
          exact ep this.symm
      simp only [hiff]
      exact g1
theorem least_al {c : Nat} (hc : c ≤ 1258) (al : Nat → Int32) : OK (mX9_takeOff_L121 (nI c) al FU 0) (fun z => (z = nI (3 * c) ∧ ∀ p, p < 3 * c → al p ≠ 1) ∨ ∃ p, p < 3 * c ∧ z = nI p ∧ al p = 1 ∧ ∀ q, q < p → al q ≠ 1) := by
  have e3 : (3 : Int32) * nI c = nI (3 * c) := pk_mul 3 c
  refine OK_for (fun fu i (_ : Unit) => mX9_takeOff_L121 (nI c) al fu i) (3 * c) (by omega) (fun i _ => ∀ p, p < i → al p ≠ 1) _ (s := ()) (fun p hp => absurd hp (by omega)) ?_ ?_
  · intro fu _ hs
    show OK (mX9_takeOff_L121 (nI c) al (fu + 1) (nI (3 * c))) _
    rw [mX9_takeOff_L121, e3]
    exact OK_T (Int32.le_refl _) (OK_some (Or.inl ⟨rfl, hs⟩))
  · intro fu i _ hi hs ih
    show OK (mX9_takeOff_L121 (nI c) al (fu + 1) (nI i)) _
    rw [mX9_takeOff_L121, e3, clN (by omega), nI_s]
    refine OK_F (nI_ge hi (by omega)) (OK_T (ix_nI (by omega)) (OK_ite (fun h => OK_some (Or.inr ⟨i, hi, rfl, h, hs⟩)) (fun h => ih () (fun p hp => ?_))))
    by_cases e : p = i
    · subst e; exact h
    · exact hs p (by omega)
theorem find_al {c w t p n : Nat} (h0 : 0 < c) (hc : c ≤ 1258) (hw : w < 8) (hn : n ≤ 1000) (ht : t < n) (hp : p < 3 * c) (vW : Nat → Int64) (sd : Int32) {off : Nat → Bool} {io : Nat → Int32} (hio : ∀ u, u < n → io u = (if off u = true then 1 else 0)) (h1 : off t = false) (h2 : plc (fun u => vW (1000 * w + u)) sd c t (p / c) = p) (hu : ∀ u, u < n → off u = false → plc (fun u => vW (1000 * w + u)) sd c u (p / c) = p → u = t) : OK (mX9_takeOff_L159 vW (nI w) sd (nI c) (nI p) io FU 0) (fun z => z = nI t) := by
  have hd : nI p / nI c = nI (p / c) := q_d (by omega) h0 (by omega)
  have hpc : p / c < 3 := d3 hp
  have hc0 : ¬ nI c = (0 : Int32) := nI_ne0 h0 (by omega)
  have body : ∀ (fu k : Nat), k < n → mX9_takeOff_L159 vW (nI w) sd (nI c) (nI p) io (fu + 1) (nI k) = (if off k = true then mX9_takeOff_L159 vW (nI w) sd (nI c) (nI p) io fu (nI (k + 1)) else if plc (fun u => vW (1000 * w + u)) sd c k (p / c) = p then some (nI k) else mX9_takeOff_L159 vW (nI w) sd (nI c) (nI p) io fu (nI (k + 1))) := by
    intro fu k hk
    rw [mX9_takeOff_L159, if_pos (ix_nI (by omega)), clN (k := k) (by omega), hio k hk, nI_s]
    by_cases ho : off k = true
    · rw [if_pos ho, if_pos ho, if_neg (by decide)]
    · rw [if_neg ho, if_neg ho, if_pos rfl, m1000, if_pos (ix_nI (by omega)), clN (k := 1000 * w + k) (by omega), mix_r, sb_, if_pos hc0, hd, sp_r _ hpc h0 (by omega), sb_]
      have : spN (nM (mixV (vW (1000 * w + k)) sd)) (p / c) c = plc (fun u => vW (1000 * w + u)) sd c k (p / c) := rfl
      rw [this]
      have hlt := plc_lt (vo := fun u => vW (1000 * w + u)) (sd := sd) (t := k) h0 hpc
      by_cases e : plc (fun u => vW (1000 * w + u)) sd c k (p / c) = p
      · rw [if_pos e, if_pos (by rw [e])]
      · rw [if_neg e, if_neg (fun q => e ((nI_eq (by omega) (by omega)).mp q))]
  refine OK_for (fun fu i (_ : Unit) => mX9_takeOff_L159 vW (nI w) sd (nI c) (nI p) io fu i) t (by omega) (fun _ _ => True) _ (s := ()) trivial ?_ ?_
  · intro fu _ _
    show OK (mX9_takeOff_L159 vW (nI w) sd (nI c) (nI p) io (fu + 1) (nI t)) _
    rw [body fu t ht, if_neg (by rw [h1]; decide), if_pos h2]
    exact OK_some rfl
  · intro fu k _ hk _ ih
    show OK (mX9_takeOff_L159 vW (nI w) sd (nI c) (nI p) io (fu + 1) (nI k)) _
    rw [body fu k (by omega)]
    refine OK_ite (fun _ => ih () trivial) (fun ho => OK_ite (fun e => ?_) (fun _ => ih () trivial))
    have := hu k (by omega) (by simpa using ho) e
    omega
theorem rTakeOff_v {w n : Nat} (hw : w < 8) (hn : n ≤ 1000) {vIW : Nat → Int32} (eW : vIW w = nI n) (vW : Nat → Int64) (od oa io al : Nat → Int32) (sd : Int32) :
    OK (mX9_takeOff vW vIW od oa io al (nI w) sd (nI (cOf n))) (fun z => ∃ (T P : Nat → Nat) (i : Nat), RunS (plc (fun u => vW (1000 * w + u)) sd (cOf n)) (cOf n) n T P i ∧ (∀ j, j < i → z.2.1 j = nI (T j) ∧ z.2.2.1 j = nI (P j)) ∧ ((z.1 = 1 ∧ i = n) ∨ (z.1 = 0 ∧ i < n ∧ ∀ p, p < 3 * cOf n → cnt (plc (fun u => vW (1000 * w + u)) sd (cOf n)) (cOf n) (offB T i) n p ≠ 1))) := by
  obtain ⟨hc8, hc⟩ := cOf_b hn
  generalize cOf n = c at hc8 hc
  have h0 : 0 < c := by omega
  have e3 : (3 : Int32) * nI c = nI (3 * c) := pk_mul 3 c
  unfold mX9_takeOff
  refine OK_T (ix_nI hw) (OK_bind (P := fun z => ∀ p, p < 3 * c → z.2 p = 0) ?_ (fun z hz => OK_bind (P := fun y => (∀ t, t < n → y.2.1 t = 0) ∧ ∀ p, p < 3 * c → y.2.2 p = nI (cnt (plc (fun u => vW (1000 * w + u)) sd c) c off0 n p)) ?_ (fun y hy => OK_bind (P := fun o => (∃ s, o = .inr s ∧ ∃ (T P : Nat → Nat), RunS (plc (fun u => vW (1000 * w + u)) sd c) c n T P n ∧ ∀ j, j < n → s.2.1 j = nI (T j) ∧ s.2.2.1 j = nI (P j)) ∨ (∃ s, o = .inl s ∧ s.1 = 0 ∧ ∃ (T P : Nat → Nat) (i : Nat), i < n ∧ RunS (plc (fun u => vW (1000 * w + u)) sd c) c n T P i ∧ (∀ j, j < i → s.2.1 j = nI (T j) ∧ s.2.2.1 j = nI (P j)) ∧ ∀ p, p < 3 * c → cnt (plc (fun u => vW (1000 * w + u)) sd c) c (offB T i) n p ≠ 1)) ?_ ?_)))
  · refine OK_for (fun fu i (s : Nat → Int32) => mX9_takeOff_L11 (nI c) fu i s) (3 * c) (by omega) (fun i s => ∀ p, p < i → s p = 0) _ (fun p hp => absurd hp (by omega)) ?_ ?_
    · intro fu s hs
      show OK (mX9_takeOff_L11 (nI c) (fu + 1) (nI (3 * c)) s) _
      rw [mX9_takeOff_L11, e3]
      exact OK_T (Int32.le_refl _) (OK_some hs)
    · intro fu i s hi hs ih
      show OK (mX9_takeOff_L11 (nI c) (fu + 1) (nI i) s) _
      rw [mX9_takeOff_L11, e3, clN (by omega), nI_s]
      refine OK_F (nI_ge hi (by omega)) (OK_T (ix_nI (by omega)) (ih _ (fun p hp => ?_)))
      by_cases e : p = i
      · subst e; exact pk_us
      · rw [pk_un e]; exact hs p (by omega)
  · refine OK_for (fun fu i (s : (Nat → Int32) × (Nat → Int32)) => mX9_takeOff_L36 vW vIW (nI w) sd (nI c) fu i s.1 s.2) n (by omega) (fun t s => (∀ u, u < t → s.1 u = 0) ∧ ∀ p, p < 3 * c → s.2 p = nI (cnt (plc (fun u => vW (1000 * w + u)) sd c) c off0 t p)) _ (s := (io, z.2)) ⟨fun u hu => absurd hu (by omega), hz⟩ ?_ ?_
    · intro fu s hs
      show OK (mX9_takeOff_L36 vW vIW (nI w) sd (nI c) (fu + 1) (nI n) s.1 s.2) _
      rw [mX9_takeOff_L36, clN (k := w) (by omega), eW]
      exact OK_T (Int32.le_refl _) (OK_some hs)
    · rintro fu t ⟨a, b⟩ ht ⟨h1, h2⟩ ih
      show OK (mX9_takeOff_L36 vW vIW (nI w) sd (nI c) (fu + 1) (nI t) a b) _
      rw [mX9_takeOff_L36, clN (k := w) (by omega), eW, m1000, clN (k := 1000 * w + t) (by omega), clN (k := t) (by omega), nI_s]
      refine OK_F (nI_ge ht (by omega)) (OK_T (ix_nI (by omega)) (OK_T (ix_nI (by omega)) (OK_be (mix_r _ _) (OK_bind (alone_up (t := t) h0 hc (fun u => vW (1000 * w + u)) sd b) (fun y hy => ih (upd a t 0, y.2) ⟨fun u hu => ?_, fun p hp => ?_⟩)))))
      · show upd a t 0 u = 0
        by_cases e : u = t
        · subst e; exact pk_us
        · rw [pk_un e]; exact h1 u (by omega)
      · show y.2 p = nI (cnt (plc (fun u => vW (1000 * w + u)) sd c) c off0 t p + (if off0 t = false ∧ plc (fun u => vW (1000 * w + u)) sd c t (p / c) = p then 1 else 0))
        rw [hy p hp]
        have g := h2 p hp
        dsimp only at g
        by_cases q : plc (fun u => vW (1000 * w + u)) sd c t (p / c) = p
        · rw [if_pos q, if_pos ⟨rfl, q⟩, g, nI_1]
        · rw [if_neg q, if_neg (fun r => q r.2), g, Nat.add_zero]
  · refine OK_for (fun fu i (s : (Nat → Int32) × (Nat → Int32) × (Nat → Int32) × (Nat → Int32)) => mX9_takeOff_L111 vW vIW (nI w) sd (nI c) fu i s.1 s.2.1 s.2.2.1 s.2.2.2) n (by omega)
      (fun i s => ∃ T P : Nat → Nat, RunS (plc (fun u => vW (1000 * w + u)) sd c) c n T P i ∧ (∀ j, j < i → s.1 j = nI (T j) ∧ s.2.1 j = nI (P j)) ∧ (∀ u, u < n → s.2.2.1 u = (if offB T i u = true then 1 else 0)) ∧ ∀ p, p < 3 * c → s.2.2.2 p = nI (cnt (plc (fun u => vW (1000 * w + u)) sd c) c (offB T i) n p)) _ (s := (od, oa, y.2.1, y.2.2)) ?_ ?_ ?_
    · exact ⟨fun _ => 0, fun _ => 0, fun j hj => absurd hj (by omega), fun j hj => absurd hj (by omega), fun u hu => hy.1 u hu, hy.2⟩
    · rintro fu ⟨a, b, d, e⟩ ⟨T, P, h1, h2, h3, h4⟩
      show OK (mX9_takeOff_L111 vW vIW (nI w) sd (nI c) (fu + 1) (nI n) a b d e) _
      rw [mX9_takeOff_L111, clN (k := w) (by omega), eW]
      exact OK_T (Int32.le_refl _) (OK_some (Or.inl ⟨_, rfl, T, P, h1, h2⟩))
    · rintro fu i ⟨a, b, d, e⟩ hi ⟨T, P, h1, h2, h3, h4⟩ ih
      show OK (mX9_takeOff_L111 vW vIW (nI w) sd (nI c) (fu + 1) (nI i) a b d e) _
      rw [mX9_takeOff_L111, clN (k := w) (by omega), eW]
      refine OK_F (nI_ge hi (by omega)) (OK_bind (least_al hc e) ?_)
      rw [e3]
      have hlf : ∀ p, p < 3 * c → (e p = 1 ↔ cnt (plc (fun u => vW (1000 * w + u)) sd c) c (offB T i) n p = 1) := fun p hp => cnt_is1 hn (h4 p hp)
      rintro r (⟨rfl, hno⟩ | ⟨p, hp, rfl, hb, hl⟩)
      · exact OK_T rfl (OK_some (Or.inr ⟨_, rfl, rfl, T, P, i, hi, h1, h2, fun p hp q => hno p hp ((hlf p hp).mpr q)⟩))
      · have hc1 := (hlf p hp).mp hb
        obtain ⟨t, ht, hto, htp, -, hu⟩ := cnt1 hc1
        refine OK_F (fun q => by have := (nI_eq (a := p) (b := 3 * c) (by omega) (by omega)).mp q; omega) (OK_bind (find_al h0 hc hw hn ht hp vW sd h3 hto htp hu) ?_)
        rintro z rfl
        have i2 : ix (nI i) 1000 = true := ix_nI (by omega)
        rw [clN (k := t) (by omega), clN (k := i) (by omega), nI_s]
        refine OK_T (ix_nI (by omega)) (OK_T i2 (OK_T i2 (OK_bind (alone_dn (n := n) (off := offU (offB T i) t) h0 hc hw (by omega) vW sd e (fun q hq => ?_)) (fun y2 hy2 => ?_))))
        · have g := h4 q hq
          dsimp only at g
          rw [g, cnt_off hto]
          simp only [ht, true_and]
        · refine ih (upd a i (nI t), upd b i (nI p), upd d t (vp_nar .boolean 1), y2.2) ⟨va_up T i t, va_up P i p, RunS_add h1 ht hto hp htp hc1 (fun q hq w1 => hl q hq ((hlf q (by omega)).mpr w1)), fun j hj => ?_, fun u hu2 => ?_, ?_⟩
          · show upd a i (nI t) j = _ ∧ upd b i (nI p) j = _
            by_cases ej : j = i
            · subst ej; rw [pk_us, pk_us, va_up_self, va_up_self]; exact ⟨rfl, rfl⟩
            · rw [pk_un ej, pk_un ej, va_up_ne _ _ ej, va_up_ne _ _ ej]; exact h2 j (by omega)
          · show upd d t (vp_nar .boolean 1) u = _
            rw [offB_add]
            unfold offU
            by_cases eu : u = t
            · subst eu; rw [pk_us]; simp; rfl
            · rw [pk_un eu]
              have : (t == u) = false := by simp; omega
              rw [this, Bool.false_or]
              exact h3 u hu2
          · rw [offB_add]; exact hy2
  · rintro o (⟨s, rfl, T, P, h1, h2⟩ | ⟨s, rfl, e0, T, P, i, hi, h1, h2, h3⟩)
    · exact OK_some ⟨T, P, n, h1, h2, Or.inl ⟨rfl, rfl⟩⟩
    · exact OK_some ⟨T, P, i, h1, h2, Or.inr ⟨e0, hi, h3⟩⟩
