/-! ===== the reference's contents, exact ===== -/
def slC (vCt : Nat → Int64) (s : Nat) : Nat → Int64 := fun i => vCt (1000 * s + i)
theorem slC_s {vCt : Nat → Int64} {s n : Nat} {t : Int64} : AG n (slC (vp_updL vCt (1000 * s + n) t) s) (slC vCt s) := fun i hi => pk_uLn (by omega)
theorem slC_at {vCt : Nat → Int64} {s n : Nat} {t : Int64} : slC (vp_updL vCt (1000 * s + n) t) s n = t := pk_uLs
theorem slC_o {vCt : Nat → Int64} {s q n : Nat} (hq : q ≠ s) (hn : n < 1000) {t : Int64} : AG 1000 (slC (vp_updL vCt (1000 * s + n) t) q) (slC vCt q) := fun i hi => pk_uLn (by omega)
theorem cB_push {vCt : Nat → Int64} {s n : Nat} {x t : Int64} : cB (n + 1) (slC (vp_updL vCt (1000 * s + n) x) s) t = cB n (slC vCt s) t + if x = t then 1 else 0 := by
  rw [cB_s, slC_at, cB_ext slC_s]
theorem times_x {vC : Nat → Int32} {s n : Nat} (hs : s < 30) (hn : n ≤ 1000) (en : vC s = nI n) (vCt : Nat → Int64) (t : Int64) : OK (mX9_timesIn vCt vC (nI s) t) (fun z => z = nI (cB n (slC vCt s) t)) := by
  unfold mX9_timesIn
  refine OK_bind (P := fun o => o.2 = nI (cB n (slC vCt s) t)) ?_ (fun o ho => OK_some ho)
  refine OK_for (fun fu k (x : Int32) => mX9_timesIn_L6 vCt vC (nI s) t fu k x) n (by omega) (fun k x => x = nI (cB k (slC vCt s) t)) _ (s := 0) rfl ?_ ?_
  · intro fu x h
    show OK (mX9_timesIn_L6 vCt vC (nI s) t (fu + 1) (nI n) x) _
    rw [mX9_timesIn_L6, clN (k := s) (by omega), en]
    exact OK_T (ix_nI hs) (OK_T (Int32.le_refl _) (OK_some h))
  · intro fu k x hk h ih
    show OK (mX9_timesIn_L6 vCt vC (nI s) t (fu + 1) (nI k) x) _
    subst h
    rw [mX9_timesIn_L6, clN (k := s) (by omega), en, m1000, nI_s, clN (k := 1000 * s + k) (by omega)]
    refine OK_T (ix_nI hs) (OK_F (nI_ge hk (by omega)) (OK_T (ix_nI (by omega)) (OK_ite (fun q => ih _ ?_) (fun q => ih _ ?_))))
    · rw [nI_s, cB_y (show slC vCt s k = t from (lg_cmp_eq _ _).mp q)]
    · rw [Int32.add_zero, cB_n (show ¬ slC vCt s k = t from fun w => q ((lg_cmp_eq _ _).mpr w))]
/-- what a put does to the reference's contents -/
def PuR (vC : Nat → Int32) (vCt : Nat → Int64) (s : Nat) (t : Int64) (x : Int32) (vCt1 : Nat → Int64) (vC1 : Nat → Int32) : Prop := (x < 0 ∧ vCt1 = vCt ∧ vC1 = vC) ∨ ∃ n, n < 1000 ∧ vC s = nI n ∧ x = nI (n + 1) ∧ vCt1 = vp_updL vCt (1000 * s + n) t ∧ vC1 = upd vC s (nI (n + 1))
theorem doPut_x {vK vZ vM vC vR vL : Nat → Int32} {s : Nat} (hs : s < 30) (h : RS vK vZ vM vC vR vL s) (h2 : vK s ≤ 2) (vS : Nat → Int32) (vCt : Nat → Int64) (row kept : Nat → Int32) (t : Int64) : OK (mX9_doPut vK vZ vM vS vCt vC row kept (nI s) t) (fun z => PuR vC vCt s t z.1 z.2.1 z.2.2.1 ∧ (¬ vK s = 2 → (z.1 < 0 ↔ vC s = 1000))) := by
  obtain ⟨z, hz, -⟩ := doPut_ok hs h h2 vS vCt row kept t
  obtain ⟨n, hn, en⟩ := RS_cm h
  refine ⟨z, hz, ?_⟩
  have i30 := ix_nI (k := s) (n := 30) hs
  have hz2 := hz
  unfold mX9_doPut at hz2
  rw [clN (k := s) (by omega), if_pos i30] at hz2
  by_cases hf : vC s = 1000
  · rw [if_pos hf] at hz2
    cases Option.some.inj hz2
    exact ⟨Or.inl ⟨show (-4 : Int32) < 0 by decide, rfl, rfl⟩, fun _ => ⟨fun _ => hf, fun _ => show (-4 : Int32) < 0 by decide⟩⟩
  · have hn1 : n < 1000 := by
      have : n ≠ 1000 := fun q => hf (by rw [en, q]; rfl)
      omega
    have i3 : ix (nI s * (1000 : Int32) + vC s) 30000 = true := by rw [en, m1000]; exact ix_nI (by omega)
    have nneg : ¬ nI (n + 1) < 0 := nI_pos (by omega)
    have fin : ∀ (r1 r2 : Nat → Int32), some z = some (((upd vC s (vC s + (1 : Int32))) s), (vp_updL vCt (Int32.toNatClampNeg (nI s * (1000 : Int32) + vC s)) t), (upd vC s (vC s + (1 : Int32))), r1, r2) → PuR vC vCt s t z.1 z.2.1 z.2.2.1 ∧ (¬ vK s = 2 → (z.1 < 0 ↔ vC s = 1000)) := by
      intro r1 r2 e
      cases Option.some.inj e
      have e1 : upd vC s (vC s + (1 : Int32)) s = nI (n + 1) := by rw [ups, en, nI_1]
      refine ⟨Or.inr ⟨n, hn1, en, e1, ?_, ?_⟩, fun _ => ⟨fun q => absurd (e1 ▸ q) nneg, fun q => absurd q hf⟩⟩
      · show vp_updL vCt (Int32.toNatClampNeg (nI s * (1000 : Int32) + vC s)) t = _
        rw [en, m1000, clN (by omega)]
      · show upd vC s (vC s + (1 : Int32)) = _
        rw [en, nI_1]
    rw [if_neg hf, if_pos i30] at hz2
    by_cases hk : vK s = 2
    · rw [if_pos hk] at hz2
      obtain ⟨o, -, hz2⟩ := bind_some hz2
      obtain ⟨o2, -, hz2⟩ := bind_some hz2
      by_cases q : o2.1 = 0
      · rw [if_pos q] at hz2
        obtain ⟨o3, -, hz2⟩ := bind_some hz2
        cases Option.some.inj hz2
        exact ⟨Or.inl ⟨show (-3 : Int32) < 0 by decide, rfl, rfl⟩, fun w => absurd hk w⟩
      · rw [if_neg q, if_pos i30, if_pos i3, if_pos i30, if_pos i30, if_pos i30] at hz2
        exact fin _ _ hz2.symm
    · rw [if_neg hk, if_pos i30] at hz2
      obtain ⟨o, -, hz2⟩ := bind_some hz2
      rw [if_pos i30] at hz2
      by_cases hk0 : vK s = 0
      · rw [if_pos hk0] at hz2
        obtain ⟨o2, -, hz2⟩ := bind_some hz2
        rw [if_pos i30, if_pos i3, if_pos i30, if_pos i30, if_pos i30] at hz2
        exact fin _ _ hz2.symm
      · rw [if_neg hk0] at hz2
        obtain ⟨o2, -, hz2⟩ := bind_some hz2
        rw [if_pos i30, if_pos i3, if_pos i30, if_pos i30, if_pos i30] at hz2
        exact fin _ _ hz2.symm
