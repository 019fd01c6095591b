theorem pu_64 {i : Int32} {b : Nat} (h0 : ¬ i < 0) (h1 : ¬ nI b ≤ i) (hb : b ≤ 4096) : vp_in (i / 64) 64 := by
  obtain ⟨j, hj, rfl⟩ := pu_of h0 h1 (by omega)
  rw [show nI j / 64 = nI (j / 64) from pk_div (d := 64) (by omega) (by decide) (by decide)]
  exact vp_in_nI (by omega) (by decide)
theorem pu_max (b : Nat) (h : b < 2 ^ 31) : (if (0 : Int32) < nI b then nI b else 0) = nI b := by
  by_cases hb : b = 0
  · subst hb; rfl
  · exact if_pos (nI_lt (a := 0) (by omega) h)
theorem pu_min (b : Nat) (h : b ≤ 4096) : (if (4096 : Int32) < nI b then 4096 else nI b) = nI b := if_neg (fun q => absurd ((nI_ltI (a := 4096) (by decide) (by omega)).mp q) (by omega))
