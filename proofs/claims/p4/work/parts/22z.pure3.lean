theorem pu_dbl {mo : Int32} {n : Nat} (h : ¬ mo < nI (2 * n)) (h2 : mo ≤ 4096) (hn : n ≤ 4096) : 2 * n ≤ 4096 := by
  have h3 := Int32.le_trans (Int32.not_lt.mp h) h2
  exact (nI_leI (b := 4096) (by omega) (by decide)).mp h3
